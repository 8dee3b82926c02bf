def zwL (cI cF : ClassId) (h_t h_p h_p_pixels h_d h_d_pixels h_s h_s_file h_s_file_bytes h_fm h_c h_c_table h_m h_b h_b_colours h_k h_r h_r_now h_r_file h_r_fresh h_r_colour h_r_table h_r_last h_r_one : Nat) (p_wide : Int32) (p_high : Int32) (p_pixels : Nat → Int32) (d_wide : Int32) (d_high : Int32) (d_pixels : Nat → Int32) (s_place : Int32) (s_file_size : Int32) (s_file_bytes : Nat → Int32) (c_last : Int32) (c_table : Nat → Int32) (m_inDigits : Int32) (m_greatest : Int32) (b_known : Int32) (b_depth : Int32) (b_packing : Int32) (b_isUpward : Int32) (b_column : Int32) (b_up : Int32) (b_colours : Nat → Int32) (k_depth : Int32) (k_left : Int32) (k_isRepeated : Int32) (k_held : Int32) (r_wide : Int32) (r_high : Int32) (r_size : Int32) (r_at : Int32) (r_fault : Int32) (r_newWide : Int32) (r_newHigh : Int32) (r_colours : Int32) (r_now : Nat → Int32) (r_file : Nat → Int32) (r_fresh : Nat → Int32) (r_colour : Nat → Int32) (r_table : Nat → Int32) (r_last : Nat → Int32) (r_one : Nat → Int32) : va_W := [(h_t, .inr (7, [.ref h_p, .ref h_d, .ref h_s_file, .ref h_s, .ref h_fm])), (h_p, .inr (4, [.ref h_p_pixels, .int p_wide, .int p_high])), (h_p_pixels, .inl (cI, 64, .inl p_pixels)), (h_d, .inr (4, [.ref h_d_pixels, .int d_wide, .int d_high])), (h_d_pixels, .inl (cI, 64, .inl d_pixels)), (h_s, .inr (6, [.ref h_s_file, .int s_place])), (h_s_file, .inr (2, [.ref h_s_file_bytes, .int s_file_size])), (h_s_file_bytes, .inl (cI, 800, .inl s_file_bytes)), (h_fm, .inl (cF, 4, .inr (.inr (.inr (.inr (zfm h_c h_m h_b h_k)))))), (h_c, .inr (1, [.ref h_c_table, .int c_last])), (h_c_table, .inl (cI, 64, .inl c_table)), (h_m, .inr (5, [.int m_inDigits, .int m_greatest])), (h_b, .inr (0, [.ref h_b_colours, .int b_known, .int b_depth, .int b_packing, .int b_isUpward, .int b_column, .int b_up])), (h_b_colours, .inl (cI, 64, .inl b_colours)), (h_k, .inr (3, [.int k_depth, .int k_left, .int k_isRepeated, .int k_held])), (h_r, .inr (8, [.int r_wide, .int r_high, .ref h_r_now, .int r_size, .ref h_r_file, .int r_at, .int r_fault, .int r_newWide, .int r_newHigh, .ref h_r_fresh, .int r_colours, .ref h_r_colour, .ref h_r_table, .ref h_r_last, .ref h_r_one])), (h_r_now, .inl (cI, 256, .inl r_now)), (h_r_file, .inl (cI, 800, .inl r_file)), (h_r_fresh, .inl (cI, 256, .inl r_fresh)), (h_r_colour, .inl (cI, 256, .inl r_colour)), (h_r_table, .inl (cI, 256, .inl r_table)), (h_r_last, .inl (cI, 4, .inl r_last)), (h_r_one, .inl (cI, 4, .inl r_one))]
def fL_law_436 (rc18 : (Nat → Int32) → Nat → Int32 → Int32 → (Nat → Int32) → Int32 → Int32 → (Nat → Int32) → Int32 → Int32 → (Nat → Int32) → Int32 → (Nat → Int32) → Int32 → Int32 → Int32 → Int32 → Int32 → Int32 → Int32 → Int32 → (Nat → Int32) → Int32 → Int32 → Int32 → Int32 → Int32 → Int32 → Int32 → Int32 → Int32 → Int32 → Int32 → Int32 → (Nat → Int32) → (Nat → Int32) → (Nat → Int32) → (Nat → Int32) → (Nat → Int32) → (Nat → Int32) → (Nat → Int32) → Nat → Int32 → Option Int32) (xs : Nat → Int32) (L : Nat) (p_wide : Int32) (p_high : Int32) (p_pixels : Nat → Int32) (d_wide : Int32) (d_high : Int32) (d_pixels : Nat → Int32) (s_place : Int32) (s_file_size : Int32) (s_file_bytes : Nat → Int32) (c_last : Int32) (c_table : Nat → Int32) (m_inDigits : Int32) (m_greatest : Int32) (b_known : Int32) (b_depth : Int32) (b_packing : Int32) (b_isUpward : Int32) (b_column : Int32) (b_up : Int32) (b_colours : Nat → Int32) (k_depth : Int32) (k_left : Int32) (k_isRepeated : Int32) (k_held : Int32) (r_wide : Int32) (r_high : Int32) (r_size : Int32) (r_at : Int32) (r_fault : Int32) (r_newWide : Int32) (r_newHigh : Int32) (r_colours : Int32) (r_now : Nat → Int32) (r_file : Nat → Int32) (r_fresh : Nat → Int32) (r_colour : Nat → Int32) (r_table : Nat → Int32) (r_last : Nat → Int32) (r_one : Nat → Int32) (kc : Nat) (l3 : Int32) : Option Int32 :=
  zlet (l3 + 4) fun x1 =>
  rc18 xs L p_wide p_high p_pixels d_wide d_high d_pixels s_place s_file_size s_file_bytes c_last c_table m_inDigits m_greatest b_known b_depth b_packing b_isUpward b_column b_up b_colours k_depth k_left k_isRepeated k_held r_wide r_high r_size r_at r_fault r_newWide r_newHigh r_colours r_now r_file r_fresh r_colour r_table r_last r_one kc x1
def fL_law_18 : Nat → (Nat → Int32) → Nat → Int32 → Int32 → (Nat → Int32) → Int32 → Int32 → (Nat → Int32) → Int32 → Int32 → (Nat → Int32) → Int32 → (Nat → Int32) → Int32 → Int32 → Int32 → Int32 → Int32 → Int32 → Int32 → Int32 → (Nat → Int32) → Int32 → Int32 → Int32 → Int32 → Int32 → Int32 → Int32 → Int32 → Int32 → Int32 → Int32 → Int32 → (Nat → Int32) → (Nat → Int32) → (Nat → Int32) → (Nat → Int32) → (Nat → Int32) → (Nat → Int32) → (Nat → Int32) → Nat → Int32 → Option Int32
  | 0, _, _, _, _, _, _, _, _, _, _, _, _, _, _, _, _, _, _, _, _, _, _, _, _, _, _, _, _, _, _, _, _, _, _, _, _, _, _, _, _, _, _, _ => none
  | n + 1, xs, L, p_wide, p_high, p_pixels, d_wide, d_high, d_pixels, s_place, s_file_size, s_file_bytes, c_last, c_table, m_inDigits, m_greatest, b_known, b_depth, b_packing, b_isUpward, b_column, b_up, b_colours, k_depth, k_left, k_isRepeated, k_held, r_wide, r_high, r_size, r_at, r_fault, r_newWide, r_newHigh, r_colours, r_now, r_file, r_fresh, r_colour, r_table, r_last, r_one, kc, l3 =>
    if ((Int32.ofNat L) - 4) < l3 then
      some 1
    else
      zrd xs L l3 fun x2 =>
      zlet (x2 &&& 15) fun x4 =>
      if x4 = 0 then
        zrd xs L (l3 + 1) fun x6 =>
        zrd xs L (l3 + 2) fun x8 =>
        zb4 (fX8_make p_wide p_high p_pixels x6 x8) fun r10 u11 u12 u13 =>
        zrd xs L (l3 + 1) fun x15 =>
        zrd xs L (l3 + 2) fun x17 =>
        zb4 (fX9_make r_wide r_high r_now x15 x17) fun r19 u20 u21 u22 =>
        if r10 = r19 then
          fL_law_436 (fL_law_18 n) xs L u11 u12 u13 d_wide d_high d_pixels s_place s_file_size s_file_bytes c_last c_table m_inDigits m_greatest b_known b_depth b_packing b_isUpward b_column b_up b_colours k_depth k_left k_isRepeated k_held u20 u21 r_size r_at r_fault r_newWide r_newHigh r_colours u22 r_file r_fresh r_colour r_table r_last r_one kc l3
        else
          some 0
      else
        if x4 = 1 then
          zrd xs L (l3 + 1) fun x26 =>
          zrd xs L (l3 + 2) fun x28 =>
          zrd xs L (l3 + 3) fun x30 =>
          zb2 (fX8_put p_wide p_high p_pixels x26 x28 x30) fun r32 u33 =>
          zrd xs L (l3 + 1) fun x35 =>
          zrd xs L (l3 + 2) fun x37 =>
          zrd xs L (l3 + 3) fun x39 =>
          zb2 (fX9_put r_wide r_high r_now x35 x37 x39) fun r41 u42 =>
          if r32 = r41 then
            fL_law_436 (fL_law_18 n) xs L p_wide p_high u33 d_wide d_high d_pixels s_place s_file_size s_file_bytes c_last c_table m_inDigits m_greatest b_known b_depth b_packing b_isUpward b_column b_up b_colours k_depth k_left k_isRepeated k_held r_wide r_high r_size r_at r_fault r_newWide r_newHigh r_colours u42 r_file r_fresh r_colour r_table r_last r_one kc l3
          else
            some 0
        else
          if x4 = 2 then
            zrd xs L (l3 + 1) fun x46 =>
            zrd xs L (l3 + 2) fun x48 =>
            zb1 (fX8_pixel p_wide p_high p_pixels x46 x48) fun r50 =>
            zrd xs L (l3 + 1) fun x52 =>
            zrd xs L (l3 + 2) fun x54 =>
            zb1 (fX9_pixel r_wide r_high r_now x52 x54) fun r56 =>
            if r50 = r56 then
              fL_law_436 (fL_law_18 n) xs L p_wide p_high p_pixels d_wide d_high d_pixels s_place s_file_size s_file_bytes c_last c_table m_inDigits m_greatest b_known b_depth b_packing b_isUpward b_column b_up b_colours k_depth k_left k_isRepeated k_held r_wide r_high r_size r_at r_fault r_newWide r_newHigh r_colours r_now r_file r_fresh r_colour r_table r_last r_one kc l3
            else
              some 0
          else
            if x4 = 3 then
              zb1 (fX8_width p_wide) fun r60 =>
              zb1 (fX9_width r_wide) fun r62 =>
              if r60 = r62 then
                fL_law_436 (fL_law_18 n) xs L p_wide p_high p_pixels d_wide d_high d_pixels s_place s_file_size s_file_bytes c_last c_table m_inDigits m_greatest b_known b_depth b_packing b_isUpward b_column b_up b_colours k_depth k_left k_isRepeated k_held r_wide r_high r_size r_at r_fault r_newWide r_newHigh r_colours r_now r_file r_fresh r_colour r_table r_last r_one kc l3
              else
                some 0
            else
              if x4 = 4 then
                zb1 (fX8_height p_high) fun r66 =>
                zb1 (fX9_height r_high) fun r68 =>
                if r66 = r68 then
                  fL_law_436 (fL_law_18 n) xs L p_wide p_high p_pixels d_wide d_high d_pixels s_place s_file_size s_file_bytes c_last c_table m_inDigits m_greatest b_known b_depth b_packing b_isUpward b_column b_up b_colours k_depth k_left k_isRepeated k_held r_wide r_high r_size r_at r_fault r_newWide r_newHigh r_colours r_now r_file r_fresh r_colour r_table r_last r_one kc l3
                else
                  some 0
              else
                if x4 = 5 then
                  zrd xs L (l3 + 1) fun x72 =>
                  zb7 (fX8_change p_wide p_high p_pixels d_wide d_high d_pixels x72) fun r74 u75 u76 u77 u78 u79 u80 =>
                  zrd xs L (l3 + 1) fun x82 =>
                  zb5 (fX9_change r_wide r_high r_now r_fresh x82) fun r84 u85 u86 u87 u88 =>
                  if r74 = r84 then
                    fL_law_436 (fL_law_18 n) xs L u75 u76 u77 u78 u79 u80 s_place s_file_size s_file_bytes c_last c_table m_inDigits m_greatest b_known b_depth b_packing b_isUpward b_column b_up b_colours k_depth k_left k_isRepeated k_held u85 u86 r_size r_at r_fault r_newWide r_newHigh r_colours u87 r_file u88 r_colour r_table r_last r_one kc l3
                  else
                    some 0
                else
                  if x4 = 6 then
                    zrd xs L (l3 + 1) fun x92 =>
                    zb3 (fX8_feed s_file_size s_file_bytes x92) fun r94 u95 u96 =>
                    zrd xs L (l3 + 1) fun x98 =>
                    zb3 (fX9_feed r_size r_file x98) fun r100 u101 u102 =>
                    if r94 = r100 then
                      fL_law_436 (fL_law_18 n) xs L p_wide p_high p_pixels d_wide d_high d_pixels s_place u95 u96 c_last c_table m_inDigits m_greatest b_known b_depth b_packing b_isUpward b_column b_up b_colours k_depth k_left k_isRepeated k_held r_wide r_high u101 r_at r_fault r_newWide r_newHigh r_colours r_now u102 r_fresh r_colour r_table r_last r_one kc l3
                    else
                      some 0
                  else
                    if x4 = 7 then
                      zrd xs L (l3 + 1) fun x106 =>
                      zb2 (fX8_cut s_file_size x106) fun r108 u109 =>
                      zrd xs L (l3 + 1) fun x111 =>
                      zb2 (fX9_cut r_size x111) fun r113 u114 =>
                      if r108 = r113 then
                        fL_law_436 (fL_law_18 n) xs L p_wide p_high p_pixels d_wide d_high d_pixels s_place u109 s_file_bytes c_last c_table m_inDigits m_greatest b_known b_depth b_packing b_isUpward b_column b_up b_colours k_depth k_left k_isRepeated k_held r_wide r_high u114 r_at r_fault r_newWide r_newHigh r_colours r_now r_file r_fresh r_colour r_table r_last r_one kc l3
                      else
                        some 0
                    else
                      if x4 = 8 then
                        zrd xs L (l3 + 1) fun x118 =>
                        zrd xs L (l3 + 2) fun x120 =>
                        zb2 (fX8_alter s_file_size s_file_bytes x118 x120) fun r122 u123 =>
                        zrd xs L (l3 + 1) fun x125 =>
                        zrd xs L (l3 + 2) fun x127 =>
                        zb2 (fX9_alter r_size r_file x125 x127) fun r129 u130 =>
                        if r122 = r129 then
                          fL_law_436 (fL_law_18 n) xs L p_wide p_high p_pixels d_wide d_high d_pixels s_place s_file_size u123 c_last c_table m_inDigits m_greatest b_known b_depth b_packing b_isUpward b_column b_up b_colours k_depth k_left k_isRepeated k_held r_wide r_high r_size r_at r_fault r_newWide r_newHigh r_colours r_now u130 r_fresh r_colour r_table r_last r_one kc l3
                        else
                          some 0
                      else
                        if x4 = 9 then
                          zb1 (fX8_length s_file_size) fun r134 =>
                          zb1 (fX9_length r_size) fun r136 =>
                          if r134 = r136 then
                            fL_law_436 (fL_law_18 n) xs L p_wide p_high p_pixels d_wide d_high d_pixels s_place s_file_size s_file_bytes c_last c_table m_inDigits m_greatest b_known b_depth b_packing b_isUpward b_column b_up b_colours k_depth k_left k_isRepeated k_held r_wide r_high r_size r_at r_fault r_newWide r_newHigh r_colours r_now r_file r_fresh r_colour r_table r_last r_one kc l3
                          else
                            some 0
                        else
                          if x4 = 10 then
                            zrd xs L (l3 + 1) fun x140 =>
                            zb1 (fX8_byteAt s_file_size s_file_bytes x140) fun r142 =>
                            zrd xs L (l3 + 1) fun x144 =>
                            zb1 (fX9_byteAt r_size r_file x144) fun r146 =>
                            if r142 = r146 then
                              fL_law_436 (fL_law_18 n) xs L p_wide p_high p_pixels d_wide d_high d_pixels s_place s_file_size s_file_bytes c_last c_table m_inDigits m_greatest b_known b_depth b_packing b_isUpward b_column b_up b_colours k_depth k_left k_isRepeated k_held r_wide r_high r_size r_at r_fault r_newWide r_newHigh r_colours r_now r_file r_fresh r_colour r_table r_last r_one kc l3
                            else
                              some 0
                          else
                            if x4 = 11 then
                              zb1 (fX8_sniff s_file_size s_file_bytes) fun r150 =>
                              zb1 (fX9_sniff r_size r_file) fun r152 =>
                              if r150 = r152 then
                                fL_law_436 (fL_law_18 n) xs L p_wide p_high p_pixels d_wide d_high d_pixels s_place s_file_size s_file_bytes c_last c_table m_inDigits m_greatest b_known b_depth b_packing b_isUpward b_column b_up b_colours k_depth k_left k_isRepeated k_held r_wide r_high r_size r_at r_fault r_newWide r_newHigh r_colours r_now r_file r_fresh r_colour r_table r_last r_one kc l3
                              else
                                some 0
                            else
                              if x4 = 12 then
                                zrd xs L (l3 + 1) fun x156 =>
                                zrd xs L (l3 + 2) fun x158 =>
                                zb8 (fX8_encode p_wide p_high p_pixels s_file_size s_file_bytes c_last c_table b_known b_colours k_depth x156 x158) fun r160 u161 u162 u163 u164 u165 u166 u167 =>
                                zrd xs L (l3 + 1) fun x169 =>
                                zrd xs L (l3 + 2) fun x171 =>
                                zb5 (fX9_encode r_wide r_high r_size r_now r_file r_table r_last x169 x171) fun r173 u174 u175 u176 u177 =>
                                if r160 = r173 then
                                  fL_law_436 (fL_law_18 n) xs L p_wide p_high p_pixels d_wide d_high d_pixels s_place u161 u162 u163 u164 m_inDigits m_greatest u165 b_depth b_packing b_isUpward b_column b_up u166 u167 k_left k_isRepeated k_held r_wide r_high u174 r_at r_fault r_newWide r_newHigh r_colours r_now u175 r_fresh r_colour u176 u177 r_one kc l3
                                else
                                  some 0
                              else
                                if x4 = 13 then
                                  zb24 (fX8_decode p_wide p_high p_pixels d_wide d_high d_pixels s_place s_file_size s_file_bytes c_last c_table m_inDigits m_greatest b_known b_depth b_packing b_isUpward b_column b_up b_colours k_depth k_left k_isRepeated k_held) fun tg181 r182 u183 u184 u185 u186 u187 u188 u189 u190 u191 u192 u193 u194 u195 u196 u197 u198 u199 u200 u201 u202 u203 u204 =>
                                  zkc kc <|
                                  zb14 (fX9_decode r_wide r_high r_size r_at r_fault r_newWide r_newHigh r_colours r_now r_file r_fresh r_colour r_table r_last r_one) fun r206 u207 u208 u209 u210 u211 u212 u213 u214 u215 u216 u217 u218 u219 =>
                                  if r182 = r206 then
                                    fL_law_436 (fL_law_18 n) xs L u183 u184 u185 u186 u187 u188 u189 s_file_size s_file_bytes u190 u191 u192 u193 u194 u195 u196 u197 u198 u199 u200 u201 u202 u203 u204 u207 u208 r_size u209 u210 u211 u212 u213 u214 r_file u215 u216 u217 u218 u219 (kc + 1) l3
                                  else
                                    some 0
                                else
                                  fL_law_436 (fL_law_18 n) xs L p_wide p_high p_pixels d_wide d_high d_pixels s_place s_file_size s_file_bytes c_last c_table m_inDigits m_greatest b_known b_depth b_packing b_isUpward b_column b_up b_colours k_depth k_left k_isRepeated k_held r_wide r_high r_size r_at r_fault r_newWide r_newHigh r_colours r_now r_file r_fresh r_colour r_table r_last r_one kc l3
theorem fL_law_18_s (n : Nat) (xs : Nat → Int32) (L : Nat) (p_wide : Int32) (p_high : Int32) (p_pixels : Nat → Int32) (d_wide : Int32) (d_high : Int32) (d_pixels : Nat → Int32) (s_place : Int32) (s_file_size : Int32) (s_file_bytes : Nat → Int32) (c_last : Int32) (c_table : Nat → Int32) (m_inDigits : Int32) (m_greatest : Int32) (b_known : Int32) (b_depth : Int32) (b_packing : Int32) (b_isUpward : Int32) (b_column : Int32) (b_up : Int32) (b_colours : Nat → Int32) (k_depth : Int32) (k_left : Int32) (k_isRepeated : Int32) (k_held : Int32) (r_wide : Int32) (r_high : Int32) (r_size : Int32) (r_at : Int32) (r_fault : Int32) (r_newWide : Int32) (r_newHigh : Int32) (r_colours : Int32) (r_now : Nat → Int32) (r_file : Nat → Int32) (r_fresh : Nat → Int32) (r_colour : Nat → Int32) (r_table : Nat → Int32) (r_last : Nat → Int32) (r_one : Nat → Int32) (kc : Nat) (l3 : Int32) : fL_law_18 (n + 1) xs L p_wide p_high p_pixels d_wide d_high d_pixels s_place s_file_size s_file_bytes c_last c_table m_inDigits m_greatest b_known b_depth b_packing b_isUpward b_column b_up b_colours k_depth k_left k_isRepeated k_held r_wide r_high r_size r_at r_fault r_newWide r_newHigh r_colours r_now r_file r_fresh r_colour r_table r_last r_one kc l3 =
    if ((Int32.ofNat L) - 4) < l3 then
      some 1
    else
      zrd xs L l3 fun x2 =>
      zlet (x2 &&& 15) fun x4 =>
      if x4 = 0 then
        zrd xs L (l3 + 1) fun x6 =>
        zrd xs L (l3 + 2) fun x8 =>
        zb4 (fX8_make p_wide p_high p_pixels x6 x8) fun r10 u11 u12 u13 =>
        zrd xs L (l3 + 1) fun x15 =>
        zrd xs L (l3 + 2) fun x17 =>
        zb4 (fX9_make r_wide r_high r_now x15 x17) fun r19 u20 u21 u22 =>
        if r10 = r19 then
          fL_law_436 (fL_law_18 n) xs L u11 u12 u13 d_wide d_high d_pixels s_place s_file_size s_file_bytes c_last c_table m_inDigits m_greatest b_known b_depth b_packing b_isUpward b_column b_up b_colours k_depth k_left k_isRepeated k_held u20 u21 r_size r_at r_fault r_newWide r_newHigh r_colours u22 r_file r_fresh r_colour r_table r_last r_one kc l3
        else
          some 0
      else
        if x4 = 1 then
          zrd xs L (l3 + 1) fun x26 =>
          zrd xs L (l3 + 2) fun x28 =>
          zrd xs L (l3 + 3) fun x30 =>
          zb2 (fX8_put p_wide p_high p_pixels x26 x28 x30) fun r32 u33 =>
          zrd xs L (l3 + 1) fun x35 =>
          zrd xs L (l3 + 2) fun x37 =>
          zrd xs L (l3 + 3) fun x39 =>
          zb2 (fX9_put r_wide r_high r_now x35 x37 x39) fun r41 u42 =>
          if r32 = r41 then
            fL_law_436 (fL_law_18 n) xs L p_wide p_high u33 d_wide d_high d_pixels s_place s_file_size s_file_bytes c_last c_table m_inDigits m_greatest b_known b_depth b_packing b_isUpward b_column b_up b_colours k_depth k_left k_isRepeated k_held r_wide r_high r_size r_at r_fault r_newWide r_newHigh r_colours u42 r_file r_fresh r_colour r_table r_last r_one kc l3
          else
            some 0
        else
          if x4 = 2 then
            zrd xs L (l3 + 1) fun x46 =>
            zrd xs L (l3 + 2) fun x48 =>
            zb1 (fX8_pixel p_wide p_high p_pixels x46 x48) fun r50 =>
            zrd xs L (l3 + 1) fun x52 =>
            zrd xs L (l3 + 2) fun x54 =>
            zb1 (fX9_pixel r_wide r_high r_now x52 x54) fun r56 =>
            if r50 = r56 then
              fL_law_436 (fL_law_18 n) xs L p_wide p_high p_pixels d_wide d_high d_pixels s_place s_file_size s_file_bytes c_last c_table m_inDigits m_greatest b_known b_depth b_packing b_isUpward b_column b_up b_colours k_depth k_left k_isRepeated k_held r_wide r_high r_size r_at r_fault r_newWide r_newHigh r_colours r_now r_file r_fresh r_colour r_table r_last r_one kc l3
            else
              some 0
          else
            if x4 = 3 then
              zb1 (fX8_width p_wide) fun r60 =>
              zb1 (fX9_width r_wide) fun r62 =>
              if r60 = r62 then
                fL_law_436 (fL_law_18 n) xs L p_wide p_high p_pixels d_wide d_high d_pixels s_place s_file_size s_file_bytes c_last c_table m_inDigits m_greatest b_known b_depth b_packing b_isUpward b_column b_up b_colours k_depth k_left k_isRepeated k_held r_wide r_high r_size r_at r_fault r_newWide r_newHigh r_colours r_now r_file r_fresh r_colour r_table r_last r_one kc l3
              else
                some 0
            else
              if x4 = 4 then
                zb1 (fX8_height p_high) fun r66 =>
                zb1 (fX9_height r_high) fun r68 =>
                if r66 = r68 then
                  fL_law_436 (fL_law_18 n) xs L p_wide p_high p_pixels d_wide d_high d_pixels s_place s_file_size s_file_bytes c_last c_table m_inDigits m_greatest b_known b_depth b_packing b_isUpward b_column b_up b_colours k_depth k_left k_isRepeated k_held r_wide r_high r_size r_at r_fault r_newWide r_newHigh r_colours r_now r_file r_fresh r_colour r_table r_last r_one kc l3
                else
                  some 0
              else
                if x4 = 5 then
                  zrd xs L (l3 + 1) fun x72 =>
                  zb7 (fX8_change p_wide p_high p_pixels d_wide d_high d_pixels x72) fun r74 u75 u76 u77 u78 u79 u80 =>
                  zrd xs L (l3 + 1) fun x82 =>
                  zb5 (fX9_change r_wide r_high r_now r_fresh x82) fun r84 u85 u86 u87 u88 =>
                  if r74 = r84 then
                    fL_law_436 (fL_law_18 n) xs L u75 u76 u77 u78 u79 u80 s_place s_file_size s_file_bytes c_last c_table m_inDigits m_greatest b_known b_depth b_packing b_isUpward b_column b_up b_colours k_depth k_left k_isRepeated k_held u85 u86 r_size r_at r_fault r_newWide r_newHigh r_colours u87 r_file u88 r_colour r_table r_last r_one kc l3
                  else
                    some 0
                else
                  if x4 = 6 then
                    zrd xs L (l3 + 1) fun x92 =>
                    zb3 (fX8_feed s_file_size s_file_bytes x92) fun r94 u95 u96 =>
                    zrd xs L (l3 + 1) fun x98 =>
                    zb3 (fX9_feed r_size r_file x98) fun r100 u101 u102 =>
                    if r94 = r100 then
                      fL_law_436 (fL_law_18 n) xs L p_wide p_high p_pixels d_wide d_high d_pixels s_place u95 u96 c_last c_table m_inDigits m_greatest b_known b_depth b_packing b_isUpward b_column b_up b_colours k_depth k_left k_isRepeated k_held r_wide r_high u101 r_at r_fault r_newWide r_newHigh r_colours r_now u102 r_fresh r_colour r_table r_last r_one kc l3
                    else
                      some 0
                  else
                    if x4 = 7 then
                      zrd xs L (l3 + 1) fun x106 =>
                      zb2 (fX8_cut s_file_size x106) fun r108 u109 =>
                      zrd xs L (l3 + 1) fun x111 =>
                      zb2 (fX9_cut r_size x111) fun r113 u114 =>
                      if r108 = r113 then
                        fL_law_436 (fL_law_18 n) xs L p_wide p_high p_pixels d_wide d_high d_pixels s_place u109 s_file_bytes c_last c_table m_inDigits m_greatest b_known b_depth b_packing b_isUpward b_column b_up b_colours k_depth k_left k_isRepeated k_held r_wide r_high u114 r_at r_fault r_newWide r_newHigh r_colours r_now r_file r_fresh r_colour r_table r_last r_one kc l3
                      else
                        some 0
                    else
                      if x4 = 8 then
                        zrd xs L (l3 + 1) fun x118 =>
                        zrd xs L (l3 + 2) fun x120 =>
                        zb2 (fX8_alter s_file_size s_file_bytes x118 x120) fun r122 u123 =>
                        zrd xs L (l3 + 1) fun x125 =>
                        zrd xs L (l3 + 2) fun x127 =>
                        zb2 (fX9_alter r_size r_file x125 x127) fun r129 u130 =>
                        if r122 = r129 then
                          fL_law_436 (fL_law_18 n) xs L p_wide p_high p_pixels d_wide d_high d_pixels s_place s_file_size u123 c_last c_table m_inDigits m_greatest b_known b_depth b_packing b_isUpward b_column b_up b_colours k_depth k_left k_isRepeated k_held r_wide r_high r_size r_at r_fault r_newWide r_newHigh r_colours r_now u130 r_fresh r_colour r_table r_last r_one kc l3
                        else
                          some 0
                      else
                        if x4 = 9 then
                          zb1 (fX8_length s_file_size) fun r134 =>
                          zb1 (fX9_length r_size) fun r136 =>
                          if r134 = r136 then
                            fL_law_436 (fL_law_18 n) xs L p_wide p_high p_pixels d_wide d_high d_pixels s_place s_file_size s_file_bytes c_last c_table m_inDigits m_greatest b_known b_depth b_packing b_isUpward b_column b_up b_colours k_depth k_left k_isRepeated k_held r_wide r_high r_size r_at r_fault r_newWide r_newHigh r_colours r_now r_file r_fresh r_colour r_table r_last r_one kc l3
                          else
                            some 0
                        else
                          if x4 = 10 then
                            zrd xs L (l3 + 1) fun x140 =>
                            zb1 (fX8_byteAt s_file_size s_file_bytes x140) fun r142 =>
                            zrd xs L (l3 + 1) fun x144 =>
                            zb1 (fX9_byteAt r_size r_file x144) fun r146 =>
                            if r142 = r146 then
                              fL_law_436 (fL_law_18 n) xs L p_wide p_high p_pixels d_wide d_high d_pixels s_place s_file_size s_file_bytes c_last c_table m_inDigits m_greatest b_known b_depth b_packing b_isUpward b_column b_up b_colours k_depth k_left k_isRepeated k_held r_wide r_high r_size r_at r_fault r_newWide r_newHigh r_colours r_now r_file r_fresh r_colour r_table r_last r_one kc l3
                            else
                              some 0
                          else
                            if x4 = 11 then
                              zb1 (fX8_sniff s_file_size s_file_bytes) fun r150 =>
                              zb1 (fX9_sniff r_size r_file) fun r152 =>
                              if r150 = r152 then
                                fL_law_436 (fL_law_18 n) xs L p_wide p_high p_pixels d_wide d_high d_pixels s_place s_file_size s_file_bytes c_last c_table m_inDigits m_greatest b_known b_depth b_packing b_isUpward b_column b_up b_colours k_depth k_left k_isRepeated k_held r_wide r_high r_size r_at r_fault r_newWide r_newHigh r_colours r_now r_file r_fresh r_colour r_table r_last r_one kc l3
                              else
                                some 0
                            else
                              if x4 = 12 then
                                zrd xs L (l3 + 1) fun x156 =>
                                zrd xs L (l3 + 2) fun x158 =>
                                zb8 (fX8_encode p_wide p_high p_pixels s_file_size s_file_bytes c_last c_table b_known b_colours k_depth x156 x158) fun r160 u161 u162 u163 u164 u165 u166 u167 =>
                                zrd xs L (l3 + 1) fun x169 =>
                                zrd xs L (l3 + 2) fun x171 =>
                                zb5 (fX9_encode r_wide r_high r_size r_now r_file r_table r_last x169 x171) fun r173 u174 u175 u176 u177 =>
                                if r160 = r173 then
                                  fL_law_436 (fL_law_18 n) xs L p_wide p_high p_pixels d_wide d_high d_pixels s_place u161 u162 u163 u164 m_inDigits m_greatest u165 b_depth b_packing b_isUpward b_column b_up u166 u167 k_left k_isRepeated k_held r_wide r_high u174 r_at r_fault r_newWide r_newHigh r_colours r_now u175 r_fresh r_colour u176 u177 r_one kc l3
                                else
                                  some 0
                              else
                                if x4 = 13 then
                                  zb24 (fX8_decode p_wide p_high p_pixels d_wide d_high d_pixels s_place s_file_size s_file_bytes c_last c_table m_inDigits m_greatest b_known b_depth b_packing b_isUpward b_column b_up b_colours k_depth k_left k_isRepeated k_held) fun tg181 r182 u183 u184 u185 u186 u187 u188 u189 u190 u191 u192 u193 u194 u195 u196 u197 u198 u199 u200 u201 u202 u203 u204 =>
                                  zkc kc <|
                                  zb14 (fX9_decode r_wide r_high r_size r_at r_fault r_newWide r_newHigh r_colours r_now r_file r_fresh r_colour r_table r_last r_one) fun r206 u207 u208 u209 u210 u211 u212 u213 u214 u215 u216 u217 u218 u219 =>
                                  if r182 = r206 then
                                    fL_law_436 (fL_law_18 n) xs L u183 u184 u185 u186 u187 u188 u189 s_file_size s_file_bytes u190 u191 u192 u193 u194 u195 u196 u197 u198 u199 u200 u201 u202 u203 u204 u207 u208 r_size u209 u210 u211 u212 u213 u214 r_file u215 u216 u217 u218 u219 (kc + 1) l3
                                  else
                                    some 0
                                else
                                  fL_law_436 (fL_law_18 n) xs L p_wide p_high p_pixels d_wide d_high d_pixels s_place s_file_size s_file_bytes c_last c_table m_inDigits m_greatest b_known b_depth b_packing b_isUpward b_column b_up b_colours k_depth k_left k_isRepeated k_held r_wide r_high r_size r_at r_fault r_newWide r_newHigh r_colours r_now r_file r_fresh r_colour r_table r_last r_one kc l3 := rfl
theorem qL_law_X8_alter_50 {args : Array Value} {s : State} (hts : ∀ w ∈ lw_tbl, w.before args s = true) : CallW room_1 s args RL RX8 50 yX8_alter cX8_alter 3 (some .boolean) wsX8_alter rmX8_alter 0 0 2 := cwV 2 hts zLX8_alter rfl rfl rfl (by decide +kernel) ⟨Nat.le_of_ble_eq_true rfl, Nat.le_of_ble_eq_true rfl⟩
theorem qL_law_X8_byteAt_58 {args : Array Value} {s : State} (hts : ∀ w ∈ lw_tbl, w.before args s = true) : CallW room_1 s args RL RX8 58 yX8_byteAt cX8_byteAt 2 (some .int) wsX8_byteAt rmX8_byteAt 0 0 1 := cwV 1 hts zLX8_byteAt rfl rfl rfl (by decide +kernel) ⟨Nat.le_of_ble_eq_true rfl, Nat.le_of_ble_eq_true rfl⟩
theorem qL_law_X8_change_37 {args : Array Value} {s : State} (hts : ∀ w ∈ lw_tbl, w.before args s = true) : CallW room_1 s args RL RX8 37 yX8_change cX8_change 2 (some .boolean) wsX8_change rmX8_change 0 0 1 := cwV 1 hts zLX8_change rfl rfl rfl (by decide +kernel) ⟨Nat.le_of_ble_eq_true rfl, Nat.le_of_ble_eq_true rfl⟩
theorem qL_law_X8_cut_46 {args : Array Value} {s : State} (hts : ∀ w ∈ lw_tbl, w.before args s = true) : CallW room_1 s args RL RX8 46 yX8_cut cX8_cut 2 (some .boolean) wsX8_cut rmX8_cut 0 0 1 := cwV 1 hts zLX8_cut rfl rfl rfl (by decide +kernel) ⟨Nat.le_of_ble_eq_true rfl, Nat.le_of_ble_eq_true rfl⟩
theorem qL_law_X8_decode_71 {args : Array Value} {s : State} {tg : Nat} (hts : ∀ w ∈ lw_tbl, w.before args s = true) : vx_CVW room_1 s args RL RX8 71 yX8_decode cX8_decode 3 (some .int) [(20, 37, 40, 138), (20, 37, 44, 140)] wsX8_decode (rmX8_decode tg) (zc tg) (zs tg) 0 := vx_cwVW 0 hts zLX8_decode rfl rfl rfl (by decide +kernel) ⟨Nat.le_of_ble_eq_true rfl, Nat.le_of_ble_eq_true rfl⟩
theorem qL_law_X8_encode_67 {args : Array Value} {s : State} (hts : ∀ w ∈ lw_tbl, w.before args s = true) : CallW room_1 s args RL RX8 67 yX8_encode cX8_encode 3 (some .int) wsX8_encode rmX8_encode 0 0 2 := cwV 2 hts zLX8_encode rfl rfl rfl (by decide +kernel) ⟨Nat.le_of_ble_eq_true rfl, Nat.le_of_ble_eq_true rfl⟩
theorem qL_law_X8_feed_42 {args : Array Value} {s : State} (hts : ∀ w ∈ lw_tbl, w.before args s = true) : CallW room_1 s args RL RX8 42 yX8_feed cX8_feed 2 (some .boolean) wsX8_feed rmX8_feed 0 0 1 := cwV 1 hts zLX8_feed rfl rfl rfl (by decide +kernel) ⟨Nat.le_of_ble_eq_true rfl, Nat.le_of_ble_eq_true rfl⟩
theorem qL_law_X8_height_33 {args : Array Value} {s : State} (hts : ∀ w ∈ lw_tbl, w.before args s = true) : CallW room_1 s args RL RX8 33 yX8_height cX8_height 1 (some .int) wsX8_height rmX8_height 0 0 0 := cwV 0 hts zLX8_height rfl rfl rfl (by decide +kernel) ⟨Nat.le_of_ble_eq_true rfl, Nat.le_of_ble_eq_true rfl⟩
theorem qL_law_X8_length_54 {args : Array Value} {s : State} (hts : ∀ w ∈ lw_tbl, w.before args s = true) : CallW room_1 s args RL RX8 54 yX8_length cX8_length 1 (some .int) wsX8_length rmX8_length 0 0 0 := cwV 0 hts zLX8_length rfl rfl rfl (by decide +kernel) ⟨Nat.le_of_ble_eq_true rfl, Nat.le_of_ble_eq_true rfl⟩
theorem qL_law_X8_make_13 {args : Array Value} {s : State} (hts : ∀ w ∈ lw_tbl, w.before args s = true) : CallW room_1 s args RL RX8 13 yX8_make cX8_make 3 (some .boolean) wsX8_make rmX8_make 0 0 2 := cwV 2 hts zLX8_make rfl rfl rfl (by decide +kernel) ⟨Nat.le_of_ble_eq_true rfl, Nat.le_of_ble_eq_true rfl⟩
theorem qL_law_X8_pixel_23 {args : Array Value} {s : State} (hts : ∀ w ∈ lw_tbl, w.before args s = true) : CallW room_1 s args RL RX8 23 yX8_pixel cX8_pixel 3 (some .int) wsX8_pixel rmX8_pixel 0 0 2 := cwV 2 hts zLX8_pixel rfl rfl rfl (by decide +kernel) ⟨Nat.le_of_ble_eq_true rfl, Nat.le_of_ble_eq_true rfl⟩
theorem qL_law_X8_put_18 {args : Array Value} {s : State} (hts : ∀ w ∈ lw_tbl, w.before args s = true) : CallW room_1 s args RL RX8 18 yX8_put cX8_put 4 (some .boolean) wsX8_put rmX8_put 0 0 3 := cwV 3 hts zLX8_put rfl rfl rfl (by decide +kernel) ⟨Nat.le_of_ble_eq_true rfl, Nat.le_of_ble_eq_true rfl⟩
theorem qL_law_X8_sniff_63 {args : Array Value} {s : State} (hts : ∀ w ∈ lw_tbl, w.before args s = true) : CallW room_1 s args RL RX8 63 yX8_sniff cX8_sniff 2 (some .int) wsX8_sniff rmX8_sniff 0 0 0 := cwV 0 hts zLX8_sniff rfl rfl rfl (by decide +kernel) ⟨Nat.le_of_ble_eq_true rfl, Nat.le_of_ble_eq_true rfl⟩
theorem qL_law_X8_width_28 {args : Array Value} {s : State} (hts : ∀ w ∈ lw_tbl, w.before args s = true) : CallW room_1 s args RL RX8 28 yX8_width cX8_width 1 (some .int) wsX8_width rmX8_width 0 0 0 := cwV 0 hts zLX8_width rfl rfl rfl (by decide +kernel) ⟨Nat.le_of_ble_eq_true rfl, Nat.le_of_ble_eq_true rfl⟩
theorem qL_law_X9_alter_53 {args : Array Value} {s : State} (hts : ∀ w ∈ lw_tbl, w.before args s = true) : CallW room_1 s args RL RX9 53 yX9_alter cX9_alter 3 (some .boolean) wsX9_alter rmX9_alter 0 0 2 := cwV 2 hts zLX9_alter rfl rfl rfl (by decide +kernel) ⟨Nat.le_of_ble_eq_true rfl, Nat.le_of_ble_eq_true rfl⟩
theorem qL_law_X9_byteAt_62 {args : Array Value} {s : State} (hts : ∀ w ∈ lw_tbl, w.before args s = true) : CallW room_1 s args RL RX9 62 yX9_byteAt cX9_byteAt 2 (some .int) wsX9_byteAt rmX9_byteAt 0 0 1 := cwV 1 hts zLX9_byteAt rfl rfl rfl (by decide +kernel) ⟨Nat.le_of_ble_eq_true rfl, Nat.le_of_ble_eq_true rfl⟩
theorem qL_law_X9_change_41 {args : Array Value} {s : State} (hts : ∀ w ∈ lw_tbl, w.before args s = true) : CallW room_1 s args RL RX9 41 yX9_change cX9_change 9 (some .boolean) wsX9_change rmX9_change 0 0 1 := cwV 1 hts zLX9_change rfl rfl rfl (by decide +kernel) ⟨Nat.le_of_ble_eq_true rfl, Nat.le_of_ble_eq_true rfl⟩
theorem qL_law_X9_cut_49 {args : Array Value} {s : State} (hts : ∀ w ∈ lw_tbl, w.before args s = true) : CallW room_1 s args RL RX9 49 yX9_cut cX9_cut 2 (some .boolean) wsX9_cut rmX9_cut 0 0 1 := cwV 1 hts zLX9_cut rfl rfl rfl (by decide +kernel) ⟨Nat.le_of_ble_eq_true rfl, Nat.le_of_ble_eq_true rfl⟩
theorem qL_law_X9_decode_74 {args : Array Value} {s : State} (hts : ∀ w ∈ lw_tbl, w.before args s = true) : CallW room_1 s args RL RX9 74 yX9_decode cX9_decode 2 (some .int) wsX9_decode rmX9_decode 0 0 0 := cwV 0 hts zLX9_decode rfl rfl rfl (by decide +kernel) ⟨Nat.le_of_ble_eq_true rfl, Nat.le_of_ble_eq_true rfl⟩
theorem qL_law_X9_encode_70 {args : Array Value} {s : State} (hts : ∀ w ∈ lw_tbl, w.before args s = true) : CallW room_1 s args RL RX9 70 yX9_encode cX9_encode 4 (some .int) wsX9_encode rmX9_encode 0 0 2 := cwV 2 hts zLX9_encode rfl rfl rfl (by decide +kernel) ⟨Nat.le_of_ble_eq_true rfl, Nat.le_of_ble_eq_true rfl⟩
theorem qL_law_X9_feed_45 {args : Array Value} {s : State} (hts : ∀ w ∈ lw_tbl, w.before args s = true) : CallW room_1 s args RL RX9 45 yX9_feed cX9_feed 2 (some .boolean) wsX9_feed rmX9_feed 0 0 1 := cwV 1 hts zLX9_feed rfl rfl rfl (by decide +kernel) ⟨Nat.le_of_ble_eq_true rfl, Nat.le_of_ble_eq_true rfl⟩
theorem qL_law_X9_height_36 {args : Array Value} {s : State} (hts : ∀ w ∈ lw_tbl, w.before args s = true) : CallW room_1 s args RL RX9 36 yX9_height cX9_height 1 (some .int) wsX9_height rmX9_height 0 0 0 := cwV 0 hts zLX9_height rfl rfl rfl (by decide +kernel) ⟨Nat.le_of_ble_eq_true rfl, Nat.le_of_ble_eq_true rfl⟩
theorem qL_law_X9_length_57 {args : Array Value} {s : State} (hts : ∀ w ∈ lw_tbl, w.before args s = true) : CallW room_1 s args RL RX9 57 yX9_length cX9_length 1 (some .int) wsX9_length rmX9_length 0 0 0 := cwV 0 hts zLX9_length rfl rfl rfl (by decide +kernel) ⟨Nat.le_of_ble_eq_true rfl, Nat.le_of_ble_eq_true rfl⟩
theorem qL_law_X9_make_17 {args : Array Value} {s : State} (hts : ∀ w ∈ lw_tbl, w.before args s = true) : CallW room_1 s args RL RX9 17 yX9_make cX9_make 4 (some .boolean) wsX9_make rmX9_make 0 0 2 := cwV 2 hts zLX9_make rfl rfl rfl (by decide +kernel) ⟨Nat.le_of_ble_eq_true rfl, Nat.le_of_ble_eq_true rfl⟩
theorem qL_law_X9_pixel_27 {args : Array Value} {s : State} (hts : ∀ w ∈ lw_tbl, w.before args s = true) : CallW room_1 s args RL RX9 27 yX9_pixel cX9_pixel 5 (some .int) wsX9_pixel rmX9_pixel 0 0 2 := cwV 2 hts zLX9_pixel rfl rfl rfl (by decide +kernel) ⟨Nat.le_of_ble_eq_true rfl, Nat.le_of_ble_eq_true rfl⟩
theorem qL_law_X9_put_22 {args : Array Value} {s : State} (hts : ∀ w ∈ lw_tbl, w.before args s = true) : CallW room_1 s args RL RX9 22 yX9_put cX9_put 5 (some .boolean) wsX9_put rmX9_put 0 0 3 := cwV 3 hts zLX9_put rfl rfl rfl (by decide +kernel) ⟨Nat.le_of_ble_eq_true rfl, Nat.le_of_ble_eq_true rfl⟩
theorem qL_law_X9_sniff_66 {args : Array Value} {s : State} (hts : ∀ w ∈ lw_tbl, w.before args s = true) : CallW room_1 s args RL RX9 66 yX9_sniff cX9_sniff 3 (some .int) wsX9_sniff rmX9_sniff 0 0 0 := cwV 0 hts zLX9_sniff rfl rfl rfl (by decide +kernel) ⟨Nat.le_of_ble_eq_true rfl, Nat.le_of_ble_eq_true rfl⟩
theorem qL_law_X9_width_32 {args : Array Value} {s : State} (hts : ∀ w ∈ lw_tbl, w.before args s = true) : CallW room_1 s args RL RX9 32 yX9_width cX9_width 1 (some .int) wsX9_width rmX9_width 0 0 0 := cwV 0 hts zLX9_width rfl rfl rfl (by decide +kernel) ⟨Nat.le_of_ble_eq_true rfl, Nat.le_of_ble_eq_true rfl⟩
set_option maxHeartbeats 8000000 in
set_option maxRecDepth 100000 in
theorem wL_law_436 {p : Program} {l : Launch} {e : Env} {s : State} {m : MethodId} {args : Array Value} {below : List Frame} {meth : Method} {c : Code} {D : va_G} {A : Nat → Prop} {Q : State → Prop} {cI cF : ClassId} {b h_t h_p h_p_pixels h_d h_d_pixels h_s h_s_file h_s_file_bytes h_fm h_c h_c_table h_m h_b h_b_colours h_k h_r h_r_now h_r_file h_r_fresh h_r_colour h_r_table h_r_last h_r_one : Nat} {xs : Nat → Int32} {L : Nat} {r0 : Int32} (C : CallFix p m c cL_law 4 s args lw_tbl RL) (hN : zN s) (hK2 : va_K D vwCl [(cI, .int), (cF, .object RX3)] s) (hA : ∀ q, s.heap.size ≤ q → A q) (hT : zTh A s) (hst : l.stackTraces = false) (hNc : va_Nc "java/lang/IllegalArgumentException" "java/lang/IllegalStateException" s) (hX : va_X b L xs s s.heap) (hbl : b < s.heap.size) (hbA : ¬ A b) (hE : ∀ (H : Heap) (locs : List Loc) (pc : Nat) (ls : Array Slot) (kc : Nat), decode cL_law pc = .ok (.ireturn, 1) → va_S A s.heap H locs → kc ≤ 512 → W p l e room_1 s m args below meth c H locs (23 + kc) (2937 + 6 * kc) Q (F0 m pc ls [.int r0])) {rc18 : (Nat → Int32) → Nat → Int32 → Int32 → (Nat → Int32) → Int32 → Int32 → (Nat → Int32) → Int32 → Int32 → (Nat → Int32) → Int32 → (Nat → Int32) → Int32 → Int32 → Int32 → Int32 → Int32 → Int32 → Int32 → Int32 → (Nat → Int32) → Int32 → Int32 → Int32 → Int32 → Int32 → Int32 → Int32 → Int32 → Int32 → Int32 → Int32 → Int32 → (Nat → Int32) → (Nat → Int32) → (Nat → Int32) → (Nat → Int32) → (Nat → Int32) → (Nat → Int32) → (Nat → Int32) → Nat → Int32 → Option Int32} (hr_18 : ∀ {p_wide : Int32} {p_high : Int32} {p_pixels : Nat → Int32} {d_wide : Int32} {d_high : Int32} {d_pixels : Nat → Int32} {s_place : Int32} {s_file_size : Int32} {s_file_bytes : Nat → Int32} {c_last : Int32} {c_table : Nat → Int32} {m_inDigits : Int32} {m_greatest : Int32} {b_known : Int32} {b_depth : Int32} {b_packing : Int32} {b_isUpward : Int32} {b_column : Int32} {b_up : Int32} {b_colours : Nat → Int32} {k_depth : Int32} {k_left : Int32} {k_isRepeated : Int32} {k_held : Int32} {r_wide : Int32} {r_high : Int32} {r_size : Int32} {r_at : Int32} {r_fault : Int32} {r_newWide : Int32} {r_newHigh : Int32} {r_colours : Int32} {r_now : Nat → Int32} {r_file : Nat → Int32} {r_fresh : Nat → Int32} {r_colour : Nat → Int32} {r_table : Nat → Int32} {r_last : Nat → Int32} {r_one : Nat → Int32} {kc : Nat} {l3 : Int32} {H : Heap} {locs : List Loc} {ls : Array Slot}, rc18 xs L p_wide p_high p_pixels d_wide d_high d_pixels s_place s_file_size s_file_bytes c_last c_table m_inDigits m_greatest b_known b_depth b_packing b_isUpward b_column b_up b_colours k_depth k_left k_isRepeated k_held r_wide r_high r_size r_at r_fault r_newWide r_newHigh r_colours r_now r_file r_fresh r_colour r_table r_last r_one kc l3 = some r0 → kc ≤ 512 → va_P D vwCl (zwL cI cF h_t h_p h_p_pixels h_d h_d_pixels h_s h_s_file h_s_file_bytes h_fm h_c h_c_table h_m h_b h_b_colours h_k h_r h_r_now h_r_file h_r_fresh h_r_colour h_r_table h_r_last h_r_one p_wide p_high p_pixels d_wide d_high d_pixels s_place s_file_size s_file_bytes c_last c_table m_inDigits m_greatest b_known b_depth b_packing b_isUpward b_column b_up b_colours k_depth k_left k_isRepeated k_held r_wide r_high r_size r_at r_fault r_newWide r_newHigh r_colours r_now r_file r_fresh r_colour r_table r_last r_one) H → va_D A (zwL cI cF h_t h_p h_p_pixels h_d h_d_pixels h_s h_s_file h_s_file_bytes h_fm h_c h_c_table h_m h_b h_b_colours h_k h_r h_r_now h_r_file h_r_fresh h_r_colour h_r_table h_r_last h_r_one p_wide p_high p_pixels d_wide d_high d_pixels s_place s_file_size s_file_bytes c_last c_table m_inDigits m_greatest b_known b_depth b_packing b_isUpward b_column b_up b_colours k_depth k_left k_isRepeated k_held r_wide r_high r_size r_at r_fault r_newWide r_newHigh r_colours r_now r_file r_fresh r_colour r_table r_last r_one) → va_S A s.heap H locs → lv_has ls 4 [(0, .ref b), (1, .ref h_t), (2, .ref h_r), (3, .int l3)] → W p l e room_1 s m args below meth c H locs (23 + kc) (2937 + 6 * kc) Q (F0 m 18 ls [])) {p_wide : Int32} {p_high : Int32} {p_pixels : Nat → Int32} {d_wide : Int32} {d_high : Int32} {d_pixels : Nat → Int32} {s_place : Int32} {s_file_size : Int32} {s_file_bytes : Nat → Int32} {c_last : Int32} {c_table : Nat → Int32} {m_inDigits : Int32} {m_greatest : Int32} {b_known : Int32} {b_depth : Int32} {b_packing : Int32} {b_isUpward : Int32} {b_column : Int32} {b_up : Int32} {b_colours : Nat → Int32} {k_depth : Int32} {k_left : Int32} {k_isRepeated : Int32} {k_held : Int32} {r_wide : Int32} {r_high : Int32} {r_size : Int32} {r_at : Int32} {r_fault : Int32} {r_newWide : Int32} {r_newHigh : Int32} {r_colours : Int32} {r_now : Nat → Int32} {r_file : Nat → Int32} {r_fresh : Nat → Int32} {r_colour : Nat → Int32} {r_table : Nat → Int32} {r_last : Nat → Int32} {r_one : Nat → Int32} {kc : Nat} {l3 : Int32} {H : Heap} {locs : List Loc} {ls : Array Slot} : fL_law_436 rc18 xs L p_wide p_high p_pixels d_wide d_high d_pixels s_place s_file_size s_file_bytes c_last c_table m_inDigits m_greatest b_known b_depth b_packing b_isUpward b_column b_up b_colours k_depth k_left k_isRepeated k_held r_wide r_high r_size r_at r_fault r_newWide r_newHigh r_colours r_now r_file r_fresh r_colour r_table r_last r_one kc l3 = some r0 → kc ≤ 512 → va_P D vwCl (zwL cI cF h_t h_p h_p_pixels h_d h_d_pixels h_s h_s_file h_s_file_bytes h_fm h_c h_c_table h_m h_b h_b_colours h_k h_r h_r_now h_r_file h_r_fresh h_r_colour h_r_table h_r_last h_r_one p_wide p_high p_pixels d_wide d_high d_pixels s_place s_file_size s_file_bytes c_last c_table m_inDigits m_greatest b_known b_depth b_packing b_isUpward b_column b_up b_colours k_depth k_left k_isRepeated k_held r_wide r_high r_size r_at r_fault r_newWide r_newHigh r_colours r_now r_file r_fresh r_colour r_table r_last r_one) H → va_D A (zwL cI cF h_t h_p h_p_pixels h_d h_d_pixels h_s h_s_file h_s_file_bytes h_fm h_c h_c_table h_m h_b h_b_colours h_k h_r h_r_now h_r_file h_r_fresh h_r_colour h_r_table h_r_last h_r_one p_wide p_high p_pixels d_wide d_high d_pixels s_place s_file_size s_file_bytes c_last c_table m_inDigits m_greatest b_known b_depth b_packing b_isUpward b_column b_up b_colours k_depth k_left k_isRepeated k_held r_wide r_high r_size r_at r_fault r_newWide r_newHigh r_colours r_now r_file r_fresh r_colour r_table r_last r_one) → va_S A s.heap H locs → lv_has ls 4 [(0, .ref b), (1, .ref h_t), (2, .ref h_r), (3, .int l3)] → W p l e room_1 s m args below meth c H locs (23 + kc) (2937 + 6 * kc) Q (F0 m 436 ls []) := by
  intro hf hk hP hD hS hl
  obtain ⟨hx, hb, hml, hown, hts⟩ := id C
  have hK := hK2.sub (tys' := [(cI, .int)]) [0] rfl
  unfold fL_law_436 at hf
  obtain ⟨x1, ex1⟩ : ∃ y : Int32, y = l3 + 4 := ⟨_, rfl⟩
  replace hf := zlet_in hf ex1
  refine lv_iinc (v := x1) (lv' := [(3, .int x1), (0, .ref b), (1, .ref h_t), (2, .ref h_r)]) hx hb dL_law_436 hl (k := 3) rfl (by rw [ex1]; rfl) (by decide) rfl (fun ls hl => ?_)
  clear ex1
  refine lv_goto (tgt := 18) hx hb dL_law_439 (by decide) ?_
  exact hr_18 hf hk hP hD hS (lv_sub hl [1, 2, 3, 0] rfl)
set_option maxHeartbeats 16000000 in
set_option maxRecDepth 100000 in
theorem wL_law_18 {p : Program} {l : Launch} {e : Env} {s : State} {m : MethodId} {args : Array Value} {below : List Frame} {meth : Method} {c : Code} {D : va_G} {A : Nat → Prop} {Q : State → Prop} {cI cF : ClassId} {b h_t h_p h_p_pixels h_d h_d_pixels h_s h_s_file h_s_file_bytes h_fm h_c h_c_table h_m h_b h_b_colours h_k h_r h_r_now h_r_file h_r_fresh h_r_colour h_r_table h_r_last h_r_one : Nat} {xs : Nat → Int32} {L : Nat} {r0 : Int32} (C : CallFix p m c cL_law 4 s args lw_tbl RL) (hN : zN s) (hK2 : va_K D vwCl [(cI, .int), (cF, .object RX3)] s) (hA : ∀ q, s.heap.size ≤ q → A q) (hT : zTh A s) (hst : l.stackTraces = false) (hNc : va_Nc "java/lang/IllegalArgumentException" "java/lang/IllegalStateException" s) (hX : va_X b L xs s s.heap) (hbl : b < s.heap.size) (hbA : ¬ A b) (hE : ∀ (H : Heap) (locs : List Loc) (pc : Nat) (ls : Array Slot) (kc : Nat), decode cL_law pc = .ok (.ireturn, 1) → va_S A s.heap H locs → kc ≤ 512 → W p l e room_1 s m args below meth c H locs (23 + kc) (2937 + 6 * kc) Q (F0 m pc ls [.int r0])) (n : Nat) : ∀ {p_wide : Int32} {p_high : Int32} {p_pixels : Nat → Int32} {d_wide : Int32} {d_high : Int32} {d_pixels : Nat → Int32} {s_place : Int32} {s_file_size : Int32} {s_file_bytes : Nat → Int32} {c_last : Int32} {c_table : Nat → Int32} {m_inDigits : Int32} {m_greatest : Int32} {b_known : Int32} {b_depth : Int32} {b_packing : Int32} {b_isUpward : Int32} {b_column : Int32} {b_up : Int32} {b_colours : Nat → Int32} {k_depth : Int32} {k_left : Int32} {k_isRepeated : Int32} {k_held : Int32} {r_wide : Int32} {r_high : Int32} {r_size : Int32} {r_at : Int32} {r_fault : Int32} {r_newWide : Int32} {r_newHigh : Int32} {r_colours : Int32} {r_now : Nat → Int32} {r_file : Nat → Int32} {r_fresh : Nat → Int32} {r_colour : Nat → Int32} {r_table : Nat → Int32} {r_last : Nat → Int32} {r_one : Nat → Int32} {kc : Nat} {l3 : Int32} {H : Heap} {locs : List Loc} {ls : Array Slot}, fL_law_18 n xs L p_wide p_high p_pixels d_wide d_high d_pixels s_place s_file_size s_file_bytes c_last c_table m_inDigits m_greatest b_known b_depth b_packing b_isUpward b_column b_up b_colours k_depth k_left k_isRepeated k_held r_wide r_high r_size r_at r_fault r_newWide r_newHigh r_colours r_now r_file r_fresh r_colour r_table r_last r_one kc l3 = some r0 → kc ≤ 512 → va_P D vwCl (zwL cI cF h_t h_p h_p_pixels h_d h_d_pixels h_s h_s_file h_s_file_bytes h_fm h_c h_c_table h_m h_b h_b_colours h_k h_r h_r_now h_r_file h_r_fresh h_r_colour h_r_table h_r_last h_r_one p_wide p_high p_pixels d_wide d_high d_pixels s_place s_file_size s_file_bytes c_last c_table m_inDigits m_greatest b_known b_depth b_packing b_isUpward b_column b_up b_colours k_depth k_left k_isRepeated k_held r_wide r_high r_size r_at r_fault r_newWide r_newHigh r_colours r_now r_file r_fresh r_colour r_table r_last r_one) H → va_D A (zwL cI cF h_t h_p h_p_pixels h_d h_d_pixels h_s h_s_file h_s_file_bytes h_fm h_c h_c_table h_m h_b h_b_colours h_k h_r h_r_now h_r_file h_r_fresh h_r_colour h_r_table h_r_last h_r_one p_wide p_high p_pixels d_wide d_high d_pixels s_place s_file_size s_file_bytes c_last c_table m_inDigits m_greatest b_known b_depth b_packing b_isUpward b_column b_up b_colours k_depth k_left k_isRepeated k_held r_wide r_high r_size r_at r_fault r_newWide r_newHigh r_colours r_now r_file r_fresh r_colour r_table r_last r_one) → va_S A s.heap H locs → lv_has ls 4 [(0, .ref b), (1, .ref h_t), (2, .ref h_r), (3, .int l3)] → W p l e room_1 s m args below meth c H locs (23 + kc) (2937 + 6 * kc) Q (F0 m 18 ls []) := by
  obtain ⟨hx, hb, hml, hown, hts⟩ := id C
  have hK := hK2.sub (tys' := [(cI, .int)]) [0] rfl
  induction n with
  | zero =>
    intro p_wide p_high p_pixels d_wide d_high d_pixels s_place s_file_size s_file_bytes c_last c_table m_inDigits m_greatest b_known b_depth b_packing b_isUpward b_column b_up b_colours k_depth k_left k_isRepeated k_held r_wide r_high r_size r_at r_fault r_newWide r_newHigh r_colours r_now r_file r_fresh r_colour r_table r_last r_one kc l3 H locs ls hf
    cases hf
  | succ n hr_18 =>
    intro p_wide p_high p_pixels d_wide d_high d_pixels s_place s_file_size s_file_bytes c_last c_table m_inDigits m_greatest b_known b_depth b_packing b_isUpward b_column b_up b_colours k_depth k_left k_isRepeated k_held r_wide r_high r_size r_at r_fault r_newWide r_newHigh r_colours r_now r_file r_fresh r_colour r_table r_last r_one kc l3 H locs ls hf hk hP hD hS hl
    rw [fL_law_18_s] at hf
    refine lv_iload_n hx hb dL_law_18 rfl (lv_at hl 3 rfl) ?_
    refine lv_aload_n hx hb dL_law_19 rfl (lv_at hl 0 rfl) ?_
    refine va_slen hx hb hX hbl hbA hS dL_law_20 ?_
    refine lv_iconst (v := 4) hx hb dL_law_21 (by decide) ?_
    refine lv_isub hx hb dL_law_22 ?_
    refine lv_icmp_gt (tgt := 442) hx hb dL_law_23 (by decide) (fun c1 => ?_) (fun c1 => ?_)
    · replace hf := zif_t hf c1
      refine lv_iconst (v := 1) hx hb dL_law_442 (by decide) ?_
      cases hf
      exact hE _ _ _ _ _ dL_law_443 hS hk
    · replace hf := zif_f hf c1
      refine lv_aload_n hx hb dL_law_26 rfl (lv_at hl 0 rfl) ?_
      refine lv_iload_n hx hb dL_law_27 rfl (lv_at hl 3 rfl) ?_
      obtain ⟨hg3, hf⟩ := zrd_in hf
      refine va_sld hx hb hX hbl hbA hS hg3 dL_law_28 ?_
      refine lv_topi (fun x2 ex2 => ?_)
      replace hf := hf x2 ex2
      clear ex2
      refine lv_bipush (v := 15) hx hb dL_law_29 (by decide) ?_
      refine lv_iand hx hb dL_law_31 ?_
      refine lv_topi (fun x4 ex4 => ?_)
      replace hf := zlet_in hf ex4
      clear ex4
      by_cases c5 : x4 = 0
      · replace hf := zif_t hf c5
        refine lv_tableIn (tgt := 104) hx hb dL_law_32 (by rw [c5]; decide) (by rw [c5]; decide) (by rw [c5]; rfl) (by decide) ?_
        refine lv_aload_n hx hb dL_law_104 rfl (lv_at hl 1 rfl) ?_
        refine lv_aload_n hx hb dL_law_105 rfl (lv_at hl 0 rfl) ?_
        refine lv_iload_n hx hb dL_law_106 rfl (lv_at hl 3 rfl) ?_
        refine lv_iconst (v := 1) hx hb dL_law_107 (by decide) ?_
        refine lv_iadd hx hb dL_law_108 ?_
        obtain ⟨hg7, hf⟩ := zrd_in hf
        refine va_sld hx hb hX hbl hbA hS hg7 dL_law_109 ?_
        refine lv_topi (fun x6 ex6 => ?_)
        replace hf := hf x6 ex6
        clear ex6
        refine lv_aload_n hx hb dL_law_110 rfl (lv_at hl 0 rfl) ?_
        refine lv_iload_n hx hb dL_law_111 rfl (lv_at hl 3 rfl) ?_
        refine lv_iconst (v := 2) hx hb dL_law_112 (by decide) ?_
        refine lv_iadd hx hb dL_law_113 ?_
        obtain ⟨hg9, hf⟩ := zrd_in hf
        refine va_sld hx hb hX hbl hbA hS hg9 dL_law_114 ?_
        refine lv_topi (fun x8 ex8 => ?_)
        replace hf := hf x8 ex8
        clear ex8
        obtain ⟨r10, u11, u12, u13, hc14, hf⟩ := zb4_in hf
        refine zc_i (va_runV (As := [.int x6, .int x8]) (rest := []) C (mX8_make l D cI H.size h_t h_d h_s_file h_s h_fm h_p h_p_pixels p_wide p_high p_pixels x6 x8 r10 u11 u12 u13 hc14) (qL_law_X8_make_13 hts) ⟨zP_blind, va_recv hK hP (ci := 7) (q0 := 0) rfl rfl, zpre hK hN hP hD [0, 1, 2] rfl rfl⟩ rfl rfl hl.1 rfl (lv_room (Nat.le_of_ble_eq_true rfl)) dL_law_115 (zroomL hk)) hP hD hS hA [0, 1, 2] [3, 4, 5, 6, 7, 8, 9, 10, 11, 12, 13, 14, 15, 16, 17, 18, 19, 20, 21, 22] [20, 21, 22, 0, 1, 2, 3, 4, 5, 6, 7, 8, 9, 10, 11, 12, 13, 14, 15, 16, 17, 18, 19] (ws' := zwL cI cF h_t h_p h_p_pixels h_d h_d_pixels h_s h_s_file h_s_file_bytes h_fm h_c h_c_table h_m h_b h_b_colours h_k h_r h_r_now h_r_file h_r_fresh h_r_colour h_r_table h_r_last h_r_one u11 u12 u13 d_wide d_high d_pixels s_place s_file_size s_file_bytes c_last c_table m_inDigits m_greatest b_known b_depth b_packing b_isUpward b_column b_up b_colours k_depth k_left k_isRepeated k_held r_wide r_high r_size r_at r_fault r_newWide r_newHigh r_colours r_now r_file r_fresh r_colour r_table r_last r_one) rfl rfl rfl rfl rfl rfl (fun H locs hP hD hS => ?_)
        refine lv_aload_n hx hb dL_law_118 rfl (lv_at hl 2 rfl) ?_
        refine lv_aload_n hx hb dL_law_119 rfl (lv_at hl 0 rfl) ?_
        refine lv_iload_n hx hb dL_law_120 rfl (lv_at hl 3 rfl) ?_
        refine lv_iconst (v := 1) hx hb dL_law_121 (by decide) ?_
        refine lv_iadd hx hb dL_law_122 ?_
        obtain ⟨hg16, hf⟩ := zrd_in hf
        refine va_sld hx hb hX hbl hbA hS hg16 dL_law_123 ?_
        refine lv_topi (fun x15 ex15 => ?_)
        replace hf := hf x15 ex15
        clear ex15
        refine lv_aload_n hx hb dL_law_124 rfl (lv_at hl 0 rfl) ?_
        refine lv_iload_n hx hb dL_law_125 rfl (lv_at hl 3 rfl) ?_
        refine lv_iconst (v := 2) hx hb dL_law_126 (by decide) ?_
        refine lv_iadd hx hb dL_law_127 ?_
        obtain ⟨hg18, hf⟩ := zrd_in hf
        refine va_sld hx hb hX hbl hbA hS hg18 dL_law_128 ?_
        refine lv_topi (fun x17 ex17 => ?_)
        replace hf := hf x17 ex17
        clear ex17
        obtain ⟨r19, u20, u21, u22, hc23, hf⟩ := zb4_in hf
        refine zc_i (va_runV (As := [.int x15, .int x17]) (rest := [.int r10]) C (mX9_make l D cI H.size h_r h_r_now h_r_file h_r_fresh h_r_colour h_r_table h_r_last h_r_one r_wide r_high r_size r_at r_fault r_newWide r_newHigh r_colours r_now r_file r_fresh r_colour r_table r_last r_one x15 x17 r19 u20 u21 u22 hc23) (qL_law_X9_make_17 hts) ⟨zP_blind, va_recv hK hP (ci := 8) (q0 := 15) rfl rfl, zpre hK hN hP hD [15, 16, 17, 18, 19, 20, 21, 22] rfl rfl⟩ rfl rfl hl.1 rfl (lv_room (Nat.le_of_ble_eq_true rfl)) dL_law_129 (zroomL hk)) hP hD hS hA [15, 16, 17, 18, 19, 20, 21, 22] [0, 1, 2, 3, 4, 5, 6, 7, 8, 9, 10, 11, 12, 13, 14] [0, 1, 2, 3, 4, 5, 6, 7, 8, 9, 10, 11, 12, 13, 14, 15, 16, 17, 18, 19, 20, 21, 22] (ws' := zwL cI cF h_t h_p h_p_pixels h_d h_d_pixels h_s h_s_file h_s_file_bytes h_fm h_c h_c_table h_m h_b h_b_colours h_k h_r h_r_now h_r_file h_r_fresh h_r_colour h_r_table h_r_last h_r_one u11 u12 u13 d_wide d_high d_pixels s_place s_file_size s_file_bytes c_last c_table m_inDigits m_greatest b_known b_depth b_packing b_isUpward b_column b_up b_colours k_depth k_left k_isRepeated k_held u20 u21 r_size r_at r_fault r_newWide r_newHigh r_colours u22 r_file r_fresh r_colour r_table r_last r_one) rfl rfl rfl rfl rfl rfl (fun H locs hP hD hS => ?_)
        refine lv_icmp_eq (tgt := 436) hx hb dL_law_132 (by decide) (fun c24 => ?_) (fun c24 => ?_)
        · replace hf := zif_t hf c24
          exact wL_law_436 C hN hK2 hA hT hst hNc hX hbl hbA hE hr_18 hf hk hP hD hS (lv_sub hl [0, 1, 2, 3] rfl)
        · replace hf := zif_f hf c24
          refine lv_iconst (v := 0) hx hb dL_law_135 (by decide) ?_
          cases hf
          exact hE _ _ _ _ _ dL_law_136 hS hk
      replace hf := zif_f hf c5
      by_cases c25 : x4 = 1
      · replace hf := zif_t hf c25
        refine lv_tableIn (tgt := 137) hx hb dL_law_32 (by rw [c25]; decide) (by rw [c25]; decide) (by rw [c25]; rfl) (by decide) ?_
        refine lv_aload_n hx hb dL_law_137 rfl (lv_at hl 1 rfl) ?_
        refine lv_aload_n hx hb dL_law_138 rfl (lv_at hl 0 rfl) ?_
        refine lv_iload_n hx hb dL_law_139 rfl (lv_at hl 3 rfl) ?_
        refine lv_iconst (v := 1) hx hb dL_law_140 (by decide) ?_
        refine lv_iadd hx hb dL_law_141 ?_
        obtain ⟨hg27, hf⟩ := zrd_in hf
        refine va_sld hx hb hX hbl hbA hS hg27 dL_law_142 ?_
        refine lv_topi (fun x26 ex26 => ?_)
        replace hf := hf x26 ex26
        clear ex26
        refine lv_aload_n hx hb dL_law_143 rfl (lv_at hl 0 rfl) ?_
        refine lv_iload_n hx hb dL_law_144 rfl (lv_at hl 3 rfl) ?_
        refine lv_iconst (v := 2) hx hb dL_law_145 (by decide) ?_
        refine lv_iadd hx hb dL_law_146 ?_
        obtain ⟨hg29, hf⟩ := zrd_in hf
        refine va_sld hx hb hX hbl hbA hS hg29 dL_law_147 ?_
        refine lv_topi (fun x28 ex28 => ?_)
        replace hf := hf x28 ex28
        clear ex28
        refine lv_aload_n hx hb dL_law_148 rfl (lv_at hl 0 rfl) ?_
        refine lv_iload_n hx hb dL_law_149 rfl (lv_at hl 3 rfl) ?_
        refine lv_iconst (v := 3) hx hb dL_law_150 (by decide) ?_
        refine lv_iadd hx hb dL_law_151 ?_
        obtain ⟨hg31, hf⟩ := zrd_in hf
        refine va_sld hx hb hX hbl hbA hS hg31 dL_law_152 ?_
        refine lv_topi (fun x30 ex30 => ?_)
        replace hf := hf x30 ex30
        clear ex30
        obtain ⟨r32, u33, hc34, hf⟩ := zb2_in hf
        refine zc_i (va_runV (As := [.int x26, .int x28, .int x30]) (rest := []) C (mX8_put l D cI H.size h_t h_d h_s_file h_s h_fm h_p h_p_pixels p_wide p_high p_pixels x26 x28 x30 r32 u33 hc34) (qL_law_X8_put_18 hts) ⟨zP_blind, va_recv hK hP (ci := 7) (q0 := 0) rfl rfl, zpre hK hN hP hD [0, 1, 2] rfl rfl⟩ rfl rfl hl.1 rfl (lv_room (Nat.le_of_ble_eq_true rfl)) dL_law_153 (zroomL hk)) hP hD hS hA [0, 1, 2] [3, 4, 5, 6, 7, 8, 9, 10, 11, 12, 13, 14, 15, 16, 17, 18, 19, 20, 21, 22] [20, 21, 22, 0, 1, 2, 3, 4, 5, 6, 7, 8, 9, 10, 11, 12, 13, 14, 15, 16, 17, 18, 19] (ws' := zwL cI cF h_t h_p h_p_pixels h_d h_d_pixels h_s h_s_file h_s_file_bytes h_fm h_c h_c_table h_m h_b h_b_colours h_k h_r h_r_now h_r_file h_r_fresh h_r_colour h_r_table h_r_last h_r_one p_wide p_high u33 d_wide d_high d_pixels s_place s_file_size s_file_bytes c_last c_table m_inDigits m_greatest b_known b_depth b_packing b_isUpward b_column b_up b_colours k_depth k_left k_isRepeated k_held r_wide r_high r_size r_at r_fault r_newWide r_newHigh r_colours r_now r_file r_fresh r_colour r_table r_last r_one) rfl rfl rfl rfl rfl rfl (fun H locs hP hD hS => ?_)
        refine lv_aload_n hx hb dL_law_156 rfl (lv_at hl 2 rfl) ?_
        refine lv_aload_n hx hb dL_law_157 rfl (lv_at hl 0 rfl) ?_
        refine lv_iload_n hx hb dL_law_158 rfl (lv_at hl 3 rfl) ?_
        refine lv_iconst (v := 1) hx hb dL_law_159 (by decide) ?_
        refine lv_iadd hx hb dL_law_160 ?_
        obtain ⟨hg36, hf⟩ := zrd_in hf
        refine va_sld hx hb hX hbl hbA hS hg36 dL_law_161 ?_
        refine lv_topi (fun x35 ex35 => ?_)
        replace hf := hf x35 ex35
        clear ex35
        refine lv_aload_n hx hb dL_law_162 rfl (lv_at hl 0 rfl) ?_
        refine lv_iload_n hx hb dL_law_163 rfl (lv_at hl 3 rfl) ?_
        refine lv_iconst (v := 2) hx hb dL_law_164 (by decide) ?_
        refine lv_iadd hx hb dL_law_165 ?_
        obtain ⟨hg38, hf⟩ := zrd_in hf
        refine va_sld hx hb hX hbl hbA hS hg38 dL_law_166 ?_
        refine lv_topi (fun x37 ex37 => ?_)
        replace hf := hf x37 ex37
        clear ex37
        refine lv_aload_n hx hb dL_law_167 rfl (lv_at hl 0 rfl) ?_
        refine lv_iload_n hx hb dL_law_168 rfl (lv_at hl 3 rfl) ?_
        refine lv_iconst (v := 3) hx hb dL_law_169 (by decide) ?_
        refine lv_iadd hx hb dL_law_170 ?_
        obtain ⟨hg40, hf⟩ := zrd_in hf
        refine va_sld hx hb hX hbl hbA hS hg40 dL_law_171 ?_
        refine lv_topi (fun x39 ex39 => ?_)
        replace hf := hf x39 ex39
        clear ex39
        obtain ⟨r41, u42, hc43, hf⟩ := zb2_in hf
        refine zc_i (va_runV (As := [.int x35, .int x37, .int x39]) (rest := [.int r32]) C (mX9_put l D cI H.size h_r h_r_now h_r_file h_r_fresh h_r_colour h_r_table h_r_last h_r_one r_wide r_high r_size r_at r_fault r_newWide r_newHigh r_colours r_now r_file r_fresh r_colour r_table r_last r_one x35 x37 x39 r41 u42 hc43) (qL_law_X9_put_22 hts) ⟨zP_blind, va_recv hK hP (ci := 8) (q0 := 15) rfl rfl, zpre hK hN hP hD [15, 16, 17, 18, 19, 20, 21, 22] rfl rfl⟩ rfl rfl hl.1 rfl (lv_room (Nat.le_of_ble_eq_true rfl)) dL_law_172 (zroomL hk)) hP hD hS hA [15, 16, 17, 18, 19, 20, 21, 22] [0, 1, 2, 3, 4, 5, 6, 7, 8, 9, 10, 11, 12, 13, 14] [0, 1, 2, 3, 4, 5, 6, 7, 8, 9, 10, 11, 12, 13, 14, 15, 16, 17, 18, 19, 20, 21, 22] (ws' := zwL cI cF h_t h_p h_p_pixels h_d h_d_pixels h_s h_s_file h_s_file_bytes h_fm h_c h_c_table h_m h_b h_b_colours h_k h_r h_r_now h_r_file h_r_fresh h_r_colour h_r_table h_r_last h_r_one p_wide p_high u33 d_wide d_high d_pixels s_place s_file_size s_file_bytes c_last c_table m_inDigits m_greatest b_known b_depth b_packing b_isUpward b_column b_up b_colours k_depth k_left k_isRepeated k_held r_wide r_high r_size r_at r_fault r_newWide r_newHigh r_colours u42 r_file r_fresh r_colour r_table r_last r_one) rfl rfl rfl rfl rfl rfl (fun H locs hP hD hS => ?_)
        refine lv_icmp_eq (tgt := 436) hx hb dL_law_175 (by decide) (fun c44 => ?_) (fun c44 => ?_)
        · replace hf := zif_t hf c44
          exact wL_law_436 C hN hK2 hA hT hst hNc hX hbl hbA hE hr_18 hf hk hP hD hS (lv_sub hl [0, 1, 2, 3] rfl)
        · replace hf := zif_f hf c44
          refine lv_iconst (v := 0) hx hb dL_law_178 (by decide) ?_
          cases hf
          exact hE _ _ _ _ _ dL_law_179 hS hk
      replace hf := zif_f hf c25
      by_cases c45 : x4 = 2
      · replace hf := zif_t hf c45
        refine lv_tableIn (tgt := 180) hx hb dL_law_32 (by rw [c45]; decide) (by rw [c45]; decide) (by rw [c45]; rfl) (by decide) ?_
        refine lv_aload_n hx hb dL_law_180 rfl (lv_at hl 1 rfl) ?_
        refine lv_aload_n hx hb dL_law_181 rfl (lv_at hl 0 rfl) ?_
        refine lv_iload_n hx hb dL_law_182 rfl (lv_at hl 3 rfl) ?_
        refine lv_iconst (v := 1) hx hb dL_law_183 (by decide) ?_
        refine lv_iadd hx hb dL_law_184 ?_
        obtain ⟨hg47, hf⟩ := zrd_in hf
        refine va_sld hx hb hX hbl hbA hS hg47 dL_law_185 ?_
        refine lv_topi (fun x46 ex46 => ?_)
        replace hf := hf x46 ex46
        clear ex46
        refine lv_aload_n hx hb dL_law_186 rfl (lv_at hl 0 rfl) ?_
        refine lv_iload_n hx hb dL_law_187 rfl (lv_at hl 3 rfl) ?_
        refine lv_iconst (v := 2) hx hb dL_law_188 (by decide) ?_
        refine lv_iadd hx hb dL_law_189 ?_
        obtain ⟨hg49, hf⟩ := zrd_in hf
        refine va_sld hx hb hX hbl hbA hS hg49 dL_law_190 ?_
        refine lv_topi (fun x48 ex48 => ?_)
        replace hf := hf x48 ex48
        clear ex48
        obtain ⟨r50, hc51, hf⟩ := zb1_in hf
        refine zc_i (va_runV (As := [.int x46, .int x48]) (rest := []) C (mX8_pixel l D cI H.size h_t h_d h_s_file h_s h_fm h_p h_p_pixels p_wide p_high p_pixels x46 x48 r50 hc51) (qL_law_X8_pixel_23 hts) ⟨zP_blind, va_recv hK hP (ci := 7) (q0 := 0) rfl rfl, zpre hK hN hP hD [0, 1, 2] rfl rfl⟩ rfl rfl hl.1 rfl (lv_room (Nat.le_of_ble_eq_true rfl)) dL_law_191 (zroomL hk)) hP hD hS hA [0, 1, 2] [3, 4, 5, 6, 7, 8, 9, 10, 11, 12, 13, 14, 15, 16, 17, 18, 19, 20, 21, 22] [20, 21, 22, 0, 1, 2, 3, 4, 5, 6, 7, 8, 9, 10, 11, 12, 13, 14, 15, 16, 17, 18, 19] (ws' := zwL cI cF h_t h_p h_p_pixels h_d h_d_pixels h_s h_s_file h_s_file_bytes h_fm h_c h_c_table h_m h_b h_b_colours h_k h_r h_r_now h_r_file h_r_fresh h_r_colour h_r_table h_r_last h_r_one p_wide p_high p_pixels d_wide d_high d_pixels s_place s_file_size s_file_bytes c_last c_table m_inDigits m_greatest b_known b_depth b_packing b_isUpward b_column b_up b_colours k_depth k_left k_isRepeated k_held r_wide r_high r_size r_at r_fault r_newWide r_newHigh r_colours r_now r_file r_fresh r_colour r_table r_last r_one) rfl rfl rfl rfl rfl rfl (fun H locs hP hD hS => ?_)
        refine lv_aload_n hx hb dL_law_194 rfl (lv_at hl 2 rfl) ?_
        refine lv_aload_n hx hb dL_law_195 rfl (lv_at hl 0 rfl) ?_
        refine lv_iload_n hx hb dL_law_196 rfl (lv_at hl 3 rfl) ?_
        refine lv_iconst (v := 1) hx hb dL_law_197 (by decide) ?_
        refine lv_iadd hx hb dL_law_198 ?_
        obtain ⟨hg53, hf⟩ := zrd_in hf
        refine va_sld hx hb hX hbl hbA hS hg53 dL_law_199 ?_
        refine lv_topi (fun x52 ex52 => ?_)
        replace hf := hf x52 ex52
        clear ex52
        refine lv_aload_n hx hb dL_law_200 rfl (lv_at hl 0 rfl) ?_
        refine lv_iload_n hx hb dL_law_201 rfl (lv_at hl 3 rfl) ?_
        refine lv_iconst (v := 2) hx hb dL_law_202 (by decide) ?_
        refine lv_iadd hx hb dL_law_203 ?_
        obtain ⟨hg55, hf⟩ := zrd_in hf
        refine va_sld hx hb hX hbl hbA hS hg55 dL_law_204 ?_
        refine lv_topi (fun x54 ex54 => ?_)
        replace hf := hf x54 ex54
        clear ex54
        obtain ⟨r56, hc57, hf⟩ := zb1_in hf
        refine zc_i (va_runV (As := [.int x52, .int x54]) (rest := [.int r50]) C (mX9_pixel l D cI H.size h_r h_r_now h_r_file h_r_fresh h_r_colour h_r_table h_r_last h_r_one r_wide r_high r_size r_at r_fault r_newWide r_newHigh r_colours r_now r_file r_fresh r_colour r_table r_last r_one x52 x54 r56 hc57) (qL_law_X9_pixel_27 hts) ⟨zP_blind, va_recv hK hP (ci := 8) (q0 := 15) rfl rfl, zpre hK hN hP hD [15, 16, 17, 18, 19, 20, 21, 22] rfl rfl⟩ rfl rfl hl.1 rfl (lv_room (Nat.le_of_ble_eq_true rfl)) dL_law_205 (zroomL hk)) hP hD hS hA [15, 16, 17, 18, 19, 20, 21, 22] [0, 1, 2, 3, 4, 5, 6, 7, 8, 9, 10, 11, 12, 13, 14] [0, 1, 2, 3, 4, 5, 6, 7, 8, 9, 10, 11, 12, 13, 14, 15, 16, 17, 18, 19, 20, 21, 22] (ws' := zwL cI cF h_t h_p h_p_pixels h_d h_d_pixels h_s h_s_file h_s_file_bytes h_fm h_c h_c_table h_m h_b h_b_colours h_k h_r h_r_now h_r_file h_r_fresh h_r_colour h_r_table h_r_last h_r_one p_wide p_high p_pixels d_wide d_high d_pixels s_place s_file_size s_file_bytes c_last c_table m_inDigits m_greatest b_known b_depth b_packing b_isUpward b_column b_up b_colours k_depth k_left k_isRepeated k_held r_wide r_high r_size r_at r_fault r_newWide r_newHigh r_colours r_now r_file r_fresh r_colour r_table r_last r_one) rfl rfl rfl rfl rfl rfl (fun H locs hP hD hS => ?_)
        refine lv_icmp_eq (tgt := 436) hx hb dL_law_208 (by decide) (fun c58 => ?_) (fun c58 => ?_)
        · replace hf := zif_t hf c58
          exact wL_law_436 C hN hK2 hA hT hst hNc hX hbl hbA hE hr_18 hf hk hP hD hS (lv_sub hl [0, 1, 2, 3] rfl)
        · replace hf := zif_f hf c58
          refine lv_iconst (v := 0) hx hb dL_law_211 (by decide) ?_
          cases hf
          exact hE _ _ _ _ _ dL_law_212 hS hk
      replace hf := zif_f hf c45
      by_cases c59 : x4 = 3
      · replace hf := zif_t hf c59
        refine lv_tableIn (tgt := 213) hx hb dL_law_32 (by rw [c59]; decide) (by rw [c59]; decide) (by rw [c59]; rfl) (by decide) ?_
        refine lv_aload_n hx hb dL_law_213 rfl (lv_at hl 1 rfl) ?_
        obtain ⟨r60, hc61, hf⟩ := zb1_in hf
        refine zc_i (va_runV (As := []) (rest := []) C (mX8_width l D cI H.size h_t h_d h_s_file h_s h_fm h_p h_p_pixels p_wide p_high p_pixels r60 hc61) (qL_law_X8_width_28 hts) ⟨zP_blind, va_recv hK hP (ci := 7) (q0 := 0) rfl rfl, zpre hK hN hP hD [0, 1, 2] rfl rfl⟩ rfl rfl hl.1 rfl (lv_room (Nat.le_of_ble_eq_true rfl)) dL_law_214 (zroomL hk)) hP hD hS hA [0, 1, 2] [3, 4, 5, 6, 7, 8, 9, 10, 11, 12, 13, 14, 15, 16, 17, 18, 19, 20, 21, 22] [20, 21, 22, 0, 1, 2, 3, 4, 5, 6, 7, 8, 9, 10, 11, 12, 13, 14, 15, 16, 17, 18, 19] (ws' := zwL cI cF h_t h_p h_p_pixels h_d h_d_pixels h_s h_s_file h_s_file_bytes h_fm h_c h_c_table h_m h_b h_b_colours h_k h_r h_r_now h_r_file h_r_fresh h_r_colour h_r_table h_r_last h_r_one p_wide p_high p_pixels d_wide d_high d_pixels s_place s_file_size s_file_bytes c_last c_table m_inDigits m_greatest b_known b_depth b_packing b_isUpward b_column b_up b_colours k_depth k_left k_isRepeated k_held r_wide r_high r_size r_at r_fault r_newWide r_newHigh r_colours r_now r_file r_fresh r_colour r_table r_last r_one) rfl rfl rfl rfl rfl rfl (fun H locs hP hD hS => ?_)
        refine lv_aload_n hx hb dL_law_217 rfl (lv_at hl 2 rfl) ?_
        obtain ⟨r62, hc63, hf⟩ := zb1_in hf
        refine zc_i (va_runV (As := []) (rest := [.int r60]) C (mX9_width l D cI H.size h_r h_r_now h_r_file h_r_fresh h_r_colour h_r_table h_r_last h_r_one r_wide r_high r_size r_at r_fault r_newWide r_newHigh r_colours r_now r_file r_fresh r_colour r_table r_last r_one r62 hc63) (qL_law_X9_width_32 hts) ⟨zP_blind, va_recv hK hP (ci := 8) (q0 := 15) rfl rfl, zpre hK hN hP hD [15, 16, 17, 18, 19, 20, 21, 22] rfl rfl⟩ rfl rfl hl.1 rfl (lv_room (Nat.le_of_ble_eq_true rfl)) dL_law_218 (zroomL hk)) hP hD hS hA [15, 16, 17, 18, 19, 20, 21, 22] [0, 1, 2, 3, 4, 5, 6, 7, 8, 9, 10, 11, 12, 13, 14] [0, 1, 2, 3, 4, 5, 6, 7, 8, 9, 10, 11, 12, 13, 14, 15, 16, 17, 18, 19, 20, 21, 22] (ws' := zwL cI cF h_t h_p h_p_pixels h_d h_d_pixels h_s h_s_file h_s_file_bytes h_fm h_c h_c_table h_m h_b h_b_colours h_k h_r h_r_now h_r_file h_r_fresh h_r_colour h_r_table h_r_last h_r_one p_wide p_high p_pixels d_wide d_high d_pixels s_place s_file_size s_file_bytes c_last c_table m_inDigits m_greatest b_known b_depth b_packing b_isUpward b_column b_up b_colours k_depth k_left k_isRepeated k_held r_wide r_high r_size r_at r_fault r_newWide r_newHigh r_colours r_now r_file r_fresh r_colour r_table r_last r_one) rfl rfl rfl rfl rfl rfl (fun H locs hP hD hS => ?_)
        refine lv_icmp_eq (tgt := 436) hx hb dL_law_221 (by decide) (fun c64 => ?_) (fun c64 => ?_)
        · replace hf := zif_t hf c64
          exact wL_law_436 C hN hK2 hA hT hst hNc hX hbl hbA hE hr_18 hf hk hP hD hS (lv_sub hl [0, 1, 2, 3] rfl)
        · replace hf := zif_f hf c64
          refine lv_iconst (v := 0) hx hb dL_law_224 (by decide) ?_
          cases hf
          exact hE _ _ _ _ _ dL_law_225 hS hk
      replace hf := zif_f hf c59
      by_cases c65 : x4 = 4
      · replace hf := zif_t hf c65
        refine lv_tableIn (tgt := 226) hx hb dL_law_32 (by rw [c65]; decide) (by rw [c65]; decide) (by rw [c65]; rfl) (by decide) ?_
        refine lv_aload_n hx hb dL_law_226 rfl (lv_at hl 1 rfl) ?_
        obtain ⟨r66, hc67, hf⟩ := zb1_in hf
        refine zc_i (va_runV (As := []) (rest := []) C (mX8_height l D cI H.size h_t h_d h_s_file h_s h_fm h_p h_p_pixels p_wide p_high p_pixels r66 hc67) (qL_law_X8_height_33 hts) ⟨zP_blind, va_recv hK hP (ci := 7) (q0 := 0) rfl rfl, zpre hK hN hP hD [0, 1, 2] rfl rfl⟩ rfl rfl hl.1 rfl (lv_room (Nat.le_of_ble_eq_true rfl)) dL_law_227 (zroomL hk)) hP hD hS hA [0, 1, 2] [3, 4, 5, 6, 7, 8, 9, 10, 11, 12, 13, 14, 15, 16, 17, 18, 19, 20, 21, 22] [20, 21, 22, 0, 1, 2, 3, 4, 5, 6, 7, 8, 9, 10, 11, 12, 13, 14, 15, 16, 17, 18, 19] (ws' := zwL cI cF h_t h_p h_p_pixels h_d h_d_pixels h_s h_s_file h_s_file_bytes h_fm h_c h_c_table h_m h_b h_b_colours h_k h_r h_r_now h_r_file h_r_fresh h_r_colour h_r_table h_r_last h_r_one p_wide p_high p_pixels d_wide d_high d_pixels s_place s_file_size s_file_bytes c_last c_table m_inDigits m_greatest b_known b_depth b_packing b_isUpward b_column b_up b_colours k_depth k_left k_isRepeated k_held r_wide r_high r_size r_at r_fault r_newWide r_newHigh r_colours r_now r_file r_fresh r_colour r_table r_last r_one) rfl rfl rfl rfl rfl rfl (fun H locs hP hD hS => ?_)
        refine lv_aload_n hx hb dL_law_230 rfl (lv_at hl 2 rfl) ?_
        obtain ⟨r68, hc69, hf⟩ := zb1_in hf
        refine zc_i (va_runV (As := []) (rest := [.int r66]) C (mX9_height l D cI H.size h_r h_r_now h_r_file h_r_fresh h_r_colour h_r_table h_r_last h_r_one r_wide r_high r_size r_at r_fault r_newWide r_newHigh r_colours r_now r_file r_fresh r_colour r_table r_last r_one r68 hc69) (qL_law_X9_height_36 hts) ⟨zP_blind, va_recv hK hP (ci := 8) (q0 := 15) rfl rfl, zpre hK hN hP hD [15, 16, 17, 18, 19, 20, 21, 22] rfl rfl⟩ rfl rfl hl.1 rfl (lv_room (Nat.le_of_ble_eq_true rfl)) dL_law_231 (zroomL hk)) hP hD hS hA [15, 16, 17, 18, 19, 20, 21, 22] [0, 1, 2, 3, 4, 5, 6, 7, 8, 9, 10, 11, 12, 13, 14] [0, 1, 2, 3, 4, 5, 6, 7, 8, 9, 10, 11, 12, 13, 14, 15, 16, 17, 18, 19, 20, 21, 22] (ws' := zwL cI cF h_t h_p h_p_pixels h_d h_d_pixels h_s h_s_file h_s_file_bytes h_fm h_c h_c_table h_m h_b h_b_colours h_k h_r h_r_now h_r_file h_r_fresh h_r_colour h_r_table h_r_last h_r_one p_wide p_high p_pixels d_wide d_high d_pixels s_place s_file_size s_file_bytes c_last c_table m_inDigits m_greatest b_known b_depth b_packing b_isUpward b_column b_up b_colours k_depth k_left k_isRepeated k_held r_wide r_high r_size r_at r_fault r_newWide r_newHigh r_colours r_now r_file r_fresh r_colour r_table r_last r_one) rfl rfl rfl rfl rfl rfl (fun H locs hP hD hS => ?_)
        refine lv_icmp_eq (tgt := 436) hx hb dL_law_234 (by decide) (fun c70 => ?_) (fun c70 => ?_)
        · replace hf := zif_t hf c70
          exact wL_law_436 C hN hK2 hA hT hst hNc hX hbl hbA hE hr_18 hf hk hP hD hS (lv_sub hl [0, 1, 2, 3] rfl)
        · replace hf := zif_f hf c70
          refine lv_iconst (v := 0) hx hb dL_law_237 (by decide) ?_
          cases hf
          exact hE _ _ _ _ _ dL_law_238 hS hk
      replace hf := zif_f hf c65
      by_cases c71 : x4 = 5
      · replace hf := zif_t hf c71
        refine lv_tableIn (tgt := 239) hx hb dL_law_32 (by rw [c71]; decide) (by rw [c71]; decide) (by rw [c71]; rfl) (by decide) ?_
        refine lv_aload_n hx hb dL_law_239 rfl (lv_at hl 1 rfl) ?_
        refine lv_aload_n hx hb dL_law_240 rfl (lv_at hl 0 rfl) ?_
        refine lv_iload_n hx hb dL_law_241 rfl (lv_at hl 3 rfl) ?_
        refine lv_iconst (v := 1) hx hb dL_law_242 (by decide) ?_
        refine lv_iadd hx hb dL_law_243 ?_
        obtain ⟨hg73, hf⟩ := zrd_in hf
        refine va_sld hx hb hX hbl hbA hS hg73 dL_law_244 ?_
        refine lv_topi (fun x72 ex72 => ?_)
        replace hf := hf x72 ex72
        clear ex72
        obtain ⟨r74, u75, u76, u77, u78, u79, u80, hc81, hf⟩ := zb7_in hf
        refine zc_i (va_runV (As := [.int x72]) (rest := []) C (mX8_change l D cI H.size h_t h_s_file h_s h_fm h_p h_p_pixels h_d h_d_pixels p_wide p_high p_pixels d_wide d_high d_pixels x72 r74 u75 u76 u77 u78 u79 u80 hc81) (qL_law_X8_change_37 hts) ⟨zP_blind, va_recv hK hP (ci := 7) (q0 := 0) rfl rfl, zpre hK hN hP hD [0, 1, 2, 3, 4] rfl rfl⟩ rfl rfl hl.1 rfl (lv_room (Nat.le_of_ble_eq_true rfl)) dL_law_245 (zroomL hk)) hP hD hS hA [0, 1, 2, 3, 4] [5, 6, 7, 8, 9, 10, 11, 12, 13, 14, 15, 16, 17, 18, 19, 20, 21, 22] [18, 19, 20, 21, 22, 0, 1, 2, 3, 4, 5, 6, 7, 8, 9, 10, 11, 12, 13, 14, 15, 16, 17] (ws' := zwL cI cF h_t h_p h_p_pixels h_d h_d_pixels h_s h_s_file h_s_file_bytes h_fm h_c h_c_table h_m h_b h_b_colours h_k h_r h_r_now h_r_file h_r_fresh h_r_colour h_r_table h_r_last h_r_one u75 u76 u77 u78 u79 u80 s_place s_file_size s_file_bytes c_last c_table m_inDigits m_greatest b_known b_depth b_packing b_isUpward b_column b_up b_colours k_depth k_left k_isRepeated k_held r_wide r_high r_size r_at r_fault r_newWide r_newHigh r_colours r_now r_file r_fresh r_colour r_table r_last r_one) rfl rfl rfl rfl rfl rfl (fun H locs hP hD hS => ?_)
        refine lv_aload_n hx hb dL_law_248 rfl (lv_at hl 2 rfl) ?_
        refine lv_aload_n hx hb dL_law_249 rfl (lv_at hl 0 rfl) ?_
        refine lv_iload_n hx hb dL_law_250 rfl (lv_at hl 3 rfl) ?_
        refine lv_iconst (v := 1) hx hb dL_law_251 (by decide) ?_
        refine lv_iadd hx hb dL_law_252 ?_
        obtain ⟨hg83, hf⟩ := zrd_in hf
        refine va_sld hx hb hX hbl hbA hS hg83 dL_law_253 ?_
        refine lv_topi (fun x82 ex82 => ?_)
        replace hf := hf x82 ex82
        clear ex82
        obtain ⟨r84, u85, u86, u87, u88, hc89, hf⟩ := zb5_in hf
        refine zc_i (va_runV (As := [.int x82]) (rest := [.int r74]) C (mX9_change l D cI H.size h_r h_r_now h_r_file h_r_fresh h_r_colour h_r_table h_r_last h_r_one r_wide r_high r_size r_at r_fault r_newWide r_newHigh r_colours r_now r_file r_fresh r_colour r_table r_last r_one x82 r84 u85 u86 u87 u88 hc89) (qL_law_X9_change_41 hts) ⟨zP_blind, va_recv hK hP (ci := 8) (q0 := 15) rfl rfl, zpre hK hN hP hD [15, 16, 17, 18, 19, 20, 21, 22] rfl rfl⟩ rfl rfl hl.1 rfl (lv_room (Nat.le_of_ble_eq_true rfl)) dL_law_254 (zroomL hk)) hP hD hS hA [15, 16, 17, 18, 19, 20, 21, 22] [0, 1, 2, 3, 4, 5, 6, 7, 8, 9, 10, 11, 12, 13, 14] [0, 1, 2, 3, 4, 5, 6, 7, 8, 9, 10, 11, 12, 13, 14, 15, 16, 17, 18, 19, 20, 21, 22] (ws' := zwL cI cF h_t h_p h_p_pixels h_d h_d_pixels h_s h_s_file h_s_file_bytes h_fm h_c h_c_table h_m h_b h_b_colours h_k h_r h_r_now h_r_file h_r_fresh h_r_colour h_r_table h_r_last h_r_one u75 u76 u77 u78 u79 u80 s_place s_file_size s_file_bytes c_last c_table m_inDigits m_greatest b_known b_depth b_packing b_isUpward b_column b_up b_colours k_depth k_left k_isRepeated k_held u85 u86 r_size r_at r_fault r_newWide r_newHigh r_colours u87 r_file u88 r_colour r_table r_last r_one) rfl rfl rfl rfl rfl rfl (fun H locs hP hD hS => ?_)
        refine lv_icmp_eq (tgt := 436) hx hb dL_law_257 (by decide) (fun c90 => ?_) (fun c90 => ?_)
        · replace hf := zif_t hf c90
          exact wL_law_436 C hN hK2 hA hT hst hNc hX hbl hbA hE hr_18 hf hk hP hD hS (lv_sub hl [0, 1, 2, 3] rfl)
        · replace hf := zif_f hf c90
          refine lv_iconst (v := 0) hx hb dL_law_260 (by decide) ?_
          cases hf
          exact hE _ _ _ _ _ dL_law_261 hS hk
      replace hf := zif_f hf c71
      by_cases c91 : x4 = 6
      · replace hf := zif_t hf c91
        refine lv_tableIn (tgt := 262) hx hb dL_law_32 (by rw [c91]; decide) (by rw [c91]; decide) (by rw [c91]; rfl) (by decide) ?_
        refine lv_aload_n hx hb dL_law_262 rfl (lv_at hl 1 rfl) ?_
        refine lv_aload_n hx hb dL_law_263 rfl (lv_at hl 0 rfl) ?_
        refine lv_iload_n hx hb dL_law_264 rfl (lv_at hl 3 rfl) ?_
        refine lv_iconst (v := 1) hx hb dL_law_265 (by decide) ?_
        refine lv_iadd hx hb dL_law_266 ?_
        obtain ⟨hg93, hf⟩ := zrd_in hf
        refine va_sld hx hb hX hbl hbA hS hg93 dL_law_267 ?_
        refine lv_topi (fun x92 ex92 => ?_)
        replace hf := hf x92 ex92
        clear ex92
        obtain ⟨r94, u95, u96, hc97, hf⟩ := zb3_in hf
        refine zc_i (va_runV (As := [.int x92]) (rest := []) C (mX8_feed l D cI H.size h_t h_p h_d h_s h_fm h_s_file h_s_file_bytes s_file_size s_file_bytes x92 r94 u95 u96 hc97) (qL_law_X8_feed_42 hts) ⟨zP_blind, va_recv hK hP (ci := 7) (q0 := 0) rfl rfl, zpre hK hN hP hD [0, 6, 7] rfl rfl⟩ rfl rfl hl.1 rfl (lv_room (Nat.le_of_ble_eq_true rfl)) dL_law_268 (zroomL hk)) hP hD hS hA [0, 6, 7] [1, 2, 3, 4, 5, 8, 9, 10, 11, 12, 13, 14, 15, 16, 17, 18, 19, 20, 21, 22] [20, 0, 1, 2, 3, 4, 21, 22, 5, 6, 7, 8, 9, 10, 11, 12, 13, 14, 15, 16, 17, 18, 19] (ws' := zwL cI cF h_t h_p h_p_pixels h_d h_d_pixels h_s h_s_file h_s_file_bytes h_fm h_c h_c_table h_m h_b h_b_colours h_k h_r h_r_now h_r_file h_r_fresh h_r_colour h_r_table h_r_last h_r_one p_wide p_high p_pixels d_wide d_high d_pixels s_place u95 u96 c_last c_table m_inDigits m_greatest b_known b_depth b_packing b_isUpward b_column b_up b_colours k_depth k_left k_isRepeated k_held r_wide r_high r_size r_at r_fault r_newWide r_newHigh r_colours r_now r_file r_fresh r_colour r_table r_last r_one) rfl rfl rfl rfl rfl rfl (fun H locs hP hD hS => ?_)
        refine lv_aload_n hx hb dL_law_271 rfl (lv_at hl 2 rfl) ?_
        refine lv_aload_n hx hb dL_law_272 rfl (lv_at hl 0 rfl) ?_
        refine lv_iload_n hx hb dL_law_273 rfl (lv_at hl 3 rfl) ?_
        refine lv_iconst (v := 1) hx hb dL_law_274 (by decide) ?_
        refine lv_iadd hx hb dL_law_275 ?_
        obtain ⟨hg99, hf⟩ := zrd_in hf
        refine va_sld hx hb hX hbl hbA hS hg99 dL_law_276 ?_
        refine lv_topi (fun x98 ex98 => ?_)
        replace hf := hf x98 ex98
        clear ex98
        obtain ⟨r100, u101, u102, hc103, hf⟩ := zb3_in hf
        refine zc_i (va_runV (As := [.int x98]) (rest := [.int r94]) C (mX9_feed l D cI H.size h_r h_r_now h_r_file h_r_fresh h_r_colour h_r_table h_r_last h_r_one r_wide r_high r_size r_at r_fault r_newWide r_newHigh r_colours r_now r_file r_fresh r_colour r_table r_last r_one x98 r100 u101 u102 hc103) (qL_law_X9_feed_45 hts) ⟨zP_blind, va_recv hK hP (ci := 8) (q0 := 15) rfl rfl, zpre hK hN hP hD [15, 16, 17, 18, 19, 20, 21, 22] rfl rfl⟩ rfl rfl hl.1 rfl (lv_room (Nat.le_of_ble_eq_true rfl)) dL_law_277 (zroomL hk)) hP hD hS hA [15, 16, 17, 18, 19, 20, 21, 22] [0, 1, 2, 3, 4, 5, 6, 7, 8, 9, 10, 11, 12, 13, 14] [0, 1, 2, 3, 4, 5, 6, 7, 8, 9, 10, 11, 12, 13, 14, 15, 16, 17, 18, 19, 20, 21, 22] (ws' := zwL cI cF h_t h_p h_p_pixels h_d h_d_pixels h_s h_s_file h_s_file_bytes h_fm h_c h_c_table h_m h_b h_b_colours h_k h_r h_r_now h_r_file h_r_fresh h_r_colour h_r_table h_r_last h_r_one p_wide p_high p_pixels d_wide d_high d_pixels s_place u95 u96 c_last c_table m_inDigits m_greatest b_known b_depth b_packing b_isUpward b_column b_up b_colours k_depth k_left k_isRepeated k_held r_wide r_high u101 r_at r_fault r_newWide r_newHigh r_colours r_now u102 r_fresh r_colour r_table r_last r_one) rfl rfl rfl rfl rfl rfl (fun H locs hP hD hS => ?_)
        refine lv_icmp_eq (tgt := 436) hx hb dL_law_280 (by decide) (fun c104 => ?_) (fun c104 => ?_)
        · replace hf := zif_t hf c104
          exact wL_law_436 C hN hK2 hA hT hst hNc hX hbl hbA hE hr_18 hf hk hP hD hS (lv_sub hl [0, 1, 2, 3] rfl)
        · replace hf := zif_f hf c104
          refine lv_iconst (v := 0) hx hb dL_law_283 (by decide) ?_
          cases hf
          exact hE _ _ _ _ _ dL_law_284 hS hk
      replace hf := zif_f hf c91
      by_cases c105 : x4 = 7
      · replace hf := zif_t hf c105
        refine lv_tableIn (tgt := 285) hx hb dL_law_32 (by rw [c105]; decide) (by rw [c105]; decide) (by rw [c105]; rfl) (by decide) ?_
        refine lv_aload_n hx hb dL_law_285 rfl (lv_at hl 1 rfl) ?_
        refine lv_aload_n hx hb dL_law_286 rfl (lv_at hl 0 rfl) ?_
        refine lv_iload_n hx hb dL_law_287 rfl (lv_at hl 3 rfl) ?_
        refine lv_iconst (v := 1) hx hb dL_law_288 (by decide) ?_
        refine lv_iadd hx hb dL_law_289 ?_
        obtain ⟨hg107, hf⟩ := zrd_in hf
        refine va_sld hx hb hX hbl hbA hS hg107 dL_law_290 ?_
        refine lv_topi (fun x106 ex106 => ?_)
        replace hf := hf x106 ex106
        clear ex106
        obtain ⟨r108, u109, hc110, hf⟩ := zb2_in hf
        refine zc_i (va_runV (As := [.int x106]) (rest := []) C (mX8_cut l D cI H.size h_t h_p h_d h_s h_fm h_s_file h_s_file_bytes s_file_size s_file_bytes x106 r108 u109 hc110) (qL_law_X8_cut_46 hts) ⟨zP_blind, va_recv hK hP (ci := 7) (q0 := 0) rfl rfl, zpre hK hN hP hD [0, 6, 7] rfl rfl⟩ rfl rfl hl.1 rfl (lv_room (Nat.le_of_ble_eq_true rfl)) dL_law_291 (zroomL hk)) hP hD hS hA [0, 6, 7] [1, 2, 3, 4, 5, 8, 9, 10, 11, 12, 13, 14, 15, 16, 17, 18, 19, 20, 21, 22] [20, 0, 1, 2, 3, 4, 21, 22, 5, 6, 7, 8, 9, 10, 11, 12, 13, 14, 15, 16, 17, 18, 19] (ws' := zwL cI cF h_t h_p h_p_pixels h_d h_d_pixels h_s h_s_file h_s_file_bytes h_fm h_c h_c_table h_m h_b h_b_colours h_k h_r h_r_now h_r_file h_r_fresh h_r_colour h_r_table h_r_last h_r_one p_wide p_high p_pixels d_wide d_high d_pixels s_place u109 s_file_bytes c_last c_table m_inDigits m_greatest b_known b_depth b_packing b_isUpward b_column b_up b_colours k_depth k_left k_isRepeated k_held r_wide r_high r_size r_at r_fault r_newWide r_newHigh r_colours r_now r_file r_fresh r_colour r_table r_last r_one) rfl rfl rfl rfl rfl rfl (fun H locs hP hD hS => ?_)
        refine lv_aload_n hx hb dL_law_294 rfl (lv_at hl 2 rfl) ?_
        refine lv_aload_n hx hb dL_law_295 rfl (lv_at hl 0 rfl) ?_
        refine lv_iload_n hx hb dL_law_296 rfl (lv_at hl 3 rfl) ?_
        refine lv_iconst (v := 1) hx hb dL_law_297 (by decide) ?_
        refine lv_iadd hx hb dL_law_298 ?_
        obtain ⟨hg112, hf⟩ := zrd_in hf
        refine va_sld hx hb hX hbl hbA hS hg112 dL_law_299 ?_
        refine lv_topi (fun x111 ex111 => ?_)
        replace hf := hf x111 ex111
        clear ex111
        obtain ⟨r113, u114, hc115, hf⟩ := zb2_in hf
        refine zc_i (va_runV (As := [.int x111]) (rest := [.int r108]) C (mX9_cut l D cI H.size h_r h_r_now h_r_file h_r_fresh h_r_colour h_r_table h_r_last h_r_one r_wide r_high r_size r_at r_fault r_newWide r_newHigh r_colours r_now r_file r_fresh r_colour r_table r_last r_one x111 r113 u114 hc115) (qL_law_X9_cut_49 hts) ⟨zP_blind, va_recv hK hP (ci := 8) (q0 := 15) rfl rfl, zpre hK hN hP hD [15, 16, 17, 18, 19, 20, 21, 22] rfl rfl⟩ rfl rfl hl.1 rfl (lv_room (Nat.le_of_ble_eq_true rfl)) dL_law_300 (zroomL hk)) hP hD hS hA [15, 16, 17, 18, 19, 20, 21, 22] [0, 1, 2, 3, 4, 5, 6, 7, 8, 9, 10, 11, 12, 13, 14] [0, 1, 2, 3, 4, 5, 6, 7, 8, 9, 10, 11, 12, 13, 14, 15, 16, 17, 18, 19, 20, 21, 22] (ws' := zwL cI cF h_t h_p h_p_pixels h_d h_d_pixels h_s h_s_file h_s_file_bytes h_fm h_c h_c_table h_m h_b h_b_colours h_k h_r h_r_now h_r_file h_r_fresh h_r_colour h_r_table h_r_last h_r_one p_wide p_high p_pixels d_wide d_high d_pixels s_place u109 s_file_bytes c_last c_table m_inDigits m_greatest b_known b_depth b_packing b_isUpward b_column b_up b_colours k_depth k_left k_isRepeated k_held r_wide r_high u114 r_at r_fault r_newWide r_newHigh r_colours r_now r_file r_fresh r_colour r_table r_last r_one) rfl rfl rfl rfl rfl rfl (fun H locs hP hD hS => ?_)
        refine lv_icmp_eq (tgt := 436) hx hb dL_law_303 (by decide) (fun c116 => ?_) (fun c116 => ?_)
        · replace hf := zif_t hf c116
          exact wL_law_436 C hN hK2 hA hT hst hNc hX hbl hbA hE hr_18 hf hk hP hD hS (lv_sub hl [0, 1, 2, 3] rfl)
        · replace hf := zif_f hf c116
          refine lv_iconst (v := 0) hx hb dL_law_306 (by decide) ?_
          cases hf
          exact hE _ _ _ _ _ dL_law_307 hS hk
      replace hf := zif_f hf c105
      by_cases c117 : x4 = 8
      · replace hf := zif_t hf c117
        refine lv_tableIn (tgt := 308) hx hb dL_law_32 (by rw [c117]; decide) (by rw [c117]; decide) (by rw [c117]; rfl) (by decide) ?_
        refine lv_aload_n hx hb dL_law_308 rfl (lv_at hl 1 rfl) ?_
        refine lv_aload_n hx hb dL_law_309 rfl (lv_at hl 0 rfl) ?_
        refine lv_iload_n hx hb dL_law_310 rfl (lv_at hl 3 rfl) ?_
        refine lv_iconst (v := 1) hx hb dL_law_311 (by decide) ?_
        refine lv_iadd hx hb dL_law_312 ?_
        obtain ⟨hg119, hf⟩ := zrd_in hf
        refine va_sld hx hb hX hbl hbA hS hg119 dL_law_313 ?_
        refine lv_topi (fun x118 ex118 => ?_)
        replace hf := hf x118 ex118
        clear ex118
        refine lv_aload_n hx hb dL_law_314 rfl (lv_at hl 0 rfl) ?_
        refine lv_iload_n hx hb dL_law_315 rfl (lv_at hl 3 rfl) ?_
        refine lv_iconst (v := 2) hx hb dL_law_316 (by decide) ?_
        refine lv_iadd hx hb dL_law_317 ?_
        obtain ⟨hg121, hf⟩ := zrd_in hf
        refine va_sld hx hb hX hbl hbA hS hg121 dL_law_318 ?_
        refine lv_topi (fun x120 ex120 => ?_)
        replace hf := hf x120 ex120
        clear ex120
        obtain ⟨r122, u123, hc124, hf⟩ := zb2_in hf
        refine zc_i (va_runV (As := [.int x118, .int x120]) (rest := []) C (mX8_alter l D cI H.size h_t h_p h_d h_s h_fm h_s_file h_s_file_bytes s_file_size s_file_bytes x118 x120 r122 u123 hc124) (qL_law_X8_alter_50 hts) ⟨zP_blind, va_recv hK hP (ci := 7) (q0 := 0) rfl rfl, zpre hK hN hP hD [0, 6, 7] rfl rfl⟩ rfl rfl hl.1 rfl (lv_room (Nat.le_of_ble_eq_true rfl)) dL_law_319 (zroomL hk)) hP hD hS hA [0, 6, 7] [1, 2, 3, 4, 5, 8, 9, 10, 11, 12, 13, 14, 15, 16, 17, 18, 19, 20, 21, 22] [20, 0, 1, 2, 3, 4, 21, 22, 5, 6, 7, 8, 9, 10, 11, 12, 13, 14, 15, 16, 17, 18, 19] (ws' := zwL cI cF h_t h_p h_p_pixels h_d h_d_pixels h_s h_s_file h_s_file_bytes h_fm h_c h_c_table h_m h_b h_b_colours h_k h_r h_r_now h_r_file h_r_fresh h_r_colour h_r_table h_r_last h_r_one p_wide p_high p_pixels d_wide d_high d_pixels s_place s_file_size u123 c_last c_table m_inDigits m_greatest b_known b_depth b_packing b_isUpward b_column b_up b_colours k_depth k_left k_isRepeated k_held r_wide r_high r_size r_at r_fault r_newWide r_newHigh r_colours r_now r_file r_fresh r_colour r_table r_last r_one) rfl rfl rfl rfl rfl rfl (fun H locs hP hD hS => ?_)
        refine lv_aload_n hx hb dL_law_322 rfl (lv_at hl 2 rfl) ?_
        refine lv_aload_n hx hb dL_law_323 rfl (lv_at hl 0 rfl) ?_
        refine lv_iload_n hx hb dL_law_324 rfl (lv_at hl 3 rfl) ?_
        refine lv_iconst (v := 1) hx hb dL_law_325 (by decide) ?_
        refine lv_iadd hx hb dL_law_326 ?_
        obtain ⟨hg126, hf⟩ := zrd_in hf
        refine va_sld hx hb hX hbl hbA hS hg126 dL_law_327 ?_
        refine lv_topi (fun x125 ex125 => ?_)
        replace hf := hf x125 ex125
        clear ex125
        refine lv_aload_n hx hb dL_law_328 rfl (lv_at hl 0 rfl) ?_
        refine lv_iload_n hx hb dL_law_329 rfl (lv_at hl 3 rfl) ?_
        refine lv_iconst (v := 2) hx hb dL_law_330 (by decide) ?_
        refine lv_iadd hx hb dL_law_331 ?_
        obtain ⟨hg128, hf⟩ := zrd_in hf
        refine va_sld hx hb hX hbl hbA hS hg128 dL_law_332 ?_
        refine lv_topi (fun x127 ex127 => ?_)
        replace hf := hf x127 ex127
        clear ex127
        obtain ⟨r129, u130, hc131, hf⟩ := zb2_in hf
        refine zc_i (va_runV (As := [.int x125, .int x127]) (rest := [.int r122]) C (mX9_alter l D cI H.size h_r h_r_now h_r_file h_r_fresh h_r_colour h_r_table h_r_last h_r_one r_wide r_high r_size r_at r_fault r_newWide r_newHigh r_colours r_now r_file r_fresh r_colour r_table r_last r_one x125 x127 r129 u130 hc131) (qL_law_X9_alter_53 hts) ⟨zP_blind, va_recv hK hP (ci := 8) (q0 := 15) rfl rfl, zpre hK hN hP hD [15, 16, 17, 18, 19, 20, 21, 22] rfl rfl⟩ rfl rfl hl.1 rfl (lv_room (Nat.le_of_ble_eq_true rfl)) dL_law_333 (zroomL hk)) hP hD hS hA [15, 16, 17, 18, 19, 20, 21, 22] [0, 1, 2, 3, 4, 5, 6, 7, 8, 9, 10, 11, 12, 13, 14] [0, 1, 2, 3, 4, 5, 6, 7, 8, 9, 10, 11, 12, 13, 14, 15, 16, 17, 18, 19, 20, 21, 22] (ws' := zwL cI cF h_t h_p h_p_pixels h_d h_d_pixels h_s h_s_file h_s_file_bytes h_fm h_c h_c_table h_m h_b h_b_colours h_k h_r h_r_now h_r_file h_r_fresh h_r_colour h_r_table h_r_last h_r_one p_wide p_high p_pixels d_wide d_high d_pixels s_place s_file_size u123 c_last c_table m_inDigits m_greatest b_known b_depth b_packing b_isUpward b_column b_up b_colours k_depth k_left k_isRepeated k_held r_wide r_high r_size r_at r_fault r_newWide r_newHigh r_colours r_now u130 r_fresh r_colour r_table r_last r_one) rfl rfl rfl rfl rfl rfl (fun H locs hP hD hS => ?_)
        refine lv_icmp_eq (tgt := 436) hx hb dL_law_336 (by decide) (fun c132 => ?_) (fun c132 => ?_)
        · replace hf := zif_t hf c132
          exact wL_law_436 C hN hK2 hA hT hst hNc hX hbl hbA hE hr_18 hf hk hP hD hS (lv_sub hl [0, 1, 2, 3] rfl)
        · replace hf := zif_f hf c132
          refine lv_iconst (v := 0) hx hb dL_law_339 (by decide) ?_
          cases hf
          exact hE _ _ _ _ _ dL_law_340 hS hk
      replace hf := zif_f hf c117
      by_cases c133 : x4 = 9
      · replace hf := zif_t hf c133
        refine lv_tableIn (tgt := 341) hx hb dL_law_32 (by rw [c133]; decide) (by rw [c133]; decide) (by rw [c133]; rfl) (by decide) ?_
        refine lv_aload_n hx hb dL_law_341 rfl (lv_at hl 1 rfl) ?_
        obtain ⟨r134, hc135, hf⟩ := zb1_in hf
        refine zc_i (va_runV (As := []) (rest := []) C (mX8_length l D cI H.size h_t h_p h_d h_s h_fm h_s_file h_s_file_bytes s_file_size s_file_bytes r134 hc135) (qL_law_X8_length_54 hts) ⟨zP_blind, va_recv hK hP (ci := 7) (q0 := 0) rfl rfl, zpre hK hN hP hD [0, 6, 7] rfl rfl⟩ rfl rfl hl.1 rfl (lv_room (Nat.le_of_ble_eq_true rfl)) dL_law_342 (zroomL hk)) hP hD hS hA [0, 6, 7] [1, 2, 3, 4, 5, 8, 9, 10, 11, 12, 13, 14, 15, 16, 17, 18, 19, 20, 21, 22] [20, 0, 1, 2, 3, 4, 21, 22, 5, 6, 7, 8, 9, 10, 11, 12, 13, 14, 15, 16, 17, 18, 19] (ws' := zwL cI cF h_t h_p h_p_pixels h_d h_d_pixels h_s h_s_file h_s_file_bytes h_fm h_c h_c_table h_m h_b h_b_colours h_k h_r h_r_now h_r_file h_r_fresh h_r_colour h_r_table h_r_last h_r_one p_wide p_high p_pixels d_wide d_high d_pixels s_place s_file_size s_file_bytes c_last c_table m_inDigits m_greatest b_known b_depth b_packing b_isUpward b_column b_up b_colours k_depth k_left k_isRepeated k_held r_wide r_high r_size r_at r_fault r_newWide r_newHigh r_colours r_now r_file r_fresh r_colour r_table r_last r_one) rfl rfl rfl rfl rfl rfl (fun H locs hP hD hS => ?_)
        refine lv_aload_n hx hb dL_law_345 rfl (lv_at hl 2 rfl) ?_
        obtain ⟨r136, hc137, hf⟩ := zb1_in hf
        refine zc_i (va_runV (As := []) (rest := [.int r134]) C (mX9_length l D cI H.size h_r h_r_now h_r_file h_r_fresh h_r_colour h_r_table h_r_last h_r_one r_wide r_high r_size r_at r_fault r_newWide r_newHigh r_colours r_now r_file r_fresh r_colour r_table r_last r_one r136 hc137) (qL_law_X9_length_57 hts) ⟨zP_blind, va_recv hK hP (ci := 8) (q0 := 15) rfl rfl, zpre hK hN hP hD [15, 16, 17, 18, 19, 20, 21, 22] rfl rfl⟩ rfl rfl hl.1 rfl (lv_room (Nat.le_of_ble_eq_true rfl)) dL_law_346 (zroomL hk)) hP hD hS hA [15, 16, 17, 18, 19, 20, 21, 22] [0, 1, 2, 3, 4, 5, 6, 7, 8, 9, 10, 11, 12, 13, 14] [0, 1, 2, 3, 4, 5, 6, 7, 8, 9, 10, 11, 12, 13, 14, 15, 16, 17, 18, 19, 20, 21, 22] (ws' := zwL cI cF h_t h_p h_p_pixels h_d h_d_pixels h_s h_s_file h_s_file_bytes h_fm h_c h_c_table h_m h_b h_b_colours h_k h_r h_r_now h_r_file h_r_fresh h_r_colour h_r_table h_r_last h_r_one p_wide p_high p_pixels d_wide d_high d_pixels s_place s_file_size s_file_bytes c_last c_table m_inDigits m_greatest b_known b_depth b_packing b_isUpward b_column b_up b_colours k_depth k_left k_isRepeated k_held r_wide r_high r_size r_at r_fault r_newWide r_newHigh r_colours r_now r_file r_fresh r_colour r_table r_last r_one) rfl rfl rfl rfl rfl rfl (fun H locs hP hD hS => ?_)
        refine lv_icmp_eq (tgt := 436) hx hb dL_law_349 (by decide) (fun c138 => ?_) (fun c138 => ?_)
        · replace hf := zif_t hf c138
          exact wL_law_436 C hN hK2 hA hT hst hNc hX hbl hbA hE hr_18 hf hk hP hD hS (lv_sub hl [0, 1, 2, 3] rfl)
        · replace hf := zif_f hf c138
          refine lv_iconst (v := 0) hx hb dL_law_352 (by decide) ?_
          cases hf
          exact hE _ _ _ _ _ dL_law_353 hS hk
      replace hf := zif_f hf c133
      by_cases c139 : x4 = 10
      · replace hf := zif_t hf c139
        refine lv_tableIn (tgt := 354) hx hb dL_law_32 (by rw [c139]; decide) (by rw [c139]; decide) (by rw [c139]; rfl) (by decide) ?_
        refine lv_aload_n hx hb dL_law_354 rfl (lv_at hl 1 rfl) ?_
        refine lv_aload_n hx hb dL_law_355 rfl (lv_at hl 0 rfl) ?_
        refine lv_iload_n hx hb dL_law_356 rfl (lv_at hl 3 rfl) ?_
        refine lv_iconst (v := 1) hx hb dL_law_357 (by decide) ?_
        refine lv_iadd hx hb dL_law_358 ?_
        obtain ⟨hg141, hf⟩ := zrd_in hf
        refine va_sld hx hb hX hbl hbA hS hg141 dL_law_359 ?_
        refine lv_topi (fun x140 ex140 => ?_)
        replace hf := hf x140 ex140
        clear ex140
        obtain ⟨r142, hc143, hf⟩ := zb1_in hf
        refine zc_i (va_runV (As := [.int x140]) (rest := []) C (mX8_byteAt l D cI H.size h_t h_p h_d h_s h_fm h_s_file h_s_file_bytes s_file_size s_file_bytes x140 r142 hc143) (qL_law_X8_byteAt_58 hts) ⟨zP_blind, va_recv hK hP (ci := 7) (q0 := 0) rfl rfl, zpre hK hN hP hD [0, 6, 7] rfl rfl⟩ rfl rfl hl.1 rfl (lv_room (Nat.le_of_ble_eq_true rfl)) dL_law_360 (zroomL hk)) hP hD hS hA [0, 6, 7] [1, 2, 3, 4, 5, 8, 9, 10, 11, 12, 13, 14, 15, 16, 17, 18, 19, 20, 21, 22] [20, 0, 1, 2, 3, 4, 21, 22, 5, 6, 7, 8, 9, 10, 11, 12, 13, 14, 15, 16, 17, 18, 19] (ws' := zwL cI cF h_t h_p h_p_pixels h_d h_d_pixels h_s h_s_file h_s_file_bytes h_fm h_c h_c_table h_m h_b h_b_colours h_k h_r h_r_now h_r_file h_r_fresh h_r_colour h_r_table h_r_last h_r_one p_wide p_high p_pixels d_wide d_high d_pixels s_place s_file_size s_file_bytes c_last c_table m_inDigits m_greatest b_known b_depth b_packing b_isUpward b_column b_up b_colours k_depth k_left k_isRepeated k_held r_wide r_high r_size r_at r_fault r_newWide r_newHigh r_colours r_now r_file r_fresh r_colour r_table r_last r_one) rfl rfl rfl rfl rfl rfl (fun H locs hP hD hS => ?_)
        refine lv_aload_n hx hb dL_law_363 rfl (lv_at hl 2 rfl) ?_
        refine lv_aload_n hx hb dL_law_364 rfl (lv_at hl 0 rfl) ?_
        refine lv_iload_n hx hb dL_law_365 rfl (lv_at hl 3 rfl) ?_
        refine lv_iconst (v := 1) hx hb dL_law_366 (by decide) ?_
        refine lv_iadd hx hb dL_law_367 ?_
        obtain ⟨hg145, hf⟩ := zrd_in hf
        refine va_sld hx hb hX hbl hbA hS hg145 dL_law_368 ?_
        refine lv_topi (fun x144 ex144 => ?_)
        replace hf := hf x144 ex144
        clear ex144
        obtain ⟨r146, hc147, hf⟩ := zb1_in hf
        refine zc_i (va_runV (As := [.int x144]) (rest := [.int r142]) C (mX9_byteAt l D cI H.size h_r h_r_now h_r_file h_r_fresh h_r_colour h_r_table h_r_last h_r_one r_wide r_high r_size r_at r_fault r_newWide r_newHigh r_colours r_now r_file r_fresh r_colour r_table r_last r_one x144 r146 hc147) (qL_law_X9_byteAt_62 hts) ⟨zP_blind, va_recv hK hP (ci := 8) (q0 := 15) rfl rfl, zpre hK hN hP hD [15, 16, 17, 18, 19, 20, 21, 22] rfl rfl⟩ rfl rfl hl.1 rfl (lv_room (Nat.le_of_ble_eq_true rfl)) dL_law_369 (zroomL hk)) hP hD hS hA [15, 16, 17, 18, 19, 20, 21, 22] [0, 1, 2, 3, 4, 5, 6, 7, 8, 9, 10, 11, 12, 13, 14] [0, 1, 2, 3, 4, 5, 6, 7, 8, 9, 10, 11, 12, 13, 14, 15, 16, 17, 18, 19, 20, 21, 22] (ws' := zwL cI cF h_t h_p h_p_pixels h_d h_d_pixels h_s h_s_file h_s_file_bytes h_fm h_c h_c_table h_m h_b h_b_colours h_k h_r h_r_now h_r_file h_r_fresh h_r_colour h_r_table h_r_last h_r_one p_wide p_high p_pixels d_wide d_high d_pixels s_place s_file_size s_file_bytes c_last c_table m_inDigits m_greatest b_known b_depth b_packing b_isUpward b_column b_up b_colours k_depth k_left k_isRepeated k_held r_wide r_high r_size r_at r_fault r_newWide r_newHigh r_colours r_now r_file r_fresh r_colour r_table r_last r_one) rfl rfl rfl rfl rfl rfl (fun H locs hP hD hS => ?_)
        refine lv_icmp_eq (tgt := 436) hx hb dL_law_372 (by decide) (fun c148 => ?_) (fun c148 => ?_)
        · replace hf := zif_t hf c148
          exact wL_law_436 C hN hK2 hA hT hst hNc hX hbl hbA hE hr_18 hf hk hP hD hS (lv_sub hl [0, 1, 2, 3] rfl)
        · replace hf := zif_f hf c148
          refine lv_iconst (v := 0) hx hb dL_law_375 (by decide) ?_
          cases hf
          exact hE _ _ _ _ _ dL_law_376 hS hk
      replace hf := zif_f hf c139
      by_cases c149 : x4 = 11
      · replace hf := zif_t hf c149
        refine lv_tableIn (tgt := 377) hx hb dL_law_32 (by rw [c149]; decide) (by rw [c149]; decide) (by rw [c149]; rfl) (by decide) ?_
        refine lv_aload_n hx hb dL_law_377 rfl (lv_at hl 1 rfl) ?_
        obtain ⟨r150, hc151, hf⟩ := zb1_in hf
        refine zc_i (va_runV (As := []) (rest := []) C (mX8_sniff l D cI cF H.size h_t h_p h_d h_s h_s_file h_s_file_bytes h_fm h_c h_c_table h_m h_b h_b_colours h_k s_file_size s_file_bytes c_last c_table m_inDigits m_greatest b_known b_depth b_packing b_isUpward b_column b_up b_colours k_depth k_left k_isRepeated k_held r150 hc151) (qL_law_X8_sniff_63 hts) ⟨zP_blind, va_recv hK hP (ci := 7) (q0 := 0) rfl rfl, zpre hK2 hN hP hD [0, 6, 7, 8, 9, 10, 11, 12, 13, 14] rfl rfl⟩ rfl rfl hl.1 rfl (lv_room (Nat.le_of_ble_eq_true rfl)) dL_law_378 (zroomL hk)) hP hD hS hA [0, 6, 7, 8, 9, 10, 11, 12, 13, 14] [1, 2, 3, 4, 5, 15, 16, 17, 18, 19, 20, 21, 22] [13, 0, 1, 2, 3, 4, 14, 15, 16, 17, 18, 19, 20, 21, 22, 5, 6, 7, 8, 9, 10, 11, 12] (ws' := zwL cI cF h_t h_p h_p_pixels h_d h_d_pixels h_s h_s_file h_s_file_bytes h_fm h_c h_c_table h_m h_b h_b_colours h_k h_r h_r_now h_r_file h_r_fresh h_r_colour h_r_table h_r_last h_r_one p_wide p_high p_pixels d_wide d_high d_pixels s_place s_file_size s_file_bytes c_last c_table m_inDigits m_greatest b_known b_depth b_packing b_isUpward b_column b_up b_colours k_depth k_left k_isRepeated k_held r_wide r_high r_size r_at r_fault r_newWide r_newHigh r_colours r_now r_file r_fresh r_colour r_table r_last r_one) rfl rfl rfl rfl rfl rfl (fun H locs hP hD hS => ?_)
        refine lv_aload_n hx hb dL_law_381 rfl (lv_at hl 2 rfl) ?_
        obtain ⟨r152, hc153, hf⟩ := zb1_in hf
        refine zc_i (va_runV (As := []) (rest := [.int r150]) C (mX9_sniff l D cI H.size h_r h_r_now h_r_file h_r_fresh h_r_colour h_r_table h_r_last h_r_one r_wide r_high r_size r_at r_fault r_newWide r_newHigh r_colours r_now r_file r_fresh r_colour r_table r_last r_one r152 hc153) (qL_law_X9_sniff_66 hts) ⟨zP_blind, va_recv hK hP (ci := 8) (q0 := 15) rfl rfl, zpre hK hN hP hD [15, 16, 17, 18, 19, 20, 21, 22] rfl rfl⟩ rfl rfl hl.1 rfl (lv_room (Nat.le_of_ble_eq_true rfl)) dL_law_382 (zroomL hk)) hP hD hS hA [15, 16, 17, 18, 19, 20, 21, 22] [0, 1, 2, 3, 4, 5, 6, 7, 8, 9, 10, 11, 12, 13, 14] [0, 1, 2, 3, 4, 5, 6, 7, 8, 9, 10, 11, 12, 13, 14, 15, 16, 17, 18, 19, 20, 21, 22] (ws' := zwL cI cF h_t h_p h_p_pixels h_d h_d_pixels h_s h_s_file h_s_file_bytes h_fm h_c h_c_table h_m h_b h_b_colours h_k h_r h_r_now h_r_file h_r_fresh h_r_colour h_r_table h_r_last h_r_one p_wide p_high p_pixels d_wide d_high d_pixels s_place s_file_size s_file_bytes c_last c_table m_inDigits m_greatest b_known b_depth b_packing b_isUpward b_column b_up b_colours k_depth k_left k_isRepeated k_held r_wide r_high r_size r_at r_fault r_newWide r_newHigh r_colours r_now r_file r_fresh r_colour r_table r_last r_one) rfl rfl rfl rfl rfl rfl (fun H locs hP hD hS => ?_)
        refine lv_icmp_eq (tgt := 436) hx hb dL_law_385 (by decide) (fun c154 => ?_) (fun c154 => ?_)
        · replace hf := zif_t hf c154
          exact wL_law_436 C hN hK2 hA hT hst hNc hX hbl hbA hE hr_18 hf hk hP hD hS (lv_sub hl [0, 1, 2, 3] rfl)
        · replace hf := zif_f hf c154
          refine lv_iconst (v := 0) hx hb dL_law_388 (by decide) ?_
          cases hf
          exact hE _ _ _ _ _ dL_law_389 hS hk
      replace hf := zif_f hf c149
      by_cases c155 : x4 = 12
      · replace hf := zif_t hf c155
        refine lv_tableIn (tgt := 390) hx hb dL_law_32 (by rw [c155]; decide) (by rw [c155]; decide) (by rw [c155]; rfl) (by decide) ?_
        refine lv_aload_n hx hb dL_law_390 rfl (lv_at hl 1 rfl) ?_
        refine lv_aload_n hx hb dL_law_391 rfl (lv_at hl 0 rfl) ?_
        refine lv_iload_n hx hb dL_law_392 rfl (lv_at hl 3 rfl) ?_
        refine lv_iconst (v := 1) hx hb dL_law_393 (by decide) ?_
        refine lv_iadd hx hb dL_law_394 ?_
        obtain ⟨hg157, hf⟩ := zrd_in hf
        refine va_sld hx hb hX hbl hbA hS hg157 dL_law_395 ?_
        refine lv_topi (fun x156 ex156 => ?_)
        replace hf := hf x156 ex156
        clear ex156
        refine lv_aload_n hx hb dL_law_396 rfl (lv_at hl 0 rfl) ?_
        refine lv_iload_n hx hb dL_law_397 rfl (lv_at hl 3 rfl) ?_
        refine lv_iconst (v := 2) hx hb dL_law_398 (by decide) ?_
        refine lv_iadd hx hb dL_law_399 ?_
        obtain ⟨hg159, hf⟩ := zrd_in hf
        refine va_sld hx hb hX hbl hbA hS hg159 dL_law_400 ?_
        refine lv_topi (fun x158 ex158 => ?_)
        replace hf := hf x158 ex158
        clear ex158
        obtain ⟨r160, u161, u162, u163, u164, u165, u166, u167, hc168, hf⟩ := zb8_in hf
        refine zc_i (va_runV (As := [.int x156, .int x158]) (rest := []) C (mX8_encode l D cI cF H.size h_t h_d h_s h_p h_p_pixels h_s_file h_s_file_bytes h_fm h_c h_c_table h_m h_b h_b_colours h_k p_wide p_high p_pixels s_file_size s_file_bytes c_last c_table m_inDigits m_greatest b_known b_depth b_packing b_isUpward b_column b_up b_colours k_depth k_left k_isRepeated k_held x156 x158 r160 u161 u162 u163 u164 u165 u166 u167 hc168) (qL_law_X8_encode_67 hts) ⟨zP_blind, va_recv hK hP (ci := 7) (q0 := 0) rfl rfl, zpre hK2 hN hP hD [0, 1, 2, 6, 7, 8, 9, 10, 11, 12, 13, 14] rfl rfl⟩ rfl rfl hl.1 rfl (lv_room (Nat.le_of_ble_eq_true rfl)) dL_law_401 (zroomL hk)) hP hD hS hA [0, 1, 2, 6, 7, 8, 9, 10, 11, 12, 13, 14] [3, 4, 5, 15, 16, 17, 18, 19, 20, 21, 22] [11, 12, 13, 0, 1, 2, 14, 15, 16, 17, 18, 19, 20, 21, 22, 3, 4, 5, 6, 7, 8, 9, 10] (ws' := zwL cI cF h_t h_p h_p_pixels h_d h_d_pixels h_s h_s_file h_s_file_bytes h_fm h_c h_c_table h_m h_b h_b_colours h_k h_r h_r_now h_r_file h_r_fresh h_r_colour h_r_table h_r_last h_r_one p_wide p_high p_pixels d_wide d_high d_pixels s_place u161 u162 u163 u164 m_inDigits m_greatest u165 b_depth b_packing b_isUpward b_column b_up u166 u167 k_left k_isRepeated k_held r_wide r_high r_size r_at r_fault r_newWide r_newHigh r_colours r_now r_file r_fresh r_colour r_table r_last r_one) rfl rfl rfl rfl rfl rfl (fun H locs hP hD hS => ?_)
        refine lv_aload_n hx hb dL_law_404 rfl (lv_at hl 2 rfl) ?_
        refine lv_aload_n hx hb dL_law_405 rfl (lv_at hl 0 rfl) ?_
        refine lv_iload_n hx hb dL_law_406 rfl (lv_at hl 3 rfl) ?_
        refine lv_iconst (v := 1) hx hb dL_law_407 (by decide) ?_
        refine lv_iadd hx hb dL_law_408 ?_
        obtain ⟨hg170, hf⟩ := zrd_in hf
        refine va_sld hx hb hX hbl hbA hS hg170 dL_law_409 ?_
        refine lv_topi (fun x169 ex169 => ?_)
        replace hf := hf x169 ex169
        clear ex169
        refine lv_aload_n hx hb dL_law_410 rfl (lv_at hl 0 rfl) ?_
        refine lv_iload_n hx hb dL_law_411 rfl (lv_at hl 3 rfl) ?_
        refine lv_iconst (v := 2) hx hb dL_law_412 (by decide) ?_
        refine lv_iadd hx hb dL_law_413 ?_
        obtain ⟨hg172, hf⟩ := zrd_in hf
        refine va_sld hx hb hX hbl hbA hS hg172 dL_law_414 ?_
        refine lv_topi (fun x171 ex171 => ?_)
        replace hf := hf x171 ex171
        clear ex171
        obtain ⟨r173, u174, u175, u176, u177, hc178, hf⟩ := zb5_in hf
        refine zc_i (va_runV (As := [.int x169, .int x171]) (rest := [.int r160]) C (mX9_encode l D cI H.size h_r h_r_now h_r_file h_r_fresh h_r_colour h_r_table h_r_last h_r_one r_wide r_high r_size r_at r_fault r_newWide r_newHigh r_colours r_now r_file r_fresh r_colour r_table r_last r_one x169 x171 r173 u174 u175 u176 u177 hc178) (qL_law_X9_encode_70 hts) ⟨zP_blind, va_recv hK hP (ci := 8) (q0 := 15) rfl rfl, zpre hK hN hP hD [15, 16, 17, 18, 19, 20, 21, 22] rfl rfl⟩ rfl rfl hl.1 rfl (lv_room (Nat.le_of_ble_eq_true rfl)) dL_law_415 (zroomL hk)) hP hD hS hA [15, 16, 17, 18, 19, 20, 21, 22] [0, 1, 2, 3, 4, 5, 6, 7, 8, 9, 10, 11, 12, 13, 14] [0, 1, 2, 3, 4, 5, 6, 7, 8, 9, 10, 11, 12, 13, 14, 15, 16, 17, 18, 19, 20, 21, 22] (ws' := zwL cI cF h_t h_p h_p_pixels h_d h_d_pixels h_s h_s_file h_s_file_bytes h_fm h_c h_c_table h_m h_b h_b_colours h_k h_r h_r_now h_r_file h_r_fresh h_r_colour h_r_table h_r_last h_r_one p_wide p_high p_pixels d_wide d_high d_pixels s_place u161 u162 u163 u164 m_inDigits m_greatest u165 b_depth b_packing b_isUpward b_column b_up u166 u167 k_left k_isRepeated k_held r_wide r_high u174 r_at r_fault r_newWide r_newHigh r_colours r_now u175 r_fresh r_colour u176 u177 r_one) rfl rfl rfl rfl rfl rfl (fun H locs hP hD hS => ?_)
        refine lv_icmp_eq (tgt := 436) hx hb dL_law_418 (by decide) (fun c179 => ?_) (fun c179 => ?_)
        · replace hf := zif_t hf c179
          exact wL_law_436 C hN hK2 hA hT hst hNc hX hbl hbA hE hr_18 hf hk hP hD hS (lv_sub hl [0, 1, 2, 3] rfl)
        · replace hf := zif_f hf c179
          refine lv_iconst (v := 0) hx hb dL_law_421 (by decide) ?_
          cases hf
          exact hE _ _ _ _ _ dL_law_422 hS hk
      replace hf := zif_f hf c155
      by_cases c180 : x4 = 13
      · replace hf := zif_t hf c180
        refine lv_tableIn (tgt := 423) hx hb dL_law_32 (by rw [c180]; decide) (by rw [c180]; decide) (by rw [c180]; rfl) (by decide) ?_
        refine lv_aload_n hx hb dL_law_423 rfl (lv_at hl 1 rfl) ?_
        obtain ⟨tg181, r182, u183, u184, u185, u186, u187, u188, u189, u190, u191, u192, u193, u194, u195, u196, u197, u198, u199, u200, u201, u202, u203, u204, hc205, hf⟩ := zb24_in hf
        obtain ⟨hk1, hf⟩ := zkc_in hf
        refine zc_i (vx_runVW (As := []) (rest := []) C (mX8_decode l hst D cI cF H.size h_t h_p h_p_pixels h_d h_d_pixels h_s h_s_file h_s_file_bytes h_fm h_c h_c_table h_m h_b h_b_colours h_k p_wide p_high p_pixels d_wide d_high d_pixels s_place s_file_size s_file_bytes c_last c_table m_inDigits m_greatest b_known b_depth b_packing b_isUpward b_column b_up b_colours k_depth k_left k_isRepeated k_held tg181 r182 u183 u184 u185 u186 u187 u188 u189 u190 u191 u192 u193 u194 u195 u196 u197 u198 u199 u200 u201 u202 u203 u204 hc205) (qL_law_X8_decode_71 hts) ⟨zPD_blind, va_recv hK hP (ci := 7) (q0 := 0) rfl rfl, zpreD hK2 hN hT hNc hA hS hP hD [0, 1, 2, 3, 4, 5, 6, 7, 8, 9, 10, 11, 12, 13, 14] rfl rfl⟩ rfl rfl hl.1 rfl (lv_room (Nat.le_of_ble_eq_true rfl)) dL_law_424 (zroomD hk1)) hP hD hS hA [0, 1, 2, 3, 4, 5, 6, 7, 8, 9, 10, 11, 12, 13, 14] [15, 16, 17, 18, 19, 20, 21, 22] [8, 9, 10, 11, 12, 13, 14, 15, 16, 17, 18, 19, 20, 21, 22, 0, 1, 2, 3, 4, 5, 6, 7] (ws' := zwL cI cF h_t h_p h_p_pixels h_d h_d_pixels h_s h_s_file h_s_file_bytes h_fm h_c h_c_table h_m h_b h_b_colours h_k h_r h_r_now h_r_file h_r_fresh h_r_colour h_r_table h_r_last h_r_one u183 u184 u185 u186 u187 u188 u189 s_file_size s_file_bytes u190 u191 u192 u193 u194 u195 u196 u197 u198 u199 u200 u201 u202 u203 u204 r_wide r_high r_size r_at r_fault r_newWide r_newHigh r_colours r_now r_file r_fresh r_colour r_table r_last r_one) rfl rfl rfl rfl rfl rfl (fun H locs hP hD hS => ?_)
        refine W.widen (k := 23 + (kc + 1)) (n := 2937 + 6 * (kc + 1)) (zwid1 _ _) (zwid2 _ _) ?_
        replace hk := Nat.succ_le_of_lt hk1
        refine lv_aload_n hx hb dL_law_427 rfl (lv_at hl 2 rfl) ?_
        obtain ⟨r206, u207, u208, u209, u210, u211, u212, u213, u214, u215, u216, u217, u218, u219, hc220, hf⟩ := zb14_in hf
        refine zc_i (va_runV (As := []) (rest := [.int r182]) C (mX9_decode l D cI H.size h_r h_r_now h_r_file h_r_fresh h_r_colour h_r_table h_r_last h_r_one r_wide r_high r_size r_at r_fault r_newWide r_newHigh r_colours r_now r_file r_fresh r_colour r_table r_last r_one r206 u207 u208 u209 u210 u211 u212 u213 u214 u215 u216 u217 u218 u219 hc220) (qL_law_X9_decode_74 hts) ⟨zP_blind, va_recv hK hP (ci := 8) (q0 := 15) rfl rfl, zpre hK hN hP hD [15, 16, 17, 18, 19, 20, 21, 22] rfl rfl⟩ rfl rfl hl.1 rfl (lv_room (Nat.le_of_ble_eq_true rfl)) dL_law_428 (zroomL hk)) hP hD hS hA [15, 16, 17, 18, 19, 20, 21, 22] [0, 1, 2, 3, 4, 5, 6, 7, 8, 9, 10, 11, 12, 13, 14] [0, 1, 2, 3, 4, 5, 6, 7, 8, 9, 10, 11, 12, 13, 14, 15, 16, 17, 18, 19, 20, 21, 22] (ws' := zwL cI cF h_t h_p h_p_pixels h_d h_d_pixels h_s h_s_file h_s_file_bytes h_fm h_c h_c_table h_m h_b h_b_colours h_k h_r h_r_now h_r_file h_r_fresh h_r_colour h_r_table h_r_last h_r_one u183 u184 u185 u186 u187 u188 u189 s_file_size s_file_bytes u190 u191 u192 u193 u194 u195 u196 u197 u198 u199 u200 u201 u202 u203 u204 u207 u208 r_size u209 u210 u211 u212 u213 u214 r_file u215 u216 u217 u218 u219) rfl rfl rfl rfl rfl rfl (fun H locs hP hD hS => ?_)
        refine lv_icmp_eq (tgt := 436) hx hb dL_law_431 (by decide) (fun c221 => ?_) (fun c221 => ?_)
        · replace hf := zif_t hf c221
          exact wL_law_436 C hN hK2 hA hT hst hNc hX hbl hbA hE hr_18 hf hk hP hD hS (lv_sub hl [0, 1, 2, 3] rfl)
        · replace hf := zif_f hf c221
          refine lv_iconst (v := 0) hx hb dL_law_434 (by decide) ?_
          cases hf
          exact hE _ _ _ _ _ dL_law_435 hS hk
      replace hf := zif_f hf c180
      refine lv_tableOut (tgt := 436) hx hb dL_law_32 (ztab 13 (zall13 c5 c25 c45 c59 c65 c71 c91 c105 c117 c133 c139 c149 c155 c180)) (by decide) ?_
      exact wL_law_436 C hN hK2 hA hT hst hNc hX hbl hbA hE hr_18 hf hk hP hD hS (lv_sub hl [0, 1, 2, 3] rfl)
