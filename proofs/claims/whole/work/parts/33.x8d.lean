def zwC (cI cF : ClassId) (h_t h_p h_p_pixels h_d h_d_pixels h_s h_s_file h_s_file_bytes h_fm h_c h_c_table h_m h_b h_b_colours h_k : Nat) (p_wide : Int32) (p_high : Int32) (p_pixels : Nat → Int32) (d_wide : Int32) (d_high : Int32) (d_pixels : Nat → Int32) (s_place : Int32) (s_file_size : Int32) (s_file_bytes : Nat → Int32) (c_last : Int32) (c_table : Nat → Int32) (m_inDigits : Int32) (m_greatest : Int32) (b_known : Int32) (b_depth : Int32) (b_packing : Int32) (b_isUpward : Int32) (b_column : Int32) (b_up : Int32) (b_colours : Nat → Int32) (k_depth : Int32) (k_left : Int32) (k_isRepeated : Int32) (k_held : Int32) : va_W := [(h_t, .inr (7, [.ref h_p, .ref h_d, .ref h_s_file, .ref h_s, .ref h_fm])), (h_p, .inr (4, [.ref h_p_pixels, .int p_wide, .int p_high])), (h_p_pixels, .inl (cI, 64, .inl p_pixels)), (h_d, .inr (4, [.ref h_d_pixels, .int d_wide, .int d_high])), (h_d_pixels, .inl (cI, 64, .inl d_pixels)), (h_s, .inr (6, [.ref h_s_file, .int s_place])), (h_s_file, .inr (2, [.ref h_s_file_bytes, .int s_file_size])), (h_s_file_bytes, .inl (cI, 800, .inl s_file_bytes)), (h_fm, .inl (cF, 4, .inr (.inr (.inr (.inr (zfm h_c h_m h_b h_k)))))), (h_c, .inr (1, [.ref h_c_table, .int c_last])), (h_c_table, .inl (cI, 64, .inl c_table)), (h_m, .inr (5, [.int m_inDigits, .int m_greatest])), (h_b, .inr (0, [.ref h_b_colours, .int b_known, .int b_depth, .int b_packing, .int b_isUpward, .int b_column, .int b_up])), (h_b_colours, .inl (cI, 64, .inl b_colours)), (h_k, .inr (3, [.int k_depth, .int k_left, .int k_isRepeated, .int k_held]))]
def fX8_decode (p_wide : Int32) (p_high : Int32) (p_pixels : Nat → Int32) (d_wide : Int32) (d_high : Int32) (d_pixels : Nat → Int32) (s_place : Int32) (s_file_size : Int32) (s_file_bytes : Nat → Int32) (c_last : Int32) (c_table : Nat → Int32) (m_inDigits : Int32) (m_greatest : Int32) (b_known : Int32) (b_depth : Int32) (b_packing : Int32) (b_isUpward : Int32) (b_column : Int32) (b_up : Int32) (b_colours : Nat → Int32) (k_depth : Int32) (k_left : Int32) (k_isRepeated : Int32) (k_held : Int32) : Option (Nat × Int32 × Int32 × Int32 × (Nat → Int32) × Int32 × Int32 × (Nat → Int32) × Int32 × Int32 × (Nat → Int32) × Int32 × Int32 × Int32 × Int32 × Int32 × Int32 × Int32 × Int32 × (Nat → Int32) × Int32 × Int32 × Int32 × Int32) :=
  zb1 (fX8_sniff s_file_size s_file_bytes) fun r1 =>
  if r1 = (-1) then
    some (0, (-1), p_wide, p_high, p_pixels, d_wide, d_high, d_pixels, s_place, c_last, c_table, m_inDigits, m_greatest, b_known, b_depth, b_packing, b_isUpward, b_column, b_up, b_colours, k_depth, k_left, k_isRepeated, k_held)
  else
    if r1 = 0 then
      zb7 (fX1_read c_last c_table 0 s_file_size s_file_bytes d_wide d_high d_pixels) fun tg5 u6 u7 u8 u9 u10 u11 =>
      if tg5 = 0 then
        zb3 (fX5_become p_pixels u9 u10 u11) fun u13 u14 u15 =>
        some (0, 0, u13, u14, u15, u9, u10, u11, u8, u6, u7, m_inDigits, m_greatest, b_known, b_depth, b_packing, b_isUpward, b_column, b_up, b_colours, k_depth, k_left, k_isRepeated, k_held)
      else
        if tg5 = 1 then
          some (tg5, (-2), p_wide, p_high, p_pixels, u9, u10, u11, u8, u6, u7, m_inDigits, m_greatest, b_known, b_depth, b_packing, b_isUpward, b_column, b_up, b_colours, k_depth, k_left, k_isRepeated, k_held)
        else
          some (tg5, (-3), p_wide, p_high, p_pixels, u9, u10, u11, u8, u6, u7, m_inDigits, m_greatest, b_known, b_depth, b_packing, b_isUpward, b_column, b_up, b_colours, k_depth, k_left, k_isRepeated, k_held)
    else
      if r1 = 1 then
        zb7 (fX6_read m_inDigits m_greatest 0 s_file_size s_file_bytes d_wide d_high d_pixels) fun tg18 u19 u20 u21 u22 u23 u24 =>
        if tg18 = 0 then
          zb3 (fX5_become p_pixels u22 u23 u24) fun u26 u27 u28 =>
          some (0, 1, u26, u27, u28, u22, u23, u24, u21, c_last, c_table, u19, u20, b_known, b_depth, b_packing, b_isUpward, b_column, b_up, b_colours, k_depth, k_left, k_isRepeated, k_held)
        else
          if tg18 = 1 then
            some (tg18, (-2), p_wide, p_high, p_pixels, u22, u23, u24, u21, c_last, c_table, u19, u20, b_known, b_depth, b_packing, b_isUpward, b_column, b_up, b_colours, k_depth, k_left, k_isRepeated, k_held)
          else
            some (tg18, (-3), p_wide, p_high, p_pixels, u22, u23, u24, u21, c_last, c_table, u19, u20, b_known, b_depth, b_packing, b_isUpward, b_column, b_up, b_colours, k_depth, k_left, k_isRepeated, k_held)
      else
        if r1 = 2 then
          zb12 (fX0_read b_known b_depth b_packing b_isUpward b_column b_up b_colours 0 s_file_size s_file_bytes d_wide d_high d_pixels) fun tg31 u32 u33 u34 u35 u36 u37 u38 u39 u40 u41 u42 =>
          if tg31 = 0 then
            zb3 (fX5_become p_pixels u40 u41 u42) fun u44 u45 u46 =>
            some (0, 2, u44, u45, u46, u40, u41, u42, u39, c_last, c_table, m_inDigits, m_greatest, u32, u33, u34, u35, u36, u37, u38, k_depth, k_left, k_isRepeated, k_held)
          else
            if tg31 = 1 then
              some (tg31, (-2), p_wide, p_high, p_pixels, u40, u41, u42, u39, c_last, c_table, m_inDigits, m_greatest, u32, u33, u34, u35, u36, u37, u38, k_depth, k_left, k_isRepeated, k_held)
            else
              some (tg31, (-3), p_wide, p_high, p_pixels, u40, u41, u42, u39, c_last, c_table, m_inDigits, m_greatest, u32, u33, u34, u35, u36, u37, u38, k_depth, k_left, k_isRepeated, k_held)
        else
          if r1 = 3 then
            zb9 (fX4_read k_depth k_left k_isRepeated k_held 0 s_file_size s_file_bytes d_wide d_high d_pixels) fun tg49 u50 u51 u52 u53 u54 u55 u56 u57 =>
            if tg49 = 0 then
              zb3 (fX5_become p_pixels u55 u56 u57) fun u59 u60 u61 =>
              some (0, 3, u59, u60, u61, u55, u56, u57, u54, c_last, c_table, m_inDigits, m_greatest, b_known, b_depth, b_packing, b_isUpward, b_column, b_up, b_colours, u50, u51, u52, u53)
            else
              if tg49 = 1 then
                some (tg49, (-2), p_wide, p_high, p_pixels, u55, u56, u57, u54, c_last, c_table, m_inDigits, m_greatest, b_known, b_depth, b_packing, b_isUpward, b_column, b_up, b_colours, u50, u51, u52, u53)
              else
                some (tg49, (-3), p_wide, p_high, p_pixels, u55, u56, u57, u54, c_last, c_table, m_inDigits, m_greatest, b_known, b_depth, b_packing, b_isUpward, b_column, b_up, b_colours, u50, u51, u52, u53)
          else
            none
def rmX8_decode (tg : Nat) : Room := { frames := 12, cells := zc tg, slots := zs tg, locals := 227 }
theorem kX8_decode_10 {args : Array Value} {s : State} (h : ∀ w ∈ wsX8_decode, w.before args s = true) : (Cond.fieldLink RX8 10 "FourPictureFiles" "picture" "LFourPictureFiles$Picture;").before args s = true := h _ (by decide +kernel)
theorem kX8_decode_16 {args : Array Value} {s : State} (h : ∀ w ∈ wsX8_decode, w.before args s = true) : (Cond.fieldLink RX8 16 "FourPictureFiles" "draft" "LFourPictureFiles$Picture;").before args s = true := h _ (by decide +kernel)
theorem kX8_decode_31 {args : Array Value} {s : State} (h : ∀ w ∈ wsX8_decode, w.before args s = true) : (Cond.fieldLink RX8 31 "FourPictureFiles" "source" "LFourPictureFiles$Source;").before args s = true := h _ (by decide +kernel)
theorem kX8_decode_37 {args : Array Value} {s : State} (h : ∀ w ∈ wsX8_decode, w.before args s = true) : (Cond.fieldLink RX8 37 "FourPictureFiles" "formats" "[LFourPictureFiles$Format;").before args s = true := h _ (by decide +kernel)
theorem iX8_decode_X7 : ∀ w ∈ u_ws RX7 TX7 2, w ∈ wsX8_decode := by decide +kernel
theorem iX8_decode_X8 : ∀ w ∈ u_ws RX8 TX8 5, w ∈ wsX8_decode := by decide +kernel
theorem qX8_decode_X0_read_134 {args : Array Value} {s : State} {tg0 : Nat} {tg : Nat} (hts : ∀ w ∈ wsX8_decode, w.before args s = true) (hN : zN s) : va_CU (rmX8_decode tg0) s args RX8 RX0 "FourPictureFiles$Format" 134 ⟨"FourPictureFiles$Format", "read", "(LFourPictureFiles$Source;LFourPictureFiles$Picture;)V"⟩ yX0_read cX0_read 5 none wsX0_read (rmX0_read tg) (zc tg) (zs tg) 2 := va_cwA 2 hts gX8_decode_X0_read_u134X0 rfl rfl rfl (hN.nw 60 rfl) (by decide +kernel) ⟨Nat.le_of_ble_eq_true rfl, Nat.le_of_ble_eq_true rfl⟩
theorem qX8_decode_X1_read_134 {args : Array Value} {s : State} {tg0 : Nat} {tg : Nat} (hts : ∀ w ∈ wsX8_decode, w.before args s = true) (hN : zN s) : va_CU (rmX8_decode tg0) s args RX8 RX1 "FourPictureFiles$Format" 134 ⟨"FourPictureFiles$Format", "read", "(LFourPictureFiles$Source;LFourPictureFiles$Picture;)V"⟩ yX1_read cX1_read 7 none wsX1_read (rmX1_read tg) (zc tg) (zs tg) 2 := va_cwA 2 hts gX8_decode_X1_read_u134X1 rfl rfl rfl (hN.nw 60 rfl) (by decide +kernel) ⟨Nat.le_of_ble_eq_true rfl, Nat.le_of_ble_eq_true rfl⟩
theorem qX8_decode_X4_read_134 {args : Array Value} {s : State} {tg0 : Nat} {tg : Nat} (hts : ∀ w ∈ wsX8_decode, w.before args s = true) (hN : zN s) : va_CU (rmX8_decode tg0) s args RX8 RX4 "FourPictureFiles$Format" 134 ⟨"FourPictureFiles$Format", "read", "(LFourPictureFiles$Source;LFourPictureFiles$Picture;)V"⟩ yX4_read cX4_read 8 none wsX4_read (rmX4_read tg) (zc tg) (zs tg) 2 := va_cwA 2 hts gX8_decode_X4_read_u134X4 rfl rfl rfl (hN.nw 60 rfl) (by decide +kernel) ⟨Nat.le_of_ble_eq_true rfl, Nat.le_of_ble_eq_true rfl⟩
theorem qX8_decode_X5_become_90 {args : Array Value} {s : State} {tg0 : Nat} (hts : ∀ w ∈ wsX8_decode, w.before args s = true) : CallW (rmX8_decode tg0) s args RX8 RX5 90 yX5_become cX5_become 2 none wsX5_become rmX5_become 0 0 1 := cwV 1 hts gX8_decode_X5_become rfl rfl rfl (by decide +kernel) ⟨Nat.le_of_ble_eq_true rfl, Nat.le_of_ble_eq_true rfl⟩
theorem qX8_decode_X6_read_134 {args : Array Value} {s : State} {tg0 : Nat} {tg : Nat} (hts : ∀ w ∈ wsX8_decode, w.before args s = true) (hN : zN s) : va_CU (rmX8_decode tg0) s args RX8 RX6 "FourPictureFiles$Format" 134 ⟨"FourPictureFiles$Format", "read", "(LFourPictureFiles$Source;LFourPictureFiles$Picture;)V"⟩ yX6_read cX6_read 6 none wsX6_read (rmX6_read tg) (zc tg) (zs tg) 2 := va_cwA 2 hts gX8_decode_X6_read_u134X6 rfl rfl rfl (hN.nw 60 rfl) (by decide +kernel) ⟨Nat.le_of_ble_eq_true rfl, Nat.le_of_ble_eq_true rfl⟩
theorem qX8_decode_X8_sniff_127 {args : Array Value} {s : State} {tg0 : Nat} (hts : ∀ w ∈ wsX8_decode, w.before args s = true) : CallW (rmX8_decode tg0) s args RX8 RX8 127 yX8_sniff cX8_sniff 2 (some .int) wsX8_sniff rmX8_sniff 0 0 0 := cwV 0 hts gX8_decode_X8_sniff rfl rfl rfl (by decide +kernel) ⟨Nat.le_of_ble_eq_true rfl, Nat.le_of_ble_eq_true rfl⟩
set_option maxHeartbeats 4000000 in
set_option maxRecDepth 100000 in
theorem wX8_decode_0 {p : Program} {l : Launch} {e : Env} {s : State} {m : MethodId} {args : Array Value} {below : List Frame} {meth : Method} {c : Code} {D : va_G} {A : Nat → Prop} {Q : State → Prop} {cI cF : ClassId} {h_t h_p h_p_pixels h_d h_d_pixels h_s h_s_file h_s_file_bytes h_fm h_c h_c_table h_m h_b h_b_colours h_k : Nat} {s_file_size : Int32} {s_file_bytes : Nat → Int32} {tg0 : Nat} {r0 : Int32} {zp_wide : Int32} {zp_high : Int32} {zp_pixels : Nat → Int32} {zd_wide : Int32} {zd_high : Int32} {zd_pixels : Nat → Int32} {zs_place : Int32} {zc_last : Int32} {zc_table : Nat → Int32} {zm_inDigits : Int32} {zm_greatest : Int32} {zb_known : Int32} {zb_depth : Int32} {zb_packing : Int32} {zb_isUpward : Int32} {zb_column : Int32} {zb_up : Int32} {zb_colours : Nat → Int32} {zk_depth : Int32} {zk_left : Int32} {zk_isRepeated : Int32} {zk_held : Int32} (C : CallFix p m c cX8_decode 3 s args wsX8_decode RX8) (hN : zN s) (hK2 : va_K D vwCl [(cI, .int), (cF, .object RX3)] s) (hA : ∀ q, s.heap.size ≤ q → A q) (hT : zTh A s) (hst : l.stackTraces = false) (hNc : va_Nc "java/lang/IllegalArgumentException" "java/lang/IllegalStateException" s) (htb : c.exceptionTable.toList = tableOf [(20, 37, 40, 138), (20, 37, 44, 140)]) (hE : zCE tg0 p l e (rmX8_decode tg0) s m args below meth c cX8_decode D A Q (zwC cI cF h_t h_p h_p_pixels h_d h_d_pixels h_s h_s_file h_s_file_bytes h_fm h_c h_c_table h_m h_b h_b_colours h_k zp_wide zp_high zp_pixels zd_wide zd_high zd_pixels zs_place s_file_size s_file_bytes zc_last zc_table zm_inDigits zm_greatest zb_known zb_depth zb_packing zb_isUpward zb_column zb_up zb_colours zk_depth zk_left zk_isRepeated zk_held) r0) {p_wide : Int32} {p_high : Int32} {p_pixels : Nat → Int32} {d_wide : Int32} {d_high : Int32} {d_pixels : Nat → Int32} {s_place : Int32} {c_last : Int32} {c_table : Nat → Int32} {m_inDigits : Int32} {m_greatest : Int32} {b_known : Int32} {b_depth : Int32} {b_packing : Int32} {b_isUpward : Int32} {b_column : Int32} {b_up : Int32} {b_colours : Nat → Int32} {k_depth : Int32} {k_left : Int32} {k_isRepeated : Int32} {k_held : Int32} {H : Heap} {locs : List Loc} {ls : Array Slot} : fX8_decode p_wide p_high p_pixels d_wide d_high d_pixels s_place s_file_size s_file_bytes c_last c_table m_inDigits m_greatest b_known b_depth b_packing b_isUpward b_column b_up b_colours k_depth k_left k_isRepeated k_held = some (tg0, r0, zp_wide, zp_high, zp_pixels, zd_wide, zd_high, zd_pixels, zs_place, zc_last, zc_table, zm_inDigits, zm_greatest, zb_known, zb_depth, zb_packing, zb_isUpward, zb_column, zb_up, zb_colours, zk_depth, zk_left, zk_isRepeated, zk_held) → va_P D vwCl (zwC cI cF h_t h_p h_p_pixels h_d h_d_pixels h_s h_s_file h_s_file_bytes h_fm h_c h_c_table h_m h_b h_b_colours h_k p_wide p_high p_pixels d_wide d_high d_pixels s_place s_file_size s_file_bytes c_last c_table m_inDigits m_greatest b_known b_depth b_packing b_isUpward b_column b_up b_colours k_depth k_left k_isRepeated k_held) H → va_D A (zwC cI cF h_t h_p h_p_pixels h_d h_d_pixels h_s h_s_file h_s_file_bytes h_fm h_c h_c_table h_m h_b h_b_colours h_k p_wide p_high p_pixels d_wide d_high d_pixels s_place s_file_size s_file_bytes c_last c_table m_inDigits m_greatest b_known b_depth b_packing b_isUpward b_column b_up b_colours k_depth k_left k_isRepeated k_held) → va_S A s.heap H locs → lv_has ls 3 [(0, .ref h_t)] → W p l e (rmX8_decode tg0) s m args below meth c H locs 0 0 Q (F0 m 0 ls []) := by
  intro hf hP hD hS hl
  obtain ⟨hx, hb, hml, hown, hts⟩ := id C
  have hK := hK2.sub (tys' := [(cI, .int)]) [0] rfl
  unfold fX8_decode at hf
  refine lv_aload_n hx hb dX8_decode_0 rfl (lv_at hl 0 rfl) ?_
  obtain ⟨r1, hc2, hf⟩ := zb1_in hf
  refine zc_i (va_runV (As := []) (rest := []) C (mX8_sniff l D cI cF H.size h_t h_p h_d h_s h_s_file h_s_file_bytes h_fm h_c h_c_table h_m h_b h_b_colours h_k s_file_size s_file_bytes c_last c_table m_inDigits m_greatest b_known b_depth b_packing b_isUpward b_column b_up b_colours k_depth k_left k_isRepeated k_held r1 hc2) (qX8_decode_X8_sniff_127 hts) ⟨zP_blind, va_recv hK hP (ci := 7) (q0 := 0) rfl rfl, zpre hK2 hN hP hD [0, 6, 7, 8, 9, 10, 11, 12, 13, 14] rfl rfl⟩ rfl rfl hl.1 rfl (lv_room (Nat.le_of_ble_eq_true rfl)) dX8_decode_1 ⟨Nat.zero_le _, Nat.zero_le _⟩) hP hD hS hA [0, 6, 7, 8, 9, 10, 11, 12, 13, 14] [1, 2, 3, 4, 5] [5, 0, 1, 2, 3, 4, 6, 7, 8, 9, 10, 11, 12, 13, 14] (ws' := zwC cI cF h_t h_p h_p_pixels h_d h_d_pixels h_s h_s_file h_s_file_bytes h_fm h_c h_c_table h_m h_b h_b_colours h_k p_wide p_high p_pixels d_wide d_high d_pixels s_place s_file_size s_file_bytes c_last c_table m_inDigits m_greatest b_known b_depth b_packing b_isUpward b_column b_up b_colours k_depth k_left k_isRepeated k_held) rfl rfl rfl rfl rfl rfl (fun H locs hP hD hS => ?_)
  refine lv_istore_n (lv' := [(1, .int r1), (0, .ref h_t)]) hx hb dX8_decode_4 rfl hl (by decide) rfl (fun ls hl => ?_)
  refine lv_iload_n hx hb dX8_decode_5 rfl (lv_at hl 0 rfl) ?_
  refine lv_iconst (v := (-1)) hx hb dX8_decode_6 (by decide) ?_
  refine lv_icmp_ne (tgt := 12) hx hb dX8_decode_7 (by decide) (fun c3 => ?_) (fun c3 => ?_)
  · replace hf := zif_f hf c3
    refine lv_aload_n hx hb dX8_decode_12 rfl (lv_at hl 1 rfl) ?_
    refine va_get (D := D) (ci := 7) (v := .ref h_s) (C := RX8) (T := TX8) (N := 5) hx hb hts iX8_decode_X8 hown hK hP 0 rfl rfl 3 (by decide) (kX8_decode_31 hts) (fun _ h9 => h9) rfl dX8_decode_13 ?_
    refine lv_iconst (v := 0) hx hb dX8_decode_16 (by decide) ?_
    refine va_putN (D := D) (ci := 6) (v := .int 0) (ty := .int) (C := RX7) (T := TX7) (N := 2) hx hb hts iX8_decode_X7 tyX7 tyX7_ok nmX7 hown hK hP hD hS 5 rfl rfl 1 (by decide) (hN.at 22 rfl) (fun _ h9 => h9) rfl (by decide +kernel) rfl rfl (Nat.le_of_ble_eq_true rfl) dX8_decode_17 (fun H locs hP hD hS => ?_)
    replace hP : va_P D vwCl (zwC cI cF h_t h_p h_p_pixels h_d h_d_pixels h_s h_s_file h_s_file_bytes h_fm h_c h_c_table h_m h_b h_b_colours h_k p_wide p_high p_pixels d_wide d_high d_pixels 0 s_file_size s_file_bytes c_last c_table m_inDigits m_greatest b_known b_depth b_packing b_isUpward b_column b_up b_colours k_depth k_left k_isRepeated k_held) H := hP
    replace hD : va_D A (zwC cI cF h_t h_p h_p_pixels h_d h_d_pixels h_s h_s_file h_s_file_bytes h_fm h_c h_c_table h_m h_b h_b_colours h_k p_wide p_high p_pixels d_wide d_high d_pixels 0 s_file_size s_file_bytes c_last c_table m_inDigits m_greatest b_known b_depth b_packing b_isUpward b_column b_up b_colours k_depth k_left k_isRepeated k_held) := hD
    refine lv_aload_n hx hb dX8_decode_20 rfl (lv_at hl 1 rfl) ?_
    refine va_get (D := D) (ci := 7) (v := .ref h_fm) (C := RX8) (T := TX8) (N := 5) hx hb hts iX8_decode_X8 hown hK hP 0 rfl rfl 4 (by decide) (kX8_decode_37 hts) (fun _ h9 => h9) rfl dX8_decode_21 ?_
    refine lv_iload_n hx hb dX8_decode_24 rfl (lv_at hl 0 rfl) ?_
    by_cases c4 : r1 = 0
    · replace hf := zif_t hf c4
      subst c4
      refine zaald0 hx hb hK2 hP 8 1 rfl rfl dX8_decode_25 ?_
      refine lv_aload_n hx hb dX8_decode_26 rfl (lv_at hl 1 rfl) ?_
      refine va_get (D := D) (ci := 7) (v := .ref h_s) (C := RX8) (T := TX8) (N := 5) hx hb hts iX8_decode_X8 hown hK hP 0 rfl rfl 3 (by decide) (kX8_decode_31 hts) (fun _ h9 => h9) rfl dX8_decode_27 ?_
      refine lv_aload_n hx hb dX8_decode_30 rfl (lv_at hl 1 rfl) ?_
      refine va_get (D := D) (ci := 7) (v := .ref h_d) (C := RX8) (T := TX8) (N := 5) hx hb hts iX8_decode_X8 hown hK hP 0 rfl rfl 1 (by decide) (kX8_decode_16 hts) (fun _ h9 => h9) rfl dX8_decode_31 ?_
      obtain ⟨tg5, u6, u7, u8, u9, u10, u11, hc12, hf⟩ := zb7_in hf
      have hle := zC_le hf
      refine zcx_v (vx_runU (As := [.ref h_s, .ref h_d]) (rest := []) C (mX1_read l hst D cI H.size h_c h_c_table h_s h_s_file h_s_file_bytes h_d h_d_pixels c_last c_table 0 s_file_size s_file_bytes d_wide d_high d_pixels tg5 u6 u7 u8 u9 u10 u11 hc12) (qX8_decode_X1_read_134 hts hN) ⟨zPT_blind, va_recv hK hP (ci := 1) (q0 := 9) rfl rfl, zpreT hK hN hT hA hS hP hD [9, 10, 5, 6, 7, 3, 4] rfl rfl⟩ rfl rfl hl.1 rfl (lv_room (Nat.le_of_ble_eq_true rfl)) dX8_decode_34 hle) hP hD hS hA [9, 10, 5, 6, 7, 3, 4] [0, 1, 2, 8, 11, 12, 13, 14] [0, 1, 2, 13, 14, 10, 11, 12, 3, 8, 9, 4, 5, 6, 7] (ws' := zwC cI cF h_t h_p h_p_pixels h_d h_d_pixels h_s h_s_file h_s_file_bytes h_fm h_c h_c_table h_m h_b h_b_colours h_k p_wide p_high p_pixels u9 u10 u11 u8 s_file_size s_file_bytes u6 u7 m_inDigits m_greatest b_known b_depth b_packing b_isUpward b_column b_up b_colours k_depth k_left k_isRepeated k_held) rfl rfl rfl rfl rfl rfl (fun ht H locs q9 ce hP hD hS hq hv hcl => ?_) (fun ht H locs hP hD hS => ?_)
      · replace hf := zif_f hf ht
        by_cases ht1 : tg5 = 1
        · replace hf := zif_t hf ht1
          subst ht1
          cases hf
          refine zcatch1 (nm := "java/lang/IllegalStateException") hown htb (by decide) (by decide) (hts (.classLink RX8 138 "java/lang/IllegalStateException") (by decide +kernel)) (hN.at 65 rfl) hq hv hcl ?_
          refine lv_astore_n (lv' := [(2, .ref q9), (1, .int 0), (0, .ref h_t)]) hx hb dX8_decode_40 rfl hl (by decide) rfl (fun ls hl => ?_)
          refine lv_bipush (v := (-2)) hx hb dX8_decode_41 (by decide) ?_
          exact hE _ _ _ _ dX8_decode_43 hP hD hS
        · replace hf := zif_f hf ht1
          cases hf
          rw [zEx_2 ht1] at hcl
          refine zcatch2 (nm := "java/lang/IllegalArgumentException") (nm1 := "java/lang/IllegalStateException") hown htb (by decide) (by decide) (hts (.classLink RX8 138 "java/lang/IllegalStateException") (by decide +kernel)) hNc (by decide) (by decide) (hts (.classLink RX8 140 "java/lang/IllegalArgumentException") (by decide +kernel)) (hN.at 66 rfl) hq hv hcl ?_
          refine lv_astore_n (lv' := [(2, .ref q9), (1, .int 0), (0, .ref h_t)]) hx hb dX8_decode_44 rfl hl (by decide) rfl (fun ls hl => ?_)
          refine lv_bipush (v := (-3)) hx hb dX8_decode_45 (by decide) ?_
          rw [Nat.zero_add, Nat.zero_add]
          exact hE _ _ _ _ dX8_decode_47 hP hD hS
      · replace hf := zif_t hf ht
        clear hle
        refine lv_goto (tgt := 48) hx hb dX8_decode_37 (by decide) ?_
        refine lv_aload_n hx hb dX8_decode_48 rfl (lv_at hl 1 rfl) ?_
        refine va_get (D := D) (ci := 7) (v := .ref h_p) (C := RX8) (T := TX8) (N := 5) hx hb hts iX8_decode_X8 hown hK hP 0 rfl rfl 0 (by decide) (kX8_decode_10 hts) (fun _ h9 => h9) rfl dX8_decode_49 ?_
        refine lv_aload_n hx hb dX8_decode_52 rfl (lv_at hl 1 rfl) ?_
        refine va_get (D := D) (ci := 7) (v := .ref h_d) (C := RX8) (T := TX8) (N := 5) hx hb hts iX8_decode_X8 hown hK hP 0 rfl rfl 1 (by decide) (kX8_decode_16 hts) (fun _ h9 => h9) rfl dX8_decode_53 ?_
        obtain ⟨u13, u14, u15, hc16, hf⟩ := zb3_in hf
        refine zc_v (va_runV (As := [.ref h_d]) (rest := []) C (mX5_become l D cI H.size h_p h_p_pixels h_d h_d_pixels p_wide p_high p_pixels u9 u10 u11 u13 u14 u15 hc16) (qX8_decode_X5_become_90 hts) ⟨zP_blind, va_recv hK hP (ci := 4) (q0 := 1) rfl rfl, zpre hK hN hP hD [1, 2, 3, 4] rfl rfl⟩ rfl rfl hl.1 rfl (lv_room (Nat.le_of_ble_eq_true rfl)) dX8_decode_56 ⟨Nat.zero_le _, Nat.zero_le _⟩) hP hD hS hA [1, 2, 3, 4] [0, 5, 6, 7, 8, 9, 10, 11, 12, 13, 14] [0, 11, 12, 13, 14, 1, 2, 3, 4, 5, 6, 7, 8, 9, 10] (ws' := zwC cI cF h_t h_p h_p_pixels h_d h_d_pixels h_s h_s_file h_s_file_bytes h_fm h_c h_c_table h_m h_b h_b_colours h_k u13 u14 u15 u9 u10 u11 u8 s_file_size s_file_bytes u6 u7 m_inDigits m_greatest b_known b_depth b_packing b_isUpward b_column b_up b_colours k_depth k_left k_isRepeated k_held) rfl rfl rfl rfl rfl rfl (fun H locs hP hD hS => ?_)
        refine lv_iload_n hx hb dX8_decode_59 rfl (lv_at hl 0 rfl) ?_
        cases hf
        exact hE _ _ _ _ dX8_decode_60 hP hD hS
    replace hf := zif_f hf c4
    by_cases c17 : r1 = 1
    · replace hf := zif_t hf c17
      subst c17
      refine zaald1 hx hb hK2 hP 8 1 rfl rfl dX8_decode_25 ?_
      refine lv_aload_n hx hb dX8_decode_26 rfl (lv_at hl 1 rfl) ?_
      refine va_get (D := D) (ci := 7) (v := .ref h_s) (C := RX8) (T := TX8) (N := 5) hx hb hts iX8_decode_X8 hown hK hP 0 rfl rfl 3 (by decide) (kX8_decode_31 hts) (fun _ h9 => h9) rfl dX8_decode_27 ?_
      refine lv_aload_n hx hb dX8_decode_30 rfl (lv_at hl 1 rfl) ?_
      refine va_get (D := D) (ci := 7) (v := .ref h_d) (C := RX8) (T := TX8) (N := 5) hx hb hts iX8_decode_X8 hown hK hP 0 rfl rfl 1 (by decide) (kX8_decode_16 hts) (fun _ h9 => h9) rfl dX8_decode_31 ?_
      obtain ⟨tg18, u19, u20, u21, u22, u23, u24, hc25, hf⟩ := zb7_in hf
      have hle := zC_le hf
      refine zcx_v (vx_runU (As := [.ref h_s, .ref h_d]) (rest := []) C (mX6_read l hst D cI H.size h_m h_s h_s_file h_s_file_bytes h_d h_d_pixels m_inDigits m_greatest 0 s_file_size s_file_bytes d_wide d_high d_pixels tg18 u19 u20 u21 u22 u23 u24 hc25) (qX8_decode_X6_read_134 hts hN) ⟨zPT_blind, va_recv hK hP (ci := 5) (q0 := 11) rfl rfl, zpreT hK hN hT hA hS hP hD [11, 5, 6, 7, 3, 4] rfl rfl⟩ rfl rfl hl.1 rfl (lv_room (Nat.le_of_ble_eq_true rfl)) dX8_decode_34 hle) hP hD hS hA [11, 5, 6, 7, 3, 4] [0, 1, 2, 8, 9, 10, 12, 13, 14] [0, 1, 2, 13, 14, 10, 11, 12, 3, 4, 5, 9, 6, 7, 8] (ws' := zwC cI cF h_t h_p h_p_pixels h_d h_d_pixels h_s h_s_file h_s_file_bytes h_fm h_c h_c_table h_m h_b h_b_colours h_k p_wide p_high p_pixels u22 u23 u24 u21 s_file_size s_file_bytes c_last c_table u19 u20 b_known b_depth b_packing b_isUpward b_column b_up b_colours k_depth k_left k_isRepeated k_held) rfl rfl rfl rfl rfl rfl (fun ht H locs q9 ce hP hD hS hq hv hcl => ?_) (fun ht H locs hP hD hS => ?_)
      · replace hf := zif_f hf ht
        by_cases ht1 : tg18 = 1
        · replace hf := zif_t hf ht1
          subst ht1
          cases hf
          refine zcatch1 (nm := "java/lang/IllegalStateException") hown htb (by decide) (by decide) (hts (.classLink RX8 138 "java/lang/IllegalStateException") (by decide +kernel)) (hN.at 65 rfl) hq hv hcl ?_
          refine lv_astore_n (lv' := [(2, .ref q9), (1, .int 1), (0, .ref h_t)]) hx hb dX8_decode_40 rfl hl (by decide) rfl (fun ls hl => ?_)
          refine lv_bipush (v := (-2)) hx hb dX8_decode_41 (by decide) ?_
          exact hE _ _ _ _ dX8_decode_43 hP hD hS
        · replace hf := zif_f hf ht1
          cases hf
          rw [zEx_2 ht1] at hcl
          refine zcatch2 (nm := "java/lang/IllegalArgumentException") (nm1 := "java/lang/IllegalStateException") hown htb (by decide) (by decide) (hts (.classLink RX8 138 "java/lang/IllegalStateException") (by decide +kernel)) hNc (by decide) (by decide) (hts (.classLink RX8 140 "java/lang/IllegalArgumentException") (by decide +kernel)) (hN.at 66 rfl) hq hv hcl ?_
          refine lv_astore_n (lv' := [(2, .ref q9), (1, .int 1), (0, .ref h_t)]) hx hb dX8_decode_44 rfl hl (by decide) rfl (fun ls hl => ?_)
          refine lv_bipush (v := (-3)) hx hb dX8_decode_45 (by decide) ?_
          rw [Nat.zero_add, Nat.zero_add]
          exact hE _ _ _ _ dX8_decode_47 hP hD hS
      · replace hf := zif_t hf ht
        clear hle
        refine lv_goto (tgt := 48) hx hb dX8_decode_37 (by decide) ?_
        refine lv_aload_n hx hb dX8_decode_48 rfl (lv_at hl 1 rfl) ?_
        refine va_get (D := D) (ci := 7) (v := .ref h_p) (C := RX8) (T := TX8) (N := 5) hx hb hts iX8_decode_X8 hown hK hP 0 rfl rfl 0 (by decide) (kX8_decode_10 hts) (fun _ h9 => h9) rfl dX8_decode_49 ?_
        refine lv_aload_n hx hb dX8_decode_52 rfl (lv_at hl 1 rfl) ?_
        refine va_get (D := D) (ci := 7) (v := .ref h_d) (C := RX8) (T := TX8) (N := 5) hx hb hts iX8_decode_X8 hown hK hP 0 rfl rfl 1 (by decide) (kX8_decode_16 hts) (fun _ h9 => h9) rfl dX8_decode_53 ?_
        obtain ⟨u26, u27, u28, hc29, hf⟩ := zb3_in hf
        refine zc_v (va_runV (As := [.ref h_d]) (rest := []) C (mX5_become l D cI H.size h_p h_p_pixels h_d h_d_pixels p_wide p_high p_pixels u22 u23 u24 u26 u27 u28 hc29) (qX8_decode_X5_become_90 hts) ⟨zP_blind, va_recv hK hP (ci := 4) (q0 := 1) rfl rfl, zpre hK hN hP hD [1, 2, 3, 4] rfl rfl⟩ rfl rfl hl.1 rfl (lv_room (Nat.le_of_ble_eq_true rfl)) dX8_decode_56 ⟨Nat.zero_le _, Nat.zero_le _⟩) hP hD hS hA [1, 2, 3, 4] [0, 5, 6, 7, 8, 9, 10, 11, 12, 13, 14] [0, 11, 12, 13, 14, 1, 2, 3, 4, 5, 6, 7, 8, 9, 10] (ws' := zwC cI cF h_t h_p h_p_pixels h_d h_d_pixels h_s h_s_file h_s_file_bytes h_fm h_c h_c_table h_m h_b h_b_colours h_k u26 u27 u28 u22 u23 u24 u21 s_file_size s_file_bytes c_last c_table u19 u20 b_known b_depth b_packing b_isUpward b_column b_up b_colours k_depth k_left k_isRepeated k_held) rfl rfl rfl rfl rfl rfl (fun H locs hP hD hS => ?_)
        refine lv_iload_n hx hb dX8_decode_59 rfl (lv_at hl 0 rfl) ?_
        cases hf
        exact hE _ _ _ _ dX8_decode_60 hP hD hS
    replace hf := zif_f hf c17
    by_cases c30 : r1 = 2
    · replace hf := zif_t hf c30
      subst c30
      refine zaald2 hx hb hK2 hP 8 1 rfl rfl dX8_decode_25 ?_
      refine lv_aload_n hx hb dX8_decode_26 rfl (lv_at hl 1 rfl) ?_
      refine va_get (D := D) (ci := 7) (v := .ref h_s) (C := RX8) (T := TX8) (N := 5) hx hb hts iX8_decode_X8 hown hK hP 0 rfl rfl 3 (by decide) (kX8_decode_31 hts) (fun _ h9 => h9) rfl dX8_decode_27 ?_
      refine lv_aload_n hx hb dX8_decode_30 rfl (lv_at hl 1 rfl) ?_
      refine va_get (D := D) (ci := 7) (v := .ref h_d) (C := RX8) (T := TX8) (N := 5) hx hb hts iX8_decode_X8 hown hK hP 0 rfl rfl 1 (by decide) (kX8_decode_16 hts) (fun _ h9 => h9) rfl dX8_decode_31 ?_
      obtain ⟨tg31, u32, u33, u34, u35, u36, u37, u38, u39, u40, u41, u42, hc43, hf⟩ := zb12_in hf
      have hle := zC_le hf
      refine zcx_v (vx_runU (As := [.ref h_s, .ref h_d]) (rest := []) C (mX0_read l hst D cI H.size h_b h_b_colours h_s h_s_file h_s_file_bytes h_d h_d_pixels b_known b_depth b_packing b_isUpward b_column b_up b_colours 0 s_file_size s_file_bytes d_wide d_high d_pixels tg31 u32 u33 u34 u35 u36 u37 u38 u39 u40 u41 u42 hc43) (qX8_decode_X0_read_134 hts hN) ⟨zPT_blind, va_recv hK hP (ci := 0) (q0 := 12) rfl rfl, zpreT hK hN hT hA hS hP hD [12, 13, 5, 6, 7, 3, 4] rfl rfl⟩ rfl rfl hl.1 rfl (lv_room (Nat.le_of_ble_eq_true rfl)) dX8_decode_34 hle) hP hD hS hA [12, 13, 5, 6, 7, 3, 4] [0, 1, 2, 8, 9, 10, 11, 14] [0, 1, 2, 13, 14, 10, 11, 12, 3, 4, 5, 6, 8, 9, 7] (ws' := zwC cI cF h_t h_p h_p_pixels h_d h_d_pixels h_s h_s_file h_s_file_bytes h_fm h_c h_c_table h_m h_b h_b_colours h_k p_wide p_high p_pixels u40 u41 u42 u39 s_file_size s_file_bytes c_last c_table m_inDigits m_greatest u32 u33 u34 u35 u36 u37 u38 k_depth k_left k_isRepeated k_held) rfl rfl rfl rfl rfl rfl (fun ht H locs q9 ce hP hD hS hq hv hcl => ?_) (fun ht H locs hP hD hS => ?_)
      · replace hf := zif_f hf ht
        by_cases ht1 : tg31 = 1
        · replace hf := zif_t hf ht1
          subst ht1
          cases hf
          refine zcatch1 (nm := "java/lang/IllegalStateException") hown htb (by decide) (by decide) (hts (.classLink RX8 138 "java/lang/IllegalStateException") (by decide +kernel)) (hN.at 65 rfl) hq hv hcl ?_
          refine lv_astore_n (lv' := [(2, .ref q9), (1, .int 2), (0, .ref h_t)]) hx hb dX8_decode_40 rfl hl (by decide) rfl (fun ls hl => ?_)
          refine lv_bipush (v := (-2)) hx hb dX8_decode_41 (by decide) ?_
          exact hE _ _ _ _ dX8_decode_43 hP hD hS
        · replace hf := zif_f hf ht1
          cases hf
          rw [zEx_2 ht1] at hcl
          refine zcatch2 (nm := "java/lang/IllegalArgumentException") (nm1 := "java/lang/IllegalStateException") hown htb (by decide) (by decide) (hts (.classLink RX8 138 "java/lang/IllegalStateException") (by decide +kernel)) hNc (by decide) (by decide) (hts (.classLink RX8 140 "java/lang/IllegalArgumentException") (by decide +kernel)) (hN.at 66 rfl) hq hv hcl ?_
          refine lv_astore_n (lv' := [(2, .ref q9), (1, .int 2), (0, .ref h_t)]) hx hb dX8_decode_44 rfl hl (by decide) rfl (fun ls hl => ?_)
          refine lv_bipush (v := (-3)) hx hb dX8_decode_45 (by decide) ?_
          rw [Nat.zero_add, Nat.zero_add]
          exact hE _ _ _ _ dX8_decode_47 hP hD hS
      · replace hf := zif_t hf ht
        clear hle
        refine lv_goto (tgt := 48) hx hb dX8_decode_37 (by decide) ?_
        refine lv_aload_n hx hb dX8_decode_48 rfl (lv_at hl 1 rfl) ?_
        refine va_get (D := D) (ci := 7) (v := .ref h_p) (C := RX8) (T := TX8) (N := 5) hx hb hts iX8_decode_X8 hown hK hP 0 rfl rfl 0 (by decide) (kX8_decode_10 hts) (fun _ h9 => h9) rfl dX8_decode_49 ?_
        refine lv_aload_n hx hb dX8_decode_52 rfl (lv_at hl 1 rfl) ?_
        refine va_get (D := D) (ci := 7) (v := .ref h_d) (C := RX8) (T := TX8) (N := 5) hx hb hts iX8_decode_X8 hown hK hP 0 rfl rfl 1 (by decide) (kX8_decode_16 hts) (fun _ h9 => h9) rfl dX8_decode_53 ?_
        obtain ⟨u44, u45, u46, hc47, hf⟩ := zb3_in hf
        refine zc_v (va_runV (As := [.ref h_d]) (rest := []) C (mX5_become l D cI H.size h_p h_p_pixels h_d h_d_pixels p_wide p_high p_pixels u40 u41 u42 u44 u45 u46 hc47) (qX8_decode_X5_become_90 hts) ⟨zP_blind, va_recv hK hP (ci := 4) (q0 := 1) rfl rfl, zpre hK hN hP hD [1, 2, 3, 4] rfl rfl⟩ rfl rfl hl.1 rfl (lv_room (Nat.le_of_ble_eq_true rfl)) dX8_decode_56 ⟨Nat.zero_le _, Nat.zero_le _⟩) hP hD hS hA [1, 2, 3, 4] [0, 5, 6, 7, 8, 9, 10, 11, 12, 13, 14] [0, 11, 12, 13, 14, 1, 2, 3, 4, 5, 6, 7, 8, 9, 10] (ws' := zwC cI cF h_t h_p h_p_pixels h_d h_d_pixels h_s h_s_file h_s_file_bytes h_fm h_c h_c_table h_m h_b h_b_colours h_k u44 u45 u46 u40 u41 u42 u39 s_file_size s_file_bytes c_last c_table m_inDigits m_greatest u32 u33 u34 u35 u36 u37 u38 k_depth k_left k_isRepeated k_held) rfl rfl rfl rfl rfl rfl (fun H locs hP hD hS => ?_)
        refine lv_iload_n hx hb dX8_decode_59 rfl (lv_at hl 0 rfl) ?_
        cases hf
        exact hE _ _ _ _ dX8_decode_60 hP hD hS
    replace hf := zif_f hf c30
    by_cases c48 : r1 = 3
    · replace hf := zif_t hf c48
      subst c48
      refine zaald3 hx hb hK2 hP 8 1 rfl rfl dX8_decode_25 ?_
      refine lv_aload_n hx hb dX8_decode_26 rfl (lv_at hl 1 rfl) ?_
      refine va_get (D := D) (ci := 7) (v := .ref h_s) (C := RX8) (T := TX8) (N := 5) hx hb hts iX8_decode_X8 hown hK hP 0 rfl rfl 3 (by decide) (kX8_decode_31 hts) (fun _ h9 => h9) rfl dX8_decode_27 ?_
      refine lv_aload_n hx hb dX8_decode_30 rfl (lv_at hl 1 rfl) ?_
      refine va_get (D := D) (ci := 7) (v := .ref h_d) (C := RX8) (T := TX8) (N := 5) hx hb hts iX8_decode_X8 hown hK hP 0 rfl rfl 1 (by decide) (kX8_decode_16 hts) (fun _ h9 => h9) rfl dX8_decode_31 ?_
      obtain ⟨tg49, u50, u51, u52, u53, u54, u55, u56, u57, hc58, hf⟩ := zb9_in hf
      have hle := zC_le hf
      refine zcx_v (vx_runU (As := [.ref h_s, .ref h_d]) (rest := []) C (mX4_read l hst D cI H.size h_k h_s h_s_file h_s_file_bytes h_d h_d_pixels k_depth k_left k_isRepeated k_held 0 s_file_size s_file_bytes d_wide d_high d_pixels tg49 u50 u51 u52 u53 u54 u55 u56 u57 hc58) (qX8_decode_X4_read_134 hts hN) ⟨zPT_blind, va_recv hK hP (ci := 3) (q0 := 14) rfl rfl, zpreT hK hN hT hA hS hP hD [14, 5, 6, 7, 3, 4] rfl rfl⟩ rfl rfl hl.1 rfl (lv_room (Nat.le_of_ble_eq_true rfl)) dX8_decode_34 hle) hP hD hS hA [14, 5, 6, 7, 3, 4] [0, 1, 2, 8, 9, 10, 11, 12, 13] [0, 1, 2, 13, 14, 10, 11, 12, 3, 4, 5, 6, 7, 8, 9] (ws' := zwC cI cF h_t h_p h_p_pixels h_d h_d_pixels h_s h_s_file h_s_file_bytes h_fm h_c h_c_table h_m h_b h_b_colours h_k p_wide p_high p_pixels u55 u56 u57 u54 s_file_size s_file_bytes c_last c_table m_inDigits m_greatest b_known b_depth b_packing b_isUpward b_column b_up b_colours u50 u51 u52 u53) rfl rfl rfl rfl rfl rfl (fun ht H locs q9 ce hP hD hS hq hv hcl => ?_) (fun ht H locs hP hD hS => ?_)
      · replace hf := zif_f hf ht
        by_cases ht1 : tg49 = 1
        · replace hf := zif_t hf ht1
          subst ht1
          cases hf
          refine zcatch1 (nm := "java/lang/IllegalStateException") hown htb (by decide) (by decide) (hts (.classLink RX8 138 "java/lang/IllegalStateException") (by decide +kernel)) (hN.at 65 rfl) hq hv hcl ?_
          refine lv_astore_n (lv' := [(2, .ref q9), (1, .int 3), (0, .ref h_t)]) hx hb dX8_decode_40 rfl hl (by decide) rfl (fun ls hl => ?_)
          refine lv_bipush (v := (-2)) hx hb dX8_decode_41 (by decide) ?_
          exact hE _ _ _ _ dX8_decode_43 hP hD hS
        · replace hf := zif_f hf ht1
          cases hf
          rw [zEx_2 ht1] at hcl
          refine zcatch2 (nm := "java/lang/IllegalArgumentException") (nm1 := "java/lang/IllegalStateException") hown htb (by decide) (by decide) (hts (.classLink RX8 138 "java/lang/IllegalStateException") (by decide +kernel)) hNc (by decide) (by decide) (hts (.classLink RX8 140 "java/lang/IllegalArgumentException") (by decide +kernel)) (hN.at 66 rfl) hq hv hcl ?_
          refine lv_astore_n (lv' := [(2, .ref q9), (1, .int 3), (0, .ref h_t)]) hx hb dX8_decode_44 rfl hl (by decide) rfl (fun ls hl => ?_)
          refine lv_bipush (v := (-3)) hx hb dX8_decode_45 (by decide) ?_
          rw [Nat.zero_add, Nat.zero_add]
          exact hE _ _ _ _ dX8_decode_47 hP hD hS
      · replace hf := zif_t hf ht
        clear hle
        refine lv_goto (tgt := 48) hx hb dX8_decode_37 (by decide) ?_
        refine lv_aload_n hx hb dX8_decode_48 rfl (lv_at hl 1 rfl) ?_
        refine va_get (D := D) (ci := 7) (v := .ref h_p) (C := RX8) (T := TX8) (N := 5) hx hb hts iX8_decode_X8 hown hK hP 0 rfl rfl 0 (by decide) (kX8_decode_10 hts) (fun _ h9 => h9) rfl dX8_decode_49 ?_
        refine lv_aload_n hx hb dX8_decode_52 rfl (lv_at hl 1 rfl) ?_
        refine va_get (D := D) (ci := 7) (v := .ref h_d) (C := RX8) (T := TX8) (N := 5) hx hb hts iX8_decode_X8 hown hK hP 0 rfl rfl 1 (by decide) (kX8_decode_16 hts) (fun _ h9 => h9) rfl dX8_decode_53 ?_
        obtain ⟨u59, u60, u61, hc62, hf⟩ := zb3_in hf
        refine zc_v (va_runV (As := [.ref h_d]) (rest := []) C (mX5_become l D cI H.size h_p h_p_pixels h_d h_d_pixels p_wide p_high p_pixels u55 u56 u57 u59 u60 u61 hc62) (qX8_decode_X5_become_90 hts) ⟨zP_blind, va_recv hK hP (ci := 4) (q0 := 1) rfl rfl, zpre hK hN hP hD [1, 2, 3, 4] rfl rfl⟩ rfl rfl hl.1 rfl (lv_room (Nat.le_of_ble_eq_true rfl)) dX8_decode_56 ⟨Nat.zero_le _, Nat.zero_le _⟩) hP hD hS hA [1, 2, 3, 4] [0, 5, 6, 7, 8, 9, 10, 11, 12, 13, 14] [0, 11, 12, 13, 14, 1, 2, 3, 4, 5, 6, 7, 8, 9, 10] (ws' := zwC cI cF h_t h_p h_p_pixels h_d h_d_pixels h_s h_s_file h_s_file_bytes h_fm h_c h_c_table h_m h_b h_b_colours h_k u59 u60 u61 u55 u56 u57 u54 s_file_size s_file_bytes c_last c_table m_inDigits m_greatest b_known b_depth b_packing b_isUpward b_column b_up b_colours u50 u51 u52 u53) rfl rfl rfl rfl rfl rfl (fun H locs hP hD hS => ?_)
        refine lv_iload_n hx hb dX8_decode_59 rfl (lv_at hl 0 rfl) ?_
        cases hf
        exact hE _ _ _ _ dX8_decode_60 hP hD hS
    replace hf := zif_f hf c48
    cases hf
  · replace hf := zif_t hf c3
    refine lv_iconst (v := (-1)) hx hb dX8_decode_10 (by decide) ?_
    cases hf
    exact hE _ _ _ _ dX8_decode_11 hP hD hS
set_option maxHeartbeats 4000000 in
set_option maxRecDepth 100000 in
theorem mX8_decode (l : Launch) (hst : l.stackTraces = false) (D : va_G) (cI cF : ClassId) (sz : Nat) (h_t h_p h_p_pixels h_d h_d_pixels h_s h_s_file h_s_file_bytes h_fm h_c h_c_table h_m h_b h_b_colours h_k : Nat) (p_wide : Int32) (p_high : Int32) (p_pixels : Nat → Int32) (d_wide : Int32) (d_high : Int32) (d_pixels : Nat → Int32) (s_place : Int32) (s_file_size : Int32) (s_file_bytes : Nat → Int32) (c_last : Int32) (c_table : Nat → Int32) (m_inDigits : Int32) (m_greatest : Int32) (b_known : Int32) (b_depth : Int32) (b_packing : Int32) (b_isUpward : Int32) (b_column : Int32) (b_up : Int32) (b_colours : Nat → Int32) (k_depth : Int32) (k_left : Int32) (k_isRepeated : Int32) (k_held : Int32) (tg0 : Nat) (r0 : Int32) (zp_wide : Int32) (zp_high : Int32) (zp_pixels : Nat → Int32) (zd_wide : Int32) (zd_high : Int32) (zd_pixels : Nat → Int32) (zs_place : Int32) (zc_last : Int32) (zc_table : Nat → Int32) (zm_inDigits : Int32) (zm_greatest : Int32) (zb_known : Int32) (zb_depth : Int32) (zb_packing : Int32) (zb_isUpward : Int32) (zb_column : Int32) (zb_up : Int32) (zb_colours : Nat → Int32) (zk_depth : Int32) (zk_left : Int32) (zk_isRepeated : Int32) (zk_held : Int32) (hf : fX8_decode p_wide p_high p_pixels d_wide d_high d_pixels s_place s_file_size s_file_bytes c_last c_table m_inDigits m_greatest b_known b_depth b_packing b_isUpward b_column b_up b_colours k_depth k_left k_isRepeated k_held = some (tg0, r0, zp_wide, zp_high, zp_pixels, zd_wide, zd_high, zd_pixels, zs_place, zc_last, zc_table, zm_inDigits, zm_greatest, zb_known, zb_depth, zb_packing, zb_isUpward, zb_column, zb_up, zb_colours, zk_depth, zk_left, zk_isRepeated, zk_held)) : Met l yX8_decode wsX8_decode (rmX8_decode tg0) (va_Pc [.ref h_t] (zPD D [(cI, .int), (cF, .object RX3)] (zwC cI cF h_t h_p h_p_pixels h_d h_d_pixels h_s h_s_file h_s_file_bytes h_fm h_c h_c_table h_m h_b h_b_colours h_k p_wide p_high p_pixels d_wide d_high d_pixels s_place s_file_size s_file_bytes c_last c_table m_inDigits m_greatest b_known b_depth b_packing b_isUpward b_column b_up b_colours k_depth k_left k_isRepeated k_held) sz)) (zQi D (zwC cI cF h_t h_p h_p_pixels h_d h_d_pixels h_s h_s_file h_s_file_bytes h_fm h_c h_c_table h_m h_b h_b_colours h_k p_wide p_high p_pixels d_wide d_high d_pixels s_place s_file_size s_file_bytes c_last c_table m_inDigits m_greatest b_known b_depth b_packing b_isUpward b_column b_up b_colours k_depth k_left k_isRepeated k_held) sz r0 (zwC cI cF h_t h_p h_p_pixels h_d h_d_pixels h_s h_s_file h_s_file_bytes h_fm h_c h_c_table h_m h_b h_b_colours h_k zp_wide zp_high zp_pixels zd_wide zd_high zd_pixels zs_place s_file_size s_file_bytes zc_last zc_table zm_inDigits zm_greatest zb_known zb_depth zb_packing zb_isUpward zb_column zb_up zb_colours zk_depth zk_left zk_isRepeated zk_held)) (zc tg0) (zs tg0) (va_A (zwC cI cF h_t h_p h_p_pixels h_d h_d_pixels h_s h_s_file h_s_file_bytes h_fm h_c h_c_table h_m h_b h_b_colours h_k p_wide p_high p_pixels d_wide d_high d_pixels s_place s_file_size s_file_bytes c_last c_table m_inDigits m_greatest b_known b_depth b_packing b_isUpward b_column b_up b_colours k_depth k_left k_isRepeated k_held) sz) := by
  refine zmet_of (vx_ofWH (cc := cX8_decode) (maxL := 3) (ret := (some .int)) (hh := [(20, 37, 40, 138), (20, 37, 44, 140)]) (by decide) rfl ?_)
  intro p e s m args below meth c s₁ B hml hv
  obtain ⟨rfl, ⟨⟨hsz, hP, hK2, hD0, hN⟩, hT⟩, hNc⟩ := hv
  subst hsz
  have C : CallFix p m c cX8_decode 3 s [.ref h_t].toArray wsX8_decode RX8 := ⟨B.exec, B.bytes, hml, findClass_of_methodNamed B.named, atoms_spec (ws := wsX8_decode) B.pre⟩
  have hl := lv_entry ([.ref h_t]) (n := 3) (Nat.le_of_ble_eq_true rfl)
  rw [lg_entry_eq]
  have htb := vx_table (x := yX8_decode) B (C.2.2.2.2 _ List.mem_cons_self)
  exact wX8_decode_0 (A := va_A (zwC cI cF h_t h_p h_p_pixels h_d h_d_pixels h_s h_s_file h_s_file_bytes h_fm h_c h_c_table h_m h_b h_b_colours h_k p_wide p_high p_pixels d_wide d_high d_pixels s_place s_file_size s_file_bytes c_last c_table m_inDigits m_greatest b_known b_depth b_packing b_isUpward b_column b_up b_colours k_depth k_left k_isRepeated k_held) s.heap.size) C hN hK2 (fun q h => Or.inr h) hT hst hNc htb (fun H locs pc ls d hP hD hS => vx_ret (W.iret (v := r0) C.1 C.2.1 B.returns (fun t ht hW => ⟨⟨r0, (), rfl, rfl, by rw [ht]; exact hP, hD⟩, hS.F ht⟩) hS.2.2 d B.notSynchronized)) hf hP hD0.self va_S.rf hl
