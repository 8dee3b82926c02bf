def fX4_readPixel (t_depth : Int32) (s_place : Int32) (s_file_size : Int32) (s_file_bytes : Nat → Int32) : Option (Nat × Int32 × Int32) :=
  if t_depth = 8 then
    zb3 (fX7_next s_place s_file_size s_file_bytes) fun tg12 r13 u14 =>
    if tg12 = 0 then
      zb1 (fX8_opaque r13 r13 r13) fun r16 =>
      some (0, r16, u14)
    else
      some (tg12, 0, u14)
  else
    zb3 (fX7_blueGreenRed s_place s_file_size s_file_bytes) fun tg2 r3 u4 =>
    if tg2 = 0 then
      if t_depth = 32 then
        zb3 (fX7_next u4 s_file_size s_file_bytes) fun tg7 r8 u9 =>
        if tg7 = 0 then
          zlet ((r3 &&& (-256)) ||| r8) fun x11 =>
          some (0, x11, u9)
        else
          some (tg7, 0, u9)
      else
        some (0, r3, u4)
    else
      some (tg2, 0, u4)
def fX4_openPacket_55 (t_left : Int32) (t_isRepeated : Int32) (s_place : Int32) (k1 : Int32) : Option (Nat × Int32 × Int32 × Int32) :=
  zb1 (fX7_need k1) fun tg1 =>
  if tg1 = 0 then
    some (0, t_left, t_isRepeated, s_place)
  else
    some (tg1, t_left, t_isRepeated, s_place)
def fX4_openPacket_38 (t_isRepeated : Int32) (s_place : Int32) (l2 : Int32) (k1 : Int32) : Option (Nat × Int32 × Int32 × Int32) :=
  if l2 < k1 then
    fX4_openPacket_55 k1 t_isRepeated s_place 0
  else
    fX4_openPacket_55 k1 t_isRepeated s_place 1
def fX4_openPacket_17 (s_place : Int32) (l2 : Int32) (l3 : Int32) (k1 : Int32) : Option (Nat × Int32 × Int32 × Int32) :=
  zbo k1 <|
  if k1 = 0 then
    fX4_openPacket_38 k1 s_place l2 (l3 + 1)
  else
    fX4_openPacket_38 k1 s_place l2 (l3 - 127)
def fX4_openPacket (t_left : Int32) (t_isRepeated : Int32) (s_place : Int32) (s_file_size : Int32) (s_file_bytes : Nat → Int32) (v1 : Int32) : Option (Nat × Int32 × Int32 × Int32) :=
  zb3 (fX7_next s_place s_file_size s_file_bytes) fun tg1 r2 u3 =>
  if tg1 = 0 then
    if r2 ≤ 127 then
      fX4_openPacket_17 u3 v1 r2 0
    else
      fX4_openPacket_17 u3 v1 r2 1
  else
    some (tg1, t_left, t_isRepeated, u3)
def fX4_nextPixel_44 (t_depth : Int32) (t_left : Int32) (t_isRepeated : Int32) (t_held : Int32) (s_place : Int32) (s_file_size : Int32) (s_file_bytes : Nat → Int32) : Option (Nat × Int32 × Int32 × Int32 × Int32 × Int32) :=
  zb3 (fX4_readPixel t_depth s_place s_file_size s_file_bytes) fun tg1 r2 u3 =>
  if tg1 = 0 then
    some (0, r2, t_left, t_isRepeated, r2, u3)
  else
    some (tg1, 0, t_left, t_isRepeated, t_held, u3)
def fX4_nextPixel_23 (t_depth : Int32) (t_left : Int32) (t_isRepeated : Int32) (t_held : Int32) (s_place : Int32) (s_file_size : Int32) (s_file_bytes : Nat → Int32) (l3 : Int32) : Option (Nat × Int32 × Int32 × Int32 × Int32 × Int32) :=
  zlet (t_left - 1) fun x1 =>
  if l3 = 0 then
    if t_isRepeated = 0 then
      fX4_nextPixel_44 t_depth x1 t_isRepeated t_held s_place s_file_size s_file_bytes
    else
      some (0, t_held, x1, t_isRepeated, t_held, s_place)
  else
    fX4_nextPixel_44 t_depth x1 t_isRepeated t_held s_place s_file_size s_file_bytes
def fX4_nextPixel_12 (t_depth : Int32) (t_left : Int32) (t_isRepeated : Int32) (t_held : Int32) (s_place : Int32) (s_file_size : Int32) (s_file_bytes : Nat → Int32) (l2 : Int32) (k0 : Int32) : Option (Nat × Int32 × Int32 × Int32 × Int32 × Int32) :=
  if k0 = 0 then
    fX4_nextPixel_23 t_depth t_left t_isRepeated t_held s_place s_file_size s_file_bytes k0
  else
    zb4 (fX4_openPacket t_left t_isRepeated s_place s_file_size s_file_bytes l2) fun tg2 u3 u4 u5 =>
    if tg2 = 0 then
      fX4_nextPixel_23 t_depth u3 u4 t_held u5 s_file_size s_file_bytes k0
    else
      some (tg2, 0, u3, u4, t_held, u5)
def fX4_nextPixel (t_depth : Int32) (t_left : Int32) (t_isRepeated : Int32) (t_held : Int32) (s_place : Int32) (s_file_size : Int32) (s_file_bytes : Nat → Int32) (v1 : Int32) : Option (Nat × Int32 × Int32 × Int32 × Int32 × Int32) :=
  if t_left = 0 then
    fX4_nextPixel_12 t_depth t_left t_isRepeated t_held s_place s_file_size s_file_bytes v1 1
  else
    fX4_nextPixel_12 t_depth t_left t_isRepeated t_held s_place s_file_size s_file_bytes v1 0
def fX4_readPixels_98 (rc37 : Int32 → Int32 → Int32 → Int32 → Int32 → Int32 → (Nat → Int32) → Int32 → Int32 → (Nat → Int32) → Int32 → Int32 → Int32 → Int32 → Option (Nat × Int32 × Int32 × Int32 × Int32 × (Nat → Int32))) (rc70 : Int32 → Int32 → Int32 → Int32 → Int32 → Int32 → (Nat → Int32) → Int32 → Int32 → (Nat → Int32) → Int32 → Int32 → Int32 → Int32 → Int32 → Int32 → Option (Nat × Int32 × Int32 × Int32 × Int32 × (Nat → Int32))) (t_depth : Int32) (t_left : Int32) (t_isRepeated : Int32) (t_held : Int32) (s_place : Int32) (s_file_size : Int32) (s_file_bytes : Nat → Int32) (p_wide : Int32) (p_high : Int32) (p_pixels : Nat → Int32) (l4 : Int32) (l5 : Int32) (l6 : Int32) (l7 : Int32) (l8 : Int32) (l9 : Int32) (k0 : Int32) : Option (Nat × Int32 × Int32 × Int32 × Int32 × (Nat → Int32)) :=
  zb6 (fX4_nextPixel t_depth t_left t_isRepeated t_held s_place s_file_size s_file_bytes l6) fun tg1 r2 u3 u4 u5 u6 =>
  if tg1 = 0 then
    zb1 (fX5_set p_wide p_pixels k0 l8 r2) fun u8 =>
    zlet (l6 + (-1)) fun x10 =>
    zlet (l9 + 1) fun x11 =>
    rc70 t_depth u3 u4 u5 u6 s_file_size s_file_bytes p_wide p_high u8 l4 l5 x10 l7 l8 x11
  else
    some (tg1, u3, u4, u5, u6, p_pixels)
def fX4_readPixels_70 (rc37 : Int32 → Int32 → Int32 → Int32 → Int32 → Int32 → (Nat → Int32) → Int32 → Int32 → (Nat → Int32) → Int32 → Int32 → Int32 → Int32 → Option (Nat × Int32 × Int32 × Int32 × Int32 × (Nat → Int32))) : Nat → Int32 → Int32 → Int32 → Int32 → Int32 → Int32 → (Nat → Int32) → Int32 → Int32 → (Nat → Int32) → Int32 → Int32 → Int32 → Int32 → Int32 → Int32 → Option (Nat × Int32 × Int32 × Int32 × Int32 × (Nat → Int32))
  | 0, _, _, _, _, _, _, _, _, _, _, _, _, _, _, _, _ => none
  | n + 1, t_depth, t_left, t_isRepeated, t_held, s_place, s_file_size, s_file_bytes, p_wide, p_high, p_pixels, l4, l5, l6, l7, l8, l9 =>
    if p_wide ≤ l9 then
      zlet (l7 + 1) fun x2 =>
      rc37 t_depth t_left t_isRepeated t_held s_place s_file_size s_file_bytes p_wide p_high p_pixels l4 l5 l6 x2
    else
      if l4 = 0 then
        fX4_readPixels_98 rc37 (fX4_readPixels_70 rc37 n) t_depth t_left t_isRepeated t_held s_place s_file_size s_file_bytes p_wide p_high p_pixels l4 l5 l6 l7 l8 l9 l9
      else
        fX4_readPixels_98 rc37 (fX4_readPixels_70 rc37 n) t_depth t_left t_isRepeated t_held s_place s_file_size s_file_bytes p_wide p_high p_pixels l4 l5 l6 l7 l8 l9 ((p_wide - 1) - l9)
theorem fX4_readPixels_70_s (rc37 : Int32 → Int32 → Int32 → Int32 → Int32 → Int32 → (Nat → Int32) → Int32 → Int32 → (Nat → Int32) → Int32 → Int32 → Int32 → Int32 → Option (Nat × Int32 × Int32 × Int32 × Int32 × (Nat → Int32))) (n : Nat) (t_depth : Int32) (t_left : Int32) (t_isRepeated : Int32) (t_held : Int32) (s_place : Int32) (s_file_size : Int32) (s_file_bytes : Nat → Int32) (p_wide : Int32) (p_high : Int32) (p_pixels : Nat → Int32) (l4 : Int32) (l5 : Int32) (l6 : Int32) (l7 : Int32) (l8 : Int32) (l9 : Int32) : fX4_readPixels_70 rc37 (n + 1) t_depth t_left t_isRepeated t_held s_place s_file_size s_file_bytes p_wide p_high p_pixels l4 l5 l6 l7 l8 l9 =
    if p_wide ≤ l9 then
      zlet (l7 + 1) fun x2 =>
      rc37 t_depth t_left t_isRepeated t_held s_place s_file_size s_file_bytes p_wide p_high p_pixels l4 l5 l6 x2
    else
      if l4 = 0 then
        fX4_readPixels_98 rc37 (fX4_readPixels_70 rc37 n) t_depth t_left t_isRepeated t_held s_place s_file_size s_file_bytes p_wide p_high p_pixels l4 l5 l6 l7 l8 l9 l9
      else
        fX4_readPixels_98 rc37 (fX4_readPixels_70 rc37 n) t_depth t_left t_isRepeated t_held s_place s_file_size s_file_bytes p_wide p_high p_pixels l4 l5 l6 l7 l8 l9 ((p_wide - 1) - l9) := rfl
def fX4_readPixels_65 (rc37 : Int32 → Int32 → Int32 → Int32 → Int32 → Int32 → (Nat → Int32) → Int32 → Int32 → (Nat → Int32) → Int32 → Int32 → Int32 → Int32 → Option (Nat × Int32 × Int32 × Int32 × Int32 × (Nat → Int32))) (t_depth : Int32) (t_left : Int32) (t_isRepeated : Int32) (t_held : Int32) (s_place : Int32) (s_file_size : Int32) (s_file_bytes : Nat → Int32) (p_wide : Int32) (p_high : Int32) (p_pixels : Nat → Int32) (l4 : Int32) (l5 : Int32) (l6 : Int32) (l7 : Int32) (k0 : Int32) : Option (Nat × Int32 × Int32 × Int32 × Int32 × (Nat → Int32)) :=
  fX4_readPixels_70 rc37 1000 t_depth t_left t_isRepeated t_held s_place s_file_size s_file_bytes p_wide p_high p_pixels l4 l5 l6 l7 k0 0
def fX4_readPixels_37 : Nat → Int32 → Int32 → Int32 → Int32 → Int32 → Int32 → (Nat → Int32) → Int32 → Int32 → (Nat → Int32) → Int32 → Int32 → Int32 → Int32 → Option (Nat × Int32 × Int32 × Int32 × Int32 × (Nat → Int32))
  | 0, _, _, _, _, _, _, _, _, _, _, _, _, _, _ => none
  | n + 1, t_depth, t_left, t_isRepeated, t_held, s_place, s_file_size, s_file_bytes, p_wide, p_high, p_pixels, l4, l5, l6, l7 =>
    if p_high ≤ l7 then
      some (0, t_left, t_isRepeated, t_held, s_place, p_pixels)
    else
      if l5 = 0 then
        fX4_readPixels_65 (fX4_readPixels_37 n) t_depth t_left t_isRepeated t_held s_place s_file_size s_file_bytes p_wide p_high p_pixels l4 l5 l6 l7 ((p_high - 1) - l7)
      else
        fX4_readPixels_65 (fX4_readPixels_37 n) t_depth t_left t_isRepeated t_held s_place s_file_size s_file_bytes p_wide p_high p_pixels l4 l5 l6 l7 l7
theorem fX4_readPixels_37_s (n : Nat) (t_depth : Int32) (t_left : Int32) (t_isRepeated : Int32) (t_held : Int32) (s_place : Int32) (s_file_size : Int32) (s_file_bytes : Nat → Int32) (p_wide : Int32) (p_high : Int32) (p_pixels : Nat → Int32) (l4 : Int32) (l5 : Int32) (l6 : Int32) (l7 : Int32) : fX4_readPixels_37 (n + 1) t_depth t_left t_isRepeated t_held s_place s_file_size s_file_bytes p_wide p_high p_pixels l4 l5 l6 l7 =
    if p_high ≤ l7 then
      some (0, t_left, t_isRepeated, t_held, s_place, p_pixels)
    else
      if l5 = 0 then
        fX4_readPixels_65 (fX4_readPixels_37 n) t_depth t_left t_isRepeated t_held s_place s_file_size s_file_bytes p_wide p_high p_pixels l4 l5 l6 l7 ((p_high - 1) - l7)
      else
        fX4_readPixels_65 (fX4_readPixels_37 n) t_depth t_left t_isRepeated t_held s_place s_file_size s_file_bytes p_wide p_high p_pixels l4 l5 l6 l7 l7 := rfl
def fX4_readPixels_26 (t_depth : Int32) (t_left : Int32) (t_isRepeated : Int32) (t_held : Int32) (s_place : Int32) (s_file_size : Int32) (s_file_bytes : Nat → Int32) (p_wide : Int32) (p_high : Int32) (p_pixels : Nat → Int32) (l4 : Int32) (k0 : Int32) : Option (Nat × Int32 × Int32 × Int32 × Int32 × (Nat → Int32)) :=
  zb1 (fX5_count p_wide p_high) fun r1 =>
  fX4_readPixels_37 1000 t_depth t_left t_isRepeated t_held s_place s_file_size s_file_bytes p_wide p_high p_pixels l4 k0 r1 0
def fX4_readPixels_12 (t_depth : Int32) (t_left : Int32) (t_isRepeated : Int32) (t_held : Int32) (s_place : Int32) (s_file_size : Int32) (s_file_bytes : Nat → Int32) (p_wide : Int32) (p_high : Int32) (p_pixels : Nat → Int32) (l2 : Int32) (k0 : Int32) : Option (Nat × Int32 × Int32 × Int32 × Int32 × (Nat → Int32)) :=
  if (l2 &&& 32) = 0 then
    fX4_readPixels_26 t_depth t_left t_isRepeated t_held s_place s_file_size s_file_bytes p_wide p_high p_pixels k0 0
  else
    fX4_readPixels_26 t_depth t_left t_isRepeated t_held s_place s_file_size s_file_bytes p_wide p_high p_pixels k0 1
def fX4_readPixels (t_depth : Int32) (t_left : Int32) (t_isRepeated : Int32) (t_held : Int32) (s_place : Int32) (s_file_size : Int32) (s_file_bytes : Nat → Int32) (p_wide : Int32) (p_high : Int32) (p_pixels : Nat → Int32) (v1 : Int32) : Option (Nat × Int32 × Int32 × Int32 × Int32 × (Nat → Int32)) :=
  if (v1 &&& 16) = 0 then
    fX4_readPixels_12 t_depth t_left t_isRepeated t_held s_place s_file_size s_file_bytes p_wide p_high p_pixels v1 0
  else
    fX4_readPixels_12 t_depth t_left t_isRepeated t_held s_place s_file_size s_file_bytes p_wide p_high p_pixels v1 1
def fX4_read_125 (t_depth : Int32) (t_isRepeated : Int32) (t_held : Int32) (s_place : Int32) (s_file_size : Int32) (s_file_bytes : Nat → Int32) (p_wide : Int32) (p_high : Int32) (p_pixels : Nat → Int32) (l7 : Int32) (k1 : Int32) : Option (Nat × Int32 × Int32 × Int32 × Int32 × Int32 × Int32 × Int32 × (Nat → Int32)) :=
  zb6 (fX4_readPixels t_depth k1 t_isRepeated t_held s_place s_file_size s_file_bytes p_wide p_high p_pixels l7) fun tg1 u2 u3 u4 u5 u6 =>
  if tg1 = 0 then
    some (0, t_depth, u2, u3, u4, u5, p_wide, p_high, u6)
  else
    some (tg1, t_depth, u2, u3, u4, u5, p_wide, p_high, u6)
def fX4_read_117 (t_depth : Int32) (t_isRepeated : Int32) (t_held : Int32) (s_place : Int32) (s_file_size : Int32) (s_file_bytes : Nat → Int32) (p_wide : Int32) (p_high : Int32) (p_pixels : Nat → Int32) (l7 : Int32) : Option (Nat × Int32 × Int32 × Int32 × Int32 × Int32 × Int32 × Int32 × (Nat → Int32)) :=
  zb1 (fX5_count p_wide p_high) fun r1 =>
  fX4_read_125 t_depth t_isRepeated t_held s_place s_file_size s_file_bytes p_wide p_high p_pixels l7 r1
def fX4_read_83 (t_depth : Int32) (t_left : Int32) (t_isRepeated : Int32) (t_held : Int32) (s_place : Int32) (s_file_size : Int32) (s_file_bytes : Nat → Int32) (p_wide : Int32) (p_high : Int32) (p_pixels : Nat → Int32) (l3 : Int32) (l4 : Int32) (l5 : Int32) (l6 : Int32) (l7 : Int32) (k1 : Int32) : Option (Nat × Int32 × Int32 × Int32 × Int32 × Int32 × Int32 × Int32 × (Nat → Int32)) :=
  zb1 (fX7_need k1) fun tg1 =>
  if tg1 = 0 then
    zb2 (fX7_pass s_place s_file_size s_file_bytes l3) fun tg3 u4 =>
    if tg3 = 0 then
      zb3 (fX5_begin p_pixels l5 l6) fun u6 u7 u8 =>
      if l4 = 2 then
        fX4_read_117 t_depth 0 t_held u4 s_file_size s_file_bytes u6 u7 u8 l7
      else
        if l4 = 3 then
          fX4_read_117 t_depth 0 t_held u4 s_file_size s_file_bytes u6 u7 u8 l7
        else
          fX4_read_125 t_depth 0 t_held u4 s_file_size s_file_bytes u6 u7 u8 l7 0
    else
      some (tg3, t_depth, t_left, t_isRepeated, t_held, u4, p_wide, p_high, p_pixels)
  else
    some (tg1, t_depth, t_left, t_isRepeated, t_held, s_place, p_wide, p_high, p_pixels)
def fX4_read_82 (t_depth : Int32) (t_left : Int32) (t_isRepeated : Int32) (t_held : Int32) (s_place : Int32) (s_file_size : Int32) (s_file_bytes : Nat → Int32) (p_wide : Int32) (p_high : Int32) (p_pixels : Nat → Int32) (l3 : Int32) (l4 : Int32) (l5 : Int32) (l6 : Int32) (l7 : Int32) : Option (Nat × Int32 × Int32 × Int32 × Int32 × Int32 × Int32 × Int32 × (Nat → Int32)) :=
  fX4_read_83 t_depth t_left t_isRepeated t_held s_place s_file_size s_file_bytes p_wide p_high p_pixels l3 l4 l5 l6 l7 0
def fX4_read (t_depth : Int32) (t_left : Int32) (t_isRepeated : Int32) (t_held : Int32) (s_place : Int32) (s_file_size : Int32) (s_file_bytes : Nat → Int32) (p_wide : Int32) (p_high : Int32) (p_pixels : Nat → Int32) : Option (Nat × Int32 × Int32 × Int32 × Int32 × Int32 × Int32 × Int32 × (Nat → Int32)) :=
  zb3 (fX7_next s_place s_file_size s_file_bytes) fun tg1 r2 u3 =>
  if tg1 = 0 then
    zb2 (fX7_pass u3 s_file_size s_file_bytes 1) fun tg5 u6 =>
    if tg5 = 0 then
      zb3 (fX7_next u6 s_file_size s_file_bytes) fun tg8 r9 u10 =>
      if tg8 = 0 then
        zb2 (fX7_pass u10 s_file_size s_file_bytes 9) fun tg12 u13 =>
        if tg12 = 0 then
          zb3 (fX7_little u13 s_file_size s_file_bytes 2) fun tg15 r16 u17 =>
          if tg15 = 0 then
            zb2 (fX7_needSide r16) fun tg19 r20 =>
            if tg19 = 0 then
              zb3 (fX7_little u17 s_file_size s_file_bytes 2) fun tg22 r23 u24 =>
              if tg22 = 0 then
                zb2 (fX7_needSide r23) fun tg26 r27 =>
                if tg26 = 0 then
                  zb3 (fX7_next u24 s_file_size s_file_bytes) fun tg29 r30 u31 =>
                  if tg29 = 0 then
                    zb3 (fX7_next u31 s_file_size s_file_bytes) fun tg33 r34 u35 =>
                    if tg33 = 0 then
                      zb1 (fX4_alphaBits r30) fun r37 =>
                      if (r34 &&& 15) = r37 then
                        if 64 ≤ r34 then
                          fX4_read_82 r30 t_left t_isRepeated t_held u35 s_file_size s_file_bytes p_wide p_high p_pixels r2 r9 r20 r27 r34
                        else
                          fX4_read_83 r30 t_left t_isRepeated t_held u35 s_file_size s_file_bytes p_wide p_high p_pixels r2 r9 r20 r27 r34 1
                      else
                        fX4_read_82 r30 t_left t_isRepeated t_held u35 s_file_size s_file_bytes p_wide p_high p_pixels r2 r9 r20 r27 r34
                    else
                      some (tg33, r30, t_left, t_isRepeated, t_held, u35, p_wide, p_high, p_pixels)
                  else
                    some (tg29, t_depth, t_left, t_isRepeated, t_held, u31, p_wide, p_high, p_pixels)
                else
                  some (tg26, t_depth, t_left, t_isRepeated, t_held, u24, p_wide, p_high, p_pixels)
              else
                some (tg22, t_depth, t_left, t_isRepeated, t_held, u24, p_wide, p_high, p_pixels)
            else
              some (tg19, t_depth, t_left, t_isRepeated, t_held, u17, p_wide, p_high, p_pixels)
          else
            some (tg15, t_depth, t_left, t_isRepeated, t_held, u17, p_wide, p_high, p_pixels)
        else
          some (tg12, t_depth, t_left, t_isRepeated, t_held, u13, p_wide, p_high, p_pixels)
      else
        some (tg8, t_depth, t_left, t_isRepeated, t_held, u10, p_wide, p_high, p_pixels)
    else
      some (tg5, t_depth, t_left, t_isRepeated, t_held, u6, p_wide, p_high, p_pixels)
  else
    some (tg1, t_depth, t_left, t_isRepeated, t_held, u3, p_wide, p_high, p_pixels)
def rmX4_readPixel (tg : Nat) : Room := { frames := 8, cells := zc tg, slots := zs tg, locals := 125 }
theorem kX4_readPixel_28 {args : Array Value} {s : State} (h : ∀ w ∈ wsX4_readPixel, w.before args s = true) : (Cond.fieldLink RX4 28 "FourPictureFiles$PacketFormat" "depth" "I").before args s = true := h _ (by decide +kernel)
theorem iX4_readPixel_X4 : ∀ w ∈ u_ws RX4 TX4 4, w ∈ wsX4_readPixel := by decide +kernel
theorem qX4_readPixel_X7_blueGreenRed_145 {args : Array Value} {s : State} {tg0 : Nat} {tg : Nat} (hts : ∀ w ∈ wsX4_readPixel, w.before args s = true) : CallW (rmX4_readPixel tg0) s args RX4 RX7 145 yX7_blueGreenRed cX7_blueGreenRed 3 (some .int) wsX7_blueGreenRed (rmX7_blueGreenRed tg) (zc tg) (zs tg) 0 := cwV 0 hts gX4_readPixel_X7_blueGreenRed rfl rfl rfl (by decide +kernel) ⟨Nat.le_of_ble_eq_true rfl, Nat.le_of_ble_eq_true rfl⟩
theorem qX4_readPixel_X7_next_87 {args : Array Value} {s : State} {tg0 : Nat} {tg : Nat} (hts : ∀ w ∈ wsX4_readPixel, w.before args s = true) : CallW (rmX4_readPixel tg0) s args RX4 RX7 87 yX7_next cX7_next 2 (some .int) wsX7_next (rmX7_next tg) (zc tg) (zs tg) 0 := cwV 0 hts gX4_readPixel_X7_next rfl rfl rfl (by decide +kernel) ⟨Nat.le_of_ble_eq_true rfl, Nat.le_of_ble_eq_true rfl⟩
theorem qX4_readPixel_X8_opaque_141 {args : Array Value} {s : State} {tg0 : Nat} (hts : ∀ w ∈ wsX4_readPixel, w.before args s = true) (hN : zN s) : va_CN (rmX4_readPixel tg0) s args RX4 141 yX8_opaque RX8 cX8_opaque 3 (some .int) wsX8_opaque rmX8_opaque 0 0 3 ∧ (Cond.static yX8_opaque).before args s = true ∧ True := ⟨va_cnB 3 hts gX4_readPixel_X8_opaque_n141 rfl rfl rfl (hN.nw 55 rfl) (hts (.initialized RX8) (by decide +kernel)) (by decide +kernel) ⟨Nat.le_of_ble_eq_true rfl, Nat.le_of_ble_eq_true rfl⟩, hts (.static yX8_opaque) (by decide +kernel), trivial⟩
set_option maxHeartbeats 4000000 in
set_option maxRecDepth 100000 in
theorem wX4_readPixel_0 {p : Program} {l : Launch} {e : Env} {s : State} {m : MethodId} {args : Array Value} {below : List Frame} {meth : Method} {c : Code} {D : va_G} {A : Nat → Prop} {Q : State → Prop} {cI : ClassId} {h_t h_s h_s_file h_s_file_bytes : Nat} {t_depth : Int32} {t_left : Int32} {t_isRepeated : Int32} {t_held : Int32} {s_file_size : Int32} {s_file_bytes : Nat → Int32} {tg0 : Nat} {r0 : Int32} {zs_place : Int32} (C : CallFix p m c cX4_readPixel 3 s args wsX4_readPixel RX4) (hN : zN s) (hK : va_K D vwCl [(cI, .int)] s) (hA : ∀ q, s.heap.size ≤ q → A q) (hT : zTh A s) (hst : l.stackTraces = false) (hE : zTEi tg0 p l e (rmX4_readPixel tg0) s m args below meth c cX4_readPixel D A Q (zwX4 cI h_t t_depth t_left t_isRepeated t_held ++ zwX7 cI h_s h_s_file h_s_file_bytes zs_place s_file_size s_file_bytes) r0) (hX : zTX tg0 p l e (rmX4_readPixel tg0) s m args below meth c D A Q (zwX4 cI h_t t_depth t_left t_isRepeated t_held ++ zwX7 cI h_s h_s_file h_s_file_bytes zs_place s_file_size s_file_bytes)) {s_place : Int32} {H : Heap} {locs : List Loc} {ls : Array Slot} : fX4_readPixel t_depth s_place s_file_size s_file_bytes = some (tg0, r0, zs_place) → va_P D vwCl (zwX4 cI h_t t_depth t_left t_isRepeated t_held ++ zwX7 cI h_s h_s_file h_s_file_bytes s_place s_file_size s_file_bytes) H → va_D A (zwX4 cI h_t t_depth t_left t_isRepeated t_held ++ zwX7 cI h_s h_s_file h_s_file_bytes s_place s_file_size s_file_bytes) → va_S A s.heap H locs → lv_has ls 3 [(0, .ref h_t), (1, .ref h_s)] → W p l e (rmX4_readPixel tg0) s m args below meth c H locs 0 0 Q (F0 m 0 ls []) := by
  intro hf hP hD hS hl
  obtain ⟨hx, hb, hml, hown, hts⟩ := id C
  unfold fX4_readPixel at hf
  refine lv_aload_n hx hb dX4_readPixel_0 rfl (lv_at hl 0 rfl) ?_
  refine va_get (D := D) (ci := 3) (v := .int t_depth) (C := RX4) (T := TX4) (N := 4) hx hb hts iX4_readPixel_X4 hown hK hP 0 rfl rfl 0 (by decide) (kX4_readPixel_28 hts) (fun _ h9 => h9) rfl dX4_readPixel_1 ?_
  refine lv_bipush (v := 8) hx hb dX4_readPixel_4 (by decide) ?_
  refine lv_icmp_ne (tgt := 21) hx hb dX4_readPixel_6 (by decide) (fun c1 => ?_) (fun c1 => ?_)
  · replace hf := zif_f hf c1
    refine lv_aload_n hx hb dX4_readPixel_21 rfl (lv_at hl 1 rfl) ?_
    obtain ⟨tg2, r3, u4, hc5, hf⟩ := zb3_in hf
    have hle := zT_le hf
    refine zcx_i (vx_runV (As := []) (rest := []) C (mX7_blueGreenRed l hst D cI H.size h_s h_s_file h_s_file_bytes s_place s_file_size s_file_bytes tg2 r3 u4 hc5) (qX4_readPixel_X7_blueGreenRed_145 hts) ⟨zPT_blind, va_recv hK hP (ci := 6) (q0 := 1) rfl rfl, zpreT hK hN hT hA hS hP hD [1, 2, 3] rfl rfl⟩ rfl rfl hl.1 rfl (lv_room (Nat.le_of_ble_eq_true rfl)) dX4_readPixel_22 hle) hP hD hS hA [1, 2, 3] [0] [0, 1, 2, 3] (ws' := zwX4 cI h_t t_depth t_left t_isRepeated t_held ++ zwX7 cI h_s h_s_file h_s_file_bytes u4 s_file_size s_file_bytes) rfl rfl rfl rfl rfl rfl (fun ht H locs q9 ce hP hD hS hq hv hcl => ?_) (fun ht H locs hP hD hS => ?_)
    · replace hf := zif_f hf ht
      cases hf
      exact hX _ _ _ _ _ _ _ ht hP hD hS hq hv hcl
    · replace hf := zif_t hf ht
      clear hle
      refine lv_istore_n (lv' := [(2, .int r3), (0, .ref h_t), (1, .ref h_s)]) hx hb dX4_readPixel_25 rfl hl (by decide) rfl (fun ls hl => ?_)
      refine lv_aload_n hx hb dX4_readPixel_26 rfl (lv_at hl 1 rfl) ?_
      refine va_get (D := D) (ci := 3) (v := .int t_depth) (C := RX4) (T := TX4) (N := 4) hx hb hts iX4_readPixel_X4 hown hK hP 0 rfl rfl 0 (by decide) (kX4_readPixel_28 hts) (fun _ h9 => h9) rfl dX4_readPixel_27 ?_
      refine lv_bipush (v := 32) hx hb dX4_readPixel_30 (by decide) ?_
      refine lv_icmp_ne (tgt := 48) hx hb dX4_readPixel_32 (by decide) (fun c6 => ?_) (fun c6 => ?_)
      · replace hf := zif_f hf c6
        refine lv_iload_n hx hb dX4_readPixel_48 rfl (lv_at hl 0 rfl) ?_
        cases hf
        exact hE rfl _ _ _ _ dX4_readPixel_49 hP hD hS
      · replace hf := zif_t hf c6
        refine lv_iload_n hx hb dX4_readPixel_35 rfl (lv_at hl 0 rfl) ?_
        refine lv_sipush (v := (-256)) hx hb dX4_readPixel_36 (by decide) ?_
        refine lv_iand hx hb dX4_readPixel_39 ?_
        refine lv_aload_n hx hb dX4_readPixel_40 rfl (lv_at hl 2 rfl) ?_
        obtain ⟨tg7, r8, u9, hc10, hf⟩ := zb3_in hf
        have hle := zT_le hf
        refine zcx_i (vx_runV (As := []) (rest := [.int (r3 &&& (-256))]) C (mX7_next l hst D cI H.size h_s h_s_file h_s_file_bytes u4 s_file_size s_file_bytes tg7 r8 u9 hc10) (qX4_readPixel_X7_next_87 hts) ⟨zPT_blind, va_recv hK hP (ci := 6) (q0 := 1) rfl rfl, zpreT hK hN hT hA hS hP hD [1, 2, 3] rfl rfl⟩ rfl rfl hl.1 rfl (lv_room (Nat.le_of_ble_eq_true rfl)) dX4_readPixel_41 hle) hP hD hS hA [1, 2, 3] [0] [0, 1, 2, 3] (ws' := zwX4 cI h_t t_depth t_left t_isRepeated t_held ++ zwX7 cI h_s h_s_file h_s_file_bytes u9 s_file_size s_file_bytes) rfl rfl rfl rfl rfl rfl (fun ht H locs q9 ce hP hD hS hq hv hcl => ?_) (fun ht H locs hP hD hS => ?_)
        · replace hf := zif_f hf ht
          cases hf
          exact hX _ _ _ _ _ _ _ ht hP hD hS hq hv hcl
        · replace hf := zif_t hf ht
          clear hle
          refine lv_ior hx hb dX4_readPixel_44 ?_
          refine lv_goto (tgt := 49) hx hb dX4_readPixel_45 (by decide) ?_
          refine lv_topi (fun x11 ex11 => ?_)
          replace hf := zlet_in hf ex11
          clear ex11
          cases hf
          exact hE rfl _ _ _ _ dX4_readPixel_49 hP hD hS
  · replace hf := zif_t hf c1
    refine lv_aload_n hx hb dX4_readPixel_9 rfl (lv_at hl 1 rfl) ?_
    obtain ⟨tg12, r13, u14, hc15, hf⟩ := zb3_in hf
    have hle := zT_le hf
    refine zcx_i (vx_runV (As := []) (rest := []) C (mX7_next l hst D cI H.size h_s h_s_file h_s_file_bytes s_place s_file_size s_file_bytes tg12 r13 u14 hc15) (qX4_readPixel_X7_next_87 hts) ⟨zPT_blind, va_recv hK hP (ci := 6) (q0 := 1) rfl rfl, zpreT hK hN hT hA hS hP hD [1, 2, 3] rfl rfl⟩ rfl rfl hl.1 rfl (lv_room (Nat.le_of_ble_eq_true rfl)) dX4_readPixel_10 hle) hP hD hS hA [1, 2, 3] [0] [0, 1, 2, 3] (ws' := zwX4 cI h_t t_depth t_left t_isRepeated t_held ++ zwX7 cI h_s h_s_file h_s_file_bytes u14 s_file_size s_file_bytes) rfl rfl rfl rfl rfl rfl (fun ht H locs q9 ce hP hD hS hq hv hcl => ?_) (fun ht H locs hP hD hS => ?_)
    · replace hf := zif_f hf ht
      cases hf
      exact hX _ _ _ _ _ _ _ ht hP hD hS hq hv hcl
    · replace hf := zif_t hf ht
      clear hle
      refine lv_istore_n (lv' := [(2, .int r13), (0, .ref h_t), (1, .ref h_s)]) hx hb dX4_readPixel_13 rfl hl (by decide) rfl (fun ls hl => ?_)
      refine lv_iload_n hx hb dX4_readPixel_14 rfl (lv_at hl 0 rfl) ?_
      refine lv_iload_n hx hb dX4_readPixel_15 rfl (lv_at hl 0 rfl) ?_
      refine lv_iload_n hx hb dX4_readPixel_16 rfl (lv_at hl 0 rfl) ?_
      obtain ⟨r16, hc17, hf⟩ := zb1_in hf
      refine zc_i (va_runSN (As := [.int r13, .int r13, .int r13]) (rest := []) C (mX8_opaque l D cI H.size r13 r13 r13 r16 hc17) (qX4_readPixel_X8_opaque_141 hts hN) ⟨zP_blind, zpre hK hN hP hD [] rfl rfl⟩ rfl rfl hl.1 rfl (lv_room (Nat.le_of_ble_eq_true rfl)) dX4_readPixel_17 ⟨Nat.zero_le _, Nat.zero_le _⟩) hP hD hS hA [] [0, 1, 2, 3] [0, 1, 2, 3] (ws' := zwX4 cI h_t t_depth t_left t_isRepeated t_held ++ zwX7 cI h_s h_s_file h_s_file_bytes u14 s_file_size s_file_bytes) rfl rfl rfl rfl rfl rfl (fun H locs hP hD hS => ?_)
      cases hf
      exact hE rfl _ _ _ _ dX4_readPixel_20 hP hD hS
set_option maxHeartbeats 4000000 in
set_option maxRecDepth 100000 in
theorem mX4_readPixel (l : Launch) (hst : l.stackTraces = false) (D : va_G) (cI : ClassId) (sz : Nat) (h_t h_s h_s_file h_s_file_bytes : Nat) (t_depth : Int32) (t_left : Int32) (t_isRepeated : Int32) (t_held : Int32) (s_place : Int32) (s_file_size : Int32) (s_file_bytes : Nat → Int32) (tg0 : Nat) (r0 : Int32) (zs_place : Int32) (hf : fX4_readPixel t_depth s_place s_file_size s_file_bytes = some (tg0, r0, zs_place)) : vx_Met l yX4_readPixel wsX4_readPixel (rmX4_readPixel tg0) (va_Pc [.ref h_t, .ref h_s] (zPT D [(cI, .int)] (zwX4 cI h_t t_depth t_left t_isRepeated t_held ++ zwX7 cI h_s h_s_file h_s_file_bytes s_place s_file_size s_file_bytes) sz)) (zQTi D (zwX4 cI h_t t_depth t_left t_isRepeated t_held ++ zwX7 cI h_s h_s_file h_s_file_bytes s_place s_file_size s_file_bytes) sz tg0 r0 (zwX4 cI h_t t_depth t_left t_isRepeated t_held ++ zwX7 cI h_s h_s_file h_s_file_bytes zs_place s_file_size s_file_bytes)) (zXT D (zwX4 cI h_t t_depth t_left t_isRepeated t_held ++ zwX7 cI h_s h_s_file h_s_file_bytes s_place s_file_size s_file_bytes) sz tg0 (zwX4 cI h_t t_depth t_left t_isRepeated t_held ++ zwX7 cI h_s h_s_file h_s_file_bytes zs_place s_file_size s_file_bytes)) (zc tg0) (zs tg0) (va_A (zwX4 cI h_t t_depth t_left t_isRepeated t_held ++ zwX7 cI h_s h_s_file h_s_file_bytes s_place s_file_size s_file_bytes) sz) := by
  refine vx_ofW (cc := cX4_readPixel) (maxL := 3) (ret := (some .int)) (by decide) rfl ?_
  intro p e s m args below meth c s₁ B hml htab hv
  obtain ⟨rfl, ⟨hsz, hP, hK, hD0, hN⟩, hT⟩ := hv
  subst hsz
  have C : CallFix p m c cX4_readPixel 3 s [.ref h_t, .ref h_s].toArray wsX4_readPixel RX4 := ⟨B.exec, B.bytes, hml, findClass_of_methodNamed B.named, atoms_spec (ws := wsX4_readPixel) B.pre⟩
  have hl := lv_entry ([.ref h_t, .ref h_s]) (n := 3) (Nat.le_of_ble_eq_true rfl)
  rw [lg_entry_eq]
  exact wX4_readPixel_0 (A := va_A (zwX4 cI h_t t_depth t_left t_isRepeated t_held ++ zwX7 cI h_s h_s_file h_s_file_bytes s_place s_file_size s_file_bytes) s.heap.size) C hN hK (fun q h => Or.inr h) hT hst (fun h0 H locs pc ls d hP hD hS => zendT_i C.1 C.2.1 B.returns B.notSynchronized h0 d hP hD hS) (fun H locs pc ls rest q9 ce h0 hP hD hS hq hv hcl => zoutT htab B.notSynchronized h0 hP hD hS hq hv hcl) hf hP hD0.self va_S.rf hl
def rmX4_openPacket (tg : Nat) : Room := { frames := 7, cells := zc tg, slots := zs tg, locals := 103 }
theorem kX4_openPacket_108 {args : Array Value} {s : State} (h : ∀ w ∈ wsX4_openPacket, w.before args s = true) : (Cond.fieldLink RX4 108 "FourPictureFiles$PacketFormat" "isRepeated" "Z").before args s = true := h _ (by decide +kernel)
theorem kX4_openPacket_115 {args : Array Value} {s : State} (h : ∀ w ∈ wsX4_openPacket, w.before args s = true) : (Cond.fieldLink RX4 115 "FourPictureFiles$PacketFormat" "left" "I").before args s = true := h _ (by decide +kernel)
theorem iX4_openPacket_X4 : ∀ w ∈ u_ws RX4 TX4 4, w ∈ wsX4_openPacket := by decide +kernel
theorem qX4_openPacket_X7_need_101 {args : Array Value} {s : State} {tg0 : Nat} {tg : Nat} (hts : ∀ w ∈ wsX4_openPacket, w.before args s = true) : CallW (rmX4_openPacket tg0) s args RX4 RX7 101 yX7_need cX7_need 2 none wsX7_need (rmX7_need tg) (zc tg) (zs tg) 1 := cwV 1 hts gX4_openPacket_X7_need rfl rfl rfl (by decide +kernel) ⟨Nat.le_of_ble_eq_true rfl, Nat.le_of_ble_eq_true rfl⟩
theorem qX4_openPacket_X7_next_87 {args : Array Value} {s : State} {tg0 : Nat} {tg : Nat} (hts : ∀ w ∈ wsX4_openPacket, w.before args s = true) : CallW (rmX4_openPacket tg0) s args RX4 RX7 87 yX7_next cX7_next 2 (some .int) wsX7_next (rmX7_next tg) (zc tg) (zs tg) 0 := cwV 0 hts gX4_openPacket_X7_next rfl rfl rfl (by decide +kernel) ⟨Nat.le_of_ble_eq_true rfl, Nat.le_of_ble_eq_true rfl⟩
set_option maxHeartbeats 4000000 in
set_option maxRecDepth 100000 in
theorem wX4_openPacket_55 {p : Program} {l : Launch} {e : Env} {s : State} {m : MethodId} {args : Array Value} {below : List Frame} {meth : Method} {c : Code} {D : va_G} {A : Nat → Prop} {Q : State → Prop} {cI : ClassId} {h_t h_s h_s_file h_s_file_bytes : Nat} {t_depth : Int32} {t_held : Int32} {s_file_size : Int32} {s_file_bytes : Nat → Int32} {tg0 : Nat} {zt_left : Int32} {zt_isRepeated : Int32} {zs_place : Int32} (C : CallFix p m c cX4_openPacket 4 s args wsX4_openPacket RX4) (hN : zN s) (hK : va_K D vwCl [(cI, .int)] s) (hA : ∀ q, s.heap.size ≤ q → A q) (hT : zTh A s) (hst : l.stackTraces = false) (hE : zTEv tg0 p l e (rmX4_openPacket tg0) s m args below meth c cX4_openPacket D A Q (zwX4 cI h_t t_depth zt_left zt_isRepeated t_held ++ zwX7 cI h_s h_s_file h_s_file_bytes zs_place s_file_size s_file_bytes)) (hX : zTX tg0 p l e (rmX4_openPacket tg0) s m args below meth c D A Q (zwX4 cI h_t t_depth zt_left zt_isRepeated t_held ++ zwX7 cI h_s h_s_file h_s_file_bytes zs_place s_file_size s_file_bytes)) {t_left : Int32} {t_isRepeated : Int32} {s_place : Int32} {l2 : Int32} {l3 : Int32} {k1 : Int32} {H : Heap} {locs : List Loc} {ls : Array Slot} : fX4_openPacket_55 t_left t_isRepeated s_place k1 = some (tg0, zt_left, zt_isRepeated, zs_place) → va_P D vwCl (zwX4 cI h_t t_depth t_left t_isRepeated t_held ++ zwX7 cI h_s h_s_file h_s_file_bytes s_place s_file_size s_file_bytes) H → va_D A (zwX4 cI h_t t_depth t_left t_isRepeated t_held ++ zwX7 cI h_s h_s_file h_s_file_bytes s_place s_file_size s_file_bytes) → va_S A s.heap H locs → lv_has ls 4 [(0, .ref h_t), (1, .ref h_s), (2, .int l2), (3, .int l3)] → W p l e (rmX4_openPacket tg0) s m args below meth c H locs 0 0 Q (F0 m 55 ls [.int k1, .ref h_s]) := by
  intro hf hP hD hS hl
  obtain ⟨hx, hb, hml, hown, hts⟩ := id C
  unfold fX4_openPacket_55 at hf
  obtain ⟨tg1, hc2, hf⟩ := zb1_in hf
  have hle := zT_le hf
  refine zcx_v (vx_runV (As := [.int k1]) (rest := []) C (mX7_need l hst D cI H.size h_s h_s_file h_s_file_bytes s_place s_file_size s_file_bytes k1 tg1 hc2) (qX4_openPacket_X7_need_101 hts) ⟨zPT_blind, va_recv hK hP (ci := 6) (q0 := 1) rfl rfl, zpreT hK hN hT hA hS hP hD [1, 2, 3] rfl rfl⟩ rfl rfl hl.1 rfl (lv_room (Nat.le_of_ble_eq_true rfl)) dX4_openPacket_55 hle) hP hD hS hA [1, 2, 3] [0] [0, 1, 2, 3] (ws' := zwX4 cI h_t t_depth t_left t_isRepeated t_held ++ zwX7 cI h_s h_s_file h_s_file_bytes s_place s_file_size s_file_bytes) rfl rfl rfl rfl rfl rfl (fun ht H locs q9 ce hP hD hS hq hv hcl => ?_) (fun ht H locs hP hD hS => ?_)
  · replace hf := zif_f hf ht
    cases hf
    exact hX _ _ _ _ _ _ _ ht hP hD hS hq hv hcl
  · replace hf := zif_t hf ht
    clear hle
    cases hf
    exact hE rfl _ _ _ _ dX4_openPacket_58 hP hD hS
set_option maxHeartbeats 4000000 in
set_option maxRecDepth 100000 in
theorem wX4_openPacket_38 {p : Program} {l : Launch} {e : Env} {s : State} {m : MethodId} {args : Array Value} {below : List Frame} {meth : Method} {c : Code} {D : va_G} {A : Nat → Prop} {Q : State → Prop} {cI : ClassId} {h_t h_s h_s_file h_s_file_bytes : Nat} {t_depth : Int32} {t_held : Int32} {s_file_size : Int32} {s_file_bytes : Nat → Int32} {tg0 : Nat} {zt_left : Int32} {zt_isRepeated : Int32} {zs_place : Int32} (C : CallFix p m c cX4_openPacket 4 s args wsX4_openPacket RX4) (hN : zN s) (hK : va_K D vwCl [(cI, .int)] s) (hA : ∀ q, s.heap.size ≤ q → A q) (hT : zTh A s) (hst : l.stackTraces = false) (hE : zTEv tg0 p l e (rmX4_openPacket tg0) s m args below meth c cX4_openPacket D A Q (zwX4 cI h_t t_depth zt_left zt_isRepeated t_held ++ zwX7 cI h_s h_s_file h_s_file_bytes zs_place s_file_size s_file_bytes)) (hX : zTX tg0 p l e (rmX4_openPacket tg0) s m args below meth c D A Q (zwX4 cI h_t t_depth zt_left zt_isRepeated t_held ++ zwX7 cI h_s h_s_file h_s_file_bytes zs_place s_file_size s_file_bytes)) {t_left : Int32} {t_isRepeated : Int32} {s_place : Int32} {l2 : Int32} {l3 : Int32} {k1 : Int32} {H : Heap} {locs : List Loc} {ls : Array Slot} : fX4_openPacket_38 t_isRepeated s_place l2 k1 = some (tg0, zt_left, zt_isRepeated, zs_place) → va_P D vwCl (zwX4 cI h_t t_depth t_left t_isRepeated t_held ++ zwX7 cI h_s h_s_file h_s_file_bytes s_place s_file_size s_file_bytes) H → va_D A (zwX4 cI h_t t_depth t_left t_isRepeated t_held ++ zwX7 cI h_s h_s_file h_s_file_bytes s_place s_file_size s_file_bytes) → va_S A s.heap H locs → lv_has ls 4 [(0, .ref h_t), (1, .ref h_s), (2, .int l2), (3, .int l3)] → W p l e (rmX4_openPacket tg0) s m args below meth c H locs 0 0 Q (F0 m 38 ls [.int k1, .ref h_t]) := by
  intro hf hP hD hS hl
  obtain ⟨hx, hb, hml, hown, hts⟩ := id C
  unfold fX4_openPacket_38 at hf
  refine va_put (D := D) (ci := 3) (v := .int k1) (ty := .int) (C := RX4) (T := TX4) (N := 4) hx hb hts iX4_openPacket_X4 tyX4 tyX4_ok nmX4 hown hK hP hD hS 0 rfl rfl 1 (by decide) (kX4_openPacket_115 hts) (fun _ h9 => h9) rfl (by decide +kernel) rfl rfl (Nat.le_of_ble_eq_true rfl) dX4_openPacket_38 (fun H locs hP hD hS => ?_)
  replace hP : va_P D vwCl (zwX4 cI h_t t_depth k1 t_isRepeated t_held ++ zwX7 cI h_s h_s_file h_s_file_bytes s_place s_file_size s_file_bytes) H := hP
  replace hD : va_D A (zwX4 cI h_t t_depth k1 t_isRepeated t_held ++ zwX7 cI h_s h_s_file h_s_file_bytes s_place s_file_size s_file_bytes) := hD
  refine lv_aload_n hx hb dX4_openPacket_41 rfl (lv_at hl 1 rfl) ?_
  refine lv_aload_n hx hb dX4_openPacket_42 rfl (lv_at hl 0 rfl) ?_
  refine va_get (D := D) (ci := 3) (v := .int k1) (C := RX4) (T := TX4) (N := 4) hx hb hts iX4_openPacket_X4 hown hK hP 0 rfl rfl 1 (by decide) (kX4_openPacket_115 hts) (fun _ h9 => h9) rfl dX4_openPacket_43 ?_
  refine lv_iload_n hx hb dX4_openPacket_46 rfl (lv_at hl 2 rfl) ?_
  refine lv_icmp_gt (tgt := 54) hx hb dX4_openPacket_47 (by decide) (fun c1 => ?_) (fun c1 => ?_)
  · replace hf := zif_t hf c1
    refine lv_iconst (v := 0) hx hb dX4_openPacket_54 (by decide) ?_
    exact wX4_openPacket_55 C hN hK hA hT hst hE hX hf hP hD hS (lv_sub hl [0, 1, 2, 3] rfl)
  · replace hf := zif_f hf c1
    refine lv_iconst (v := 1) hx hb dX4_openPacket_50 (by decide) ?_
    refine lv_goto (tgt := 55) hx hb dX4_openPacket_51 (by decide) ?_
    exact wX4_openPacket_55 C hN hK hA hT hst hE hX hf hP hD hS (lv_sub hl [0, 1, 2, 3] rfl)
set_option maxHeartbeats 4000000 in
set_option maxRecDepth 100000 in
theorem wX4_openPacket_17 {p : Program} {l : Launch} {e : Env} {s : State} {m : MethodId} {args : Array Value} {below : List Frame} {meth : Method} {c : Code} {D : va_G} {A : Nat → Prop} {Q : State → Prop} {cI : ClassId} {h_t h_s h_s_file h_s_file_bytes : Nat} {t_depth : Int32} {t_held : Int32} {s_file_size : Int32} {s_file_bytes : Nat → Int32} {tg0 : Nat} {zt_left : Int32} {zt_isRepeated : Int32} {zs_place : Int32} (C : CallFix p m c cX4_openPacket 4 s args wsX4_openPacket RX4) (hN : zN s) (hK : va_K D vwCl [(cI, .int)] s) (hA : ∀ q, s.heap.size ≤ q → A q) (hT : zTh A s) (hst : l.stackTraces = false) (hE : zTEv tg0 p l e (rmX4_openPacket tg0) s m args below meth c cX4_openPacket D A Q (zwX4 cI h_t t_depth zt_left zt_isRepeated t_held ++ zwX7 cI h_s h_s_file h_s_file_bytes zs_place s_file_size s_file_bytes)) (hX : zTX tg0 p l e (rmX4_openPacket tg0) s m args below meth c D A Q (zwX4 cI h_t t_depth zt_left zt_isRepeated t_held ++ zwX7 cI h_s h_s_file h_s_file_bytes zs_place s_file_size s_file_bytes)) {t_left : Int32} {t_isRepeated : Int32} {s_place : Int32} {l2 : Int32} {l3 : Int32} {k1 : Int32} {H : Heap} {locs : List Loc} {ls : Array Slot} : fX4_openPacket_17 s_place l2 l3 k1 = some (tg0, zt_left, zt_isRepeated, zs_place) → va_P D vwCl (zwX4 cI h_t t_depth t_left t_isRepeated t_held ++ zwX7 cI h_s h_s_file h_s_file_bytes s_place s_file_size s_file_bytes) H → va_D A (zwX4 cI h_t t_depth t_left t_isRepeated t_held ++ zwX7 cI h_s h_s_file h_s_file_bytes s_place s_file_size s_file_bytes) → va_S A s.heap H locs → lv_has ls 4 [(0, .ref h_t), (1, .ref h_s), (2, .int l2), (3, .int l3)] → W p l e (rmX4_openPacket tg0) s m args below meth c H locs 0 0 Q (F0 m 17 ls [.int k1, .ref h_t]) := by
  intro hf hP hD hS hl
  obtain ⟨hx, hb, hml, hown, hts⟩ := id C
  unfold fX4_openPacket_17 at hf
  obtain ⟨hg1, hf⟩ := zbo_in hf
  refine va_put (D := D) (ci := 3) (v := .int k1) (ty := .boolean) (C := RX4) (T := TX4) (N := 4) hx hb hts iX4_openPacket_X4 tyX4 tyX4_ok nmX4 hown hK hP hD hS 0 rfl rfl 2 (by decide) (kX4_openPacket_108 hts) (fun _ h9 => h9) rfl (by decide +kernel) hg1.1 hg1.2 (Nat.le_of_ble_eq_true rfl) dX4_openPacket_17 (fun H locs hP hD hS => ?_)
  replace hP : va_P D vwCl (zwX4 cI h_t t_depth t_left k1 t_held ++ zwX7 cI h_s h_s_file h_s_file_bytes s_place s_file_size s_file_bytes) H := hP
  replace hD : va_D A (zwX4 cI h_t t_depth t_left k1 t_held ++ zwX7 cI h_s h_s_file h_s_file_bytes s_place s_file_size s_file_bytes) := hD
  refine lv_aload_n hx hb dX4_openPacket_20 rfl (lv_at hl 0 rfl) ?_
  refine lv_aload_n hx hb dX4_openPacket_21 rfl (lv_at hl 0 rfl) ?_
  refine va_get (D := D) (ci := 3) (v := .int k1) (C := RX4) (T := TX4) (N := 4) hx hb hts iX4_openPacket_X4 hown hK hP 0 rfl rfl 2 (by decide) (kX4_openPacket_108 hts) (fun _ h9 => h9) rfl dX4_openPacket_22 ?_
  refine lv_if_eq (tgt := 35) hx hb dX4_openPacket_25 (by decide) (fun c2 => ?_) (fun c2 => ?_)
  · replace hf := zif_t hf c2
    refine lv_iload_n hx hb dX4_openPacket_35 rfl (lv_at hl 3 rfl) ?_
    refine lv_iconst (v := 1) hx hb dX4_openPacket_36 (by decide) ?_
    refine lv_iadd hx hb dX4_openPacket_37 ?_
    exact wX4_openPacket_38 C hN hK hA hT hst hE hX hf hP hD hS (lv_sub hl [0, 1, 2, 3] rfl)
  · replace hf := zif_f hf c2
    refine lv_iload_n hx hb dX4_openPacket_28 rfl (lv_at hl 3 rfl) ?_
    refine lv_bipush (v := 127) hx hb dX4_openPacket_29 (by decide) ?_
    refine lv_isub hx hb dX4_openPacket_31 ?_
    refine lv_goto (tgt := 38) hx hb dX4_openPacket_32 (by decide) ?_
    exact wX4_openPacket_38 C hN hK hA hT hst hE hX hf hP hD hS (lv_sub hl [0, 1, 2, 3] rfl)
set_option maxHeartbeats 4000000 in
set_option maxRecDepth 100000 in
theorem wX4_openPacket_0 {p : Program} {l : Launch} {e : Env} {s : State} {m : MethodId} {args : Array Value} {below : List Frame} {meth : Method} {c : Code} {D : va_G} {A : Nat → Prop} {Q : State → Prop} {cI : ClassId} {h_t h_s h_s_file h_s_file_bytes : Nat} {t_depth : Int32} {t_held : Int32} {s_file_size : Int32} {s_file_bytes : Nat → Int32} {tg0 : Nat} {zt_left : Int32} {zt_isRepeated : Int32} {zs_place : Int32} (C : CallFix p m c cX4_openPacket 4 s args wsX4_openPacket RX4) (hN : zN s) (hK : va_K D vwCl [(cI, .int)] s) (hA : ∀ q, s.heap.size ≤ q → A q) (hT : zTh A s) (hst : l.stackTraces = false) (hE : zTEv tg0 p l e (rmX4_openPacket tg0) s m args below meth c cX4_openPacket D A Q (zwX4 cI h_t t_depth zt_left zt_isRepeated t_held ++ zwX7 cI h_s h_s_file h_s_file_bytes zs_place s_file_size s_file_bytes)) (hX : zTX tg0 p l e (rmX4_openPacket tg0) s m args below meth c D A Q (zwX4 cI h_t t_depth zt_left zt_isRepeated t_held ++ zwX7 cI h_s h_s_file h_s_file_bytes zs_place s_file_size s_file_bytes)) {t_left : Int32} {t_isRepeated : Int32} {s_place : Int32} {v1 : Int32} {H : Heap} {locs : List Loc} {ls : Array Slot} : fX4_openPacket t_left t_isRepeated s_place s_file_size s_file_bytes v1 = some (tg0, zt_left, zt_isRepeated, zs_place) → va_P D vwCl (zwX4 cI h_t t_depth t_left t_isRepeated t_held ++ zwX7 cI h_s h_s_file h_s_file_bytes s_place s_file_size s_file_bytes) H → va_D A (zwX4 cI h_t t_depth t_left t_isRepeated t_held ++ zwX7 cI h_s h_s_file h_s_file_bytes s_place s_file_size s_file_bytes) → va_S A s.heap H locs → lv_has ls 4 [(0, .ref h_t), (1, .ref h_s), (2, .int v1)] → W p l e (rmX4_openPacket tg0) s m args below meth c H locs 0 0 Q (F0 m 0 ls []) := by
  intro hf hP hD hS hl
  obtain ⟨hx, hb, hml, hown, hts⟩ := id C
  unfold fX4_openPacket at hf
  refine lv_aload_n hx hb dX4_openPacket_0 rfl (lv_at hl 1 rfl) ?_
  obtain ⟨tg1, r2, u3, hc4, hf⟩ := zb3_in hf
  have hle := zT_le hf
  refine zcx_i (vx_runV (As := []) (rest := []) C (mX7_next l hst D cI H.size h_s h_s_file h_s_file_bytes s_place s_file_size s_file_bytes tg1 r2 u3 hc4) (qX4_openPacket_X7_next_87 hts) ⟨zPT_blind, va_recv hK hP (ci := 6) (q0 := 1) rfl rfl, zpreT hK hN hT hA hS hP hD [1, 2, 3] rfl rfl⟩ rfl rfl hl.1 rfl (lv_room (Nat.le_of_ble_eq_true rfl)) dX4_openPacket_1 hle) hP hD hS hA [1, 2, 3] [0] [0, 1, 2, 3] (ws' := zwX4 cI h_t t_depth t_left t_isRepeated t_held ++ zwX7 cI h_s h_s_file h_s_file_bytes u3 s_file_size s_file_bytes) rfl rfl rfl rfl rfl rfl (fun ht H locs q9 ce hP hD hS hq hv hcl => ?_) (fun ht H locs hP hD hS => ?_)
  · replace hf := zif_f hf ht
    cases hf
    exact hX _ _ _ _ _ _ _ ht hP hD hS hq hv hcl
  · replace hf := zif_t hf ht
    clear hle
    refine lv_istore_n (lv' := [(3, .int r2), (0, .ref h_t), (1, .ref h_s), (2, .int v1)]) hx hb dX4_openPacket_4 rfl hl (by decide) rfl (fun ls hl => ?_)
    refine lv_aload_n hx hb dX4_openPacket_5 rfl (lv_at hl 1 rfl) ?_
    refine lv_iload_n hx hb dX4_openPacket_6 rfl (lv_at hl 0 rfl) ?_
    refine lv_bipush (v := 127) hx hb dX4_openPacket_7 (by decide) ?_
    refine lv_icmp_le (tgt := 16) hx hb dX4_openPacket_9 (by decide) (fun c5 => ?_) (fun c5 => ?_)
    · replace hf := zif_t hf c5
      refine lv_iconst (v := 0) hx hb dX4_openPacket_16 (by decide) ?_
      exact wX4_openPacket_17 C hN hK hA hT hst hE hX hf hP hD hS (lv_sub hl [1, 2, 3, 0] rfl)
    · replace hf := zif_f hf c5
      refine lv_iconst (v := 1) hx hb dX4_openPacket_12 (by decide) ?_
      refine lv_goto (tgt := 17) hx hb dX4_openPacket_13 (by decide) ?_
      exact wX4_openPacket_17 C hN hK hA hT hst hE hX hf hP hD hS (lv_sub hl [1, 2, 3, 0] rfl)
set_option maxHeartbeats 4000000 in
set_option maxRecDepth 100000 in
theorem mX4_openPacket (l : Launch) (hst : l.stackTraces = false) (D : va_G) (cI : ClassId) (sz : Nat) (h_t h_s h_s_file h_s_file_bytes : Nat) (t_depth : Int32) (t_left : Int32) (t_isRepeated : Int32) (t_held : Int32) (s_place : Int32) (s_file_size : Int32) (s_file_bytes : Nat → Int32) (v1 : Int32) (tg0 : Nat) (zt_left : Int32) (zt_isRepeated : Int32) (zs_place : Int32) (hf : fX4_openPacket t_left t_isRepeated s_place s_file_size s_file_bytes v1 = some (tg0, zt_left, zt_isRepeated, zs_place)) : vx_Met l yX4_openPacket wsX4_openPacket (rmX4_openPacket tg0) (va_Pc [.ref h_t, .ref h_s, .int v1] (zPT D [(cI, .int)] (zwX4 cI h_t t_depth t_left t_isRepeated t_held ++ zwX7 cI h_s h_s_file h_s_file_bytes s_place s_file_size s_file_bytes) sz)) (zQTv D (zwX4 cI h_t t_depth t_left t_isRepeated t_held ++ zwX7 cI h_s h_s_file h_s_file_bytes s_place s_file_size s_file_bytes) sz tg0 (zwX4 cI h_t t_depth zt_left zt_isRepeated t_held ++ zwX7 cI h_s h_s_file h_s_file_bytes zs_place s_file_size s_file_bytes)) (zXT D (zwX4 cI h_t t_depth t_left t_isRepeated t_held ++ zwX7 cI h_s h_s_file h_s_file_bytes s_place s_file_size s_file_bytes) sz tg0 (zwX4 cI h_t t_depth zt_left zt_isRepeated t_held ++ zwX7 cI h_s h_s_file h_s_file_bytes zs_place s_file_size s_file_bytes)) (zc tg0) (zs tg0) (va_A (zwX4 cI h_t t_depth t_left t_isRepeated t_held ++ zwX7 cI h_s h_s_file h_s_file_bytes s_place s_file_size s_file_bytes) sz) := by
  refine vx_ofW (cc := cX4_openPacket) (maxL := 4) (ret := none) (by decide) rfl ?_
  intro p e s m args below meth c s₁ B hml htab hv
  obtain ⟨rfl, ⟨hsz, hP, hK, hD0, hN⟩, hT⟩ := hv
  subst hsz
  have C : CallFix p m c cX4_openPacket 4 s [.ref h_t, .ref h_s, .int v1].toArray wsX4_openPacket RX4 := ⟨B.exec, B.bytes, hml, findClass_of_methodNamed B.named, atoms_spec (ws := wsX4_openPacket) B.pre⟩
  have hl := lv_entry ([.ref h_t, .ref h_s, .int v1]) (n := 4) (Nat.le_of_ble_eq_true rfl)
  rw [lg_entry_eq]
  exact wX4_openPacket_0 (A := va_A (zwX4 cI h_t t_depth t_left t_isRepeated t_held ++ zwX7 cI h_s h_s_file h_s_file_bytes s_place s_file_size s_file_bytes) s.heap.size) C hN hK (fun q h => Or.inr h) hT hst (fun h0 H locs pc ls d hP hD hS => zendT_v C.1 C.2.1 B.returns B.notSynchronized h0 d hP hD hS) (fun H locs pc ls rest q9 ce h0 hP hD hS hq hv hcl => zoutT htab B.notSynchronized h0 hP hD hS hq hv hcl) hf hP hD0.self va_S.rf hl
def rmX4_nextPixel (tg : Nat) : Room := { frames := 9, cells := zc tg, slots := zs tg, locals := 147 }
theorem kX4_nextPixel_108 {args : Array Value} {s : State} (h : ∀ w ∈ wsX4_nextPixel, w.before args s = true) : (Cond.fieldLink RX4 108 "FourPictureFiles$PacketFormat" "isRepeated" "Z").before args s = true := h _ (by decide +kernel)
theorem kX4_nextPixel_115 {args : Array Value} {s : State} (h : ∀ w ∈ wsX4_nextPixel, w.before args s = true) : (Cond.fieldLink RX4 115 "FourPictureFiles$PacketFormat" "left" "I").before args s = true := h _ (by decide +kernel)
theorem kX4_nextPixel_138 {args : Array Value} {s : State} (h : ∀ w ∈ wsX4_nextPixel, w.before args s = true) : (Cond.fieldLink RX4 138 "FourPictureFiles$PacketFormat" "held" "I").before args s = true := h _ (by decide +kernel)
theorem iX4_nextPixel_X4 : ∀ w ∈ u_ws RX4 TX4 4, w ∈ wsX4_nextPixel := by decide +kernel
theorem qX4_nextPixel_X4_openPacket_130 {args : Array Value} {s : State} {tg0 : Nat} {tg : Nat} (hts : ∀ w ∈ wsX4_nextPixel, w.before args s = true) : CallW (rmX4_nextPixel tg0) s args RX4 RX4 130 yX4_openPacket cX4_openPacket 4 none wsX4_openPacket (rmX4_openPacket tg) (zc tg) (zs tg) 2 := cwV 2 hts gX4_nextPixel_X4_openPacket rfl rfl rfl (by decide +kernel) ⟨Nat.le_of_ble_eq_true rfl, Nat.le_of_ble_eq_true rfl⟩
theorem qX4_nextPixel_X4_readPixel_134 {args : Array Value} {s : State} {tg0 : Nat} {tg : Nat} (hts : ∀ w ∈ wsX4_nextPixel, w.before args s = true) : CallW (rmX4_nextPixel tg0) s args RX4 RX4 134 yX4_readPixel cX4_readPixel 3 (some .int) wsX4_readPixel (rmX4_readPixel tg) (zc tg) (zs tg) 1 := cwV 1 hts gX4_nextPixel_X4_readPixel rfl rfl rfl (by decide +kernel) ⟨Nat.le_of_ble_eq_true rfl, Nat.le_of_ble_eq_true rfl⟩
set_option maxHeartbeats 4000000 in
set_option maxRecDepth 100000 in
theorem wX4_nextPixel_44 {p : Program} {l : Launch} {e : Env} {s : State} {m : MethodId} {args : Array Value} {below : List Frame} {meth : Method} {c : Code} {D : va_G} {A : Nat → Prop} {Q : State → Prop} {cI : ClassId} {h_t h_s h_s_file h_s_file_bytes : Nat} {t_depth : Int32} {s_file_size : Int32} {s_file_bytes : Nat → Int32} {tg0 : Nat} {r0 : Int32} {zt_left : Int32} {zt_isRepeated : Int32} {zt_held : Int32} {zs_place : Int32} (C : CallFix p m c cX4_nextPixel 4 s args wsX4_nextPixel RX4) (hN : zN s) (hK : va_K D vwCl [(cI, .int)] s) (hA : ∀ q, s.heap.size ≤ q → A q) (hT : zTh A s) (hst : l.stackTraces = false) (hE : zTEi tg0 p l e (rmX4_nextPixel tg0) s m args below meth c cX4_nextPixel D A Q (zwX4 cI h_t t_depth zt_left zt_isRepeated zt_held ++ zwX7 cI h_s h_s_file h_s_file_bytes zs_place s_file_size s_file_bytes) r0) (hX : zTX tg0 p l e (rmX4_nextPixel tg0) s m args below meth c D A Q (zwX4 cI h_t t_depth zt_left zt_isRepeated zt_held ++ zwX7 cI h_s h_s_file h_s_file_bytes zs_place s_file_size s_file_bytes)) {t_left : Int32} {t_isRepeated : Int32} {t_held : Int32} {s_place : Int32} {l2 : Int32} {l3 : Int32} {H : Heap} {locs : List Loc} {ls : Array Slot} : fX4_nextPixel_44 t_depth t_left t_isRepeated t_held s_place s_file_size s_file_bytes = some (tg0, r0, zt_left, zt_isRepeated, zt_held, zs_place) → va_P D vwCl (zwX4 cI h_t t_depth t_left t_isRepeated t_held ++ zwX7 cI h_s h_s_file h_s_file_bytes s_place s_file_size s_file_bytes) H → va_D A (zwX4 cI h_t t_depth t_left t_isRepeated t_held ++ zwX7 cI h_s h_s_file h_s_file_bytes s_place s_file_size s_file_bytes) → va_S A s.heap H locs → lv_has ls 4 [(0, .ref h_t), (1, .ref h_s), (2, .int l2), (3, .int l3)] → W p l e (rmX4_nextPixel tg0) s m args below meth c H locs 0 0 Q (F0 m 44 ls []) := by
  intro hf hP hD hS hl
  obtain ⟨hx, hb, hml, hown, hts⟩ := id C
  unfold fX4_nextPixel_44 at hf
  refine lv_aload_n hx hb dX4_nextPixel_44 rfl (lv_at hl 0 rfl) ?_
  refine lv_aload_n hx hb dX4_nextPixel_45 rfl (lv_at hl 0 rfl) ?_
  refine lv_aload_n hx hb dX4_nextPixel_46 rfl (lv_at hl 1 rfl) ?_
  obtain ⟨tg1, r2, u3, hc4, hf⟩ := zb3_in hf
  have hle := zT_le hf
  refine zcx_i (vx_runV (As := [.ref h_s]) (rest := [.ref h_t]) C (mX4_readPixel l hst D cI H.size h_t h_s h_s_file h_s_file_bytes t_depth t_left t_isRepeated t_held s_place s_file_size s_file_bytes tg1 r2 u3 hc4) (qX4_nextPixel_X4_readPixel_134 hts) ⟨zPT_blind, va_recv hK hP (ci := 3) (q0 := 0) rfl rfl, zpreT hK hN hT hA hS hP hD [0, 1, 2, 3] rfl rfl⟩ rfl rfl hl.1 rfl (lv_room (Nat.le_of_ble_eq_true rfl)) dX4_nextPixel_47 hle) hP hD hS hA [0, 1, 2, 3] [] [0, 1, 2, 3] (ws' := zwX4 cI h_t t_depth t_left t_isRepeated t_held ++ zwX7 cI h_s h_s_file h_s_file_bytes u3 s_file_size s_file_bytes) rfl rfl rfl rfl rfl rfl (fun ht H locs q9 ce hP hD hS hq hv hcl => ?_) (fun ht H locs hP hD hS => ?_)
  · replace hf := zif_f hf ht
    cases hf
    exact hX _ _ _ _ _ _ _ ht hP hD hS hq hv hcl
  · replace hf := zif_t hf ht
    clear hle
    refine va_put (D := D) (ci := 3) (v := .int r2) (ty := .int) (C := RX4) (T := TX4) (N := 4) hx hb hts iX4_nextPixel_X4 tyX4 tyX4_ok nmX4 hown hK hP hD hS 0 rfl rfl 3 (by decide) (kX4_nextPixel_138 hts) (fun _ h9 => h9) rfl (by decide +kernel) rfl rfl (Nat.le_of_ble_eq_true rfl) dX4_nextPixel_50 (fun H locs hP hD hS => ?_)
    replace hP : va_P D vwCl (zwX4 cI h_t t_depth t_left t_isRepeated r2 ++ zwX7 cI h_s h_s_file h_s_file_bytes u3 s_file_size s_file_bytes) H := hP
    replace hD : va_D A (zwX4 cI h_t t_depth t_left t_isRepeated r2 ++ zwX7 cI h_s h_s_file h_s_file_bytes u3 s_file_size s_file_bytes) := hD
    refine lv_aload_n hx hb dX4_nextPixel_53 rfl (lv_at hl 0 rfl) ?_
    refine va_get (D := D) (ci := 3) (v := .int r2) (C := RX4) (T := TX4) (N := 4) hx hb hts iX4_nextPixel_X4 hown hK hP 0 rfl rfl 3 (by decide) (kX4_nextPixel_138 hts) (fun _ h9 => h9) rfl dX4_nextPixel_54 ?_
    cases hf
    exact hE rfl _ _ _ _ dX4_nextPixel_57 hP hD hS
set_option maxHeartbeats 4000000 in
set_option maxRecDepth 100000 in
theorem wX4_nextPixel_23 {p : Program} {l : Launch} {e : Env} {s : State} {m : MethodId} {args : Array Value} {below : List Frame} {meth : Method} {c : Code} {D : va_G} {A : Nat → Prop} {Q : State → Prop} {cI : ClassId} {h_t h_s h_s_file h_s_file_bytes : Nat} {t_depth : Int32} {s_file_size : Int32} {s_file_bytes : Nat → Int32} {tg0 : Nat} {r0 : Int32} {zt_left : Int32} {zt_isRepeated : Int32} {zt_held : Int32} {zs_place : Int32} (C : CallFix p m c cX4_nextPixel 4 s args wsX4_nextPixel RX4) (hN : zN s) (hK : va_K D vwCl [(cI, .int)] s) (hA : ∀ q, s.heap.size ≤ q → A q) (hT : zTh A s) (hst : l.stackTraces = false) (hE : zTEi tg0 p l e (rmX4_nextPixel tg0) s m args below meth c cX4_nextPixel D A Q (zwX4 cI h_t t_depth zt_left zt_isRepeated zt_held ++ zwX7 cI h_s h_s_file h_s_file_bytes zs_place s_file_size s_file_bytes) r0) (hX : zTX tg0 p l e (rmX4_nextPixel tg0) s m args below meth c D A Q (zwX4 cI h_t t_depth zt_left zt_isRepeated zt_held ++ zwX7 cI h_s h_s_file h_s_file_bytes zs_place s_file_size s_file_bytes)) {t_left : Int32} {t_isRepeated : Int32} {t_held : Int32} {s_place : Int32} {l2 : Int32} {l3 : Int32} {H : Heap} {locs : List Loc} {ls : Array Slot} : fX4_nextPixel_23 t_depth t_left t_isRepeated t_held s_place s_file_size s_file_bytes l3 = some (tg0, r0, zt_left, zt_isRepeated, zt_held, zs_place) → va_P D vwCl (zwX4 cI h_t t_depth t_left t_isRepeated t_held ++ zwX7 cI h_s h_s_file h_s_file_bytes s_place s_file_size s_file_bytes) H → va_D A (zwX4 cI h_t t_depth t_left t_isRepeated t_held ++ zwX7 cI h_s h_s_file h_s_file_bytes s_place s_file_size s_file_bytes) → va_S A s.heap H locs → lv_has ls 4 [(0, .ref h_t), (1, .ref h_s), (2, .int l2), (3, .int l3)] → W p l e (rmX4_nextPixel tg0) s m args below meth c H locs 0 0 Q (F0 m 23 ls []) := by
  intro hf hP hD hS hl
  obtain ⟨hx, hb, hml, hown, hts⟩ := id C
  unfold fX4_nextPixel_23 at hf
  refine lv_aload_n hx hb dX4_nextPixel_23 rfl (lv_at hl 0 rfl) ?_
  refine lv_dup hx hb dX4_nextPixel_24 rfl ?_
  refine va_get (D := D) (ci := 3) (v := .int t_left) (C := RX4) (T := TX4) (N := 4) hx hb hts iX4_nextPixel_X4 hown hK hP 0 rfl rfl 1 (by decide) (kX4_nextPixel_115 hts) (fun _ h9 => h9) rfl dX4_nextPixel_25 ?_
  refine lv_iconst (v := 1) hx hb dX4_nextPixel_28 (by decide) ?_
  refine lv_isub hx hb dX4_nextPixel_29 ?_
  refine lv_topi (fun x1 ex1 => ?_)
  replace hf := zlet_in hf ex1
  clear ex1
  refine va_put (D := D) (ci := 3) (v := .int x1) (ty := .int) (C := RX4) (T := TX4) (N := 4) hx hb hts iX4_nextPixel_X4 tyX4 tyX4_ok nmX4 hown hK hP hD hS 0 rfl rfl 1 (by decide) (kX4_nextPixel_115 hts) (fun _ h9 => h9) rfl (by decide +kernel) rfl rfl (Nat.le_of_ble_eq_true rfl) dX4_nextPixel_30 (fun H locs hP hD hS => ?_)
  replace hP : va_P D vwCl (zwX4 cI h_t t_depth x1 t_isRepeated t_held ++ zwX7 cI h_s h_s_file h_s_file_bytes s_place s_file_size s_file_bytes) H := hP
  replace hD : va_D A (zwX4 cI h_t t_depth x1 t_isRepeated t_held ++ zwX7 cI h_s h_s_file h_s_file_bytes s_place s_file_size s_file_bytes) := hD
  refine lv_iload_n hx hb dX4_nextPixel_33 rfl (lv_at hl 3 rfl) ?_
  refine lv_if_ne (tgt := 44) hx hb dX4_nextPixel_34 (by decide) (fun c2 => ?_) (fun c2 => ?_)
  · replace hf := zif_f hf c2
    exact wX4_nextPixel_44 C hN hK hA hT hst hE hX hf hP hD hS (lv_sub hl [0, 1, 2, 3] rfl)
  · replace hf := zif_t hf c2
    refine lv_aload_n hx hb dX4_nextPixel_37 rfl (lv_at hl 0 rfl) ?_
    refine va_get (D := D) (ci := 3) (v := .int t_isRepeated) (C := RX4) (T := TX4) (N := 4) hx hb hts iX4_nextPixel_X4 hown hK hP 0 rfl rfl 2 (by decide) (kX4_nextPixel_108 hts) (fun _ h9 => h9) rfl dX4_nextPixel_38 ?_
    refine lv_if_ne (tgt := 53) hx hb dX4_nextPixel_41 (by decide) (fun c3 => ?_) (fun c3 => ?_)
    · replace hf := zif_f hf c3
      refine lv_aload_n hx hb dX4_nextPixel_53 rfl (lv_at hl 0 rfl) ?_
      refine va_get (D := D) (ci := 3) (v := .int t_held) (C := RX4) (T := TX4) (N := 4) hx hb hts iX4_nextPixel_X4 hown hK hP 0 rfl rfl 3 (by decide) (kX4_nextPixel_138 hts) (fun _ h9 => h9) rfl dX4_nextPixel_54 ?_
      cases hf
      exact hE rfl _ _ _ _ dX4_nextPixel_57 hP hD hS
    · replace hf := zif_t hf c3
      exact wX4_nextPixel_44 C hN hK hA hT hst hE hX hf hP hD hS (lv_sub hl [0, 1, 2, 3] rfl)
set_option maxHeartbeats 4000000 in
set_option maxRecDepth 100000 in
theorem wX4_nextPixel_12 {p : Program} {l : Launch} {e : Env} {s : State} {m : MethodId} {args : Array Value} {below : List Frame} {meth : Method} {c : Code} {D : va_G} {A : Nat → Prop} {Q : State → Prop} {cI : ClassId} {h_t h_s h_s_file h_s_file_bytes : Nat} {t_depth : Int32} {s_file_size : Int32} {s_file_bytes : Nat → Int32} {tg0 : Nat} {r0 : Int32} {zt_left : Int32} {zt_isRepeated : Int32} {zt_held : Int32} {zs_place : Int32} (C : CallFix p m c cX4_nextPixel 4 s args wsX4_nextPixel RX4) (hN : zN s) (hK : va_K D vwCl [(cI, .int)] s) (hA : ∀ q, s.heap.size ≤ q → A q) (hT : zTh A s) (hst : l.stackTraces = false) (hE : zTEi tg0 p l e (rmX4_nextPixel tg0) s m args below meth c cX4_nextPixel D A Q (zwX4 cI h_t t_depth zt_left zt_isRepeated zt_held ++ zwX7 cI h_s h_s_file h_s_file_bytes zs_place s_file_size s_file_bytes) r0) (hX : zTX tg0 p l e (rmX4_nextPixel tg0) s m args below meth c D A Q (zwX4 cI h_t t_depth zt_left zt_isRepeated zt_held ++ zwX7 cI h_s h_s_file h_s_file_bytes zs_place s_file_size s_file_bytes)) {t_left : Int32} {t_isRepeated : Int32} {t_held : Int32} {s_place : Int32} {l2 : Int32} {k0 : Int32} {H : Heap} {locs : List Loc} {ls : Array Slot} : fX4_nextPixel_12 t_depth t_left t_isRepeated t_held s_place s_file_size s_file_bytes l2 k0 = some (tg0, r0, zt_left, zt_isRepeated, zt_held, zs_place) → va_P D vwCl (zwX4 cI h_t t_depth t_left t_isRepeated t_held ++ zwX7 cI h_s h_s_file h_s_file_bytes s_place s_file_size s_file_bytes) H → va_D A (zwX4 cI h_t t_depth t_left t_isRepeated t_held ++ zwX7 cI h_s h_s_file h_s_file_bytes s_place s_file_size s_file_bytes) → va_S A s.heap H locs → lv_has ls 4 [(0, .ref h_t), (1, .ref h_s), (2, .int l2)] → W p l e (rmX4_nextPixel tg0) s m args below meth c H locs 0 0 Q (F0 m 12 ls [.int k0]) := by
  intro hf hP hD hS hl
  obtain ⟨hx, hb, hml, hown, hts⟩ := id C
  unfold fX4_nextPixel_12 at hf
  refine lv_istore_n (lv' := [(3, .int k0), (0, .ref h_t), (1, .ref h_s), (2, .int l2)]) hx hb dX4_nextPixel_12 rfl hl (by decide) rfl (fun ls hl => ?_)
  refine lv_iload_n hx hb dX4_nextPixel_13 rfl (lv_at hl 0 rfl) ?_
  refine lv_if_eq (tgt := 23) hx hb dX4_nextPixel_14 (by decide) (fun c1 => ?_) (fun c1 => ?_)
  · replace hf := zif_t hf c1
    exact wX4_nextPixel_23 C hN hK hA hT hst hE hX hf hP hD hS (lv_sub hl [1, 2, 3, 0] rfl)
  · replace hf := zif_f hf c1
    refine lv_aload_n hx hb dX4_nextPixel_17 rfl (lv_at hl 1 rfl) ?_
    refine lv_aload_n hx hb dX4_nextPixel_18 rfl (lv_at hl 2 rfl) ?_
    refine lv_iload_n hx hb dX4_nextPixel_19 rfl (lv_at hl 3 rfl) ?_
    obtain ⟨tg2, u3, u4, u5, hc6, hf⟩ := zb4_in hf
    have hle := zT_le hf
    refine zcx_v (vx_runV (As := [.ref h_s, .int l2]) (rest := []) C (mX4_openPacket l hst D cI H.size h_t h_s h_s_file h_s_file_bytes t_depth t_left t_isRepeated t_held s_place s_file_size s_file_bytes l2 tg2 u3 u4 u5 hc6) (qX4_nextPixel_X4_openPacket_130 hts) ⟨zPT_blind, va_recv hK hP (ci := 3) (q0 := 0) rfl rfl, zpreT hK hN hT hA hS hP hD [0, 1, 2, 3] rfl rfl⟩ rfl rfl hl.1 rfl (lv_room (Nat.le_of_ble_eq_true rfl)) dX4_nextPixel_20 hle) hP hD hS hA [0, 1, 2, 3] [] [0, 1, 2, 3] (ws' := zwX4 cI h_t t_depth u3 u4 t_held ++ zwX7 cI h_s h_s_file h_s_file_bytes u5 s_file_size s_file_bytes) rfl rfl rfl rfl rfl rfl (fun ht H locs q9 ce hP hD hS hq hv hcl => ?_) (fun ht H locs hP hD hS => ?_)
    · replace hf := zif_f hf ht
      cases hf
      exact hX _ _ _ _ _ _ _ ht hP hD hS hq hv hcl
    · replace hf := zif_t hf ht
      clear hle
      exact wX4_nextPixel_23 C hN hK hA hT hst hE hX hf hP hD hS (lv_sub hl [1, 2, 3, 0] rfl)
set_option maxHeartbeats 4000000 in
set_option maxRecDepth 100000 in
theorem wX4_nextPixel_0 {p : Program} {l : Launch} {e : Env} {s : State} {m : MethodId} {args : Array Value} {below : List Frame} {meth : Method} {c : Code} {D : va_G} {A : Nat → Prop} {Q : State → Prop} {cI : ClassId} {h_t h_s h_s_file h_s_file_bytes : Nat} {t_depth : Int32} {s_file_size : Int32} {s_file_bytes : Nat → Int32} {tg0 : Nat} {r0 : Int32} {zt_left : Int32} {zt_isRepeated : Int32} {zt_held : Int32} {zs_place : Int32} (C : CallFix p m c cX4_nextPixel 4 s args wsX4_nextPixel RX4) (hN : zN s) (hK : va_K D vwCl [(cI, .int)] s) (hA : ∀ q, s.heap.size ≤ q → A q) (hT : zTh A s) (hst : l.stackTraces = false) (hE : zTEi tg0 p l e (rmX4_nextPixel tg0) s m args below meth c cX4_nextPixel D A Q (zwX4 cI h_t t_depth zt_left zt_isRepeated zt_held ++ zwX7 cI h_s h_s_file h_s_file_bytes zs_place s_file_size s_file_bytes) r0) (hX : zTX tg0 p l e (rmX4_nextPixel tg0) s m args below meth c D A Q (zwX4 cI h_t t_depth zt_left zt_isRepeated zt_held ++ zwX7 cI h_s h_s_file h_s_file_bytes zs_place s_file_size s_file_bytes)) {t_left : Int32} {t_isRepeated : Int32} {t_held : Int32} {s_place : Int32} {v1 : Int32} {H : Heap} {locs : List Loc} {ls : Array Slot} : fX4_nextPixel t_depth t_left t_isRepeated t_held s_place s_file_size s_file_bytes v1 = some (tg0, r0, zt_left, zt_isRepeated, zt_held, zs_place) → va_P D vwCl (zwX4 cI h_t t_depth t_left t_isRepeated t_held ++ zwX7 cI h_s h_s_file h_s_file_bytes s_place s_file_size s_file_bytes) H → va_D A (zwX4 cI h_t t_depth t_left t_isRepeated t_held ++ zwX7 cI h_s h_s_file h_s_file_bytes s_place s_file_size s_file_bytes) → va_S A s.heap H locs → lv_has ls 4 [(0, .ref h_t), (1, .ref h_s), (2, .int v1)] → W p l e (rmX4_nextPixel tg0) s m args below meth c H locs 0 0 Q (F0 m 0 ls []) := by
  intro hf hP hD hS hl
  obtain ⟨hx, hb, hml, hown, hts⟩ := id C
  unfold fX4_nextPixel at hf
  refine lv_aload_n hx hb dX4_nextPixel_0 rfl (lv_at hl 0 rfl) ?_
  refine va_get (D := D) (ci := 3) (v := .int t_left) (C := RX4) (T := TX4) (N := 4) hx hb hts iX4_nextPixel_X4 hown hK hP 0 rfl rfl 1 (by decide) (kX4_nextPixel_115 hts) (fun _ h9 => h9) rfl dX4_nextPixel_1 ?_
  refine lv_if_ne (tgt := 11) hx hb dX4_nextPixel_4 (by decide) (fun c1 => ?_) (fun c1 => ?_)
  · replace hf := zif_f hf c1
    refine lv_iconst (v := 0) hx hb dX4_nextPixel_11 (by decide) ?_
    exact wX4_nextPixel_12 C hN hK hA hT hst hE hX hf hP hD hS (lv_sub hl [0, 1, 2] rfl)
  · replace hf := zif_t hf c1
    refine lv_iconst (v := 1) hx hb dX4_nextPixel_7 (by decide) ?_
    refine lv_goto (tgt := 12) hx hb dX4_nextPixel_8 (by decide) ?_
    exact wX4_nextPixel_12 C hN hK hA hT hst hE hX hf hP hD hS (lv_sub hl [0, 1, 2] rfl)
set_option maxHeartbeats 4000000 in
set_option maxRecDepth 100000 in
theorem mX4_nextPixel (l : Launch) (hst : l.stackTraces = false) (D : va_G) (cI : ClassId) (sz : Nat) (h_t h_s h_s_file h_s_file_bytes : Nat) (t_depth : Int32) (t_left : Int32) (t_isRepeated : Int32) (t_held : Int32) (s_place : Int32) (s_file_size : Int32) (s_file_bytes : Nat → Int32) (v1 : Int32) (tg0 : Nat) (r0 : Int32) (zt_left : Int32) (zt_isRepeated : Int32) (zt_held : Int32) (zs_place : Int32) (hf : fX4_nextPixel t_depth t_left t_isRepeated t_held s_place s_file_size s_file_bytes v1 = some (tg0, r0, zt_left, zt_isRepeated, zt_held, zs_place)) : vx_Met l yX4_nextPixel wsX4_nextPixel (rmX4_nextPixel tg0) (va_Pc [.ref h_t, .ref h_s, .int v1] (zPT D [(cI, .int)] (zwX4 cI h_t t_depth t_left t_isRepeated t_held ++ zwX7 cI h_s h_s_file h_s_file_bytes s_place s_file_size s_file_bytes) sz)) (zQTi D (zwX4 cI h_t t_depth t_left t_isRepeated t_held ++ zwX7 cI h_s h_s_file h_s_file_bytes s_place s_file_size s_file_bytes) sz tg0 r0 (zwX4 cI h_t t_depth zt_left zt_isRepeated zt_held ++ zwX7 cI h_s h_s_file h_s_file_bytes zs_place s_file_size s_file_bytes)) (zXT D (zwX4 cI h_t t_depth t_left t_isRepeated t_held ++ zwX7 cI h_s h_s_file h_s_file_bytes s_place s_file_size s_file_bytes) sz tg0 (zwX4 cI h_t t_depth zt_left zt_isRepeated zt_held ++ zwX7 cI h_s h_s_file h_s_file_bytes zs_place s_file_size s_file_bytes)) (zc tg0) (zs tg0) (va_A (zwX4 cI h_t t_depth t_left t_isRepeated t_held ++ zwX7 cI h_s h_s_file h_s_file_bytes s_place s_file_size s_file_bytes) sz) := by
  refine vx_ofW (cc := cX4_nextPixel) (maxL := 4) (ret := (some .int)) (by decide) rfl ?_
  intro p e s m args below meth c s₁ B hml htab hv
  obtain ⟨rfl, ⟨hsz, hP, hK, hD0, hN⟩, hT⟩ := hv
  subst hsz
  have C : CallFix p m c cX4_nextPixel 4 s [.ref h_t, .ref h_s, .int v1].toArray wsX4_nextPixel RX4 := ⟨B.exec, B.bytes, hml, findClass_of_methodNamed B.named, atoms_spec (ws := wsX4_nextPixel) B.pre⟩
  have hl := lv_entry ([.ref h_t, .ref h_s, .int v1]) (n := 4) (Nat.le_of_ble_eq_true rfl)
  rw [lg_entry_eq]
  exact wX4_nextPixel_0 (A := va_A (zwX4 cI h_t t_depth t_left t_isRepeated t_held ++ zwX7 cI h_s h_s_file h_s_file_bytes s_place s_file_size s_file_bytes) s.heap.size) C hN hK (fun q h => Or.inr h) hT hst (fun h0 H locs pc ls d hP hD hS => zendT_i C.1 C.2.1 B.returns B.notSynchronized h0 d hP hD hS) (fun H locs pc ls rest q9 ce h0 hP hD hS hq hv hcl => zoutT htab B.notSynchronized h0 hP hD hS hq hv hcl) hf hP hD0.self va_S.rf hl
def rmX4_readPixels (tg : Nat) : Room := { frames := 10, cells := zc tg, slots := zs tg, locals := 170 }
theorem iX4_readPixels_X5 : ∀ w ∈ u_ws RX5 TX5 3, w ∈ wsX4_readPixels := by decide +kernel
theorem qX4_readPixels_X4_nextPixel_122 {args : Array Value} {s : State} {tg0 : Nat} {tg : Nat} (hts : ∀ w ∈ wsX4_readPixels, w.before args s = true) : CallW (rmX4_readPixels tg0) s args RX4 RX4 122 yX4_nextPixel cX4_nextPixel 4 (some .int) wsX4_nextPixel (rmX4_nextPixel tg) (zc tg) (zs tg) 2 := cwV 2 hts gX4_readPixels_X4_nextPixel rfl rfl rfl (by decide +kernel) ⟨Nat.le_of_ble_eq_true rfl, Nat.le_of_ble_eq_true rfl⟩
theorem qX4_readPixels_X5_count_112 {args : Array Value} {s : State} {tg0 : Nat} (hts : ∀ w ∈ wsX4_readPixels, w.before args s = true) : CallW (rmX4_readPixels tg0) s args RX4 RX5 112 yX5_count cX5_count 1 (some .int) wsX5_count rmX5_count 0 0 0 := cwV 0 hts gX4_readPixels_X5_count rfl rfl rfl (by decide +kernel) ⟨Nat.le_of_ble_eq_true rfl, Nat.le_of_ble_eq_true rfl⟩
theorem qX4_readPixels_X5_set_126 {args : Array Value} {s : State} {tg0 : Nat} (hts : ∀ w ∈ wsX4_readPixels, w.before args s = true) : CallW (rmX4_readPixels tg0) s args RX4 RX5 126 yX5_set cX5_set 4 none wsX5_set rmX5_set 0 0 3 := cwV 3 hts gX4_readPixels_X5_set rfl rfl rfl (by decide +kernel) ⟨Nat.le_of_ble_eq_true rfl, Nat.le_of_ble_eq_true rfl⟩
set_option maxHeartbeats 4000000 in
set_option maxRecDepth 100000 in
theorem wX4_readPixels_98 {p : Program} {l : Launch} {e : Env} {s : State} {m : MethodId} {args : Array Value} {below : List Frame} {meth : Method} {c : Code} {D : va_G} {A : Nat → Prop} {Q : State → Prop} {cI : ClassId} {h_t h_s h_s_file h_s_file_bytes h_p h_p_pixels : Nat} {t_depth : Int32} {s_file_size : Int32} {s_file_bytes : Nat → Int32} {p_wide : Int32} {p_high : Int32} {tg0 : Nat} {zt_left : Int32} {zt_isRepeated : Int32} {zt_held : Int32} {zs_place : Int32} {zp_pixels : Nat → Int32} (C : CallFix p m c cX4_readPixels 11 s args wsX4_readPixels RX4) (hN : zN s) (hK : va_K D vwCl [(cI, .int)] s) (hA : ∀ q, s.heap.size ≤ q → A q) (hT : zTh A s) (hst : l.stackTraces = false) (hE : zTEv tg0 p l e (rmX4_readPixels tg0) s m args below meth c cX4_readPixels D A Q (zwX4 cI h_t t_depth zt_left zt_isRepeated zt_held ++ zwX7 cI h_s h_s_file h_s_file_bytes zs_place s_file_size s_file_bytes ++ zwX5 cI h_p h_p_pixels p_wide p_high zp_pixels)) (hX : zTX tg0 p l e (rmX4_readPixels tg0) s m args below meth c D A Q (zwX4 cI h_t t_depth zt_left zt_isRepeated zt_held ++ zwX7 cI h_s h_s_file h_s_file_bytes zs_place s_file_size s_file_bytes ++ zwX5 cI h_p h_p_pixels p_wide p_high zp_pixels)) {rc37 : Int32 → Int32 → Int32 → Int32 → Int32 → Int32 → (Nat → Int32) → Int32 → Int32 → (Nat → Int32) → Int32 → Int32 → Int32 → Int32 → Option (Nat × Int32 × Int32 × Int32 × Int32 × (Nat → Int32))} (hr_37 : ∀ {t_left : Int32} {t_isRepeated : Int32} {t_held : Int32} {s_place : Int32} {p_pixels : Nat → Int32} {l2 : Int32} {l4 : Int32} {l5 : Int32} {l6 : Int32} {l7 : Int32} {H : Heap} {locs : List Loc} {ls : Array Slot}, rc37 t_depth t_left t_isRepeated t_held s_place s_file_size s_file_bytes p_wide p_high p_pixels l4 l5 l6 l7 = some (tg0, zt_left, zt_isRepeated, zt_held, zs_place, zp_pixels) → va_P D vwCl (zwX4 cI h_t t_depth t_left t_isRepeated t_held ++ zwX7 cI h_s h_s_file h_s_file_bytes s_place s_file_size s_file_bytes ++ zwX5 cI h_p h_p_pixels p_wide p_high p_pixels) H → va_D A (zwX4 cI h_t t_depth t_left t_isRepeated t_held ++ zwX7 cI h_s h_s_file h_s_file_bytes s_place s_file_size s_file_bytes ++ zwX5 cI h_p h_p_pixels p_wide p_high p_pixels) → va_S A s.heap H locs → lv_has ls 11 [(0, .ref h_t), (1, .ref h_s), (2, .int l2), (3, .ref h_p), (4, .int l4), (5, .int l5), (6, .int l6), (7, .int l7)] → W p l e (rmX4_readPixels tg0) s m args below meth c H locs 0 0 Q (F0 m 37 ls [])) {rc70 : Int32 → Int32 → Int32 → Int32 → Int32 → Int32 → (Nat → Int32) → Int32 → Int32 → (Nat → Int32) → Int32 → Int32 → Int32 → Int32 → Int32 → Int32 → Option (Nat × Int32 × Int32 × Int32 × Int32 × (Nat → Int32))} (hr_70 : ∀ {t_left : Int32} {t_isRepeated : Int32} {t_held : Int32} {s_place : Int32} {p_pixels : Nat → Int32} {l2 : Int32} {l4 : Int32} {l5 : Int32} {l6 : Int32} {l7 : Int32} {l8 : Int32} {l9 : Int32} {H : Heap} {locs : List Loc} {ls : Array Slot}, rc70 t_depth t_left t_isRepeated t_held s_place s_file_size s_file_bytes p_wide p_high p_pixels l4 l5 l6 l7 l8 l9 = some (tg0, zt_left, zt_isRepeated, zt_held, zs_place, zp_pixels) → va_P D vwCl (zwX4 cI h_t t_depth t_left t_isRepeated t_held ++ zwX7 cI h_s h_s_file h_s_file_bytes s_place s_file_size s_file_bytes ++ zwX5 cI h_p h_p_pixels p_wide p_high p_pixels) H → va_D A (zwX4 cI h_t t_depth t_left t_isRepeated t_held ++ zwX7 cI h_s h_s_file h_s_file_bytes s_place s_file_size s_file_bytes ++ zwX5 cI h_p h_p_pixels p_wide p_high p_pixels) → va_S A s.heap H locs → lv_has ls 11 [(0, .ref h_t), (1, .ref h_s), (2, .int l2), (3, .ref h_p), (4, .int l4), (5, .int l5), (6, .int l6), (7, .int l7), (8, .int l8), (9, .int l9)] → W p l e (rmX4_readPixels tg0) s m args below meth c H locs 0 0 Q (F0 m 70 ls [])) {t_left : Int32} {t_isRepeated : Int32} {t_held : Int32} {s_place : Int32} {p_pixels : Nat → Int32} {l2 : Int32} {l4 : Int32} {l5 : Int32} {l6 : Int32} {l7 : Int32} {l8 : Int32} {l9 : Int32} {k0 : Int32} {H : Heap} {locs : List Loc} {ls : Array Slot} : fX4_readPixels_98 rc37 rc70 t_depth t_left t_isRepeated t_held s_place s_file_size s_file_bytes p_wide p_high p_pixels l4 l5 l6 l7 l8 l9 k0 = some (tg0, zt_left, zt_isRepeated, zt_held, zs_place, zp_pixels) → va_P D vwCl (zwX4 cI h_t t_depth t_left t_isRepeated t_held ++ zwX7 cI h_s h_s_file h_s_file_bytes s_place s_file_size s_file_bytes ++ zwX5 cI h_p h_p_pixels p_wide p_high p_pixels) H → va_D A (zwX4 cI h_t t_depth t_left t_isRepeated t_held ++ zwX7 cI h_s h_s_file h_s_file_bytes s_place s_file_size s_file_bytes ++ zwX5 cI h_p h_p_pixels p_wide p_high p_pixels) → va_S A s.heap H locs → lv_has ls 11 [(0, .ref h_t), (1, .ref h_s), (2, .int l2), (3, .ref h_p), (4, .int l4), (5, .int l5), (6, .int l6), (7, .int l7), (8, .int l8), (9, .int l9)] → W p l e (rmX4_readPixels tg0) s m args below meth c H locs 0 0 Q (F0 m 98 ls [.int k0]) := by
  intro hf hP hD hS hl
  obtain ⟨hx, hb, hml, hown, hts⟩ := id C
  unfold fX4_readPixels_98 at hf
  refine lv_istore (lv' := [(10, .int k0), (0, .ref h_t), (1, .ref h_s), (2, .int l2), (3, .ref h_p), (4, .int l4), (5, .int l5), (6, .int l6), (7, .int l7), (8, .int l8), (9, .int l9)]) hx hb dX4_readPixels_98 hl (by decide) rfl (fun ls hl => ?_)
  refine lv_aload_n hx hb dX4_readPixels_100 rfl (lv_at hl 4 rfl) ?_
  refine lv_iload hx hb dX4_readPixels_101 (lv_at hl 0 rfl) ?_
  refine lv_iload hx hb dX4_readPixels_103 (lv_at hl 9 rfl) ?_
  refine lv_aload_n hx hb dX4_readPixels_105 rfl (lv_at hl 1 rfl) ?_
  refine lv_aload_n hx hb dX4_readPixels_106 rfl (lv_at hl 2 rfl) ?_
  refine lv_iload hx hb dX4_readPixels_107 (lv_at hl 7 rfl) ?_
  obtain ⟨tg1, r2, u3, u4, u5, u6, hc7, hf⟩ := zb6_in hf
  have hle := zT_le hf
  refine zcx_i (vx_runV (As := [.ref h_s, .int l6]) (rest := [.int l8, .int k0, .ref h_p]) C (mX4_nextPixel l hst D cI H.size h_t h_s h_s_file h_s_file_bytes t_depth t_left t_isRepeated t_held s_place s_file_size s_file_bytes l6 tg1 r2 u3 u4 u5 u6 hc7) (qX4_readPixels_X4_nextPixel_122 hts) ⟨zPT_blind, va_recv hK hP (ci := 3) (q0 := 0) rfl rfl, zpreT hK hN hT hA hS hP hD [0, 1, 2, 3] rfl rfl⟩ rfl rfl hl.1 rfl (lv_room (Nat.le_of_ble_eq_true rfl)) dX4_readPixels_109 hle) hP hD hS hA [0, 1, 2, 3] [4, 5] [2, 3, 4, 5, 0, 1] (ws' := zwX4 cI h_t t_depth u3 u4 u5 ++ zwX7 cI h_s h_s_file h_s_file_bytes u6 s_file_size s_file_bytes ++ zwX5 cI h_p h_p_pixels p_wide p_high p_pixels) rfl rfl rfl rfl rfl rfl (fun ht H locs q9 ce hP hD hS hq hv hcl => ?_) (fun ht H locs hP hD hS => ?_)
  · replace hf := zif_f hf ht
    cases hf
    exact hX _ _ _ _ _ _ _ ht hP hD hS hq hv hcl
  · replace hf := zif_t hf ht
    clear hle
    obtain ⟨u8, hc9, hf⟩ := zb1_in hf
    refine zc_v (va_runV (As := [.int k0, .int l8, .int r2]) (rest := []) C (mX5_set l D cI H.size h_p h_p_pixels p_wide p_high p_pixels k0 l8 r2 u8 hc9) (qX4_readPixels_X5_set_126 hts) ⟨zP_blind, va_recv hK hP (ci := 4) (q0 := 4) rfl rfl, zpre hK hN hP hD [4, 5] rfl rfl⟩ rfl rfl hl.1 rfl (lv_room (Nat.le_of_ble_eq_true rfl)) dX4_readPixels_112 ⟨Nat.zero_le _, Nat.zero_le _⟩) hP hD hS hA [4, 5] [0, 1, 2, 3] [0, 1, 2, 3, 4, 5] (ws' := zwX4 cI h_t t_depth u3 u4 u5 ++ zwX7 cI h_s h_s_file h_s_file_bytes u6 s_file_size s_file_bytes ++ zwX5 cI h_p h_p_pixels p_wide p_high u8) rfl rfl rfl rfl rfl rfl (fun H locs hP hD hS => ?_)
    obtain ⟨x10, ex10⟩ : ∃ y : Int32, y = l6 + (-1) := ⟨_, rfl⟩
    replace hf := zlet_in hf ex10
    refine lv_iinc (v := x10) (lv' := [(6, .int x10), (10, .int k0), (0, .ref h_t), (1, .ref h_s), (2, .int l2), (3, .ref h_p), (4, .int l4), (5, .int l5), (7, .int l7), (8, .int l8), (9, .int l9)]) hx hb dX4_readPixels_115 hl (k := 7) rfl (by rw [ex10]; rfl) (by decide) rfl (fun ls hl => ?_)
    clear ex10
    obtain ⟨x11, ex11⟩ : ∃ y : Int32, y = l9 + 1 := ⟨_, rfl⟩
    replace hf := zlet_in hf ex11
    refine lv_iinc (v := x11) (lv' := [(9, .int x11), (6, .int x10), (10, .int k0), (0, .ref h_t), (1, .ref h_s), (2, .int l2), (3, .ref h_p), (4, .int l4), (5, .int l5), (7, .int l7), (8, .int l8)]) hx hb dX4_readPixels_118 hl (k := 10) rfl (by rw [ex11]; rfl) (by decide) rfl (fun ls hl => ?_)
    clear ex11
    refine lv_goto (tgt := 70) hx hb dX4_readPixels_121 (by decide) ?_
    exact hr_70 hf hP hD hS (lv_sub hl [3, 4, 5, 6, 7, 8, 1, 9, 10, 0] rfl)
set_option maxHeartbeats 4000000 in
set_option maxRecDepth 100000 in
theorem wX4_readPixels_70 {p : Program} {l : Launch} {e : Env} {s : State} {m : MethodId} {args : Array Value} {below : List Frame} {meth : Method} {c : Code} {D : va_G} {A : Nat → Prop} {Q : State → Prop} {cI : ClassId} {h_t h_s h_s_file h_s_file_bytes h_p h_p_pixels : Nat} {t_depth : Int32} {s_file_size : Int32} {s_file_bytes : Nat → Int32} {p_wide : Int32} {p_high : Int32} {tg0 : Nat} {zt_left : Int32} {zt_isRepeated : Int32} {zt_held : Int32} {zs_place : Int32} {zp_pixels : Nat → Int32} (C : CallFix p m c cX4_readPixels 11 s args wsX4_readPixels RX4) (hN : zN s) (hK : va_K D vwCl [(cI, .int)] s) (hA : ∀ q, s.heap.size ≤ q → A q) (hT : zTh A s) (hst : l.stackTraces = false) (hE : zTEv tg0 p l e (rmX4_readPixels tg0) s m args below meth c cX4_readPixels D A Q (zwX4 cI h_t t_depth zt_left zt_isRepeated zt_held ++ zwX7 cI h_s h_s_file h_s_file_bytes zs_place s_file_size s_file_bytes ++ zwX5 cI h_p h_p_pixels p_wide p_high zp_pixels)) (hX : zTX tg0 p l e (rmX4_readPixels tg0) s m args below meth c D A Q (zwX4 cI h_t t_depth zt_left zt_isRepeated zt_held ++ zwX7 cI h_s h_s_file h_s_file_bytes zs_place s_file_size s_file_bytes ++ zwX5 cI h_p h_p_pixels p_wide p_high zp_pixels)) {rc37 : Int32 → Int32 → Int32 → Int32 → Int32 → Int32 → (Nat → Int32) → Int32 → Int32 → (Nat → Int32) → Int32 → Int32 → Int32 → Int32 → Option (Nat × Int32 × Int32 × Int32 × Int32 × (Nat → Int32))} (hr_37 : ∀ {t_left : Int32} {t_isRepeated : Int32} {t_held : Int32} {s_place : Int32} {p_pixels : Nat → Int32} {l2 : Int32} {l4 : Int32} {l5 : Int32} {l6 : Int32} {l7 : Int32} {H : Heap} {locs : List Loc} {ls : Array Slot}, rc37 t_depth t_left t_isRepeated t_held s_place s_file_size s_file_bytes p_wide p_high p_pixels l4 l5 l6 l7 = some (tg0, zt_left, zt_isRepeated, zt_held, zs_place, zp_pixels) → va_P D vwCl (zwX4 cI h_t t_depth t_left t_isRepeated t_held ++ zwX7 cI h_s h_s_file h_s_file_bytes s_place s_file_size s_file_bytes ++ zwX5 cI h_p h_p_pixels p_wide p_high p_pixels) H → va_D A (zwX4 cI h_t t_depth t_left t_isRepeated t_held ++ zwX7 cI h_s h_s_file h_s_file_bytes s_place s_file_size s_file_bytes ++ zwX5 cI h_p h_p_pixels p_wide p_high p_pixels) → va_S A s.heap H locs → lv_has ls 11 [(0, .ref h_t), (1, .ref h_s), (2, .int l2), (3, .ref h_p), (4, .int l4), (5, .int l5), (6, .int l6), (7, .int l7)] → W p l e (rmX4_readPixels tg0) s m args below meth c H locs 0 0 Q (F0 m 37 ls [])) (n : Nat) : ∀ {t_left : Int32} {t_isRepeated : Int32} {t_held : Int32} {s_place : Int32} {p_pixels : Nat → Int32} {l2 : Int32} {l4 : Int32} {l5 : Int32} {l6 : Int32} {l7 : Int32} {l8 : Int32} {l9 : Int32} {H : Heap} {locs : List Loc} {ls : Array Slot}, fX4_readPixels_70 rc37 n t_depth t_left t_isRepeated t_held s_place s_file_size s_file_bytes p_wide p_high p_pixels l4 l5 l6 l7 l8 l9 = some (tg0, zt_left, zt_isRepeated, zt_held, zs_place, zp_pixels) → va_P D vwCl (zwX4 cI h_t t_depth t_left t_isRepeated t_held ++ zwX7 cI h_s h_s_file h_s_file_bytes s_place s_file_size s_file_bytes ++ zwX5 cI h_p h_p_pixels p_wide p_high p_pixels) H → va_D A (zwX4 cI h_t t_depth t_left t_isRepeated t_held ++ zwX7 cI h_s h_s_file h_s_file_bytes s_place s_file_size s_file_bytes ++ zwX5 cI h_p h_p_pixels p_wide p_high p_pixels) → va_S A s.heap H locs → lv_has ls 11 [(0, .ref h_t), (1, .ref h_s), (2, .int l2), (3, .ref h_p), (4, .int l4), (5, .int l5), (6, .int l6), (7, .int l7), (8, .int l8), (9, .int l9)] → W p l e (rmX4_readPixels tg0) s m args below meth c H locs 0 0 Q (F0 m 70 ls []) := by
  obtain ⟨hx, hb, hml, hown, hts⟩ := id C
  induction n with
  | zero =>
    intro t_left t_isRepeated t_held s_place p_pixels l2 l4 l5 l6 l7 l8 l9 H locs ls hf
    cases hf
  | succ n hr_70 =>
    intro t_left t_isRepeated t_held s_place p_pixels l2 l4 l5 l6 l7 l8 l9 H locs ls hf hP hD hS hl
    rw [fX4_readPixels_70_s] at hf
    refine lv_iload hx hb dX4_readPixels_70 (lv_at hl 9 rfl) ?_
    refine lv_aload_n hx hb dX4_readPixels_72 rfl (lv_at hl 3 rfl) ?_
    refine va_getN (D := D) (ci := 4) (v := .int p_wide) (C := RX5) (T := TX5) (N := 3) hx hb hts iX4_readPixels_X5 hown hK hP 4 rfl rfl 1 (by decide) (hN.at 4 rfl) (fun _ h9 => h9) rfl dX4_readPixels_73 ?_
    refine lv_icmp_ge (tgt := 124) hx hb dX4_readPixels_76 (by decide) (fun c1 => ?_) (fun c1 => ?_)
    · replace hf := zif_t hf c1
      obtain ⟨x2, ex2⟩ : ∃ y : Int32, y = l7 + 1 := ⟨_, rfl⟩
      replace hf := zlet_in hf ex2
      refine lv_iinc (v := x2) (lv' := [(7, .int x2), (0, .ref h_t), (1, .ref h_s), (2, .int l2), (3, .ref h_p), (4, .int l4), (5, .int l5), (6, .int l6), (8, .int l8), (9, .int l9)]) hx hb dX4_readPixels_124 hl (k := 7) rfl (by rw [ex2]; rfl) (by decide) rfl (fun ls hl => ?_)
      clear ex2
      refine lv_goto (tgt := 37) hx hb dX4_readPixels_127 (by decide) ?_
      exact hr_37 hf hP hD hS (lv_sub hl [1, 2, 3, 4, 5, 6, 7, 0] rfl)
    · replace hf := zif_f hf c1
      refine lv_iload hx hb dX4_readPixels_79 (lv_at hl 4 rfl) ?_
      refine lv_if_eq (tgt := 96) hx hb dX4_readPixels_81 (by decide) (fun c3 => ?_) (fun c3 => ?_)
      · replace hf := zif_t hf c3
        refine lv_iload hx hb dX4_readPixels_96 (lv_at hl 9 rfl) ?_
        exact wX4_readPixels_98 C hN hK hA hT hst hE hX hr_37 hr_70 hf hP hD hS (lv_sub hl [0, 1, 2, 3, 4, 5, 6, 7, 8, 9] rfl)
      · replace hf := zif_f hf c3
        refine lv_aload_n hx hb dX4_readPixels_84 rfl (lv_at hl 3 rfl) ?_
        refine va_getN (D := D) (ci := 4) (v := .int p_wide) (C := RX5) (T := TX5) (N := 3) hx hb hts iX4_readPixels_X5 hown hK hP 4 rfl rfl 1 (by decide) (hN.at 4 rfl) (fun _ h9 => h9) rfl dX4_readPixels_85 ?_
        refine lv_iconst (v := 1) hx hb dX4_readPixels_88 (by decide) ?_
        refine lv_isub hx hb dX4_readPixels_89 ?_
        refine lv_iload hx hb dX4_readPixels_90 (lv_at hl 9 rfl) ?_
        refine lv_isub hx hb dX4_readPixels_92 ?_
        refine lv_goto (tgt := 98) hx hb dX4_readPixels_93 (by decide) ?_
        exact wX4_readPixels_98 C hN hK hA hT hst hE hX hr_37 hr_70 hf hP hD hS (lv_sub hl [0, 1, 2, 3, 4, 5, 6, 7, 8, 9] rfl)
set_option maxHeartbeats 4000000 in
set_option maxRecDepth 100000 in
theorem wX4_readPixels_65 {p : Program} {l : Launch} {e : Env} {s : State} {m : MethodId} {args : Array Value} {below : List Frame} {meth : Method} {c : Code} {D : va_G} {A : Nat → Prop} {Q : State → Prop} {cI : ClassId} {h_t h_s h_s_file h_s_file_bytes h_p h_p_pixels : Nat} {t_depth : Int32} {s_file_size : Int32} {s_file_bytes : Nat → Int32} {p_wide : Int32} {p_high : Int32} {tg0 : Nat} {zt_left : Int32} {zt_isRepeated : Int32} {zt_held : Int32} {zs_place : Int32} {zp_pixels : Nat → Int32} (C : CallFix p m c cX4_readPixels 11 s args wsX4_readPixels RX4) (hN : zN s) (hK : va_K D vwCl [(cI, .int)] s) (hA : ∀ q, s.heap.size ≤ q → A q) (hT : zTh A s) (hst : l.stackTraces = false) (hE : zTEv tg0 p l e (rmX4_readPixels tg0) s m args below meth c cX4_readPixels D A Q (zwX4 cI h_t t_depth zt_left zt_isRepeated zt_held ++ zwX7 cI h_s h_s_file h_s_file_bytes zs_place s_file_size s_file_bytes ++ zwX5 cI h_p h_p_pixels p_wide p_high zp_pixels)) (hX : zTX tg0 p l e (rmX4_readPixels tg0) s m args below meth c D A Q (zwX4 cI h_t t_depth zt_left zt_isRepeated zt_held ++ zwX7 cI h_s h_s_file h_s_file_bytes zs_place s_file_size s_file_bytes ++ zwX5 cI h_p h_p_pixels p_wide p_high zp_pixels)) {rc37 : Int32 → Int32 → Int32 → Int32 → Int32 → Int32 → (Nat → Int32) → Int32 → Int32 → (Nat → Int32) → Int32 → Int32 → Int32 → Int32 → Option (Nat × Int32 × Int32 × Int32 × Int32 × (Nat → Int32))} (hr_37 : ∀ {t_left : Int32} {t_isRepeated : Int32} {t_held : Int32} {s_place : Int32} {p_pixels : Nat → Int32} {l2 : Int32} {l4 : Int32} {l5 : Int32} {l6 : Int32} {l7 : Int32} {H : Heap} {locs : List Loc} {ls : Array Slot}, rc37 t_depth t_left t_isRepeated t_held s_place s_file_size s_file_bytes p_wide p_high p_pixels l4 l5 l6 l7 = some (tg0, zt_left, zt_isRepeated, zt_held, zs_place, zp_pixels) → va_P D vwCl (zwX4 cI h_t t_depth t_left t_isRepeated t_held ++ zwX7 cI h_s h_s_file h_s_file_bytes s_place s_file_size s_file_bytes ++ zwX5 cI h_p h_p_pixels p_wide p_high p_pixels) H → va_D A (zwX4 cI h_t t_depth t_left t_isRepeated t_held ++ zwX7 cI h_s h_s_file h_s_file_bytes s_place s_file_size s_file_bytes ++ zwX5 cI h_p h_p_pixels p_wide p_high p_pixels) → va_S A s.heap H locs → lv_has ls 11 [(0, .ref h_t), (1, .ref h_s), (2, .int l2), (3, .ref h_p), (4, .int l4), (5, .int l5), (6, .int l6), (7, .int l7)] → W p l e (rmX4_readPixels tg0) s m args below meth c H locs 0 0 Q (F0 m 37 ls [])) {t_left : Int32} {t_isRepeated : Int32} {t_held : Int32} {s_place : Int32} {p_pixels : Nat → Int32} {l2 : Int32} {l4 : Int32} {l5 : Int32} {l6 : Int32} {l7 : Int32} {k0 : Int32} {H : Heap} {locs : List Loc} {ls : Array Slot} : fX4_readPixels_65 rc37 t_depth t_left t_isRepeated t_held s_place s_file_size s_file_bytes p_wide p_high p_pixels l4 l5 l6 l7 k0 = some (tg0, zt_left, zt_isRepeated, zt_held, zs_place, zp_pixels) → va_P D vwCl (zwX4 cI h_t t_depth t_left t_isRepeated t_held ++ zwX7 cI h_s h_s_file h_s_file_bytes s_place s_file_size s_file_bytes ++ zwX5 cI h_p h_p_pixels p_wide p_high p_pixels) H → va_D A (zwX4 cI h_t t_depth t_left t_isRepeated t_held ++ zwX7 cI h_s h_s_file h_s_file_bytes s_place s_file_size s_file_bytes ++ zwX5 cI h_p h_p_pixels p_wide p_high p_pixels) → va_S A s.heap H locs → lv_has ls 11 [(0, .ref h_t), (1, .ref h_s), (2, .int l2), (3, .ref h_p), (4, .int l4), (5, .int l5), (6, .int l6), (7, .int l7)] → W p l e (rmX4_readPixels tg0) s m args below meth c H locs 0 0 Q (F0 m 65 ls [.int k0]) := by
  intro hf hP hD hS hl
  obtain ⟨hx, hb, hml, hown, hts⟩ := id C
  unfold fX4_readPixels_65 at hf
  refine lv_istore (lv' := [(8, .int k0), (0, .ref h_t), (1, .ref h_s), (2, .int l2), (3, .ref h_p), (4, .int l4), (5, .int l5), (6, .int l6), (7, .int l7)]) hx hb dX4_readPixels_65 hl (by decide) rfl (fun ls hl => ?_)
  refine lv_iconst (v := 0) hx hb dX4_readPixels_67 (by decide) ?_
  refine lv_istore (lv' := [(9, .int 0), (8, .int k0), (0, .ref h_t), (1, .ref h_s), (2, .int l2), (3, .ref h_p), (4, .int l4), (5, .int l5), (6, .int l6), (7, .int l7)]) hx hb dX4_readPixels_68 hl (by decide) rfl (fun ls hl => ?_)
  exact wX4_readPixels_70 C hN hK hA hT hst hE hX hr_37 1000 hf hP hD hS (lv_sub hl [2, 3, 4, 5, 6, 7, 8, 9, 1, 0] rfl)
set_option maxHeartbeats 4000000 in
set_option maxRecDepth 100000 in
theorem wX4_readPixels_37 {p : Program} {l : Launch} {e : Env} {s : State} {m : MethodId} {args : Array Value} {below : List Frame} {meth : Method} {c : Code} {D : va_G} {A : Nat → Prop} {Q : State → Prop} {cI : ClassId} {h_t h_s h_s_file h_s_file_bytes h_p h_p_pixels : Nat} {t_depth : Int32} {s_file_size : Int32} {s_file_bytes : Nat → Int32} {p_wide : Int32} {p_high : Int32} {tg0 : Nat} {zt_left : Int32} {zt_isRepeated : Int32} {zt_held : Int32} {zs_place : Int32} {zp_pixels : Nat → Int32} (C : CallFix p m c cX4_readPixels 11 s args wsX4_readPixels RX4) (hN : zN s) (hK : va_K D vwCl [(cI, .int)] s) (hA : ∀ q, s.heap.size ≤ q → A q) (hT : zTh A s) (hst : l.stackTraces = false) (hE : zTEv tg0 p l e (rmX4_readPixels tg0) s m args below meth c cX4_readPixels D A Q (zwX4 cI h_t t_depth zt_left zt_isRepeated zt_held ++ zwX7 cI h_s h_s_file h_s_file_bytes zs_place s_file_size s_file_bytes ++ zwX5 cI h_p h_p_pixels p_wide p_high zp_pixels)) (hX : zTX tg0 p l e (rmX4_readPixels tg0) s m args below meth c D A Q (zwX4 cI h_t t_depth zt_left zt_isRepeated zt_held ++ zwX7 cI h_s h_s_file h_s_file_bytes zs_place s_file_size s_file_bytes ++ zwX5 cI h_p h_p_pixels p_wide p_high zp_pixels)) (n : Nat) : ∀ {t_left : Int32} {t_isRepeated : Int32} {t_held : Int32} {s_place : Int32} {p_pixels : Nat → Int32} {l2 : Int32} {l4 : Int32} {l5 : Int32} {l6 : Int32} {l7 : Int32} {H : Heap} {locs : List Loc} {ls : Array Slot}, fX4_readPixels_37 n t_depth t_left t_isRepeated t_held s_place s_file_size s_file_bytes p_wide p_high p_pixels l4 l5 l6 l7 = some (tg0, zt_left, zt_isRepeated, zt_held, zs_place, zp_pixels) → va_P D vwCl (zwX4 cI h_t t_depth t_left t_isRepeated t_held ++ zwX7 cI h_s h_s_file h_s_file_bytes s_place s_file_size s_file_bytes ++ zwX5 cI h_p h_p_pixels p_wide p_high p_pixels) H → va_D A (zwX4 cI h_t t_depth t_left t_isRepeated t_held ++ zwX7 cI h_s h_s_file h_s_file_bytes s_place s_file_size s_file_bytes ++ zwX5 cI h_p h_p_pixels p_wide p_high p_pixels) → va_S A s.heap H locs → lv_has ls 11 [(0, .ref h_t), (1, .ref h_s), (2, .int l2), (3, .ref h_p), (4, .int l4), (5, .int l5), (6, .int l6), (7, .int l7)] → W p l e (rmX4_readPixels tg0) s m args below meth c H locs 0 0 Q (F0 m 37 ls []) := by
  obtain ⟨hx, hb, hml, hown, hts⟩ := id C
  induction n with
  | zero =>
    intro t_left t_isRepeated t_held s_place p_pixels l2 l4 l5 l6 l7 H locs ls hf
    cases hf
  | succ n hr_37 =>
    intro t_left t_isRepeated t_held s_place p_pixels l2 l4 l5 l6 l7 H locs ls hf hP hD hS hl
    rw [fX4_readPixels_37_s] at hf
    refine lv_iload hx hb dX4_readPixels_37 (lv_at hl 7 rfl) ?_
    refine lv_aload_n hx hb dX4_readPixels_39 rfl (lv_at hl 3 rfl) ?_
    refine va_getN (D := D) (ci := 4) (v := .int p_high) (C := RX5) (T := TX5) (N := 3) hx hb hts iX4_readPixels_X5 hown hK hP 4 rfl rfl 2 (by decide) (hN.at 10 rfl) (fun _ h9 => h9) rfl dX4_readPixels_40 ?_
    refine lv_icmp_ge (tgt := 130) hx hb dX4_readPixels_43 (by decide) (fun c1 => ?_) (fun c1 => ?_)
    · replace hf := zif_t hf c1
      cases hf
      exact hE rfl _ _ _ _ dX4_readPixels_130 hP hD hS
    · replace hf := zif_f hf c1
      refine lv_iload hx hb dX4_readPixels_46 (lv_at hl 5 rfl) ?_
      refine lv_if_eq (tgt := 56) hx hb dX4_readPixels_48 (by decide) (fun c2 => ?_) (fun c2 => ?_)
      · replace hf := zif_t hf c2
        refine lv_aload_n hx hb dX4_readPixels_56 rfl (lv_at hl 3 rfl) ?_
        refine va_getN (D := D) (ci := 4) (v := .int p_high) (C := RX5) (T := TX5) (N := 3) hx hb hts iX4_readPixels_X5 hown hK hP 4 rfl rfl 2 (by decide) (hN.at 10 rfl) (fun _ h9 => h9) rfl dX4_readPixels_57 ?_
        refine lv_iconst (v := 1) hx hb dX4_readPixels_60 (by decide) ?_
        refine lv_isub hx hb dX4_readPixels_61 ?_
        refine lv_iload hx hb dX4_readPixels_62 (lv_at hl 7 rfl) ?_
        refine lv_isub hx hb dX4_readPixels_64 ?_
        exact wX4_readPixels_65 C hN hK hA hT hst hE hX hr_37 hf hP hD hS (lv_sub hl [0, 1, 2, 3, 4, 5, 6, 7] rfl)
      · replace hf := zif_f hf c2
        refine lv_iload hx hb dX4_readPixels_51 (lv_at hl 7 rfl) ?_
        refine lv_goto (tgt := 65) hx hb dX4_readPixels_53 (by decide) ?_
        exact wX4_readPixels_65 C hN hK hA hT hst hE hX hr_37 hf hP hD hS (lv_sub hl [0, 1, 2, 3, 4, 5, 6, 7] rfl)
set_option maxHeartbeats 4000000 in
set_option maxRecDepth 100000 in
theorem wX4_readPixels_26 {p : Program} {l : Launch} {e : Env} {s : State} {m : MethodId} {args : Array Value} {below : List Frame} {meth : Method} {c : Code} {D : va_G} {A : Nat → Prop} {Q : State → Prop} {cI : ClassId} {h_t h_s h_s_file h_s_file_bytes h_p h_p_pixels : Nat} {t_depth : Int32} {s_file_size : Int32} {s_file_bytes : Nat → Int32} {p_wide : Int32} {p_high : Int32} {tg0 : Nat} {zt_left : Int32} {zt_isRepeated : Int32} {zt_held : Int32} {zs_place : Int32} {zp_pixels : Nat → Int32} (C : CallFix p m c cX4_readPixels 11 s args wsX4_readPixels RX4) (hN : zN s) (hK : va_K D vwCl [(cI, .int)] s) (hA : ∀ q, s.heap.size ≤ q → A q) (hT : zTh A s) (hst : l.stackTraces = false) (hE : zTEv tg0 p l e (rmX4_readPixels tg0) s m args below meth c cX4_readPixels D A Q (zwX4 cI h_t t_depth zt_left zt_isRepeated zt_held ++ zwX7 cI h_s h_s_file h_s_file_bytes zs_place s_file_size s_file_bytes ++ zwX5 cI h_p h_p_pixels p_wide p_high zp_pixels)) (hX : zTX tg0 p l e (rmX4_readPixels tg0) s m args below meth c D A Q (zwX4 cI h_t t_depth zt_left zt_isRepeated zt_held ++ zwX7 cI h_s h_s_file h_s_file_bytes zs_place s_file_size s_file_bytes ++ zwX5 cI h_p h_p_pixels p_wide p_high zp_pixels)) {t_left : Int32} {t_isRepeated : Int32} {t_held : Int32} {s_place : Int32} {p_pixels : Nat → Int32} {l2 : Int32} {l4 : Int32} {k0 : Int32} {H : Heap} {locs : List Loc} {ls : Array Slot} : fX4_readPixels_26 t_depth t_left t_isRepeated t_held s_place s_file_size s_file_bytes p_wide p_high p_pixels l4 k0 = some (tg0, zt_left, zt_isRepeated, zt_held, zs_place, zp_pixels) → va_P D vwCl (zwX4 cI h_t t_depth t_left t_isRepeated t_held ++ zwX7 cI h_s h_s_file h_s_file_bytes s_place s_file_size s_file_bytes ++ zwX5 cI h_p h_p_pixels p_wide p_high p_pixels) H → va_D A (zwX4 cI h_t t_depth t_left t_isRepeated t_held ++ zwX7 cI h_s h_s_file h_s_file_bytes s_place s_file_size s_file_bytes ++ zwX5 cI h_p h_p_pixels p_wide p_high p_pixels) → va_S A s.heap H locs → lv_has ls 11 [(0, .ref h_t), (1, .ref h_s), (2, .int l2), (3, .ref h_p), (4, .int l4)] → W p l e (rmX4_readPixels tg0) s m args below meth c H locs 0 0 Q (F0 m 26 ls [.int k0]) := by
  intro hf hP hD hS hl
  obtain ⟨hx, hb, hml, hown, hts⟩ := id C
  unfold fX4_readPixels_26 at hf
  refine lv_istore (lv' := [(5, .int k0), (0, .ref h_t), (1, .ref h_s), (2, .int l2), (3, .ref h_p), (4, .int l4)]) hx hb dX4_readPixels_26 hl (by decide) rfl (fun ls hl => ?_)
  refine lv_aload_n hx hb dX4_readPixels_28 rfl (lv_at hl 4 rfl) ?_
  obtain ⟨r1, hc2, hf⟩ := zb1_in hf
  refine zc_i (va_runV (As := []) (rest := []) C (mX5_count l D cI H.size h_p h_p_pixels p_wide p_high p_pixels r1 hc2) (qX4_readPixels_X5_count_112 hts) ⟨zP_blind, va_recv hK hP (ci := 4) (q0 := 4) rfl rfl, zpre hK hN hP hD [4, 5] rfl rfl⟩ rfl rfl hl.1 rfl (lv_room (Nat.le_of_ble_eq_true rfl)) dX4_readPixels_29 ⟨Nat.zero_le _, Nat.zero_le _⟩) hP hD hS hA [4, 5] [0, 1, 2, 3] [0, 1, 2, 3, 4, 5] (ws' := zwX4 cI h_t t_depth t_left t_isRepeated t_held ++ zwX7 cI h_s h_s_file h_s_file_bytes s_place s_file_size s_file_bytes ++ zwX5 cI h_p h_p_pixels p_wide p_high p_pixels) rfl rfl rfl rfl rfl rfl (fun H locs hP hD hS => ?_)
  refine lv_istore (lv' := [(6, .int r1), (5, .int k0), (0, .ref h_t), (1, .ref h_s), (2, .int l2), (3, .ref h_p), (4, .int l4)]) hx hb dX4_readPixels_32 hl (by decide) rfl (fun ls hl => ?_)
  refine lv_iconst (v := 0) hx hb dX4_readPixels_34 (by decide) ?_
  refine lv_istore (lv' := [(7, .int 0), (6, .int r1), (5, .int k0), (0, .ref h_t), (1, .ref h_s), (2, .int l2), (3, .ref h_p), (4, .int l4)]) hx hb dX4_readPixels_35 hl (by decide) rfl (fun ls hl => ?_)
  exact wX4_readPixels_37 C hN hK hA hT hst hE hX 1000 hf hP hD hS (lv_sub hl [3, 4, 5, 6, 7, 2, 1, 0] rfl)
set_option maxHeartbeats 4000000 in
set_option maxRecDepth 100000 in
theorem wX4_readPixels_12 {p : Program} {l : Launch} {e : Env} {s : State} {m : MethodId} {args : Array Value} {below : List Frame} {meth : Method} {c : Code} {D : va_G} {A : Nat → Prop} {Q : State → Prop} {cI : ClassId} {h_t h_s h_s_file h_s_file_bytes h_p h_p_pixels : Nat} {t_depth : Int32} {s_file_size : Int32} {s_file_bytes : Nat → Int32} {p_wide : Int32} {p_high : Int32} {tg0 : Nat} {zt_left : Int32} {zt_isRepeated : Int32} {zt_held : Int32} {zs_place : Int32} {zp_pixels : Nat → Int32} (C : CallFix p m c cX4_readPixels 11 s args wsX4_readPixels RX4) (hN : zN s) (hK : va_K D vwCl [(cI, .int)] s) (hA : ∀ q, s.heap.size ≤ q → A q) (hT : zTh A s) (hst : l.stackTraces = false) (hE : zTEv tg0 p l e (rmX4_readPixels tg0) s m args below meth c cX4_readPixels D A Q (zwX4 cI h_t t_depth zt_left zt_isRepeated zt_held ++ zwX7 cI h_s h_s_file h_s_file_bytes zs_place s_file_size s_file_bytes ++ zwX5 cI h_p h_p_pixels p_wide p_high zp_pixels)) (hX : zTX tg0 p l e (rmX4_readPixels tg0) s m args below meth c D A Q (zwX4 cI h_t t_depth zt_left zt_isRepeated zt_held ++ zwX7 cI h_s h_s_file h_s_file_bytes zs_place s_file_size s_file_bytes ++ zwX5 cI h_p h_p_pixels p_wide p_high zp_pixels)) {t_left : Int32} {t_isRepeated : Int32} {t_held : Int32} {s_place : Int32} {p_pixels : Nat → Int32} {l2 : Int32} {k0 : Int32} {H : Heap} {locs : List Loc} {ls : Array Slot} : fX4_readPixels_12 t_depth t_left t_isRepeated t_held s_place s_file_size s_file_bytes p_wide p_high p_pixels l2 k0 = some (tg0, zt_left, zt_isRepeated, zt_held, zs_place, zp_pixels) → va_P D vwCl (zwX4 cI h_t t_depth t_left t_isRepeated t_held ++ zwX7 cI h_s h_s_file h_s_file_bytes s_place s_file_size s_file_bytes ++ zwX5 cI h_p h_p_pixels p_wide p_high p_pixels) H → va_D A (zwX4 cI h_t t_depth t_left t_isRepeated t_held ++ zwX7 cI h_s h_s_file h_s_file_bytes s_place s_file_size s_file_bytes ++ zwX5 cI h_p h_p_pixels p_wide p_high p_pixels) → va_S A s.heap H locs → lv_has ls 11 [(0, .ref h_t), (1, .ref h_s), (2, .int l2), (3, .ref h_p)] → W p l e (rmX4_readPixels tg0) s m args below meth c H locs 0 0 Q (F0 m 12 ls [.int k0]) := by
  intro hf hP hD hS hl
  obtain ⟨hx, hb, hml, hown, hts⟩ := id C
  unfold fX4_readPixels_12 at hf
  refine lv_istore (lv' := [(4, .int k0), (0, .ref h_t), (1, .ref h_s), (2, .int l2), (3, .ref h_p)]) hx hb dX4_readPixels_12 hl (by decide) rfl (fun ls hl => ?_)
  refine lv_iload_n hx hb dX4_readPixels_14 rfl (lv_at hl 3 rfl) ?_
  refine lv_bipush (v := 32) hx hb dX4_readPixels_15 (by decide) ?_
  refine lv_iand hx hb dX4_readPixels_17 ?_
  refine lv_if_eq (tgt := 25) hx hb dX4_readPixels_18 (by decide) (fun c1 => ?_) (fun c1 => ?_)
  · replace hf := zif_t hf c1
    refine lv_iconst (v := 0) hx hb dX4_readPixels_25 (by decide) ?_
    exact wX4_readPixels_26 C hN hK hA hT hst hE hX hf hP hD hS (lv_sub hl [1, 2, 3, 4, 0] rfl)
  · replace hf := zif_f hf c1
    refine lv_iconst (v := 1) hx hb dX4_readPixels_21 (by decide) ?_
    refine lv_goto (tgt := 26) hx hb dX4_readPixels_22 (by decide) ?_
    exact wX4_readPixels_26 C hN hK hA hT hst hE hX hf hP hD hS (lv_sub hl [1, 2, 3, 4, 0] rfl)
set_option maxHeartbeats 4000000 in
set_option maxRecDepth 100000 in
theorem wX4_readPixels_0 {p : Program} {l : Launch} {e : Env} {s : State} {m : MethodId} {args : Array Value} {below : List Frame} {meth : Method} {c : Code} {D : va_G} {A : Nat → Prop} {Q : State → Prop} {cI : ClassId} {h_t h_s h_s_file h_s_file_bytes h_p h_p_pixels : Nat} {t_depth : Int32} {s_file_size : Int32} {s_file_bytes : Nat → Int32} {p_wide : Int32} {p_high : Int32} {tg0 : Nat} {zt_left : Int32} {zt_isRepeated : Int32} {zt_held : Int32} {zs_place : Int32} {zp_pixels : Nat → Int32} (C : CallFix p m c cX4_readPixels 11 s args wsX4_readPixels RX4) (hN : zN s) (hK : va_K D vwCl [(cI, .int)] s) (hA : ∀ q, s.heap.size ≤ q → A q) (hT : zTh A s) (hst : l.stackTraces = false) (hE : zTEv tg0 p l e (rmX4_readPixels tg0) s m args below meth c cX4_readPixels D A Q (zwX4 cI h_t t_depth zt_left zt_isRepeated zt_held ++ zwX7 cI h_s h_s_file h_s_file_bytes zs_place s_file_size s_file_bytes ++ zwX5 cI h_p h_p_pixels p_wide p_high zp_pixels)) (hX : zTX tg0 p l e (rmX4_readPixels tg0) s m args below meth c D A Q (zwX4 cI h_t t_depth zt_left zt_isRepeated zt_held ++ zwX7 cI h_s h_s_file h_s_file_bytes zs_place s_file_size s_file_bytes ++ zwX5 cI h_p h_p_pixels p_wide p_high zp_pixels)) {t_left : Int32} {t_isRepeated : Int32} {t_held : Int32} {s_place : Int32} {p_pixels : Nat → Int32} {v1 : Int32} {H : Heap} {locs : List Loc} {ls : Array Slot} : fX4_readPixels t_depth t_left t_isRepeated t_held s_place s_file_size s_file_bytes p_wide p_high p_pixels v1 = some (tg0, zt_left, zt_isRepeated, zt_held, zs_place, zp_pixels) → va_P D vwCl (zwX4 cI h_t t_depth t_left t_isRepeated t_held ++ zwX7 cI h_s h_s_file h_s_file_bytes s_place s_file_size s_file_bytes ++ zwX5 cI h_p h_p_pixels p_wide p_high p_pixels) H → va_D A (zwX4 cI h_t t_depth t_left t_isRepeated t_held ++ zwX7 cI h_s h_s_file h_s_file_bytes s_place s_file_size s_file_bytes ++ zwX5 cI h_p h_p_pixels p_wide p_high p_pixels) → va_S A s.heap H locs → lv_has ls 11 [(0, .ref h_t), (1, .ref h_s), (2, .int v1), (3, .ref h_p)] → W p l e (rmX4_readPixels tg0) s m args below meth c H locs 0 0 Q (F0 m 0 ls []) := by
  intro hf hP hD hS hl
  obtain ⟨hx, hb, hml, hown, hts⟩ := id C
  unfold fX4_readPixels at hf
  refine lv_iload_n hx hb dX4_readPixels_0 rfl (lv_at hl 2 rfl) ?_
  refine lv_bipush (v := 16) hx hb dX4_readPixels_1 (by decide) ?_
  refine lv_iand hx hb dX4_readPixels_3 ?_
  refine lv_if_eq (tgt := 11) hx hb dX4_readPixels_4 (by decide) (fun c1 => ?_) (fun c1 => ?_)
  · replace hf := zif_t hf c1
    refine lv_iconst (v := 0) hx hb dX4_readPixels_11 (by decide) ?_
    exact wX4_readPixels_12 C hN hK hA hT hst hE hX hf hP hD hS (lv_sub hl [0, 1, 2, 3] rfl)
  · replace hf := zif_f hf c1
    refine lv_iconst (v := 1) hx hb dX4_readPixels_7 (by decide) ?_
    refine lv_goto (tgt := 12) hx hb dX4_readPixels_8 (by decide) ?_
    exact wX4_readPixels_12 C hN hK hA hT hst hE hX hf hP hD hS (lv_sub hl [0, 1, 2, 3] rfl)
set_option maxHeartbeats 4000000 in
set_option maxRecDepth 100000 in
theorem mX4_readPixels (l : Launch) (hst : l.stackTraces = false) (D : va_G) (cI : ClassId) (sz : Nat) (h_t h_s h_s_file h_s_file_bytes h_p h_p_pixels : Nat) (t_depth : Int32) (t_left : Int32) (t_isRepeated : Int32) (t_held : Int32) (s_place : Int32) (s_file_size : Int32) (s_file_bytes : Nat → Int32) (p_wide : Int32) (p_high : Int32) (p_pixels : Nat → Int32) (v1 : Int32) (tg0 : Nat) (zt_left : Int32) (zt_isRepeated : Int32) (zt_held : Int32) (zs_place : Int32) (zp_pixels : Nat → Int32) (hf : fX4_readPixels t_depth t_left t_isRepeated t_held s_place s_file_size s_file_bytes p_wide p_high p_pixels v1 = some (tg0, zt_left, zt_isRepeated, zt_held, zs_place, zp_pixels)) : vx_Met l yX4_readPixels wsX4_readPixels (rmX4_readPixels tg0) (va_Pc [.ref h_t, .ref h_s, .int v1, .ref h_p] (zPT D [(cI, .int)] (zwX4 cI h_t t_depth t_left t_isRepeated t_held ++ zwX7 cI h_s h_s_file h_s_file_bytes s_place s_file_size s_file_bytes ++ zwX5 cI h_p h_p_pixels p_wide p_high p_pixels) sz)) (zQTv D (zwX4 cI h_t t_depth t_left t_isRepeated t_held ++ zwX7 cI h_s h_s_file h_s_file_bytes s_place s_file_size s_file_bytes ++ zwX5 cI h_p h_p_pixels p_wide p_high p_pixels) sz tg0 (zwX4 cI h_t t_depth zt_left zt_isRepeated zt_held ++ zwX7 cI h_s h_s_file h_s_file_bytes zs_place s_file_size s_file_bytes ++ zwX5 cI h_p h_p_pixels p_wide p_high zp_pixels)) (zXT D (zwX4 cI h_t t_depth t_left t_isRepeated t_held ++ zwX7 cI h_s h_s_file h_s_file_bytes s_place s_file_size s_file_bytes ++ zwX5 cI h_p h_p_pixels p_wide p_high p_pixels) sz tg0 (zwX4 cI h_t t_depth zt_left zt_isRepeated zt_held ++ zwX7 cI h_s h_s_file h_s_file_bytes zs_place s_file_size s_file_bytes ++ zwX5 cI h_p h_p_pixels p_wide p_high zp_pixels)) (zc tg0) (zs tg0) (va_A (zwX4 cI h_t t_depth t_left t_isRepeated t_held ++ zwX7 cI h_s h_s_file h_s_file_bytes s_place s_file_size s_file_bytes ++ zwX5 cI h_p h_p_pixels p_wide p_high p_pixels) sz) := by
  refine vx_ofW (cc := cX4_readPixels) (maxL := 11) (ret := none) (by decide) rfl ?_
  intro p e s m args below meth c s₁ B hml htab hv
  obtain ⟨rfl, ⟨hsz, hP, hK, hD0, hN⟩, hT⟩ := hv
  subst hsz
  have C : CallFix p m c cX4_readPixels 11 s [.ref h_t, .ref h_s, .int v1, .ref h_p].toArray wsX4_readPixels RX4 := ⟨B.exec, B.bytes, hml, findClass_of_methodNamed B.named, atoms_spec (ws := wsX4_readPixels) B.pre⟩
  have hl := lv_entry ([.ref h_t, .ref h_s, .int v1, .ref h_p]) (n := 11) (Nat.le_of_ble_eq_true rfl)
  rw [lg_entry_eq]
  exact wX4_readPixels_0 (A := va_A (zwX4 cI h_t t_depth t_left t_isRepeated t_held ++ zwX7 cI h_s h_s_file h_s_file_bytes s_place s_file_size s_file_bytes ++ zwX5 cI h_p h_p_pixels p_wide p_high p_pixels) s.heap.size) C hN hK (fun q h => Or.inr h) hT hst (fun h0 H locs pc ls d hP hD hS => zendT_v C.1 C.2.1 B.returns B.notSynchronized h0 d hP hD hS) (fun H locs pc ls rest q9 ce h0 hP hD hS hq hv hcl => zoutT htab B.notSynchronized h0 hP hD hS hq hv hcl) hf hP hD0.self va_S.rf hl
def rmX4_read (tg : Nat) : Room := { frames := 11, cells := zc tg, slots := zs tg, locals := 200 }
theorem kX4_read_28 {args : Array Value} {s : State} (h : ∀ w ∈ wsX4_read, w.before args s = true) : (Cond.fieldLink RX4 28 "FourPictureFiles$PacketFormat" "depth" "I").before args s = true := h _ (by decide +kernel)
theorem kX4_read_108 {args : Array Value} {s : State} (h : ∀ w ∈ wsX4_read, w.before args s = true) : (Cond.fieldLink RX4 108 "FourPictureFiles$PacketFormat" "isRepeated" "Z").before args s = true := h _ (by decide +kernel)
theorem kX4_read_115 {args : Array Value} {s : State} (h : ∀ w ∈ wsX4_read, w.before args s = true) : (Cond.fieldLink RX4 115 "FourPictureFiles$PacketFormat" "left" "I").before args s = true := h _ (by decide +kernel)
theorem iX4_read_X4 : ∀ w ∈ u_ws RX4 TX4 4, w ∈ wsX4_read := by decide +kernel
theorem qX4_read_X4_alphaBits_49 {args : Array Value} {s : State} {tg0 : Nat} (hts : ∀ w ∈ wsX4_read, w.before args s = true) : CallW (rmX4_read tg0) s args RX4 RX4 49 yX4_alphaBits cX4_alphaBits 1 (some .int) wsX4_alphaBits rmX4_alphaBits 0 0 0 := cwV 0 hts gX4_read_X4_alphaBits rfl rfl rfl (by decide +kernel) ⟨Nat.le_of_ble_eq_true rfl, Nat.le_of_ble_eq_true rfl⟩
theorem qX4_read_X4_readPixels_118 {args : Array Value} {s : State} {tg0 : Nat} {tg : Nat} (hts : ∀ w ∈ wsX4_read, w.before args s = true) : CallW (rmX4_read tg0) s args RX4 RX4 118 yX4_readPixels cX4_readPixels 11 none wsX4_readPixels (rmX4_readPixels tg) (zc tg) (zs tg) 3 := cwV 3 hts gX4_read_X4_readPixels rfl rfl rfl (by decide +kernel) ⟨Nat.le_of_ble_eq_true rfl, Nat.le_of_ble_eq_true rfl⟩
theorem qX4_read_X5_begin_105 {args : Array Value} {s : State} {tg0 : Nat} (hts : ∀ w ∈ wsX4_read, w.before args s = true) : CallW (rmX4_read tg0) s args RX4 RX5 105 yX5_begin cX5_begin 3 none wsX5_begin rmX5_begin 0 0 2 := cwV 2 hts gX4_read_X5_begin rfl rfl rfl (by decide +kernel) ⟨Nat.le_of_ble_eq_true rfl, Nat.le_of_ble_eq_true rfl⟩
theorem qX4_read_X5_count_112 {args : Array Value} {s : State} {tg0 : Nat} (hts : ∀ w ∈ wsX4_read, w.before args s = true) : CallW (rmX4_read tg0) s args RX4 RX5 112 yX5_count cX5_count 1 (some .int) wsX5_count rmX5_count 0 0 0 := cwV 0 hts gX4_read_X5_count rfl rfl rfl (by decide +kernel) ⟨Nat.le_of_ble_eq_true rfl, Nat.le_of_ble_eq_true rfl⟩
theorem qX4_read_X7_little_95 {args : Array Value} {s : State} {tg0 : Nat} {tg : Nat} (hts : ∀ w ∈ wsX4_read, w.before args s = true) : CallW (rmX4_read tg0) s args RX4 RX7 95 yX7_little cX7_little 4 (some .int) wsX7_little (rmX7_little tg) (zc tg) (zs tg) 1 := cwV 1 hts gX4_read_X7_little rfl rfl rfl (by decide +kernel) ⟨Nat.le_of_ble_eq_true rfl, Nat.le_of_ble_eq_true rfl⟩
theorem qX4_read_X7_need_101 {args : Array Value} {s : State} {tg0 : Nat} {tg : Nat} (hts : ∀ w ∈ wsX4_read, w.before args s = true) : CallW (rmX4_read tg0) s args RX4 RX7 101 yX7_need cX7_need 2 none wsX7_need (rmX7_need tg) (zc tg) (zs tg) 1 := cwV 1 hts gX4_read_X7_need rfl rfl rfl (by decide +kernel) ⟨Nat.le_of_ble_eq_true rfl, Nat.le_of_ble_eq_true rfl⟩
theorem qX4_read_X7_needSide_98 {args : Array Value} {s : State} {tg0 : Nat} {tg : Nat} (hts : ∀ w ∈ wsX4_read, w.before args s = true) : CallW (rmX4_read tg0) s args RX4 RX7 98 yX7_needSide cX7_needSide 2 (some .int) wsX7_needSide (rmX7_needSide tg) (zc tg) (zs tg) 1 := cwV 1 hts gX4_read_X7_needSide rfl rfl rfl (by decide +kernel) ⟨Nat.le_of_ble_eq_true rfl, Nat.le_of_ble_eq_true rfl⟩
theorem qX4_read_X7_next_87 {args : Array Value} {s : State} {tg0 : Nat} {tg : Nat} (hts : ∀ w ∈ wsX4_read, w.before args s = true) : CallW (rmX4_read tg0) s args RX4 RX7 87 yX7_next cX7_next 2 (some .int) wsX7_next (rmX7_next tg) (zc tg) (zs tg) 0 := cwV 0 hts gX4_read_X7_next rfl rfl rfl (by decide +kernel) ⟨Nat.le_of_ble_eq_true rfl, Nat.le_of_ble_eq_true rfl⟩
theorem qX4_read_X7_pass_92 {args : Array Value} {s : State} {tg0 : Nat} {tg : Nat} (hts : ∀ w ∈ wsX4_read, w.before args s = true) : CallW (rmX4_read tg0) s args RX4 RX7 92 yX7_pass cX7_pass 3 none wsX7_pass (rmX7_pass tg) (zc tg) (zs tg) 1 := cwV 1 hts gX4_read_X7_pass rfl rfl rfl (by decide +kernel) ⟨Nat.le_of_ble_eq_true rfl, Nat.le_of_ble_eq_true rfl⟩
set_option maxHeartbeats 4000000 in
set_option maxRecDepth 100000 in
theorem wX4_read_125 {p : Program} {l : Launch} {e : Env} {s : State} {m : MethodId} {args : Array Value} {below : List Frame} {meth : Method} {c : Code} {D : va_G} {A : Nat → Prop} {Q : State → Prop} {cI : ClassId} {h_t h_s h_s_file h_s_file_bytes h_p h_p_pixels : Nat} {s_file_size : Int32} {s_file_bytes : Nat → Int32} {tg0 : Nat} {zt_depth : Int32} {zt_left : Int32} {zt_isRepeated : Int32} {zt_held : Int32} {zs_place : Int32} {zp_wide : Int32} {zp_high : Int32} {zp_pixels : Nat → Int32} (C : CallFix p m c cX4_read 8 s args wsX4_read RX4) (hN : zN s) (hK : va_K D vwCl [(cI, .int)] s) (hA : ∀ q, s.heap.size ≤ q → A q) (hT : zTh A s) (hst : l.stackTraces = false) (hE : zTEv tg0 p l e (rmX4_read tg0) s m args below meth c cX4_read D A Q (zwX4 cI h_t zt_depth zt_left zt_isRepeated zt_held ++ zwX7 cI h_s h_s_file h_s_file_bytes zs_place s_file_size s_file_bytes ++ zwX5 cI h_p h_p_pixels zp_wide zp_high zp_pixels)) (hX : zTX tg0 p l e (rmX4_read tg0) s m args below meth c D A Q (zwX4 cI h_t zt_depth zt_left zt_isRepeated zt_held ++ zwX7 cI h_s h_s_file h_s_file_bytes zs_place s_file_size s_file_bytes ++ zwX5 cI h_p h_p_pixels zp_wide zp_high zp_pixels)) {t_depth : Int32} {t_left : Int32} {t_isRepeated : Int32} {t_held : Int32} {s_place : Int32} {p_wide : Int32} {p_high : Int32} {p_pixels : Nat → Int32} {l3 : Int32} {l4 : Int32} {l5 : Int32} {l6 : Int32} {l7 : Int32} {k1 : Int32} {H : Heap} {locs : List Loc} {ls : Array Slot} : fX4_read_125 t_depth t_isRepeated t_held s_place s_file_size s_file_bytes p_wide p_high p_pixels l7 k1 = some (tg0, zt_depth, zt_left, zt_isRepeated, zt_held, zs_place, zp_wide, zp_high, zp_pixels) → va_P D vwCl (zwX4 cI h_t t_depth t_left t_isRepeated t_held ++ zwX7 cI h_s h_s_file h_s_file_bytes s_place s_file_size s_file_bytes ++ zwX5 cI h_p h_p_pixels p_wide p_high p_pixels) H → va_D A (zwX4 cI h_t t_depth t_left t_isRepeated t_held ++ zwX7 cI h_s h_s_file h_s_file_bytes s_place s_file_size s_file_bytes ++ zwX5 cI h_p h_p_pixels p_wide p_high p_pixels) → va_S A s.heap H locs → lv_has ls 8 [(0, .ref h_t), (1, .ref h_s), (2, .ref h_p), (3, .int l3), (4, .int l4), (5, .int l5), (6, .int l6), (7, .int l7)] → W p l e (rmX4_read tg0) s m args below meth c H locs 0 0 Q (F0 m 125 ls [.int k1, .ref h_t]) := by
  intro hf hP hD hS hl
  obtain ⟨hx, hb, hml, hown, hts⟩ := id C
  unfold fX4_read_125 at hf
  refine va_put (D := D) (ci := 3) (v := .int k1) (ty := .int) (C := RX4) (T := TX4) (N := 4) hx hb hts iX4_read_X4 tyX4 tyX4_ok nmX4 hown hK hP hD hS 0 rfl rfl 1 (by decide) (kX4_read_115 hts) (fun _ h9 => h9) rfl (by decide +kernel) rfl rfl (Nat.le_of_ble_eq_true rfl) dX4_read_125 (fun H locs hP hD hS => ?_)
  replace hP : va_P D vwCl (zwX4 cI h_t t_depth k1 t_isRepeated t_held ++ zwX7 cI h_s h_s_file h_s_file_bytes s_place s_file_size s_file_bytes ++ zwX5 cI h_p h_p_pixels p_wide p_high p_pixels) H := hP
  replace hD : va_D A (zwX4 cI h_t t_depth k1 t_isRepeated t_held ++ zwX7 cI h_s h_s_file h_s_file_bytes s_place s_file_size s_file_bytes ++ zwX5 cI h_p h_p_pixels p_wide p_high p_pixels) := hD
  refine lv_aload_n hx hb dX4_read_128 rfl (lv_at hl 0 rfl) ?_
  refine lv_aload_n hx hb dX4_read_129 rfl (lv_at hl 1 rfl) ?_
  refine lv_iload hx hb dX4_read_130 (lv_at hl 7 rfl) ?_
  refine lv_aload_n hx hb dX4_read_132 rfl (lv_at hl 2 rfl) ?_
  obtain ⟨tg1, u2, u3, u4, u5, u6, hc7, hf⟩ := zb6_in hf
  have hle := zT_le hf
  refine zcx_v (vx_runV (As := [.ref h_s, .int l7, .ref h_p]) (rest := []) C (mX4_readPixels l hst D cI H.size h_t h_s h_s_file h_s_file_bytes h_p h_p_pixels t_depth k1 t_isRepeated t_held s_place s_file_size s_file_bytes p_wide p_high p_pixels l7 tg1 u2 u3 u4 u5 u6 hc7) (qX4_read_X4_readPixels_118 hts) ⟨zPT_blind, va_recv hK hP (ci := 3) (q0 := 0) rfl rfl, zpreT hK hN hT hA hS hP hD [0, 1, 2, 3, 4, 5] rfl rfl⟩ rfl rfl hl.1 rfl (lv_room (Nat.le_of_ble_eq_true rfl)) dX4_read_133 hle) hP hD hS hA [0, 1, 2, 3, 4, 5] [] [0, 1, 2, 3, 4, 5] (ws' := zwX4 cI h_t t_depth u2 u3 u4 ++ zwX7 cI h_s h_s_file h_s_file_bytes u5 s_file_size s_file_bytes ++ zwX5 cI h_p h_p_pixels p_wide p_high u6) rfl rfl rfl rfl rfl rfl (fun ht H locs q9 ce hP hD hS hq hv hcl => ?_) (fun ht H locs hP hD hS => ?_)
  · replace hf := zif_f hf ht
    cases hf
    exact hX _ _ _ _ _ _ _ ht hP hD hS hq hv hcl
  · replace hf := zif_t hf ht
    clear hle
    cases hf
    exact hE rfl _ _ _ _ dX4_read_136 hP hD hS
set_option maxHeartbeats 4000000 in
set_option maxRecDepth 100000 in
theorem wX4_read_117 {p : Program} {l : Launch} {e : Env} {s : State} {m : MethodId} {args : Array Value} {below : List Frame} {meth : Method} {c : Code} {D : va_G} {A : Nat → Prop} {Q : State → Prop} {cI : ClassId} {h_t h_s h_s_file h_s_file_bytes h_p h_p_pixels : Nat} {s_file_size : Int32} {s_file_bytes : Nat → Int32} {tg0 : Nat} {zt_depth : Int32} {zt_left : Int32} {zt_isRepeated : Int32} {zt_held : Int32} {zs_place : Int32} {zp_wide : Int32} {zp_high : Int32} {zp_pixels : Nat → Int32} (C : CallFix p m c cX4_read 8 s args wsX4_read RX4) (hN : zN s) (hK : va_K D vwCl [(cI, .int)] s) (hA : ∀ q, s.heap.size ≤ q → A q) (hT : zTh A s) (hst : l.stackTraces = false) (hE : zTEv tg0 p l e (rmX4_read tg0) s m args below meth c cX4_read D A Q (zwX4 cI h_t zt_depth zt_left zt_isRepeated zt_held ++ zwX7 cI h_s h_s_file h_s_file_bytes zs_place s_file_size s_file_bytes ++ zwX5 cI h_p h_p_pixels zp_wide zp_high zp_pixels)) (hX : zTX tg0 p l e (rmX4_read tg0) s m args below meth c D A Q (zwX4 cI h_t zt_depth zt_left zt_isRepeated zt_held ++ zwX7 cI h_s h_s_file h_s_file_bytes zs_place s_file_size s_file_bytes ++ zwX5 cI h_p h_p_pixels zp_wide zp_high zp_pixels)) {t_depth : Int32} {t_left : Int32} {t_isRepeated : Int32} {t_held : Int32} {s_place : Int32} {p_wide : Int32} {p_high : Int32} {p_pixels : Nat → Int32} {l3 : Int32} {l4 : Int32} {l5 : Int32} {l6 : Int32} {l7 : Int32} {H : Heap} {locs : List Loc} {ls : Array Slot} : fX4_read_117 t_depth t_isRepeated t_held s_place s_file_size s_file_bytes p_wide p_high p_pixels l7 = some (tg0, zt_depth, zt_left, zt_isRepeated, zt_held, zs_place, zp_wide, zp_high, zp_pixels) → va_P D vwCl (zwX4 cI h_t t_depth t_left t_isRepeated t_held ++ zwX7 cI h_s h_s_file h_s_file_bytes s_place s_file_size s_file_bytes ++ zwX5 cI h_p h_p_pixels p_wide p_high p_pixels) H → va_D A (zwX4 cI h_t t_depth t_left t_isRepeated t_held ++ zwX7 cI h_s h_s_file h_s_file_bytes s_place s_file_size s_file_bytes ++ zwX5 cI h_p h_p_pixels p_wide p_high p_pixels) → va_S A s.heap H locs → lv_has ls 8 [(0, .ref h_t), (1, .ref h_s), (2, .ref h_p), (3, .int l3), (4, .int l4), (5, .int l5), (6, .int l6), (7, .int l7)] → W p l e (rmX4_read tg0) s m args below meth c H locs 0 0 Q (F0 m 117 ls [.ref h_t]) := by
  intro hf hP hD hS hl
  obtain ⟨hx, hb, hml, hown, hts⟩ := id C
  unfold fX4_read_117 at hf
  refine lv_aload_n hx hb dX4_read_117 rfl (lv_at hl 2 rfl) ?_
  obtain ⟨r1, hc2, hf⟩ := zb1_in hf
  refine zc_i (va_runV (As := []) (rest := [.ref h_t]) C (mX5_count l D cI H.size h_p h_p_pixels p_wide p_high p_pixels r1 hc2) (qX4_read_X5_count_112 hts) ⟨zP_blind, va_recv hK hP (ci := 4) (q0 := 4) rfl rfl, zpre hK hN hP hD [4, 5] rfl rfl⟩ rfl rfl hl.1 rfl (lv_room (Nat.le_of_ble_eq_true rfl)) dX4_read_118 ⟨Nat.zero_le _, Nat.zero_le _⟩) hP hD hS hA [4, 5] [0, 1, 2, 3] [0, 1, 2, 3, 4, 5] (ws' := zwX4 cI h_t t_depth t_left t_isRepeated t_held ++ zwX7 cI h_s h_s_file h_s_file_bytes s_place s_file_size s_file_bytes ++ zwX5 cI h_p h_p_pixels p_wide p_high p_pixels) rfl rfl rfl rfl rfl rfl (fun H locs hP hD hS => ?_)
  refine lv_goto (tgt := 125) hx hb dX4_read_121 (by decide) ?_
  exact wX4_read_125 C hN hK hA hT hst hE hX hf hP hD hS (lv_sub hl [0, 1, 2, 3, 4, 5, 6, 7] rfl)
set_option maxHeartbeats 4000000 in
set_option maxRecDepth 100000 in
theorem wX4_read_83 {p : Program} {l : Launch} {e : Env} {s : State} {m : MethodId} {args : Array Value} {below : List Frame} {meth : Method} {c : Code} {D : va_G} {A : Nat → Prop} {Q : State → Prop} {cI : ClassId} {h_t h_s h_s_file h_s_file_bytes h_p h_p_pixels : Nat} {s_file_size : Int32} {s_file_bytes : Nat → Int32} {tg0 : Nat} {zt_depth : Int32} {zt_left : Int32} {zt_isRepeated : Int32} {zt_held : Int32} {zs_place : Int32} {zp_wide : Int32} {zp_high : Int32} {zp_pixels : Nat → Int32} (C : CallFix p m c cX4_read 8 s args wsX4_read RX4) (hN : zN s) (hK : va_K D vwCl [(cI, .int)] s) (hA : ∀ q, s.heap.size ≤ q → A q) (hT : zTh A s) (hst : l.stackTraces = false) (hE : zTEv tg0 p l e (rmX4_read tg0) s m args below meth c cX4_read D A Q (zwX4 cI h_t zt_depth zt_left zt_isRepeated zt_held ++ zwX7 cI h_s h_s_file h_s_file_bytes zs_place s_file_size s_file_bytes ++ zwX5 cI h_p h_p_pixels zp_wide zp_high zp_pixels)) (hX : zTX tg0 p l e (rmX4_read tg0) s m args below meth c D A Q (zwX4 cI h_t zt_depth zt_left zt_isRepeated zt_held ++ zwX7 cI h_s h_s_file h_s_file_bytes zs_place s_file_size s_file_bytes ++ zwX5 cI h_p h_p_pixels zp_wide zp_high zp_pixels)) {t_depth : Int32} {t_left : Int32} {t_isRepeated : Int32} {t_held : Int32} {s_place : Int32} {p_wide : Int32} {p_high : Int32} {p_pixels : Nat → Int32} {l3 : Int32} {l4 : Int32} {l5 : Int32} {l6 : Int32} {l7 : Int32} {k1 : Int32} {H : Heap} {locs : List Loc} {ls : Array Slot} : fX4_read_83 t_depth t_left t_isRepeated t_held s_place s_file_size s_file_bytes p_wide p_high p_pixels l3 l4 l5 l6 l7 k1 = some (tg0, zt_depth, zt_left, zt_isRepeated, zt_held, zs_place, zp_wide, zp_high, zp_pixels) → va_P D vwCl (zwX4 cI h_t t_depth t_left t_isRepeated t_held ++ zwX7 cI h_s h_s_file h_s_file_bytes s_place s_file_size s_file_bytes ++ zwX5 cI h_p h_p_pixels p_wide p_high p_pixels) H → va_D A (zwX4 cI h_t t_depth t_left t_isRepeated t_held ++ zwX7 cI h_s h_s_file h_s_file_bytes s_place s_file_size s_file_bytes ++ zwX5 cI h_p h_p_pixels p_wide p_high p_pixels) → va_S A s.heap H locs → lv_has ls 8 [(0, .ref h_t), (1, .ref h_s), (2, .ref h_p), (3, .int l3), (4, .int l4), (5, .int l5), (6, .int l6), (7, .int l7)] → W p l e (rmX4_read tg0) s m args below meth c H locs 0 0 Q (F0 m 83 ls [.int k1, .ref h_s]) := by
  intro hf hP hD hS hl
  obtain ⟨hx, hb, hml, hown, hts⟩ := id C
  unfold fX4_read_83 at hf
  obtain ⟨tg1, hc2, hf⟩ := zb1_in hf
  have hle := zT_le hf
  refine zcx_v (vx_runV (As := [.int k1]) (rest := []) C (mX7_need l hst D cI H.size h_s h_s_file h_s_file_bytes s_place s_file_size s_file_bytes k1 tg1 hc2) (qX4_read_X7_need_101 hts) ⟨zPT_blind, va_recv hK hP (ci := 6) (q0 := 1) rfl rfl, zpreT hK hN hT hA hS hP hD [1, 2, 3] rfl rfl⟩ rfl rfl hl.1 rfl (lv_room (Nat.le_of_ble_eq_true rfl)) dX4_read_83 hle) hP hD hS hA [1, 2, 3] [0, 4, 5] [0, 3, 4, 5, 1, 2] (ws' := zwX4 cI h_t t_depth t_left t_isRepeated t_held ++ zwX7 cI h_s h_s_file h_s_file_bytes s_place s_file_size s_file_bytes ++ zwX5 cI h_p h_p_pixels p_wide p_high p_pixels) rfl rfl rfl rfl rfl rfl (fun ht H locs q9 ce hP hD hS hq hv hcl => ?_) (fun ht H locs hP hD hS => ?_)
  · replace hf := zif_f hf ht
    cases hf
    exact hX _ _ _ _ _ _ _ ht hP hD hS hq hv hcl
  · replace hf := zif_t hf ht
    clear hle
    refine lv_aload_n hx hb dX4_read_86 rfl (lv_at hl 1 rfl) ?_
    refine lv_iload_n hx hb dX4_read_87 rfl (lv_at hl 3 rfl) ?_
    obtain ⟨tg3, u4, hc5, hf⟩ := zb2_in hf
    have hle := zT_le hf
    refine zcx_v (vx_runV (As := [.int l3]) (rest := []) C (mX7_pass l hst D cI H.size h_s h_s_file h_s_file_bytes s_place s_file_size s_file_bytes l3 tg3 u4 hc5) (qX4_read_X7_pass_92 hts) ⟨zPT_blind, va_recv hK hP (ci := 6) (q0 := 1) rfl rfl, zpreT hK hN hT hA hS hP hD [1, 2, 3] rfl rfl⟩ rfl rfl hl.1 rfl (lv_room (Nat.le_of_ble_eq_true rfl)) dX4_read_88 hle) hP hD hS hA [1, 2, 3] [0, 4, 5] [0, 3, 4, 5, 1, 2] (ws' := zwX4 cI h_t t_depth t_left t_isRepeated t_held ++ zwX7 cI h_s h_s_file h_s_file_bytes u4 s_file_size s_file_bytes ++ zwX5 cI h_p h_p_pixels p_wide p_high p_pixels) rfl rfl rfl rfl rfl rfl (fun ht H locs q9 ce hP hD hS hq hv hcl => ?_) (fun ht H locs hP hD hS => ?_)
    · replace hf := zif_f hf ht
      cases hf
      exact hX _ _ _ _ _ _ _ ht hP hD hS hq hv hcl
    · replace hf := zif_t hf ht
      clear hle
      refine lv_aload_n hx hb dX4_read_91 rfl (lv_at hl 2 rfl) ?_
      refine lv_iload hx hb dX4_read_92 (lv_at hl 5 rfl) ?_
      refine lv_iload hx hb dX4_read_94 (lv_at hl 6 rfl) ?_
      obtain ⟨u6, u7, u8, hc9, hf⟩ := zb3_in hf
      refine zc_v (va_runV (As := [.int l5, .int l6]) (rest := []) C (mX5_begin l D cI H.size h_p h_p_pixels p_wide p_high p_pixels l5 l6 u6 u7 u8 hc9) (qX4_read_X5_begin_105 hts) ⟨zP_blind, va_recv hK hP (ci := 4) (q0 := 4) rfl rfl, zpre hK hN hP hD [4, 5] rfl rfl⟩ rfl rfl hl.1 rfl (lv_room (Nat.le_of_ble_eq_true rfl)) dX4_read_96 ⟨Nat.zero_le _, Nat.zero_le _⟩) hP hD hS hA [4, 5] [0, 1, 2, 3] [0, 1, 2, 3, 4, 5] (ws' := zwX4 cI h_t t_depth t_left t_isRepeated t_held ++ zwX7 cI h_s h_s_file h_s_file_bytes u4 s_file_size s_file_bytes ++ zwX5 cI h_p h_p_pixels u6 u7 u8) rfl rfl rfl rfl rfl rfl (fun H locs hP hD hS => ?_)
      refine lv_aload_n hx hb dX4_read_99 rfl (lv_at hl 0 rfl) ?_
      refine lv_iconst (v := 0) hx hb dX4_read_100 (by decide) ?_
      refine va_put (D := D) (ci := 3) (v := .int 0) (ty := .boolean) (C := RX4) (T := TX4) (N := 4) hx hb hts iX4_read_X4 tyX4 tyX4_ok nmX4 hown hK hP hD hS 0 rfl rfl 2 (by decide) (kX4_read_108 hts) (fun _ h9 => h9) rfl (by decide +kernel) rfl rfl (Nat.le_of_ble_eq_true rfl) dX4_read_101 (fun H locs hP hD hS => ?_)
      replace hP : va_P D vwCl (zwX4 cI h_t t_depth t_left 0 t_held ++ zwX7 cI h_s h_s_file h_s_file_bytes u4 s_file_size s_file_bytes ++ zwX5 cI h_p h_p_pixels u6 u7 u8) H := hP
      replace hD : va_D A (zwX4 cI h_t t_depth t_left 0 t_held ++ zwX7 cI h_s h_s_file h_s_file_bytes u4 s_file_size s_file_bytes ++ zwX5 cI h_p h_p_pixels u6 u7 u8) := hD
      refine lv_aload_n hx hb dX4_read_104 rfl (lv_at hl 0 rfl) ?_
      refine lv_iload hx hb dX4_read_105 (lv_at hl 4 rfl) ?_
      refine lv_iconst (v := 2) hx hb dX4_read_107 (by decide) ?_
      refine lv_icmp_eq (tgt := 117) hx hb dX4_read_108 (by decide) (fun c10 => ?_) (fun c10 => ?_)
      · replace hf := zif_t hf c10
        exact wX4_read_117 C hN hK hA hT hst hE hX hf hP hD hS (lv_sub hl [0, 1, 2, 3, 4, 5, 6, 7] rfl)
      · replace hf := zif_f hf c10
        refine lv_iload hx hb dX4_read_111 (lv_at hl 4 rfl) ?_
        refine lv_iconst (v := 3) hx hb dX4_read_113 (by decide) ?_
        refine lv_icmp_ne (tgt := 124) hx hb dX4_read_114 (by decide) (fun c11 => ?_) (fun c11 => ?_)
        · replace hf := zif_f hf c11
          refine lv_iconst (v := 0) hx hb dX4_read_124 (by decide) ?_
          exact wX4_read_125 C hN hK hA hT hst hE hX hf hP hD hS (lv_sub hl [0, 1, 2, 3, 4, 5, 6, 7] rfl)
        · replace hf := zif_t hf c11
          exact wX4_read_117 C hN hK hA hT hst hE hX hf hP hD hS (lv_sub hl [0, 1, 2, 3, 4, 5, 6, 7] rfl)
set_option maxHeartbeats 4000000 in
set_option maxRecDepth 100000 in
theorem wX4_read_82 {p : Program} {l : Launch} {e : Env} {s : State} {m : MethodId} {args : Array Value} {below : List Frame} {meth : Method} {c : Code} {D : va_G} {A : Nat → Prop} {Q : State → Prop} {cI : ClassId} {h_t h_s h_s_file h_s_file_bytes h_p h_p_pixels : Nat} {s_file_size : Int32} {s_file_bytes : Nat → Int32} {tg0 : Nat} {zt_depth : Int32} {zt_left : Int32} {zt_isRepeated : Int32} {zt_held : Int32} {zs_place : Int32} {zp_wide : Int32} {zp_high : Int32} {zp_pixels : Nat → Int32} (C : CallFix p m c cX4_read 8 s args wsX4_read RX4) (hN : zN s) (hK : va_K D vwCl [(cI, .int)] s) (hA : ∀ q, s.heap.size ≤ q → A q) (hT : zTh A s) (hst : l.stackTraces = false) (hE : zTEv tg0 p l e (rmX4_read tg0) s m args below meth c cX4_read D A Q (zwX4 cI h_t zt_depth zt_left zt_isRepeated zt_held ++ zwX7 cI h_s h_s_file h_s_file_bytes zs_place s_file_size s_file_bytes ++ zwX5 cI h_p h_p_pixels zp_wide zp_high zp_pixels)) (hX : zTX tg0 p l e (rmX4_read tg0) s m args below meth c D A Q (zwX4 cI h_t zt_depth zt_left zt_isRepeated zt_held ++ zwX7 cI h_s h_s_file h_s_file_bytes zs_place s_file_size s_file_bytes ++ zwX5 cI h_p h_p_pixels zp_wide zp_high zp_pixels)) {t_depth : Int32} {t_left : Int32} {t_isRepeated : Int32} {t_held : Int32} {s_place : Int32} {p_wide : Int32} {p_high : Int32} {p_pixels : Nat → Int32} {l3 : Int32} {l4 : Int32} {l5 : Int32} {l6 : Int32} {l7 : Int32} {H : Heap} {locs : List Loc} {ls : Array Slot} : fX4_read_82 t_depth t_left t_isRepeated t_held s_place s_file_size s_file_bytes p_wide p_high p_pixels l3 l4 l5 l6 l7 = some (tg0, zt_depth, zt_left, zt_isRepeated, zt_held, zs_place, zp_wide, zp_high, zp_pixels) → va_P D vwCl (zwX4 cI h_t t_depth t_left t_isRepeated t_held ++ zwX7 cI h_s h_s_file h_s_file_bytes s_place s_file_size s_file_bytes ++ zwX5 cI h_p h_p_pixels p_wide p_high p_pixels) H → va_D A (zwX4 cI h_t t_depth t_left t_isRepeated t_held ++ zwX7 cI h_s h_s_file h_s_file_bytes s_place s_file_size s_file_bytes ++ zwX5 cI h_p h_p_pixels p_wide p_high p_pixels) → va_S A s.heap H locs → lv_has ls 8 [(0, .ref h_t), (1, .ref h_s), (2, .ref h_p), (3, .int l3), (4, .int l4), (5, .int l5), (6, .int l6), (7, .int l7)] → W p l e (rmX4_read tg0) s m args below meth c H locs 0 0 Q (F0 m 82 ls [.ref h_s]) := by
  intro hf hP hD hS hl
  obtain ⟨hx, hb, hml, hown, hts⟩ := id C
  unfold fX4_read_82 at hf
  refine lv_iconst (v := 0) hx hb dX4_read_82 (by decide) ?_
  exact wX4_read_83 C hN hK hA hT hst hE hX hf hP hD hS (lv_sub hl [0, 1, 2, 3, 4, 5, 6, 7] rfl)
set_option maxHeartbeats 4000000 in
set_option maxRecDepth 100000 in
theorem wX4_read_0 {p : Program} {l : Launch} {e : Env} {s : State} {m : MethodId} {args : Array Value} {below : List Frame} {meth : Method} {c : Code} {D : va_G} {A : Nat → Prop} {Q : State → Prop} {cI : ClassId} {h_t h_s h_s_file h_s_file_bytes h_p h_p_pixels : Nat} {s_file_size : Int32} {s_file_bytes : Nat → Int32} {tg0 : Nat} {zt_depth : Int32} {zt_left : Int32} {zt_isRepeated : Int32} {zt_held : Int32} {zs_place : Int32} {zp_wide : Int32} {zp_high : Int32} {zp_pixels : Nat → Int32} (C : CallFix p m c cX4_read 8 s args wsX4_read RX4) (hN : zN s) (hK : va_K D vwCl [(cI, .int)] s) (hA : ∀ q, s.heap.size ≤ q → A q) (hT : zTh A s) (hst : l.stackTraces = false) (hE : zTEv tg0 p l e (rmX4_read tg0) s m args below meth c cX4_read D A Q (zwX4 cI h_t zt_depth zt_left zt_isRepeated zt_held ++ zwX7 cI h_s h_s_file h_s_file_bytes zs_place s_file_size s_file_bytes ++ zwX5 cI h_p h_p_pixels zp_wide zp_high zp_pixels)) (hX : zTX tg0 p l e (rmX4_read tg0) s m args below meth c D A Q (zwX4 cI h_t zt_depth zt_left zt_isRepeated zt_held ++ zwX7 cI h_s h_s_file h_s_file_bytes zs_place s_file_size s_file_bytes ++ zwX5 cI h_p h_p_pixels zp_wide zp_high zp_pixels)) {t_depth : Int32} {t_left : Int32} {t_isRepeated : Int32} {t_held : Int32} {s_place : Int32} {p_wide : Int32} {p_high : Int32} {p_pixels : Nat → Int32} {H : Heap} {locs : List Loc} {ls : Array Slot} : fX4_read t_depth t_left t_isRepeated t_held s_place s_file_size s_file_bytes p_wide p_high p_pixels = some (tg0, zt_depth, zt_left, zt_isRepeated, zt_held, zs_place, zp_wide, zp_high, zp_pixels) → va_P D vwCl (zwX4 cI h_t t_depth t_left t_isRepeated t_held ++ zwX7 cI h_s h_s_file h_s_file_bytes s_place s_file_size s_file_bytes ++ zwX5 cI h_p h_p_pixels p_wide p_high p_pixels) H → va_D A (zwX4 cI h_t t_depth t_left t_isRepeated t_held ++ zwX7 cI h_s h_s_file h_s_file_bytes s_place s_file_size s_file_bytes ++ zwX5 cI h_p h_p_pixels p_wide p_high p_pixels) → va_S A s.heap H locs → lv_has ls 8 [(0, .ref h_t), (1, .ref h_s), (2, .ref h_p)] → W p l e (rmX4_read tg0) s m args below meth c H locs 0 0 Q (F0 m 0 ls []) := by
  intro hf hP hD hS hl
  obtain ⟨hx, hb, hml, hown, hts⟩ := id C
  unfold fX4_read at hf
  refine lv_aload_n hx hb dX4_read_0 rfl (lv_at hl 1 rfl) ?_
  obtain ⟨tg1, r2, u3, hc4, hf⟩ := zb3_in hf
  have hle := zT_le hf
  refine zcx_i (vx_runV (As := []) (rest := []) C (mX7_next l hst D cI H.size h_s h_s_file h_s_file_bytes s_place s_file_size s_file_bytes tg1 r2 u3 hc4) (qX4_read_X7_next_87 hts) ⟨zPT_blind, va_recv hK hP (ci := 6) (q0 := 1) rfl rfl, zpreT hK hN hT hA hS hP hD [1, 2, 3] rfl rfl⟩ rfl rfl hl.1 rfl (lv_room (Nat.le_of_ble_eq_true rfl)) dX4_read_1 hle) hP hD hS hA [1, 2, 3] [0, 4, 5] [0, 3, 4, 5, 1, 2] (ws' := zwX4 cI h_t t_depth t_left t_isRepeated t_held ++ zwX7 cI h_s h_s_file h_s_file_bytes u3 s_file_size s_file_bytes ++ zwX5 cI h_p h_p_pixels p_wide p_high p_pixels) rfl rfl rfl rfl rfl rfl (fun ht H locs q9 ce hP hD hS hq hv hcl => ?_) (fun ht H locs hP hD hS => ?_)
  · replace hf := zif_f hf ht
    cases hf
    exact hX _ _ _ _ _ _ _ ht hP hD hS hq hv hcl
  · replace hf := zif_t hf ht
    clear hle
    refine lv_istore_n (lv' := [(3, .int r2), (0, .ref h_t), (1, .ref h_s), (2, .ref h_p)]) hx hb dX4_read_4 rfl hl (by decide) rfl (fun ls hl => ?_)
    refine lv_aload_n hx hb dX4_read_5 rfl (lv_at hl 2 rfl) ?_
    refine lv_iconst (v := 1) hx hb dX4_read_6 (by decide) ?_
    obtain ⟨tg5, u6, hc7, hf⟩ := zb2_in hf
    have hle := zT_le hf
    refine zcx_v (vx_runV (As := [.int 1]) (rest := []) C (mX7_pass l hst D cI H.size h_s h_s_file h_s_file_bytes u3 s_file_size s_file_bytes 1 tg5 u6 hc7) (qX4_read_X7_pass_92 hts) ⟨zPT_blind, va_recv hK hP (ci := 6) (q0 := 1) rfl rfl, zpreT hK hN hT hA hS hP hD [1, 2, 3] rfl rfl⟩ rfl rfl hl.1 rfl (lv_room (Nat.le_of_ble_eq_true rfl)) dX4_read_7 hle) hP hD hS hA [1, 2, 3] [0, 4, 5] [0, 3, 4, 5, 1, 2] (ws' := zwX4 cI h_t t_depth t_left t_isRepeated t_held ++ zwX7 cI h_s h_s_file h_s_file_bytes u6 s_file_size s_file_bytes ++ zwX5 cI h_p h_p_pixels p_wide p_high p_pixels) rfl rfl rfl rfl rfl rfl (fun ht H locs q9 ce hP hD hS hq hv hcl => ?_) (fun ht H locs hP hD hS => ?_)
    · replace hf := zif_f hf ht
      cases hf
      exact hX _ _ _ _ _ _ _ ht hP hD hS hq hv hcl
    · replace hf := zif_t hf ht
      clear hle
      refine lv_aload_n hx hb dX4_read_10 rfl (lv_at hl 2 rfl) ?_
      obtain ⟨tg8, r9, u10, hc11, hf⟩ := zb3_in hf
      have hle := zT_le hf
      refine zcx_i (vx_runV (As := []) (rest := []) C (mX7_next l hst D cI H.size h_s h_s_file h_s_file_bytes u6 s_file_size s_file_bytes tg8 r9 u10 hc11) (qX4_read_X7_next_87 hts) ⟨zPT_blind, va_recv hK hP (ci := 6) (q0 := 1) rfl rfl, zpreT hK hN hT hA hS hP hD [1, 2, 3] rfl rfl⟩ rfl rfl hl.1 rfl (lv_room (Nat.le_of_ble_eq_true rfl)) dX4_read_11 hle) hP hD hS hA [1, 2, 3] [0, 4, 5] [0, 3, 4, 5, 1, 2] (ws' := zwX4 cI h_t t_depth t_left t_isRepeated t_held ++ zwX7 cI h_s h_s_file h_s_file_bytes u10 s_file_size s_file_bytes ++ zwX5 cI h_p h_p_pixels p_wide p_high p_pixels) rfl rfl rfl rfl rfl rfl (fun ht H locs q9 ce hP hD hS hq hv hcl => ?_) (fun ht H locs hP hD hS => ?_)
      · replace hf := zif_f hf ht
        cases hf
        exact hX _ _ _ _ _ _ _ ht hP hD hS hq hv hcl
      · replace hf := zif_t hf ht
        clear hle
        refine lv_istore (lv' := [(4, .int r9), (3, .int r2), (0, .ref h_t), (1, .ref h_s), (2, .ref h_p)]) hx hb dX4_read_14 hl (by decide) rfl (fun ls hl => ?_)
        refine lv_aload_n hx hb dX4_read_16 rfl (lv_at hl 3 rfl) ?_
        refine lv_bipush (v := 9) hx hb dX4_read_17 (by decide) ?_
        obtain ⟨tg12, u13, hc14, hf⟩ := zb2_in hf
        have hle := zT_le hf
        refine zcx_v (vx_runV (As := [.int 9]) (rest := []) C (mX7_pass l hst D cI H.size h_s h_s_file h_s_file_bytes u10 s_file_size s_file_bytes 9 tg12 u13 hc14) (qX4_read_X7_pass_92 hts) ⟨zPT_blind, va_recv hK hP (ci := 6) (q0 := 1) rfl rfl, zpreT hK hN hT hA hS hP hD [1, 2, 3] rfl rfl⟩ rfl rfl hl.1 rfl (lv_room (Nat.le_of_ble_eq_true rfl)) dX4_read_19 hle) hP hD hS hA [1, 2, 3] [0, 4, 5] [0, 3, 4, 5, 1, 2] (ws' := zwX4 cI h_t t_depth t_left t_isRepeated t_held ++ zwX7 cI h_s h_s_file h_s_file_bytes u13 s_file_size s_file_bytes ++ zwX5 cI h_p h_p_pixels p_wide p_high p_pixels) rfl rfl rfl rfl rfl rfl (fun ht H locs q9 ce hP hD hS hq hv hcl => ?_) (fun ht H locs hP hD hS => ?_)
        · replace hf := zif_f hf ht
          cases hf
          exact hX _ _ _ _ _ _ _ ht hP hD hS hq hv hcl
        · replace hf := zif_t hf ht
          clear hle
          refine lv_aload_n hx hb dX4_read_22 rfl (lv_at hl 3 rfl) ?_
          refine lv_aload_n hx hb dX4_read_23 rfl (lv_at hl 3 rfl) ?_
          refine lv_iconst (v := 2) hx hb dX4_read_24 (by decide) ?_
          obtain ⟨tg15, r16, u17, hc18, hf⟩ := zb3_in hf
          have hle := zT_le hf
          refine zcx_i (vx_runV (As := [.int 2]) (rest := [.ref h_s]) C (mX7_little l hst D cI H.size h_s h_s_file h_s_file_bytes u13 s_file_size s_file_bytes 2 tg15 r16 u17 hc18) (qX4_read_X7_little_95 hts) ⟨zPT_blind, va_recv hK hP (ci := 6) (q0 := 1) rfl rfl, zpreT hK hN hT hA hS hP hD [1, 2, 3] rfl rfl⟩ rfl rfl hl.1 rfl (lv_room (Nat.le_of_ble_eq_true rfl)) dX4_read_25 hle) hP hD hS hA [1, 2, 3] [0, 4, 5] [0, 3, 4, 5, 1, 2] (ws' := zwX4 cI h_t t_depth t_left t_isRepeated t_held ++ zwX7 cI h_s h_s_file h_s_file_bytes u17 s_file_size s_file_bytes ++ zwX5 cI h_p h_p_pixels p_wide p_high p_pixels) rfl rfl rfl rfl rfl rfl (fun ht H locs q9 ce hP hD hS hq hv hcl => ?_) (fun ht H locs hP hD hS => ?_)
          · replace hf := zif_f hf ht
            cases hf
            exact hX _ _ _ _ _ _ _ ht hP hD hS hq hv hcl
          · replace hf := zif_t hf ht
            clear hle
            obtain ⟨tg19, r20, hc21, hf⟩ := zb2_in hf
            have hle := zT_le hf
            refine zcx_i (vx_runV (As := [.int r16]) (rest := []) C (mX7_needSide l hst D cI H.size h_s h_s_file h_s_file_bytes u17 s_file_size s_file_bytes r16 tg19 r20 hc21) (qX4_read_X7_needSide_98 hts) ⟨zPT_blind, va_recv hK hP (ci := 6) (q0 := 1) rfl rfl, zpreT hK hN hT hA hS hP hD [1, 2, 3] rfl rfl⟩ rfl rfl hl.1 rfl (lv_room (Nat.le_of_ble_eq_true rfl)) dX4_read_28 hle) hP hD hS hA [1, 2, 3] [0, 4, 5] [0, 3, 4, 5, 1, 2] (ws' := zwX4 cI h_t t_depth t_left t_isRepeated t_held ++ zwX7 cI h_s h_s_file h_s_file_bytes u17 s_file_size s_file_bytes ++ zwX5 cI h_p h_p_pixels p_wide p_high p_pixels) rfl rfl rfl rfl rfl rfl (fun ht H locs q9 ce hP hD hS hq hv hcl => ?_) (fun ht H locs hP hD hS => ?_)
            · replace hf := zif_f hf ht
              cases hf
              exact hX _ _ _ _ _ _ _ ht hP hD hS hq hv hcl
            · replace hf := zif_t hf ht
              clear hle
              refine lv_istore (lv' := [(5, .int r20), (4, .int r9), (3, .int r2), (0, .ref h_t), (1, .ref h_s), (2, .ref h_p)]) hx hb dX4_read_31 hl (by decide) rfl (fun ls hl => ?_)
              refine lv_aload_n hx hb dX4_read_33 rfl (lv_at hl 4 rfl) ?_
              refine lv_aload_n hx hb dX4_read_34 rfl (lv_at hl 4 rfl) ?_
              refine lv_iconst (v := 2) hx hb dX4_read_35 (by decide) ?_
              obtain ⟨tg22, r23, u24, hc25, hf⟩ := zb3_in hf
              have hle := zT_le hf
              refine zcx_i (vx_runV (As := [.int 2]) (rest := [.ref h_s]) C (mX7_little l hst D cI H.size h_s h_s_file h_s_file_bytes u17 s_file_size s_file_bytes 2 tg22 r23 u24 hc25) (qX4_read_X7_little_95 hts) ⟨zPT_blind, va_recv hK hP (ci := 6) (q0 := 1) rfl rfl, zpreT hK hN hT hA hS hP hD [1, 2, 3] rfl rfl⟩ rfl rfl hl.1 rfl (lv_room (Nat.le_of_ble_eq_true rfl)) dX4_read_36 hle) hP hD hS hA [1, 2, 3] [0, 4, 5] [0, 3, 4, 5, 1, 2] (ws' := zwX4 cI h_t t_depth t_left t_isRepeated t_held ++ zwX7 cI h_s h_s_file h_s_file_bytes u24 s_file_size s_file_bytes ++ zwX5 cI h_p h_p_pixels p_wide p_high p_pixels) rfl rfl rfl rfl rfl rfl (fun ht H locs q9 ce hP hD hS hq hv hcl => ?_) (fun ht H locs hP hD hS => ?_)
              · replace hf := zif_f hf ht
                cases hf
                exact hX _ _ _ _ _ _ _ ht hP hD hS hq hv hcl
              · replace hf := zif_t hf ht
                clear hle
                obtain ⟨tg26, r27, hc28, hf⟩ := zb2_in hf
                have hle := zT_le hf
                refine zcx_i (vx_runV (As := [.int r23]) (rest := []) C (mX7_needSide l hst D cI H.size h_s h_s_file h_s_file_bytes u24 s_file_size s_file_bytes r23 tg26 r27 hc28) (qX4_read_X7_needSide_98 hts) ⟨zPT_blind, va_recv hK hP (ci := 6) (q0 := 1) rfl rfl, zpreT hK hN hT hA hS hP hD [1, 2, 3] rfl rfl⟩ rfl rfl hl.1 rfl (lv_room (Nat.le_of_ble_eq_true rfl)) dX4_read_39 hle) hP hD hS hA [1, 2, 3] [0, 4, 5] [0, 3, 4, 5, 1, 2] (ws' := zwX4 cI h_t t_depth t_left t_isRepeated t_held ++ zwX7 cI h_s h_s_file h_s_file_bytes u24 s_file_size s_file_bytes ++ zwX5 cI h_p h_p_pixels p_wide p_high p_pixels) rfl rfl rfl rfl rfl rfl (fun ht H locs q9 ce hP hD hS hq hv hcl => ?_) (fun ht H locs hP hD hS => ?_)
                · replace hf := zif_f hf ht
                  cases hf
                  exact hX _ _ _ _ _ _ _ ht hP hD hS hq hv hcl
                · replace hf := zif_t hf ht
                  clear hle
                  refine lv_istore (lv' := [(6, .int r27), (5, .int r20), (4, .int r9), (3, .int r2), (0, .ref h_t), (1, .ref h_s), (2, .ref h_p)]) hx hb dX4_read_42 hl (by decide) rfl (fun ls hl => ?_)
                  refine lv_aload_n hx hb dX4_read_44 rfl (lv_at hl 4 rfl) ?_
                  refine lv_aload_n hx hb dX4_read_45 rfl (lv_at hl 5 rfl) ?_
                  obtain ⟨tg29, r30, u31, hc32, hf⟩ := zb3_in hf
                  have hle := zT_le hf
                  refine zcx_i (vx_runV (As := []) (rest := [.ref h_t]) C (mX7_next l hst D cI H.size h_s h_s_file h_s_file_bytes u24 s_file_size s_file_bytes tg29 r30 u31 hc32) (qX4_read_X7_next_87 hts) ⟨zPT_blind, va_recv hK hP (ci := 6) (q0 := 1) rfl rfl, zpreT hK hN hT hA hS hP hD [1, 2, 3] rfl rfl⟩ rfl rfl hl.1 rfl (lv_room (Nat.le_of_ble_eq_true rfl)) dX4_read_46 hle) hP hD hS hA [1, 2, 3] [0, 4, 5] [0, 3, 4, 5, 1, 2] (ws' := zwX4 cI h_t t_depth t_left t_isRepeated t_held ++ zwX7 cI h_s h_s_file h_s_file_bytes u31 s_file_size s_file_bytes ++ zwX5 cI h_p h_p_pixels p_wide p_high p_pixels) rfl rfl rfl rfl rfl rfl (fun ht H locs q9 ce hP hD hS hq hv hcl => ?_) (fun ht H locs hP hD hS => ?_)
                  · replace hf := zif_f hf ht
                    cases hf
                    exact hX _ _ _ _ _ _ _ ht hP hD hS hq hv hcl
                  · replace hf := zif_t hf ht
                    clear hle
                    refine va_put (D := D) (ci := 3) (v := .int r30) (ty := .int) (C := RX4) (T := TX4) (N := 4) hx hb hts iX4_read_X4 tyX4 tyX4_ok nmX4 hown hK hP hD hS 0 rfl rfl 0 (by decide) (kX4_read_28 hts) (fun _ h9 => h9) rfl (by decide +kernel) rfl rfl (Nat.le_of_ble_eq_true rfl) dX4_read_49 (fun H locs hP hD hS => ?_)
                    replace hP : va_P D vwCl (zwX4 cI h_t r30 t_left t_isRepeated t_held ++ zwX7 cI h_s h_s_file h_s_file_bytes u31 s_file_size s_file_bytes ++ zwX5 cI h_p h_p_pixels p_wide p_high p_pixels) H := hP
                    replace hD : va_D A (zwX4 cI h_t r30 t_left t_isRepeated t_held ++ zwX7 cI h_s h_s_file h_s_file_bytes u31 s_file_size s_file_bytes ++ zwX5 cI h_p h_p_pixels p_wide p_high p_pixels) := hD
                    refine lv_aload_n hx hb dX4_read_52 rfl (lv_at hl 5 rfl) ?_
                    obtain ⟨tg33, r34, u35, hc36, hf⟩ := zb3_in hf
                    have hle := zT_le hf
                    refine zcx_i (vx_runV (As := []) (rest := []) C (mX7_next l hst D cI H.size h_s h_s_file h_s_file_bytes u31 s_file_size s_file_bytes tg33 r34 u35 hc36) (qX4_read_X7_next_87 hts) ⟨zPT_blind, va_recv hK hP (ci := 6) (q0 := 1) rfl rfl, zpreT hK hN hT hA hS hP hD [1, 2, 3] rfl rfl⟩ rfl rfl hl.1 rfl (lv_room (Nat.le_of_ble_eq_true rfl)) dX4_read_53 hle) hP hD hS hA [1, 2, 3] [0, 4, 5] [0, 3, 4, 5, 1, 2] (ws' := zwX4 cI h_t r30 t_left t_isRepeated t_held ++ zwX7 cI h_s h_s_file h_s_file_bytes u35 s_file_size s_file_bytes ++ zwX5 cI h_p h_p_pixels p_wide p_high p_pixels) rfl rfl rfl rfl rfl rfl (fun ht H locs q9 ce hP hD hS hq hv hcl => ?_) (fun ht H locs hP hD hS => ?_)
                    · replace hf := zif_f hf ht
                      cases hf
                      exact hX _ _ _ _ _ _ _ ht hP hD hS hq hv hcl
                    · replace hf := zif_t hf ht
                      clear hle
                      refine lv_istore (lv' := [(7, .int r34), (6, .int r27), (5, .int r20), (4, .int r9), (3, .int r2), (0, .ref h_t), (1, .ref h_s), (2, .ref h_p)]) hx hb dX4_read_56 hl (by decide) rfl (fun ls hl => ?_)
                      refine lv_aload_n hx hb dX4_read_58 rfl (lv_at hl 6 rfl) ?_
                      refine lv_iload hx hb dX4_read_59 (lv_at hl 0 rfl) ?_
                      refine lv_bipush (v := 15) hx hb dX4_read_61 (by decide) ?_
                      refine lv_iand hx hb dX4_read_63 ?_
                      refine lv_aload_n hx hb dX4_read_64 rfl (lv_at hl 5 rfl) ?_
                      obtain ⟨r37, hc38, hf⟩ := zb1_in hf
                      refine zc_i (va_runV (As := []) (rest := [.int (r34 &&& 15), .ref h_s]) C (mX4_alphaBits l D cI H.size h_t r30 t_left t_isRepeated t_held r37 hc38) (qX4_read_X4_alphaBits_49 hts) ⟨zP_blind, va_recv hK hP (ci := 3) (q0 := 0) rfl rfl, zpre hK hN hP hD [0] rfl rfl⟩ rfl rfl hl.1 rfl (lv_room (Nat.le_of_ble_eq_true rfl)) dX4_read_65 ⟨Nat.zero_le _, Nat.zero_le _⟩) hP hD hS hA [0] [1, 2, 3, 4, 5] [5, 0, 1, 2, 3, 4] (ws' := zwX4 cI h_t r30 t_left t_isRepeated t_held ++ zwX7 cI h_s h_s_file h_s_file_bytes u35 s_file_size s_file_bytes ++ zwX5 cI h_p h_p_pixels p_wide p_high p_pixels) rfl rfl rfl rfl rfl rfl (fun H locs hP hD hS => ?_)
                      refine lv_icmp_ne (tgt := 82) hx hb dX4_read_68 (by decide) (fun c39 => ?_) (fun c39 => ?_)
                      · replace hf := zif_f hf c39
                        exact wX4_read_82 C hN hK hA hT hst hE hX hf hP hD hS (lv_sub hl [5, 6, 7, 4, 3, 2, 1, 0] rfl)
                      · replace hf := zif_t hf c39
                        refine lv_iload hx hb dX4_read_71 (lv_at hl 0 rfl) ?_
                        refine lv_bipush (v := 64) hx hb dX4_read_73 (by decide) ?_
                        refine lv_icmp_ge (tgt := 82) hx hb dX4_read_75 (by decide) (fun c40 => ?_) (fun c40 => ?_)
                        · replace hf := zif_t hf c40
                          exact wX4_read_82 C hN hK hA hT hst hE hX hf hP hD hS (lv_sub hl [5, 6, 7, 4, 3, 2, 1, 0] rfl)
                        · replace hf := zif_f hf c40
                          refine lv_iconst (v := 1) hx hb dX4_read_78 (by decide) ?_
                          refine lv_goto (tgt := 83) hx hb dX4_read_79 (by decide) ?_
                          exact wX4_read_83 C hN hK hA hT hst hE hX hf hP hD hS (lv_sub hl [5, 6, 7, 4, 3, 2, 1, 0] rfl)
set_option maxHeartbeats 4000000 in
set_option maxRecDepth 100000 in
theorem mX4_read (l : Launch) (hst : l.stackTraces = false) (D : va_G) (cI : ClassId) (sz : Nat) (h_t h_s h_s_file h_s_file_bytes h_p h_p_pixels : Nat) (t_depth : Int32) (t_left : Int32) (t_isRepeated : Int32) (t_held : Int32) (s_place : Int32) (s_file_size : Int32) (s_file_bytes : Nat → Int32) (p_wide : Int32) (p_high : Int32) (p_pixels : Nat → Int32) (tg0 : Nat) (zt_depth : Int32) (zt_left : Int32) (zt_isRepeated : Int32) (zt_held : Int32) (zs_place : Int32) (zp_wide : Int32) (zp_high : Int32) (zp_pixels : Nat → Int32) (hf : fX4_read t_depth t_left t_isRepeated t_held s_place s_file_size s_file_bytes p_wide p_high p_pixels = some (tg0, zt_depth, zt_left, zt_isRepeated, zt_held, zs_place, zp_wide, zp_high, zp_pixels)) : vx_Met l yX4_read wsX4_read (rmX4_read tg0) (va_Pc [.ref h_t, .ref h_s, .ref h_p] (zPT D [(cI, .int)] (zwX4 cI h_t t_depth t_left t_isRepeated t_held ++ zwX7 cI h_s h_s_file h_s_file_bytes s_place s_file_size s_file_bytes ++ zwX5 cI h_p h_p_pixels p_wide p_high p_pixels) sz)) (zQTv D (zwX4 cI h_t t_depth t_left t_isRepeated t_held ++ zwX7 cI h_s h_s_file h_s_file_bytes s_place s_file_size s_file_bytes ++ zwX5 cI h_p h_p_pixels p_wide p_high p_pixels) sz tg0 (zwX4 cI h_t zt_depth zt_left zt_isRepeated zt_held ++ zwX7 cI h_s h_s_file h_s_file_bytes zs_place s_file_size s_file_bytes ++ zwX5 cI h_p h_p_pixels zp_wide zp_high zp_pixels)) (zXT D (zwX4 cI h_t t_depth t_left t_isRepeated t_held ++ zwX7 cI h_s h_s_file h_s_file_bytes s_place s_file_size s_file_bytes ++ zwX5 cI h_p h_p_pixels p_wide p_high p_pixels) sz tg0 (zwX4 cI h_t zt_depth zt_left zt_isRepeated zt_held ++ zwX7 cI h_s h_s_file h_s_file_bytes zs_place s_file_size s_file_bytes ++ zwX5 cI h_p h_p_pixels zp_wide zp_high zp_pixels)) (zc tg0) (zs tg0) (va_A (zwX4 cI h_t t_depth t_left t_isRepeated t_held ++ zwX7 cI h_s h_s_file h_s_file_bytes s_place s_file_size s_file_bytes ++ zwX5 cI h_p h_p_pixels p_wide p_high p_pixels) sz) := by
  refine vx_ofW (cc := cX4_read) (maxL := 8) (ret := none) (by decide) rfl ?_
  intro p e s m args below meth c s₁ B hml htab hv
  obtain ⟨rfl, ⟨hsz, hP, hK, hD0, hN⟩, hT⟩ := hv
  subst hsz
  have C : CallFix p m c cX4_read 8 s [.ref h_t, .ref h_s, .ref h_p].toArray wsX4_read RX4 := ⟨B.exec, B.bytes, hml, findClass_of_methodNamed B.named, atoms_spec (ws := wsX4_read) B.pre⟩
  have hl := lv_entry ([.ref h_t, .ref h_s, .ref h_p]) (n := 8) (Nat.le_of_ble_eq_true rfl)
  rw [lg_entry_eq]
  exact wX4_read_0 (A := va_A (zwX4 cI h_t t_depth t_left t_isRepeated t_held ++ zwX7 cI h_s h_s_file h_s_file_bytes s_place s_file_size s_file_bytes ++ zwX5 cI h_p h_p_pixels p_wide p_high p_pixels) s.heap.size) C hN hK (fun q h => Or.inr h) hT hst (fun h0 H locs pc ls d hP hD hS => zendT_v C.1 C.2.1 B.returns B.notSynchronized h0 d hP hD hS) (fun H locs pc ls rest q9 ce h0 hP hD hS hq hv hcl => zoutT htab B.notSynchronized h0 hP hD hS hq hv hcl) hf hP hD0.self va_S.rf hl
