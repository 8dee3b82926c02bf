def fX9_add (t_size : Int32) (t_file : Nat → Int32) (v0 : Int32) : Option (Int32 × (Nat → Int32)) :=
  zwr t_file 800 t_size (v0 &&& 255) fun g1 =>
  zlet (t_size + 1) fun x3 =>
  some (x3, g1)
def fX9_addTwo (t_size : Int32) (t_file : Nat → Int32) (v0 : Int32) (v1 : Int32) : Option (Int32 × (Nat → Int32)) :=
  zb2 (fX9_add t_size t_file v0) fun u1 u2 =>
  zb2 (fX9_add u1 u2 v1) fun u4 u5 =>
  some (u4, u5)
def fX9_little_2 : Nat → Int32 → (Nat → Int32) → Int32 → Int32 → Int32 → Option (Int32 × (Nat → Int32))
  | 0, _, _, _, _, _ => none
  | n + 1, t_size, t_file, l1, l2, l3 =>
    if l2 ≤ l3 then
      some (t_size, t_file)
    else
      zb2 (fX9_add t_size t_file (zshr l1 (8 * l3))) fun u2 u3 =>
      zlet (l3 + 1) fun x5 =>
      (fX9_little_2 n) u2 u3 l1 l2 x5
theorem fX9_little_2_s (n : Nat) (t_size : Int32) (t_file : Nat → Int32) (l1 : Int32) (l2 : Int32) (l3 : Int32) : fX9_little_2 (n + 1) t_size t_file l1 l2 l3 =
    if l2 ≤ l3 then
      some (t_size, t_file)
    else
      zb2 (fX9_add t_size t_file (zshr l1 (8 * l3))) fun u2 u3 =>
      zlet (l3 + 1) fun x5 =>
      (fX9_little_2 n) u2 u3 l1 l2 x5 := rfl
def fX9_little (t_size : Int32) (t_file : Nat → Int32) (v0 : Int32) (v1 : Int32) : Option (Int32 × (Nat → Int32)) :=
  fX9_little_2 1000 t_size t_file v0 v1 0
def fX9_big_2 : Nat → Int32 → (Nat → Int32) → Int32 → Int32 → Option (Int32 × (Nat → Int32))
  | 0, _, _, _, _ => none
  | n + 1, t_size, t_file, l1, l2 =>
    if l2 < 0 then
      some (t_size, t_file)
    else
      zb2 (fX9_add t_size t_file (zshr l1 (8 * l2))) fun u2 u3 =>
      zlet (l2 + (-1)) fun x5 =>
      (fX9_big_2 n) u2 u3 l1 x5
theorem fX9_big_2_s (n : Nat) (t_size : Int32) (t_file : Nat → Int32) (l1 : Int32) (l2 : Int32) : fX9_big_2 (n + 1) t_size t_file l1 l2 =
    if l2 < 0 then
      some (t_size, t_file)
    else
      zb2 (fX9_add t_size t_file (zshr l1 (8 * l2))) fun u2 u3 =>
      zlet (l2 + (-1)) fun x5 =>
      (fX9_big_2 n) u2 u3 l1 x5 := rfl
def fX9_big (t_size : Int32) (t_file : Nat → Int32) (v0 : Int32) : Option (Int32 × (Nat → Int32)) :=
  fX9_big_2 1000 t_size t_file v0 3
def fX9_backwards (t_wide : Int32) (t_size : Int32) (t_now : Nat → Int32) (t_file : Nat → Int32) (v0 : Int32) : Option (Int32 × (Nat → Int32)) :=
  zb1 (fX9_channel t_wide t_now v0 2) fun r1 =>
  zb2 (fX9_add t_size t_file r1) fun u3 u4 =>
  zb1 (fX9_channel t_wide t_now v0 1) fun r6 =>
  zb2 (fX9_add u3 u4 r6) fun u8 u9 =>
  zb1 (fX9_channel t_wide t_now v0 0) fun r11 =>
  zb2 (fX9_add u8 u9 r11) fun u13 u14 =>
  some (u13, u14)
def fX9_signed (v0 : Int32) : Option (Int32) :=
  zlet (v0 &&& 255) fun x1 =>
  if x1 ≤ 127 then
    some x1
  else
    some (x1 - 256)
def fX9_placeOf (v0 : Int32) (v1 : Int32) (v2 : Int32) (v3 : Int32) : Option (Int32) :=
  some (zrem ((((3 * v0) + (5 * v1)) + (7 * v2)) + (11 * v3)) 64)
def fX9_differs_290 (rc278 : Int32 → Int32 → (Nat → Int32) → (Nat → Int32) → Int32 → Int32 → Int32 → Option (Int32 × (Nat → Int32))) (t_wide : Int32) (t_size : Int32) (t_now : Nat → Int32) (t_file : Nat → Int32) (l1 : Int32) (l7 : Int32) (l10 : Int32) (k0 : Int32) (k1 : Int32) : Option (Int32 × (Nat → Int32)) :=
  if k1 ≤ k0 then
    some (t_size, t_file)
  else
    zb1 (fX9_channel t_wide t_now l1 l10) fun r2 =>
    zb2 (fX9_add t_size t_file r2) fun u4 u5 =>
    zlet (l10 + 1) fun x7 =>
    rc278 t_wide u4 t_now u5 l1 l7 x7
def fX9_differs_278 : Nat → Int32 → Int32 → (Nat → Int32) → (Nat → Int32) → Int32 → Int32 → Int32 → Option (Int32 × (Nat → Int32))
  | 0, _, _, _, _, _, _, _ => none
  | n + 1, t_wide, t_size, t_now, t_file, l1, l7, l10 =>
    if l7 = 0 then
      fX9_differs_290 (fX9_differs_278 n) t_wide t_size t_now t_file l1 l7 l10 l10 4
    else
      fX9_differs_290 (fX9_differs_278 n) t_wide t_size t_now t_file l1 l7 l10 l10 3
theorem fX9_differs_278_s (n : Nat) (t_wide : Int32) (t_size : Int32) (t_now : Nat → Int32) (t_file : Nat → Int32) (l1 : Int32) (l7 : Int32) (l10 : Int32) : fX9_differs_278 (n + 1) t_wide t_size t_now t_file l1 l7 l10 =
    if l7 = 0 then
      fX9_differs_290 (fX9_differs_278 n) t_wide t_size t_now t_file l1 l7 l10 l10 4
    else
      fX9_differs_290 (fX9_differs_278 n) t_wide t_size t_now t_file l1 l7 l10 l10 3 := rfl
def fX9_differs_272 (t_wide : Int32) (t_size : Int32) (t_now : Nat → Int32) (t_file : Nat → Int32) (l1 : Int32) (l7 : Int32) (k1 : Int32) : Option (Int32 × (Nat → Int32)) :=
  zb2 (fX9_add t_size t_file k1) fun u1 u2 =>
  fX9_differs_278 1000 t_wide u1 t_now u2 l1 l7 0
def fX9_differs_257 (t_wide : Int32) (t_size : Int32) (t_now : Nat → Int32) (t_file : Nat → Int32) (l1 : Int32) (l7 : Int32) : Option (Int32 × (Nat → Int32)) :=
  if l7 = 0 then
    fX9_differs_272 t_wide t_size t_now t_file l1 l7 255
  else
    fX9_differs_272 t_wide t_size t_now t_file l1 l7 254
def fX9_differs_217 (t_wide : Int32) (t_size : Int32) (t_now : Nat → Int32) (t_file : Nat → Int32) (l1 : Int32) (l3 : Int32) (l5 : Int32) (l6 : Int32) (l7 : Int32) (l9 : Int32) : Option (Int32 × (Nat → Int32)) :=
  if l7 = 0 then
    fX9_differs_257 t_wide t_size t_now t_file l1 l7
  else
    if l9 = 0 then
      fX9_differs_257 t_wide t_size t_now t_file l1 l7
    else
      zb2 (fX9_add t_size t_file (160 + l3)) fun u3 u4 =>
      zb2 (fX9_add u3 u4 (((16 * (l5 + 8)) + l6) + 8)) fun u6 u7 =>
      some (u6, u7)
def fX9_differs_178 (t_wide : Int32) (t_size : Int32) (t_now : Nat → Int32) (t_file : Nat → Int32) (l1 : Int32) (l2 : Int32) (l3 : Int32) (l4 : Int32) (l5 : Int32) (l6 : Int32) (l7 : Int32) (l8 : Int32) (k0 : Int32) : Option (Int32 × (Nat → Int32)) :=
  if l7 = 0 then
    fX9_differs_217 t_wide t_size t_now t_file l1 l3 l5 l6 l7 k0
  else
    if l8 = 0 then
      fX9_differs_217 t_wide t_size t_now t_file l1 l3 l5 l6 l7 k0
    else
      zb2 (fX9_add t_size t_file ((((64 + (16 * (l2 + 2))) + (4 * (l3 + 2))) + l4) + 2)) fun u3 u4 =>
      some (u3, u4)
def fX9_differs_177 (t_wide : Int32) (t_size : Int32) (t_now : Nat → Int32) (t_file : Nat → Int32) (l1 : Int32) (l2 : Int32) (l3 : Int32) (l4 : Int32) (l5 : Int32) (l6 : Int32) (l7 : Int32) (l8 : Int32) : Option (Int32 × (Nat → Int32)) :=
  fX9_differs_178 t_wide t_size t_now t_file l1 l2 l3 l4 l5 l6 l7 l8 0
def fX9_differs_131 (t_wide : Int32) (t_size : Int32) (t_now : Nat → Int32) (t_file : Nat → Int32) (l1 : Int32) (l2 : Int32) (l3 : Int32) (l4 : Int32) (l5 : Int32) (l6 : Int32) (l7 : Int32) (k0 : Int32) : Option (Int32 × (Nat → Int32)) :=
  if l3 < (-32) then
    fX9_differs_177 t_wide t_size t_now t_file l1 l2 l3 l4 l5 l6 l7 k0
  else
    if 31 < l3 then
      fX9_differs_177 t_wide t_size t_now t_file l1 l2 l3 l4 l5 l6 l7 k0
    else
      if l5 < (-8) then
        fX9_differs_177 t_wide t_size t_now t_file l1 l2 l3 l4 l5 l6 l7 k0
      else
        if 7 < l5 then
          fX9_differs_177 t_wide t_size t_now t_file l1 l2 l3 l4 l5 l6 l7 k0
        else
          if l6 < (-8) then
            fX9_differs_177 t_wide t_size t_now t_file l1 l2 l3 l4 l5 l6 l7 k0
          else
            if 7 < l6 then
              fX9_differs_177 t_wide t_size t_now t_file l1 l2 l3 l4 l5 l6 l7 k0
            else
              fX9_differs_178 t_wide t_size t_now t_file l1 l2 l3 l4 l5 l6 l7 k0 1
def fX9_differs_130 (t_wide : Int32) (t_size : Int32) (t_now : Nat → Int32) (t_file : Nat → Int32) (l1 : Int32) (l2 : Int32) (l3 : Int32) (l4 : Int32) (l5 : Int32) (l6 : Int32) (l7 : Int32) : Option (Int32 × (Nat → Int32)) :=
  fX9_differs_131 t_wide t_size t_now t_file l1 l2 l3 l4 l5 l6 l7 0
def fX9_differs_89 (t_wide : Int32) (t_size : Int32) (t_now : Nat → Int32) (t_file : Nat → Int32) (l1 : Int32) (l2 : Int32) (l3 : Int32) (l4 : Int32) (l5 : Int32) (l6 : Int32) (k0 : Int32) : Option (Int32 × (Nat → Int32)) :=
  if l2 < (-2) then
    fX9_differs_130 t_wide t_size t_now t_file l1 l2 l3 l4 l5 l6 k0
  else
    if 1 < l2 then
      fX9_differs_130 t_wide t_size t_now t_file l1 l2 l3 l4 l5 l6 k0
    else
      if l3 < (-2) then
        fX9_differs_130 t_wide t_size t_now t_file l1 l2 l3 l4 l5 l6 k0
      else
        if 1 < l3 then
          fX9_differs_130 t_wide t_size t_now t_file l1 l2 l3 l4 l5 l6 k0
        else
          if l4 < (-2) then
            fX9_differs_130 t_wide t_size t_now t_file l1 l2 l3 l4 l5 l6 k0
          else
            if 1 < l4 then
              fX9_differs_130 t_wide t_size t_now t_file l1 l2 l3 l4 l5 l6 k0
            else
              fX9_differs_131 t_wide t_size t_now t_file l1 l2 l3 l4 l5 l6 k0 1
def fX9_differs (t_wide : Int32) (t_size : Int32) (t_now : Nat → Int32) (t_file : Nat → Int32) (t_last : Nat → Int32) (v0 : Int32) : Option (Int32 × (Nat → Int32)) :=
  zb1 (fX9_channel t_wide t_now v0 0) fun r1 =>
  zrd t_last 4 0 fun x3 =>
  zb1 (fX9_signed (r1 - x3)) fun r5 =>
  zb1 (fX9_channel t_wide t_now v0 1) fun r7 =>
  zrd t_last 4 1 fun x9 =>
  zb1 (fX9_signed (r7 - x9)) fun r11 =>
  zb1 (fX9_channel t_wide t_now v0 2) fun r13 =>
  zrd t_last 4 2 fun x15 =>
  zb1 (fX9_signed (r13 - x15)) fun r17 =>
  zb1 (fX9_signed (r5 - r11)) fun r19 =>
  zb1 (fX9_signed (r17 - r11)) fun r21 =>
  zb1 (fX9_channel t_wide t_now v0 3) fun r23 =>
  zrd t_last 4 3 fun x25 =>
  if r23 = x25 then
    fX9_differs_89 t_wide t_size t_now t_file v0 r5 r11 r17 r19 r21 1
  else
    fX9_differs_89 t_wide t_size t_now t_file v0 r5 r11 r17 r19 r21 0
def fX9_clearTable_46 (rc24 : (Nat → Int32) → (Nat → Int32) → Int32 → Option ((Nat → Int32) × (Nat → Int32))) (t_table : Nat → Int32) (t_last : Nat → Int32) (l1 : Int32) (k1 : Int32) (k2 : Int32) : Option ((Nat → Int32) × (Nat → Int32)) :=
  zwr t_last 4 k1 k2 fun g1 =>
  zlet (l1 + 1) fun x3 =>
  rc24 t_table g1 x3
def fX9_clearTable_24 : Nat → (Nat → Int32) → (Nat → Int32) → Int32 → Option ((Nat → Int32) × (Nat → Int32))
  | 0, _, _, _ => none
  | n + 1, t_table, t_last, l1 =>
    if 4 ≤ l1 then
      some (t_table, t_last)
    else
      if l1 = 3 then
        fX9_clearTable_46 (fX9_clearTable_24 n) t_table t_last l1 l1 255
      else
        fX9_clearTable_46 (fX9_clearTable_24 n) t_table t_last l1 l1 0
theorem fX9_clearTable_24_s (n : Nat) (t_table : Nat → Int32) (t_last : Nat → Int32) (l1 : Int32) : fX9_clearTable_24 (n + 1) t_table t_last l1 =
    if 4 ≤ l1 then
      some (t_table, t_last)
    else
      if l1 = 3 then
        fX9_clearTable_46 (fX9_clearTable_24 n) t_table t_last l1 l1 255
      else
        fX9_clearTable_46 (fX9_clearTable_24 n) t_table t_last l1 l1 0 := rfl
def fX9_clearTable_2 : Nat → (Nat → Int32) → (Nat → Int32) → Int32 → Option ((Nat → Int32) × (Nat → Int32))
  | 0, _, _, _ => none
  | n + 1, t_table, t_last, l1 =>
    if 256 ≤ l1 then
      fX9_clearTable_24 1000 t_table t_last 0
    else
      zwr t_table 256 l1 0 fun g2 =>
      zlet (l1 + 1) fun x4 =>
      (fX9_clearTable_2 n) g2 t_last x4
theorem fX9_clearTable_2_s (n : Nat) (t_table : Nat → Int32) (t_last : Nat → Int32) (l1 : Int32) : fX9_clearTable_2 (n + 1) t_table t_last l1 =
    if 256 ≤ l1 then
      fX9_clearTable_24 1000 t_table t_last 0
    else
      zwr t_table 256 l1 0 fun g2 =>
      zlet (l1 + 1) fun x4 =>
      (fX9_clearTable_2 n) g2 t_last x4 := rfl
def fX9_clearTable (t_table : Nat → Int32) (t_last : Nat → Int32) : Option ((Nat → Int32) × (Nat → Int32)) :=
  fX9_clearTable_2 1000 t_table t_last 0
def fX9_writeFirst_328 : Nat → Int32 → (Nat → Int32) → (Nat → Int32) → (Nat → Int32) → Int32 → Option (Int32 × (Nat → Int32) × (Nat → Int32) × (Nat → Int32))
  | 0, _, _, _, _, _ => none
  | n + 1, t_size, t_file, t_table, t_last, l3 =>
    if 7 ≤ l3 then
      zb2 (fX9_add t_size t_file 1) fun u2 u3 =>
      some (u2, u3, t_table, t_last)
    else
      zb2 (fX9_add t_size t_file 0) fun u5 u6 =>
      zlet (l3 + 1) fun x8 =>
      (fX9_writeFirst_328 n) u5 u6 t_table t_last x8
theorem fX9_writeFirst_328_s (n : Nat) (t_size : Int32) (t_file : Nat → Int32) (t_table : Nat → Int32) (t_last : Nat → Int32) (l3 : Int32) : fX9_writeFirst_328 (n + 1) t_size t_file t_table t_last l3 =
    if 7 ≤ l3 then
      zb2 (fX9_add t_size t_file 1) fun u2 u3 =>
      some (u2, u3, t_table, t_last)
    else
      zb2 (fX9_add t_size t_file 0) fun u5 u6 =>
      zlet (l3 + 1) fun x8 =>
      (fX9_writeFirst_328 n) u5 u6 t_table t_last x8 := rfl
def fX9_writeFirst_326 (t_size : Int32) (t_file : Nat → Int32) (t_table : Nat → Int32) (t_last : Nat → Int32) : Option (Int32 × (Nat → Int32) × (Nat → Int32) × (Nat → Int32)) :=
  fX9_writeFirst_328 1000 t_size t_file t_table t_last 0
def fX9_writeFirst_286 (rc67 : Int32 → Int32 → (Nat → Int32) → (Nat → Int32) → (Nat → Int32) → (Nat → Int32) → Int32 → Int32 → Int32 → Option (Int32 × (Nat → Int32) × (Nat → Int32) × (Nat → Int32))) (rc246 : Int32 → Int32 → (Nat → Int32) → (Nat → Int32) → (Nat → Int32) → (Nat → Int32) → Int32 → Int32 → Int32 → Int32 → Int32 → Int32 → Option (Int32 × (Nat → Int32) × (Nat → Int32) × (Nat → Int32))) (t_wide : Int32) (t_size : Int32) (t_now : Nat → Int32) (t_file : Nat → Int32) (t_table : Nat → Int32) (t_last : Nat → Int32) (l1 : Int32) (l2 : Int32) (l3 : Int32) (l4 : Int32) (l5 : Int32) (l7 : Int32) (k1 : Int32) (k2 : Int32) : Option (Int32 × (Nat → Int32) × (Nat → Int32) × (Nat → Int32)) :=
  zwr t_table 256 k1 k2 fun g1 =>
  zb1 (fX9_channel t_wide t_now l3 l7) fun r3 =>
  zwr t_last 4 l7 r3 fun g5 =>
  zlet (l7 + 1) fun x7 =>
  rc246 t_wide t_size t_now t_file g1 g5 l1 l2 l3 l4 l5 x7
def fX9_writeFirst_246 (rc67 : Int32 → Int32 → (Nat → Int32) → (Nat → Int32) → (Nat → Int32) → (Nat → Int32) → Int32 → Int32 → Int32 → Option (Int32 × (Nat → Int32) × (Nat → Int32) × (Nat → Int32))) : Nat → Int32 → Int32 → (Nat → Int32) → (Nat → Int32) → (Nat → Int32) → (Nat → Int32) → Int32 → Int32 → Int32 → Int32 → Int32 → Int32 → Option (Int32 × (Nat → Int32) × (Nat → Int32) × (Nat → Int32))
  | 0, _, _, _, _, _, _, _, _, _, _, _, _ => none
  | n + 1, t_wide, t_size, t_now, t_file, t_table, t_last, l1, l2, l3, l4, l5, l7 =>
    if 4 ≤ l7 then
      zlet (l3 + 1) fun x2 =>
      rc67 t_wide t_size t_now t_file t_table t_last l1 l2 x2
    else
      if l4 = 0 then
        zb1 (fX9_channel t_wide t_now l3 l7) fun r4 =>
        fX9_writeFirst_286 rc67 (fX9_writeFirst_246 rc67 n) t_wide t_size t_now t_file t_table t_last l1 l2 l3 l4 l5 l7 (l5 + l7) r4
      else
        zrd t_table 256 (l5 + l7) fun x6 =>
        fX9_writeFirst_286 rc67 (fX9_writeFirst_246 rc67 n) t_wide t_size t_now t_file t_table t_last l1 l2 l3 l4 l5 l7 (l5 + l7) x6
theorem fX9_writeFirst_246_s (rc67 : Int32 → Int32 → (Nat → Int32) → (Nat → Int32) → (Nat → Int32) → (Nat → Int32) → Int32 → Int32 → Int32 → Option (Int32 × (Nat → Int32) × (Nat → Int32) × (Nat → Int32))) (n : Nat) (t_wide : Int32) (t_size : Int32) (t_now : Nat → Int32) (t_file : Nat → Int32) (t_table : Nat → Int32) (t_last : Nat → Int32) (l1 : Int32) (l2 : Int32) (l3 : Int32) (l4 : Int32) (l5 : Int32) (l7 : Int32) : fX9_writeFirst_246 rc67 (n + 1) t_wide t_size t_now t_file t_table t_last l1 l2 l3 l4 l5 l7 =
    if 4 ≤ l7 then
      zlet (l3 + 1) fun x2 =>
      rc67 t_wide t_size t_now t_file t_table t_last l1 l2 x2
    else
      if l4 = 0 then
        zb1 (fX9_channel t_wide t_now l3 l7) fun r4 =>
        fX9_writeFirst_286 rc67 (fX9_writeFirst_246 rc67 n) t_wide t_size t_now t_file t_table t_last l1 l2 l3 l4 l5 l7 (l5 + l7) r4
      else
        zrd t_table 256 (l5 + l7) fun x6 =>
        fX9_writeFirst_286 rc67 (fX9_writeFirst_246 rc67 n) t_wide t_size t_now t_file t_table t_last l1 l2 l3 l4 l5 l7 (l5 + l7) x6 := rfl
def fX9_writeFirst_243 (rc67 : Int32 → Int32 → (Nat → Int32) → (Nat → Int32) → (Nat → Int32) → (Nat → Int32) → Int32 → Int32 → Int32 → Option (Int32 × (Nat → Int32) × (Nat → Int32) × (Nat → Int32))) (t_wide : Int32) (t_size : Int32) (t_now : Nat → Int32) (t_file : Nat → Int32) (t_table : Nat → Int32) (t_last : Nat → Int32) (l1 : Int32) (l2 : Int32) (l3 : Int32) (l4 : Int32) (l5 : Int32) : Option (Int32 × (Nat → Int32) × (Nat → Int32) × (Nat → Int32)) :=
  fX9_writeFirst_246 rc67 1000 t_wide t_size t_now t_file t_table t_last l1 l2 l3 l4 l5 0
def fX9_writeFirst_211 (rc67 : Int32 → Int32 → (Nat → Int32) → (Nat → Int32) → (Nat → Int32) → (Nat → Int32) → Int32 → Int32 → Int32 → Option (Int32 × (Nat → Int32) × (Nat → Int32) × (Nat → Int32))) (t_wide : Int32) (t_size : Int32) (t_now : Nat → Int32) (t_file : Nat → Int32) (t_table : Nat → Int32) (t_last : Nat → Int32) (l1 : Int32) (l2 : Int32) (l3 : Int32) (l4 : Int32) (l5 : Int32) (l6 : Int32) : Option (Int32 × (Nat → Int32) × (Nat → Int32) × (Nat → Int32)) :=
  if l4 = 0 then
    if l6 = 0 then
      zb2 (fX9_differs t_wide t_size t_now t_file t_last l3) fun u3 u4 =>
      fX9_writeFirst_243 rc67 t_wide u3 t_now u4 t_table t_last l1 l2 l3 l4 l5
    else
      zb2 (fX9_add t_size t_file (l5 / 4)) fun u6 u7 =>
      fX9_writeFirst_243 rc67 t_wide u6 t_now u7 t_table t_last l1 l2 l3 l4 l5
  else
    zlet (l1 + 1) fun x9 =>
    fX9_writeFirst_243 rc67 t_wide t_size t_now t_file t_table t_last x9 l2 l3 l4 l5
def fX9_writeFirst_200 (rc67 : Int32 → Int32 → (Nat → Int32) → (Nat → Int32) → (Nat → Int32) → (Nat → Int32) → Int32 → Int32 → Int32 → Option (Int32 × (Nat → Int32) × (Nat → Int32) × (Nat → Int32))) (t_wide : Int32) (t_size : Int32) (t_now : Nat → Int32) (t_file : Nat → Int32) (t_table : Nat → Int32) (t_last : Nat → Int32) (l1 : Int32) (l2 : Int32) (l3 : Int32) (l4 : Int32) (l5 : Int32) (l6 : Int32) : Option (Int32 × (Nat → Int32) × (Nat → Int32) × (Nat → Int32)) :=
  zb2 (fX9_add t_size t_file (191 + l1)) fun u1 u2 =>
  fX9_writeFirst_211 rc67 t_wide u1 t_now u2 t_table t_last 0 l2 l3 l4 l5 l6
def fX9_writeFirst_177 (rc67 : Int32 → Int32 → (Nat → Int32) → (Nat → Int32) → (Nat → Int32) → (Nat → Int32) → Int32 → Int32 → Int32 → Option (Int32 × (Nat → Int32) × (Nat → Int32) × (Nat → Int32))) (rc112 : Int32 → Int32 → (Nat → Int32) → (Nat → Int32) → (Nat → Int32) → (Nat → Int32) → Int32 → Int32 → Int32 → Int32 → Int32 → Int32 → Int32 → Option (Int32 × (Nat → Int32) × (Nat → Int32) × (Nat → Int32))) (t_wide : Int32) (t_size : Int32) (t_now : Nat → Int32) (t_file : Nat → Int32) (t_table : Nat → Int32) (t_last : Nat → Int32) (l1 : Int32) (l2 : Int32) (l3 : Int32) (l4 : Int32) (l5 : Int32) (l7 : Int32) (k0 : Int32) : Option (Int32 × (Nat → Int32) × (Nat → Int32) × (Nat → Int32)) :=
  zlet (l7 + 1) fun x1 =>
  rc112 t_wide t_size t_now t_file t_table t_last l1 l2 l3 l4 l5 k0 x1
def fX9_writeFirst_176 (rc67 : Int32 → Int32 → (Nat → Int32) → (Nat → Int32) → (Nat → Int32) → (Nat → Int32) → Int32 → Int32 → Int32 → Option (Int32 × (Nat → Int32) × (Nat → Int32) × (Nat → Int32))) (rc112 : Int32 → Int32 → (Nat → Int32) → (Nat → Int32) → (Nat → Int32) → (Nat → Int32) → Int32 → Int32 → Int32 → Int32 → Int32 → Int32 → Int32 → Option (Int32 × (Nat → Int32) × (Nat → Int32) × (Nat → Int32))) (t_wide : Int32) (t_size : Int32) (t_now : Nat → Int32) (t_file : Nat → Int32) (t_table : Nat → Int32) (t_last : Nat → Int32) (l1 : Int32) (l2 : Int32) (l3 : Int32) (l4 : Int32) (l5 : Int32) (l7 : Int32) : Option (Int32 × (Nat → Int32) × (Nat → Int32) × (Nat → Int32)) :=
  fX9_writeFirst_177 rc67 rc112 t_wide t_size t_now t_file t_table t_last l1 l2 l3 l4 l5 l7 0
def fX9_writeFirst_145 (rc67 : Int32 → Int32 → (Nat → Int32) → (Nat → Int32) → (Nat → Int32) → (Nat → Int32) → Int32 → Int32 → Int32 → Option (Int32 × (Nat → Int32) × (Nat → Int32) × (Nat → Int32))) (rc112 : Int32 → Int32 → (Nat → Int32) → (Nat → Int32) → (Nat → Int32) → (Nat → Int32) → Int32 → Int32 → Int32 → Int32 → Int32 → Int32 → Int32 → Option (Int32 × (Nat → Int32) × (Nat → Int32) × (Nat → Int32))) (t_wide : Int32) (t_size : Int32) (t_now : Nat → Int32) (t_file : Nat → Int32) (t_table : Nat → Int32) (t_last : Nat → Int32) (l1 : Int32) (l2 : Int32) (l3 : Int32) (l5 : Int32) (l6 : Int32) (l7 : Int32) (k0 : Int32) : Option (Int32 × (Nat → Int32) × (Nat → Int32) × (Nat → Int32)) :=
  if l6 = 0 then
    fX9_writeFirst_176 rc67 rc112 t_wide t_size t_now t_file t_table t_last l1 l2 l3 k0 l5 l7
  else
    zb1 (fX9_channel t_wide t_now l3 l7) fun r2 =>
    zrd t_table 256 (l5 + l7) fun x4 =>
    if r2 = x4 then
      fX9_writeFirst_177 rc67 rc112 t_wide t_size t_now t_file t_table t_last l1 l2 l3 k0 l5 l7 1
    else
      fX9_writeFirst_176 rc67 rc112 t_wide t_size t_now t_file t_table t_last l1 l2 l3 k0 l5 l7
def fX9_writeFirst_144 (rc67 : Int32 → Int32 → (Nat → Int32) → (Nat → Int32) → (Nat → Int32) → (Nat → Int32) → Int32 → Int32 → Int32 → Option (Int32 × (Nat → Int32) × (Nat → Int32) × (Nat → Int32))) (rc112 : Int32 → Int32 → (Nat → Int32) → (Nat → Int32) → (Nat → Int32) → (Nat → Int32) → Int32 → Int32 → Int32 → Int32 → Int32 → Int32 → Int32 → Option (Int32 × (Nat → Int32) × (Nat → Int32) × (Nat → Int32))) (t_wide : Int32) (t_size : Int32) (t_now : Nat → Int32) (t_file : Nat → Int32) (t_table : Nat → Int32) (t_last : Nat → Int32) (l1 : Int32) (l2 : Int32) (l3 : Int32) (l5 : Int32) (l6 : Int32) (l7 : Int32) : Option (Int32 × (Nat → Int32) × (Nat → Int32) × (Nat → Int32)) :=
  fX9_writeFirst_145 rc67 rc112 t_wide t_size t_now t_file t_table t_last l1 l2 l3 l5 l6 l7 0
def fX9_writeFirst_112 (rc67 : Int32 → Int32 → (Nat → Int32) → (Nat → Int32) → (Nat → Int32) → (Nat → Int32) → Int32 → Int32 → Int32 → Option (Int32 × (Nat → Int32) × (Nat → Int32) × (Nat → Int32))) : Nat → Int32 → Int32 → (Nat → Int32) → (Nat → Int32) → (Nat → Int32) → (Nat → Int32) → Int32 → Int32 → Int32 → Int32 → Int32 → Int32 → Int32 → Option (Int32 × (Nat → Int32) × (Nat → Int32) × (Nat → Int32))
  | 0, _, _, _, _, _, _, _, _, _, _, _, _, _ => none
  | n + 1, t_wide, t_size, t_now, t_file, t_table, t_last, l1, l2, l3, l4, l5, l6, l7 =>
    if 4 ≤ l7 then
      if l1 ≤ 0 then
        fX9_writeFirst_211 rc67 t_wide t_size t_now t_file t_table t_last l1 l2 l3 l4 l5 l6
      else
        if l4 = 0 then
          fX9_writeFirst_200 rc67 t_wide t_size t_now t_file t_table t_last l1 l2 l3 l4 l5 l6
        else
          if l1 = 62 then
            fX9_writeFirst_200 rc67 t_wide t_size t_now t_file t_table t_last l1 l2 l3 l4 l5 l6
          else
            fX9_writeFirst_211 rc67 t_wide t_size t_now t_file t_table t_last l1 l2 l3 l4 l5 l6
    else
      if l4 = 0 then
        fX9_writeFirst_144 rc67 (fX9_writeFirst_112 rc67 n) t_wide t_size t_now t_file t_table t_last l1 l2 l3 l5 l6 l7
      else
        zb1 (fX9_channel t_wide t_now l3 l7) fun r6 =>
        zrd t_last 4 l7 fun x8 =>
        if r6 = x8 then
          fX9_writeFirst_145 rc67 (fX9_writeFirst_112 rc67 n) t_wide t_size t_now t_file t_table t_last l1 l2 l3 l5 l6 l7 1
        else
          fX9_writeFirst_144 rc67 (fX9_writeFirst_112 rc67 n) t_wide t_size t_now t_file t_table t_last l1 l2 l3 l5 l6 l7
theorem fX9_writeFirst_112_s (rc67 : Int32 → Int32 → (Nat → Int32) → (Nat → Int32) → (Nat → Int32) → (Nat → Int32) → Int32 → Int32 → Int32 → Option (Int32 × (Nat → Int32) × (Nat → Int32) × (Nat → Int32))) (n : Nat) (t_wide : Int32) (t_size : Int32) (t_now : Nat → Int32) (t_file : Nat → Int32) (t_table : Nat → Int32) (t_last : Nat → Int32) (l1 : Int32) (l2 : Int32) (l3 : Int32) (l4 : Int32) (l5 : Int32) (l6 : Int32) (l7 : Int32) : fX9_writeFirst_112 rc67 (n + 1) t_wide t_size t_now t_file t_table t_last l1 l2 l3 l4 l5 l6 l7 =
    if 4 ≤ l7 then
      if l1 ≤ 0 then
        fX9_writeFirst_211 rc67 t_wide t_size t_now t_file t_table t_last l1 l2 l3 l4 l5 l6
      else
        if l4 = 0 then
          fX9_writeFirst_200 rc67 t_wide t_size t_now t_file t_table t_last l1 l2 l3 l4 l5 l6
        else
          if l1 = 62 then
            fX9_writeFirst_200 rc67 t_wide t_size t_now t_file t_table t_last l1 l2 l3 l4 l5 l6
          else
            fX9_writeFirst_211 rc67 t_wide t_size t_now t_file t_table t_last l1 l2 l3 l4 l5 l6
    else
      if l4 = 0 then
        fX9_writeFirst_144 rc67 (fX9_writeFirst_112 rc67 n) t_wide t_size t_now t_file t_table t_last l1 l2 l3 l5 l6 l7
      else
        zb1 (fX9_channel t_wide t_now l3 l7) fun r6 =>
        zrd t_last 4 l7 fun x8 =>
        if r6 = x8 then
          fX9_writeFirst_145 rc67 (fX9_writeFirst_112 rc67 n) t_wide t_size t_now t_file t_table t_last l1 l2 l3 l5 l6 l7 1
        else
          fX9_writeFirst_144 rc67 (fX9_writeFirst_112 rc67 n) t_wide t_size t_now t_file t_table t_last l1 l2 l3 l5 l6 l7 := rfl
def fX9_writeFirst_67 : Nat → Int32 → Int32 → (Nat → Int32) → (Nat → Int32) → (Nat → Int32) → (Nat → Int32) → Int32 → Int32 → Int32 → Option (Int32 × (Nat → Int32) × (Nat → Int32) × (Nat → Int32))
  | 0, _, _, _, _, _, _, _, _, _ => none
  | n + 1, t_wide, t_size, t_now, t_file, t_table, t_last, l1, l2, l3 =>
    if l2 ≤ l3 then
      if l1 ≤ 0 then
        fX9_writeFirst_326 t_size t_file t_table t_last
      else
        zb2 (fX9_add t_size t_file (191 + l1)) fun u3 u4 =>
        fX9_writeFirst_326 u3 u4 t_table t_last
    else
      zb1 (fX9_channel t_wide t_now l3 0) fun r6 =>
      zb1 (fX9_channel t_wide t_now l3 1) fun r8 =>
      zb1 (fX9_channel t_wide t_now l3 2) fun r10 =>
      zb1 (fX9_channel t_wide t_now l3 3) fun r12 =>
      zb1 (fX9_placeOf r6 r8 r10 r12) fun r14 =>
      zlet (4 * r14) fun x16 =>
      fX9_writeFirst_112 (fX9_writeFirst_67 n) 1000 t_wide t_size t_now t_file t_table t_last l1 l2 l3 1 x16 1 0
theorem fX9_writeFirst_67_s (n : Nat) (t_wide : Int32) (t_size : Int32) (t_now : Nat → Int32) (t_file : Nat → Int32) (t_table : Nat → Int32) (t_last : Nat → Int32) (l1 : Int32) (l2 : Int32) (l3 : Int32) : fX9_writeFirst_67 (n + 1) t_wide t_size t_now t_file t_table t_last l1 l2 l3 =
    if l2 ≤ l3 then
      if l1 ≤ 0 then
        fX9_writeFirst_326 t_size t_file t_table t_last
      else
        zb2 (fX9_add t_size t_file (191 + l1)) fun u3 u4 =>
        fX9_writeFirst_326 u3 u4 t_table t_last
    else
      zb1 (fX9_channel t_wide t_now l3 0) fun r6 =>
      zb1 (fX9_channel t_wide t_now l3 1) fun r8 =>
      zb1 (fX9_channel t_wide t_now l3 2) fun r10 =>
      zb1 (fX9_channel t_wide t_now l3 3) fun r12 =>
      zb1 (fX9_placeOf r6 r8 r10 r12) fun r14 =>
      zlet (4 * r14) fun x16 =>
      fX9_writeFirst_112 (fX9_writeFirst_67 n) 1000 t_wide t_size t_now t_file t_table t_last l1 l2 l3 1 x16 1 0 := rfl
def fX9_writeFirst_45 (t_wide : Int32) (t_high : Int32) (t_size : Int32) (t_now : Nat → Int32) (t_file : Nat → Int32) (t_table : Nat → Int32) (t_last : Nat → Int32) (k1 : Int32) : Option (Int32 × (Nat → Int32) × (Nat → Int32) × (Nat → Int32)) :=
  zb2 (fX9_addTwo t_size t_file k1 0) fun u1 u2 =>
  zb2 (fX9_clearTable t_table t_last) fun u4 u5 =>
  zlet (t_wide * t_high) fun x7 =>
  fX9_writeFirst_67 1000 t_wide u1 t_now u2 u4 u5 0 x7 0
def fX9_writeFirst (t_wide : Int32) (t_high : Int32) (t_size : Int32) (t_now : Nat → Int32) (t_file : Nat → Int32) (t_table : Nat → Int32) (t_last : Nat → Int32) : Option (Int32 × (Nat → Int32) × (Nat → Int32) × (Nat → Int32)) :=
  zb2 (fX9_addTwo t_size t_file 113 111) fun u1 u2 =>
  zb2 (fX9_addTwo u1 u2 105 102) fun u4 u5 =>
  zb2 (fX9_big u4 u5 t_wide) fun u7 u8 =>
  zb2 (fX9_big u7 u8 t_high) fun u10 u11 =>
  zb1 (fX9_opaque t_wide t_high t_now) fun r13 =>
  if r13 = 0 then
    fX9_writeFirst_45 t_wide t_high u10 t_now u11 t_table t_last 4
  else
    fX9_writeFirst_45 t_wide t_high u10 t_now u11 t_table t_last 3
def fX9_digits_37 (t_size : Int32) (t_file : Nat → Int32) (l1 : Int32) : Option (Int32 × (Nat → Int32)) :=
  zb2 (fX9_add t_size t_file (48 + (zrem l1 10))) fun u1 u2 =>
  some (u1, u2)
def fX9_digits_17 (t_size : Int32) (t_file : Nat → Int32) (l1 : Int32) : Option (Int32 × (Nat → Int32)) :=
  if l1 ≤ 9 then
    fX9_digits_37 t_size t_file l1
  else
    zb2 (fX9_add t_size t_file (48 + (zrem (l1 / 10) 10))) fun u2 u3 =>
    fX9_digits_37 u2 u3 l1
def fX9_digits (t_size : Int32) (t_file : Nat → Int32) (v0 : Int32) : Option (Int32 × (Nat → Int32)) :=
  if v0 ≤ 99 then
    fX9_digits_17 t_size t_file v0
  else
    zb2 (fX9_add t_size t_file (48 + (v0 / 100))) fun u2 u3 =>
    fX9_digits_17 u2 u3 v0
def fX9_writeSecond_187 (rc90 : Int32 → Int32 → Int32 → (Nat → Int32) → (Nat → Int32) → Int32 → Int32 → Int32 → Option (Int32 × (Nat → Int32))) (rc106 : Int32 → Int32 → Int32 → (Nat → Int32) → (Nat → Int32) → Int32 → Int32 → Int32 → Int32 → Option (Int32 × (Nat → Int32))) (t_wide : Int32) (t_high : Int32) (t_size : Int32) (t_now : Nat → Int32) (t_file : Nat → Int32) (l1 : Int32) (l2 : Int32) (l3 : Int32) (l4 : Int32) : Option (Int32 × (Nat → Int32)) :=
  zlet (l4 + 1) fun x1 =>
  rc106 t_wide t_high t_size t_now t_file l1 l2 l3 x1
def fX9_writeSecond_170 (rc90 : Int32 → Int32 → Int32 → (Nat → Int32) → (Nat → Int32) → Int32 → Int32 → Int32 → Option (Int32 × (Nat → Int32))) (rc106 : Int32 → Int32 → Int32 → (Nat → Int32) → (Nat → Int32) → Int32 → Int32 → Int32 → Int32 → Option (Int32 × (Nat → Int32))) (t_wide : Int32) (t_high : Int32) (t_size : Int32) (t_now : Nat → Int32) (t_file : Nat → Int32) (l1 : Int32) (l2 : Int32) (l3 : Int32) (l4 : Int32) (k1 : Int32) : Option (Int32 × (Nat → Int32)) :=
  zb2 (fX9_add t_size t_file k1) fun u1 u2 =>
  fX9_writeSecond_187 rc90 rc106 t_wide t_high u1 t_now u2 l1 l2 l3 l4
def fX9_writeSecond_144 (rc90 : Int32 → Int32 → Int32 → (Nat → Int32) → (Nat → Int32) → Int32 → Int32 → Int32 → Option (Int32 × (Nat → Int32))) (rc106 : Int32 → Int32 → Int32 → (Nat → Int32) → (Nat → Int32) → Int32 → Int32 → Int32 → Int32 → Option (Int32 × (Nat → Int32))) (t_wide : Int32) (t_high : Int32) (t_size : Int32) (t_now : Nat → Int32) (t_file : Nat → Int32) (l1 : Int32) (l2 : Int32) (l3 : Int32) (l4 : Int32) (k0 : Int32) : Option (Int32 × (Nat → Int32)) :=
  zb1 (fX9_channel t_wide t_now l3 l4) fun r1 =>
  zb2 (fX9_digits t_size t_file r1) fun u3 u4 =>
  if k0 = 0 then
    fX9_writeSecond_170 rc90 rc106 t_wide t_high u3 t_now u4 l1 l2 l3 l4 32
  else
    fX9_writeSecond_170 rc90 rc106 t_wide t_high u3 t_now u4 l1 l2 l3 l4 10
def fX9_writeSecond_143 (rc90 : Int32 → Int32 → Int32 → (Nat → Int32) → (Nat → Int32) → Int32 → Int32 → Int32 → Option (Int32 × (Nat → Int32))) (rc106 : Int32 → Int32 → Int32 → (Nat → Int32) → (Nat → Int32) → Int32 → Int32 → Int32 → Int32 → Option (Int32 × (Nat → Int32))) (t_wide : Int32) (t_high : Int32) (t_size : Int32) (t_now : Nat → Int32) (t_file : Nat → Int32) (l1 : Int32) (l2 : Int32) (l3 : Int32) (l4 : Int32) : Option (Int32 × (Nat → Int32)) :=
  fX9_writeSecond_144 rc90 rc106 t_wide t_high t_size t_now t_file l1 l2 l3 l4 0
def fX9_writeSecond_106 (rc90 : Int32 → Int32 → Int32 → (Nat → Int32) → (Nat → Int32) → Int32 → Int32 → Int32 → Option (Int32 × (Nat → Int32))) : Nat → Int32 → Int32 → Int32 → (Nat → Int32) → (Nat → Int32) → Int32 → Int32 → Int32 → Int32 → Option (Int32 × (Nat → Int32))
  | 0, _, _, _, _, _, _, _, _, _ => none
  | n + 1, t_wide, t_high, t_size, t_now, t_file, l1, l2, l3, l4 =>
    if l2 ≤ l4 then
      zlet (l3 + 1) fun x2 =>
      rc90 t_wide t_high t_size t_now t_file l1 l2 x2
    else
      if l1 = 0 then
        zb1 (fX9_channel t_wide t_now l3 l4) fun r4 =>
        zb2 (fX9_add t_size t_file r4) fun u6 u7 =>
        fX9_writeSecond_187 rc90 (fX9_writeSecond_106 rc90 n) t_wide t_high u6 t_now u7 l1 l2 l3 l4
      else
        znz t_wide <|
        if (zrem l3 t_wide) = (t_wide - 1) then
          if l4 = (l2 - 1) then
            fX9_writeSecond_144 rc90 (fX9_writeSecond_106 rc90 n) t_wide t_high t_size t_now t_file l1 l2 l3 l4 1
          else
            fX9_writeSecond_143 rc90 (fX9_writeSecond_106 rc90 n) t_wide t_high t_size t_now t_file l1 l2 l3 l4
        else
          fX9_writeSecond_143 rc90 (fX9_writeSecond_106 rc90 n) t_wide t_high t_size t_now t_file l1 l2 l3 l4
theorem fX9_writeSecond_106_s (rc90 : Int32 → Int32 → Int32 → (Nat → Int32) → (Nat → Int32) → Int32 → Int32 → Int32 → Option (Int32 × (Nat → Int32))) (n : Nat) (t_wide : Int32) (t_high : Int32) (t_size : Int32) (t_now : Nat → Int32) (t_file : Nat → Int32) (l1 : Int32) (l2 : Int32) (l3 : Int32) (l4 : Int32) : fX9_writeSecond_106 rc90 (n + 1) t_wide t_high t_size t_now t_file l1 l2 l3 l4 =
    if l2 ≤ l4 then
      zlet (l3 + 1) fun x2 =>
      rc90 t_wide t_high t_size t_now t_file l1 l2 x2
    else
      if l1 = 0 then
        zb1 (fX9_channel t_wide t_now l3 l4) fun r4 =>
        zb2 (fX9_add t_size t_file r4) fun u6 u7 =>
        fX9_writeSecond_187 rc90 (fX9_writeSecond_106 rc90 n) t_wide t_high u6 t_now u7 l1 l2 l3 l4
      else
        znz t_wide <|
        if (zrem l3 t_wide) = (t_wide - 1) then
          if l4 = (l2 - 1) then
            fX9_writeSecond_144 rc90 (fX9_writeSecond_106 rc90 n) t_wide t_high t_size t_now t_file l1 l2 l3 l4 1
          else
            fX9_writeSecond_143 rc90 (fX9_writeSecond_106 rc90 n) t_wide t_high t_size t_now t_file l1 l2 l3 l4
        else
          fX9_writeSecond_143 rc90 (fX9_writeSecond_106 rc90 n) t_wide t_high t_size t_now t_file l1 l2 l3 l4 := rfl
def fX9_writeSecond_90 : Nat → Int32 → Int32 → Int32 → (Nat → Int32) → (Nat → Int32) → Int32 → Int32 → Int32 → Option (Int32 × (Nat → Int32))
  | 0, _, _, _, _, _, _, _, _ => none
  | n + 1, t_wide, t_high, t_size, t_now, t_file, l1, l2, l3 =>
    if (t_wide * t_high) ≤ l3 then
      some (t_size, t_file)
    else
      fX9_writeSecond_106 (fX9_writeSecond_90 n) 1000 t_wide t_high t_size t_now t_file l1 l2 l3 0
theorem fX9_writeSecond_90_s (n : Nat) (t_wide : Int32) (t_high : Int32) (t_size : Int32) (t_now : Nat → Int32) (t_file : Nat → Int32) (l1 : Int32) (l2 : Int32) (l3 : Int32) : fX9_writeSecond_90 (n + 1) t_wide t_high t_size t_now t_file l1 l2 l3 =
    if (t_wide * t_high) ≤ l3 then
      some (t_size, t_file)
    else
      fX9_writeSecond_106 (fX9_writeSecond_90 n) 1000 t_wide t_high t_size t_now t_file l1 l2 l3 0 := rfl
def fX9_writeSecond_37 (t_wide : Int32) (t_high : Int32) (t_size : Int32) (t_now : Nat → Int32) (t_file : Nat → Int32) (l1 : Int32) (l2 : Int32) (k1 : Int32) (k2 : Int32) (k3 : Int32) : Option (Int32 × (Nat → Int32)) :=
  zb2 (fX9_addTwo t_size t_file k1 (k2 + k3)) fun u1 u2 =>
  zb2 (fX9_add u1 u2 10) fun u4 u5 =>
  zb2 (fX9_digits u4 u5 t_wide) fun u7 u8 =>
  zb2 (fX9_add u7 u8 32) fun u10 u11 =>
  zb2 (fX9_digits u10 u11 t_high) fun u13 u14 =>
  zb2 (fX9_add u13 u14 10) fun u16 u17 =>
  zb2 (fX9_digits u16 u17 255) fun u19 u20 =>
  zb2 (fX9_add u19 u20 10) fun u22 u23 =>
  fX9_writeSecond_90 1000 t_wide t_high u22 t_now u23 l1 l2 0
def fX9_writeSecond_27 (t_wide : Int32) (t_high : Int32) (t_size : Int32) (t_now : Nat → Int32) (t_file : Nat → Int32) (l1 : Int32) (l2 : Int32) (k1 : Int32) (k2 : Int32) : Option (Int32 × (Nat → Int32)) :=
  if l2 = 3 then
    fX9_writeSecond_37 t_wide t_high t_size t_now t_file l1 l2 k1 k2 1
  else
    fX9_writeSecond_37 t_wide t_high t_size t_now t_file l1 l2 k1 k2 0
def fX9_writeSecond_12 (t_wide : Int32) (t_high : Int32) (t_size : Int32) (t_now : Nat → Int32) (t_file : Nat → Int32) (l1 : Int32) (k0 : Int32) : Option (Int32 × (Nat → Int32)) :=
  if l1 = 0 then
    fX9_writeSecond_27 t_wide t_high t_size t_now t_file l1 k0 80 53
  else
    fX9_writeSecond_27 t_wide t_high t_size t_now t_file l1 k0 80 50
def fX9_writeSecond (t_wide : Int32) (t_high : Int32) (t_size : Int32) (t_now : Nat → Int32) (t_file : Nat → Int32) (v0 : Int32) : Option (Int32 × (Nat → Int32)) :=
  zb1 (fX9_grey t_wide t_high t_now) fun r1 =>
  if r1 = 0 then
    fX9_writeSecond_12 t_wide t_high t_size t_now t_file v0 3
  else
    fX9_writeSecond_12 t_wide t_high t_size t_now t_file v0 1
def rmX9_add : Room := { frames := 0, cells := 0, slots := 0, locals := 0 }
theorem kX9_add_20 {args : Array Value} {s : State} (h : ∀ w ∈ wsX9_add, w.before args s = true) : (Cond.fieldLink RX9 20 "FourPictureFilesModel" "file" "[I").before args s = true := h _ (by decide +kernel)
theorem kX9_add_57 {args : Array Value} {s : State} (h : ∀ w ∈ wsX9_add, w.before args s = true) : (Cond.fieldLink RX9 57 "FourPictureFilesModel" "size" "I").before args s = true := h _ (by decide +kernel)
theorem iX9_add_X9 : ∀ w ∈ u_ws RX9 TX9 15, w ∈ wsX9_add := by decide +kernel
set_option maxHeartbeats 4000000 in
set_option maxRecDepth 100000 in
theorem wX9_add_0 {p : Program} {l : Launch} {e : Env} {s : State} {m : MethodId} {args : Array Value} {below : List Frame} {meth : Method} {c : Code} {D : va_G} {A : Nat → Prop} {Q : State → Prop} {cI : ClassId} {h_t h_t_now h_t_file h_t_fresh h_t_colour h_t_table h_t_last h_t_one : Nat} {t_wide : Int32} {t_high : Int32} {t_at : Int32} {t_fault : Int32} {t_newWide : Int32} {t_newHigh : Int32} {t_colours : Int32} {t_now : Nat → Int32} {t_fresh : Nat → Int32} {t_colour : Nat → Int32} {t_table : Nat → Int32} {t_last : Nat → Int32} {t_one : Nat → Int32} {zt_size : Int32} {zt_file : Nat → Int32} (C : CallFix p m c cX9_add 2 s args wsX9_add RX9) (hN : zN s) (hK : va_K D vwCl [(cI, .int)] s) (hA : ∀ q, s.heap.size ≤ q → A q) (hE : zEv p l e rmX9_add s m args below meth c cX9_add D A Q (zwX9 cI h_t h_t_now h_t_file h_t_fresh h_t_colour h_t_table h_t_last h_t_one t_wide t_high zt_size t_at t_fault t_newWide t_newHigh t_colours t_now zt_file t_fresh t_colour t_table t_last t_one)) {t_size : Int32} {t_file : Nat → Int32} {v0 : Int32} {H : Heap} {locs : List Loc} {ls : Array Slot} : fX9_add t_size t_file v0 = some (zt_size, zt_file) → va_P D vwCl (zwX9 cI h_t h_t_now h_t_file h_t_fresh h_t_colour h_t_table h_t_last h_t_one t_wide t_high t_size t_at t_fault t_newWide t_newHigh t_colours t_now t_file t_fresh t_colour t_table t_last t_one) H → va_D A (zwX9 cI h_t h_t_now h_t_file h_t_fresh h_t_colour h_t_table h_t_last h_t_one t_wide t_high t_size t_at t_fault t_newWide t_newHigh t_colours t_now t_file t_fresh t_colour t_table t_last t_one) → va_S A s.heap H locs → lv_has ls 2 [(0, .ref h_t), (1, .int v0)] → W p l e rmX9_add s m args below meth c H locs 0 0 Q (F0 m 0 ls []) := by
  intro hf hP hD hS hl
  obtain ⟨hx, hb, hml, hown, hts⟩ := id C
  unfold fX9_add at hf
  refine lv_aload_n hx hb dX9_add_0 rfl (lv_at hl 0 rfl) ?_
  refine va_get (D := D) (ci := 8) (v := .ref h_t_file) (C := RX9) (T := TX9) (N := 15) hx hb hts iX9_add_X9 hown hK hP 0 rfl rfl 4 (by decide) (kX9_add_20 hts) (fun _ h9 => h9) rfl dX9_add_1 ?_
  refine lv_aload_n hx hb dX9_add_4 rfl (lv_at hl 0 rfl) ?_
  refine va_get (D := D) (ci := 8) (v := .int t_size) (C := RX9) (T := TX9) (N := 15) hx hb hts iX9_add_X9 hown hK hP 0 rfl rfl 3 (by decide) (kX9_add_57 hts) (fun _ h9 => h9) rfl dX9_add_5 ?_
  refine lv_iload_n hx hb dX9_add_8 rfl (lv_at hl 1 rfl) ?_
  refine lv_sipush (v := 255) hx hb dX9_add_9 (by decide) ?_
  refine lv_iand hx hb dX9_add_12 ?_
  obtain ⟨hg2, g1, eg1, hf⟩ := zwr_in hf
  refine va_iast hx hb hK hP hD hS 2 0 rfl rfl hg2 dX9_add_13 (fun H locs hP hD hS => ?_)
  replace hP : va_P D vwCl (zwX9 cI h_t h_t_now h_t_file h_t_fresh h_t_colour h_t_table h_t_last h_t_one t_wide t_high t_size t_at t_fault t_newWide t_newHigh t_colours t_now g1 t_fresh t_colour t_table t_last t_one) H := by rw [← eg1]; exact hP
  replace hD : va_D A (zwX9 cI h_t h_t_now h_t_file h_t_fresh h_t_colour h_t_table h_t_last h_t_one t_wide t_high t_size t_at t_fault t_newWide t_newHigh t_colours t_now g1 t_fresh t_colour t_table t_last t_one) := by rw [← eg1]; exact hD
  clear eg1
  refine lv_aload_n hx hb dX9_add_14 rfl (lv_at hl 0 rfl) ?_
  refine lv_dup hx hb dX9_add_15 rfl ?_
  refine va_get (D := D) (ci := 8) (v := .int t_size) (C := RX9) (T := TX9) (N := 15) hx hb hts iX9_add_X9 hown hK hP 0 rfl rfl 3 (by decide) (kX9_add_57 hts) (fun _ h9 => h9) rfl dX9_add_16 ?_
  refine lv_iconst (v := 1) hx hb dX9_add_19 (by decide) ?_
  refine lv_iadd hx hb dX9_add_20 ?_
  refine lv_topi (fun x3 ex3 => ?_)
  replace hf := zlet_in hf ex3
  clear ex3
  refine va_put (D := D) (ci := 8) (v := .int x3) (ty := .int) (C := RX9) (T := TX9) (N := 15) hx hb hts iX9_add_X9 tyX9 tyX9_ok nmX9 hown hK hP hD hS 0 rfl rfl 3 (by decide) (kX9_add_57 hts) (fun _ h9 => h9) rfl (by decide +kernel) rfl rfl (Nat.le_of_ble_eq_true rfl) dX9_add_21 (fun H locs hP hD hS => ?_)
  replace hP : va_P D vwCl (zwX9 cI h_t h_t_now h_t_file h_t_fresh h_t_colour h_t_table h_t_last h_t_one t_wide t_high x3 t_at t_fault t_newWide t_newHigh t_colours t_now g1 t_fresh t_colour t_table t_last t_one) H := hP
  replace hD : va_D A (zwX9 cI h_t h_t_now h_t_file h_t_fresh h_t_colour h_t_table h_t_last h_t_one t_wide t_high x3 t_at t_fault t_newWide t_newHigh t_colours t_now g1 t_fresh t_colour t_table t_last t_one) := hD
  cases hf
  exact hE _ _ _ _ dX9_add_24 hP hD hS
set_option maxHeartbeats 4000000 in
set_option maxRecDepth 100000 in
theorem mX9_add (l : Launch) (D : va_G) (cI : ClassId) (sz : Nat) (h_t h_t_now h_t_file h_t_fresh h_t_colour h_t_table h_t_last h_t_one : Nat) (t_wide : Int32) (t_high : Int32) (t_size : Int32) (t_at : Int32) (t_fault : Int32) (t_newWide : Int32) (t_newHigh : Int32) (t_colours : Int32) (t_now : Nat → Int32) (t_file : Nat → Int32) (t_fresh : Nat → Int32) (t_colour : Nat → Int32) (t_table : Nat → Int32) (t_last : Nat → Int32) (t_one : Nat → Int32) (v0 : Int32) (zt_size : Int32) (zt_file : Nat → Int32) (hf : fX9_add t_size t_file v0 = some (zt_size, zt_file)) : Met l yX9_add wsX9_add rmX9_add (va_Pc [.ref h_t, .int v0] (zP D [(cI, .int)] (zwX9 cI h_t h_t_now h_t_file h_t_fresh h_t_colour h_t_table h_t_last h_t_one t_wide t_high t_size t_at t_fault t_newWide t_newHigh t_colours t_now t_file t_fresh t_colour t_table t_last t_one) sz)) (zQv D (zwX9 cI h_t h_t_now h_t_file h_t_fresh h_t_colour h_t_table h_t_last h_t_one t_wide t_high t_size t_at t_fault t_newWide t_newHigh t_colours t_now t_file t_fresh t_colour t_table t_last t_one) sz (zwX9 cI h_t h_t_now h_t_file h_t_fresh h_t_colour h_t_table h_t_last h_t_one t_wide t_high zt_size t_at t_fault t_newWide t_newHigh t_colours t_now zt_file t_fresh t_colour t_table t_last t_one)) 0 0 (va_A (zwX9 cI h_t h_t_now h_t_file h_t_fresh h_t_colour h_t_table h_t_last h_t_one t_wide t_high t_size t_at t_fault t_newWide t_newHigh t_colours t_now t_file t_fresh t_colour t_table t_last t_one) sz) := by
  refine Met.ofW (cc := cX9_add) (maxL := 2) (ret := none) (by decide) rfl ?_
  intro p e s m args below meth c s₁ B hml hv
  obtain ⟨rfl, hsz, hP, hK, hD0, hN⟩ := hv
  subst hsz
  have C : CallFix p m c cX9_add 2 s [.ref h_t, .int v0].toArray wsX9_add RX9 := ⟨B.exec, B.bytes, hml, findClass_of_methodNamed B.named, atoms_spec (ws := wsX9_add) B.pre⟩
  have hl := lv_entry ([.ref h_t, .int v0]) (n := 2) (Nat.le_of_ble_eq_true rfl)
  rw [lg_entry_eq]
  exact wX9_add_0 (A := va_A (zwX9 cI h_t h_t_now h_t_file h_t_fresh h_t_colour h_t_table h_t_last h_t_one t_wide t_high t_size t_at t_fault t_newWide t_newHigh t_colours t_now t_file t_fresh t_colour t_table t_last t_one) s.heap.size) C hN hK (fun q h => Or.inr h) (fun H locs pc ls d hP hD hS => zend_v C.1 C.2.1 B.returns B.notSynchronized d hP hD hS) hf hP hD0.self va_S.rf hl
def rmX9_addTwo : Room := { frames := 1, cells := 0, slots := 0, locals := 21 }
theorem qX9_addTwo_X9_add_63 {args : Array Value} {s : State} (hts : ∀ w ∈ wsX9_addTwo, w.before args s = true) : CallW rmX9_addTwo s args RX9 RX9 63 yX9_add cX9_add 2 none wsX9_add rmX9_add 0 0 1 := cwV 1 hts gX9_addTwo_X9_add rfl rfl rfl (by decide +kernel) ⟨Nat.le_of_ble_eq_true rfl, Nat.le_of_ble_eq_true rfl⟩
set_option maxHeartbeats 4000000 in
set_option maxRecDepth 100000 in
theorem wX9_addTwo_0 {p : Program} {l : Launch} {e : Env} {s : State} {m : MethodId} {args : Array Value} {below : List Frame} {meth : Method} {c : Code} {D : va_G} {A : Nat → Prop} {Q : State → Prop} {cI : ClassId} {h_t h_t_now h_t_file h_t_fresh h_t_colour h_t_table h_t_last h_t_one : Nat} {t_wide : Int32} {t_high : Int32} {t_at : Int32} {t_fault : Int32} {t_newWide : Int32} {t_newHigh : Int32} {t_colours : Int32} {t_now : Nat → Int32} {t_fresh : Nat → Int32} {t_colour : Nat → Int32} {t_table : Nat → Int32} {t_last : Nat → Int32} {t_one : Nat → Int32} {zt_size : Int32} {zt_file : Nat → Int32} (C : CallFix p m c cX9_addTwo 3 s args wsX9_addTwo RX9) (hN : zN s) (hK : va_K D vwCl [(cI, .int)] s) (hA : ∀ q, s.heap.size ≤ q → A q) (hE : zEv p l e rmX9_addTwo s m args below meth c cX9_addTwo D A Q (zwX9 cI h_t h_t_now h_t_file h_t_fresh h_t_colour h_t_table h_t_last h_t_one t_wide t_high zt_size t_at t_fault t_newWide t_newHigh t_colours t_now zt_file t_fresh t_colour t_table t_last t_one)) {t_size : Int32} {t_file : Nat → Int32} {v0 : Int32} {v1 : Int32} {H : Heap} {locs : List Loc} {ls : Array Slot} : fX9_addTwo t_size t_file v0 v1 = some (zt_size, zt_file) → va_P D vwCl (zwX9 cI h_t h_t_now h_t_file h_t_fresh h_t_colour h_t_table h_t_last h_t_one t_wide t_high t_size t_at t_fault t_newWide t_newHigh t_colours t_now t_file t_fresh t_colour t_table t_last t_one) H → va_D A (zwX9 cI h_t h_t_now h_t_file h_t_fresh h_t_colour h_t_table h_t_last h_t_one t_wide t_high t_size t_at t_fault t_newWide t_newHigh t_colours t_now t_file t_fresh t_colour t_table t_last t_one) → va_S A s.heap H locs → lv_has ls 3 [(0, .ref h_t), (1, .int v0), (2, .int v1)] → W p l e rmX9_addTwo s m args below meth c H locs 0 0 Q (F0 m 0 ls []) := by
  intro hf hP hD hS hl
  obtain ⟨hx, hb, hml, hown, hts⟩ := id C
  unfold fX9_addTwo at hf
  refine lv_aload_n hx hb dX9_addTwo_0 rfl (lv_at hl 0 rfl) ?_
  refine lv_iload_n hx hb dX9_addTwo_1 rfl (lv_at hl 1 rfl) ?_
  obtain ⟨u1, u2, hc3, hf⟩ := zb2_in hf
  refine zc_v (va_runV (As := [.int v0]) (rest := []) C (mX9_add l D cI H.size h_t h_t_now h_t_file h_t_fresh h_t_colour h_t_table h_t_last h_t_one t_wide t_high t_size t_at t_fault t_newWide t_newHigh t_colours t_now t_file t_fresh t_colour t_table t_last t_one v0 u1 u2 hc3) (qX9_addTwo_X9_add_63 hts) ⟨zP_blind, va_recv hK hP (ci := 8) (q0 := 0) rfl rfl, zpre hK hN hP hD [0, 1, 2, 3, 4, 5, 6, 7] rfl rfl⟩ rfl rfl hl.1 rfl (lv_room (Nat.le_of_ble_eq_true rfl)) dX9_addTwo_2 ⟨Nat.zero_le _, Nat.zero_le _⟩) hP hD hS hA [0, 1, 2, 3, 4, 5, 6, 7] [] [0, 1, 2, 3, 4, 5, 6, 7] (ws' := zwX9 cI h_t h_t_now h_t_file h_t_fresh h_t_colour h_t_table h_t_last h_t_one t_wide t_high u1 t_at t_fault t_newWide t_newHigh t_colours t_now u2 t_fresh t_colour t_table t_last t_one) rfl rfl rfl rfl rfl rfl (fun H locs hP hD hS => ?_)
  refine lv_aload_n hx hb dX9_addTwo_5 rfl (lv_at hl 0 rfl) ?_
  refine lv_iload_n hx hb dX9_addTwo_6 rfl (lv_at hl 2 rfl) ?_
  obtain ⟨u4, u5, hc6, hf⟩ := zb2_in hf
  refine zc_v (va_runV (As := [.int v1]) (rest := []) C (mX9_add l D cI H.size h_t h_t_now h_t_file h_t_fresh h_t_colour h_t_table h_t_last h_t_one t_wide t_high u1 t_at t_fault t_newWide t_newHigh t_colours t_now u2 t_fresh t_colour t_table t_last t_one v1 u4 u5 hc6) (qX9_addTwo_X9_add_63 hts) ⟨zP_blind, va_recv hK hP (ci := 8) (q0 := 0) rfl rfl, zpre hK hN hP hD [0, 1, 2, 3, 4, 5, 6, 7] rfl rfl⟩ rfl rfl hl.1 rfl (lv_room (Nat.le_of_ble_eq_true rfl)) dX9_addTwo_7 ⟨Nat.zero_le _, Nat.zero_le _⟩) hP hD hS hA [0, 1, 2, 3, 4, 5, 6, 7] [] [0, 1, 2, 3, 4, 5, 6, 7] (ws' := zwX9 cI h_t h_t_now h_t_file h_t_fresh h_t_colour h_t_table h_t_last h_t_one t_wide t_high u4 t_at t_fault t_newWide t_newHigh t_colours t_now u5 t_fresh t_colour t_table t_last t_one) rfl rfl rfl rfl rfl rfl (fun H locs hP hD hS => ?_)
  cases hf
  exact hE _ _ _ _ dX9_addTwo_10 hP hD hS
set_option maxHeartbeats 4000000 in
set_option maxRecDepth 100000 in
theorem mX9_addTwo (l : Launch) (D : va_G) (cI : ClassId) (sz : Nat) (h_t h_t_now h_t_file h_t_fresh h_t_colour h_t_table h_t_last h_t_one : Nat) (t_wide : Int32) (t_high : Int32) (t_size : Int32) (t_at : Int32) (t_fault : Int32) (t_newWide : Int32) (t_newHigh : Int32) (t_colours : Int32) (t_now : Nat → Int32) (t_file : Nat → Int32) (t_fresh : Nat → Int32) (t_colour : Nat → Int32) (t_table : Nat → Int32) (t_last : Nat → Int32) (t_one : Nat → Int32) (v0 v1 : Int32) (zt_size : Int32) (zt_file : Nat → Int32) (hf : fX9_addTwo t_size t_file v0 v1 = some (zt_size, zt_file)) : Met l yX9_addTwo wsX9_addTwo rmX9_addTwo (va_Pc [.ref h_t, .int v0, .int v1] (zP D [(cI, .int)] (zwX9 cI h_t h_t_now h_t_file h_t_fresh h_t_colour h_t_table h_t_last h_t_one t_wide t_high t_size t_at t_fault t_newWide t_newHigh t_colours t_now t_file t_fresh t_colour t_table t_last t_one) sz)) (zQv D (zwX9 cI h_t h_t_now h_t_file h_t_fresh h_t_colour h_t_table h_t_last h_t_one t_wide t_high t_size t_at t_fault t_newWide t_newHigh t_colours t_now t_file t_fresh t_colour t_table t_last t_one) sz (zwX9 cI h_t h_t_now h_t_file h_t_fresh h_t_colour h_t_table h_t_last h_t_one t_wide t_high zt_size t_at t_fault t_newWide t_newHigh t_colours t_now zt_file t_fresh t_colour t_table t_last t_one)) 0 0 (va_A (zwX9 cI h_t h_t_now h_t_file h_t_fresh h_t_colour h_t_table h_t_last h_t_one t_wide t_high t_size t_at t_fault t_newWide t_newHigh t_colours t_now t_file t_fresh t_colour t_table t_last t_one) sz) := by
  refine Met.ofW (cc := cX9_addTwo) (maxL := 3) (ret := none) (by decide) rfl ?_
  intro p e s m args below meth c s₁ B hml hv
  obtain ⟨rfl, hsz, hP, hK, hD0, hN⟩ := hv
  subst hsz
  have C : CallFix p m c cX9_addTwo 3 s [.ref h_t, .int v0, .int v1].toArray wsX9_addTwo RX9 := ⟨B.exec, B.bytes, hml, findClass_of_methodNamed B.named, atoms_spec (ws := wsX9_addTwo) B.pre⟩
  have hl := lv_entry ([.ref h_t, .int v0, .int v1]) (n := 3) (Nat.le_of_ble_eq_true rfl)
  rw [lg_entry_eq]
  exact wX9_addTwo_0 (A := va_A (zwX9 cI h_t h_t_now h_t_file h_t_fresh h_t_colour h_t_table h_t_last h_t_one t_wide t_high t_size t_at t_fault t_newWide t_newHigh t_colours t_now t_file t_fresh t_colour t_table t_last t_one) s.heap.size) C hN hK (fun q h => Or.inr h) (fun H locs pc ls d hP hD hS => zend_v C.1 C.2.1 B.returns B.notSynchronized d hP hD hS) hf hP hD0.self va_S.rf hl
def rmX9_little : Room := { frames := 1, cells := 0, slots := 0, locals := 21 }
theorem qX9_little_X9_add_63 {args : Array Value} {s : State} (hts : ∀ w ∈ wsX9_little, w.before args s = true) : CallW rmX9_little s args RX9 RX9 63 yX9_add cX9_add 2 none wsX9_add rmX9_add 0 0 1 := cwV 1 hts gX9_little_X9_add rfl rfl rfl (by decide +kernel) ⟨Nat.le_of_ble_eq_true rfl, Nat.le_of_ble_eq_true rfl⟩
set_option maxHeartbeats 4000000 in
set_option maxRecDepth 100000 in
theorem wX9_little_2 {p : Program} {l : Launch} {e : Env} {s : State} {m : MethodId} {args : Array Value} {below : List Frame} {meth : Method} {c : Code} {D : va_G} {A : Nat → Prop} {Q : State → Prop} {cI : ClassId} {h_t h_t_now h_t_file h_t_fresh h_t_colour h_t_table h_t_last h_t_one : Nat} {t_wide : Int32} {t_high : Int32} {t_at : Int32} {t_fault : Int32} {t_newWide : Int32} {t_newHigh : Int32} {t_colours : Int32} {t_now : Nat → Int32} {t_fresh : Nat → Int32} {t_colour : Nat → Int32} {t_table : Nat → Int32} {t_last : Nat → Int32} {t_one : Nat → Int32} {zt_size : Int32} {zt_file : Nat → Int32} (C : CallFix p m c cX9_little 4 s args wsX9_little RX9) (hN : zN s) (hK : va_K D vwCl [(cI, .int)] s) (hA : ∀ q, s.heap.size ≤ q → A q) (hE : zEv p l e rmX9_little s m args below meth c cX9_little D A Q (zwX9 cI h_t h_t_now h_t_file h_t_fresh h_t_colour h_t_table h_t_last h_t_one t_wide t_high zt_size t_at t_fault t_newWide t_newHigh t_colours t_now zt_file t_fresh t_colour t_table t_last t_one)) (n : Nat) : ∀ {t_size : Int32} {t_file : Nat → Int32} {l1 : Int32} {l2 : Int32} {l3 : Int32} {H : Heap} {locs : List Loc} {ls : Array Slot}, fX9_little_2 n t_size t_file l1 l2 l3 = some (zt_size, zt_file) → va_P D vwCl (zwX9 cI h_t h_t_now h_t_file h_t_fresh h_t_colour h_t_table h_t_last h_t_one t_wide t_high t_size t_at t_fault t_newWide t_newHigh t_colours t_now t_file t_fresh t_colour t_table t_last t_one) H → va_D A (zwX9 cI h_t h_t_now h_t_file h_t_fresh h_t_colour h_t_table h_t_last h_t_one t_wide t_high t_size t_at t_fault t_newWide t_newHigh t_colours t_now t_file t_fresh t_colour t_table t_last t_one) → va_S A s.heap H locs → lv_has ls 4 [(0, .ref h_t), (1, .int l1), (2, .int l2), (3, .int l3)] → W p l e rmX9_little s m args below meth c H locs 0 0 Q (F0 m 2 ls []) := by
  obtain ⟨hx, hb, hml, hown, hts⟩ := id C
  induction n with
  | zero =>
    intro t_size t_file l1 l2 l3 H locs ls hf
    cases hf
  | succ n hr_2 =>
    intro t_size t_file l1 l2 l3 H locs ls hf hP hD hS hl
    rw [fX9_little_2_s] at hf
    refine lv_iload_n hx hb dX9_little_2 rfl (lv_at hl 3 rfl) ?_
    refine lv_iload_n hx hb dX9_little_3 rfl (lv_at hl 2 rfl) ?_
    refine lv_icmp_ge (tgt := 23) hx hb dX9_little_4 (by decide) (fun c1 => ?_) (fun c1 => ?_)
    · replace hf := zif_t hf c1
      cases hf
      exact hE _ _ _ _ dX9_little_23 hP hD hS
    · replace hf := zif_f hf c1
      refine lv_aload_n hx hb dX9_little_7 rfl (lv_at hl 0 rfl) ?_
      refine lv_iload_n hx hb dX9_little_8 rfl (lv_at hl 1 rfl) ?_
      refine lv_bipush (v := 8) hx hb dX9_little_9 (by decide) ?_
      refine lv_iload_n hx hb dX9_little_11 rfl (lv_at hl 3 rfl) ?_
      refine lv_imul hx hb dX9_little_12 ?_
      refine lv_ishr hx hb dX9_little_13 ?_
      obtain ⟨u2, u3, hc4, hf⟩ := zb2_in hf
      refine zc_v (va_runV (As := [.int (zshr l1 (8 * l3))]) (rest := []) C (mX9_add l D cI H.size h_t h_t_now h_t_file h_t_fresh h_t_colour h_t_table h_t_last h_t_one t_wide t_high t_size t_at t_fault t_newWide t_newHigh t_colours t_now t_file t_fresh t_colour t_table t_last t_one (zshr l1 (8 * l3)) u2 u3 hc4) (qX9_little_X9_add_63 hts) ⟨zP_blind, va_recv hK hP (ci := 8) (q0 := 0) rfl rfl, zpre hK hN hP hD [0, 1, 2, 3, 4, 5, 6, 7] rfl rfl⟩ rfl rfl hl.1 rfl (lv_room (Nat.le_of_ble_eq_true rfl)) dX9_little_14 ⟨Nat.zero_le _, Nat.zero_le _⟩) hP hD hS hA [0, 1, 2, 3, 4, 5, 6, 7] [] [0, 1, 2, 3, 4, 5, 6, 7] (ws' := zwX9 cI h_t h_t_now h_t_file h_t_fresh h_t_colour h_t_table h_t_last h_t_one t_wide t_high u2 t_at t_fault t_newWide t_newHigh t_colours t_now u3 t_fresh t_colour t_table t_last t_one) rfl rfl rfl rfl rfl rfl (fun H locs hP hD hS => ?_)
      obtain ⟨x5, ex5⟩ : ∃ y : Int32, y = l3 + 1 := ⟨_, rfl⟩
      replace hf := zlet_in hf ex5
      refine lv_iinc (v := x5) (lv' := [(3, .int x5), (0, .ref h_t), (1, .int l1), (2, .int l2)]) hx hb dX9_little_17 hl (k := 3) rfl (by rw [ex5]; rfl) (by decide) rfl (fun ls hl => ?_)
      clear ex5
      refine lv_goto (tgt := 2) hx hb dX9_little_20 (by decide) ?_
      exact hr_2 hf hP hD hS (lv_sub hl [1, 2, 3, 0] rfl)
set_option maxHeartbeats 4000000 in
set_option maxRecDepth 100000 in
theorem wX9_little_0 {p : Program} {l : Launch} {e : Env} {s : State} {m : MethodId} {args : Array Value} {below : List Frame} {meth : Method} {c : Code} {D : va_G} {A : Nat → Prop} {Q : State → Prop} {cI : ClassId} {h_t h_t_now h_t_file h_t_fresh h_t_colour h_t_table h_t_last h_t_one : Nat} {t_wide : Int32} {t_high : Int32} {t_at : Int32} {t_fault : Int32} {t_newWide : Int32} {t_newHigh : Int32} {t_colours : Int32} {t_now : Nat → Int32} {t_fresh : Nat → Int32} {t_colour : Nat → Int32} {t_table : Nat → Int32} {t_last : Nat → Int32} {t_one : Nat → Int32} {zt_size : Int32} {zt_file : Nat → Int32} (C : CallFix p m c cX9_little 4 s args wsX9_little RX9) (hN : zN s) (hK : va_K D vwCl [(cI, .int)] s) (hA : ∀ q, s.heap.size ≤ q → A q) (hE : zEv p l e rmX9_little s m args below meth c cX9_little D A Q (zwX9 cI h_t h_t_now h_t_file h_t_fresh h_t_colour h_t_table h_t_last h_t_one t_wide t_high zt_size t_at t_fault t_newWide t_newHigh t_colours t_now zt_file t_fresh t_colour t_table t_last t_one)) {t_size : Int32} {t_file : Nat → Int32} {v0 : Int32} {v1 : Int32} {H : Heap} {locs : List Loc} {ls : Array Slot} : fX9_little t_size t_file v0 v1 = some (zt_size, zt_file) → va_P D vwCl (zwX9 cI h_t h_t_now h_t_file h_t_fresh h_t_colour h_t_table h_t_last h_t_one t_wide t_high t_size t_at t_fault t_newWide t_newHigh t_colours t_now t_file t_fresh t_colour t_table t_last t_one) H → va_D A (zwX9 cI h_t h_t_now h_t_file h_t_fresh h_t_colour h_t_table h_t_last h_t_one t_wide t_high t_size t_at t_fault t_newWide t_newHigh t_colours t_now t_file t_fresh t_colour t_table t_last t_one) → va_S A s.heap H locs → lv_has ls 4 [(0, .ref h_t), (1, .int v0), (2, .int v1)] → W p l e rmX9_little s m args below meth c H locs 0 0 Q (F0 m 0 ls []) := by
  intro hf hP hD hS hl
  obtain ⟨hx, hb, hml, hown, hts⟩ := id C
  unfold fX9_little at hf
  refine lv_iconst (v := 0) hx hb dX9_little_0 (by decide) ?_
  refine lv_istore_n (lv' := [(3, .int 0), (0, .ref h_t), (1, .int v0), (2, .int v1)]) hx hb dX9_little_1 rfl hl (by decide) rfl (fun ls hl => ?_)
  exact wX9_little_2 C hN hK hA hE 1000 hf hP hD hS (lv_sub hl [1, 2, 3, 0] rfl)
set_option maxHeartbeats 4000000 in
set_option maxRecDepth 100000 in
theorem mX9_little (l : Launch) (D : va_G) (cI : ClassId) (sz : Nat) (h_t h_t_now h_t_file h_t_fresh h_t_colour h_t_table h_t_last h_t_one : Nat) (t_wide : Int32) (t_high : Int32) (t_size : Int32) (t_at : Int32) (t_fault : Int32) (t_newWide : Int32) (t_newHigh : Int32) (t_colours : Int32) (t_now : Nat → Int32) (t_file : Nat → Int32) (t_fresh : Nat → Int32) (t_colour : Nat → Int32) (t_table : Nat → Int32) (t_last : Nat → Int32) (t_one : Nat → Int32) (v0 v1 : Int32) (zt_size : Int32) (zt_file : Nat → Int32) (hf : fX9_little t_size t_file v0 v1 = some (zt_size, zt_file)) : Met l yX9_little wsX9_little rmX9_little (va_Pc [.ref h_t, .int v0, .int v1] (zP D [(cI, .int)] (zwX9 cI h_t h_t_now h_t_file h_t_fresh h_t_colour h_t_table h_t_last h_t_one t_wide t_high t_size t_at t_fault t_newWide t_newHigh t_colours t_now t_file t_fresh t_colour t_table t_last t_one) sz)) (zQv D (zwX9 cI h_t h_t_now h_t_file h_t_fresh h_t_colour h_t_table h_t_last h_t_one t_wide t_high t_size t_at t_fault t_newWide t_newHigh t_colours t_now t_file t_fresh t_colour t_table t_last t_one) sz (zwX9 cI h_t h_t_now h_t_file h_t_fresh h_t_colour h_t_table h_t_last h_t_one t_wide t_high zt_size t_at t_fault t_newWide t_newHigh t_colours t_now zt_file t_fresh t_colour t_table t_last t_one)) 0 0 (va_A (zwX9 cI h_t h_t_now h_t_file h_t_fresh h_t_colour h_t_table h_t_last h_t_one t_wide t_high t_size t_at t_fault t_newWide t_newHigh t_colours t_now t_file t_fresh t_colour t_table t_last t_one) sz) := by
  refine Met.ofW (cc := cX9_little) (maxL := 4) (ret := none) (by decide) rfl ?_
  intro p e s m args below meth c s₁ B hml hv
  obtain ⟨rfl, hsz, hP, hK, hD0, hN⟩ := hv
  subst hsz
  have C : CallFix p m c cX9_little 4 s [.ref h_t, .int v0, .int v1].toArray wsX9_little RX9 := ⟨B.exec, B.bytes, hml, findClass_of_methodNamed B.named, atoms_spec (ws := wsX9_little) B.pre⟩
  have hl := lv_entry ([.ref h_t, .int v0, .int v1]) (n := 4) (Nat.le_of_ble_eq_true rfl)
  rw [lg_entry_eq]
  exact wX9_little_0 (A := va_A (zwX9 cI h_t h_t_now h_t_file h_t_fresh h_t_colour h_t_table h_t_last h_t_one t_wide t_high t_size t_at t_fault t_newWide t_newHigh t_colours t_now t_file t_fresh t_colour t_table t_last t_one) s.heap.size) C hN hK (fun q h => Or.inr h) (fun H locs pc ls d hP hD hS => zend_v C.1 C.2.1 B.returns B.notSynchronized d hP hD hS) hf hP hD0.self va_S.rf hl
def rmX9_big : Room := { frames := 1, cells := 0, slots := 0, locals := 21 }
theorem qX9_big_X9_add_63 {args : Array Value} {s : State} (hts : ∀ w ∈ wsX9_big, w.before args s = true) : CallW rmX9_big s args RX9 RX9 63 yX9_add cX9_add 2 none wsX9_add rmX9_add 0 0 1 := cwV 1 hts gX9_big_X9_add rfl rfl rfl (by decide +kernel) ⟨Nat.le_of_ble_eq_true rfl, Nat.le_of_ble_eq_true rfl⟩
set_option maxHeartbeats 4000000 in
set_option maxRecDepth 100000 in
theorem wX9_big_2 {p : Program} {l : Launch} {e : Env} {s : State} {m : MethodId} {args : Array Value} {below : List Frame} {meth : Method} {c : Code} {D : va_G} {A : Nat → Prop} {Q : State → Prop} {cI : ClassId} {h_t h_t_now h_t_file h_t_fresh h_t_colour h_t_table h_t_last h_t_one : Nat} {t_wide : Int32} {t_high : Int32} {t_at : Int32} {t_fault : Int32} {t_newWide : Int32} {t_newHigh : Int32} {t_colours : Int32} {t_now : Nat → Int32} {t_fresh : Nat → Int32} {t_colour : Nat → Int32} {t_table : Nat → Int32} {t_last : Nat → Int32} {t_one : Nat → Int32} {zt_size : Int32} {zt_file : Nat → Int32} (C : CallFix p m c cX9_big 3 s args wsX9_big RX9) (hN : zN s) (hK : va_K D vwCl [(cI, .int)] s) (hA : ∀ q, s.heap.size ≤ q → A q) (hE : zEv p l e rmX9_big s m args below meth c cX9_big D A Q (zwX9 cI h_t h_t_now h_t_file h_t_fresh h_t_colour h_t_table h_t_last h_t_one t_wide t_high zt_size t_at t_fault t_newWide t_newHigh t_colours t_now zt_file t_fresh t_colour t_table t_last t_one)) (n : Nat) : ∀ {t_size : Int32} {t_file : Nat → Int32} {l1 : Int32} {l2 : Int32} {H : Heap} {locs : List Loc} {ls : Array Slot}, fX9_big_2 n t_size t_file l1 l2 = some (zt_size, zt_file) → va_P D vwCl (zwX9 cI h_t h_t_now h_t_file h_t_fresh h_t_colour h_t_table h_t_last h_t_one t_wide t_high t_size t_at t_fault t_newWide t_newHigh t_colours t_now t_file t_fresh t_colour t_table t_last t_one) H → va_D A (zwX9 cI h_t h_t_now h_t_file h_t_fresh h_t_colour h_t_table h_t_last h_t_one t_wide t_high t_size t_at t_fault t_newWide t_newHigh t_colours t_now t_file t_fresh t_colour t_table t_last t_one) → va_S A s.heap H locs → lv_has ls 3 [(0, .ref h_t), (1, .int l1), (2, .int l2)] → W p l e rmX9_big s m args below meth c H locs 0 0 Q (F0 m 2 ls []) := by
  obtain ⟨hx, hb, hml, hown, hts⟩ := id C
  induction n with
  | zero =>
    intro t_size t_file l1 l2 H locs ls hf
    cases hf
  | succ n hr_2 =>
    intro t_size t_file l1 l2 H locs ls hf hP hD hS hl
    rw [fX9_big_2_s] at hf
    refine lv_iload_n hx hb dX9_big_2 rfl (lv_at hl 2 rfl) ?_
    refine lv_if_lt (tgt := 22) hx hb dX9_big_3 (by decide) (fun c1 => ?_) (fun c1 => ?_)
    · replace hf := zif_t hf c1
      cases hf
      exact hE _ _ _ _ dX9_big_22 hP hD hS
    · replace hf := zif_f hf c1
      refine lv_aload_n hx hb dX9_big_6 rfl (lv_at hl 0 rfl) ?_
      refine lv_iload_n hx hb dX9_big_7 rfl (lv_at hl 1 rfl) ?_
      refine lv_bipush (v := 8) hx hb dX9_big_8 (by decide) ?_
      refine lv_iload_n hx hb dX9_big_10 rfl (lv_at hl 2 rfl) ?_
      refine lv_imul hx hb dX9_big_11 ?_
      refine lv_ishr hx hb dX9_big_12 ?_
      obtain ⟨u2, u3, hc4, hf⟩ := zb2_in hf
      refine zc_v (va_runV (As := [.int (zshr l1 (8 * l2))]) (rest := []) C (mX9_add l D cI H.size h_t h_t_now h_t_file h_t_fresh h_t_colour h_t_table h_t_last h_t_one t_wide t_high t_size t_at t_fault t_newWide t_newHigh t_colours t_now t_file t_fresh t_colour t_table t_last t_one (zshr l1 (8 * l2)) u2 u3 hc4) (qX9_big_X9_add_63 hts) ⟨zP_blind, va_recv hK hP (ci := 8) (q0 := 0) rfl rfl, zpre hK hN hP hD [0, 1, 2, 3, 4, 5, 6, 7] rfl rfl⟩ rfl rfl hl.1 rfl (lv_room (Nat.le_of_ble_eq_true rfl)) dX9_big_13 ⟨Nat.zero_le _, Nat.zero_le _⟩) hP hD hS hA [0, 1, 2, 3, 4, 5, 6, 7] [] [0, 1, 2, 3, 4, 5, 6, 7] (ws' := zwX9 cI h_t h_t_now h_t_file h_t_fresh h_t_colour h_t_table h_t_last h_t_one t_wide t_high u2 t_at t_fault t_newWide t_newHigh t_colours t_now u3 t_fresh t_colour t_table t_last t_one) rfl rfl rfl rfl rfl rfl (fun H locs hP hD hS => ?_)
      obtain ⟨x5, ex5⟩ : ∃ y : Int32, y = l2 + (-1) := ⟨_, rfl⟩
      replace hf := zlet_in hf ex5
      refine lv_iinc (v := x5) (lv' := [(2, .int x5), (0, .ref h_t), (1, .int l1)]) hx hb dX9_big_16 hl (k := 2) rfl (by rw [ex5]; rfl) (by decide) rfl (fun ls hl => ?_)
      clear ex5
      refine lv_goto (tgt := 2) hx hb dX9_big_19 (by decide) ?_
      exact hr_2 hf hP hD hS (lv_sub hl [1, 2, 0] rfl)
set_option maxHeartbeats 4000000 in
set_option maxRecDepth 100000 in
theorem wX9_big_0 {p : Program} {l : Launch} {e : Env} {s : State} {m : MethodId} {args : Array Value} {below : List Frame} {meth : Method} {c : Code} {D : va_G} {A : Nat → Prop} {Q : State → Prop} {cI : ClassId} {h_t h_t_now h_t_file h_t_fresh h_t_colour h_t_table h_t_last h_t_one : Nat} {t_wide : Int32} {t_high : Int32} {t_at : Int32} {t_fault : Int32} {t_newWide : Int32} {t_newHigh : Int32} {t_colours : Int32} {t_now : Nat → Int32} {t_fresh : Nat → Int32} {t_colour : Nat → Int32} {t_table : Nat → Int32} {t_last : Nat → Int32} {t_one : Nat → Int32} {zt_size : Int32} {zt_file : Nat → Int32} (C : CallFix p m c cX9_big 3 s args wsX9_big RX9) (hN : zN s) (hK : va_K D vwCl [(cI, .int)] s) (hA : ∀ q, s.heap.size ≤ q → A q) (hE : zEv p l e rmX9_big s m args below meth c cX9_big D A Q (zwX9 cI h_t h_t_now h_t_file h_t_fresh h_t_colour h_t_table h_t_last h_t_one t_wide t_high zt_size t_at t_fault t_newWide t_newHigh t_colours t_now zt_file t_fresh t_colour t_table t_last t_one)) {t_size : Int32} {t_file : Nat → Int32} {v0 : Int32} {H : Heap} {locs : List Loc} {ls : Array Slot} : fX9_big t_size t_file v0 = some (zt_size, zt_file) → va_P D vwCl (zwX9 cI h_t h_t_now h_t_file h_t_fresh h_t_colour h_t_table h_t_last h_t_one t_wide t_high t_size t_at t_fault t_newWide t_newHigh t_colours t_now t_file t_fresh t_colour t_table t_last t_one) H → va_D A (zwX9 cI h_t h_t_now h_t_file h_t_fresh h_t_colour h_t_table h_t_last h_t_one t_wide t_high t_size t_at t_fault t_newWide t_newHigh t_colours t_now t_file t_fresh t_colour t_table t_last t_one) → va_S A s.heap H locs → lv_has ls 3 [(0, .ref h_t), (1, .int v0)] → W p l e rmX9_big s m args below meth c H locs 0 0 Q (F0 m 0 ls []) := by
  intro hf hP hD hS hl
  obtain ⟨hx, hb, hml, hown, hts⟩ := id C
  unfold fX9_big at hf
  refine lv_iconst (v := 3) hx hb dX9_big_0 (by decide) ?_
  refine lv_istore_n (lv' := [(2, .int 3), (0, .ref h_t), (1, .int v0)]) hx hb dX9_big_1 rfl hl (by decide) rfl (fun ls hl => ?_)
  exact wX9_big_2 C hN hK hA hE 1000 hf hP hD hS (lv_sub hl [1, 2, 0] rfl)
set_option maxHeartbeats 4000000 in
set_option maxRecDepth 100000 in
theorem mX9_big (l : Launch) (D : va_G) (cI : ClassId) (sz : Nat) (h_t h_t_now h_t_file h_t_fresh h_t_colour h_t_table h_t_last h_t_one : Nat) (t_wide : Int32) (t_high : Int32) (t_size : Int32) (t_at : Int32) (t_fault : Int32) (t_newWide : Int32) (t_newHigh : Int32) (t_colours : Int32) (t_now : Nat → Int32) (t_file : Nat → Int32) (t_fresh : Nat → Int32) (t_colour : Nat → Int32) (t_table : Nat → Int32) (t_last : Nat → Int32) (t_one : Nat → Int32) (v0 : Int32) (zt_size : Int32) (zt_file : Nat → Int32) (hf : fX9_big t_size t_file v0 = some (zt_size, zt_file)) : Met l yX9_big wsX9_big rmX9_big (va_Pc [.ref h_t, .int v0] (zP D [(cI, .int)] (zwX9 cI h_t h_t_now h_t_file h_t_fresh h_t_colour h_t_table h_t_last h_t_one t_wide t_high t_size t_at t_fault t_newWide t_newHigh t_colours t_now t_file t_fresh t_colour t_table t_last t_one) sz)) (zQv D (zwX9 cI h_t h_t_now h_t_file h_t_fresh h_t_colour h_t_table h_t_last h_t_one t_wide t_high t_size t_at t_fault t_newWide t_newHigh t_colours t_now t_file t_fresh t_colour t_table t_last t_one) sz (zwX9 cI h_t h_t_now h_t_file h_t_fresh h_t_colour h_t_table h_t_last h_t_one t_wide t_high zt_size t_at t_fault t_newWide t_newHigh t_colours t_now zt_file t_fresh t_colour t_table t_last t_one)) 0 0 (va_A (zwX9 cI h_t h_t_now h_t_file h_t_fresh h_t_colour h_t_table h_t_last h_t_one t_wide t_high t_size t_at t_fault t_newWide t_newHigh t_colours t_now t_file t_fresh t_colour t_table t_last t_one) sz) := by
  refine Met.ofW (cc := cX9_big) (maxL := 3) (ret := none) (by decide) rfl ?_
  intro p e s m args below meth c s₁ B hml hv
  obtain ⟨rfl, hsz, hP, hK, hD0, hN⟩ := hv
  subst hsz
  have C : CallFix p m c cX9_big 3 s [.ref h_t, .int v0].toArray wsX9_big RX9 := ⟨B.exec, B.bytes, hml, findClass_of_methodNamed B.named, atoms_spec (ws := wsX9_big) B.pre⟩
  have hl := lv_entry ([.ref h_t, .int v0]) (n := 3) (Nat.le_of_ble_eq_true rfl)
  rw [lg_entry_eq]
  exact wX9_big_0 (A := va_A (zwX9 cI h_t h_t_now h_t_file h_t_fresh h_t_colour h_t_table h_t_last h_t_one t_wide t_high t_size t_at t_fault t_newWide t_newHigh t_colours t_now t_file t_fresh t_colour t_table t_last t_one) s.heap.size) C hN hK (fun q h => Or.inr h) (fun H locs pc ls d hP hD hS => zend_v C.1 C.2.1 B.returns B.notSynchronized d hP hD hS) hf hP hD0.self va_S.rf hl
def rmX9_backwards : Room := { frames := 1, cells := 0, slots := 0, locals := 22 }
theorem qX9_backwards_X9_add_63 {args : Array Value} {s : State} (hts : ∀ w ∈ wsX9_backwards, w.before args s = true) : CallW rmX9_backwards s args RX9 RX9 63 yX9_add cX9_add 2 none wsX9_add rmX9_add 0 0 1 := cwV 1 hts gX9_backwards_X9_add rfl rfl rfl (by decide +kernel) ⟨Nat.le_of_ble_eq_true rfl, Nat.le_of_ble_eq_true rfl⟩
theorem qX9_backwards_X9_channel_49 {args : Array Value} {s : State} (hts : ∀ w ∈ wsX9_backwards, w.before args s = true) : CallW rmX9_backwards s args RX9 RX9 49 yX9_channel cX9_channel 3 (some .int) wsX9_channel rmX9_channel 0 0 2 := cwV 2 hts gX9_backwards_X9_channel rfl rfl rfl (by decide +kernel) ⟨Nat.le_of_ble_eq_true rfl, Nat.le_of_ble_eq_true rfl⟩
set_option maxHeartbeats 4000000 in
set_option maxRecDepth 100000 in
theorem wX9_backwards_0 {p : Program} {l : Launch} {e : Env} {s : State} {m : MethodId} {args : Array Value} {below : List Frame} {meth : Method} {c : Code} {D : va_G} {A : Nat → Prop} {Q : State → Prop} {cI : ClassId} {h_t h_t_now h_t_file h_t_fresh h_t_colour h_t_table h_t_last h_t_one : Nat} {t_wide : Int32} {t_high : Int32} {t_at : Int32} {t_fault : Int32} {t_newWide : Int32} {t_newHigh : Int32} {t_colours : Int32} {t_now : Nat → Int32} {t_fresh : Nat → Int32} {t_colour : Nat → Int32} {t_table : Nat → Int32} {t_last : Nat → Int32} {t_one : Nat → Int32} {zt_size : Int32} {zt_file : Nat → Int32} (C : CallFix p m c cX9_backwards 2 s args wsX9_backwards RX9) (hN : zN s) (hK : va_K D vwCl [(cI, .int)] s) (hA : ∀ q, s.heap.size ≤ q → A q) (hE : zEv p l e rmX9_backwards s m args below meth c cX9_backwards D A Q (zwX9 cI h_t h_t_now h_t_file h_t_fresh h_t_colour h_t_table h_t_last h_t_one t_wide t_high zt_size t_at t_fault t_newWide t_newHigh t_colours t_now zt_file t_fresh t_colour t_table t_last t_one)) {t_size : Int32} {t_file : Nat → Int32} {v0 : Int32} {H : Heap} {locs : List Loc} {ls : Array Slot} : fX9_backwards t_wide t_size t_now t_file v0 = some (zt_size, zt_file) → va_P D vwCl (zwX9 cI h_t h_t_now h_t_file h_t_fresh h_t_colour h_t_table h_t_last h_t_one t_wide t_high t_size t_at t_fault t_newWide t_newHigh t_colours t_now t_file t_fresh t_colour t_table t_last t_one) H → va_D A (zwX9 cI h_t h_t_now h_t_file h_t_fresh h_t_colour h_t_table h_t_last h_t_one t_wide t_high t_size t_at t_fault t_newWide t_newHigh t_colours t_now t_file t_fresh t_colour t_table t_last t_one) → va_S A s.heap H locs → lv_has ls 2 [(0, .ref h_t), (1, .int v0)] → W p l e rmX9_backwards s m args below meth c H locs 0 0 Q (F0 m 0 ls []) := by
  intro hf hP hD hS hl
  obtain ⟨hx, hb, hml, hown, hts⟩ := id C
  unfold fX9_backwards at hf
  refine lv_aload_n hx hb dX9_backwards_0 rfl (lv_at hl 0 rfl) ?_
  refine lv_aload_n hx hb dX9_backwards_1 rfl (lv_at hl 0 rfl) ?_
  refine lv_iload_n hx hb dX9_backwards_2 rfl (lv_at hl 1 rfl) ?_
  refine lv_iconst (v := 2) hx hb dX9_backwards_3 (by decide) ?_
  obtain ⟨r1, hc2, hf⟩ := zb1_in hf
  refine zc_i (va_runV (As := [.int v0, .int 2]) (rest := [.ref h_t]) C (mX9_channel l D cI H.size h_t h_t_now h_t_file h_t_fresh h_t_colour h_t_table h_t_last h_t_one t_wide t_high t_size t_at t_fault t_newWide t_newHigh t_colours t_now t_file t_fresh t_colour t_table t_last t_one v0 2 r1 hc2) (qX9_backwards_X9_channel_49 hts) ⟨zP_blind, va_recv hK hP (ci := 8) (q0 := 0) rfl rfl, zpre hK hN hP hD [0, 1, 2, 3, 4, 5, 6, 7] rfl rfl⟩ rfl rfl hl.1 rfl (lv_room (Nat.le_of_ble_eq_true rfl)) dX9_backwards_4 ⟨Nat.zero_le _, Nat.zero_le _⟩) hP hD hS hA [0, 1, 2, 3, 4, 5, 6, 7] [] [0, 1, 2, 3, 4, 5, 6, 7] (ws' := zwX9 cI h_t h_t_now h_t_file h_t_fresh h_t_colour h_t_table h_t_last h_t_one t_wide t_high t_size t_at t_fault t_newWide t_newHigh t_colours t_now t_file t_fresh t_colour t_table t_last t_one) rfl rfl rfl rfl rfl rfl (fun H locs hP hD hS => ?_)
  obtain ⟨u3, u4, hc5, hf⟩ := zb2_in hf
  refine zc_v (va_runV (As := [.int r1]) (rest := []) C (mX9_add l D cI H.size h_t h_t_now h_t_file h_t_fresh h_t_colour h_t_table h_t_last h_t_one t_wide t_high t_size t_at t_fault t_newWide t_newHigh t_colours t_now t_file t_fresh t_colour t_table t_last t_one r1 u3 u4 hc5) (qX9_backwards_X9_add_63 hts) ⟨zP_blind, va_recv hK hP (ci := 8) (q0 := 0) rfl rfl, zpre hK hN hP hD [0, 1, 2, 3, 4, 5, 6, 7] rfl rfl⟩ rfl rfl hl.1 rfl (lv_room (Nat.le_of_ble_eq_true rfl)) dX9_backwards_7 ⟨Nat.zero_le _, Nat.zero_le _⟩) hP hD hS hA [0, 1, 2, 3, 4, 5, 6, 7] [] [0, 1, 2, 3, 4, 5, 6, 7] (ws' := zwX9 cI h_t h_t_now h_t_file h_t_fresh h_t_colour h_t_table h_t_last h_t_one t_wide t_high u3 t_at t_fault t_newWide t_newHigh t_colours t_now u4 t_fresh t_colour t_table t_last t_one) rfl rfl rfl rfl rfl rfl (fun H locs hP hD hS => ?_)
  refine lv_aload_n hx hb dX9_backwards_10 rfl (lv_at hl 0 rfl) ?_
  refine lv_aload_n hx hb dX9_backwards_11 rfl (lv_at hl 0 rfl) ?_
  refine lv_iload_n hx hb dX9_backwards_12 rfl (lv_at hl 1 rfl) ?_
  refine lv_iconst (v := 1) hx hb dX9_backwards_13 (by decide) ?_
  obtain ⟨r6, hc7, hf⟩ := zb1_in hf
  refine zc_i (va_runV (As := [.int v0, .int 1]) (rest := [.ref h_t]) C (mX9_channel l D cI H.size h_t h_t_now h_t_file h_t_fresh h_t_colour h_t_table h_t_last h_t_one t_wide t_high u3 t_at t_fault t_newWide t_newHigh t_colours t_now u4 t_fresh t_colour t_table t_last t_one v0 1 r6 hc7) (qX9_backwards_X9_channel_49 hts) ⟨zP_blind, va_recv hK hP (ci := 8) (q0 := 0) rfl rfl, zpre hK hN hP hD [0, 1, 2, 3, 4, 5, 6, 7] rfl rfl⟩ rfl rfl hl.1 rfl (lv_room (Nat.le_of_ble_eq_true rfl)) dX9_backwards_14 ⟨Nat.zero_le _, Nat.zero_le _⟩) hP hD hS hA [0, 1, 2, 3, 4, 5, 6, 7] [] [0, 1, 2, 3, 4, 5, 6, 7] (ws' := zwX9 cI h_t h_t_now h_t_file h_t_fresh h_t_colour h_t_table h_t_last h_t_one t_wide t_high u3 t_at t_fault t_newWide t_newHigh t_colours t_now u4 t_fresh t_colour t_table t_last t_one) rfl rfl rfl rfl rfl rfl (fun H locs hP hD hS => ?_)
  obtain ⟨u8, u9, hc10, hf⟩ := zb2_in hf
  refine zc_v (va_runV (As := [.int r6]) (rest := []) C (mX9_add l D cI H.size h_t h_t_now h_t_file h_t_fresh h_t_colour h_t_table h_t_last h_t_one t_wide t_high u3 t_at t_fault t_newWide t_newHigh t_colours t_now u4 t_fresh t_colour t_table t_last t_one r6 u8 u9 hc10) (qX9_backwards_X9_add_63 hts) ⟨zP_blind, va_recv hK hP (ci := 8) (q0 := 0) rfl rfl, zpre hK hN hP hD [0, 1, 2, 3, 4, 5, 6, 7] rfl rfl⟩ rfl rfl hl.1 rfl (lv_room (Nat.le_of_ble_eq_true rfl)) dX9_backwards_17 ⟨Nat.zero_le _, Nat.zero_le _⟩) hP hD hS hA [0, 1, 2, 3, 4, 5, 6, 7] [] [0, 1, 2, 3, 4, 5, 6, 7] (ws' := zwX9 cI h_t h_t_now h_t_file h_t_fresh h_t_colour h_t_table h_t_last h_t_one t_wide t_high u8 t_at t_fault t_newWide t_newHigh t_colours t_now u9 t_fresh t_colour t_table t_last t_one) rfl rfl rfl rfl rfl rfl (fun H locs hP hD hS => ?_)
  refine lv_aload_n hx hb dX9_backwards_20 rfl (lv_at hl 0 rfl) ?_
  refine lv_aload_n hx hb dX9_backwards_21 rfl (lv_at hl 0 rfl) ?_
  refine lv_iload_n hx hb dX9_backwards_22 rfl (lv_at hl 1 rfl) ?_
  refine lv_iconst (v := 0) hx hb dX9_backwards_23 (by decide) ?_
  obtain ⟨r11, hc12, hf⟩ := zb1_in hf
  refine zc_i (va_runV (As := [.int v0, .int 0]) (rest := [.ref h_t]) C (mX9_channel l D cI H.size h_t h_t_now h_t_file h_t_fresh h_t_colour h_t_table h_t_last h_t_one t_wide t_high u8 t_at t_fault t_newWide t_newHigh t_colours t_now u9 t_fresh t_colour t_table t_last t_one v0 0 r11 hc12) (qX9_backwards_X9_channel_49 hts) ⟨zP_blind, va_recv hK hP (ci := 8) (q0 := 0) rfl rfl, zpre hK hN hP hD [0, 1, 2, 3, 4, 5, 6, 7] rfl rfl⟩ rfl rfl hl.1 rfl (lv_room (Nat.le_of_ble_eq_true rfl)) dX9_backwards_24 ⟨Nat.zero_le _, Nat.zero_le _⟩) hP hD hS hA [0, 1, 2, 3, 4, 5, 6, 7] [] [0, 1, 2, 3, 4, 5, 6, 7] (ws' := zwX9 cI h_t h_t_now h_t_file h_t_fresh h_t_colour h_t_table h_t_last h_t_one t_wide t_high u8 t_at t_fault t_newWide t_newHigh t_colours t_now u9 t_fresh t_colour t_table t_last t_one) rfl rfl rfl rfl rfl rfl (fun H locs hP hD hS => ?_)
  obtain ⟨u13, u14, hc15, hf⟩ := zb2_in hf
  refine zc_v (va_runV (As := [.int r11]) (rest := []) C (mX9_add l D cI H.size h_t h_t_now h_t_file h_t_fresh h_t_colour h_t_table h_t_last h_t_one t_wide t_high u8 t_at t_fault t_newWide t_newHigh t_colours t_now u9 t_fresh t_colour t_table t_last t_one r11 u13 u14 hc15) (qX9_backwards_X9_add_63 hts) ⟨zP_blind, va_recv hK hP (ci := 8) (q0 := 0) rfl rfl, zpre hK hN hP hD [0, 1, 2, 3, 4, 5, 6, 7] rfl rfl⟩ rfl rfl hl.1 rfl (lv_room (Nat.le_of_ble_eq_true rfl)) dX9_backwards_27 ⟨Nat.zero_le _, Nat.zero_le _⟩) hP hD hS hA [0, 1, 2, 3, 4, 5, 6, 7] [] [0, 1, 2, 3, 4, 5, 6, 7] (ws' := zwX9 cI h_t h_t_now h_t_file h_t_fresh h_t_colour h_t_table h_t_last h_t_one t_wide t_high u13 t_at t_fault t_newWide t_newHigh t_colours t_now u14 t_fresh t_colour t_table t_last t_one) rfl rfl rfl rfl rfl rfl (fun H locs hP hD hS => ?_)
  cases hf
  exact hE _ _ _ _ dX9_backwards_30 hP hD hS
set_option maxHeartbeats 4000000 in
set_option maxRecDepth 100000 in
theorem mX9_backwards (l : Launch) (D : va_G) (cI : ClassId) (sz : Nat) (h_t h_t_now h_t_file h_t_fresh h_t_colour h_t_table h_t_last h_t_one : Nat) (t_wide : Int32) (t_high : Int32) (t_size : Int32) (t_at : Int32) (t_fault : Int32) (t_newWide : Int32) (t_newHigh : Int32) (t_colours : Int32) (t_now : Nat → Int32) (t_file : Nat → Int32) (t_fresh : Nat → Int32) (t_colour : Nat → Int32) (t_table : Nat → Int32) (t_last : Nat → Int32) (t_one : Nat → Int32) (v0 : Int32) (zt_size : Int32) (zt_file : Nat → Int32) (hf : fX9_backwards t_wide t_size t_now t_file v0 = some (zt_size, zt_file)) : Met l yX9_backwards wsX9_backwards rmX9_backwards (va_Pc [.ref h_t, .int v0] (zP D [(cI, .int)] (zwX9 cI h_t h_t_now h_t_file h_t_fresh h_t_colour h_t_table h_t_last h_t_one t_wide t_high t_size t_at t_fault t_newWide t_newHigh t_colours t_now t_file t_fresh t_colour t_table t_last t_one) sz)) (zQv D (zwX9 cI h_t h_t_now h_t_file h_t_fresh h_t_colour h_t_table h_t_last h_t_one t_wide t_high t_size t_at t_fault t_newWide t_newHigh t_colours t_now t_file t_fresh t_colour t_table t_last t_one) sz (zwX9 cI h_t h_t_now h_t_file h_t_fresh h_t_colour h_t_table h_t_last h_t_one t_wide t_high zt_size t_at t_fault t_newWide t_newHigh t_colours t_now zt_file t_fresh t_colour t_table t_last t_one)) 0 0 (va_A (zwX9 cI h_t h_t_now h_t_file h_t_fresh h_t_colour h_t_table h_t_last h_t_one t_wide t_high t_size t_at t_fault t_newWide t_newHigh t_colours t_now t_file t_fresh t_colour t_table t_last t_one) sz) := by
  refine Met.ofW (cc := cX9_backwards) (maxL := 2) (ret := none) (by decide) rfl ?_
  intro p e s m args below meth c s₁ B hml hv
  obtain ⟨rfl, hsz, hP, hK, hD0, hN⟩ := hv
  subst hsz
  have C : CallFix p m c cX9_backwards 2 s [.ref h_t, .int v0].toArray wsX9_backwards RX9 := ⟨B.exec, B.bytes, hml, findClass_of_methodNamed B.named, atoms_spec (ws := wsX9_backwards) B.pre⟩
  have hl := lv_entry ([.ref h_t, .int v0]) (n := 2) (Nat.le_of_ble_eq_true rfl)
  rw [lg_entry_eq]
  exact wX9_backwards_0 (A := va_A (zwX9 cI h_t h_t_now h_t_file h_t_fresh h_t_colour h_t_table h_t_last h_t_one t_wide t_high t_size t_at t_fault t_newWide t_newHigh t_colours t_now t_file t_fresh t_colour t_table t_last t_one) s.heap.size) C hN hK (fun q h => Or.inr h) (fun H locs pc ls d hP hD hS => zend_v C.1 C.2.1 B.returns B.notSynchronized d hP hD hS) hf hP hD0.self va_S.rf hl
def rmX9_signed : Room := { frames := 0, cells := 0, slots := 0, locals := 0 }
set_option maxHeartbeats 4000000 in
set_option maxRecDepth 100000 in
theorem wX9_signed_0 {p : Program} {l : Launch} {e : Env} {s : State} {m : MethodId} {args : Array Value} {below : List Frame} {meth : Method} {c : Code} {D : va_G} {A : Nat → Prop} {Q : State → Prop} {cI : ClassId} {r0 : Int32} (C : CallFix p m c cX9_signed 2 s args wsX9_signed RX9) (hN : zN s) (hK : va_K D vwCl [(cI, .int)] s) (hA : ∀ q, s.heap.size ≤ q → A q) (hE : zEi p l e rmX9_signed s m args below meth c cX9_signed D A Q (([] : va_W)) r0) {v0 : Int32} {H : Heap} {locs : List Loc} {ls : Array Slot} : fX9_signed v0 = some r0 → va_P D vwCl (([] : va_W)) H → va_D A (([] : va_W)) → va_S A s.heap H locs → lv_has ls 2 [(0, .int v0)] → W p l e rmX9_signed s m args below meth c H locs 0 0 Q (F0 m 0 ls []) := by
  intro hf hP hD hS hl
  obtain ⟨hx, hb, hml, hown, hts⟩ := id C
  unfold fX9_signed at hf
  refine lv_iload_n hx hb dX9_signed_0 rfl (lv_at hl 0 rfl) ?_
  refine lv_sipush (v := 255) hx hb dX9_signed_1 (by decide) ?_
  refine lv_iand hx hb dX9_signed_4 ?_
  refine lv_topi (fun x1 ex1 => ?_)
  replace hf := zlet_in hf ex1
  clear ex1
  refine lv_istore_n (lv' := [(1, .int x1), (0, .int v0)]) hx hb dX9_signed_5 rfl hl (by decide) rfl (fun ls hl => ?_)
  refine lv_iload_n hx hb dX9_signed_6 rfl (lv_at hl 0 rfl) ?_
  refine lv_bipush (v := 127) hx hb dX9_signed_7 (by decide) ?_
  refine lv_icmp_le (tgt := 20) hx hb dX9_signed_9 (by decide) (fun c2 => ?_) (fun c2 => ?_)
  · replace hf := zif_t hf c2
    refine lv_iload_n hx hb dX9_signed_20 rfl (lv_at hl 0 rfl) ?_
    cases hf
    exact hE _ _ _ _ dX9_signed_21 hP hD hS
  · replace hf := zif_f hf c2
    refine lv_iload_n hx hb dX9_signed_12 rfl (lv_at hl 0 rfl) ?_
    refine lv_sipush (v := 256) hx hb dX9_signed_13 (by decide) ?_
    refine lv_isub hx hb dX9_signed_16 ?_
    refine lv_goto (tgt := 21) hx hb dX9_signed_17 (by decide) ?_
    cases hf
    exact hE _ _ _ _ dX9_signed_21 hP hD hS
set_option maxHeartbeats 4000000 in
set_option maxRecDepth 100000 in
theorem mX9_signed (l : Launch) (D : va_G) (cI : ClassId) (sz : Nat) (v0 : Int32) (r0 : Int32) (hf : fX9_signed v0 = some r0) : Met l yX9_signed wsX9_signed rmX9_signed (va_Pc [.int v0] (zP D [(cI, .int)] (([] : va_W)) sz)) (zQi D (([] : va_W)) sz r0 (([] : va_W))) 0 0 (va_A (([] : va_W)) sz) := by
  refine Met.ofW (cc := cX9_signed) (maxL := 2) (ret := (some .int)) (by decide) rfl ?_
  intro p e s m args below meth c s₁ B hml hv
  obtain ⟨rfl, hsz, hP, hK, hD0, hN⟩ := hv
  subst hsz
  have C : CallFix p m c cX9_signed 2 s [.int v0].toArray wsX9_signed RX9 := ⟨B.exec, B.bytes, hml, findClass_of_methodNamed B.named, atoms_spec (ws := wsX9_signed) B.pre⟩
  have hl := lv_entry ([.int v0]) (n := 2) (Nat.le_of_ble_eq_true rfl)
  rw [lg_entry_eq]
  exact wX9_signed_0 (A := va_A (([] : va_W)) s.heap.size) C hN hK (fun q h => Or.inr h) (fun H locs pc ls d hP hD hS => zend_i C.1 C.2.1 B.returns B.notSynchronized d hP hD hS) hf hP hD0.self va_S.rf hl
def rmX9_placeOf : Room := { frames := 0, cells := 0, slots := 0, locals := 0 }
set_option maxHeartbeats 4000000 in
set_option maxRecDepth 100000 in
theorem wX9_placeOf_0 {p : Program} {l : Launch} {e : Env} {s : State} {m : MethodId} {args : Array Value} {below : List Frame} {meth : Method} {c : Code} {D : va_G} {A : Nat → Prop} {Q : State → Prop} {cI : ClassId} {r0 : Int32} (C : CallFix p m c cX9_placeOf 4 s args wsX9_placeOf RX9) (hN : zN s) (hK : va_K D vwCl [(cI, .int)] s) (hA : ∀ q, s.heap.size ≤ q → A q) (hE : zEi p l e rmX9_placeOf s m args below meth c cX9_placeOf D A Q (([] : va_W)) r0) {v0 : Int32} {v1 : Int32} {v2 : Int32} {v3 : Int32} {H : Heap} {locs : List Loc} {ls : Array Slot} : fX9_placeOf v0 v1 v2 v3 = some r0 → va_P D vwCl (([] : va_W)) H → va_D A (([] : va_W)) → va_S A s.heap H locs → lv_has ls 4 [(0, .int v0), (1, .int v1), (2, .int v2), (3, .int v3)] → W p l e rmX9_placeOf s m args below meth c H locs 0 0 Q (F0 m 0 ls []) := by
  intro hf hP hD hS hl
  obtain ⟨hx, hb, hml, hown, hts⟩ := id C
  unfold fX9_placeOf at hf
  refine lv_iconst (v := 3) hx hb dX9_placeOf_0 (by decide) ?_
  refine lv_iload_n hx hb dX9_placeOf_1 rfl (lv_at hl 0 rfl) ?_
  refine lv_imul hx hb dX9_placeOf_2 ?_
  refine lv_iconst (v := 5) hx hb dX9_placeOf_3 (by decide) ?_
  refine lv_iload_n hx hb dX9_placeOf_4 rfl (lv_at hl 1 rfl) ?_
  refine lv_imul hx hb dX9_placeOf_5 ?_
  refine lv_iadd hx hb dX9_placeOf_6 ?_
  refine lv_bipush (v := 7) hx hb dX9_placeOf_7 (by decide) ?_
  refine lv_iload_n hx hb dX9_placeOf_9 rfl (lv_at hl 2 rfl) ?_
  refine lv_imul hx hb dX9_placeOf_10 ?_
  refine lv_iadd hx hb dX9_placeOf_11 ?_
  refine lv_bipush (v := 11) hx hb dX9_placeOf_12 (by decide) ?_
  refine lv_iload_n hx hb dX9_placeOf_14 rfl (lv_at hl 3 rfl) ?_
  refine lv_imul hx hb dX9_placeOf_15 ?_
  refine lv_iadd hx hb dX9_placeOf_16 ?_
  refine lv_bipush (v := 64) hx hb dX9_placeOf_17 (by decide) ?_
  refine lv_irem hx hb dX9_placeOf_19 (by decide) ?_
  cases hf
  exact hE _ _ _ _ dX9_placeOf_20 hP hD hS
set_option maxHeartbeats 4000000 in
set_option maxRecDepth 100000 in
theorem mX9_placeOf (l : Launch) (D : va_G) (cI : ClassId) (sz : Nat) (v0 v1 v2 v3 : Int32) (r0 : Int32) (hf : fX9_placeOf v0 v1 v2 v3 = some r0) : Met l yX9_placeOf wsX9_placeOf rmX9_placeOf (va_Pc [.int v0, .int v1, .int v2, .int v3] (zP D [(cI, .int)] (([] : va_W)) sz)) (zQi D (([] : va_W)) sz r0 (([] : va_W))) 0 0 (va_A (([] : va_W)) sz) := by
  refine Met.ofW (cc := cX9_placeOf) (maxL := 4) (ret := (some .int)) (by decide) rfl ?_
  intro p e s m args below meth c s₁ B hml hv
  obtain ⟨rfl, hsz, hP, hK, hD0, hN⟩ := hv
  subst hsz
  have C : CallFix p m c cX9_placeOf 4 s [.int v0, .int v1, .int v2, .int v3].toArray wsX9_placeOf RX9 := ⟨B.exec, B.bytes, hml, findClass_of_methodNamed B.named, atoms_spec (ws := wsX9_placeOf) B.pre⟩
  have hl := lv_entry ([.int v0, .int v1, .int v2, .int v3]) (n := 4) (Nat.le_of_ble_eq_true rfl)
  rw [lg_entry_eq]
  exact wX9_placeOf_0 (A := va_A (([] : va_W)) s.heap.size) C hN hK (fun q h => Or.inr h) (fun H locs pc ls d hP hD hS => zend_i C.1 C.2.1 B.returns B.notSynchronized d hP hD hS) hf hP hD0.self va_S.rf hl
def rmX9_differs : Room := { frames := 1, cells := 0, slots := 0, locals := 22 }
theorem kX9_differs_32 {args : Array Value} {s : State} (h : ∀ w ∈ wsX9_differs, w.before args s = true) : (Cond.fieldLink RX9 32 "FourPictureFilesModel" "last" "[I").before args s = true := h _ (by decide +kernel)
theorem iX9_differs_X9 : ∀ w ∈ u_ws RX9 TX9 15, w ∈ wsX9_differs := by decide +kernel
theorem qX9_differs_X9_add_63 {args : Array Value} {s : State} (hts : ∀ w ∈ wsX9_differs, w.before args s = true) : CallW rmX9_differs s args RX9 RX9 63 yX9_add cX9_add 2 none wsX9_add rmX9_add 0 0 1 := cwV 1 hts gX9_differs_X9_add rfl rfl rfl (by decide +kernel) ⟨Nat.le_of_ble_eq_true rfl, Nat.le_of_ble_eq_true rfl⟩
theorem qX9_differs_X9_channel_49 {args : Array Value} {s : State} (hts : ∀ w ∈ wsX9_differs, w.before args s = true) : CallW rmX9_differs s args RX9 RX9 49 yX9_channel cX9_channel 3 (some .int) wsX9_channel rmX9_channel 0 0 2 := cwV 2 hts gX9_differs_X9_channel rfl rfl rfl (by decide +kernel) ⟨Nat.le_of_ble_eq_true rfl, Nat.le_of_ble_eq_true rfl⟩
theorem qX9_differs_X9_signed_67 {args : Array Value} {s : State} (hts : ∀ w ∈ wsX9_differs, w.before args s = true) : CallB rmX9_differs s args RX9 67 yX9_signed cX9_signed 2 (some .int) wsX9_signed rmX9_signed 0 0 1 ∧ (Cond.static yX9_signed).before args s = true := va_cwS 1 hts gX9_differs_X9_signed rfl rfl rfl (by decide +kernel) ⟨Nat.le_of_ble_eq_true rfl, Nat.le_of_ble_eq_true rfl⟩
set_option maxHeartbeats 4000000 in
set_option maxRecDepth 100000 in
theorem wX9_differs_290 {p : Program} {l : Launch} {e : Env} {s : State} {m : MethodId} {args : Array Value} {below : List Frame} {meth : Method} {c : Code} {D : va_G} {A : Nat → Prop} {Q : State → Prop} {cI : ClassId} {h_t h_t_now h_t_file h_t_fresh h_t_colour h_t_table h_t_last h_t_one : Nat} {t_wide : Int32} {t_high : Int32} {t_at : Int32} {t_fault : Int32} {t_newWide : Int32} {t_newHigh : Int32} {t_colours : Int32} {t_now : Nat → Int32} {t_fresh : Nat → Int32} {t_colour : Nat → Int32} {t_table : Nat → Int32} {t_last : Nat → Int32} {t_one : Nat → Int32} {zt_size : Int32} {zt_file : Nat → Int32} (C : CallFix p m c cX9_differs 11 s args wsX9_differs RX9) (hN : zN s) (hK : va_K D vwCl [(cI, .int)] s) (hA : ∀ q, s.heap.size ≤ q → A q) (hE : zEv p l e rmX9_differs s m args below meth c cX9_differs D A Q (zwX9 cI h_t h_t_now h_t_file h_t_fresh h_t_colour h_t_table h_t_last h_t_one t_wide t_high zt_size t_at t_fault t_newWide t_newHigh t_colours t_now zt_file t_fresh t_colour t_table t_last t_one)) {rc278 : Int32 → Int32 → (Nat → Int32) → (Nat → Int32) → Int32 → Int32 → Int32 → Option (Int32 × (Nat → Int32))} (hr_278 : ∀ {t_size : Int32} {t_file : Nat → Int32} {l1 : Int32} {l2 : Int32} {l3 : Int32} {l4 : Int32} {l5 : Int32} {l6 : Int32} {l7 : Int32} {l8 : Int32} {l9 : Int32} {l10 : Int32} {H : Heap} {locs : List Loc} {ls : Array Slot}, rc278 t_wide t_size t_now t_file l1 l7 l10 = some (zt_size, zt_file) → va_P D vwCl (zwX9 cI h_t h_t_now h_t_file h_t_fresh h_t_colour h_t_table h_t_last h_t_one t_wide t_high t_size t_at t_fault t_newWide t_newHigh t_colours t_now t_file t_fresh t_colour t_table t_last t_one) H → va_D A (zwX9 cI h_t h_t_now h_t_file h_t_fresh h_t_colour h_t_table h_t_last h_t_one t_wide t_high t_size t_at t_fault t_newWide t_newHigh t_colours t_now t_file t_fresh t_colour t_table t_last t_one) → va_S A s.heap H locs → lv_has ls 11 [(0, .ref h_t), (1, .int l1), (2, .int l2), (3, .int l3), (4, .int l4), (5, .int l5), (6, .int l6), (7, .int l7), (8, .int l8), (9, .int l9), (10, .int l10)] → W p l e rmX9_differs s m args below meth c H locs 0 0 Q (F0 m 278 ls [])) {t_size : Int32} {t_file : Nat → Int32} {l1 : Int32} {l2 : Int32} {l3 : Int32} {l4 : Int32} {l5 : Int32} {l6 : Int32} {l7 : Int32} {l8 : Int32} {l9 : Int32} {l10 : Int32} {k0 : Int32} {k1 : Int32} {H : Heap} {locs : List Loc} {ls : Array Slot} : fX9_differs_290 rc278 t_wide t_size t_now t_file l1 l7 l10 k0 k1 = some (zt_size, zt_file) → va_P D vwCl (zwX9 cI h_t h_t_now h_t_file h_t_fresh h_t_colour h_t_table h_t_last h_t_one t_wide t_high t_size t_at t_fault t_newWide t_newHigh t_colours t_now t_file t_fresh t_colour t_table t_last t_one) H → va_D A (zwX9 cI h_t h_t_now h_t_file h_t_fresh h_t_colour h_t_table h_t_last h_t_one t_wide t_high t_size t_at t_fault t_newWide t_newHigh t_colours t_now t_file t_fresh t_colour t_table t_last t_one) → va_S A s.heap H locs → lv_has ls 11 [(0, .ref h_t), (1, .int l1), (2, .int l2), (3, .int l3), (4, .int l4), (5, .int l5), (6, .int l6), (7, .int l7), (8, .int l8), (9, .int l9), (10, .int l10)] → W p l e rmX9_differs s m args below meth c H locs 0 0 Q (F0 m 290 ls [.int k1, .int k0]) := by
  intro hf hP hD hS hl
  obtain ⟨hx, hb, hml, hown, hts⟩ := id C
  unfold fX9_differs_290 at hf
  refine lv_icmp_ge (tgt := 310) hx hb dX9_differs_290 (by decide) (fun c1 => ?_) (fun c1 => ?_)
  · replace hf := zif_t hf c1
    cases hf
    exact hE _ _ _ _ dX9_differs_310 hP hD hS
  · replace hf := zif_f hf c1
    refine lv_aload_n hx hb dX9_differs_293 rfl (lv_at hl 0 rfl) ?_
    refine lv_aload_n hx hb dX9_differs_294 rfl (lv_at hl 0 rfl) ?_
    refine lv_iload_n hx hb dX9_differs_295 rfl (lv_at hl 1 rfl) ?_
    refine lv_iload hx hb dX9_differs_296 (lv_at hl 10 rfl) ?_
    obtain ⟨r2, hc3, hf⟩ := zb1_in hf
    refine zc_i (va_runV (As := [.int l1, .int l10]) (rest := [.ref h_t]) C (mX9_channel l D cI H.size h_t h_t_now h_t_file h_t_fresh h_t_colour h_t_table h_t_last h_t_one t_wide t_high t_size t_at t_fault t_newWide t_newHigh t_colours t_now t_file t_fresh t_colour t_table t_last t_one l1 l10 r2 hc3) (qX9_differs_X9_channel_49 hts) ⟨zP_blind, va_recv hK hP (ci := 8) (q0 := 0) rfl rfl, zpre hK hN hP hD [0, 1, 2, 3, 4, 5, 6, 7] rfl rfl⟩ rfl rfl hl.1 rfl (lv_room (Nat.le_of_ble_eq_true rfl)) dX9_differs_298 ⟨Nat.zero_le _, Nat.zero_le _⟩) hP hD hS hA [0, 1, 2, 3, 4, 5, 6, 7] [] [0, 1, 2, 3, 4, 5, 6, 7] (ws' := zwX9 cI h_t h_t_now h_t_file h_t_fresh h_t_colour h_t_table h_t_last h_t_one t_wide t_high t_size t_at t_fault t_newWide t_newHigh t_colours t_now t_file t_fresh t_colour t_table t_last t_one) rfl rfl rfl rfl rfl rfl (fun H locs hP hD hS => ?_)
    obtain ⟨u4, u5, hc6, hf⟩ := zb2_in hf
    refine zc_v (va_runV (As := [.int r2]) (rest := []) C (mX9_add l D cI H.size h_t h_t_now h_t_file h_t_fresh h_t_colour h_t_table h_t_last h_t_one t_wide t_high t_size t_at t_fault t_newWide t_newHigh t_colours t_now t_file t_fresh t_colour t_table t_last t_one r2 u4 u5 hc6) (qX9_differs_X9_add_63 hts) ⟨zP_blind, va_recv hK hP (ci := 8) (q0 := 0) rfl rfl, zpre hK hN hP hD [0, 1, 2, 3, 4, 5, 6, 7] rfl rfl⟩ rfl rfl hl.1 rfl (lv_room (Nat.le_of_ble_eq_true rfl)) dX9_differs_301 ⟨Nat.zero_le _, Nat.zero_le _⟩) hP hD hS hA [0, 1, 2, 3, 4, 5, 6, 7] [] [0, 1, 2, 3, 4, 5, 6, 7] (ws' := zwX9 cI h_t h_t_now h_t_file h_t_fresh h_t_colour h_t_table h_t_last h_t_one t_wide t_high u4 t_at t_fault t_newWide t_newHigh t_colours t_now u5 t_fresh t_colour t_table t_last t_one) rfl rfl rfl rfl rfl rfl (fun H locs hP hD hS => ?_)
    obtain ⟨x7, ex7⟩ : ∃ y : Int32, y = l10 + 1 := ⟨_, rfl⟩
    replace hf := zlet_in hf ex7
    refine lv_iinc (v := x7) (lv' := [(10, .int x7), (0, .ref h_t), (1, .int l1), (2, .int l2), (3, .int l3), (4, .int l4), (5, .int l5), (6, .int l6), (7, .int l7), (8, .int l8), (9, .int l9)]) hx hb dX9_differs_304 hl (k := 10) rfl (by rw [ex7]; rfl) (by decide) rfl (fun ls hl => ?_)
    clear ex7
    refine lv_goto (tgt := 278) hx hb dX9_differs_307 (by decide) ?_
    exact hr_278 hf hP hD hS (lv_sub hl [1, 2, 3, 4, 5, 6, 7, 8, 9, 10, 0] rfl)
set_option maxHeartbeats 4000000 in
set_option maxRecDepth 100000 in
theorem wX9_differs_278 {p : Program} {l : Launch} {e : Env} {s : State} {m : MethodId} {args : Array Value} {below : List Frame} {meth : Method} {c : Code} {D : va_G} {A : Nat → Prop} {Q : State → Prop} {cI : ClassId} {h_t h_t_now h_t_file h_t_fresh h_t_colour h_t_table h_t_last h_t_one : Nat} {t_wide : Int32} {t_high : Int32} {t_at : Int32} {t_fault : Int32} {t_newWide : Int32} {t_newHigh : Int32} {t_colours : Int32} {t_now : Nat → Int32} {t_fresh : Nat → Int32} {t_colour : Nat → Int32} {t_table : Nat → Int32} {t_last : Nat → Int32} {t_one : Nat → Int32} {zt_size : Int32} {zt_file : Nat → Int32} (C : CallFix p m c cX9_differs 11 s args wsX9_differs RX9) (hN : zN s) (hK : va_K D vwCl [(cI, .int)] s) (hA : ∀ q, s.heap.size ≤ q → A q) (hE : zEv p l e rmX9_differs s m args below meth c cX9_differs D A Q (zwX9 cI h_t h_t_now h_t_file h_t_fresh h_t_colour h_t_table h_t_last h_t_one t_wide t_high zt_size t_at t_fault t_newWide t_newHigh t_colours t_now zt_file t_fresh t_colour t_table t_last t_one)) (n : Nat) : ∀ {t_size : Int32} {t_file : Nat → Int32} {l1 : Int32} {l2 : Int32} {l3 : Int32} {l4 : Int32} {l5 : Int32} {l6 : Int32} {l7 : Int32} {l8 : Int32} {l9 : Int32} {l10 : Int32} {H : Heap} {locs : List Loc} {ls : Array Slot}, fX9_differs_278 n t_wide t_size t_now t_file l1 l7 l10 = some (zt_size, zt_file) → va_P D vwCl (zwX9 cI h_t h_t_now h_t_file h_t_fresh h_t_colour h_t_table h_t_last h_t_one t_wide t_high t_size t_at t_fault t_newWide t_newHigh t_colours t_now t_file t_fresh t_colour t_table t_last t_one) H → va_D A (zwX9 cI h_t h_t_now h_t_file h_t_fresh h_t_colour h_t_table h_t_last h_t_one t_wide t_high t_size t_at t_fault t_newWide t_newHigh t_colours t_now t_file t_fresh t_colour t_table t_last t_one) → va_S A s.heap H locs → lv_has ls 11 [(0, .ref h_t), (1, .int l1), (2, .int l2), (3, .int l3), (4, .int l4), (5, .int l5), (6, .int l6), (7, .int l7), (8, .int l8), (9, .int l9), (10, .int l10)] → W p l e rmX9_differs s m args below meth c H locs 0 0 Q (F0 m 278 ls []) := by
  obtain ⟨hx, hb, hml, hown, hts⟩ := id C
  induction n with
  | zero =>
    intro t_size t_file l1 l2 l3 l4 l5 l6 l7 l8 l9 l10 H locs ls hf
    cases hf
  | succ n hr_278 =>
    intro t_size t_file l1 l2 l3 l4 l5 l6 l7 l8 l9 l10 H locs ls hf hP hD hS hl
    rw [fX9_differs_278_s] at hf
    refine lv_iload hx hb dX9_differs_278 (lv_at hl 10 rfl) ?_
    refine lv_iload hx hb dX9_differs_280 (lv_at hl 7 rfl) ?_
    refine lv_if_eq (tgt := 289) hx hb dX9_differs_282 (by decide) (fun c1 => ?_) (fun c1 => ?_)
    · replace hf := zif_t hf c1
      refine lv_iconst (v := 4) hx hb dX9_differs_289 (by decide) ?_
      exact wX9_differs_290 C hN hK hA hE hr_278 hf hP hD hS (lv_sub hl [0, 1, 2, 3, 4, 5, 6, 7, 8, 9, 10] rfl)
    · replace hf := zif_f hf c1
      refine lv_iconst (v := 3) hx hb dX9_differs_285 (by decide) ?_
      refine lv_goto (tgt := 290) hx hb dX9_differs_286 (by decide) ?_
      exact wX9_differs_290 C hN hK hA hE hr_278 hf hP hD hS (lv_sub hl [0, 1, 2, 3, 4, 5, 6, 7, 8, 9, 10] rfl)
set_option maxHeartbeats 4000000 in
set_option maxRecDepth 100000 in
theorem wX9_differs_272 {p : Program} {l : Launch} {e : Env} {s : State} {m : MethodId} {args : Array Value} {below : List Frame} {meth : Method} {c : Code} {D : va_G} {A : Nat → Prop} {Q : State → Prop} {cI : ClassId} {h_t h_t_now h_t_file h_t_fresh h_t_colour h_t_table h_t_last h_t_one : Nat} {t_wide : Int32} {t_high : Int32} {t_at : Int32} {t_fault : Int32} {t_newWide : Int32} {t_newHigh : Int32} {t_colours : Int32} {t_now : Nat → Int32} {t_fresh : Nat → Int32} {t_colour : Nat → Int32} {t_table : Nat → Int32} {t_last : Nat → Int32} {t_one : Nat → Int32} {zt_size : Int32} {zt_file : Nat → Int32} (C : CallFix p m c cX9_differs 11 s args wsX9_differs RX9) (hN : zN s) (hK : va_K D vwCl [(cI, .int)] s) (hA : ∀ q, s.heap.size ≤ q → A q) (hE : zEv p l e rmX9_differs s m args below meth c cX9_differs D A Q (zwX9 cI h_t h_t_now h_t_file h_t_fresh h_t_colour h_t_table h_t_last h_t_one t_wide t_high zt_size t_at t_fault t_newWide t_newHigh t_colours t_now zt_file t_fresh t_colour t_table t_last t_one)) {t_size : Int32} {t_file : Nat → Int32} {l1 : Int32} {l2 : Int32} {l3 : Int32} {l4 : Int32} {l5 : Int32} {l6 : Int32} {l7 : Int32} {l8 : Int32} {l9 : Int32} {k1 : Int32} {H : Heap} {locs : List Loc} {ls : Array Slot} : fX9_differs_272 t_wide t_size t_now t_file l1 l7 k1 = some (zt_size, zt_file) → va_P D vwCl (zwX9 cI h_t h_t_now h_t_file h_t_fresh h_t_colour h_t_table h_t_last h_t_one t_wide t_high t_size t_at t_fault t_newWide t_newHigh t_colours t_now t_file t_fresh t_colour t_table t_last t_one) H → va_D A (zwX9 cI h_t h_t_now h_t_file h_t_fresh h_t_colour h_t_table h_t_last h_t_one t_wide t_high t_size t_at t_fault t_newWide t_newHigh t_colours t_now t_file t_fresh t_colour t_table t_last t_one) → va_S A s.heap H locs → lv_has ls 11 [(0, .ref h_t), (1, .int l1), (2, .int l2), (3, .int l3), (4, .int l4), (5, .int l5), (6, .int l6), (7, .int l7), (8, .int l8), (9, .int l9)] → W p l e rmX9_differs s m args below meth c H locs 0 0 Q (F0 m 272 ls [.int k1, .ref h_t]) := by
  intro hf hP hD hS hl
  obtain ⟨hx, hb, hml, hown, hts⟩ := id C
  unfold fX9_differs_272 at hf
  obtain ⟨u1, u2, hc3, hf⟩ := zb2_in hf
  refine zc_v (va_runV (As := [.int k1]) (rest := []) C (mX9_add l D cI H.size h_t h_t_now h_t_file h_t_fresh h_t_colour h_t_table h_t_last h_t_one t_wide t_high t_size t_at t_fault t_newWide t_newHigh t_colours t_now t_file t_fresh t_colour t_table t_last t_one k1 u1 u2 hc3) (qX9_differs_X9_add_63 hts) ⟨zP_blind, va_recv hK hP (ci := 8) (q0 := 0) rfl rfl, zpre hK hN hP hD [0, 1, 2, 3, 4, 5, 6, 7] rfl rfl⟩ rfl rfl hl.1 rfl (lv_room (Nat.le_of_ble_eq_true rfl)) dX9_differs_272 ⟨Nat.zero_le _, Nat.zero_le _⟩) hP hD hS hA [0, 1, 2, 3, 4, 5, 6, 7] [] [0, 1, 2, 3, 4, 5, 6, 7] (ws' := zwX9 cI h_t h_t_now h_t_file h_t_fresh h_t_colour h_t_table h_t_last h_t_one t_wide t_high u1 t_at t_fault t_newWide t_newHigh t_colours t_now u2 t_fresh t_colour t_table t_last t_one) rfl rfl rfl rfl rfl rfl (fun H locs hP hD hS => ?_)
  refine lv_iconst (v := 0) hx hb dX9_differs_275 (by decide) ?_
  refine lv_istore (lv' := [(10, .int 0), (0, .ref h_t), (1, .int l1), (2, .int l2), (3, .int l3), (4, .int l4), (5, .int l5), (6, .int l6), (7, .int l7), (8, .int l8), (9, .int l9)]) hx hb dX9_differs_276 hl (by decide) rfl (fun ls hl => ?_)
  exact wX9_differs_278 C hN hK hA hE 1000 hf hP hD hS (lv_sub hl [1, 2, 3, 4, 5, 6, 7, 8, 9, 10, 0] rfl)
set_option maxHeartbeats 4000000 in
set_option maxRecDepth 100000 in
theorem wX9_differs_257 {p : Program} {l : Launch} {e : Env} {s : State} {m : MethodId} {args : Array Value} {below : List Frame} {meth : Method} {c : Code} {D : va_G} {A : Nat → Prop} {Q : State → Prop} {cI : ClassId} {h_t h_t_now h_t_file h_t_fresh h_t_colour h_t_table h_t_last h_t_one : Nat} {t_wide : Int32} {t_high : Int32} {t_at : Int32} {t_fault : Int32} {t_newWide : Int32} {t_newHigh : Int32} {t_colours : Int32} {t_now : Nat → Int32} {t_fresh : Nat → Int32} {t_colour : Nat → Int32} {t_table : Nat → Int32} {t_last : Nat → Int32} {t_one : Nat → Int32} {zt_size : Int32} {zt_file : Nat → Int32} (C : CallFix p m c cX9_differs 11 s args wsX9_differs RX9) (hN : zN s) (hK : va_K D vwCl [(cI, .int)] s) (hA : ∀ q, s.heap.size ≤ q → A q) (hE : zEv p l e rmX9_differs s m args below meth c cX9_differs D A Q (zwX9 cI h_t h_t_now h_t_file h_t_fresh h_t_colour h_t_table h_t_last h_t_one t_wide t_high zt_size t_at t_fault t_newWide t_newHigh t_colours t_now zt_file t_fresh t_colour t_table t_last t_one)) {t_size : Int32} {t_file : Nat → Int32} {l1 : Int32} {l2 : Int32} {l3 : Int32} {l4 : Int32} {l5 : Int32} {l6 : Int32} {l7 : Int32} {l8 : Int32} {l9 : Int32} {H : Heap} {locs : List Loc} {ls : Array Slot} : fX9_differs_257 t_wide t_size t_now t_file l1 l7 = some (zt_size, zt_file) → va_P D vwCl (zwX9 cI h_t h_t_now h_t_file h_t_fresh h_t_colour h_t_table h_t_last h_t_one t_wide t_high t_size t_at t_fault t_newWide t_newHigh t_colours t_now t_file t_fresh t_colour t_table t_last t_one) H → va_D A (zwX9 cI h_t h_t_now h_t_file h_t_fresh h_t_colour h_t_table h_t_last h_t_one t_wide t_high t_size t_at t_fault t_newWide t_newHigh t_colours t_now t_file t_fresh t_colour t_table t_last t_one) → va_S A s.heap H locs → lv_has ls 11 [(0, .ref h_t), (1, .int l1), (2, .int l2), (3, .int l3), (4, .int l4), (5, .int l5), (6, .int l6), (7, .int l7), (8, .int l8), (9, .int l9)] → W p l e rmX9_differs s m args below meth c H locs 0 0 Q (F0 m 257 ls []) := by
  intro hf hP hD hS hl
  obtain ⟨hx, hb, hml, hown, hts⟩ := id C
  unfold fX9_differs_257 at hf
  refine lv_aload_n hx hb dX9_differs_257 rfl (lv_at hl 0 rfl) ?_
  refine lv_iload hx hb dX9_differs_258 (lv_at hl 7 rfl) ?_
  refine lv_if_eq (tgt := 269) hx hb dX9_differs_260 (by decide) (fun c1 => ?_) (fun c1 => ?_)
  · replace hf := zif_t hf c1
    refine lv_sipush (v := 255) hx hb dX9_differs_269 (by decide) ?_
    exact wX9_differs_272 C hN hK hA hE hf hP hD hS (lv_sub hl [0, 1, 2, 3, 4, 5, 6, 7, 8, 9] rfl)
  · replace hf := zif_f hf c1
    refine lv_sipush (v := 254) hx hb dX9_differs_263 (by decide) ?_
    refine lv_goto (tgt := 272) hx hb dX9_differs_266 (by decide) ?_
    exact wX9_differs_272 C hN hK hA hE hf hP hD hS (lv_sub hl [0, 1, 2, 3, 4, 5, 6, 7, 8, 9] rfl)
set_option maxHeartbeats 4000000 in
set_option maxRecDepth 100000 in
theorem wX9_differs_217 {p : Program} {l : Launch} {e : Env} {s : State} {m : MethodId} {args : Array Value} {below : List Frame} {meth : Method} {c : Code} {D : va_G} {A : Nat → Prop} {Q : State → Prop} {cI : ClassId} {h_t h_t_now h_t_file h_t_fresh h_t_colour h_t_table h_t_last h_t_one : Nat} {t_wide : Int32} {t_high : Int32} {t_at : Int32} {t_fault : Int32} {t_newWide : Int32} {t_newHigh : Int32} {t_colours : Int32} {t_now : Nat → Int32} {t_fresh : Nat → Int32} {t_colour : Nat → Int32} {t_table : Nat → Int32} {t_last : Nat → Int32} {t_one : Nat → Int32} {zt_size : Int32} {zt_file : Nat → Int32} (C : CallFix p m c cX9_differs 11 s args wsX9_differs RX9) (hN : zN s) (hK : va_K D vwCl [(cI, .int)] s) (hA : ∀ q, s.heap.size ≤ q → A q) (hE : zEv p l e rmX9_differs s m args below meth c cX9_differs D A Q (zwX9 cI h_t h_t_now h_t_file h_t_fresh h_t_colour h_t_table h_t_last h_t_one t_wide t_high zt_size t_at t_fault t_newWide t_newHigh t_colours t_now zt_file t_fresh t_colour t_table t_last t_one)) {t_size : Int32} {t_file : Nat → Int32} {l1 : Int32} {l2 : Int32} {l3 : Int32} {l4 : Int32} {l5 : Int32} {l6 : Int32} {l7 : Int32} {l8 : Int32} {l9 : Int32} {H : Heap} {locs : List Loc} {ls : Array Slot} : fX9_differs_217 t_wide t_size t_now t_file l1 l3 l5 l6 l7 l9 = some (zt_size, zt_file) → va_P D vwCl (zwX9 cI h_t h_t_now h_t_file h_t_fresh h_t_colour h_t_table h_t_last h_t_one t_wide t_high t_size t_at t_fault t_newWide t_newHigh t_colours t_now t_file t_fresh t_colour t_table t_last t_one) H → va_D A (zwX9 cI h_t h_t_now h_t_file h_t_fresh h_t_colour h_t_table h_t_last h_t_one t_wide t_high t_size t_at t_fault t_newWide t_newHigh t_colours t_now t_file t_fresh t_colour t_table t_last t_one) → va_S A s.heap H locs → lv_has ls 11 [(0, .ref h_t), (1, .int l1), (2, .int l2), (3, .int l3), (4, .int l4), (5, .int l5), (6, .int l6), (7, .int l7), (8, .int l8), (9, .int l9)] → W p l e rmX9_differs s m args below meth c H locs 0 0 Q (F0 m 217 ls []) := by
  intro hf hP hD hS hl
  obtain ⟨hx, hb, hml, hown, hts⟩ := id C
  unfold fX9_differs_217 at hf
  refine lv_iload hx hb dX9_differs_217 (lv_at hl 7 rfl) ?_
  refine lv_if_eq (tgt := 257) hx hb dX9_differs_219 (by decide) (fun c1 => ?_) (fun c1 => ?_)
  · replace hf := zif_t hf c1
    exact wX9_differs_257 C hN hK hA hE hf hP hD hS (lv_sub hl [0, 1, 2, 3, 4, 5, 6, 7, 8, 9] rfl)
  · replace hf := zif_f hf c1
    refine lv_iload hx hb dX9_differs_222 (lv_at hl 9 rfl) ?_
    refine lv_if_eq (tgt := 257) hx hb dX9_differs_224 (by decide) (fun c2 => ?_) (fun c2 => ?_)
    · replace hf := zif_t hf c2
      exact wX9_differs_257 C hN hK hA hE hf hP hD hS (lv_sub hl [0, 1, 2, 3, 4, 5, 6, 7, 8, 9] rfl)
    · replace hf := zif_f hf c2
      refine lv_aload_n hx hb dX9_differs_227 rfl (lv_at hl 0 rfl) ?_
      refine lv_sipush (v := 160) hx hb dX9_differs_228 (by decide) ?_
      refine lv_iload_n hx hb dX9_differs_231 rfl (lv_at hl 3 rfl) ?_
      refine lv_iadd hx hb dX9_differs_232 ?_
      obtain ⟨u3, u4, hc5, hf⟩ := zb2_in hf
      refine zc_v (va_runV (As := [.int (160 + l3)]) (rest := []) C (mX9_add l D cI H.size h_t h_t_now h_t_file h_t_fresh h_t_colour h_t_table h_t_last h_t_one t_wide t_high t_size t_at t_fault t_newWide t_newHigh t_colours t_now t_file t_fresh t_colour t_table t_last t_one (160 + l3) u3 u4 hc5) (qX9_differs_X9_add_63 hts) ⟨zP_blind, va_recv hK hP (ci := 8) (q0 := 0) rfl rfl, zpre hK hN hP hD [0, 1, 2, 3, 4, 5, 6, 7] rfl rfl⟩ rfl rfl hl.1 rfl (lv_room (Nat.le_of_ble_eq_true rfl)) dX9_differs_233 ⟨Nat.zero_le _, Nat.zero_le _⟩) hP hD hS hA [0, 1, 2, 3, 4, 5, 6, 7] [] [0, 1, 2, 3, 4, 5, 6, 7] (ws' := zwX9 cI h_t h_t_now h_t_file h_t_fresh h_t_colour h_t_table h_t_last h_t_one t_wide t_high u3 t_at t_fault t_newWide t_newHigh t_colours t_now u4 t_fresh t_colour t_table t_last t_one) rfl rfl rfl rfl rfl rfl (fun H locs hP hD hS => ?_)
      refine lv_aload_n hx hb dX9_differs_236 rfl (lv_at hl 0 rfl) ?_
      refine lv_bipush (v := 16) hx hb dX9_differs_237 (by decide) ?_
      refine lv_iload hx hb dX9_differs_239 (lv_at hl 5 rfl) ?_
      refine lv_bipush (v := 8) hx hb dX9_differs_241 (by decide) ?_
      refine lv_iadd hx hb dX9_differs_243 ?_
      refine lv_imul hx hb dX9_differs_244 ?_
      refine lv_iload hx hb dX9_differs_245 (lv_at hl 6 rfl) ?_
      refine lv_iadd hx hb dX9_differs_247 ?_
      refine lv_bipush (v := 8) hx hb dX9_differs_248 (by decide) ?_
      refine lv_iadd hx hb dX9_differs_250 ?_
      obtain ⟨u6, u7, hc8, hf⟩ := zb2_in hf
      refine zc_v (va_runV (As := [.int (((16 * (l5 + 8)) + l6) + 8)]) (rest := []) C (mX9_add l D cI H.size h_t h_t_now h_t_file h_t_fresh h_t_colour h_t_table h_t_last h_t_one t_wide t_high u3 t_at t_fault t_newWide t_newHigh t_colours t_now u4 t_fresh t_colour t_table t_last t_one (((16 * (l5 + 8)) + l6) + 8) u6 u7 hc8) (qX9_differs_X9_add_63 hts) ⟨zP_blind, va_recv hK hP (ci := 8) (q0 := 0) rfl rfl, zpre hK hN hP hD [0, 1, 2, 3, 4, 5, 6, 7] rfl rfl⟩ rfl rfl hl.1 rfl (lv_room (Nat.le_of_ble_eq_true rfl)) dX9_differs_251 ⟨Nat.zero_le _, Nat.zero_le _⟩) hP hD hS hA [0, 1, 2, 3, 4, 5, 6, 7] [] [0, 1, 2, 3, 4, 5, 6, 7] (ws' := zwX9 cI h_t h_t_now h_t_file h_t_fresh h_t_colour h_t_table h_t_last h_t_one t_wide t_high u6 t_at t_fault t_newWide t_newHigh t_colours t_now u7 t_fresh t_colour t_table t_last t_one) rfl rfl rfl rfl rfl rfl (fun H locs hP hD hS => ?_)
      refine lv_goto (tgt := 310) hx hb dX9_differs_254 (by decide) ?_
      cases hf
      exact hE _ _ _ _ dX9_differs_310 hP hD hS
set_option maxHeartbeats 4000000 in
set_option maxRecDepth 100000 in
theorem wX9_differs_178 {p : Program} {l : Launch} {e : Env} {s : State} {m : MethodId} {args : Array Value} {below : List Frame} {meth : Method} {c : Code} {D : va_G} {A : Nat → Prop} {Q : State → Prop} {cI : ClassId} {h_t h_t_now h_t_file h_t_fresh h_t_colour h_t_table h_t_last h_t_one : Nat} {t_wide : Int32} {t_high : Int32} {t_at : Int32} {t_fault : Int32} {t_newWide : Int32} {t_newHigh : Int32} {t_colours : Int32} {t_now : Nat → Int32} {t_fresh : Nat → Int32} {t_colour : Nat → Int32} {t_table : Nat → Int32} {t_last : Nat → Int32} {t_one : Nat → Int32} {zt_size : Int32} {zt_file : Nat → Int32} (C : CallFix p m c cX9_differs 11 s args wsX9_differs RX9) (hN : zN s) (hK : va_K D vwCl [(cI, .int)] s) (hA : ∀ q, s.heap.size ≤ q → A q) (hE : zEv p l e rmX9_differs s m args below meth c cX9_differs D A Q (zwX9 cI h_t h_t_now h_t_file h_t_fresh h_t_colour h_t_table h_t_last h_t_one t_wide t_high zt_size t_at t_fault t_newWide t_newHigh t_colours t_now zt_file t_fresh t_colour t_table t_last t_one)) {t_size : Int32} {t_file : Nat → Int32} {l1 : Int32} {l2 : Int32} {l3 : Int32} {l4 : Int32} {l5 : Int32} {l6 : Int32} {l7 : Int32} {l8 : Int32} {k0 : Int32} {H : Heap} {locs : List Loc} {ls : Array Slot} : fX9_differs_178 t_wide t_size t_now t_file l1 l2 l3 l4 l5 l6 l7 l8 k0 = some (zt_size, zt_file) → va_P D vwCl (zwX9 cI h_t h_t_now h_t_file h_t_fresh h_t_colour h_t_table h_t_last h_t_one t_wide t_high t_size t_at t_fault t_newWide t_newHigh t_colours t_now t_file t_fresh t_colour t_table t_last t_one) H → va_D A (zwX9 cI h_t h_t_now h_t_file h_t_fresh h_t_colour h_t_table h_t_last h_t_one t_wide t_high t_size t_at t_fault t_newWide t_newHigh t_colours t_now t_file t_fresh t_colour t_table t_last t_one) → va_S A s.heap H locs → lv_has ls 11 [(0, .ref h_t), (1, .int l1), (2, .int l2), (3, .int l3), (4, .int l4), (5, .int l5), (6, .int l6), (7, .int l7), (8, .int l8)] → W p l e rmX9_differs s m args below meth c H locs 0 0 Q (F0 m 178 ls [.int k0]) := by
  intro hf hP hD hS hl
  obtain ⟨hx, hb, hml, hown, hts⟩ := id C
  unfold fX9_differs_178 at hf
  refine lv_istore (lv' := [(9, .int k0), (0, .ref h_t), (1, .int l1), (2, .int l2), (3, .int l3), (4, .int l4), (5, .int l5), (6, .int l6), (7, .int l7), (8, .int l8)]) hx hb dX9_differs_178 hl (by decide) rfl (fun ls hl => ?_)
  refine lv_iload hx hb dX9_differs_180 (lv_at hl 8 rfl) ?_
  refine lv_if_eq (tgt := 217) hx hb dX9_differs_182 (by decide) (fun c1 => ?_) (fun c1 => ?_)
  · replace hf := zif_t hf c1
    exact wX9_differs_217 C hN hK hA hE hf hP hD hS (lv_sub hl [1, 2, 3, 4, 5, 6, 7, 8, 9, 0] rfl)
  · replace hf := zif_f hf c1
    refine lv_iload hx hb dX9_differs_185 (lv_at hl 9 rfl) ?_
    refine lv_if_eq (tgt := 217) hx hb dX9_differs_187 (by decide) (fun c2 => ?_) (fun c2 => ?_)
    · replace hf := zif_t hf c2
      exact wX9_differs_217 C hN hK hA hE hf hP hD hS (lv_sub hl [1, 2, 3, 4, 5, 6, 7, 8, 9, 0] rfl)
    · replace hf := zif_f hf c2
      refine lv_aload_n hx hb dX9_differs_190 rfl (lv_at hl 1 rfl) ?_
      refine lv_bipush (v := 64) hx hb dX9_differs_191 (by decide) ?_
      refine lv_bipush (v := 16) hx hb dX9_differs_193 (by decide) ?_
      refine lv_iload_n hx hb dX9_differs_195 rfl (lv_at hl 3 rfl) ?_
      refine lv_iconst (v := 2) hx hb dX9_differs_196 (by decide) ?_
      refine lv_iadd hx hb dX9_differs_197 ?_
      refine lv_imul hx hb dX9_differs_198 ?_
      refine lv_iadd hx hb dX9_differs_199 ?_
      refine lv_iconst (v := 4) hx hb dX9_differs_200 (by decide) ?_
      refine lv_iload_n hx hb dX9_differs_201 rfl (lv_at hl 4 rfl) ?_
      refine lv_iconst (v := 2) hx hb dX9_differs_202 (by decide) ?_
      refine lv_iadd hx hb dX9_differs_203 ?_
      refine lv_imul hx hb dX9_differs_204 ?_
      refine lv_iadd hx hb dX9_differs_205 ?_
      refine lv_iload hx hb dX9_differs_206 (lv_at hl 5 rfl) ?_
      refine lv_iadd hx hb dX9_differs_208 ?_
      refine lv_iconst (v := 2) hx hb dX9_differs_209 (by decide) ?_
      refine lv_iadd hx hb dX9_differs_210 ?_
      obtain ⟨u3, u4, hc5, hf⟩ := zb2_in hf
      refine zc_v (va_runV (As := [.int ((((64 + (16 * (l2 + 2))) + (4 * (l3 + 2))) + l4) + 2)]) (rest := []) C (mX9_add l D cI H.size h_t h_t_now h_t_file h_t_fresh h_t_colour h_t_table h_t_last h_t_one t_wide t_high t_size t_at t_fault t_newWide t_newHigh t_colours t_now t_file t_fresh t_colour t_table t_last t_one ((((64 + (16 * (l2 + 2))) + (4 * (l3 + 2))) + l4) + 2) u3 u4 hc5) (qX9_differs_X9_add_63 hts) ⟨zP_blind, va_recv hK hP (ci := 8) (q0 := 0) rfl rfl, zpre hK hN hP hD [0, 1, 2, 3, 4, 5, 6, 7] rfl rfl⟩ rfl rfl hl.1 rfl (lv_room (Nat.le_of_ble_eq_true rfl)) dX9_differs_211 ⟨Nat.zero_le _, Nat.zero_le _⟩) hP hD hS hA [0, 1, 2, 3, 4, 5, 6, 7] [] [0, 1, 2, 3, 4, 5, 6, 7] (ws' := zwX9 cI h_t h_t_now h_t_file h_t_fresh h_t_colour h_t_table h_t_last h_t_one t_wide t_high u3 t_at t_fault t_newWide t_newHigh t_colours t_now u4 t_fresh t_colour t_table t_last t_one) rfl rfl rfl rfl rfl rfl (fun H locs hP hD hS => ?_)
      refine lv_goto (tgt := 310) hx hb dX9_differs_214 (by decide) ?_
      cases hf
      exact hE _ _ _ _ dX9_differs_310 hP hD hS
set_option maxHeartbeats 4000000 in
set_option maxRecDepth 100000 in
theorem wX9_differs_177 {p : Program} {l : Launch} {e : Env} {s : State} {m : MethodId} {args : Array Value} {below : List Frame} {meth : Method} {c : Code} {D : va_G} {A : Nat → Prop} {Q : State → Prop} {cI : ClassId} {h_t h_t_now h_t_file h_t_fresh h_t_colour h_t_table h_t_last h_t_one : Nat} {t_wide : Int32} {t_high : Int32} {t_at : Int32} {t_fault : Int32} {t_newWide : Int32} {t_newHigh : Int32} {t_colours : Int32} {t_now : Nat → Int32} {t_fresh : Nat → Int32} {t_colour : Nat → Int32} {t_table : Nat → Int32} {t_last : Nat → Int32} {t_one : Nat → Int32} {zt_size : Int32} {zt_file : Nat → Int32} (C : CallFix p m c cX9_differs 11 s args wsX9_differs RX9) (hN : zN s) (hK : va_K D vwCl [(cI, .int)] s) (hA : ∀ q, s.heap.size ≤ q → A q) (hE : zEv p l e rmX9_differs s m args below meth c cX9_differs D A Q (zwX9 cI h_t h_t_now h_t_file h_t_fresh h_t_colour h_t_table h_t_last h_t_one t_wide t_high zt_size t_at t_fault t_newWide t_newHigh t_colours t_now zt_file t_fresh t_colour t_table t_last t_one)) {t_size : Int32} {t_file : Nat → Int32} {l1 : Int32} {l2 : Int32} {l3 : Int32} {l4 : Int32} {l5 : Int32} {l6 : Int32} {l7 : Int32} {l8 : Int32} {H : Heap} {locs : List Loc} {ls : Array Slot} : fX9_differs_177 t_wide t_size t_now t_file l1 l2 l3 l4 l5 l6 l7 l8 = some (zt_size, zt_file) → va_P D vwCl (zwX9 cI h_t h_t_now h_t_file h_t_fresh h_t_colour h_t_table h_t_last h_t_one t_wide t_high t_size t_at t_fault t_newWide t_newHigh t_colours t_now t_file t_fresh t_colour t_table t_last t_one) H → va_D A (zwX9 cI h_t h_t_now h_t_file h_t_fresh h_t_colour h_t_table h_t_last h_t_one t_wide t_high t_size t_at t_fault t_newWide t_newHigh t_colours t_now t_file t_fresh t_colour t_table t_last t_one) → va_S A s.heap H locs → lv_has ls 11 [(0, .ref h_t), (1, .int l1), (2, .int l2), (3, .int l3), (4, .int l4), (5, .int l5), (6, .int l6), (7, .int l7), (8, .int l8)] → W p l e rmX9_differs s m args below meth c H locs 0 0 Q (F0 m 177 ls []) := by
  intro hf hP hD hS hl
  obtain ⟨hx, hb, hml, hown, hts⟩ := id C
  unfold fX9_differs_177 at hf
  refine lv_iconst (v := 0) hx hb dX9_differs_177 (by decide) ?_
  exact wX9_differs_178 C hN hK hA hE hf hP hD hS (lv_sub hl [0, 1, 2, 3, 4, 5, 6, 7, 8] rfl)
set_option maxHeartbeats 4000000 in
set_option maxRecDepth 100000 in
theorem wX9_differs_131 {p : Program} {l : Launch} {e : Env} {s : State} {m : MethodId} {args : Array Value} {below : List Frame} {meth : Method} {c : Code} {D : va_G} {A : Nat → Prop} {Q : State → Prop} {cI : ClassId} {h_t h_t_now h_t_file h_t_fresh h_t_colour h_t_table h_t_last h_t_one : Nat} {t_wide : Int32} {t_high : Int32} {t_at : Int32} {t_fault : Int32} {t_newWide : Int32} {t_newHigh : Int32} {t_colours : Int32} {t_now : Nat → Int32} {t_fresh : Nat → Int32} {t_colour : Nat → Int32} {t_table : Nat → Int32} {t_last : Nat → Int32} {t_one : Nat → Int32} {zt_size : Int32} {zt_file : Nat → Int32} (C : CallFix p m c cX9_differs 11 s args wsX9_differs RX9) (hN : zN s) (hK : va_K D vwCl [(cI, .int)] s) (hA : ∀ q, s.heap.size ≤ q → A q) (hE : zEv p l e rmX9_differs s m args below meth c cX9_differs D A Q (zwX9 cI h_t h_t_now h_t_file h_t_fresh h_t_colour h_t_table h_t_last h_t_one t_wide t_high zt_size t_at t_fault t_newWide t_newHigh t_colours t_now zt_file t_fresh t_colour t_table t_last t_one)) {t_size : Int32} {t_file : Nat → Int32} {l1 : Int32} {l2 : Int32} {l3 : Int32} {l4 : Int32} {l5 : Int32} {l6 : Int32} {l7 : Int32} {k0 : Int32} {H : Heap} {locs : List Loc} {ls : Array Slot} : fX9_differs_131 t_wide t_size t_now t_file l1 l2 l3 l4 l5 l6 l7 k0 = some (zt_size, zt_file) → va_P D vwCl (zwX9 cI h_t h_t_now h_t_file h_t_fresh h_t_colour h_t_table h_t_last h_t_one t_wide t_high t_size t_at t_fault t_newWide t_newHigh t_colours t_now t_file t_fresh t_colour t_table t_last t_one) H → va_D A (zwX9 cI h_t h_t_now h_t_file h_t_fresh h_t_colour h_t_table h_t_last h_t_one t_wide t_high t_size t_at t_fault t_newWide t_newHigh t_colours t_now t_file t_fresh t_colour t_table t_last t_one) → va_S A s.heap H locs → lv_has ls 11 [(0, .ref h_t), (1, .int l1), (2, .int l2), (3, .int l3), (4, .int l4), (5, .int l5), (6, .int l6), (7, .int l7)] → W p l e rmX9_differs s m args below meth c H locs 0 0 Q (F0 m 131 ls [.int k0]) := by
  intro hf hP hD hS hl
  obtain ⟨hx, hb, hml, hown, hts⟩ := id C
  unfold fX9_differs_131 at hf
  refine lv_istore (lv' := [(8, .int k0), (0, .ref h_t), (1, .int l1), (2, .int l2), (3, .int l3), (4, .int l4), (5, .int l5), (6, .int l6), (7, .int l7)]) hx hb dX9_differs_131 hl (by decide) rfl (fun ls hl => ?_)
  refine lv_iload_n hx hb dX9_differs_133 rfl (lv_at hl 4 rfl) ?_
  refine lv_bipush (v := (-32)) hx hb dX9_differs_134 (by decide) ?_
  refine lv_icmp_lt (tgt := 177) hx hb dX9_differs_136 (by decide) (fun c1 => ?_) (fun c1 => ?_)
  · replace hf := zif_t hf c1
    exact wX9_differs_177 C hN hK hA hE hf hP hD hS (lv_sub hl [1, 2, 3, 4, 5, 6, 7, 8, 0] rfl)
  · replace hf := zif_f hf c1
    refine lv_iload_n hx hb dX9_differs_139 rfl (lv_at hl 4 rfl) ?_
    refine lv_bipush (v := 31) hx hb dX9_differs_140 (by decide) ?_
    refine lv_icmp_gt (tgt := 177) hx hb dX9_differs_142 (by decide) (fun c2 => ?_) (fun c2 => ?_)
    · replace hf := zif_t hf c2
      exact wX9_differs_177 C hN hK hA hE hf hP hD hS (lv_sub hl [1, 2, 3, 4, 5, 6, 7, 8, 0] rfl)
    · replace hf := zif_f hf c2
      refine lv_iload hx hb dX9_differs_145 (lv_at hl 6 rfl) ?_
      refine lv_bipush (v := (-8)) hx hb dX9_differs_147 (by decide) ?_
      refine lv_icmp_lt (tgt := 177) hx hb dX9_differs_149 (by decide) (fun c3 => ?_) (fun c3 => ?_)
      · replace hf := zif_t hf c3
        exact wX9_differs_177 C hN hK hA hE hf hP hD hS (lv_sub hl [1, 2, 3, 4, 5, 6, 7, 8, 0] rfl)
      · replace hf := zif_f hf c3
        refine lv_iload hx hb dX9_differs_152 (lv_at hl 6 rfl) ?_
        refine lv_bipush (v := 7) hx hb dX9_differs_154 (by decide) ?_
        refine lv_icmp_gt (tgt := 177) hx hb dX9_differs_156 (by decide) (fun c4 => ?_) (fun c4 => ?_)
        · replace hf := zif_t hf c4
          exact wX9_differs_177 C hN hK hA hE hf hP hD hS (lv_sub hl [1, 2, 3, 4, 5, 6, 7, 8, 0] rfl)
        · replace hf := zif_f hf c4
          refine lv_iload hx hb dX9_differs_159 (lv_at hl 7 rfl) ?_
          refine lv_bipush (v := (-8)) hx hb dX9_differs_161 (by decide) ?_
          refine lv_icmp_lt (tgt := 177) hx hb dX9_differs_163 (by decide) (fun c5 => ?_) (fun c5 => ?_)
          · replace hf := zif_t hf c5
            exact wX9_differs_177 C hN hK hA hE hf hP hD hS (lv_sub hl [1, 2, 3, 4, 5, 6, 7, 8, 0] rfl)
          · replace hf := zif_f hf c5
            refine lv_iload hx hb dX9_differs_166 (lv_at hl 7 rfl) ?_
            refine lv_bipush (v := 7) hx hb dX9_differs_168 (by decide) ?_
            refine lv_icmp_gt (tgt := 177) hx hb dX9_differs_170 (by decide) (fun c6 => ?_) (fun c6 => ?_)
            · replace hf := zif_t hf c6
              exact wX9_differs_177 C hN hK hA hE hf hP hD hS (lv_sub hl [1, 2, 3, 4, 5, 6, 7, 8, 0] rfl)
            · replace hf := zif_f hf c6
              refine lv_iconst (v := 1) hx hb dX9_differs_173 (by decide) ?_
              refine lv_goto (tgt := 178) hx hb dX9_differs_174 (by decide) ?_
              exact wX9_differs_178 C hN hK hA hE hf hP hD hS (lv_sub hl [1, 2, 3, 4, 5, 6, 7, 8, 0] rfl)
set_option maxHeartbeats 4000000 in
set_option maxRecDepth 100000 in
theorem wX9_differs_130 {p : Program} {l : Launch} {e : Env} {s : State} {m : MethodId} {args : Array Value} {below : List Frame} {meth : Method} {c : Code} {D : va_G} {A : Nat → Prop} {Q : State → Prop} {cI : ClassId} {h_t h_t_now h_t_file h_t_fresh h_t_colour h_t_table h_t_last h_t_one : Nat} {t_wide : Int32} {t_high : Int32} {t_at : Int32} {t_fault : Int32} {t_newWide : Int32} {t_newHigh : Int32} {t_colours : Int32} {t_now : Nat → Int32} {t_fresh : Nat → Int32} {t_colour : Nat → Int32} {t_table : Nat → Int32} {t_last : Nat → Int32} {t_one : Nat → Int32} {zt_size : Int32} {zt_file : Nat → Int32} (C : CallFix p m c cX9_differs 11 s args wsX9_differs RX9) (hN : zN s) (hK : va_K D vwCl [(cI, .int)] s) (hA : ∀ q, s.heap.size ≤ q → A q) (hE : zEv p l e rmX9_differs s m args below meth c cX9_differs D A Q (zwX9 cI h_t h_t_now h_t_file h_t_fresh h_t_colour h_t_table h_t_last h_t_one t_wide t_high zt_size t_at t_fault t_newWide t_newHigh t_colours t_now zt_file t_fresh t_colour t_table t_last t_one)) {t_size : Int32} {t_file : Nat → Int32} {l1 : Int32} {l2 : Int32} {l3 : Int32} {l4 : Int32} {l5 : Int32} {l6 : Int32} {l7 : Int32} {H : Heap} {locs : List Loc} {ls : Array Slot} : fX9_differs_130 t_wide t_size t_now t_file l1 l2 l3 l4 l5 l6 l7 = some (zt_size, zt_file) → va_P D vwCl (zwX9 cI h_t h_t_now h_t_file h_t_fresh h_t_colour h_t_table h_t_last h_t_one t_wide t_high t_size t_at t_fault t_newWide t_newHigh t_colours t_now t_file t_fresh t_colour t_table t_last t_one) H → va_D A (zwX9 cI h_t h_t_now h_t_file h_t_fresh h_t_colour h_t_table h_t_last h_t_one t_wide t_high t_size t_at t_fault t_newWide t_newHigh t_colours t_now t_file t_fresh t_colour t_table t_last t_one) → va_S A s.heap H locs → lv_has ls 11 [(0, .ref h_t), (1, .int l1), (2, .int l2), (3, .int l3), (4, .int l4), (5, .int l5), (6, .int l6), (7, .int l7)] → W p l e rmX9_differs s m args below meth c H locs 0 0 Q (F0 m 130 ls []) := by
  intro hf hP hD hS hl
  obtain ⟨hx, hb, hml, hown, hts⟩ := id C
  unfold fX9_differs_130 at hf
  refine lv_iconst (v := 0) hx hb dX9_differs_130 (by decide) ?_
  exact wX9_differs_131 C hN hK hA hE hf hP hD hS (lv_sub hl [0, 1, 2, 3, 4, 5, 6, 7] rfl)
set_option maxHeartbeats 4000000 in
set_option maxRecDepth 100000 in
theorem wX9_differs_89 {p : Program} {l : Launch} {e : Env} {s : State} {m : MethodId} {args : Array Value} {below : List Frame} {meth : Method} {c : Code} {D : va_G} {A : Nat → Prop} {Q : State → Prop} {cI : ClassId} {h_t h_t_now h_t_file h_t_fresh h_t_colour h_t_table h_t_last h_t_one : Nat} {t_wide : Int32} {t_high : Int32} {t_at : Int32} {t_fault : Int32} {t_newWide : Int32} {t_newHigh : Int32} {t_colours : Int32} {t_now : Nat → Int32} {t_fresh : Nat → Int32} {t_colour : Nat → Int32} {t_table : Nat → Int32} {t_last : Nat → Int32} {t_one : Nat → Int32} {zt_size : Int32} {zt_file : Nat → Int32} (C : CallFix p m c cX9_differs 11 s args wsX9_differs RX9) (hN : zN s) (hK : va_K D vwCl [(cI, .int)] s) (hA : ∀ q, s.heap.size ≤ q → A q) (hE : zEv p l e rmX9_differs s m args below meth c cX9_differs D A Q (zwX9 cI h_t h_t_now h_t_file h_t_fresh h_t_colour h_t_table h_t_last h_t_one t_wide t_high zt_size t_at t_fault t_newWide t_newHigh t_colours t_now zt_file t_fresh t_colour t_table t_last t_one)) {t_size : Int32} {t_file : Nat → Int32} {l1 : Int32} {l2 : Int32} {l3 : Int32} {l4 : Int32} {l5 : Int32} {l6 : Int32} {k0 : Int32} {H : Heap} {locs : List Loc} {ls : Array Slot} : fX9_differs_89 t_wide t_size t_now t_file l1 l2 l3 l4 l5 l6 k0 = some (zt_size, zt_file) → va_P D vwCl (zwX9 cI h_t h_t_now h_t_file h_t_fresh h_t_colour h_t_table h_t_last h_t_one t_wide t_high t_size t_at t_fault t_newWide t_newHigh t_colours t_now t_file t_fresh t_colour t_table t_last t_one) H → va_D A (zwX9 cI h_t h_t_now h_t_file h_t_fresh h_t_colour h_t_table h_t_last h_t_one t_wide t_high t_size t_at t_fault t_newWide t_newHigh t_colours t_now t_file t_fresh t_colour t_table t_last t_one) → va_S A s.heap H locs → lv_has ls 11 [(0, .ref h_t), (1, .int l1), (2, .int l2), (3, .int l3), (4, .int l4), (5, .int l5), (6, .int l6)] → W p l e rmX9_differs s m args below meth c H locs 0 0 Q (F0 m 89 ls [.int k0]) := by
  intro hf hP hD hS hl
  obtain ⟨hx, hb, hml, hown, hts⟩ := id C
  unfold fX9_differs_89 at hf
  refine lv_istore (lv' := [(7, .int k0), (0, .ref h_t), (1, .int l1), (2, .int l2), (3, .int l3), (4, .int l4), (5, .int l5), (6, .int l6)]) hx hb dX9_differs_89 hl (by decide) rfl (fun ls hl => ?_)
  refine lv_iload_n hx hb dX9_differs_91 rfl (lv_at hl 3 rfl) ?_
  refine lv_bipush (v := (-2)) hx hb dX9_differs_92 (by decide) ?_
  refine lv_icmp_lt (tgt := 130) hx hb dX9_differs_94 (by decide) (fun c1 => ?_) (fun c1 => ?_)
  · replace hf := zif_t hf c1
    exact wX9_differs_130 C hN hK hA hE hf hP hD hS (lv_sub hl [1, 2, 3, 4, 5, 6, 7, 0] rfl)
  · replace hf := zif_f hf c1
    refine lv_iload_n hx hb dX9_differs_97 rfl (lv_at hl 3 rfl) ?_
    refine lv_iconst (v := 1) hx hb dX9_differs_98 (by decide) ?_
    refine lv_icmp_gt (tgt := 130) hx hb dX9_differs_99 (by decide) (fun c2 => ?_) (fun c2 => ?_)
    · replace hf := zif_t hf c2
      exact wX9_differs_130 C hN hK hA hE hf hP hD hS (lv_sub hl [1, 2, 3, 4, 5, 6, 7, 0] rfl)
    · replace hf := zif_f hf c2
      refine lv_iload_n hx hb dX9_differs_102 rfl (lv_at hl 4 rfl) ?_
      refine lv_bipush (v := (-2)) hx hb dX9_differs_103 (by decide) ?_
      refine lv_icmp_lt (tgt := 130) hx hb dX9_differs_105 (by decide) (fun c3 => ?_) (fun c3 => ?_)
      · replace hf := zif_t hf c3
        exact wX9_differs_130 C hN hK hA hE hf hP hD hS (lv_sub hl [1, 2, 3, 4, 5, 6, 7, 0] rfl)
      · replace hf := zif_f hf c3
        refine lv_iload_n hx hb dX9_differs_108 rfl (lv_at hl 4 rfl) ?_
        refine lv_iconst (v := 1) hx hb dX9_differs_109 (by decide) ?_
        refine lv_icmp_gt (tgt := 130) hx hb dX9_differs_110 (by decide) (fun c4 => ?_) (fun c4 => ?_)
        · replace hf := zif_t hf c4
          exact wX9_differs_130 C hN hK hA hE hf hP hD hS (lv_sub hl [1, 2, 3, 4, 5, 6, 7, 0] rfl)
        · replace hf := zif_f hf c4
          refine lv_iload hx hb dX9_differs_113 (lv_at hl 5 rfl) ?_
          refine lv_bipush (v := (-2)) hx hb dX9_differs_115 (by decide) ?_
          refine lv_icmp_lt (tgt := 130) hx hb dX9_differs_117 (by decide) (fun c5 => ?_) (fun c5 => ?_)
          · replace hf := zif_t hf c5
            exact wX9_differs_130 C hN hK hA hE hf hP hD hS (lv_sub hl [1, 2, 3, 4, 5, 6, 7, 0] rfl)
          · replace hf := zif_f hf c5
            refine lv_iload hx hb dX9_differs_120 (lv_at hl 5 rfl) ?_
            refine lv_iconst (v := 1) hx hb dX9_differs_122 (by decide) ?_
            refine lv_icmp_gt (tgt := 130) hx hb dX9_differs_123 (by decide) (fun c6 => ?_) (fun c6 => ?_)
            · replace hf := zif_t hf c6
              exact wX9_differs_130 C hN hK hA hE hf hP hD hS (lv_sub hl [1, 2, 3, 4, 5, 6, 7, 0] rfl)
            · replace hf := zif_f hf c6
              refine lv_iconst (v := 1) hx hb dX9_differs_126 (by decide) ?_
              refine lv_goto (tgt := 131) hx hb dX9_differs_127 (by decide) ?_
              exact wX9_differs_131 C hN hK hA hE hf hP hD hS (lv_sub hl [1, 2, 3, 4, 5, 6, 7, 0] rfl)
set_option maxHeartbeats 4000000 in
set_option maxRecDepth 100000 in
theorem wX9_differs_0 {p : Program} {l : Launch} {e : Env} {s : State} {m : MethodId} {args : Array Value} {below : List Frame} {meth : Method} {c : Code} {D : va_G} {A : Nat → Prop} {Q : State → Prop} {cI : ClassId} {h_t h_t_now h_t_file h_t_fresh h_t_colour h_t_table h_t_last h_t_one : Nat} {t_wide : Int32} {t_high : Int32} {t_at : Int32} {t_fault : Int32} {t_newWide : Int32} {t_newHigh : Int32} {t_colours : Int32} {t_now : Nat → Int32} {t_fresh : Nat → Int32} {t_colour : Nat → Int32} {t_table : Nat → Int32} {t_last : Nat → Int32} {t_one : Nat → Int32} {zt_size : Int32} {zt_file : Nat → Int32} (C : CallFix p m c cX9_differs 11 s args wsX9_differs RX9) (hN : zN s) (hK : va_K D vwCl [(cI, .int)] s) (hA : ∀ q, s.heap.size ≤ q → A q) (hE : zEv p l e rmX9_differs s m args below meth c cX9_differs D A Q (zwX9 cI h_t h_t_now h_t_file h_t_fresh h_t_colour h_t_table h_t_last h_t_one t_wide t_high zt_size t_at t_fault t_newWide t_newHigh t_colours t_now zt_file t_fresh t_colour t_table t_last t_one)) {t_size : Int32} {t_file : Nat → Int32} {v0 : Int32} {H : Heap} {locs : List Loc} {ls : Array Slot} : fX9_differs t_wide t_size t_now t_file t_last v0 = some (zt_size, zt_file) → va_P D vwCl (zwX9 cI h_t h_t_now h_t_file h_t_fresh h_t_colour h_t_table h_t_last h_t_one t_wide t_high t_size t_at t_fault t_newWide t_newHigh t_colours t_now t_file t_fresh t_colour t_table t_last t_one) H → va_D A (zwX9 cI h_t h_t_now h_t_file h_t_fresh h_t_colour h_t_table h_t_last h_t_one t_wide t_high t_size t_at t_fault t_newWide t_newHigh t_colours t_now t_file t_fresh t_colour t_table t_last t_one) → va_S A s.heap H locs → lv_has ls 11 [(0, .ref h_t), (1, .int v0)] → W p l e rmX9_differs s m args below meth c H locs 0 0 Q (F0 m 0 ls []) := by
  intro hf hP hD hS hl
  obtain ⟨hx, hb, hml, hown, hts⟩ := id C
  unfold fX9_differs at hf
  refine lv_aload_n hx hb dX9_differs_0 rfl (lv_at hl 0 rfl) ?_
  refine lv_iload_n hx hb dX9_differs_1 rfl (lv_at hl 1 rfl) ?_
  refine lv_iconst (v := 0) hx hb dX9_differs_2 (by decide) ?_
  obtain ⟨r1, hc2, hf⟩ := zb1_in hf
  refine zc_i (va_runV (As := [.int v0, .int 0]) (rest := []) C (mX9_channel l D cI H.size h_t h_t_now h_t_file h_t_fresh h_t_colour h_t_table h_t_last h_t_one t_wide t_high t_size t_at t_fault t_newWide t_newHigh t_colours t_now t_file t_fresh t_colour t_table t_last t_one v0 0 r1 hc2) (qX9_differs_X9_channel_49 hts) ⟨zP_blind, va_recv hK hP (ci := 8) (q0 := 0) rfl rfl, zpre hK hN hP hD [0, 1, 2, 3, 4, 5, 6, 7] rfl rfl⟩ rfl rfl hl.1 rfl (lv_room (Nat.le_of_ble_eq_true rfl)) dX9_differs_3 ⟨Nat.zero_le _, Nat.zero_le _⟩) hP hD hS hA [0, 1, 2, 3, 4, 5, 6, 7] [] [0, 1, 2, 3, 4, 5, 6, 7] (ws' := zwX9 cI h_t h_t_now h_t_file h_t_fresh h_t_colour h_t_table h_t_last h_t_one t_wide t_high t_size t_at t_fault t_newWide t_newHigh t_colours t_now t_file t_fresh t_colour t_table t_last t_one) rfl rfl rfl rfl rfl rfl (fun H locs hP hD hS => ?_)
  refine lv_aload_n hx hb dX9_differs_6 rfl (lv_at hl 0 rfl) ?_
  refine va_get (D := D) (ci := 8) (v := .ref h_t_last) (C := RX9) (T := TX9) (N := 15) hx hb hts iX9_differs_X9 hown hK hP 0 rfl rfl 13 (by decide) (kX9_differs_32 hts) (fun _ h9 => h9) rfl dX9_differs_7 ?_
  refine lv_iconst (v := 0) hx hb dX9_differs_10 (by decide) ?_
  obtain ⟨hg4, hf⟩ := zrd_in hf
  refine va_iald hx hb hK hP 6 0 rfl rfl hg4 dX9_differs_11 ?_
  refine lv_topi (fun x3 ex3 => ?_)
  replace hf := hf x3 ex3
  clear ex3
  refine lv_isub hx hb dX9_differs_12 ?_
  obtain ⟨r5, hc6, hf⟩ := zb1_in hf
  refine zc_i (va_runS (As := [.int (r1 - x3)]) (rest := []) C (mX9_signed l D cI H.size (r1 - x3) r5 hc6) (qX9_differs_X9_signed_67 hts) ⟨zP_blind, zpre hK hN hP hD [] rfl rfl⟩ rfl rfl hl.1 rfl (lv_room (Nat.le_of_ble_eq_true rfl)) dX9_differs_13 ⟨Nat.zero_le _, Nat.zero_le _⟩) hP hD hS hA [] [0, 1, 2, 3, 4, 5, 6, 7] [0, 1, 2, 3, 4, 5, 6, 7] (ws' := zwX9 cI h_t h_t_now h_t_file h_t_fresh h_t_colour h_t_table h_t_last h_t_one t_wide t_high t_size t_at t_fault t_newWide t_newHigh t_colours t_now t_file t_fresh t_colour t_table t_last t_one) rfl rfl rfl rfl rfl rfl (fun H locs hP hD hS => ?_)
  refine lv_istore_n (lv' := [(2, .int r5), (0, .ref h_t), (1, .int v0)]) hx hb dX9_differs_16 rfl hl (by decide) rfl (fun ls hl => ?_)
  refine lv_aload_n hx hb dX9_differs_17 rfl (lv_at hl 1 rfl) ?_
  refine lv_iload_n hx hb dX9_differs_18 rfl (lv_at hl 2 rfl) ?_
  refine lv_iconst (v := 1) hx hb dX9_differs_19 (by decide) ?_
  obtain ⟨r7, hc8, hf⟩ := zb1_in hf
  refine zc_i (va_runV (As := [.int v0, .int 1]) (rest := []) C (mX9_channel l D cI H.size h_t h_t_now h_t_file h_t_fresh h_t_colour h_t_table h_t_last h_t_one t_wide t_high t_size t_at t_fault t_newWide t_newHigh t_colours t_now t_file t_fresh t_colour t_table t_last t_one v0 1 r7 hc8) (qX9_differs_X9_channel_49 hts) ⟨zP_blind, va_recv hK hP (ci := 8) (q0 := 0) rfl rfl, zpre hK hN hP hD [0, 1, 2, 3, 4, 5, 6, 7] rfl rfl⟩ rfl rfl hl.1 rfl (lv_room (Nat.le_of_ble_eq_true rfl)) dX9_differs_20 ⟨Nat.zero_le _, Nat.zero_le _⟩) hP hD hS hA [0, 1, 2, 3, 4, 5, 6, 7] [] [0, 1, 2, 3, 4, 5, 6, 7] (ws' := zwX9 cI h_t h_t_now h_t_file h_t_fresh h_t_colour h_t_table h_t_last h_t_one t_wide t_high t_size t_at t_fault t_newWide t_newHigh t_colours t_now t_file t_fresh t_colour t_table t_last t_one) rfl rfl rfl rfl rfl rfl (fun H locs hP hD hS => ?_)
  refine lv_aload_n hx hb dX9_differs_23 rfl (lv_at hl 1 rfl) ?_
  refine va_get (D := D) (ci := 8) (v := .ref h_t_last) (C := RX9) (T := TX9) (N := 15) hx hb hts iX9_differs_X9 hown hK hP 0 rfl rfl 13 (by decide) (kX9_differs_32 hts) (fun _ h9 => h9) rfl dX9_differs_24 ?_
  refine lv_iconst (v := 1) hx hb dX9_differs_27 (by decide) ?_
  obtain ⟨hg10, hf⟩ := zrd_in hf
  refine va_iald hx hb hK hP 6 0 rfl rfl hg10 dX9_differs_28 ?_
  refine lv_topi (fun x9 ex9 => ?_)
  replace hf := hf x9 ex9
  clear ex9
  refine lv_isub hx hb dX9_differs_29 ?_
  obtain ⟨r11, hc12, hf⟩ := zb1_in hf
  refine zc_i (va_runS (As := [.int (r7 - x9)]) (rest := []) C (mX9_signed l D cI H.size (r7 - x9) r11 hc12) (qX9_differs_X9_signed_67 hts) ⟨zP_blind, zpre hK hN hP hD [] rfl rfl⟩ rfl rfl hl.1 rfl (lv_room (Nat.le_of_ble_eq_true rfl)) dX9_differs_30 ⟨Nat.zero_le _, Nat.zero_le _⟩) hP hD hS hA [] [0, 1, 2, 3, 4, 5, 6, 7] [0, 1, 2, 3, 4, 5, 6, 7] (ws' := zwX9 cI h_t h_t_now h_t_file h_t_fresh h_t_colour h_t_table h_t_last h_t_one t_wide t_high t_size t_at t_fault t_newWide t_newHigh t_colours t_now t_file t_fresh t_colour t_table t_last t_one) rfl rfl rfl rfl rfl rfl (fun H locs hP hD hS => ?_)
  refine lv_istore_n (lv' := [(3, .int r11), (2, .int r5), (0, .ref h_t), (1, .int v0)]) hx hb dX9_differs_33 rfl hl (by decide) rfl (fun ls hl => ?_)
  refine lv_aload_n hx hb dX9_differs_34 rfl (lv_at hl 2 rfl) ?_
  refine lv_iload_n hx hb dX9_differs_35 rfl (lv_at hl 3 rfl) ?_
  refine lv_iconst (v := 2) hx hb dX9_differs_36 (by decide) ?_
  obtain ⟨r13, hc14, hf⟩ := zb1_in hf
  refine zc_i (va_runV (As := [.int v0, .int 2]) (rest := []) C (mX9_channel l D cI H.size h_t h_t_now h_t_file h_t_fresh h_t_colour h_t_table h_t_last h_t_one t_wide t_high t_size t_at t_fault t_newWide t_newHigh t_colours t_now t_file t_fresh t_colour t_table t_last t_one v0 2 r13 hc14) (qX9_differs_X9_channel_49 hts) ⟨zP_blind, va_recv hK hP (ci := 8) (q0 := 0) rfl rfl, zpre hK hN hP hD [0, 1, 2, 3, 4, 5, 6, 7] rfl rfl⟩ rfl rfl hl.1 rfl (lv_room (Nat.le_of_ble_eq_true rfl)) dX9_differs_37 ⟨Nat.zero_le _, Nat.zero_le _⟩) hP hD hS hA [0, 1, 2, 3, 4, 5, 6, 7] [] [0, 1, 2, 3, 4, 5, 6, 7] (ws' := zwX9 cI h_t h_t_now h_t_file h_t_fresh h_t_colour h_t_table h_t_last h_t_one t_wide t_high t_size t_at t_fault t_newWide t_newHigh t_colours t_now t_file t_fresh t_colour t_table t_last t_one) rfl rfl rfl rfl rfl rfl (fun H locs hP hD hS => ?_)
  refine lv_aload_n hx hb dX9_differs_40 rfl (lv_at hl 2 rfl) ?_
  refine va_get (D := D) (ci := 8) (v := .ref h_t_last) (C := RX9) (T := TX9) (N := 15) hx hb hts iX9_differs_X9 hown hK hP 0 rfl rfl 13 (by decide) (kX9_differs_32 hts) (fun _ h9 => h9) rfl dX9_differs_41 ?_
  refine lv_iconst (v := 2) hx hb dX9_differs_44 (by decide) ?_
  obtain ⟨hg16, hf⟩ := zrd_in hf
  refine va_iald hx hb hK hP 6 0 rfl rfl hg16 dX9_differs_45 ?_
  refine lv_topi (fun x15 ex15 => ?_)
  replace hf := hf x15 ex15
  clear ex15
  refine lv_isub hx hb dX9_differs_46 ?_
  obtain ⟨r17, hc18, hf⟩ := zb1_in hf
  refine zc_i (va_runS (As := [.int (r13 - x15)]) (rest := []) C (mX9_signed l D cI H.size (r13 - x15) r17 hc18) (qX9_differs_X9_signed_67 hts) ⟨zP_blind, zpre hK hN hP hD [] rfl rfl⟩ rfl rfl hl.1 rfl (lv_room (Nat.le_of_ble_eq_true rfl)) dX9_differs_47 ⟨Nat.zero_le _, Nat.zero_le _⟩) hP hD hS hA [] [0, 1, 2, 3, 4, 5, 6, 7] [0, 1, 2, 3, 4, 5, 6, 7] (ws' := zwX9 cI h_t h_t_now h_t_file h_t_fresh h_t_colour h_t_table h_t_last h_t_one t_wide t_high t_size t_at t_fault t_newWide t_newHigh t_colours t_now t_file t_fresh t_colour t_table t_last t_one) rfl rfl rfl rfl rfl rfl (fun H locs hP hD hS => ?_)
  refine lv_istore (lv' := [(4, .int r17), (3, .int r11), (2, .int r5), (0, .ref h_t), (1, .int v0)]) hx hb dX9_differs_50 hl (by decide) rfl (fun ls hl => ?_)
  refine lv_iload_n hx hb dX9_differs_52 rfl (lv_at hl 2 rfl) ?_
  refine lv_iload_n hx hb dX9_differs_53 rfl (lv_at hl 1 rfl) ?_
  refine lv_isub hx hb dX9_differs_54 ?_
  obtain ⟨r19, hc20, hf⟩ := zb1_in hf
  refine zc_i (va_runS (As := [.int (r5 - r11)]) (rest := []) C (mX9_signed l D cI H.size (r5 - r11) r19 hc20) (qX9_differs_X9_signed_67 hts) ⟨zP_blind, zpre hK hN hP hD [] rfl rfl⟩ rfl rfl hl.1 rfl (lv_room (Nat.le_of_ble_eq_true rfl)) dX9_differs_55 ⟨Nat.zero_le _, Nat.zero_le _⟩) hP hD hS hA [] [0, 1, 2, 3, 4, 5, 6, 7] [0, 1, 2, 3, 4, 5, 6, 7] (ws' := zwX9 cI h_t h_t_now h_t_file h_t_fresh h_t_colour h_t_table h_t_last h_t_one t_wide t_high t_size t_at t_fault t_newWide t_newHigh t_colours t_now t_file t_fresh t_colour t_table t_last t_one) rfl rfl rfl rfl rfl rfl (fun H locs hP hD hS => ?_)
  refine lv_istore (lv' := [(5, .int r19), (4, .int r17), (3, .int r11), (2, .int r5), (0, .ref h_t), (1, .int v0)]) hx hb dX9_differs_58 hl (by decide) rfl (fun ls hl => ?_)
  refine lv_iload hx hb dX9_differs_60 (lv_at hl 1 rfl) ?_
  refine lv_iload_n hx hb dX9_differs_62 rfl (lv_at hl 2 rfl) ?_
  refine lv_isub hx hb dX9_differs_63 ?_
  obtain ⟨r21, hc22, hf⟩ := zb1_in hf
  refine zc_i (va_runS (As := [.int (r17 - r11)]) (rest := []) C (mX9_signed l D cI H.size (r17 - r11) r21 hc22) (qX9_differs_X9_signed_67 hts) ⟨zP_blind, zpre hK hN hP hD [] rfl rfl⟩ rfl rfl hl.1 rfl (lv_room (Nat.le_of_ble_eq_true rfl)) dX9_differs_64 ⟨Nat.zero_le _, Nat.zero_le _⟩) hP hD hS hA [] [0, 1, 2, 3, 4, 5, 6, 7] [0, 1, 2, 3, 4, 5, 6, 7] (ws' := zwX9 cI h_t h_t_now h_t_file h_t_fresh h_t_colour h_t_table h_t_last h_t_one t_wide t_high t_size t_at t_fault t_newWide t_newHigh t_colours t_now t_file t_fresh t_colour t_table t_last t_one) rfl rfl rfl rfl rfl rfl (fun H locs hP hD hS => ?_)
  refine lv_istore (lv' := [(6, .int r21), (5, .int r19), (4, .int r17), (3, .int r11), (2, .int r5), (0, .ref h_t), (1, .int v0)]) hx hb dX9_differs_67 hl (by decide) rfl (fun ls hl => ?_)
  refine lv_aload_n hx hb dX9_differs_69 rfl (lv_at hl 5 rfl) ?_
  refine lv_iload_n hx hb dX9_differs_70 rfl (lv_at hl 6 rfl) ?_
  refine lv_iconst (v := 3) hx hb dX9_differs_71 (by decide) ?_
  obtain ⟨r23, hc24, hf⟩ := zb1_in hf
  refine zc_i (va_runV (As := [.int v0, .int 3]) (rest := []) C (mX9_channel l D cI H.size h_t h_t_now h_t_file h_t_fresh h_t_colour h_t_table h_t_last h_t_one t_wide t_high t_size t_at t_fault t_newWide t_newHigh t_colours t_now t_file t_fresh t_colour t_table t_last t_one v0 3 r23 hc24) (qX9_differs_X9_channel_49 hts) ⟨zP_blind, va_recv hK hP (ci := 8) (q0 := 0) rfl rfl, zpre hK hN hP hD [0, 1, 2, 3, 4, 5, 6, 7] rfl rfl⟩ rfl rfl hl.1 rfl (lv_room (Nat.le_of_ble_eq_true rfl)) dX9_differs_72 ⟨Nat.zero_le _, Nat.zero_le _⟩) hP hD hS hA [0, 1, 2, 3, 4, 5, 6, 7] [] [0, 1, 2, 3, 4, 5, 6, 7] (ws' := zwX9 cI h_t h_t_now h_t_file h_t_fresh h_t_colour h_t_table h_t_last h_t_one t_wide t_high t_size t_at t_fault t_newWide t_newHigh t_colours t_now t_file t_fresh t_colour t_table t_last t_one) rfl rfl rfl rfl rfl rfl (fun H locs hP hD hS => ?_)
  refine lv_aload_n hx hb dX9_differs_75 rfl (lv_at hl 5 rfl) ?_
  refine va_get (D := D) (ci := 8) (v := .ref h_t_last) (C := RX9) (T := TX9) (N := 15) hx hb hts iX9_differs_X9 hown hK hP 0 rfl rfl 13 (by decide) (kX9_differs_32 hts) (fun _ h9 => h9) rfl dX9_differs_76 ?_
  refine lv_iconst (v := 3) hx hb dX9_differs_79 (by decide) ?_
  obtain ⟨hg26, hf⟩ := zrd_in hf
  refine va_iald hx hb hK hP 6 0 rfl rfl hg26 dX9_differs_80 ?_
  refine lv_topi (fun x25 ex25 => ?_)
  replace hf := hf x25 ex25
  clear ex25
  refine lv_icmp_ne (tgt := 88) hx hb dX9_differs_81 (by decide) (fun c27 => ?_) (fun c27 => ?_)
  · replace hf := zif_f hf c27
    refine lv_iconst (v := 0) hx hb dX9_differs_88 (by decide) ?_
    exact wX9_differs_89 C hN hK hA hE hf hP hD hS (lv_sub hl [5, 6, 4, 3, 2, 1, 0] rfl)
  · replace hf := zif_t hf c27
    refine lv_iconst (v := 1) hx hb dX9_differs_84 (by decide) ?_
    refine lv_goto (tgt := 89) hx hb dX9_differs_85 (by decide) ?_
    exact wX9_differs_89 C hN hK hA hE hf hP hD hS (lv_sub hl [5, 6, 4, 3, 2, 1, 0] rfl)
set_option maxHeartbeats 4000000 in
set_option maxRecDepth 100000 in
theorem mX9_differs (l : Launch) (D : va_G) (cI : ClassId) (sz : Nat) (h_t h_t_now h_t_file h_t_fresh h_t_colour h_t_table h_t_last h_t_one : Nat) (t_wide : Int32) (t_high : Int32) (t_size : Int32) (t_at : Int32) (t_fault : Int32) (t_newWide : Int32) (t_newHigh : Int32) (t_colours : Int32) (t_now : Nat → Int32) (t_file : Nat → Int32) (t_fresh : Nat → Int32) (t_colour : Nat → Int32) (t_table : Nat → Int32) (t_last : Nat → Int32) (t_one : Nat → Int32) (v0 : Int32) (zt_size : Int32) (zt_file : Nat → Int32) (hf : fX9_differs t_wide t_size t_now t_file t_last v0 = some (zt_size, zt_file)) : Met l yX9_differs wsX9_differs rmX9_differs (va_Pc [.ref h_t, .int v0] (zP D [(cI, .int)] (zwX9 cI h_t h_t_now h_t_file h_t_fresh h_t_colour h_t_table h_t_last h_t_one t_wide t_high t_size t_at t_fault t_newWide t_newHigh t_colours t_now t_file t_fresh t_colour t_table t_last t_one) sz)) (zQv D (zwX9 cI h_t h_t_now h_t_file h_t_fresh h_t_colour h_t_table h_t_last h_t_one t_wide t_high t_size t_at t_fault t_newWide t_newHigh t_colours t_now t_file t_fresh t_colour t_table t_last t_one) sz (zwX9 cI h_t h_t_now h_t_file h_t_fresh h_t_colour h_t_table h_t_last h_t_one t_wide t_high zt_size t_at t_fault t_newWide t_newHigh t_colours t_now zt_file t_fresh t_colour t_table t_last t_one)) 0 0 (va_A (zwX9 cI h_t h_t_now h_t_file h_t_fresh h_t_colour h_t_table h_t_last h_t_one t_wide t_high t_size t_at t_fault t_newWide t_newHigh t_colours t_now t_file t_fresh t_colour t_table t_last t_one) sz) := by
  refine Met.ofW (cc := cX9_differs) (maxL := 11) (ret := none) (by decide) rfl ?_
  intro p e s m args below meth c s₁ B hml hv
  obtain ⟨rfl, hsz, hP, hK, hD0, hN⟩ := hv
  subst hsz
  have C : CallFix p m c cX9_differs 11 s [.ref h_t, .int v0].toArray wsX9_differs RX9 := ⟨B.exec, B.bytes, hml, findClass_of_methodNamed B.named, atoms_spec (ws := wsX9_differs) B.pre⟩
  have hl := lv_entry ([.ref h_t, .int v0]) (n := 11) (Nat.le_of_ble_eq_true rfl)
  rw [lg_entry_eq]
  exact wX9_differs_0 (A := va_A (zwX9 cI h_t h_t_now h_t_file h_t_fresh h_t_colour h_t_table h_t_last h_t_one t_wide t_high t_size t_at t_fault t_newWide t_newHigh t_colours t_now t_file t_fresh t_colour t_table t_last t_one) s.heap.size) C hN hK (fun q h => Or.inr h) (fun H locs pc ls d hP hD hS => zend_v C.1 C.2.1 B.returns B.notSynchronized d hP hD hS) hf hP hD0.self va_S.rf hl
def rmX9_clearTable : Room := { frames := 0, cells := 0, slots := 0, locals := 0 }
theorem kX9_clearTable_29 {args : Array Value} {s : State} (h : ∀ w ∈ wsX9_clearTable, w.before args s = true) : (Cond.fieldLink RX9 29 "FourPictureFilesModel" "table" "[I").before args s = true := h _ (by decide +kernel)
theorem kX9_clearTable_32 {args : Array Value} {s : State} (h : ∀ w ∈ wsX9_clearTable, w.before args s = true) : (Cond.fieldLink RX9 32 "FourPictureFilesModel" "last" "[I").before args s = true := h _ (by decide +kernel)
theorem iX9_clearTable_X9 : ∀ w ∈ u_ws RX9 TX9 15, w ∈ wsX9_clearTable := by decide +kernel
set_option maxHeartbeats 4000000 in
set_option maxRecDepth 100000 in
theorem wX9_clearTable_46 {p : Program} {l : Launch} {e : Env} {s : State} {m : MethodId} {args : Array Value} {below : List Frame} {meth : Method} {c : Code} {D : va_G} {A : Nat → Prop} {Q : State → Prop} {cI : ClassId} {h_t h_t_now h_t_file h_t_fresh h_t_colour h_t_table h_t_last h_t_one : Nat} {t_wide : Int32} {t_high : Int32} {t_size : Int32} {t_at : Int32} {t_fault : Int32} {t_newWide : Int32} {t_newHigh : Int32} {t_colours : Int32} {t_now : Nat → Int32} {t_file : Nat → Int32} {t_fresh : Nat → Int32} {t_colour : Nat → Int32} {t_one : Nat → Int32} {zt_table : Nat → Int32} {zt_last : Nat → Int32} (C : CallFix p m c cX9_clearTable 2 s args wsX9_clearTable RX9) (hN : zN s) (hK : va_K D vwCl [(cI, .int)] s) (hA : ∀ q, s.heap.size ≤ q → A q) (hE : zEv p l e rmX9_clearTable s m args below meth c cX9_clearTable D A Q (zwX9 cI h_t h_t_now h_t_file h_t_fresh h_t_colour h_t_table h_t_last h_t_one t_wide t_high t_size t_at t_fault t_newWide t_newHigh t_colours t_now t_file t_fresh t_colour zt_table zt_last t_one)) {rc24 : (Nat → Int32) → (Nat → Int32) → Int32 → Option ((Nat → Int32) × (Nat → Int32))} (hr_24 : ∀ {t_table : Nat → Int32} {t_last : Nat → Int32} {l1 : Int32} {H : Heap} {locs : List Loc} {ls : Array Slot}, rc24 t_table t_last l1 = some (zt_table, zt_last) → va_P D vwCl (zwX9 cI h_t h_t_now h_t_file h_t_fresh h_t_colour h_t_table h_t_last h_t_one t_wide t_high t_size t_at t_fault t_newWide t_newHigh t_colours t_now t_file t_fresh t_colour t_table t_last t_one) H → va_D A (zwX9 cI h_t h_t_now h_t_file h_t_fresh h_t_colour h_t_table h_t_last h_t_one t_wide t_high t_size t_at t_fault t_newWide t_newHigh t_colours t_now t_file t_fresh t_colour t_table t_last t_one) → va_S A s.heap H locs → lv_has ls 2 [(0, .ref h_t), (1, .int l1)] → W p l e rmX9_clearTable s m args below meth c H locs 0 0 Q (F0 m 24 ls [])) {t_table : Nat → Int32} {t_last : Nat → Int32} {l1 : Int32} {k1 : Int32} {k2 : Int32} {H : Heap} {locs : List Loc} {ls : Array Slot} : fX9_clearTable_46 rc24 t_table t_last l1 k1 k2 = some (zt_table, zt_last) → va_P D vwCl (zwX9 cI h_t h_t_now h_t_file h_t_fresh h_t_colour h_t_table h_t_last h_t_one t_wide t_high t_size t_at t_fault t_newWide t_newHigh t_colours t_now t_file t_fresh t_colour t_table t_last t_one) H → va_D A (zwX9 cI h_t h_t_now h_t_file h_t_fresh h_t_colour h_t_table h_t_last h_t_one t_wide t_high t_size t_at t_fault t_newWide t_newHigh t_colours t_now t_file t_fresh t_colour t_table t_last t_one) → va_S A s.heap H locs → lv_has ls 2 [(0, .ref h_t), (1, .int l1)] → W p l e rmX9_clearTable s m args below meth c H locs 0 0 Q (F0 m 46 ls [.int k2, .int k1, .ref h_t_last]) := by
  intro hf hP hD hS hl
  obtain ⟨hx, hb, hml, hown, hts⟩ := id C
  unfold fX9_clearTable_46 at hf
  obtain ⟨hg2, g1, eg1, hf⟩ := zwr_in hf
  refine va_iast hx hb hK hP hD hS 6 0 rfl rfl hg2 dX9_clearTable_46 (fun H locs hP hD hS => ?_)
  replace hP : va_P D vwCl (zwX9 cI h_t h_t_now h_t_file h_t_fresh h_t_colour h_t_table h_t_last h_t_one t_wide t_high t_size t_at t_fault t_newWide t_newHigh t_colours t_now t_file t_fresh t_colour t_table g1 t_one) H := by rw [← eg1]; exact hP
  replace hD : va_D A (zwX9 cI h_t h_t_now h_t_file h_t_fresh h_t_colour h_t_table h_t_last h_t_one t_wide t_high t_size t_at t_fault t_newWide t_newHigh t_colours t_now t_file t_fresh t_colour t_table g1 t_one) := by rw [← eg1]; exact hD
  clear eg1
  obtain ⟨x3, ex3⟩ : ∃ y : Int32, y = l1 + 1 := ⟨_, rfl⟩
  replace hf := zlet_in hf ex3
  refine lv_iinc (v := x3) (lv' := [(1, .int x3), (0, .ref h_t)]) hx hb dX9_clearTable_47 hl (k := 1) rfl (by rw [ex3]; rfl) (by decide) rfl (fun ls hl => ?_)
  clear ex3
  refine lv_goto (tgt := 24) hx hb dX9_clearTable_50 (by decide) ?_
  exact hr_24 hf hP hD hS (lv_sub hl [1, 0] rfl)
set_option maxHeartbeats 4000000 in
set_option maxRecDepth 100000 in
theorem wX9_clearTable_24 {p : Program} {l : Launch} {e : Env} {s : State} {m : MethodId} {args : Array Value} {below : List Frame} {meth : Method} {c : Code} {D : va_G} {A : Nat → Prop} {Q : State → Prop} {cI : ClassId} {h_t h_t_now h_t_file h_t_fresh h_t_colour h_t_table h_t_last h_t_one : Nat} {t_wide : Int32} {t_high : Int32} {t_size : Int32} {t_at : Int32} {t_fault : Int32} {t_newWide : Int32} {t_newHigh : Int32} {t_colours : Int32} {t_now : Nat → Int32} {t_file : Nat → Int32} {t_fresh : Nat → Int32} {t_colour : Nat → Int32} {t_one : Nat → Int32} {zt_table : Nat → Int32} {zt_last : Nat → Int32} (C : CallFix p m c cX9_clearTable 2 s args wsX9_clearTable RX9) (hN : zN s) (hK : va_K D vwCl [(cI, .int)] s) (hA : ∀ q, s.heap.size ≤ q → A q) (hE : zEv p l e rmX9_clearTable s m args below meth c cX9_clearTable D A Q (zwX9 cI h_t h_t_now h_t_file h_t_fresh h_t_colour h_t_table h_t_last h_t_one t_wide t_high t_size t_at t_fault t_newWide t_newHigh t_colours t_now t_file t_fresh t_colour zt_table zt_last t_one)) (n : Nat) : ∀ {t_table : Nat → Int32} {t_last : Nat → Int32} {l1 : Int32} {H : Heap} {locs : List Loc} {ls : Array Slot}, fX9_clearTable_24 n t_table t_last l1 = some (zt_table, zt_last) → va_P D vwCl (zwX9 cI h_t h_t_now h_t_file h_t_fresh h_t_colour h_t_table h_t_last h_t_one t_wide t_high t_size t_at t_fault t_newWide t_newHigh t_colours t_now t_file t_fresh t_colour t_table t_last t_one) H → va_D A (zwX9 cI h_t h_t_now h_t_file h_t_fresh h_t_colour h_t_table h_t_last h_t_one t_wide t_high t_size t_at t_fault t_newWide t_newHigh t_colours t_now t_file t_fresh t_colour t_table t_last t_one) → va_S A s.heap H locs → lv_has ls 2 [(0, .ref h_t), (1, .int l1)] → W p l e rmX9_clearTable s m args below meth c H locs 0 0 Q (F0 m 24 ls []) := by
  obtain ⟨hx, hb, hml, hown, hts⟩ := id C
  induction n with
  | zero =>
    intro t_table t_last l1 H locs ls hf
    cases hf
  | succ n hr_24 =>
    intro t_table t_last l1 H locs ls hf hP hD hS hl
    rw [fX9_clearTable_24_s] at hf
    refine lv_iload_n hx hb dX9_clearTable_24 rfl (lv_at hl 1 rfl) ?_
    refine lv_iconst (v := 4) hx hb dX9_clearTable_25 (by decide) ?_
    refine lv_icmp_ge (tgt := 53) hx hb dX9_clearTable_26 (by decide) (fun c1 => ?_) (fun c1 => ?_)
    · replace hf := zif_t hf c1
      cases hf
      exact hE _ _ _ _ dX9_clearTable_53 hP hD hS
    · replace hf := zif_f hf c1
      refine lv_aload_n hx hb dX9_clearTable_29 rfl (lv_at hl 0 rfl) ?_
      refine va_get (D := D) (ci := 8) (v := .ref h_t_last) (C := RX9) (T := TX9) (N := 15) hx hb hts iX9_clearTable_X9 hown hK hP 0 rfl rfl 13 (by decide) (kX9_clearTable_32 hts) (fun _ h9 => h9) rfl dX9_clearTable_30 ?_
      refine lv_iload_n hx hb dX9_clearTable_33 rfl (lv_at hl 1 rfl) ?_
      refine lv_iload_n hx hb dX9_clearTable_34 rfl (lv_at hl 1 rfl) ?_
      refine lv_iconst (v := 3) hx hb dX9_clearTable_35 (by decide) ?_
      refine lv_icmp_ne (tgt := 45) hx hb dX9_clearTable_36 (by decide) (fun c2 => ?_) (fun c2 => ?_)
      · replace hf := zif_f hf c2
        refine lv_iconst (v := 0) hx hb dX9_clearTable_45 (by decide) ?_
        exact wX9_clearTable_46 C hN hK hA hE hr_24 hf hP hD hS (lv_sub hl [0, 1] rfl)
      · replace hf := zif_t hf c2
        refine lv_sipush (v := 255) hx hb dX9_clearTable_39 (by decide) ?_
        refine lv_goto (tgt := 46) hx hb dX9_clearTable_42 (by decide) ?_
        exact wX9_clearTable_46 C hN hK hA hE hr_24 hf hP hD hS (lv_sub hl [0, 1] rfl)
set_option maxHeartbeats 4000000 in
set_option maxRecDepth 100000 in
theorem wX9_clearTable_2 {p : Program} {l : Launch} {e : Env} {s : State} {m : MethodId} {args : Array Value} {below : List Frame} {meth : Method} {c : Code} {D : va_G} {A : Nat → Prop} {Q : State → Prop} {cI : ClassId} {h_t h_t_now h_t_file h_t_fresh h_t_colour h_t_table h_t_last h_t_one : Nat} {t_wide : Int32} {t_high : Int32} {t_size : Int32} {t_at : Int32} {t_fault : Int32} {t_newWide : Int32} {t_newHigh : Int32} {t_colours : Int32} {t_now : Nat → Int32} {t_file : Nat → Int32} {t_fresh : Nat → Int32} {t_colour : Nat → Int32} {t_one : Nat → Int32} {zt_table : Nat → Int32} {zt_last : Nat → Int32} (C : CallFix p m c cX9_clearTable 2 s args wsX9_clearTable RX9) (hN : zN s) (hK : va_K D vwCl [(cI, .int)] s) (hA : ∀ q, s.heap.size ≤ q → A q) (hE : zEv p l e rmX9_clearTable s m args below meth c cX9_clearTable D A Q (zwX9 cI h_t h_t_now h_t_file h_t_fresh h_t_colour h_t_table h_t_last h_t_one t_wide t_high t_size t_at t_fault t_newWide t_newHigh t_colours t_now t_file t_fresh t_colour zt_table zt_last t_one)) (n : Nat) : ∀ {t_table : Nat → Int32} {t_last : Nat → Int32} {l1 : Int32} {H : Heap} {locs : List Loc} {ls : Array Slot}, fX9_clearTable_2 n t_table t_last l1 = some (zt_table, zt_last) → va_P D vwCl (zwX9 cI h_t h_t_now h_t_file h_t_fresh h_t_colour h_t_table h_t_last h_t_one t_wide t_high t_size t_at t_fault t_newWide t_newHigh t_colours t_now t_file t_fresh t_colour t_table t_last t_one) H → va_D A (zwX9 cI h_t h_t_now h_t_file h_t_fresh h_t_colour h_t_table h_t_last h_t_one t_wide t_high t_size t_at t_fault t_newWide t_newHigh t_colours t_now t_file t_fresh t_colour t_table t_last t_one) → va_S A s.heap H locs → lv_has ls 2 [(0, .ref h_t), (1, .int l1)] → W p l e rmX9_clearTable s m args below meth c H locs 0 0 Q (F0 m 2 ls []) := by
  obtain ⟨hx, hb, hml, hown, hts⟩ := id C
  induction n with
  | zero =>
    intro t_table t_last l1 H locs ls hf
    cases hf
  | succ n hr_2 =>
    intro t_table t_last l1 H locs ls hf hP hD hS hl
    rw [fX9_clearTable_2_s] at hf
    refine lv_iload_n hx hb dX9_clearTable_2 rfl (lv_at hl 1 rfl) ?_
    refine lv_sipush (v := 256) hx hb dX9_clearTable_3 (by decide) ?_
    refine lv_icmp_ge (tgt := 22) hx hb dX9_clearTable_6 (by decide) (fun c1 => ?_) (fun c1 => ?_)
    · replace hf := zif_t hf c1
      refine lv_iconst (v := 0) hx hb dX9_clearTable_22 (by decide) ?_
      refine lv_istore_n (lv' := [(1, .int 0), (0, .ref h_t)]) hx hb dX9_clearTable_23 rfl hl (by decide) rfl (fun ls hl => ?_)
      exact wX9_clearTable_24 C hN hK hA hE 1000 hf hP hD hS (lv_sub hl [1, 0] rfl)
    · replace hf := zif_f hf c1
      refine lv_aload_n hx hb dX9_clearTable_9 rfl (lv_at hl 0 rfl) ?_
      refine va_get (D := D) (ci := 8) (v := .ref h_t_table) (C := RX9) (T := TX9) (N := 15) hx hb hts iX9_clearTable_X9 hown hK hP 0 rfl rfl 12 (by decide) (kX9_clearTable_29 hts) (fun _ h9 => h9) rfl dX9_clearTable_10 ?_
      refine lv_iload_n hx hb dX9_clearTable_13 rfl (lv_at hl 1 rfl) ?_
      refine lv_iconst (v := 0) hx hb dX9_clearTable_14 (by decide) ?_
      obtain ⟨hg3, g2, eg2, hf⟩ := zwr_in hf
      refine va_iast hx hb hK hP hD hS 5 0 rfl rfl hg3 dX9_clearTable_15 (fun H locs hP hD hS => ?_)
      replace hP : va_P D vwCl (zwX9 cI h_t h_t_now h_t_file h_t_fresh h_t_colour h_t_table h_t_last h_t_one t_wide t_high t_size t_at t_fault t_newWide t_newHigh t_colours t_now t_file t_fresh t_colour g2 t_last t_one) H := by rw [← eg2]; exact hP
      replace hD : va_D A (zwX9 cI h_t h_t_now h_t_file h_t_fresh h_t_colour h_t_table h_t_last h_t_one t_wide t_high t_size t_at t_fault t_newWide t_newHigh t_colours t_now t_file t_fresh t_colour g2 t_last t_one) := by rw [← eg2]; exact hD
      clear eg2
      obtain ⟨x4, ex4⟩ : ∃ y : Int32, y = l1 + 1 := ⟨_, rfl⟩
      replace hf := zlet_in hf ex4
      refine lv_iinc (v := x4) (lv' := [(1, .int x4), (0, .ref h_t)]) hx hb dX9_clearTable_16 hl (k := 1) rfl (by rw [ex4]; rfl) (by decide) rfl (fun ls hl => ?_)
      clear ex4
      refine lv_goto (tgt := 2) hx hb dX9_clearTable_19 (by decide) ?_
      exact hr_2 hf hP hD hS (lv_sub hl [1, 0] rfl)
set_option maxHeartbeats 4000000 in
set_option maxRecDepth 100000 in
theorem wX9_clearTable_0 {p : Program} {l : Launch} {e : Env} {s : State} {m : MethodId} {args : Array Value} {below : List Frame} {meth : Method} {c : Code} {D : va_G} {A : Nat → Prop} {Q : State → Prop} {cI : ClassId} {h_t h_t_now h_t_file h_t_fresh h_t_colour h_t_table h_t_last h_t_one : Nat} {t_wide : Int32} {t_high : Int32} {t_size : Int32} {t_at : Int32} {t_fault : Int32} {t_newWide : Int32} {t_newHigh : Int32} {t_colours : Int32} {t_now : Nat → Int32} {t_file : Nat → Int32} {t_fresh : Nat → Int32} {t_colour : Nat → Int32} {t_one : Nat → Int32} {zt_table : Nat → Int32} {zt_last : Nat → Int32} (C : CallFix p m c cX9_clearTable 2 s args wsX9_clearTable RX9) (hN : zN s) (hK : va_K D vwCl [(cI, .int)] s) (hA : ∀ q, s.heap.size ≤ q → A q) (hE : zEv p l e rmX9_clearTable s m args below meth c cX9_clearTable D A Q (zwX9 cI h_t h_t_now h_t_file h_t_fresh h_t_colour h_t_table h_t_last h_t_one t_wide t_high t_size t_at t_fault t_newWide t_newHigh t_colours t_now t_file t_fresh t_colour zt_table zt_last t_one)) {t_table : Nat → Int32} {t_last : Nat → Int32} {H : Heap} {locs : List Loc} {ls : Array Slot} : fX9_clearTable t_table t_last = some (zt_table, zt_last) → va_P D vwCl (zwX9 cI h_t h_t_now h_t_file h_t_fresh h_t_colour h_t_table h_t_last h_t_one t_wide t_high t_size t_at t_fault t_newWide t_newHigh t_colours t_now t_file t_fresh t_colour t_table t_last t_one) H → va_D A (zwX9 cI h_t h_t_now h_t_file h_t_fresh h_t_colour h_t_table h_t_last h_t_one t_wide t_high t_size t_at t_fault t_newWide t_newHigh t_colours t_now t_file t_fresh t_colour t_table t_last t_one) → va_S A s.heap H locs → lv_has ls 2 [(0, .ref h_t)] → W p l e rmX9_clearTable s m args below meth c H locs 0 0 Q (F0 m 0 ls []) := by
  intro hf hP hD hS hl
  obtain ⟨hx, hb, hml, hown, hts⟩ := id C
  unfold fX9_clearTable at hf
  refine lv_iconst (v := 0) hx hb dX9_clearTable_0 (by decide) ?_
  refine lv_istore_n (lv' := [(1, .int 0), (0, .ref h_t)]) hx hb dX9_clearTable_1 rfl hl (by decide) rfl (fun ls hl => ?_)
  exact wX9_clearTable_2 C hN hK hA hE 1000 hf hP hD hS (lv_sub hl [1, 0] rfl)
set_option maxHeartbeats 4000000 in
set_option maxRecDepth 100000 in
theorem mX9_clearTable (l : Launch) (D : va_G) (cI : ClassId) (sz : Nat) (h_t h_t_now h_t_file h_t_fresh h_t_colour h_t_table h_t_last h_t_one : Nat) (t_wide : Int32) (t_high : Int32) (t_size : Int32) (t_at : Int32) (t_fault : Int32) (t_newWide : Int32) (t_newHigh : Int32) (t_colours : Int32) (t_now : Nat → Int32) (t_file : Nat → Int32) (t_fresh : Nat → Int32) (t_colour : Nat → Int32) (t_table : Nat → Int32) (t_last : Nat → Int32) (t_one : Nat → Int32) (zt_table : Nat → Int32) (zt_last : Nat → Int32) (hf : fX9_clearTable t_table t_last = some (zt_table, zt_last)) : Met l yX9_clearTable wsX9_clearTable rmX9_clearTable (va_Pc [.ref h_t] (zP D [(cI, .int)] (zwX9 cI h_t h_t_now h_t_file h_t_fresh h_t_colour h_t_table h_t_last h_t_one t_wide t_high t_size t_at t_fault t_newWide t_newHigh t_colours t_now t_file t_fresh t_colour t_table t_last t_one) sz)) (zQv D (zwX9 cI h_t h_t_now h_t_file h_t_fresh h_t_colour h_t_table h_t_last h_t_one t_wide t_high t_size t_at t_fault t_newWide t_newHigh t_colours t_now t_file t_fresh t_colour t_table t_last t_one) sz (zwX9 cI h_t h_t_now h_t_file h_t_fresh h_t_colour h_t_table h_t_last h_t_one t_wide t_high t_size t_at t_fault t_newWide t_newHigh t_colours t_now t_file t_fresh t_colour zt_table zt_last t_one)) 0 0 (va_A (zwX9 cI h_t h_t_now h_t_file h_t_fresh h_t_colour h_t_table h_t_last h_t_one t_wide t_high t_size t_at t_fault t_newWide t_newHigh t_colours t_now t_file t_fresh t_colour t_table t_last t_one) sz) := by
  refine Met.ofW (cc := cX9_clearTable) (maxL := 2) (ret := none) (by decide) rfl ?_
  intro p e s m args below meth c s₁ B hml hv
  obtain ⟨rfl, hsz, hP, hK, hD0, hN⟩ := hv
  subst hsz
  have C : CallFix p m c cX9_clearTable 2 s [.ref h_t].toArray wsX9_clearTable RX9 := ⟨B.exec, B.bytes, hml, findClass_of_methodNamed B.named, atoms_spec (ws := wsX9_clearTable) B.pre⟩
  have hl := lv_entry ([.ref h_t]) (n := 2) (Nat.le_of_ble_eq_true rfl)
  rw [lg_entry_eq]
  exact wX9_clearTable_0 (A := va_A (zwX9 cI h_t h_t_now h_t_file h_t_fresh h_t_colour h_t_table h_t_last h_t_one t_wide t_high t_size t_at t_fault t_newWide t_newHigh t_colours t_now t_file t_fresh t_colour t_table t_last t_one) s.heap.size) C hN hK (fun q h => Or.inr h) (fun H locs pc ls d hP hD hS => zend_v C.1 C.2.1 B.returns B.notSynchronized d hP hD hS) hf hP hD0.self va_S.rf hl
def rmX9_writeFirst : Room := { frames := 2, cells := 0, slots := 0, locals := 52 }
theorem kX9_writeFirst_7 {args : Array Value} {s : State} (h : ∀ w ∈ wsX9_writeFirst, w.before args s = true) : (Cond.fieldLink RX9 7 "FourPictureFilesModel" "wide" "I").before args s = true := h _ (by decide +kernel)
theorem kX9_writeFirst_13 {args : Array Value} {s : State} (h : ∀ w ∈ wsX9_writeFirst, w.before args s = true) : (Cond.fieldLink RX9 13 "FourPictureFilesModel" "high" "I").before args s = true := h _ (by decide +kernel)
theorem kX9_writeFirst_29 {args : Array Value} {s : State} (h : ∀ w ∈ wsX9_writeFirst, w.before args s = true) : (Cond.fieldLink RX9 29 "FourPictureFilesModel" "table" "[I").before args s = true := h _ (by decide +kernel)
theorem kX9_writeFirst_32 {args : Array Value} {s : State} (h : ∀ w ∈ wsX9_writeFirst, w.before args s = true) : (Cond.fieldLink RX9 32 "FourPictureFilesModel" "last" "[I").before args s = true := h _ (by decide +kernel)
theorem iX9_writeFirst_X9 : ∀ w ∈ u_ws RX9 TX9 15, w ∈ wsX9_writeFirst := by decide +kernel
theorem qX9_writeFirst_X9_add_63 {args : Array Value} {s : State} (hts : ∀ w ∈ wsX9_writeFirst, w.before args s = true) : CallW rmX9_writeFirst s args RX9 RX9 63 yX9_add cX9_add 2 none wsX9_add rmX9_add 0 0 1 := cwV 1 hts gX9_writeFirst_X9_add rfl rfl rfl (by decide +kernel) ⟨Nat.le_of_ble_eq_true rfl, Nat.le_of_ble_eq_true rfl⟩
theorem qX9_writeFirst_X9_addTwo_71 {args : Array Value} {s : State} (hts : ∀ w ∈ wsX9_writeFirst, w.before args s = true) : CallW rmX9_writeFirst s args RX9 RX9 71 yX9_addTwo cX9_addTwo 3 none wsX9_addTwo rmX9_addTwo 0 0 2 := cwV 2 hts gX9_writeFirst_X9_addTwo rfl rfl rfl (by decide +kernel) ⟨Nat.le_of_ble_eq_true rfl, Nat.le_of_ble_eq_true rfl⟩
theorem qX9_writeFirst_X9_big_75 {args : Array Value} {s : State} (hts : ∀ w ∈ wsX9_writeFirst, w.before args s = true) : CallW rmX9_writeFirst s args RX9 RX9 75 yX9_big cX9_big 3 none wsX9_big rmX9_big 0 0 1 := cwV 1 hts gX9_writeFirst_X9_big rfl rfl rfl (by decide +kernel) ⟨Nat.le_of_ble_eq_true rfl, Nat.le_of_ble_eq_true rfl⟩
theorem qX9_writeFirst_X9_channel_49 {args : Array Value} {s : State} (hts : ∀ w ∈ wsX9_writeFirst, w.before args s = true) : CallW rmX9_writeFirst s args RX9 RX9 49 yX9_channel cX9_channel 3 (some .int) wsX9_channel rmX9_channel 0 0 2 := cwV 2 hts gX9_writeFirst_X9_channel rfl rfl rfl (by decide +kernel) ⟨Nat.le_of_ble_eq_true rfl, Nat.le_of_ble_eq_true rfl⟩
theorem qX9_writeFirst_X9_clearTable_78 {args : Array Value} {s : State} (hts : ∀ w ∈ wsX9_writeFirst, w.before args s = true) : CallW rmX9_writeFirst s args RX9 RX9 78 yX9_clearTable cX9_clearTable 2 none wsX9_clearTable rmX9_clearTable 0 0 0 := cwV 0 hts gX9_writeFirst_X9_clearTable rfl rfl rfl (by decide +kernel) ⟨Nat.le_of_ble_eq_true rfl, Nat.le_of_ble_eq_true rfl⟩
theorem qX9_writeFirst_X9_differs_85 {args : Array Value} {s : State} (hts : ∀ w ∈ wsX9_writeFirst, w.before args s = true) : CallW rmX9_writeFirst s args RX9 RX9 85 yX9_differs cX9_differs 11 none wsX9_differs rmX9_differs 0 0 1 := cwV 1 hts gX9_writeFirst_X9_differs rfl rfl rfl (by decide +kernel) ⟨Nat.le_of_ble_eq_true rfl, Nat.le_of_ble_eq_true rfl⟩
theorem qX9_writeFirst_X9_opaque_53 {args : Array Value} {s : State} (hts : ∀ w ∈ wsX9_writeFirst, w.before args s = true) : CallW rmX9_writeFirst s args RX9 RX9 53 yX9_opaque cX9_opaque 3 (some .boolean) wsX9_opaque rmX9_opaque 0 0 0 := cwV 0 hts gX9_writeFirst_X9_opaque rfl rfl rfl (by decide +kernel) ⟨Nat.le_of_ble_eq_true rfl, Nat.le_of_ble_eq_true rfl⟩
theorem qX9_writeFirst_X9_placeOf_81 {args : Array Value} {s : State} (hts : ∀ w ∈ wsX9_writeFirst, w.before args s = true) : CallB rmX9_writeFirst s args RX9 81 yX9_placeOf cX9_placeOf 4 (some .int) wsX9_placeOf rmX9_placeOf 0 0 4 ∧ (Cond.static yX9_placeOf).before args s = true := va_cwS 4 hts gX9_writeFirst_X9_placeOf rfl rfl rfl (by decide +kernel) ⟨Nat.le_of_ble_eq_true rfl, Nat.le_of_ble_eq_true rfl⟩
set_option maxHeartbeats 4000000 in
set_option maxRecDepth 100000 in
theorem wX9_writeFirst_328 {p : Program} {l : Launch} {e : Env} {s : State} {m : MethodId} {args : Array Value} {below : List Frame} {meth : Method} {c : Code} {D : va_G} {A : Nat → Prop} {Q : State → Prop} {cI : ClassId} {h_t h_t_now h_t_file h_t_fresh h_t_colour h_t_table h_t_last h_t_one : Nat} {t_wide : Int32} {t_high : Int32} {t_at : Int32} {t_fault : Int32} {t_newWide : Int32} {t_newHigh : Int32} {t_colours : Int32} {t_now : Nat → Int32} {t_fresh : Nat → Int32} {t_colour : Nat → Int32} {t_one : Nat → Int32} {zt_size : Int32} {zt_file : Nat → Int32} {zt_table : Nat → Int32} {zt_last : Nat → Int32} (C : CallFix p m c cX9_writeFirst 8 s args wsX9_writeFirst RX9) (hN : zN s) (hK : va_K D vwCl [(cI, .int)] s) (hA : ∀ q, s.heap.size ≤ q → A q) (hE : zEv p l e rmX9_writeFirst s m args below meth c cX9_writeFirst D A Q (zwX9 cI h_t h_t_now h_t_file h_t_fresh h_t_colour h_t_table h_t_last h_t_one t_wide t_high zt_size t_at t_fault t_newWide t_newHigh t_colours t_now zt_file t_fresh t_colour zt_table zt_last t_one)) (n : Nat) : ∀ {t_size : Int32} {t_file : Nat → Int32} {t_table : Nat → Int32} {t_last : Nat → Int32} {l1 : Int32} {l2 : Int32} {l3 : Int32} {H : Heap} {locs : List Loc} {ls : Array Slot}, fX9_writeFirst_328 n t_size t_file t_table t_last l3 = some (zt_size, zt_file, zt_table, zt_last) → va_P D vwCl (zwX9 cI h_t h_t_now h_t_file h_t_fresh h_t_colour h_t_table h_t_last h_t_one t_wide t_high t_size t_at t_fault t_newWide t_newHigh t_colours t_now t_file t_fresh t_colour t_table t_last t_one) H → va_D A (zwX9 cI h_t h_t_now h_t_file h_t_fresh h_t_colour h_t_table h_t_last h_t_one t_wide t_high t_size t_at t_fault t_newWide t_newHigh t_colours t_now t_file t_fresh t_colour t_table t_last t_one) → va_S A s.heap H locs → lv_has ls 8 [(0, .ref h_t), (1, .int l1), (2, .int l2), (3, .int l3)] → W p l e rmX9_writeFirst s m args below meth c H locs 0 0 Q (F0 m 328 ls []) := by
  obtain ⟨hx, hb, hml, hown, hts⟩ := id C
  induction n with
  | zero =>
    intro t_size t_file t_table t_last l1 l2 l3 H locs ls hf
    cases hf
  | succ n hr_328 =>
    intro t_size t_file t_table t_last l1 l2 l3 H locs ls hf hP hD hS hl
    rw [fX9_writeFirst_328_s] at hf
    refine lv_iload_n hx hb dX9_writeFirst_328 rfl (lv_at hl 3 rfl) ?_
    refine lv_bipush (v := 7) hx hb dX9_writeFirst_329 (by decide) ?_
    refine lv_icmp_ge (tgt := 345) hx hb dX9_writeFirst_331 (by decide) (fun c1 => ?_) (fun c1 => ?_)
    · replace hf := zif_t hf c1
      refine lv_aload_n hx hb dX9_writeFirst_345 rfl (lv_at hl 0 rfl) ?_
      refine lv_iconst (v := 1) hx hb dX9_writeFirst_346 (by decide) ?_
      obtain ⟨u2, u3, hc4, hf⟩ := zb2_in hf
      refine zc_v (va_runV (As := [.int 1]) (rest := []) C (mX9_add l D cI H.size h_t h_t_now h_t_file h_t_fresh h_t_colour h_t_table h_t_last h_t_one t_wide t_high t_size t_at t_fault t_newWide t_newHigh t_colours t_now t_file t_fresh t_colour t_table t_last t_one 1 u2 u3 hc4) (qX9_writeFirst_X9_add_63 hts) ⟨zP_blind, va_recv hK hP (ci := 8) (q0 := 0) rfl rfl, zpre hK hN hP hD [0, 1, 2, 3, 4, 5, 6, 7] rfl rfl⟩ rfl rfl hl.1 rfl (lv_room (Nat.le_of_ble_eq_true rfl)) dX9_writeFirst_347 ⟨Nat.zero_le _, Nat.zero_le _⟩) hP hD hS hA [0, 1, 2, 3, 4, 5, 6, 7] [] [0, 1, 2, 3, 4, 5, 6, 7] (ws' := zwX9 cI h_t h_t_now h_t_file h_t_fresh h_t_colour h_t_table h_t_last h_t_one t_wide t_high u2 t_at t_fault t_newWide t_newHigh t_colours t_now u3 t_fresh t_colour t_table t_last t_one) rfl rfl rfl rfl rfl rfl (fun H locs hP hD hS => ?_)
      cases hf
      exact hE _ _ _ _ dX9_writeFirst_350 hP hD hS
    · replace hf := zif_f hf c1
      refine lv_aload_n hx hb dX9_writeFirst_334 rfl (lv_at hl 0 rfl) ?_
      refine lv_iconst (v := 0) hx hb dX9_writeFirst_335 (by decide) ?_
      obtain ⟨u5, u6, hc7, hf⟩ := zb2_in hf
      refine zc_v (va_runV (As := [.int 0]) (rest := []) C (mX9_add l D cI H.size h_t h_t_now h_t_file h_t_fresh h_t_colour h_t_table h_t_last h_t_one t_wide t_high t_size t_at t_fault t_newWide t_newHigh t_colours t_now t_file t_fresh t_colour t_table t_last t_one 0 u5 u6 hc7) (qX9_writeFirst_X9_add_63 hts) ⟨zP_blind, va_recv hK hP (ci := 8) (q0 := 0) rfl rfl, zpre hK hN hP hD [0, 1, 2, 3, 4, 5, 6, 7] rfl rfl⟩ rfl rfl hl.1 rfl (lv_room (Nat.le_of_ble_eq_true rfl)) dX9_writeFirst_336 ⟨Nat.zero_le _, Nat.zero_le _⟩) hP hD hS hA [0, 1, 2, 3, 4, 5, 6, 7] [] [0, 1, 2, 3, 4, 5, 6, 7] (ws' := zwX9 cI h_t h_t_now h_t_file h_t_fresh h_t_colour h_t_table h_t_last h_t_one t_wide t_high u5 t_at t_fault t_newWide t_newHigh t_colours t_now u6 t_fresh t_colour t_table t_last t_one) rfl rfl rfl rfl rfl rfl (fun H locs hP hD hS => ?_)
      obtain ⟨x8, ex8⟩ : ∃ y : Int32, y = l3 + 1 := ⟨_, rfl⟩
      replace hf := zlet_in hf ex8
      refine lv_iinc (v := x8) (lv' := [(3, .int x8), (0, .ref h_t), (1, .int l1), (2, .int l2)]) hx hb dX9_writeFirst_339 hl (k := 3) rfl (by rw [ex8]; rfl) (by decide) rfl (fun ls hl => ?_)
      clear ex8
      refine lv_goto (tgt := 328) hx hb dX9_writeFirst_342 (by decide) ?_
      exact hr_328 hf hP hD hS (lv_sub hl [1, 2, 3, 0] rfl)
set_option maxHeartbeats 4000000 in
set_option maxRecDepth 100000 in
theorem wX9_writeFirst_326 {p : Program} {l : Launch} {e : Env} {s : State} {m : MethodId} {args : Array Value} {below : List Frame} {meth : Method} {c : Code} {D : va_G} {A : Nat → Prop} {Q : State → Prop} {cI : ClassId} {h_t h_t_now h_t_file h_t_fresh h_t_colour h_t_table h_t_last h_t_one : Nat} {t_wide : Int32} {t_high : Int32} {t_at : Int32} {t_fault : Int32} {t_newWide : Int32} {t_newHigh : Int32} {t_colours : Int32} {t_now : Nat → Int32} {t_fresh : Nat → Int32} {t_colour : Nat → Int32} {t_one : Nat → Int32} {zt_size : Int32} {zt_file : Nat → Int32} {zt_table : Nat → Int32} {zt_last : Nat → Int32} (C : CallFix p m c cX9_writeFirst 8 s args wsX9_writeFirst RX9) (hN : zN s) (hK : va_K D vwCl [(cI, .int)] s) (hA : ∀ q, s.heap.size ≤ q → A q) (hE : zEv p l e rmX9_writeFirst s m args below meth c cX9_writeFirst D A Q (zwX9 cI h_t h_t_now h_t_file h_t_fresh h_t_colour h_t_table h_t_last h_t_one t_wide t_high zt_size t_at t_fault t_newWide t_newHigh t_colours t_now zt_file t_fresh t_colour zt_table zt_last t_one)) {t_size : Int32} {t_file : Nat → Int32} {t_table : Nat → Int32} {t_last : Nat → Int32} {l1 : Int32} {l2 : Int32} {l3 : Int32} {H : Heap} {locs : List Loc} {ls : Array Slot} : fX9_writeFirst_326 t_size t_file t_table t_last = some (zt_size, zt_file, zt_table, zt_last) → va_P D vwCl (zwX9 cI h_t h_t_now h_t_file h_t_fresh h_t_colour h_t_table h_t_last h_t_one t_wide t_high t_size t_at t_fault t_newWide t_newHigh t_colours t_now t_file t_fresh t_colour t_table t_last t_one) H → va_D A (zwX9 cI h_t h_t_now h_t_file h_t_fresh h_t_colour h_t_table h_t_last h_t_one t_wide t_high t_size t_at t_fault t_newWide t_newHigh t_colours t_now t_file t_fresh t_colour t_table t_last t_one) → va_S A s.heap H locs → lv_has ls 8 [(0, .ref h_t), (1, .int l1), (2, .int l2), (3, .int l3)] → W p l e rmX9_writeFirst s m args below meth c H locs 0 0 Q (F0 m 326 ls []) := by
  intro hf hP hD hS hl
  obtain ⟨hx, hb, hml, hown, hts⟩ := id C
  unfold fX9_writeFirst_326 at hf
  refine lv_iconst (v := 0) hx hb dX9_writeFirst_326 (by decide) ?_
  refine lv_istore_n (lv' := [(3, .int 0), (0, .ref h_t), (1, .int l1), (2, .int l2)]) hx hb dX9_writeFirst_327 rfl hl (by decide) rfl (fun ls hl => ?_)
  exact wX9_writeFirst_328 C hN hK hA hE 1000 hf hP hD hS (lv_sub hl [1, 2, 3, 0] rfl)
set_option maxHeartbeats 4000000 in
set_option maxRecDepth 100000 in
theorem wX9_writeFirst_286 {p : Program} {l : Launch} {e : Env} {s : State} {m : MethodId} {args : Array Value} {below : List Frame} {meth : Method} {c : Code} {D : va_G} {A : Nat → Prop} {Q : State → Prop} {cI : ClassId} {h_t h_t_now h_t_file h_t_fresh h_t_colour h_t_table h_t_last h_t_one : Nat} {t_wide : Int32} {t_high : Int32} {t_at : Int32} {t_fault : Int32} {t_newWide : Int32} {t_newHigh : Int32} {t_colours : Int32} {t_now : Nat → Int32} {t_fresh : Nat → Int32} {t_colour : Nat → Int32} {t_one : Nat → Int32} {zt_size : Int32} {zt_file : Nat → Int32} {zt_table : Nat → Int32} {zt_last : Nat → Int32} (C : CallFix p m c cX9_writeFirst 8 s args wsX9_writeFirst RX9) (hN : zN s) (hK : va_K D vwCl [(cI, .int)] s) (hA : ∀ q, s.heap.size ≤ q → A q) (hE : zEv p l e rmX9_writeFirst s m args below meth c cX9_writeFirst D A Q (zwX9 cI h_t h_t_now h_t_file h_t_fresh h_t_colour h_t_table h_t_last h_t_one t_wide t_high zt_size t_at t_fault t_newWide t_newHigh t_colours t_now zt_file t_fresh t_colour zt_table zt_last t_one)) {rc67 : Int32 → Int32 → (Nat → Int32) → (Nat → Int32) → (Nat → Int32) → (Nat → Int32) → Int32 → Int32 → Int32 → Option (Int32 × (Nat → Int32) × (Nat → Int32) × (Nat → Int32))} (hr_67 : ∀ {t_size : Int32} {t_file : Nat → Int32} {t_table : Nat → Int32} {t_last : Nat → Int32} {l1 : Int32} {l2 : Int32} {l3 : Int32} {H : Heap} {locs : List Loc} {ls : Array Slot}, rc67 t_wide t_size t_now t_file t_table t_last l1 l2 l3 = some (zt_size, zt_file, zt_table, zt_last) → va_P D vwCl (zwX9 cI h_t h_t_now h_t_file h_t_fresh h_t_colour h_t_table h_t_last h_t_one t_wide t_high t_size t_at t_fault t_newWide t_newHigh t_colours t_now t_file t_fresh t_colour t_table t_last t_one) H → va_D A (zwX9 cI h_t h_t_now h_t_file h_t_fresh h_t_colour h_t_table h_t_last h_t_one t_wide t_high t_size t_at t_fault t_newWide t_newHigh t_colours t_now t_file t_fresh t_colour t_table t_last t_one) → va_S A s.heap H locs → lv_has ls 8 [(0, .ref h_t), (1, .int l1), (2, .int l2), (3, .int l3)] → W p l e rmX9_writeFirst s m args below meth c H locs 0 0 Q (F0 m 67 ls [])) {rc246 : Int32 → Int32 → (Nat → Int32) → (Nat → Int32) → (Nat → Int32) → (Nat → Int32) → Int32 → Int32 → Int32 → Int32 → Int32 → Int32 → Option (Int32 × (Nat → Int32) × (Nat → Int32) × (Nat → Int32))} (hr_246 : ∀ {t_size : Int32} {t_file : Nat → Int32} {t_table : Nat → Int32} {t_last : Nat → Int32} {l1 : Int32} {l2 : Int32} {l3 : Int32} {l4 : Int32} {l5 : Int32} {l6 : Int32} {l7 : Int32} {H : Heap} {locs : List Loc} {ls : Array Slot}, rc246 t_wide t_size t_now t_file t_table t_last l1 l2 l3 l4 l5 l7 = some (zt_size, zt_file, zt_table, zt_last) → va_P D vwCl (zwX9 cI h_t h_t_now h_t_file h_t_fresh h_t_colour h_t_table h_t_last h_t_one t_wide t_high t_size t_at t_fault t_newWide t_newHigh t_colours t_now t_file t_fresh t_colour t_table t_last t_one) H → va_D A (zwX9 cI h_t h_t_now h_t_file h_t_fresh h_t_colour h_t_table h_t_last h_t_one t_wide t_high t_size t_at t_fault t_newWide t_newHigh t_colours t_now t_file t_fresh t_colour t_table t_last t_one) → va_S A s.heap H locs → lv_has ls 8 [(0, .ref h_t), (1, .int l1), (2, .int l2), (3, .int l3), (4, .int l4), (5, .int l5), (6, .int l6), (7, .int l7)] → W p l e rmX9_writeFirst s m args below meth c H locs 0 0 Q (F0 m 246 ls [])) {t_size : Int32} {t_file : Nat → Int32} {t_table : Nat → Int32} {t_last : Nat → Int32} {l1 : Int32} {l2 : Int32} {l3 : Int32} {l4 : Int32} {l5 : Int32} {l6 : Int32} {l7 : Int32} {k1 : Int32} {k2 : Int32} {H : Heap} {locs : List Loc} {ls : Array Slot} : fX9_writeFirst_286 rc67 rc246 t_wide t_size t_now t_file t_table t_last l1 l2 l3 l4 l5 l7 k1 k2 = some (zt_size, zt_file, zt_table, zt_last) → va_P D vwCl (zwX9 cI h_t h_t_now h_t_file h_t_fresh h_t_colour h_t_table h_t_last h_t_one t_wide t_high t_size t_at t_fault t_newWide t_newHigh t_colours t_now t_file t_fresh t_colour t_table t_last t_one) H → va_D A (zwX9 cI h_t h_t_now h_t_file h_t_fresh h_t_colour h_t_table h_t_last h_t_one t_wide t_high t_size t_at t_fault t_newWide t_newHigh t_colours t_now t_file t_fresh t_colour t_table t_last t_one) → va_S A s.heap H locs → lv_has ls 8 [(0, .ref h_t), (1, .int l1), (2, .int l2), (3, .int l3), (4, .int l4), (5, .int l5), (6, .int l6), (7, .int l7)] → W p l e rmX9_writeFirst s m args below meth c H locs 0 0 Q (F0 m 286 ls [.int k2, .int k1, .ref h_t_table]) := by
  intro hf hP hD hS hl
  obtain ⟨hx, hb, hml, hown, hts⟩ := id C
  unfold fX9_writeFirst_286 at hf
  obtain ⟨hg2, g1, eg1, hf⟩ := zwr_in hf
  refine va_iast hx hb hK hP hD hS 5 0 rfl rfl hg2 dX9_writeFirst_286 (fun H locs hP hD hS => ?_)
  replace hP : va_P D vwCl (zwX9 cI h_t h_t_now h_t_file h_t_fresh h_t_colour h_t_table h_t_last h_t_one t_wide t_high t_size t_at t_fault t_newWide t_newHigh t_colours t_now t_file t_fresh t_colour g1 t_last t_one) H := by rw [← eg1]; exact hP
  replace hD : va_D A (zwX9 cI h_t h_t_now h_t_file h_t_fresh h_t_colour h_t_table h_t_last h_t_one t_wide t_high t_size t_at t_fault t_newWide t_newHigh t_colours t_now t_file t_fresh t_colour g1 t_last t_one) := by rw [← eg1]; exact hD
  clear eg1
  refine lv_aload_n hx hb dX9_writeFirst_287 rfl (lv_at hl 0 rfl) ?_
  refine va_get (D := D) (ci := 8) (v := .ref h_t_last) (C := RX9) (T := TX9) (N := 15) hx hb hts iX9_writeFirst_X9 hown hK hP 0 rfl rfl 13 (by decide) (kX9_writeFirst_32 hts) (fun _ h9 => h9) rfl dX9_writeFirst_288 ?_
  refine lv_iload hx hb dX9_writeFirst_291 (lv_at hl 7 rfl) ?_
  refine lv_aload_n hx hb dX9_writeFirst_293 rfl (lv_at hl 0 rfl) ?_
  refine lv_iload_n hx hb dX9_writeFirst_294 rfl (lv_at hl 3 rfl) ?_
  refine lv_iload hx hb dX9_writeFirst_295 (lv_at hl 7 rfl) ?_
  obtain ⟨r3, hc4, hf⟩ := zb1_in hf
  refine zc_i (va_runV (As := [.int l3, .int l7]) (rest := [.int l7, .ref h_t_last]) C (mX9_channel l D cI H.size h_t h_t_now h_t_file h_t_fresh h_t_colour h_t_table h_t_last h_t_one t_wide t_high t_size t_at t_fault t_newWide t_newHigh t_colours t_now t_file t_fresh t_colour g1 t_last t_one l3 l7 r3 hc4) (qX9_writeFirst_X9_channel_49 hts) ⟨zP_blind, va_recv hK hP (ci := 8) (q0 := 0) rfl rfl, zpre hK hN hP hD [0, 1, 2, 3, 4, 5, 6, 7] rfl rfl⟩ rfl rfl hl.1 rfl (lv_room (Nat.le_of_ble_eq_true rfl)) dX9_writeFirst_297 ⟨Nat.zero_le _, Nat.zero_le _⟩) hP hD hS hA [0, 1, 2, 3, 4, 5, 6, 7] [] [0, 1, 2, 3, 4, 5, 6, 7] (ws' := zwX9 cI h_t h_t_now h_t_file h_t_fresh h_t_colour h_t_table h_t_last h_t_one t_wide t_high t_size t_at t_fault t_newWide t_newHigh t_colours t_now t_file t_fresh t_colour g1 t_last t_one) rfl rfl rfl rfl rfl rfl (fun H locs hP hD hS => ?_)
  obtain ⟨hg6, g5, eg5, hf⟩ := zwr_in hf
  refine va_iast hx hb hK hP hD hS 6 0 rfl rfl hg6 dX9_writeFirst_300 (fun H locs hP hD hS => ?_)
  replace hP : va_P D vwCl (zwX9 cI h_t h_t_now h_t_file h_t_fresh h_t_colour h_t_table h_t_last h_t_one t_wide t_high t_size t_at t_fault t_newWide t_newHigh t_colours t_now t_file t_fresh t_colour g1 g5 t_one) H := by rw [← eg5]; exact hP
  replace hD : va_D A (zwX9 cI h_t h_t_now h_t_file h_t_fresh h_t_colour h_t_table h_t_last h_t_one t_wide t_high t_size t_at t_fault t_newWide t_newHigh t_colours t_now t_file t_fresh t_colour g1 g5 t_one) := by rw [← eg5]; exact hD
  clear eg5
  obtain ⟨x7, ex7⟩ : ∃ y : Int32, y = l7 + 1 := ⟨_, rfl⟩
  replace hf := zlet_in hf ex7
  refine lv_iinc (v := x7) (lv' := [(7, .int x7), (0, .ref h_t), (1, .int l1), (2, .int l2), (3, .int l3), (4, .int l4), (5, .int l5), (6, .int l6)]) hx hb dX9_writeFirst_301 hl (k := 7) rfl (by rw [ex7]; rfl) (by decide) rfl (fun ls hl => ?_)
  clear ex7
  refine lv_goto (tgt := 246) hx hb dX9_writeFirst_304 (by decide) ?_
  exact hr_246 hf hP hD hS (lv_sub hl [1, 2, 3, 4, 5, 6, 7, 0] rfl)
set_option maxHeartbeats 4000000 in
set_option maxRecDepth 100000 in
theorem wX9_writeFirst_246 {p : Program} {l : Launch} {e : Env} {s : State} {m : MethodId} {args : Array Value} {below : List Frame} {meth : Method} {c : Code} {D : va_G} {A : Nat → Prop} {Q : State → Prop} {cI : ClassId} {h_t h_t_now h_t_file h_t_fresh h_t_colour h_t_table h_t_last h_t_one : Nat} {t_wide : Int32} {t_high : Int32} {t_at : Int32} {t_fault : Int32} {t_newWide : Int32} {t_newHigh : Int32} {t_colours : Int32} {t_now : Nat → Int32} {t_fresh : Nat → Int32} {t_colour : Nat → Int32} {t_one : Nat → Int32} {zt_size : Int32} {zt_file : Nat → Int32} {zt_table : Nat → Int32} {zt_last : Nat → Int32} (C : CallFix p m c cX9_writeFirst 8 s args wsX9_writeFirst RX9) (hN : zN s) (hK : va_K D vwCl [(cI, .int)] s) (hA : ∀ q, s.heap.size ≤ q → A q) (hE : zEv p l e rmX9_writeFirst s m args below meth c cX9_writeFirst D A Q (zwX9 cI h_t h_t_now h_t_file h_t_fresh h_t_colour h_t_table h_t_last h_t_one t_wide t_high zt_size t_at t_fault t_newWide t_newHigh t_colours t_now zt_file t_fresh t_colour zt_table zt_last t_one)) {rc67 : Int32 → Int32 → (Nat → Int32) → (Nat → Int32) → (Nat → Int32) → (Nat → Int32) → Int32 → Int32 → Int32 → Option (Int32 × (Nat → Int32) × (Nat → Int32) × (Nat → Int32))} (hr_67 : ∀ {t_size : Int32} {t_file : Nat → Int32} {t_table : Nat → Int32} {t_last : Nat → Int32} {l1 : Int32} {l2 : Int32} {l3 : Int32} {H : Heap} {locs : List Loc} {ls : Array Slot}, rc67 t_wide t_size t_now t_file t_table t_last l1 l2 l3 = some (zt_size, zt_file, zt_table, zt_last) → va_P D vwCl (zwX9 cI h_t h_t_now h_t_file h_t_fresh h_t_colour h_t_table h_t_last h_t_one t_wide t_high t_size t_at t_fault t_newWide t_newHigh t_colours t_now t_file t_fresh t_colour t_table t_last t_one) H → va_D A (zwX9 cI h_t h_t_now h_t_file h_t_fresh h_t_colour h_t_table h_t_last h_t_one t_wide t_high t_size t_at t_fault t_newWide t_newHigh t_colours t_now t_file t_fresh t_colour t_table t_last t_one) → va_S A s.heap H locs → lv_has ls 8 [(0, .ref h_t), (1, .int l1), (2, .int l2), (3, .int l3)] → W p l e rmX9_writeFirst s m args below meth c H locs 0 0 Q (F0 m 67 ls [])) (n : Nat) : ∀ {t_size : Int32} {t_file : Nat → Int32} {t_table : Nat → Int32} {t_last : Nat → Int32} {l1 : Int32} {l2 : Int32} {l3 : Int32} {l4 : Int32} {l5 : Int32} {l6 : Int32} {l7 : Int32} {H : Heap} {locs : List Loc} {ls : Array Slot}, fX9_writeFirst_246 rc67 n t_wide t_size t_now t_file t_table t_last l1 l2 l3 l4 l5 l7 = some (zt_size, zt_file, zt_table, zt_last) → va_P D vwCl (zwX9 cI h_t h_t_now h_t_file h_t_fresh h_t_colour h_t_table h_t_last h_t_one t_wide t_high t_size t_at t_fault t_newWide t_newHigh t_colours t_now t_file t_fresh t_colour t_table t_last t_one) H → va_D A (zwX9 cI h_t h_t_now h_t_file h_t_fresh h_t_colour h_t_table h_t_last h_t_one t_wide t_high t_size t_at t_fault t_newWide t_newHigh t_colours t_now t_file t_fresh t_colour t_table t_last t_one) → va_S A s.heap H locs → lv_has ls 8 [(0, .ref h_t), (1, .int l1), (2, .int l2), (3, .int l3), (4, .int l4), (5, .int l5), (6, .int l6), (7, .int l7)] → W p l e rmX9_writeFirst s m args below meth c H locs 0 0 Q (F0 m 246 ls []) := by
  obtain ⟨hx, hb, hml, hown, hts⟩ := id C
  induction n with
  | zero =>
    intro t_size t_file t_table t_last l1 l2 l3 l4 l5 l6 l7 H locs ls hf
    cases hf
  | succ n hr_246 =>
    intro t_size t_file t_table t_last l1 l2 l3 l4 l5 l6 l7 H locs ls hf hP hD hS hl
    rw [fX9_writeFirst_246_s] at hf
    refine lv_iload hx hb dX9_writeFirst_246 (lv_at hl 7 rfl) ?_
    refine lv_iconst (v := 4) hx hb dX9_writeFirst_248 (by decide) ?_
    refine lv_icmp_ge (tgt := 307) hx hb dX9_writeFirst_249 (by decide) (fun c1 => ?_) (fun c1 => ?_)
    · replace hf := zif_t hf c1
      obtain ⟨x2, ex2⟩ : ∃ y : Int32, y = l3 + 1 := ⟨_, rfl⟩
      replace hf := zlet_in hf ex2
      refine lv_iinc (v := x2) (lv' := [(3, .int x2), (0, .ref h_t), (1, .int l1), (2, .int l2), (4, .int l4), (5, .int l5), (6, .int l6), (7, .int l7)]) hx hb dX9_writeFirst_307 hl (k := 3) rfl (by rw [ex2]; rfl) (by decide) rfl (fun ls hl => ?_)
      clear ex2
      refine lv_goto (tgt := 67) hx hb dX9_writeFirst_310 (by decide) ?_
      exact hr_67 hf hP hD hS (lv_sub hl [1, 2, 3, 0] rfl)
    · replace hf := zif_f hf c1
      refine lv_aload_n hx hb dX9_writeFirst_252 rfl (lv_at hl 0 rfl) ?_
      refine va_get (D := D) (ci := 8) (v := .ref h_t_table) (C := RX9) (T := TX9) (N := 15) hx hb hts iX9_writeFirst_X9 hown hK hP 0 rfl rfl 12 (by decide) (kX9_writeFirst_29 hts) (fun _ h9 => h9) rfl dX9_writeFirst_253 ?_
      refine lv_iload hx hb dX9_writeFirst_256 (lv_at hl 5 rfl) ?_
      refine lv_iload hx hb dX9_writeFirst_258 (lv_at hl 7 rfl) ?_
      refine lv_iadd hx hb dX9_writeFirst_260 ?_
      refine lv_iload hx hb dX9_writeFirst_261 (lv_at hl 4 rfl) ?_
      refine lv_if_eq (tgt := 279) hx hb dX9_writeFirst_263 (by decide) (fun c3 => ?_) (fun c3 => ?_)
      · replace hf := zif_t hf c3
        refine lv_aload_n hx hb dX9_writeFirst_279 rfl (lv_at hl 0 rfl) ?_
        refine lv_iload_n hx hb dX9_writeFirst_280 rfl (lv_at hl 3 rfl) ?_
        refine lv_iload hx hb dX9_writeFirst_281 (lv_at hl 7 rfl) ?_
        obtain ⟨r4, hc5, hf⟩ := zb1_in hf
        refine zc_i (va_runV (As := [.int l3, .int l7]) (rest := [.int (l5 + l7), .ref h_t_table]) C (mX9_channel l D cI H.size h_t h_t_now h_t_file h_t_fresh h_t_colour h_t_table h_t_last h_t_one t_wide t_high t_size t_at t_fault t_newWide t_newHigh t_colours t_now t_file t_fresh t_colour t_table t_last t_one l3 l7 r4 hc5) (qX9_writeFirst_X9_channel_49 hts) ⟨zP_blind, va_recv hK hP (ci := 8) (q0 := 0) rfl rfl, zpre hK hN hP hD [0, 1, 2, 3, 4, 5, 6, 7] rfl rfl⟩ rfl rfl hl.1 rfl (lv_room (Nat.le_of_ble_eq_true rfl)) dX9_writeFirst_283 ⟨Nat.zero_le _, Nat.zero_le _⟩) hP hD hS hA [0, 1, 2, 3, 4, 5, 6, 7] [] [0, 1, 2, 3, 4, 5, 6, 7] (ws' := zwX9 cI h_t h_t_now h_t_file h_t_fresh h_t_colour h_t_table h_t_last h_t_one t_wide t_high t_size t_at t_fault t_newWide t_newHigh t_colours t_now t_file t_fresh t_colour t_table t_last t_one) rfl rfl rfl rfl rfl rfl (fun H locs hP hD hS => ?_)
        exact wX9_writeFirst_286 C hN hK hA hE hr_67 hr_246 hf hP hD hS (lv_sub hl [0, 1, 2, 3, 4, 5, 6, 7] rfl)
      · replace hf := zif_f hf c3
        refine lv_aload_n hx hb dX9_writeFirst_266 rfl (lv_at hl 0 rfl) ?_
        refine va_get (D := D) (ci := 8) (v := .ref h_t_table) (C := RX9) (T := TX9) (N := 15) hx hb hts iX9_writeFirst_X9 hown hK hP 0 rfl rfl 12 (by decide) (kX9_writeFirst_29 hts) (fun _ h9 => h9) rfl dX9_writeFirst_267 ?_
        refine lv_iload hx hb dX9_writeFirst_270 (lv_at hl 5 rfl) ?_
        refine lv_iload hx hb dX9_writeFirst_272 (lv_at hl 7 rfl) ?_
        refine lv_iadd hx hb dX9_writeFirst_274 ?_
        obtain ⟨hg7, hf⟩ := zrd_in hf
        refine va_iald hx hb hK hP 5 0 rfl rfl hg7 dX9_writeFirst_275 ?_
        refine lv_topi (fun x6 ex6 => ?_)
        replace hf := hf x6 ex6
        clear ex6
        refine lv_goto (tgt := 286) hx hb dX9_writeFirst_276 (by decide) ?_
        exact wX9_writeFirst_286 C hN hK hA hE hr_67 hr_246 hf hP hD hS (lv_sub hl [0, 1, 2, 3, 4, 5, 6, 7] rfl)
set_option maxHeartbeats 4000000 in
set_option maxRecDepth 100000 in
theorem wX9_writeFirst_243 {p : Program} {l : Launch} {e : Env} {s : State} {m : MethodId} {args : Array Value} {below : List Frame} {meth : Method} {c : Code} {D : va_G} {A : Nat → Prop} {Q : State → Prop} {cI : ClassId} {h_t h_t_now h_t_file h_t_fresh h_t_colour h_t_table h_t_last h_t_one : Nat} {t_wide : Int32} {t_high : Int32} {t_at : Int32} {t_fault : Int32} {t_newWide : Int32} {t_newHigh : Int32} {t_colours : Int32} {t_now : Nat → Int32} {t_fresh : Nat → Int32} {t_colour : Nat → Int32} {t_one : Nat → Int32} {zt_size : Int32} {zt_file : Nat → Int32} {zt_table : Nat → Int32} {zt_last : Nat → Int32} (C : CallFix p m c cX9_writeFirst 8 s args wsX9_writeFirst RX9) (hN : zN s) (hK : va_K D vwCl [(cI, .int)] s) (hA : ∀ q, s.heap.size ≤ q → A q) (hE : zEv p l e rmX9_writeFirst s m args below meth c cX9_writeFirst D A Q (zwX9 cI h_t h_t_now h_t_file h_t_fresh h_t_colour h_t_table h_t_last h_t_one t_wide t_high zt_size t_at t_fault t_newWide t_newHigh t_colours t_now zt_file t_fresh t_colour zt_table zt_last t_one)) {rc67 : Int32 → Int32 → (Nat → Int32) → (Nat → Int32) → (Nat → Int32) → (Nat → Int32) → Int32 → Int32 → Int32 → Option (Int32 × (Nat → Int32) × (Nat → Int32) × (Nat → Int32))} (hr_67 : ∀ {t_size : Int32} {t_file : Nat → Int32} {t_table : Nat → Int32} {t_last : Nat → Int32} {l1 : Int32} {l2 : Int32} {l3 : Int32} {H : Heap} {locs : List Loc} {ls : Array Slot}, rc67 t_wide t_size t_now t_file t_table t_last l1 l2 l3 = some (zt_size, zt_file, zt_table, zt_last) → va_P D vwCl (zwX9 cI h_t h_t_now h_t_file h_t_fresh h_t_colour h_t_table h_t_last h_t_one t_wide t_high t_size t_at t_fault t_newWide t_newHigh t_colours t_now t_file t_fresh t_colour t_table t_last t_one) H → va_D A (zwX9 cI h_t h_t_now h_t_file h_t_fresh h_t_colour h_t_table h_t_last h_t_one t_wide t_high t_size t_at t_fault t_newWide t_newHigh t_colours t_now t_file t_fresh t_colour t_table t_last t_one) → va_S A s.heap H locs → lv_has ls 8 [(0, .ref h_t), (1, .int l1), (2, .int l2), (3, .int l3)] → W p l e rmX9_writeFirst s m args below meth c H locs 0 0 Q (F0 m 67 ls [])) {t_size : Int32} {t_file : Nat → Int32} {t_table : Nat → Int32} {t_last : Nat → Int32} {l1 : Int32} {l2 : Int32} {l3 : Int32} {l4 : Int32} {l5 : Int32} {l6 : Int32} {l7 : Int32} {H : Heap} {locs : List Loc} {ls : Array Slot} : fX9_writeFirst_243 rc67 t_wide t_size t_now t_file t_table t_last l1 l2 l3 l4 l5 = some (zt_size, zt_file, zt_table, zt_last) → va_P D vwCl (zwX9 cI h_t h_t_now h_t_file h_t_fresh h_t_colour h_t_table h_t_last h_t_one t_wide t_high t_size t_at t_fault t_newWide t_newHigh t_colours t_now t_file t_fresh t_colour t_table t_last t_one) H → va_D A (zwX9 cI h_t h_t_now h_t_file h_t_fresh h_t_colour h_t_table h_t_last h_t_one t_wide t_high t_size t_at t_fault t_newWide t_newHigh t_colours t_now t_file t_fresh t_colour t_table t_last t_one) → va_S A s.heap H locs → lv_has ls 8 [(0, .ref h_t), (1, .int l1), (2, .int l2), (3, .int l3), (4, .int l4), (5, .int l5), (6, .int l6), (7, .int l7)] → W p l e rmX9_writeFirst s m args below meth c H locs 0 0 Q (F0 m 243 ls []) := by
  intro hf hP hD hS hl
  obtain ⟨hx, hb, hml, hown, hts⟩ := id C
  unfold fX9_writeFirst_243 at hf
  refine lv_iconst (v := 0) hx hb dX9_writeFirst_243 (by decide) ?_
  refine lv_istore (lv' := [(7, .int 0), (0, .ref h_t), (1, .int l1), (2, .int l2), (3, .int l3), (4, .int l4), (5, .int l5), (6, .int l6)]) hx hb dX9_writeFirst_244 hl (by decide) rfl (fun ls hl => ?_)
  exact wX9_writeFirst_246 C hN hK hA hE hr_67 1000 hf hP hD hS (lv_sub hl [1, 2, 3, 4, 5, 6, 7, 0] rfl)
set_option maxHeartbeats 4000000 in
set_option maxRecDepth 100000 in
theorem wX9_writeFirst_211 {p : Program} {l : Launch} {e : Env} {s : State} {m : MethodId} {args : Array Value} {below : List Frame} {meth : Method} {c : Code} {D : va_G} {A : Nat → Prop} {Q : State → Prop} {cI : ClassId} {h_t h_t_now h_t_file h_t_fresh h_t_colour h_t_table h_t_last h_t_one : Nat} {t_wide : Int32} {t_high : Int32} {t_at : Int32} {t_fault : Int32} {t_newWide : Int32} {t_newHigh : Int32} {t_colours : Int32} {t_now : Nat → Int32} {t_fresh : Nat → Int32} {t_colour : Nat → Int32} {t_one : Nat → Int32} {zt_size : Int32} {zt_file : Nat → Int32} {zt_table : Nat → Int32} {zt_last : Nat → Int32} (C : CallFix p m c cX9_writeFirst 8 s args wsX9_writeFirst RX9) (hN : zN s) (hK : va_K D vwCl [(cI, .int)] s) (hA : ∀ q, s.heap.size ≤ q → A q) (hE : zEv p l e rmX9_writeFirst s m args below meth c cX9_writeFirst D A Q (zwX9 cI h_t h_t_now h_t_file h_t_fresh h_t_colour h_t_table h_t_last h_t_one t_wide t_high zt_size t_at t_fault t_newWide t_newHigh t_colours t_now zt_file t_fresh t_colour zt_table zt_last t_one)) {rc67 : Int32 → Int32 → (Nat → Int32) → (Nat → Int32) → (Nat → Int32) → (Nat → Int32) → Int32 → Int32 → Int32 → Option (Int32 × (Nat → Int32) × (Nat → Int32) × (Nat → Int32))} (hr_67 : ∀ {t_size : Int32} {t_file : Nat → Int32} {t_table : Nat → Int32} {t_last : Nat → Int32} {l1 : Int32} {l2 : Int32} {l3 : Int32} {H : Heap} {locs : List Loc} {ls : Array Slot}, rc67 t_wide t_size t_now t_file t_table t_last l1 l2 l3 = some (zt_size, zt_file, zt_table, zt_last) → va_P D vwCl (zwX9 cI h_t h_t_now h_t_file h_t_fresh h_t_colour h_t_table h_t_last h_t_one t_wide t_high t_size t_at t_fault t_newWide t_newHigh t_colours t_now t_file t_fresh t_colour t_table t_last t_one) H → va_D A (zwX9 cI h_t h_t_now h_t_file h_t_fresh h_t_colour h_t_table h_t_last h_t_one t_wide t_high t_size t_at t_fault t_newWide t_newHigh t_colours t_now t_file t_fresh t_colour t_table t_last t_one) → va_S A s.heap H locs → lv_has ls 8 [(0, .ref h_t), (1, .int l1), (2, .int l2), (3, .int l3)] → W p l e rmX9_writeFirst s m args below meth c H locs 0 0 Q (F0 m 67 ls [])) {t_size : Int32} {t_file : Nat → Int32} {t_table : Nat → Int32} {t_last : Nat → Int32} {l1 : Int32} {l2 : Int32} {l3 : Int32} {l4 : Int32} {l5 : Int32} {l6 : Int32} {l7 : Int32} {H : Heap} {locs : List Loc} {ls : Array Slot} : fX9_writeFirst_211 rc67 t_wide t_size t_now t_file t_table t_last l1 l2 l3 l4 l5 l6 = some (zt_size, zt_file, zt_table, zt_last) → va_P D vwCl (zwX9 cI h_t h_t_now h_t_file h_t_fresh h_t_colour h_t_table h_t_last h_t_one t_wide t_high t_size t_at t_fault t_newWide t_newHigh t_colours t_now t_file t_fresh t_colour t_table t_last t_one) H → va_D A (zwX9 cI h_t h_t_now h_t_file h_t_fresh h_t_colour h_t_table h_t_last h_t_one t_wide t_high t_size t_at t_fault t_newWide t_newHigh t_colours t_now t_file t_fresh t_colour t_table t_last t_one) → va_S A s.heap H locs → lv_has ls 8 [(0, .ref h_t), (1, .int l1), (2, .int l2), (3, .int l3), (4, .int l4), (5, .int l5), (6, .int l6), (7, .int l7)] → W p l e rmX9_writeFirst s m args below meth c H locs 0 0 Q (F0 m 211 ls []) := by
  intro hf hP hD hS hl
  obtain ⟨hx, hb, hml, hown, hts⟩ := id C
  unfold fX9_writeFirst_211 at hf
  refine lv_iload hx hb dX9_writeFirst_211 (lv_at hl 4 rfl) ?_
  refine lv_if_eq (tgt := 222) hx hb dX9_writeFirst_213 (by decide) (fun c1 => ?_) (fun c1 => ?_)
  · replace hf := zif_t hf c1
    refine lv_iload hx hb dX9_writeFirst_222 (lv_at hl 6 rfl) ?_
    refine lv_if_eq (tgt := 238) hx hb dX9_writeFirst_224 (by decide) (fun c2 => ?_) (fun c2 => ?_)
    · replace hf := zif_t hf c2
      refine lv_aload_n hx hb dX9_writeFirst_238 rfl (lv_at hl 0 rfl) ?_
      refine lv_iload_n hx hb dX9_writeFirst_239 rfl (lv_at hl 3 rfl) ?_
      obtain ⟨u3, u4, hc5, hf⟩ := zb2_in hf
      refine zc_v (va_runV (As := [.int l3]) (rest := []) C (mX9_differs l D cI H.size h_t h_t_now h_t_file h_t_fresh h_t_colour h_t_table h_t_last h_t_one t_wide t_high t_size t_at t_fault t_newWide t_newHigh t_colours t_now t_file t_fresh t_colour t_table t_last t_one l3 u3 u4 hc5) (qX9_writeFirst_X9_differs_85 hts) ⟨zP_blind, va_recv hK hP (ci := 8) (q0 := 0) rfl rfl, zpre hK hN hP hD [0, 1, 2, 3, 4, 5, 6, 7] rfl rfl⟩ rfl rfl hl.1 rfl (lv_room (Nat.le_of_ble_eq_true rfl)) dX9_writeFirst_240 ⟨Nat.zero_le _, Nat.zero_le _⟩) hP hD hS hA [0, 1, 2, 3, 4, 5, 6, 7] [] [0, 1, 2, 3, 4, 5, 6, 7] (ws' := zwX9 cI h_t h_t_now h_t_file h_t_fresh h_t_colour h_t_table h_t_last h_t_one t_wide t_high u3 t_at t_fault t_newWide t_newHigh t_colours t_now u4 t_fresh t_colour t_table t_last t_one) rfl rfl rfl rfl rfl rfl (fun H locs hP hD hS => ?_)
      exact wX9_writeFirst_243 C hN hK hA hE hr_67 hf hP hD hS (lv_sub hl [0, 1, 2, 3, 4, 5, 6, 7] rfl)
    · replace hf := zif_f hf c2
      refine lv_aload_n hx hb dX9_writeFirst_227 rfl (lv_at hl 0 rfl) ?_
      refine lv_iload hx hb dX9_writeFirst_228 (lv_at hl 5 rfl) ?_
      refine lv_iconst (v := 4) hx hb dX9_writeFirst_230 (by decide) ?_
      refine lv_idiv hx hb dX9_writeFirst_231 (by decide) ?_
      obtain ⟨u6, u7, hc8, hf⟩ := zb2_in hf
      refine zc_v (va_runV (As := [.int (l5 / 4)]) (rest := []) C (mX9_add l D cI H.size h_t h_t_now h_t_file h_t_fresh h_t_colour h_t_table h_t_last h_t_one t_wide t_high t_size t_at t_fault t_newWide t_newHigh t_colours t_now t_file t_fresh t_colour t_table t_last t_one (l5 / 4) u6 u7 hc8) (qX9_writeFirst_X9_add_63 hts) ⟨zP_blind, va_recv hK hP (ci := 8) (q0 := 0) rfl rfl, zpre hK hN hP hD [0, 1, 2, 3, 4, 5, 6, 7] rfl rfl⟩ rfl rfl hl.1 rfl (lv_room (Nat.le_of_ble_eq_true rfl)) dX9_writeFirst_232 ⟨Nat.zero_le _, Nat.zero_le _⟩) hP hD hS hA [0, 1, 2, 3, 4, 5, 6, 7] [] [0, 1, 2, 3, 4, 5, 6, 7] (ws' := zwX9 cI h_t h_t_now h_t_file h_t_fresh h_t_colour h_t_table h_t_last h_t_one t_wide t_high u6 t_at t_fault t_newWide t_newHigh t_colours t_now u7 t_fresh t_colour t_table t_last t_one) rfl rfl rfl rfl rfl rfl (fun H locs hP hD hS => ?_)
      refine lv_goto (tgt := 243) hx hb dX9_writeFirst_235 (by decide) ?_
      exact wX9_writeFirst_243 C hN hK hA hE hr_67 hf hP hD hS (lv_sub hl [0, 1, 2, 3, 4, 5, 6, 7] rfl)
  · replace hf := zif_f hf c1
    obtain ⟨x9, ex9⟩ : ∃ y : Int32, y = l1 + 1 := ⟨_, rfl⟩
    replace hf := zlet_in hf ex9
    refine lv_iinc (v := x9) (lv' := [(1, .int x9), (0, .ref h_t), (2, .int l2), (3, .int l3), (4, .int l4), (5, .int l5), (6, .int l6), (7, .int l7)]) hx hb dX9_writeFirst_216 hl (k := 1) rfl (by rw [ex9]; rfl) (by decide) rfl (fun ls hl => ?_)
    clear ex9
    refine lv_goto (tgt := 243) hx hb dX9_writeFirst_219 (by decide) ?_
    exact wX9_writeFirst_243 C hN hK hA hE hr_67 hf hP hD hS (lv_sub hl [1, 0, 2, 3, 4, 5, 6, 7] rfl)
set_option maxHeartbeats 4000000 in
set_option maxRecDepth 100000 in
theorem wX9_writeFirst_200 {p : Program} {l : Launch} {e : Env} {s : State} {m : MethodId} {args : Array Value} {below : List Frame} {meth : Method} {c : Code} {D : va_G} {A : Nat → Prop} {Q : State → Prop} {cI : ClassId} {h_t h_t_now h_t_file h_t_fresh h_t_colour h_t_table h_t_last h_t_one : Nat} {t_wide : Int32} {t_high : Int32} {t_at : Int32} {t_fault : Int32} {t_newWide : Int32} {t_newHigh : Int32} {t_colours : Int32} {t_now : Nat → Int32} {t_fresh : Nat → Int32} {t_colour : Nat → Int32} {t_one : Nat → Int32} {zt_size : Int32} {zt_file : Nat → Int32} {zt_table : Nat → Int32} {zt_last : Nat → Int32} (C : CallFix p m c cX9_writeFirst 8 s args wsX9_writeFirst RX9) (hN : zN s) (hK : va_K D vwCl [(cI, .int)] s) (hA : ∀ q, s.heap.size ≤ q → A q) (hE : zEv p l e rmX9_writeFirst s m args below meth c cX9_writeFirst D A Q (zwX9 cI h_t h_t_now h_t_file h_t_fresh h_t_colour h_t_table h_t_last h_t_one t_wide t_high zt_size t_at t_fault t_newWide t_newHigh t_colours t_now zt_file t_fresh t_colour zt_table zt_last t_one)) {rc67 : Int32 → Int32 → (Nat → Int32) → (Nat → Int32) → (Nat → Int32) → (Nat → Int32) → Int32 → Int32 → Int32 → Option (Int32 × (Nat → Int32) × (Nat → Int32) × (Nat → Int32))} (hr_67 : ∀ {t_size : Int32} {t_file : Nat → Int32} {t_table : Nat → Int32} {t_last : Nat → Int32} {l1 : Int32} {l2 : Int32} {l3 : Int32} {H : Heap} {locs : List Loc} {ls : Array Slot}, rc67 t_wide t_size t_now t_file t_table t_last l1 l2 l3 = some (zt_size, zt_file, zt_table, zt_last) → va_P D vwCl (zwX9 cI h_t h_t_now h_t_file h_t_fresh h_t_colour h_t_table h_t_last h_t_one t_wide t_high t_size t_at t_fault t_newWide t_newHigh t_colours t_now t_file t_fresh t_colour t_table t_last t_one) H → va_D A (zwX9 cI h_t h_t_now h_t_file h_t_fresh h_t_colour h_t_table h_t_last h_t_one t_wide t_high t_size t_at t_fault t_newWide t_newHigh t_colours t_now t_file t_fresh t_colour t_table t_last t_one) → va_S A s.heap H locs → lv_has ls 8 [(0, .ref h_t), (1, .int l1), (2, .int l2), (3, .int l3)] → W p l e rmX9_writeFirst s m args below meth c H locs 0 0 Q (F0 m 67 ls [])) {t_size : Int32} {t_file : Nat → Int32} {t_table : Nat → Int32} {t_last : Nat → Int32} {l1 : Int32} {l2 : Int32} {l3 : Int32} {l4 : Int32} {l5 : Int32} {l6 : Int32} {l7 : Int32} {H : Heap} {locs : List Loc} {ls : Array Slot} : fX9_writeFirst_200 rc67 t_wide t_size t_now t_file t_table t_last l1 l2 l3 l4 l5 l6 = some (zt_size, zt_file, zt_table, zt_last) → va_P D vwCl (zwX9 cI h_t h_t_now h_t_file h_t_fresh h_t_colour h_t_table h_t_last h_t_one t_wide t_high t_size t_at t_fault t_newWide t_newHigh t_colours t_now t_file t_fresh t_colour t_table t_last t_one) H → va_D A (zwX9 cI h_t h_t_now h_t_file h_t_fresh h_t_colour h_t_table h_t_last h_t_one t_wide t_high t_size t_at t_fault t_newWide t_newHigh t_colours t_now t_file t_fresh t_colour t_table t_last t_one) → va_S A s.heap H locs → lv_has ls 8 [(0, .ref h_t), (1, .int l1), (2, .int l2), (3, .int l3), (4, .int l4), (5, .int l5), (6, .int l6), (7, .int l7)] → W p l e rmX9_writeFirst s m args below meth c H locs 0 0 Q (F0 m 200 ls []) := by
  intro hf hP hD hS hl
  obtain ⟨hx, hb, hml, hown, hts⟩ := id C
  unfold fX9_writeFirst_200 at hf
  refine lv_aload_n hx hb dX9_writeFirst_200 rfl (lv_at hl 0 rfl) ?_
  refine lv_sipush (v := 191) hx hb dX9_writeFirst_201 (by decide) ?_
  refine lv_iload_n hx hb dX9_writeFirst_204 rfl (lv_at hl 1 rfl) ?_
  refine lv_iadd hx hb dX9_writeFirst_205 ?_
  obtain ⟨u1, u2, hc3, hf⟩ := zb2_in hf
  refine zc_v (va_runV (As := [.int (191 + l1)]) (rest := []) C (mX9_add l D cI H.size h_t h_t_now h_t_file h_t_fresh h_t_colour h_t_table h_t_last h_t_one t_wide t_high t_size t_at t_fault t_newWide t_newHigh t_colours t_now t_file t_fresh t_colour t_table t_last t_one (191 + l1) u1 u2 hc3) (qX9_writeFirst_X9_add_63 hts) ⟨zP_blind, va_recv hK hP (ci := 8) (q0 := 0) rfl rfl, zpre hK hN hP hD [0, 1, 2, 3, 4, 5, 6, 7] rfl rfl⟩ rfl rfl hl.1 rfl (lv_room (Nat.le_of_ble_eq_true rfl)) dX9_writeFirst_206 ⟨Nat.zero_le _, Nat.zero_le _⟩) hP hD hS hA [0, 1, 2, 3, 4, 5, 6, 7] [] [0, 1, 2, 3, 4, 5, 6, 7] (ws' := zwX9 cI h_t h_t_now h_t_file h_t_fresh h_t_colour h_t_table h_t_last h_t_one t_wide t_high u1 t_at t_fault t_newWide t_newHigh t_colours t_now u2 t_fresh t_colour t_table t_last t_one) rfl rfl rfl rfl rfl rfl (fun H locs hP hD hS => ?_)
  refine lv_iconst (v := 0) hx hb dX9_writeFirst_209 (by decide) ?_
  refine lv_istore_n (lv' := [(1, .int 0), (0, .ref h_t), (2, .int l2), (3, .int l3), (4, .int l4), (5, .int l5), (6, .int l6), (7, .int l7)]) hx hb dX9_writeFirst_210 rfl hl (by decide) rfl (fun ls hl => ?_)
  exact wX9_writeFirst_211 C hN hK hA hE hr_67 hf hP hD hS (lv_sub hl [1, 0, 2, 3, 4, 5, 6, 7] rfl)
set_option maxHeartbeats 4000000 in
set_option maxRecDepth 100000 in
theorem wX9_writeFirst_177 {p : Program} {l : Launch} {e : Env} {s : State} {m : MethodId} {args : Array Value} {below : List Frame} {meth : Method} {c : Code} {D : va_G} {A : Nat → Prop} {Q : State → Prop} {cI : ClassId} {h_t h_t_now h_t_file h_t_fresh h_t_colour h_t_table h_t_last h_t_one : Nat} {t_wide : Int32} {t_high : Int32} {t_at : Int32} {t_fault : Int32} {t_newWide : Int32} {t_newHigh : Int32} {t_colours : Int32} {t_now : Nat → Int32} {t_fresh : Nat → Int32} {t_colour : Nat → Int32} {t_one : Nat → Int32} {zt_size : Int32} {zt_file : Nat → Int32} {zt_table : Nat → Int32} {zt_last : Nat → Int32} (C : CallFix p m c cX9_writeFirst 8 s args wsX9_writeFirst RX9) (hN : zN s) (hK : va_K D vwCl [(cI, .int)] s) (hA : ∀ q, s.heap.size ≤ q → A q) (hE : zEv p l e rmX9_writeFirst s m args below meth c cX9_writeFirst D A Q (zwX9 cI h_t h_t_now h_t_file h_t_fresh h_t_colour h_t_table h_t_last h_t_one t_wide t_high zt_size t_at t_fault t_newWide t_newHigh t_colours t_now zt_file t_fresh t_colour zt_table zt_last t_one)) {rc67 : Int32 → Int32 → (Nat → Int32) → (Nat → Int32) → (Nat → Int32) → (Nat → Int32) → Int32 → Int32 → Int32 → Option (Int32 × (Nat → Int32) × (Nat → Int32) × (Nat → Int32))} (hr_67 : ∀ {t_size : Int32} {t_file : Nat → Int32} {t_table : Nat → Int32} {t_last : Nat → Int32} {l1 : Int32} {l2 : Int32} {l3 : Int32} {H : Heap} {locs : List Loc} {ls : Array Slot}, rc67 t_wide t_size t_now t_file t_table t_last l1 l2 l3 = some (zt_size, zt_file, zt_table, zt_last) → va_P D vwCl (zwX9 cI h_t h_t_now h_t_file h_t_fresh h_t_colour h_t_table h_t_last h_t_one t_wide t_high t_size t_at t_fault t_newWide t_newHigh t_colours t_now t_file t_fresh t_colour t_table t_last t_one) H → va_D A (zwX9 cI h_t h_t_now h_t_file h_t_fresh h_t_colour h_t_table h_t_last h_t_one t_wide t_high t_size t_at t_fault t_newWide t_newHigh t_colours t_now t_file t_fresh t_colour t_table t_last t_one) → va_S A s.heap H locs → lv_has ls 8 [(0, .ref h_t), (1, .int l1), (2, .int l2), (3, .int l3)] → W p l e rmX9_writeFirst s m args below meth c H locs 0 0 Q (F0 m 67 ls [])) {rc112 : Int32 → Int32 → (Nat → Int32) → (Nat → Int32) → (Nat → Int32) → (Nat → Int32) → Int32 → Int32 → Int32 → Int32 → Int32 → Int32 → Int32 → Option (Int32 × (Nat → Int32) × (Nat → Int32) × (Nat → Int32))} (hr_112 : ∀ {t_size : Int32} {t_file : Nat → Int32} {t_table : Nat → Int32} {t_last : Nat → Int32} {l1 : Int32} {l2 : Int32} {l3 : Int32} {l4 : Int32} {l5 : Int32} {l6 : Int32} {l7 : Int32} {H : Heap} {locs : List Loc} {ls : Array Slot}, rc112 t_wide t_size t_now t_file t_table t_last l1 l2 l3 l4 l5 l6 l7 = some (zt_size, zt_file, zt_table, zt_last) → va_P D vwCl (zwX9 cI h_t h_t_now h_t_file h_t_fresh h_t_colour h_t_table h_t_last h_t_one t_wide t_high t_size t_at t_fault t_newWide t_newHigh t_colours t_now t_file t_fresh t_colour t_table t_last t_one) H → va_D A (zwX9 cI h_t h_t_now h_t_file h_t_fresh h_t_colour h_t_table h_t_last h_t_one t_wide t_high t_size t_at t_fault t_newWide t_newHigh t_colours t_now t_file t_fresh t_colour t_table t_last t_one) → va_S A s.heap H locs → lv_has ls 8 [(0, .ref h_t), (1, .int l1), (2, .int l2), (3, .int l3), (4, .int l4), (5, .int l5), (6, .int l6), (7, .int l7)] → W p l e rmX9_writeFirst s m args below meth c H locs 0 0 Q (F0 m 112 ls [])) {t_size : Int32} {t_file : Nat → Int32} {t_table : Nat → Int32} {t_last : Nat → Int32} {l1 : Int32} {l2 : Int32} {l3 : Int32} {l4 : Int32} {l5 : Int32} {l6 : Int32} {l7 : Int32} {k0 : Int32} {H : Heap} {locs : List Loc} {ls : Array Slot} : fX9_writeFirst_177 rc67 rc112 t_wide t_size t_now t_file t_table t_last l1 l2 l3 l4 l5 l7 k0 = some (zt_size, zt_file, zt_table, zt_last) → va_P D vwCl (zwX9 cI h_t h_t_now h_t_file h_t_fresh h_t_colour h_t_table h_t_last h_t_one t_wide t_high t_size t_at t_fault t_newWide t_newHigh t_colours t_now t_file t_fresh t_colour t_table t_last t_one) H → va_D A (zwX9 cI h_t h_t_now h_t_file h_t_fresh h_t_colour h_t_table h_t_last h_t_one t_wide t_high t_size t_at t_fault t_newWide t_newHigh t_colours t_now t_file t_fresh t_colour t_table t_last t_one) → va_S A s.heap H locs → lv_has ls 8 [(0, .ref h_t), (1, .int l1), (2, .int l2), (3, .int l3), (4, .int l4), (5, .int l5), (6, .int l6), (7, .int l7)] → W p l e rmX9_writeFirst s m args below meth c H locs 0 0 Q (F0 m 177 ls [.int k0]) := by
  intro hf hP hD hS hl
  obtain ⟨hx, hb, hml, hown, hts⟩ := id C
  unfold fX9_writeFirst_177 at hf
  refine lv_istore (lv' := [(6, .int k0), (0, .ref h_t), (1, .int l1), (2, .int l2), (3, .int l3), (4, .int l4), (5, .int l5), (7, .int l7)]) hx hb dX9_writeFirst_177 hl (by decide) rfl (fun ls hl => ?_)
  obtain ⟨x1, ex1⟩ : ∃ y : Int32, y = l7 + 1 := ⟨_, rfl⟩
  replace hf := zlet_in hf ex1
  refine lv_iinc (v := x1) (lv' := [(7, .int x1), (6, .int k0), (0, .ref h_t), (1, .int l1), (2, .int l2), (3, .int l3), (4, .int l4), (5, .int l5)]) hx hb dX9_writeFirst_179 hl (k := 7) rfl (by rw [ex1]; rfl) (by decide) rfl (fun ls hl => ?_)
  clear ex1
  refine lv_goto (tgt := 112) hx hb dX9_writeFirst_182 (by decide) ?_
  exact hr_112 hf hP hD hS (lv_sub hl [2, 3, 4, 5, 6, 7, 1, 0] rfl)
set_option maxHeartbeats 4000000 in
set_option maxRecDepth 100000 in
theorem wX9_writeFirst_176 {p : Program} {l : Launch} {e : Env} {s : State} {m : MethodId} {args : Array Value} {below : List Frame} {meth : Method} {c : Code} {D : va_G} {A : Nat → Prop} {Q : State → Prop} {cI : ClassId} {h_t h_t_now h_t_file h_t_fresh h_t_colour h_t_table h_t_last h_t_one : Nat} {t_wide : Int32} {t_high : Int32} {t_at : Int32} {t_fault : Int32} {t_newWide : Int32} {t_newHigh : Int32} {t_colours : Int32} {t_now : Nat → Int32} {t_fresh : Nat → Int32} {t_colour : Nat → Int32} {t_one : Nat → Int32} {zt_size : Int32} {zt_file : Nat → Int32} {zt_table : Nat → Int32} {zt_last : Nat → Int32} (C : CallFix p m c cX9_writeFirst 8 s args wsX9_writeFirst RX9) (hN : zN s) (hK : va_K D vwCl [(cI, .int)] s) (hA : ∀ q, s.heap.size ≤ q → A q) (hE : zEv p l e rmX9_writeFirst s m args below meth c cX9_writeFirst D A Q (zwX9 cI h_t h_t_now h_t_file h_t_fresh h_t_colour h_t_table h_t_last h_t_one t_wide t_high zt_size t_at t_fault t_newWide t_newHigh t_colours t_now zt_file t_fresh t_colour zt_table zt_last t_one)) {rc67 : Int32 → Int32 → (Nat → Int32) → (Nat → Int32) → (Nat → Int32) → (Nat → Int32) → Int32 → Int32 → Int32 → Option (Int32 × (Nat → Int32) × (Nat → Int32) × (Nat → Int32))} (hr_67 : ∀ {t_size : Int32} {t_file : Nat → Int32} {t_table : Nat → Int32} {t_last : Nat → Int32} {l1 : Int32} {l2 : Int32} {l3 : Int32} {H : Heap} {locs : List Loc} {ls : Array Slot}, rc67 t_wide t_size t_now t_file t_table t_last l1 l2 l3 = some (zt_size, zt_file, zt_table, zt_last) → va_P D vwCl (zwX9 cI h_t h_t_now h_t_file h_t_fresh h_t_colour h_t_table h_t_last h_t_one t_wide t_high t_size t_at t_fault t_newWide t_newHigh t_colours t_now t_file t_fresh t_colour t_table t_last t_one) H → va_D A (zwX9 cI h_t h_t_now h_t_file h_t_fresh h_t_colour h_t_table h_t_last h_t_one t_wide t_high t_size t_at t_fault t_newWide t_newHigh t_colours t_now t_file t_fresh t_colour t_table t_last t_one) → va_S A s.heap H locs → lv_has ls 8 [(0, .ref h_t), (1, .int l1), (2, .int l2), (3, .int l3)] → W p l e rmX9_writeFirst s m args below meth c H locs 0 0 Q (F0 m 67 ls [])) {rc112 : Int32 → Int32 → (Nat → Int32) → (Nat → Int32) → (Nat → Int32) → (Nat → Int32) → Int32 → Int32 → Int32 → Int32 → Int32 → Int32 → Int32 → Option (Int32 × (Nat → Int32) × (Nat → Int32) × (Nat → Int32))} (hr_112 : ∀ {t_size : Int32} {t_file : Nat → Int32} {t_table : Nat → Int32} {t_last : Nat → Int32} {l1 : Int32} {l2 : Int32} {l3 : Int32} {l4 : Int32} {l5 : Int32} {l6 : Int32} {l7 : Int32} {H : Heap} {locs : List Loc} {ls : Array Slot}, rc112 t_wide t_size t_now t_file t_table t_last l1 l2 l3 l4 l5 l6 l7 = some (zt_size, zt_file, zt_table, zt_last) → va_P D vwCl (zwX9 cI h_t h_t_now h_t_file h_t_fresh h_t_colour h_t_table h_t_last h_t_one t_wide t_high t_size t_at t_fault t_newWide t_newHigh t_colours t_now t_file t_fresh t_colour t_table t_last t_one) H → va_D A (zwX9 cI h_t h_t_now h_t_file h_t_fresh h_t_colour h_t_table h_t_last h_t_one t_wide t_high t_size t_at t_fault t_newWide t_newHigh t_colours t_now t_file t_fresh t_colour t_table t_last t_one) → va_S A s.heap H locs → lv_has ls 8 [(0, .ref h_t), (1, .int l1), (2, .int l2), (3, .int l3), (4, .int l4), (5, .int l5), (6, .int l6), (7, .int l7)] → W p l e rmX9_writeFirst s m args below meth c H locs 0 0 Q (F0 m 112 ls [])) {t_size : Int32} {t_file : Nat → Int32} {t_table : Nat → Int32} {t_last : Nat → Int32} {l1 : Int32} {l2 : Int32} {l3 : Int32} {l4 : Int32} {l5 : Int32} {l6 : Int32} {l7 : Int32} {H : Heap} {locs : List Loc} {ls : Array Slot} : fX9_writeFirst_176 rc67 rc112 t_wide t_size t_now t_file t_table t_last l1 l2 l3 l4 l5 l7 = some (zt_size, zt_file, zt_table, zt_last) → va_P D vwCl (zwX9 cI h_t h_t_now h_t_file h_t_fresh h_t_colour h_t_table h_t_last h_t_one t_wide t_high t_size t_at t_fault t_newWide t_newHigh t_colours t_now t_file t_fresh t_colour t_table t_last t_one) H → va_D A (zwX9 cI h_t h_t_now h_t_file h_t_fresh h_t_colour h_t_table h_t_last h_t_one t_wide t_high t_size t_at t_fault t_newWide t_newHigh t_colours t_now t_file t_fresh t_colour t_table t_last t_one) → va_S A s.heap H locs → lv_has ls 8 [(0, .ref h_t), (1, .int l1), (2, .int l2), (3, .int l3), (4, .int l4), (5, .int l5), (6, .int l6), (7, .int l7)] → W p l e rmX9_writeFirst s m args below meth c H locs 0 0 Q (F0 m 176 ls []) := by
  intro hf hP hD hS hl
  obtain ⟨hx, hb, hml, hown, hts⟩ := id C
  unfold fX9_writeFirst_176 at hf
  refine lv_iconst (v := 0) hx hb dX9_writeFirst_176 (by decide) ?_
  exact wX9_writeFirst_177 C hN hK hA hE hr_67 hr_112 hf hP hD hS (lv_sub hl [0, 1, 2, 3, 4, 5, 6, 7] rfl)
set_option maxHeartbeats 4000000 in
set_option maxRecDepth 100000 in
theorem wX9_writeFirst_145 {p : Program} {l : Launch} {e : Env} {s : State} {m : MethodId} {args : Array Value} {below : List Frame} {meth : Method} {c : Code} {D : va_G} {A : Nat → Prop} {Q : State → Prop} {cI : ClassId} {h_t h_t_now h_t_file h_t_fresh h_t_colour h_t_table h_t_last h_t_one : Nat} {t_wide : Int32} {t_high : Int32} {t_at : Int32} {t_fault : Int32} {t_newWide : Int32} {t_newHigh : Int32} {t_colours : Int32} {t_now : Nat → Int32} {t_fresh : Nat → Int32} {t_colour : Nat → Int32} {t_one : Nat → Int32} {zt_size : Int32} {zt_file : Nat → Int32} {zt_table : Nat → Int32} {zt_last : Nat → Int32} (C : CallFix p m c cX9_writeFirst 8 s args wsX9_writeFirst RX9) (hN : zN s) (hK : va_K D vwCl [(cI, .int)] s) (hA : ∀ q, s.heap.size ≤ q → A q) (hE : zEv p l e rmX9_writeFirst s m args below meth c cX9_writeFirst D A Q (zwX9 cI h_t h_t_now h_t_file h_t_fresh h_t_colour h_t_table h_t_last h_t_one t_wide t_high zt_size t_at t_fault t_newWide t_newHigh t_colours t_now zt_file t_fresh t_colour zt_table zt_last t_one)) {rc67 : Int32 → Int32 → (Nat → Int32) → (Nat → Int32) → (Nat → Int32) → (Nat → Int32) → Int32 → Int32 → Int32 → Option (Int32 × (Nat → Int32) × (Nat → Int32) × (Nat → Int32))} (hr_67 : ∀ {t_size : Int32} {t_file : Nat → Int32} {t_table : Nat → Int32} {t_last : Nat → Int32} {l1 : Int32} {l2 : Int32} {l3 : Int32} {H : Heap} {locs : List Loc} {ls : Array Slot}, rc67 t_wide t_size t_now t_file t_table t_last l1 l2 l3 = some (zt_size, zt_file, zt_table, zt_last) → va_P D vwCl (zwX9 cI h_t h_t_now h_t_file h_t_fresh h_t_colour h_t_table h_t_last h_t_one t_wide t_high t_size t_at t_fault t_newWide t_newHigh t_colours t_now t_file t_fresh t_colour t_table t_last t_one) H → va_D A (zwX9 cI h_t h_t_now h_t_file h_t_fresh h_t_colour h_t_table h_t_last h_t_one t_wide t_high t_size t_at t_fault t_newWide t_newHigh t_colours t_now t_file t_fresh t_colour t_table t_last t_one) → va_S A s.heap H locs → lv_has ls 8 [(0, .ref h_t), (1, .int l1), (2, .int l2), (3, .int l3)] → W p l e rmX9_writeFirst s m args below meth c H locs 0 0 Q (F0 m 67 ls [])) {rc112 : Int32 → Int32 → (Nat → Int32) → (Nat → Int32) → (Nat → Int32) → (Nat → Int32) → Int32 → Int32 → Int32 → Int32 → Int32 → Int32 → Int32 → Option (Int32 × (Nat → Int32) × (Nat → Int32) × (Nat → Int32))} (hr_112 : ∀ {t_size : Int32} {t_file : Nat → Int32} {t_table : Nat → Int32} {t_last : Nat → Int32} {l1 : Int32} {l2 : Int32} {l3 : Int32} {l4 : Int32} {l5 : Int32} {l6 : Int32} {l7 : Int32} {H : Heap} {locs : List Loc} {ls : Array Slot}, rc112 t_wide t_size t_now t_file t_table t_last l1 l2 l3 l4 l5 l6 l7 = some (zt_size, zt_file, zt_table, zt_last) → va_P D vwCl (zwX9 cI h_t h_t_now h_t_file h_t_fresh h_t_colour h_t_table h_t_last h_t_one t_wide t_high t_size t_at t_fault t_newWide t_newHigh t_colours t_now t_file t_fresh t_colour t_table t_last t_one) H → va_D A (zwX9 cI h_t h_t_now h_t_file h_t_fresh h_t_colour h_t_table h_t_last h_t_one t_wide t_high t_size t_at t_fault t_newWide t_newHigh t_colours t_now t_file t_fresh t_colour t_table t_last t_one) → va_S A s.heap H locs → lv_has ls 8 [(0, .ref h_t), (1, .int l1), (2, .int l2), (3, .int l3), (4, .int l4), (5, .int l5), (6, .int l6), (7, .int l7)] → W p l e rmX9_writeFirst s m args below meth c H locs 0 0 Q (F0 m 112 ls [])) {t_size : Int32} {t_file : Nat → Int32} {t_table : Nat → Int32} {t_last : Nat → Int32} {l1 : Int32} {l2 : Int32} {l3 : Int32} {l4 : Int32} {l5 : Int32} {l6 : Int32} {l7 : Int32} {k0 : Int32} {H : Heap} {locs : List Loc} {ls : Array Slot} : fX9_writeFirst_145 rc67 rc112 t_wide t_size t_now t_file t_table t_last l1 l2 l3 l5 l6 l7 k0 = some (zt_size, zt_file, zt_table, zt_last) → va_P D vwCl (zwX9 cI h_t h_t_now h_t_file h_t_fresh h_t_colour h_t_table h_t_last h_t_one t_wide t_high t_size t_at t_fault t_newWide t_newHigh t_colours t_now t_file t_fresh t_colour t_table t_last t_one) H → va_D A (zwX9 cI h_t h_t_now h_t_file h_t_fresh h_t_colour h_t_table h_t_last h_t_one t_wide t_high t_size t_at t_fault t_newWide t_newHigh t_colours t_now t_file t_fresh t_colour t_table t_last t_one) → va_S A s.heap H locs → lv_has ls 8 [(0, .ref h_t), (1, .int l1), (2, .int l2), (3, .int l3), (4, .int l4), (5, .int l5), (6, .int l6), (7, .int l7)] → W p l e rmX9_writeFirst s m args below meth c H locs 0 0 Q (F0 m 145 ls [.int k0]) := by
  intro hf hP hD hS hl
  obtain ⟨hx, hb, hml, hown, hts⟩ := id C
  unfold fX9_writeFirst_145 at hf
  refine lv_istore (lv' := [(4, .int k0), (0, .ref h_t), (1, .int l1), (2, .int l2), (3, .int l3), (5, .int l5), (6, .int l6), (7, .int l7)]) hx hb dX9_writeFirst_145 hl (by decide) rfl (fun ls hl => ?_)
  refine lv_iload hx hb dX9_writeFirst_147 (lv_at hl 6 rfl) ?_
  refine lv_if_eq (tgt := 176) hx hb dX9_writeFirst_149 (by decide) (fun c1 => ?_) (fun c1 => ?_)
  · replace hf := zif_t hf c1
    exact wX9_writeFirst_176 C hN hK hA hE hr_67 hr_112 hf hP hD hS (lv_sub hl [1, 2, 3, 4, 0, 5, 6, 7] rfl)
  · replace hf := zif_f hf c1
    refine lv_aload_n hx hb dX9_writeFirst_152 rfl (lv_at hl 1 rfl) ?_
    refine lv_iload_n hx hb dX9_writeFirst_153 rfl (lv_at hl 4 rfl) ?_
    refine lv_iload hx hb dX9_writeFirst_154 (lv_at hl 7 rfl) ?_
    obtain ⟨r2, hc3, hf⟩ := zb1_in hf
    refine zc_i (va_runV (As := [.int l3, .int l7]) (rest := []) C (mX9_channel l D cI H.size h_t h_t_now h_t_file h_t_fresh h_t_colour h_t_table h_t_last h_t_one t_wide t_high t_size t_at t_fault t_newWide t_newHigh t_colours t_now t_file t_fresh t_colour t_table t_last t_one l3 l7 r2 hc3) (qX9_writeFirst_X9_channel_49 hts) ⟨zP_blind, va_recv hK hP (ci := 8) (q0 := 0) rfl rfl, zpre hK hN hP hD [0, 1, 2, 3, 4, 5, 6, 7] rfl rfl⟩ rfl rfl hl.1 rfl (lv_room (Nat.le_of_ble_eq_true rfl)) dX9_writeFirst_156 ⟨Nat.zero_le _, Nat.zero_le _⟩) hP hD hS hA [0, 1, 2, 3, 4, 5, 6, 7] [] [0, 1, 2, 3, 4, 5, 6, 7] (ws' := zwX9 cI h_t h_t_now h_t_file h_t_fresh h_t_colour h_t_table h_t_last h_t_one t_wide t_high t_size t_at t_fault t_newWide t_newHigh t_colours t_now t_file t_fresh t_colour t_table t_last t_one) rfl rfl rfl rfl rfl rfl (fun H locs hP hD hS => ?_)
    refine lv_aload_n hx hb dX9_writeFirst_159 rfl (lv_at hl 1 rfl) ?_
    refine va_get (D := D) (ci := 8) (v := .ref h_t_table) (C := RX9) (T := TX9) (N := 15) hx hb hts iX9_writeFirst_X9 hown hK hP 0 rfl rfl 12 (by decide) (kX9_writeFirst_29 hts) (fun _ h9 => h9) rfl dX9_writeFirst_160 ?_
    refine lv_iload hx hb dX9_writeFirst_163 (lv_at hl 5 rfl) ?_
    refine lv_iload hx hb dX9_writeFirst_165 (lv_at hl 7 rfl) ?_
    refine lv_iadd hx hb dX9_writeFirst_167 ?_
    obtain ⟨hg5, hf⟩ := zrd_in hf
    refine va_iald hx hb hK hP 5 0 rfl rfl hg5 dX9_writeFirst_168 ?_
    refine lv_topi (fun x4 ex4 => ?_)
    replace hf := hf x4 ex4
    clear ex4
    refine lv_icmp_ne (tgt := 176) hx hb dX9_writeFirst_169 (by decide) (fun c6 => ?_) (fun c6 => ?_)
    · replace hf := zif_f hf c6
      exact wX9_writeFirst_176 C hN hK hA hE hr_67 hr_112 hf hP hD hS (lv_sub hl [1, 2, 3, 4, 0, 5, 6, 7] rfl)
    · replace hf := zif_t hf c6
      refine lv_iconst (v := 1) hx hb dX9_writeFirst_172 (by decide) ?_
      refine lv_goto (tgt := 177) hx hb dX9_writeFirst_173 (by decide) ?_
      exact wX9_writeFirst_177 C hN hK hA hE hr_67 hr_112 hf hP hD hS (lv_sub hl [1, 2, 3, 4, 0, 5, 6, 7] rfl)
set_option maxHeartbeats 4000000 in
set_option maxRecDepth 100000 in
theorem wX9_writeFirst_144 {p : Program} {l : Launch} {e : Env} {s : State} {m : MethodId} {args : Array Value} {below : List Frame} {meth : Method} {c : Code} {D : va_G} {A : Nat → Prop} {Q : State → Prop} {cI : ClassId} {h_t h_t_now h_t_file h_t_fresh h_t_colour h_t_table h_t_last h_t_one : Nat} {t_wide : Int32} {t_high : Int32} {t_at : Int32} {t_fault : Int32} {t_newWide : Int32} {t_newHigh : Int32} {t_colours : Int32} {t_now : Nat → Int32} {t_fresh : Nat → Int32} {t_colour : Nat → Int32} {t_one : Nat → Int32} {zt_size : Int32} {zt_file : Nat → Int32} {zt_table : Nat → Int32} {zt_last : Nat → Int32} (C : CallFix p m c cX9_writeFirst 8 s args wsX9_writeFirst RX9) (hN : zN s) (hK : va_K D vwCl [(cI, .int)] s) (hA : ∀ q, s.heap.size ≤ q → A q) (hE : zEv p l e rmX9_writeFirst s m args below meth c cX9_writeFirst D A Q (zwX9 cI h_t h_t_now h_t_file h_t_fresh h_t_colour h_t_table h_t_last h_t_one t_wide t_high zt_size t_at t_fault t_newWide t_newHigh t_colours t_now zt_file t_fresh t_colour zt_table zt_last t_one)) {rc67 : Int32 → Int32 → (Nat → Int32) → (Nat → Int32) → (Nat → Int32) → (Nat → Int32) → Int32 → Int32 → Int32 → Option (Int32 × (Nat → Int32) × (Nat → Int32) × (Nat → Int32))} (hr_67 : ∀ {t_size : Int32} {t_file : Nat → Int32} {t_table : Nat → Int32} {t_last : Nat → Int32} {l1 : Int32} {l2 : Int32} {l3 : Int32} {H : Heap} {locs : List Loc} {ls : Array Slot}, rc67 t_wide t_size t_now t_file t_table t_last l1 l2 l3 = some (zt_size, zt_file, zt_table, zt_last) → va_P D vwCl (zwX9 cI h_t h_t_now h_t_file h_t_fresh h_t_colour h_t_table h_t_last h_t_one t_wide t_high t_size t_at t_fault t_newWide t_newHigh t_colours t_now t_file t_fresh t_colour t_table t_last t_one) H → va_D A (zwX9 cI h_t h_t_now h_t_file h_t_fresh h_t_colour h_t_table h_t_last h_t_one t_wide t_high t_size t_at t_fault t_newWide t_newHigh t_colours t_now t_file t_fresh t_colour t_table t_last t_one) → va_S A s.heap H locs → lv_has ls 8 [(0, .ref h_t), (1, .int l1), (2, .int l2), (3, .int l3)] → W p l e rmX9_writeFirst s m args below meth c H locs 0 0 Q (F0 m 67 ls [])) {rc112 : Int32 → Int32 → (Nat → Int32) → (Nat → Int32) → (Nat → Int32) → (Nat → Int32) → Int32 → Int32 → Int32 → Int32 → Int32 → Int32 → Int32 → Option (Int32 × (Nat → Int32) × (Nat → Int32) × (Nat → Int32))} (hr_112 : ∀ {t_size : Int32} {t_file : Nat → Int32} {t_table : Nat → Int32} {t_last : Nat → Int32} {l1 : Int32} {l2 : Int32} {l3 : Int32} {l4 : Int32} {l5 : Int32} {l6 : Int32} {l7 : Int32} {H : Heap} {locs : List Loc} {ls : Array Slot}, rc112 t_wide t_size t_now t_file t_table t_last l1 l2 l3 l4 l5 l6 l7 = some (zt_size, zt_file, zt_table, zt_last) → va_P D vwCl (zwX9 cI h_t h_t_now h_t_file h_t_fresh h_t_colour h_t_table h_t_last h_t_one t_wide t_high t_size t_at t_fault t_newWide t_newHigh t_colours t_now t_file t_fresh t_colour t_table t_last t_one) H → va_D A (zwX9 cI h_t h_t_now h_t_file h_t_fresh h_t_colour h_t_table h_t_last h_t_one t_wide t_high t_size t_at t_fault t_newWide t_newHigh t_colours t_now t_file t_fresh t_colour t_table t_last t_one) → va_S A s.heap H locs → lv_has ls 8 [(0, .ref h_t), (1, .int l1), (2, .int l2), (3, .int l3), (4, .int l4), (5, .int l5), (6, .int l6), (7, .int l7)] → W p l e rmX9_writeFirst s m args below meth c H locs 0 0 Q (F0 m 112 ls [])) {t_size : Int32} {t_file : Nat → Int32} {t_table : Nat → Int32} {t_last : Nat → Int32} {l1 : Int32} {l2 : Int32} {l3 : Int32} {l4 : Int32} {l5 : Int32} {l6 : Int32} {l7 : Int32} {H : Heap} {locs : List Loc} {ls : Array Slot} : fX9_writeFirst_144 rc67 rc112 t_wide t_size t_now t_file t_table t_last l1 l2 l3 l5 l6 l7 = some (zt_size, zt_file, zt_table, zt_last) → va_P D vwCl (zwX9 cI h_t h_t_now h_t_file h_t_fresh h_t_colour h_t_table h_t_last h_t_one t_wide t_high t_size t_at t_fault t_newWide t_newHigh t_colours t_now t_file t_fresh t_colour t_table t_last t_one) H → va_D A (zwX9 cI h_t h_t_now h_t_file h_t_fresh h_t_colour h_t_table h_t_last h_t_one t_wide t_high t_size t_at t_fault t_newWide t_newHigh t_colours t_now t_file t_fresh t_colour t_table t_last t_one) → va_S A s.heap H locs → lv_has ls 8 [(0, .ref h_t), (1, .int l1), (2, .int l2), (3, .int l3), (4, .int l4), (5, .int l5), (6, .int l6), (7, .int l7)] → W p l e rmX9_writeFirst s m args below meth c H locs 0 0 Q (F0 m 144 ls []) := by
  intro hf hP hD hS hl
  obtain ⟨hx, hb, hml, hown, hts⟩ := id C
  unfold fX9_writeFirst_144 at hf
  refine lv_iconst (v := 0) hx hb dX9_writeFirst_144 (by decide) ?_
  exact wX9_writeFirst_145 C hN hK hA hE hr_67 hr_112 hf hP hD hS (lv_sub hl [0, 1, 2, 3, 4, 5, 6, 7] rfl)
set_option maxHeartbeats 4000000 in
set_option maxRecDepth 100000 in
theorem wX9_writeFirst_112 {p : Program} {l : Launch} {e : Env} {s : State} {m : MethodId} {args : Array Value} {below : List Frame} {meth : Method} {c : Code} {D : va_G} {A : Nat → Prop} {Q : State → Prop} {cI : ClassId} {h_t h_t_now h_t_file h_t_fresh h_t_colour h_t_table h_t_last h_t_one : Nat} {t_wide : Int32} {t_high : Int32} {t_at : Int32} {t_fault : Int32} {t_newWide : Int32} {t_newHigh : Int32} {t_colours : Int32} {t_now : Nat → Int32} {t_fresh : Nat → Int32} {t_colour : Nat → Int32} {t_one : Nat → Int32} {zt_size : Int32} {zt_file : Nat → Int32} {zt_table : Nat → Int32} {zt_last : Nat → Int32} (C : CallFix p m c cX9_writeFirst 8 s args wsX9_writeFirst RX9) (hN : zN s) (hK : va_K D vwCl [(cI, .int)] s) (hA : ∀ q, s.heap.size ≤ q → A q) (hE : zEv p l e rmX9_writeFirst s m args below meth c cX9_writeFirst D A Q (zwX9 cI h_t h_t_now h_t_file h_t_fresh h_t_colour h_t_table h_t_last h_t_one t_wide t_high zt_size t_at t_fault t_newWide t_newHigh t_colours t_now zt_file t_fresh t_colour zt_table zt_last t_one)) {rc67 : Int32 → Int32 → (Nat → Int32) → (Nat → Int32) → (Nat → Int32) → (Nat → Int32) → Int32 → Int32 → Int32 → Option (Int32 × (Nat → Int32) × (Nat → Int32) × (Nat → Int32))} (hr_67 : ∀ {t_size : Int32} {t_file : Nat → Int32} {t_table : Nat → Int32} {t_last : Nat → Int32} {l1 : Int32} {l2 : Int32} {l3 : Int32} {H : Heap} {locs : List Loc} {ls : Array Slot}, rc67 t_wide t_size t_now t_file t_table t_last l1 l2 l3 = some (zt_size, zt_file, zt_table, zt_last) → va_P D vwCl (zwX9 cI h_t h_t_now h_t_file h_t_fresh h_t_colour h_t_table h_t_last h_t_one t_wide t_high t_size t_at t_fault t_newWide t_newHigh t_colours t_now t_file t_fresh t_colour t_table t_last t_one) H → va_D A (zwX9 cI h_t h_t_now h_t_file h_t_fresh h_t_colour h_t_table h_t_last h_t_one t_wide t_high t_size t_at t_fault t_newWide t_newHigh t_colours t_now t_file t_fresh t_colour t_table t_last t_one) → va_S A s.heap H locs → lv_has ls 8 [(0, .ref h_t), (1, .int l1), (2, .int l2), (3, .int l3)] → W p l e rmX9_writeFirst s m args below meth c H locs 0 0 Q (F0 m 67 ls [])) (n : Nat) : ∀ {t_size : Int32} {t_file : Nat → Int32} {t_table : Nat → Int32} {t_last : Nat → Int32} {l1 : Int32} {l2 : Int32} {l3 : Int32} {l4 : Int32} {l5 : Int32} {l6 : Int32} {l7 : Int32} {H : Heap} {locs : List Loc} {ls : Array Slot}, fX9_writeFirst_112 rc67 n t_wide t_size t_now t_file t_table t_last l1 l2 l3 l4 l5 l6 l7 = some (zt_size, zt_file, zt_table, zt_last) → va_P D vwCl (zwX9 cI h_t h_t_now h_t_file h_t_fresh h_t_colour h_t_table h_t_last h_t_one t_wide t_high t_size t_at t_fault t_newWide t_newHigh t_colours t_now t_file t_fresh t_colour t_table t_last t_one) H → va_D A (zwX9 cI h_t h_t_now h_t_file h_t_fresh h_t_colour h_t_table h_t_last h_t_one t_wide t_high t_size t_at t_fault t_newWide t_newHigh t_colours t_now t_file t_fresh t_colour t_table t_last t_one) → va_S A s.heap H locs → lv_has ls 8 [(0, .ref h_t), (1, .int l1), (2, .int l2), (3, .int l3), (4, .int l4), (5, .int l5), (6, .int l6), (7, .int l7)] → W p l e rmX9_writeFirst s m args below meth c H locs 0 0 Q (F0 m 112 ls []) := by
  obtain ⟨hx, hb, hml, hown, hts⟩ := id C
  induction n with
  | zero =>
    intro t_size t_file t_table t_last l1 l2 l3 l4 l5 l6 l7 H locs ls hf
    cases hf
  | succ n hr_112 =>
    intro t_size t_file t_table t_last l1 l2 l3 l4 l5 l6 l7 H locs ls hf hP hD hS hl
    rw [fX9_writeFirst_112_s] at hf
    refine lv_iload hx hb dX9_writeFirst_112 (lv_at hl 7 rfl) ?_
    refine lv_iconst (v := 4) hx hb dX9_writeFirst_114 (by decide) ?_
    refine lv_icmp_ge (tgt := 185) hx hb dX9_writeFirst_115 (by decide) (fun c1 => ?_) (fun c1 => ?_)
    · replace hf := zif_t hf c1
      refine lv_iload_n hx hb dX9_writeFirst_185 rfl (lv_at hl 1 rfl) ?_
      refine lv_if_le (tgt := 211) hx hb dX9_writeFirst_186 (by decide) (fun c2 => ?_) (fun c2 => ?_)
      · replace hf := zif_t hf c2
        exact wX9_writeFirst_211 C hN hK hA hE hr_67 hf hP hD hS (lv_sub hl [0, 1, 2, 3, 4, 5, 6, 7] rfl)
      · replace hf := zif_f hf c2
        refine lv_iload hx hb dX9_writeFirst_189 (lv_at hl 4 rfl) ?_
        refine lv_if_eq (tgt := 200) hx hb dX9_writeFirst_191 (by decide) (fun c3 => ?_) (fun c3 => ?_)
        · replace hf := zif_t hf c3
          exact wX9_writeFirst_200 C hN hK hA hE hr_67 hf hP hD hS (lv_sub hl [0, 1, 2, 3, 4, 5, 6, 7] rfl)
        · replace hf := zif_f hf c3
          refine lv_iload_n hx hb dX9_writeFirst_194 rfl (lv_at hl 1 rfl) ?_
          refine lv_bipush (v := 62) hx hb dX9_writeFirst_195 (by decide) ?_
          refine lv_icmp_ne (tgt := 211) hx hb dX9_writeFirst_197 (by decide) (fun c4 => ?_) (fun c4 => ?_)
          · replace hf := zif_f hf c4
            exact wX9_writeFirst_211 C hN hK hA hE hr_67 hf hP hD hS (lv_sub hl [0, 1, 2, 3, 4, 5, 6, 7] rfl)
          · replace hf := zif_t hf c4
            exact wX9_writeFirst_200 C hN hK hA hE hr_67 hf hP hD hS (lv_sub hl [0, 1, 2, 3, 4, 5, 6, 7] rfl)
    · replace hf := zif_f hf c1
      refine lv_iload hx hb dX9_writeFirst_118 (lv_at hl 4 rfl) ?_
      refine lv_if_eq (tgt := 144) hx hb dX9_writeFirst_120 (by decide) (fun c5 => ?_) (fun c5 => ?_)
      · replace hf := zif_t hf c5
        exact wX9_writeFirst_144 C hN hK hA hE hr_67 hr_112 hf hP hD hS (lv_sub hl [0, 1, 2, 3, 4, 5, 6, 7] rfl)
      · replace hf := zif_f hf c5
        refine lv_aload_n hx hb dX9_writeFirst_123 rfl (lv_at hl 0 rfl) ?_
        refine lv_iload_n hx hb dX9_writeFirst_124 rfl (lv_at hl 3 rfl) ?_
        refine lv_iload hx hb dX9_writeFirst_125 (lv_at hl 7 rfl) ?_
        obtain ⟨r6, hc7, hf⟩ := zb1_in hf
        refine zc_i (va_runV (As := [.int l3, .int l7]) (rest := []) C (mX9_channel l D cI H.size h_t h_t_now h_t_file h_t_fresh h_t_colour h_t_table h_t_last h_t_one t_wide t_high t_size t_at t_fault t_newWide t_newHigh t_colours t_now t_file t_fresh t_colour t_table t_last t_one l3 l7 r6 hc7) (qX9_writeFirst_X9_channel_49 hts) ⟨zP_blind, va_recv hK hP (ci := 8) (q0 := 0) rfl rfl, zpre hK hN hP hD [0, 1, 2, 3, 4, 5, 6, 7] rfl rfl⟩ rfl rfl hl.1 rfl (lv_room (Nat.le_of_ble_eq_true rfl)) dX9_writeFirst_127 ⟨Nat.zero_le _, Nat.zero_le _⟩) hP hD hS hA [0, 1, 2, 3, 4, 5, 6, 7] [] [0, 1, 2, 3, 4, 5, 6, 7] (ws' := zwX9 cI h_t h_t_now h_t_file h_t_fresh h_t_colour h_t_table h_t_last h_t_one t_wide t_high t_size t_at t_fault t_newWide t_newHigh t_colours t_now t_file t_fresh t_colour t_table t_last t_one) rfl rfl rfl rfl rfl rfl (fun H locs hP hD hS => ?_)
        refine lv_aload_n hx hb dX9_writeFirst_130 rfl (lv_at hl 0 rfl) ?_
        refine va_get (D := D) (ci := 8) (v := .ref h_t_last) (C := RX9) (T := TX9) (N := 15) hx hb hts iX9_writeFirst_X9 hown hK hP 0 rfl rfl 13 (by decide) (kX9_writeFirst_32 hts) (fun _ h9 => h9) rfl dX9_writeFirst_131 ?_
        refine lv_iload hx hb dX9_writeFirst_134 (lv_at hl 7 rfl) ?_
        obtain ⟨hg9, hf⟩ := zrd_in hf
        refine va_iald hx hb hK hP 6 0 rfl rfl hg9 dX9_writeFirst_136 ?_
        refine lv_topi (fun x8 ex8 => ?_)
        replace hf := hf x8 ex8
        clear ex8
        refine lv_icmp_ne (tgt := 144) hx hb dX9_writeFirst_137 (by decide) (fun c10 => ?_) (fun c10 => ?_)
        · replace hf := zif_f hf c10
          exact wX9_writeFirst_144 C hN hK hA hE hr_67 hr_112 hf hP hD hS (lv_sub hl [0, 1, 2, 3, 4, 5, 6, 7] rfl)
        · replace hf := zif_t hf c10
          refine lv_iconst (v := 1) hx hb dX9_writeFirst_140 (by decide) ?_
          refine lv_goto (tgt := 145) hx hb dX9_writeFirst_141 (by decide) ?_
          exact wX9_writeFirst_145 C hN hK hA hE hr_67 hr_112 hf hP hD hS (lv_sub hl [0, 1, 2, 3, 4, 5, 6, 7] rfl)
set_option maxHeartbeats 4000000 in
set_option maxRecDepth 100000 in
theorem wX9_writeFirst_67 {p : Program} {l : Launch} {e : Env} {s : State} {m : MethodId} {args : Array Value} {below : List Frame} {meth : Method} {c : Code} {D : va_G} {A : Nat → Prop} {Q : State → Prop} {cI : ClassId} {h_t h_t_now h_t_file h_t_fresh h_t_colour h_t_table h_t_last h_t_one : Nat} {t_wide : Int32} {t_high : Int32} {t_at : Int32} {t_fault : Int32} {t_newWide : Int32} {t_newHigh : Int32} {t_colours : Int32} {t_now : Nat → Int32} {t_fresh : Nat → Int32} {t_colour : Nat → Int32} {t_one : Nat → Int32} {zt_size : Int32} {zt_file : Nat → Int32} {zt_table : Nat → Int32} {zt_last : Nat → Int32} (C : CallFix p m c cX9_writeFirst 8 s args wsX9_writeFirst RX9) (hN : zN s) (hK : va_K D vwCl [(cI, .int)] s) (hA : ∀ q, s.heap.size ≤ q → A q) (hE : zEv p l e rmX9_writeFirst s m args below meth c cX9_writeFirst D A Q (zwX9 cI h_t h_t_now h_t_file h_t_fresh h_t_colour h_t_table h_t_last h_t_one t_wide t_high zt_size t_at t_fault t_newWide t_newHigh t_colours t_now zt_file t_fresh t_colour zt_table zt_last t_one)) (n : Nat) : ∀ {t_size : Int32} {t_file : Nat → Int32} {t_table : Nat → Int32} {t_last : Nat → Int32} {l1 : Int32} {l2 : Int32} {l3 : Int32} {H : Heap} {locs : List Loc} {ls : Array Slot}, fX9_writeFirst_67 n t_wide t_size t_now t_file t_table t_last l1 l2 l3 = some (zt_size, zt_file, zt_table, zt_last) → va_P D vwCl (zwX9 cI h_t h_t_now h_t_file h_t_fresh h_t_colour h_t_table h_t_last h_t_one t_wide t_high t_size t_at t_fault t_newWide t_newHigh t_colours t_now t_file t_fresh t_colour t_table t_last t_one) H → va_D A (zwX9 cI h_t h_t_now h_t_file h_t_fresh h_t_colour h_t_table h_t_last h_t_one t_wide t_high t_size t_at t_fault t_newWide t_newHigh t_colours t_now t_file t_fresh t_colour t_table t_last t_one) → va_S A s.heap H locs → lv_has ls 8 [(0, .ref h_t), (1, .int l1), (2, .int l2), (3, .int l3)] → W p l e rmX9_writeFirst s m args below meth c H locs 0 0 Q (F0 m 67 ls []) := by
  obtain ⟨hx, hb, hml, hown, hts⟩ := id C
  induction n with
  | zero =>
    intro t_size t_file t_table t_last l1 l2 l3 H locs ls hf
    cases hf
  | succ n hr_67 =>
    intro t_size t_file t_table t_last l1 l2 l3 H locs ls hf hP hD hS hl
    rw [fX9_writeFirst_67_s] at hf
    refine lv_iload_n hx hb dX9_writeFirst_67 rfl (lv_at hl 3 rfl) ?_
    refine lv_iload_n hx hb dX9_writeFirst_68 rfl (lv_at hl 2 rfl) ?_
    refine lv_icmp_ge (tgt := 313) hx hb dX9_writeFirst_69 (by decide) (fun c1 => ?_) (fun c1 => ?_)
    · replace hf := zif_t hf c1
      refine lv_iload_n hx hb dX9_writeFirst_313 rfl (lv_at hl 1 rfl) ?_
      refine lv_if_le (tgt := 326) hx hb dX9_writeFirst_314 (by decide) (fun c2 => ?_) (fun c2 => ?_)
      · replace hf := zif_t hf c2
        exact wX9_writeFirst_326 C hN hK hA hE hf hP hD hS (lv_sub hl [0, 1, 2, 3] rfl)
      · replace hf := zif_f hf c2
        refine lv_aload_n hx hb dX9_writeFirst_317 rfl (lv_at hl 0 rfl) ?_
        refine lv_sipush (v := 191) hx hb dX9_writeFirst_318 (by decide) ?_
        refine lv_iload_n hx hb dX9_writeFirst_321 rfl (lv_at hl 1 rfl) ?_
        refine lv_iadd hx hb dX9_writeFirst_322 ?_
        obtain ⟨u3, u4, hc5, hf⟩ := zb2_in hf
        refine zc_v (va_runV (As := [.int (191 + l1)]) (rest := []) C (mX9_add l D cI H.size h_t h_t_now h_t_file h_t_fresh h_t_colour h_t_table h_t_last h_t_one t_wide t_high t_size t_at t_fault t_newWide t_newHigh t_colours t_now t_file t_fresh t_colour t_table t_last t_one (191 + l1) u3 u4 hc5) (qX9_writeFirst_X9_add_63 hts) ⟨zP_blind, va_recv hK hP (ci := 8) (q0 := 0) rfl rfl, zpre hK hN hP hD [0, 1, 2, 3, 4, 5, 6, 7] rfl rfl⟩ rfl rfl hl.1 rfl (lv_room (Nat.le_of_ble_eq_true rfl)) dX9_writeFirst_323 ⟨Nat.zero_le _, Nat.zero_le _⟩) hP hD hS hA [0, 1, 2, 3, 4, 5, 6, 7] [] [0, 1, 2, 3, 4, 5, 6, 7] (ws' := zwX9 cI h_t h_t_now h_t_file h_t_fresh h_t_colour h_t_table h_t_last h_t_one t_wide t_high u3 t_at t_fault t_newWide t_newHigh t_colours t_now u4 t_fresh t_colour t_table t_last t_one) rfl rfl rfl rfl rfl rfl (fun H locs hP hD hS => ?_)
        exact wX9_writeFirst_326 C hN hK hA hE hf hP hD hS (lv_sub hl [0, 1, 2, 3] rfl)
    · replace hf := zif_f hf c1
      refine lv_iconst (v := 1) hx hb dX9_writeFirst_72 (by decide) ?_
      refine lv_istore (lv' := [(4, .int 1), (0, .ref h_t), (1, .int l1), (2, .int l2), (3, .int l3)]) hx hb dX9_writeFirst_73 hl (by decide) rfl (fun ls hl => ?_)
      refine lv_iconst (v := 4) hx hb dX9_writeFirst_75 (by decide) ?_
      refine lv_aload_n hx hb dX9_writeFirst_76 rfl (lv_at hl 1 rfl) ?_
      refine lv_iload_n hx hb dX9_writeFirst_77 rfl (lv_at hl 4 rfl) ?_
      refine lv_iconst (v := 0) hx hb dX9_writeFirst_78 (by decide) ?_
      obtain ⟨r6, hc7, hf⟩ := zb1_in hf
      refine zc_i (va_runV (As := [.int l3, .int 0]) (rest := [.int 4]) C (mX9_channel l D cI H.size h_t h_t_now h_t_file h_t_fresh h_t_colour h_t_table h_t_last h_t_one t_wide t_high t_size t_at t_fault t_newWide t_newHigh t_colours t_now t_file t_fresh t_colour t_table t_last t_one l3 0 r6 hc7) (qX9_writeFirst_X9_channel_49 hts) ⟨zP_blind, va_recv hK hP (ci := 8) (q0 := 0) rfl rfl, zpre hK hN hP hD [0, 1, 2, 3, 4, 5, 6, 7] rfl rfl⟩ rfl rfl hl.1 rfl (lv_room (Nat.le_of_ble_eq_true rfl)) dX9_writeFirst_79 ⟨Nat.zero_le _, Nat.zero_le _⟩) hP hD hS hA [0, 1, 2, 3, 4, 5, 6, 7] [] [0, 1, 2, 3, 4, 5, 6, 7] (ws' := zwX9 cI h_t h_t_now h_t_file h_t_fresh h_t_colour h_t_table h_t_last h_t_one t_wide t_high t_size t_at t_fault t_newWide t_newHigh t_colours t_now t_file t_fresh t_colour t_table t_last t_one) rfl rfl rfl rfl rfl rfl (fun H locs hP hD hS => ?_)
      refine lv_aload_n hx hb dX9_writeFirst_82 rfl (lv_at hl 1 rfl) ?_
      refine lv_iload_n hx hb dX9_writeFirst_83 rfl (lv_at hl 4 rfl) ?_
      refine lv_iconst (v := 1) hx hb dX9_writeFirst_84 (by decide) ?_
      obtain ⟨r8, hc9, hf⟩ := zb1_in hf
      refine zc_i (va_runV (As := [.int l3, .int 1]) (rest := [.int r6, .int 4]) C (mX9_channel l D cI H.size h_t h_t_now h_t_file h_t_fresh h_t_colour h_t_table h_t_last h_t_one t_wide t_high t_size t_at t_fault t_newWide t_newHigh t_colours t_now t_file t_fresh t_colour t_table t_last t_one l3 1 r8 hc9) (qX9_writeFirst_X9_channel_49 hts) ⟨zP_blind, va_recv hK hP (ci := 8) (q0 := 0) rfl rfl, zpre hK hN hP hD [0, 1, 2, 3, 4, 5, 6, 7] rfl rfl⟩ rfl rfl hl.1 rfl (lv_room (Nat.le_of_ble_eq_true rfl)) dX9_writeFirst_85 ⟨Nat.zero_le _, Nat.zero_le _⟩) hP hD hS hA [0, 1, 2, 3, 4, 5, 6, 7] [] [0, 1, 2, 3, 4, 5, 6, 7] (ws' := zwX9 cI h_t h_t_now h_t_file h_t_fresh h_t_colour h_t_table h_t_last h_t_one t_wide t_high t_size t_at t_fault t_newWide t_newHigh t_colours t_now t_file t_fresh t_colour t_table t_last t_one) rfl rfl rfl rfl rfl rfl (fun H locs hP hD hS => ?_)
      refine lv_aload_n hx hb dX9_writeFirst_88 rfl (lv_at hl 1 rfl) ?_
      refine lv_iload_n hx hb dX9_writeFirst_89 rfl (lv_at hl 4 rfl) ?_
      refine lv_iconst (v := 2) hx hb dX9_writeFirst_90 (by decide) ?_
      obtain ⟨r10, hc11, hf⟩ := zb1_in hf
      refine zc_i (va_runV (As := [.int l3, .int 2]) (rest := [.int r8, .int r6, .int 4]) C (mX9_channel l D cI H.size h_t h_t_now h_t_file h_t_fresh h_t_colour h_t_table h_t_last h_t_one t_wide t_high t_size t_at t_fault t_newWide t_newHigh t_colours t_now t_file t_fresh t_colour t_table t_last t_one l3 2 r10 hc11) (qX9_writeFirst_X9_channel_49 hts) ⟨zP_blind, va_recv hK hP (ci := 8) (q0 := 0) rfl rfl, zpre hK hN hP hD [0, 1, 2, 3, 4, 5, 6, 7] rfl rfl⟩ rfl rfl hl.1 rfl (lv_room (Nat.le_of_ble_eq_true rfl)) dX9_writeFirst_91 ⟨Nat.zero_le _, Nat.zero_le _⟩) hP hD hS hA [0, 1, 2, 3, 4, 5, 6, 7] [] [0, 1, 2, 3, 4, 5, 6, 7] (ws' := zwX9 cI h_t h_t_now h_t_file h_t_fresh h_t_colour h_t_table h_t_last h_t_one t_wide t_high t_size t_at t_fault t_newWide t_newHigh t_colours t_now t_file t_fresh t_colour t_table t_last t_one) rfl rfl rfl rfl rfl rfl (fun H locs hP hD hS => ?_)
      refine lv_aload_n hx hb dX9_writeFirst_94 rfl (lv_at hl 1 rfl) ?_
      refine lv_iload_n hx hb dX9_writeFirst_95 rfl (lv_at hl 4 rfl) ?_
      refine lv_iconst (v := 3) hx hb dX9_writeFirst_96 (by decide) ?_
      obtain ⟨r12, hc13, hf⟩ := zb1_in hf
      refine zc_i (va_runV (As := [.int l3, .int 3]) (rest := [.int r10, .int r8, .int r6, .int 4]) C (mX9_channel l D cI H.size h_t h_t_now h_t_file h_t_fresh h_t_colour h_t_table h_t_last h_t_one t_wide t_high t_size t_at t_fault t_newWide t_newHigh t_colours t_now t_file t_fresh t_colour t_table t_last t_one l3 3 r12 hc13) (qX9_writeFirst_X9_channel_49 hts) ⟨zP_blind, va_recv hK hP (ci := 8) (q0 := 0) rfl rfl, zpre hK hN hP hD [0, 1, 2, 3, 4, 5, 6, 7] rfl rfl⟩ rfl rfl hl.1 rfl (lv_room (Nat.le_of_ble_eq_true rfl)) dX9_writeFirst_97 ⟨Nat.zero_le _, Nat.zero_le _⟩) hP hD hS hA [0, 1, 2, 3, 4, 5, 6, 7] [] [0, 1, 2, 3, 4, 5, 6, 7] (ws' := zwX9 cI h_t h_t_now h_t_file h_t_fresh h_t_colour h_t_table h_t_last h_t_one t_wide t_high t_size t_at t_fault t_newWide t_newHigh t_colours t_now t_file t_fresh t_colour t_table t_last t_one) rfl rfl rfl rfl rfl rfl (fun H locs hP hD hS => ?_)
      obtain ⟨r14, hc15, hf⟩ := zb1_in hf
      refine zc_i (va_runS (As := [.int r6, .int r8, .int r10, .int r12]) (rest := [.int 4]) C (mX9_placeOf l D cI H.size r6 r8 r10 r12 r14 hc15) (qX9_writeFirst_X9_placeOf_81 hts) ⟨zP_blind, zpre hK hN hP hD [] rfl rfl⟩ rfl rfl hl.1 rfl (lv_room (Nat.le_of_ble_eq_true rfl)) dX9_writeFirst_100 ⟨Nat.zero_le _, Nat.zero_le _⟩) hP hD hS hA [] [0, 1, 2, 3, 4, 5, 6, 7] [0, 1, 2, 3, 4, 5, 6, 7] (ws' := zwX9 cI h_t h_t_now h_t_file h_t_fresh h_t_colour h_t_table h_t_last h_t_one t_wide t_high t_size t_at t_fault t_newWide t_newHigh t_colours t_now t_file t_fresh t_colour t_table t_last t_one) rfl rfl rfl rfl rfl rfl (fun H locs hP hD hS => ?_)
      refine lv_imul hx hb dX9_writeFirst_103 ?_
      refine lv_topi (fun x16 ex16 => ?_)
      replace hf := zlet_in hf ex16
      clear ex16
      refine lv_istore (lv' := [(5, .int x16), (4, .int 1), (0, .ref h_t), (1, .int l1), (2, .int l2), (3, .int l3)]) hx hb dX9_writeFirst_104 hl (by decide) rfl (fun ls hl => ?_)
      refine lv_iconst (v := 1) hx hb dX9_writeFirst_106 (by decide) ?_
      refine lv_istore (lv' := [(6, .int 1), (5, .int x16), (4, .int 1), (0, .ref h_t), (1, .int l1), (2, .int l2), (3, .int l3)]) hx hb dX9_writeFirst_107 hl (by decide) rfl (fun ls hl => ?_)
      refine lv_iconst (v := 0) hx hb dX9_writeFirst_109 (by decide) ?_
      refine lv_istore (lv' := [(7, .int 0), (6, .int 1), (5, .int x16), (4, .int 1), (0, .ref h_t), (1, .int l1), (2, .int l2), (3, .int l3)]) hx hb dX9_writeFirst_110 hl (by decide) rfl (fun ls hl => ?_)
      exact wX9_writeFirst_112 C hN hK hA hE hr_67 1000 hf hP hD hS (lv_sub hl [4, 5, 6, 7, 3, 2, 1, 0] rfl)
set_option maxHeartbeats 4000000 in
set_option maxRecDepth 100000 in
theorem wX9_writeFirst_45 {p : Program} {l : Launch} {e : Env} {s : State} {m : MethodId} {args : Array Value} {below : List Frame} {meth : Method} {c : Code} {D : va_G} {A : Nat → Prop} {Q : State → Prop} {cI : ClassId} {h_t h_t_now h_t_file h_t_fresh h_t_colour h_t_table h_t_last h_t_one : Nat} {t_wide : Int32} {t_high : Int32} {t_at : Int32} {t_fault : Int32} {t_newWide : Int32} {t_newHigh : Int32} {t_colours : Int32} {t_now : Nat → Int32} {t_fresh : Nat → Int32} {t_colour : Nat → Int32} {t_one : Nat → Int32} {zt_size : Int32} {zt_file : Nat → Int32} {zt_table : Nat → Int32} {zt_last : Nat → Int32} (C : CallFix p m c cX9_writeFirst 8 s args wsX9_writeFirst RX9) (hN : zN s) (hK : va_K D vwCl [(cI, .int)] s) (hA : ∀ q, s.heap.size ≤ q → A q) (hE : zEv p l e rmX9_writeFirst s m args below meth c cX9_writeFirst D A Q (zwX9 cI h_t h_t_now h_t_file h_t_fresh h_t_colour h_t_table h_t_last h_t_one t_wide t_high zt_size t_at t_fault t_newWide t_newHigh t_colours t_now zt_file t_fresh t_colour zt_table zt_last t_one)) {t_size : Int32} {t_file : Nat → Int32} {t_table : Nat → Int32} {t_last : Nat → Int32} {k1 : Int32} {H : Heap} {locs : List Loc} {ls : Array Slot} : fX9_writeFirst_45 t_wide t_high t_size t_now t_file t_table t_last k1 = some (zt_size, zt_file, zt_table, zt_last) → va_P D vwCl (zwX9 cI h_t h_t_now h_t_file h_t_fresh h_t_colour h_t_table h_t_last h_t_one t_wide t_high t_size t_at t_fault t_newWide t_newHigh t_colours t_now t_file t_fresh t_colour t_table t_last t_one) H → va_D A (zwX9 cI h_t h_t_now h_t_file h_t_fresh h_t_colour h_t_table h_t_last h_t_one t_wide t_high t_size t_at t_fault t_newWide t_newHigh t_colours t_now t_file t_fresh t_colour t_table t_last t_one) → va_S A s.heap H locs → lv_has ls 8 [(0, .ref h_t)] → W p l e rmX9_writeFirst s m args below meth c H locs 0 0 Q (F0 m 45 ls [.int k1, .ref h_t]) := by
  intro hf hP hD hS hl
  obtain ⟨hx, hb, hml, hown, hts⟩ := id C
  unfold fX9_writeFirst_45 at hf
  refine lv_iconst (v := 0) hx hb dX9_writeFirst_45 (by decide) ?_
  obtain ⟨u1, u2, hc3, hf⟩ := zb2_in hf
  refine zc_v (va_runV (As := [.int k1, .int 0]) (rest := []) C (mX9_addTwo l D cI H.size h_t h_t_now h_t_file h_t_fresh h_t_colour h_t_table h_t_last h_t_one t_wide t_high t_size t_at t_fault t_newWide t_newHigh t_colours t_now t_file t_fresh t_colour t_table t_last t_one k1 0 u1 u2 hc3) (qX9_writeFirst_X9_addTwo_71 hts) ⟨zP_blind, va_recv hK hP (ci := 8) (q0 := 0) rfl rfl, zpre hK hN hP hD [0, 1, 2, 3, 4, 5, 6, 7] rfl rfl⟩ rfl rfl hl.1 rfl (lv_room (Nat.le_of_ble_eq_true rfl)) dX9_writeFirst_46 ⟨Nat.zero_le _, Nat.zero_le _⟩) hP hD hS hA [0, 1, 2, 3, 4, 5, 6, 7] [] [0, 1, 2, 3, 4, 5, 6, 7] (ws' := zwX9 cI h_t h_t_now h_t_file h_t_fresh h_t_colour h_t_table h_t_last h_t_one t_wide t_high u1 t_at t_fault t_newWide t_newHigh t_colours t_now u2 t_fresh t_colour t_table t_last t_one) rfl rfl rfl rfl rfl rfl (fun H locs hP hD hS => ?_)
  refine lv_aload_n hx hb dX9_writeFirst_49 rfl (lv_at hl 0 rfl) ?_
  obtain ⟨u4, u5, hc6, hf⟩ := zb2_in hf
  refine zc_v (va_runV (As := []) (rest := []) C (mX9_clearTable l D cI H.size h_t h_t_now h_t_file h_t_fresh h_t_colour h_t_table h_t_last h_t_one t_wide t_high u1 t_at t_fault t_newWide t_newHigh t_colours t_now u2 t_fresh t_colour t_table t_last t_one u4 u5 hc6) (qX9_writeFirst_X9_clearTable_78 hts) ⟨zP_blind, va_recv hK hP (ci := 8) (q0 := 0) rfl rfl, zpre hK hN hP hD [0, 1, 2, 3, 4, 5, 6, 7] rfl rfl⟩ rfl rfl hl.1 rfl (lv_room (Nat.le_of_ble_eq_true rfl)) dX9_writeFirst_50 ⟨Nat.zero_le _, Nat.zero_le _⟩) hP hD hS hA [0, 1, 2, 3, 4, 5, 6, 7] [] [0, 1, 2, 3, 4, 5, 6, 7] (ws' := zwX9 cI h_t h_t_now h_t_file h_t_fresh h_t_colour h_t_table h_t_last h_t_one t_wide t_high u1 t_at t_fault t_newWide t_newHigh t_colours t_now u2 t_fresh t_colour u4 u5 t_one) rfl rfl rfl rfl rfl rfl (fun H locs hP hD hS => ?_)
  refine lv_iconst (v := 0) hx hb dX9_writeFirst_53 (by decide) ?_
  refine lv_istore_n (lv' := [(1, .int 0), (0, .ref h_t)]) hx hb dX9_writeFirst_54 rfl hl (by decide) rfl (fun ls hl => ?_)
  refine lv_aload_n hx hb dX9_writeFirst_55 rfl (lv_at hl 1 rfl) ?_
  refine va_get (D := D) (ci := 8) (v := .int t_wide) (C := RX9) (T := TX9) (N := 15) hx hb hts iX9_writeFirst_X9 hown hK hP 0 rfl rfl 0 (by decide) (kX9_writeFirst_7 hts) (fun _ h9 => h9) rfl dX9_writeFirst_56 ?_
  refine lv_aload_n hx hb dX9_writeFirst_59 rfl (lv_at hl 1 rfl) ?_
  refine va_get (D := D) (ci := 8) (v := .int t_high) (C := RX9) (T := TX9) (N := 15) hx hb hts iX9_writeFirst_X9 hown hK hP 0 rfl rfl 1 (by decide) (kX9_writeFirst_13 hts) (fun _ h9 => h9) rfl dX9_writeFirst_60 ?_
  refine lv_imul hx hb dX9_writeFirst_63 ?_
  refine lv_topi (fun x7 ex7 => ?_)
  replace hf := zlet_in hf ex7
  clear ex7
  refine lv_istore_n (lv' := [(2, .int x7), (1, .int 0), (0, .ref h_t)]) hx hb dX9_writeFirst_64 rfl hl (by decide) rfl (fun ls hl => ?_)
  refine lv_iconst (v := 0) hx hb dX9_writeFirst_65 (by decide) ?_
  refine lv_istore_n (lv' := [(3, .int 0), (2, .int x7), (1, .int 0), (0, .ref h_t)]) hx hb dX9_writeFirst_66 rfl hl (by decide) rfl (fun ls hl => ?_)
  exact wX9_writeFirst_67 C hN hK hA hE 1000 hf hP hD hS (lv_sub hl [3, 2, 1, 0] rfl)
set_option maxHeartbeats 4000000 in
set_option maxRecDepth 100000 in
theorem wX9_writeFirst_0 {p : Program} {l : Launch} {e : Env} {s : State} {m : MethodId} {args : Array Value} {below : List Frame} {meth : Method} {c : Code} {D : va_G} {A : Nat → Prop} {Q : State → Prop} {cI : ClassId} {h_t h_t_now h_t_file h_t_fresh h_t_colour h_t_table h_t_last h_t_one : Nat} {t_wide : Int32} {t_high : Int32} {t_at : Int32} {t_fault : Int32} {t_newWide : Int32} {t_newHigh : Int32} {t_colours : Int32} {t_now : Nat → Int32} {t_fresh : Nat → Int32} {t_colour : Nat → Int32} {t_one : Nat → Int32} {zt_size : Int32} {zt_file : Nat → Int32} {zt_table : Nat → Int32} {zt_last : Nat → Int32} (C : CallFix p m c cX9_writeFirst 8 s args wsX9_writeFirst RX9) (hN : zN s) (hK : va_K D vwCl [(cI, .int)] s) (hA : ∀ q, s.heap.size ≤ q → A q) (hE : zEv p l e rmX9_writeFirst s m args below meth c cX9_writeFirst D A Q (zwX9 cI h_t h_t_now h_t_file h_t_fresh h_t_colour h_t_table h_t_last h_t_one t_wide t_high zt_size t_at t_fault t_newWide t_newHigh t_colours t_now zt_file t_fresh t_colour zt_table zt_last t_one)) {t_size : Int32} {t_file : Nat → Int32} {t_table : Nat → Int32} {t_last : Nat → Int32} {H : Heap} {locs : List Loc} {ls : Array Slot} : fX9_writeFirst t_wide t_high t_size t_now t_file t_table t_last = some (zt_size, zt_file, zt_table, zt_last) → va_P D vwCl (zwX9 cI h_t h_t_now h_t_file h_t_fresh h_t_colour h_t_table h_t_last h_t_one t_wide t_high t_size t_at t_fault t_newWide t_newHigh t_colours t_now t_file t_fresh t_colour t_table t_last t_one) H → va_D A (zwX9 cI h_t h_t_now h_t_file h_t_fresh h_t_colour h_t_table h_t_last h_t_one t_wide t_high t_size t_at t_fault t_newWide t_newHigh t_colours t_now t_file t_fresh t_colour t_table t_last t_one) → va_S A s.heap H locs → lv_has ls 8 [(0, .ref h_t)] → W p l e rmX9_writeFirst s m args below meth c H locs 0 0 Q (F0 m 0 ls []) := by
  intro hf hP hD hS hl
  obtain ⟨hx, hb, hml, hown, hts⟩ := id C
  unfold fX9_writeFirst at hf
  refine lv_aload_n hx hb dX9_writeFirst_0 rfl (lv_at hl 0 rfl) ?_
  refine lv_bipush (v := 113) hx hb dX9_writeFirst_1 (by decide) ?_
  refine lv_bipush (v := 111) hx hb dX9_writeFirst_3 (by decide) ?_
  obtain ⟨u1, u2, hc3, hf⟩ := zb2_in hf
  refine zc_v (va_runV (As := [.int 113, .int 111]) (rest := []) C (mX9_addTwo l D cI H.size h_t h_t_now h_t_file h_t_fresh h_t_colour h_t_table h_t_last h_t_one t_wide t_high t_size t_at t_fault t_newWide t_newHigh t_colours t_now t_file t_fresh t_colour t_table t_last t_one 113 111 u1 u2 hc3) (qX9_writeFirst_X9_addTwo_71 hts) ⟨zP_blind, va_recv hK hP (ci := 8) (q0 := 0) rfl rfl, zpre hK hN hP hD [0, 1, 2, 3, 4, 5, 6, 7] rfl rfl⟩ rfl rfl hl.1 rfl (lv_room (Nat.le_of_ble_eq_true rfl)) dX9_writeFirst_5 ⟨Nat.zero_le _, Nat.zero_le _⟩) hP hD hS hA [0, 1, 2, 3, 4, 5, 6, 7] [] [0, 1, 2, 3, 4, 5, 6, 7] (ws' := zwX9 cI h_t h_t_now h_t_file h_t_fresh h_t_colour h_t_table h_t_last h_t_one t_wide t_high u1 t_at t_fault t_newWide t_newHigh t_colours t_now u2 t_fresh t_colour t_table t_last t_one) rfl rfl rfl rfl rfl rfl (fun H locs hP hD hS => ?_)
  refine lv_aload_n hx hb dX9_writeFirst_8 rfl (lv_at hl 0 rfl) ?_
  refine lv_bipush (v := 105) hx hb dX9_writeFirst_9 (by decide) ?_
  refine lv_bipush (v := 102) hx hb dX9_writeFirst_11 (by decide) ?_
  obtain ⟨u4, u5, hc6, hf⟩ := zb2_in hf
  refine zc_v (va_runV (As := [.int 105, .int 102]) (rest := []) C (mX9_addTwo l D cI H.size h_t h_t_now h_t_file h_t_fresh h_t_colour h_t_table h_t_last h_t_one t_wide t_high u1 t_at t_fault t_newWide t_newHigh t_colours t_now u2 t_fresh t_colour t_table t_last t_one 105 102 u4 u5 hc6) (qX9_writeFirst_X9_addTwo_71 hts) ⟨zP_blind, va_recv hK hP (ci := 8) (q0 := 0) rfl rfl, zpre hK hN hP hD [0, 1, 2, 3, 4, 5, 6, 7] rfl rfl⟩ rfl rfl hl.1 rfl (lv_room (Nat.le_of_ble_eq_true rfl)) dX9_writeFirst_13 ⟨Nat.zero_le _, Nat.zero_le _⟩) hP hD hS hA [0, 1, 2, 3, 4, 5, 6, 7] [] [0, 1, 2, 3, 4, 5, 6, 7] (ws' := zwX9 cI h_t h_t_now h_t_file h_t_fresh h_t_colour h_t_table h_t_last h_t_one t_wide t_high u4 t_at t_fault t_newWide t_newHigh t_colours t_now u5 t_fresh t_colour t_table t_last t_one) rfl rfl rfl rfl rfl rfl (fun H locs hP hD hS => ?_)
  refine lv_aload_n hx hb dX9_writeFirst_16 rfl (lv_at hl 0 rfl) ?_
  refine lv_aload_n hx hb dX9_writeFirst_17 rfl (lv_at hl 0 rfl) ?_
  refine va_get (D := D) (ci := 8) (v := .int t_wide) (C := RX9) (T := TX9) (N := 15) hx hb hts iX9_writeFirst_X9 hown hK hP 0 rfl rfl 0 (by decide) (kX9_writeFirst_7 hts) (fun _ h9 => h9) rfl dX9_writeFirst_18 ?_
  obtain ⟨u7, u8, hc9, hf⟩ := zb2_in hf
  refine zc_v (va_runV (As := [.int t_wide]) (rest := []) C (mX9_big l D cI H.size h_t h_t_now h_t_file h_t_fresh h_t_colour h_t_table h_t_last h_t_one t_wide t_high u4 t_at t_fault t_newWide t_newHigh t_colours t_now u5 t_fresh t_colour t_table t_last t_one t_wide u7 u8 hc9) (qX9_writeFirst_X9_big_75 hts) ⟨zP_blind, va_recv hK hP (ci := 8) (q0 := 0) rfl rfl, zpre hK hN hP hD [0, 1, 2, 3, 4, 5, 6, 7] rfl rfl⟩ rfl rfl hl.1 rfl (lv_room (Nat.le_of_ble_eq_true rfl)) dX9_writeFirst_21 ⟨Nat.zero_le _, Nat.zero_le _⟩) hP hD hS hA [0, 1, 2, 3, 4, 5, 6, 7] [] [0, 1, 2, 3, 4, 5, 6, 7] (ws' := zwX9 cI h_t h_t_now h_t_file h_t_fresh h_t_colour h_t_table h_t_last h_t_one t_wide t_high u7 t_at t_fault t_newWide t_newHigh t_colours t_now u8 t_fresh t_colour t_table t_last t_one) rfl rfl rfl rfl rfl rfl (fun H locs hP hD hS => ?_)
  refine lv_aload_n hx hb dX9_writeFirst_24 rfl (lv_at hl 0 rfl) ?_
  refine lv_aload_n hx hb dX9_writeFirst_25 rfl (lv_at hl 0 rfl) ?_
  refine va_get (D := D) (ci := 8) (v := .int t_high) (C := RX9) (T := TX9) (N := 15) hx hb hts iX9_writeFirst_X9 hown hK hP 0 rfl rfl 1 (by decide) (kX9_writeFirst_13 hts) (fun _ h9 => h9) rfl dX9_writeFirst_26 ?_
  obtain ⟨u10, u11, hc12, hf⟩ := zb2_in hf
  refine zc_v (va_runV (As := [.int t_high]) (rest := []) C (mX9_big l D cI H.size h_t h_t_now h_t_file h_t_fresh h_t_colour h_t_table h_t_last h_t_one t_wide t_high u7 t_at t_fault t_newWide t_newHigh t_colours t_now u8 t_fresh t_colour t_table t_last t_one t_high u10 u11 hc12) (qX9_writeFirst_X9_big_75 hts) ⟨zP_blind, va_recv hK hP (ci := 8) (q0 := 0) rfl rfl, zpre hK hN hP hD [0, 1, 2, 3, 4, 5, 6, 7] rfl rfl⟩ rfl rfl hl.1 rfl (lv_room (Nat.le_of_ble_eq_true rfl)) dX9_writeFirst_29 ⟨Nat.zero_le _, Nat.zero_le _⟩) hP hD hS hA [0, 1, 2, 3, 4, 5, 6, 7] [] [0, 1, 2, 3, 4, 5, 6, 7] (ws' := zwX9 cI h_t h_t_now h_t_file h_t_fresh h_t_colour h_t_table h_t_last h_t_one t_wide t_high u10 t_at t_fault t_newWide t_newHigh t_colours t_now u11 t_fresh t_colour t_table t_last t_one) rfl rfl rfl rfl rfl rfl (fun H locs hP hD hS => ?_)
  refine lv_aload_n hx hb dX9_writeFirst_32 rfl (lv_at hl 0 rfl) ?_
  refine lv_aload_n hx hb dX9_writeFirst_33 rfl (lv_at hl 0 rfl) ?_
  obtain ⟨r13, hc14, hf⟩ := zb1_in hf
  refine zc_i (va_runV (As := []) (rest := [.ref h_t]) C (mX9_opaque l D cI H.size h_t h_t_now h_t_file h_t_fresh h_t_colour h_t_table h_t_last h_t_one t_wide t_high u10 t_at t_fault t_newWide t_newHigh t_colours t_now u11 t_fresh t_colour t_table t_last t_one r13 hc14) (qX9_writeFirst_X9_opaque_53 hts) ⟨zP_blind, va_recv hK hP (ci := 8) (q0 := 0) rfl rfl, zpre hK hN hP hD [0, 1, 2, 3, 4, 5, 6, 7] rfl rfl⟩ rfl rfl hl.1 rfl (lv_room (Nat.le_of_ble_eq_true rfl)) dX9_writeFirst_34 ⟨Nat.zero_le _, Nat.zero_le _⟩) hP hD hS hA [0, 1, 2, 3, 4, 5, 6, 7] [] [0, 1, 2, 3, 4, 5, 6, 7] (ws' := zwX9 cI h_t h_t_now h_t_file h_t_fresh h_t_colour h_t_table h_t_last h_t_one t_wide t_high u10 t_at t_fault t_newWide t_newHigh t_colours t_now u11 t_fresh t_colour t_table t_last t_one) rfl rfl rfl rfl rfl rfl (fun H locs hP hD hS => ?_)
  refine lv_if_eq (tgt := 44) hx hb dX9_writeFirst_37 (by decide) (fun c15 => ?_) (fun c15 => ?_)
  · replace hf := zif_t hf c15
    refine lv_iconst (v := 4) hx hb dX9_writeFirst_44 (by decide) ?_
    exact wX9_writeFirst_45 C hN hK hA hE hf hP hD hS (lv_sub hl [0] rfl)
  · replace hf := zif_f hf c15
    refine lv_iconst (v := 3) hx hb dX9_writeFirst_40 (by decide) ?_
    refine lv_goto (tgt := 45) hx hb dX9_writeFirst_41 (by decide) ?_
    exact wX9_writeFirst_45 C hN hK hA hE hf hP hD hS (lv_sub hl [0] rfl)
set_option maxHeartbeats 4000000 in
set_option maxRecDepth 100000 in
theorem mX9_writeFirst (l : Launch) (D : va_G) (cI : ClassId) (sz : Nat) (h_t h_t_now h_t_file h_t_fresh h_t_colour h_t_table h_t_last h_t_one : Nat) (t_wide : Int32) (t_high : Int32) (t_size : Int32) (t_at : Int32) (t_fault : Int32) (t_newWide : Int32) (t_newHigh : Int32) (t_colours : Int32) (t_now : Nat → Int32) (t_file : Nat → Int32) (t_fresh : Nat → Int32) (t_colour : Nat → Int32) (t_table : Nat → Int32) (t_last : Nat → Int32) (t_one : Nat → Int32) (zt_size : Int32) (zt_file : Nat → Int32) (zt_table : Nat → Int32) (zt_last : Nat → Int32) (hf : fX9_writeFirst t_wide t_high t_size t_now t_file t_table t_last = some (zt_size, zt_file, zt_table, zt_last)) : Met l yX9_writeFirst wsX9_writeFirst rmX9_writeFirst (va_Pc [.ref h_t] (zP D [(cI, .int)] (zwX9 cI h_t h_t_now h_t_file h_t_fresh h_t_colour h_t_table h_t_last h_t_one t_wide t_high t_size t_at t_fault t_newWide t_newHigh t_colours t_now t_file t_fresh t_colour t_table t_last t_one) sz)) (zQv D (zwX9 cI h_t h_t_now h_t_file h_t_fresh h_t_colour h_t_table h_t_last h_t_one t_wide t_high t_size t_at t_fault t_newWide t_newHigh t_colours t_now t_file t_fresh t_colour t_table t_last t_one) sz (zwX9 cI h_t h_t_now h_t_file h_t_fresh h_t_colour h_t_table h_t_last h_t_one t_wide t_high zt_size t_at t_fault t_newWide t_newHigh t_colours t_now zt_file t_fresh t_colour zt_table zt_last t_one)) 0 0 (va_A (zwX9 cI h_t h_t_now h_t_file h_t_fresh h_t_colour h_t_table h_t_last h_t_one t_wide t_high t_size t_at t_fault t_newWide t_newHigh t_colours t_now t_file t_fresh t_colour t_table t_last t_one) sz) := by
  refine Met.ofW (cc := cX9_writeFirst) (maxL := 8) (ret := none) (by decide) rfl ?_
  intro p e s m args below meth c s₁ B hml hv
  obtain ⟨rfl, hsz, hP, hK, hD0, hN⟩ := hv
  subst hsz
  have C : CallFix p m c cX9_writeFirst 8 s [.ref h_t].toArray wsX9_writeFirst RX9 := ⟨B.exec, B.bytes, hml, findClass_of_methodNamed B.named, atoms_spec (ws := wsX9_writeFirst) B.pre⟩
  have hl := lv_entry ([.ref h_t]) (n := 8) (Nat.le_of_ble_eq_true rfl)
  rw [lg_entry_eq]
  exact wX9_writeFirst_0 (A := va_A (zwX9 cI h_t h_t_now h_t_file h_t_fresh h_t_colour h_t_table h_t_last h_t_one t_wide t_high t_size t_at t_fault t_newWide t_newHigh t_colours t_now t_file t_fresh t_colour t_table t_last t_one) s.heap.size) C hN hK (fun q h => Or.inr h) (fun H locs pc ls d hP hD hS => zend_v C.1 C.2.1 B.returns B.notSynchronized d hP hD hS) hf hP hD0.self va_S.rf hl
def rmX9_digits : Room := { frames := 1, cells := 0, slots := 0, locals := 21 }
theorem qX9_digits_X9_add_63 {args : Array Value} {s : State} (hts : ∀ w ∈ wsX9_digits, w.before args s = true) : CallW rmX9_digits s args RX9 RX9 63 yX9_add cX9_add 2 none wsX9_add rmX9_add 0 0 1 := cwV 1 hts gX9_digits_X9_add rfl rfl rfl (by decide +kernel) ⟨Nat.le_of_ble_eq_true rfl, Nat.le_of_ble_eq_true rfl⟩
set_option maxHeartbeats 4000000 in
set_option maxRecDepth 100000 in
theorem wX9_digits_37 {p : Program} {l : Launch} {e : Env} {s : State} {m : MethodId} {args : Array Value} {below : List Frame} {meth : Method} {c : Code} {D : va_G} {A : Nat → Prop} {Q : State → Prop} {cI : ClassId} {h_t h_t_now h_t_file h_t_fresh h_t_colour h_t_table h_t_last h_t_one : Nat} {t_wide : Int32} {t_high : Int32} {t_at : Int32} {t_fault : Int32} {t_newWide : Int32} {t_newHigh : Int32} {t_colours : Int32} {t_now : Nat → Int32} {t_fresh : Nat → Int32} {t_colour : Nat → Int32} {t_table : Nat → Int32} {t_last : Nat → Int32} {t_one : Nat → Int32} {zt_size : Int32} {zt_file : Nat → Int32} (C : CallFix p m c cX9_digits 2 s args wsX9_digits RX9) (hN : zN s) (hK : va_K D vwCl [(cI, .int)] s) (hA : ∀ q, s.heap.size ≤ q → A q) (hE : zEv p l e rmX9_digits s m args below meth c cX9_digits D A Q (zwX9 cI h_t h_t_now h_t_file h_t_fresh h_t_colour h_t_table h_t_last h_t_one t_wide t_high zt_size t_at t_fault t_newWide t_newHigh t_colours t_now zt_file t_fresh t_colour t_table t_last t_one)) {t_size : Int32} {t_file : Nat → Int32} {l1 : Int32} {H : Heap} {locs : List Loc} {ls : Array Slot} : fX9_digits_37 t_size t_file l1 = some (zt_size, zt_file) → va_P D vwCl (zwX9 cI h_t h_t_now h_t_file h_t_fresh h_t_colour h_t_table h_t_last h_t_one t_wide t_high t_size t_at t_fault t_newWide t_newHigh t_colours t_now t_file t_fresh t_colour t_table t_last t_one) H → va_D A (zwX9 cI h_t h_t_now h_t_file h_t_fresh h_t_colour h_t_table h_t_last h_t_one t_wide t_high t_size t_at t_fault t_newWide t_newHigh t_colours t_now t_file t_fresh t_colour t_table t_last t_one) → va_S A s.heap H locs → lv_has ls 2 [(0, .ref h_t), (1, .int l1)] → W p l e rmX9_digits s m args below meth c H locs 0 0 Q (F0 m 37 ls []) := by
  intro hf hP hD hS hl
  obtain ⟨hx, hb, hml, hown, hts⟩ := id C
  unfold fX9_digits_37 at hf
  refine lv_aload_n hx hb dX9_digits_37 rfl (lv_at hl 0 rfl) ?_
  refine lv_bipush (v := 48) hx hb dX9_digits_38 (by decide) ?_
  refine lv_iload_n hx hb dX9_digits_40 rfl (lv_at hl 1 rfl) ?_
  refine lv_bipush (v := 10) hx hb dX9_digits_41 (by decide) ?_
  refine lv_irem hx hb dX9_digits_43 (by decide) ?_
  refine lv_iadd hx hb dX9_digits_44 ?_
  obtain ⟨u1, u2, hc3, hf⟩ := zb2_in hf
  refine zc_v (va_runV (As := [.int (48 + (zrem l1 10))]) (rest := []) C (mX9_add l D cI H.size h_t h_t_now h_t_file h_t_fresh h_t_colour h_t_table h_t_last h_t_one t_wide t_high t_size t_at t_fault t_newWide t_newHigh t_colours t_now t_file t_fresh t_colour t_table t_last t_one (48 + (zrem l1 10)) u1 u2 hc3) (qX9_digits_X9_add_63 hts) ⟨zP_blind, va_recv hK hP (ci := 8) (q0 := 0) rfl rfl, zpre hK hN hP hD [0, 1, 2, 3, 4, 5, 6, 7] rfl rfl⟩ rfl rfl hl.1 rfl (lv_room (Nat.le_of_ble_eq_true rfl)) dX9_digits_45 ⟨Nat.zero_le _, Nat.zero_le _⟩) hP hD hS hA [0, 1, 2, 3, 4, 5, 6, 7] [] [0, 1, 2, 3, 4, 5, 6, 7] (ws' := zwX9 cI h_t h_t_now h_t_file h_t_fresh h_t_colour h_t_table h_t_last h_t_one t_wide t_high u1 t_at t_fault t_newWide t_newHigh t_colours t_now u2 t_fresh t_colour t_table t_last t_one) rfl rfl rfl rfl rfl rfl (fun H locs hP hD hS => ?_)
  cases hf
  exact hE _ _ _ _ dX9_digits_48 hP hD hS
set_option maxHeartbeats 4000000 in
set_option maxRecDepth 100000 in
theorem wX9_digits_17 {p : Program} {l : Launch} {e : Env} {s : State} {m : MethodId} {args : Array Value} {below : List Frame} {meth : Method} {c : Code} {D : va_G} {A : Nat → Prop} {Q : State → Prop} {cI : ClassId} {h_t h_t_now h_t_file h_t_fresh h_t_colour h_t_table h_t_last h_t_one : Nat} {t_wide : Int32} {t_high : Int32} {t_at : Int32} {t_fault : Int32} {t_newWide : Int32} {t_newHigh : Int32} {t_colours : Int32} {t_now : Nat → Int32} {t_fresh : Nat → Int32} {t_colour : Nat → Int32} {t_table : Nat → Int32} {t_last : Nat → Int32} {t_one : Nat → Int32} {zt_size : Int32} {zt_file : Nat → Int32} (C : CallFix p m c cX9_digits 2 s args wsX9_digits RX9) (hN : zN s) (hK : va_K D vwCl [(cI, .int)] s) (hA : ∀ q, s.heap.size ≤ q → A q) (hE : zEv p l e rmX9_digits s m args below meth c cX9_digits D A Q (zwX9 cI h_t h_t_now h_t_file h_t_fresh h_t_colour h_t_table h_t_last h_t_one t_wide t_high zt_size t_at t_fault t_newWide t_newHigh t_colours t_now zt_file t_fresh t_colour t_table t_last t_one)) {t_size : Int32} {t_file : Nat → Int32} {l1 : Int32} {H : Heap} {locs : List Loc} {ls : Array Slot} : fX9_digits_17 t_size t_file l1 = some (zt_size, zt_file) → va_P D vwCl (zwX9 cI h_t h_t_now h_t_file h_t_fresh h_t_colour h_t_table h_t_last h_t_one t_wide t_high t_size t_at t_fault t_newWide t_newHigh t_colours t_now t_file t_fresh t_colour t_table t_last t_one) H → va_D A (zwX9 cI h_t h_t_now h_t_file h_t_fresh h_t_colour h_t_table h_t_last h_t_one t_wide t_high t_size t_at t_fault t_newWide t_newHigh t_colours t_now t_file t_fresh t_colour t_table t_last t_one) → va_S A s.heap H locs → lv_has ls 2 [(0, .ref h_t), (1, .int l1)] → W p l e rmX9_digits s m args below meth c H locs 0 0 Q (F0 m 17 ls []) := by
  intro hf hP hD hS hl
  obtain ⟨hx, hb, hml, hown, hts⟩ := id C
  unfold fX9_digits_17 at hf
  refine lv_iload_n hx hb dX9_digits_17 rfl (lv_at hl 1 rfl) ?_
  refine lv_bipush (v := 9) hx hb dX9_digits_18 (by decide) ?_
  refine lv_icmp_le (tgt := 37) hx hb dX9_digits_20 (by decide) (fun c1 => ?_) (fun c1 => ?_)
  · replace hf := zif_t hf c1
    exact wX9_digits_37 C hN hK hA hE hf hP hD hS (lv_sub hl [0, 1] rfl)
  · replace hf := zif_f hf c1
    refine lv_aload_n hx hb dX9_digits_23 rfl (lv_at hl 0 rfl) ?_
    refine lv_bipush (v := 48) hx hb dX9_digits_24 (by decide) ?_
    refine lv_iload_n hx hb dX9_digits_26 rfl (lv_at hl 1 rfl) ?_
    refine lv_bipush (v := 10) hx hb dX9_digits_27 (by decide) ?_
    refine lv_idiv hx hb dX9_digits_29 (by decide) ?_
    refine lv_bipush (v := 10) hx hb dX9_digits_30 (by decide) ?_
    refine lv_irem hx hb dX9_digits_32 (by decide) ?_
    refine lv_iadd hx hb dX9_digits_33 ?_
    obtain ⟨u2, u3, hc4, hf⟩ := zb2_in hf
    refine zc_v (va_runV (As := [.int (48 + (zrem (l1 / 10) 10))]) (rest := []) C (mX9_add l D cI H.size h_t h_t_now h_t_file h_t_fresh h_t_colour h_t_table h_t_last h_t_one t_wide t_high t_size t_at t_fault t_newWide t_newHigh t_colours t_now t_file t_fresh t_colour t_table t_last t_one (48 + (zrem (l1 / 10) 10)) u2 u3 hc4) (qX9_digits_X9_add_63 hts) ⟨zP_blind, va_recv hK hP (ci := 8) (q0 := 0) rfl rfl, zpre hK hN hP hD [0, 1, 2, 3, 4, 5, 6, 7] rfl rfl⟩ rfl rfl hl.1 rfl (lv_room (Nat.le_of_ble_eq_true rfl)) dX9_digits_34 ⟨Nat.zero_le _, Nat.zero_le _⟩) hP hD hS hA [0, 1, 2, 3, 4, 5, 6, 7] [] [0, 1, 2, 3, 4, 5, 6, 7] (ws' := zwX9 cI h_t h_t_now h_t_file h_t_fresh h_t_colour h_t_table h_t_last h_t_one t_wide t_high u2 t_at t_fault t_newWide t_newHigh t_colours t_now u3 t_fresh t_colour t_table t_last t_one) rfl rfl rfl rfl rfl rfl (fun H locs hP hD hS => ?_)
    exact wX9_digits_37 C hN hK hA hE hf hP hD hS (lv_sub hl [0, 1] rfl)
set_option maxHeartbeats 4000000 in
set_option maxRecDepth 100000 in
theorem wX9_digits_0 {p : Program} {l : Launch} {e : Env} {s : State} {m : MethodId} {args : Array Value} {below : List Frame} {meth : Method} {c : Code} {D : va_G} {A : Nat → Prop} {Q : State → Prop} {cI : ClassId} {h_t h_t_now h_t_file h_t_fresh h_t_colour h_t_table h_t_last h_t_one : Nat} {t_wide : Int32} {t_high : Int32} {t_at : Int32} {t_fault : Int32} {t_newWide : Int32} {t_newHigh : Int32} {t_colours : Int32} {t_now : Nat → Int32} {t_fresh : Nat → Int32} {t_colour : Nat → Int32} {t_table : Nat → Int32} {t_last : Nat → Int32} {t_one : Nat → Int32} {zt_size : Int32} {zt_file : Nat → Int32} (C : CallFix p m c cX9_digits 2 s args wsX9_digits RX9) (hN : zN s) (hK : va_K D vwCl [(cI, .int)] s) (hA : ∀ q, s.heap.size ≤ q → A q) (hE : zEv p l e rmX9_digits s m args below meth c cX9_digits D A Q (zwX9 cI h_t h_t_now h_t_file h_t_fresh h_t_colour h_t_table h_t_last h_t_one t_wide t_high zt_size t_at t_fault t_newWide t_newHigh t_colours t_now zt_file t_fresh t_colour t_table t_last t_one)) {t_size : Int32} {t_file : Nat → Int32} {v0 : Int32} {H : Heap} {locs : List Loc} {ls : Array Slot} : fX9_digits t_size t_file v0 = some (zt_size, zt_file) → va_P D vwCl (zwX9 cI h_t h_t_now h_t_file h_t_fresh h_t_colour h_t_table h_t_last h_t_one t_wide t_high t_size t_at t_fault t_newWide t_newHigh t_colours t_now t_file t_fresh t_colour t_table t_last t_one) H → va_D A (zwX9 cI h_t h_t_now h_t_file h_t_fresh h_t_colour h_t_table h_t_last h_t_one t_wide t_high t_size t_at t_fault t_newWide t_newHigh t_colours t_now t_file t_fresh t_colour t_table t_last t_one) → va_S A s.heap H locs → lv_has ls 2 [(0, .ref h_t), (1, .int v0)] → W p l e rmX9_digits s m args below meth c H locs 0 0 Q (F0 m 0 ls []) := by
  intro hf hP hD hS hl
  obtain ⟨hx, hb, hml, hown, hts⟩ := id C
  unfold fX9_digits at hf
  refine lv_iload_n hx hb dX9_digits_0 rfl (lv_at hl 1 rfl) ?_
  refine lv_bipush (v := 99) hx hb dX9_digits_1 (by decide) ?_
  refine lv_icmp_le (tgt := 17) hx hb dX9_digits_3 (by decide) (fun c1 => ?_) (fun c1 => ?_)
  · replace hf := zif_t hf c1
    exact wX9_digits_17 C hN hK hA hE hf hP hD hS (lv_sub hl [0, 1] rfl)
  · replace hf := zif_f hf c1
    refine lv_aload_n hx hb dX9_digits_6 rfl (lv_at hl 0 rfl) ?_
    refine lv_bipush (v := 48) hx hb dX9_digits_7 (by decide) ?_
    refine lv_iload_n hx hb dX9_digits_9 rfl (lv_at hl 1 rfl) ?_
    refine lv_bipush (v := 100) hx hb dX9_digits_10 (by decide) ?_
    refine lv_idiv hx hb dX9_digits_12 (by decide) ?_
    refine lv_iadd hx hb dX9_digits_13 ?_
    obtain ⟨u2, u3, hc4, hf⟩ := zb2_in hf
    refine zc_v (va_runV (As := [.int (48 + (v0 / 100))]) (rest := []) C (mX9_add l D cI H.size h_t h_t_now h_t_file h_t_fresh h_t_colour h_t_table h_t_last h_t_one t_wide t_high t_size t_at t_fault t_newWide t_newHigh t_colours t_now t_file t_fresh t_colour t_table t_last t_one (48 + (v0 / 100)) u2 u3 hc4) (qX9_digits_X9_add_63 hts) ⟨zP_blind, va_recv hK hP (ci := 8) (q0 := 0) rfl rfl, zpre hK hN hP hD [0, 1, 2, 3, 4, 5, 6, 7] rfl rfl⟩ rfl rfl hl.1 rfl (lv_room (Nat.le_of_ble_eq_true rfl)) dX9_digits_14 ⟨Nat.zero_le _, Nat.zero_le _⟩) hP hD hS hA [0, 1, 2, 3, 4, 5, 6, 7] [] [0, 1, 2, 3, 4, 5, 6, 7] (ws' := zwX9 cI h_t h_t_now h_t_file h_t_fresh h_t_colour h_t_table h_t_last h_t_one t_wide t_high u2 t_at t_fault t_newWide t_newHigh t_colours t_now u3 t_fresh t_colour t_table t_last t_one) rfl rfl rfl rfl rfl rfl (fun H locs hP hD hS => ?_)
    exact wX9_digits_17 C hN hK hA hE hf hP hD hS (lv_sub hl [0, 1] rfl)
set_option maxHeartbeats 4000000 in
set_option maxRecDepth 100000 in
theorem mX9_digits (l : Launch) (D : va_G) (cI : ClassId) (sz : Nat) (h_t h_t_now h_t_file h_t_fresh h_t_colour h_t_table h_t_last h_t_one : Nat) (t_wide : Int32) (t_high : Int32) (t_size : Int32) (t_at : Int32) (t_fault : Int32) (t_newWide : Int32) (t_newHigh : Int32) (t_colours : Int32) (t_now : Nat → Int32) (t_file : Nat → Int32) (t_fresh : Nat → Int32) (t_colour : Nat → Int32) (t_table : Nat → Int32) (t_last : Nat → Int32) (t_one : Nat → Int32) (v0 : Int32) (zt_size : Int32) (zt_file : Nat → Int32) (hf : fX9_digits t_size t_file v0 = some (zt_size, zt_file)) : Met l yX9_digits wsX9_digits rmX9_digits (va_Pc [.ref h_t, .int v0] (zP D [(cI, .int)] (zwX9 cI h_t h_t_now h_t_file h_t_fresh h_t_colour h_t_table h_t_last h_t_one t_wide t_high t_size t_at t_fault t_newWide t_newHigh t_colours t_now t_file t_fresh t_colour t_table t_last t_one) sz)) (zQv D (zwX9 cI h_t h_t_now h_t_file h_t_fresh h_t_colour h_t_table h_t_last h_t_one t_wide t_high t_size t_at t_fault t_newWide t_newHigh t_colours t_now t_file t_fresh t_colour t_table t_last t_one) sz (zwX9 cI h_t h_t_now h_t_file h_t_fresh h_t_colour h_t_table h_t_last h_t_one t_wide t_high zt_size t_at t_fault t_newWide t_newHigh t_colours t_now zt_file t_fresh t_colour t_table t_last t_one)) 0 0 (va_A (zwX9 cI h_t h_t_now h_t_file h_t_fresh h_t_colour h_t_table h_t_last h_t_one t_wide t_high t_size t_at t_fault t_newWide t_newHigh t_colours t_now t_file t_fresh t_colour t_table t_last t_one) sz) := by
  refine Met.ofW (cc := cX9_digits) (maxL := 2) (ret := none) (by decide) rfl ?_
  intro p e s m args below meth c s₁ B hml hv
  obtain ⟨rfl, hsz, hP, hK, hD0, hN⟩ := hv
  subst hsz
  have C : CallFix p m c cX9_digits 2 s [.ref h_t, .int v0].toArray wsX9_digits RX9 := ⟨B.exec, B.bytes, hml, findClass_of_methodNamed B.named, atoms_spec (ws := wsX9_digits) B.pre⟩
  have hl := lv_entry ([.ref h_t, .int v0]) (n := 2) (Nat.le_of_ble_eq_true rfl)
  rw [lg_entry_eq]
  exact wX9_digits_0 (A := va_A (zwX9 cI h_t h_t_now h_t_file h_t_fresh h_t_colour h_t_table h_t_last h_t_one t_wide t_high t_size t_at t_fault t_newWide t_newHigh t_colours t_now t_file t_fresh t_colour t_table t_last t_one) s.heap.size) C hN hK (fun q h => Or.inr h) (fun H locs pc ls d hP hD hS => zend_v C.1 C.2.1 B.returns B.notSynchronized d hP hD hS) hf hP hD0.self va_S.rf hl
def rmX9_writeSecond : Room := { frames := 3, cells := 0, slots := 0, locals := 66 }
theorem kX9_writeSecond_7 {args : Array Value} {s : State} (h : ∀ w ∈ wsX9_writeSecond, w.before args s = true) : (Cond.fieldLink RX9 7 "FourPictureFilesModel" "wide" "I").before args s = true := h _ (by decide +kernel)
theorem kX9_writeSecond_13 {args : Array Value} {s : State} (h : ∀ w ∈ wsX9_writeSecond, w.before args s = true) : (Cond.fieldLink RX9 13 "FourPictureFilesModel" "high" "I").before args s = true := h _ (by decide +kernel)
theorem iX9_writeSecond_X9 : ∀ w ∈ u_ws RX9 TX9 15, w ∈ wsX9_writeSecond := by decide +kernel
theorem qX9_writeSecond_X9_add_63 {args : Array Value} {s : State} (hts : ∀ w ∈ wsX9_writeSecond, w.before args s = true) : CallW rmX9_writeSecond s args RX9 RX9 63 yX9_add cX9_add 2 none wsX9_add rmX9_add 0 0 1 := cwV 1 hts gX9_writeSecond_X9_add rfl rfl rfl (by decide +kernel) ⟨Nat.le_of_ble_eq_true rfl, Nat.le_of_ble_eq_true rfl⟩
theorem qX9_writeSecond_X9_addTwo_71 {args : Array Value} {s : State} (hts : ∀ w ∈ wsX9_writeSecond, w.before args s = true) : CallW rmX9_writeSecond s args RX9 RX9 71 yX9_addTwo cX9_addTwo 3 none wsX9_addTwo rmX9_addTwo 0 0 2 := cwV 2 hts gX9_writeSecond_X9_addTwo rfl rfl rfl (by decide +kernel) ⟨Nat.le_of_ble_eq_true rfl, Nat.le_of_ble_eq_true rfl⟩
theorem qX9_writeSecond_X9_channel_49 {args : Array Value} {s : State} (hts : ∀ w ∈ wsX9_writeSecond, w.before args s = true) : CallW rmX9_writeSecond s args RX9 RX9 49 yX9_channel cX9_channel 3 (some .int) wsX9_channel rmX9_channel 0 0 2 := cwV 2 hts gX9_writeSecond_X9_channel rfl rfl rfl (by decide +kernel) ⟨Nat.le_of_ble_eq_true rfl, Nat.le_of_ble_eq_true rfl⟩
theorem qX9_writeSecond_X9_digits_91 {args : Array Value} {s : State} (hts : ∀ w ∈ wsX9_writeSecond, w.before args s = true) : CallW rmX9_writeSecond s args RX9 RX9 91 yX9_digits cX9_digits 2 none wsX9_digits rmX9_digits 0 0 1 := cwV 1 hts gX9_writeSecond_X9_digits rfl rfl rfl (by decide +kernel) ⟨Nat.le_of_ble_eq_true rfl, Nat.le_of_ble_eq_true rfl⟩
theorem qX9_writeSecond_X9_grey_88 {args : Array Value} {s : State} (hts : ∀ w ∈ wsX9_writeSecond, w.before args s = true) : CallW rmX9_writeSecond s args RX9 RX9 88 yX9_grey cX9_grey 3 (some .boolean) wsX9_grey rmX9_grey 0 0 0 := cwV 0 hts gX9_writeSecond_X9_grey rfl rfl rfl (by decide +kernel) ⟨Nat.le_of_ble_eq_true rfl, Nat.le_of_ble_eq_true rfl⟩
set_option maxHeartbeats 4000000 in
set_option maxRecDepth 100000 in
theorem wX9_writeSecond_187 {p : Program} {l : Launch} {e : Env} {s : State} {m : MethodId} {args : Array Value} {below : List Frame} {meth : Method} {c : Code} {D : va_G} {A : Nat → Prop} {Q : State → Prop} {cI : ClassId} {h_t h_t_now h_t_file h_t_fresh h_t_colour h_t_table h_t_last h_t_one : Nat} {t_wide : Int32} {t_high : Int32} {t_at : Int32} {t_fault : Int32} {t_newWide : Int32} {t_newHigh : Int32} {t_colours : Int32} {t_now : Nat → Int32} {t_fresh : Nat → Int32} {t_colour : Nat → Int32} {t_table : Nat → Int32} {t_last : Nat → Int32} {t_one : Nat → Int32} {zt_size : Int32} {zt_file : Nat → Int32} (C : CallFix p m c cX9_writeSecond 6 s args wsX9_writeSecond RX9) (hN : zN s) (hK : va_K D vwCl [(cI, .int)] s) (hA : ∀ q, s.heap.size ≤ q → A q) (hE : zEv p l e rmX9_writeSecond s m args below meth c cX9_writeSecond D A Q (zwX9 cI h_t h_t_now h_t_file h_t_fresh h_t_colour h_t_table h_t_last h_t_one t_wide t_high zt_size t_at t_fault t_newWide t_newHigh t_colours t_now zt_file t_fresh t_colour t_table t_last t_one)) {rc90 : Int32 → Int32 → Int32 → (Nat → Int32) → (Nat → Int32) → Int32 → Int32 → Int32 → Option (Int32 × (Nat → Int32))} (hr_90 : ∀ {t_size : Int32} {t_file : Nat → Int32} {l1 : Int32} {l2 : Int32} {l3 : Int32} {H : Heap} {locs : List Loc} {ls : Array Slot}, rc90 t_wide t_high t_size t_now t_file l1 l2 l3 = some (zt_size, zt_file) → va_P D vwCl (zwX9 cI h_t h_t_now h_t_file h_t_fresh h_t_colour h_t_table h_t_last h_t_one t_wide t_high t_size t_at t_fault t_newWide t_newHigh t_colours t_now t_file t_fresh t_colour t_table t_last t_one) H → va_D A (zwX9 cI h_t h_t_now h_t_file h_t_fresh h_t_colour h_t_table h_t_last h_t_one t_wide t_high t_size t_at t_fault t_newWide t_newHigh t_colours t_now t_file t_fresh t_colour t_table t_last t_one) → va_S A s.heap H locs → lv_has ls 6 [(0, .ref h_t), (1, .int l1), (2, .int l2), (3, .int l3)] → W p l e rmX9_writeSecond s m args below meth c H locs 0 0 Q (F0 m 90 ls [])) {rc106 : Int32 → Int32 → Int32 → (Nat → Int32) → (Nat → Int32) → Int32 → Int32 → Int32 → Int32 → Option (Int32 × (Nat → Int32))} (hr_106 : ∀ {t_size : Int32} {t_file : Nat → Int32} {l1 : Int32} {l2 : Int32} {l3 : Int32} {l4 : Int32} {H : Heap} {locs : List Loc} {ls : Array Slot}, rc106 t_wide t_high t_size t_now t_file l1 l2 l3 l4 = some (zt_size, zt_file) → va_P D vwCl (zwX9 cI h_t h_t_now h_t_file h_t_fresh h_t_colour h_t_table h_t_last h_t_one t_wide t_high t_size t_at t_fault t_newWide t_newHigh t_colours t_now t_file t_fresh t_colour t_table t_last t_one) H → va_D A (zwX9 cI h_t h_t_now h_t_file h_t_fresh h_t_colour h_t_table h_t_last h_t_one t_wide t_high t_size t_at t_fault t_newWide t_newHigh t_colours t_now t_file t_fresh t_colour t_table t_last t_one) → va_S A s.heap H locs → lv_has ls 6 [(0, .ref h_t), (1, .int l1), (2, .int l2), (3, .int l3), (4, .int l4)] → W p l e rmX9_writeSecond s m args below meth c H locs 0 0 Q (F0 m 106 ls [])) {t_size : Int32} {t_file : Nat → Int32} {l1 : Int32} {l2 : Int32} {l3 : Int32} {l4 : Int32} {H : Heap} {locs : List Loc} {ls : Array Slot} : fX9_writeSecond_187 rc90 rc106 t_wide t_high t_size t_now t_file l1 l2 l3 l4 = some (zt_size, zt_file) → va_P D vwCl (zwX9 cI h_t h_t_now h_t_file h_t_fresh h_t_colour h_t_table h_t_last h_t_one t_wide t_high t_size t_at t_fault t_newWide t_newHigh t_colours t_now t_file t_fresh t_colour t_table t_last t_one) H → va_D A (zwX9 cI h_t h_t_now h_t_file h_t_fresh h_t_colour h_t_table h_t_last h_t_one t_wide t_high t_size t_at t_fault t_newWide t_newHigh t_colours t_now t_file t_fresh t_colour t_table t_last t_one) → va_S A s.heap H locs → lv_has ls 6 [(0, .ref h_t), (1, .int l1), (2, .int l2), (3, .int l3), (4, .int l4)] → W p l e rmX9_writeSecond s m args below meth c H locs 0 0 Q (F0 m 187 ls []) := by
  intro hf hP hD hS hl
  obtain ⟨hx, hb, hml, hown, hts⟩ := id C
  unfold fX9_writeSecond_187 at hf
  obtain ⟨x1, ex1⟩ : ∃ y : Int32, y = l4 + 1 := ⟨_, rfl⟩
  replace hf := zlet_in hf ex1
  refine lv_iinc (v := x1) (lv' := [(4, .int x1), (0, .ref h_t), (1, .int l1), (2, .int l2), (3, .int l3)]) hx hb dX9_writeSecond_187 hl (k := 4) rfl (by rw [ex1]; rfl) (by decide) rfl (fun ls hl => ?_)
  clear ex1
  refine lv_goto (tgt := 106) hx hb dX9_writeSecond_190 (by decide) ?_
  exact hr_106 hf hP hD hS (lv_sub hl [1, 2, 3, 4, 0] rfl)
set_option maxHeartbeats 4000000 in
set_option maxRecDepth 100000 in
theorem wX9_writeSecond_170 {p : Program} {l : Launch} {e : Env} {s : State} {m : MethodId} {args : Array Value} {below : List Frame} {meth : Method} {c : Code} {D : va_G} {A : Nat → Prop} {Q : State → Prop} {cI : ClassId} {h_t h_t_now h_t_file h_t_fresh h_t_colour h_t_table h_t_last h_t_one : Nat} {t_wide : Int32} {t_high : Int32} {t_at : Int32} {t_fault : Int32} {t_newWide : Int32} {t_newHigh : Int32} {t_colours : Int32} {t_now : Nat → Int32} {t_fresh : Nat → Int32} {t_colour : Nat → Int32} {t_table : Nat → Int32} {t_last : Nat → Int32} {t_one : Nat → Int32} {zt_size : Int32} {zt_file : Nat → Int32} (C : CallFix p m c cX9_writeSecond 6 s args wsX9_writeSecond RX9) (hN : zN s) (hK : va_K D vwCl [(cI, .int)] s) (hA : ∀ q, s.heap.size ≤ q → A q) (hE : zEv p l e rmX9_writeSecond s m args below meth c cX9_writeSecond D A Q (zwX9 cI h_t h_t_now h_t_file h_t_fresh h_t_colour h_t_table h_t_last h_t_one t_wide t_high zt_size t_at t_fault t_newWide t_newHigh t_colours t_now zt_file t_fresh t_colour t_table t_last t_one)) {rc90 : Int32 → Int32 → Int32 → (Nat → Int32) → (Nat → Int32) → Int32 → Int32 → Int32 → Option (Int32 × (Nat → Int32))} (hr_90 : ∀ {t_size : Int32} {t_file : Nat → Int32} {l1 : Int32} {l2 : Int32} {l3 : Int32} {H : Heap} {locs : List Loc} {ls : Array Slot}, rc90 t_wide t_high t_size t_now t_file l1 l2 l3 = some (zt_size, zt_file) → va_P D vwCl (zwX9 cI h_t h_t_now h_t_file h_t_fresh h_t_colour h_t_table h_t_last h_t_one t_wide t_high t_size t_at t_fault t_newWide t_newHigh t_colours t_now t_file t_fresh t_colour t_table t_last t_one) H → va_D A (zwX9 cI h_t h_t_now h_t_file h_t_fresh h_t_colour h_t_table h_t_last h_t_one t_wide t_high t_size t_at t_fault t_newWide t_newHigh t_colours t_now t_file t_fresh t_colour t_table t_last t_one) → va_S A s.heap H locs → lv_has ls 6 [(0, .ref h_t), (1, .int l1), (2, .int l2), (3, .int l3)] → W p l e rmX9_writeSecond s m args below meth c H locs 0 0 Q (F0 m 90 ls [])) {rc106 : Int32 → Int32 → Int32 → (Nat → Int32) → (Nat → Int32) → Int32 → Int32 → Int32 → Int32 → Option (Int32 × (Nat → Int32))} (hr_106 : ∀ {t_size : Int32} {t_file : Nat → Int32} {l1 : Int32} {l2 : Int32} {l3 : Int32} {l4 : Int32} {H : Heap} {locs : List Loc} {ls : Array Slot}, rc106 t_wide t_high t_size t_now t_file l1 l2 l3 l4 = some (zt_size, zt_file) → va_P D vwCl (zwX9 cI h_t h_t_now h_t_file h_t_fresh h_t_colour h_t_table h_t_last h_t_one t_wide t_high t_size t_at t_fault t_newWide t_newHigh t_colours t_now t_file t_fresh t_colour t_table t_last t_one) H → va_D A (zwX9 cI h_t h_t_now h_t_file h_t_fresh h_t_colour h_t_table h_t_last h_t_one t_wide t_high t_size t_at t_fault t_newWide t_newHigh t_colours t_now t_file t_fresh t_colour t_table t_last t_one) → va_S A s.heap H locs → lv_has ls 6 [(0, .ref h_t), (1, .int l1), (2, .int l2), (3, .int l3), (4, .int l4)] → W p l e rmX9_writeSecond s m args below meth c H locs 0 0 Q (F0 m 106 ls [])) {t_size : Int32} {t_file : Nat → Int32} {l1 : Int32} {l2 : Int32} {l3 : Int32} {l4 : Int32} {l5 : Int32} {k1 : Int32} {H : Heap} {locs : List Loc} {ls : Array Slot} : fX9_writeSecond_170 rc90 rc106 t_wide t_high t_size t_now t_file l1 l2 l3 l4 k1 = some (zt_size, zt_file) → va_P D vwCl (zwX9 cI h_t h_t_now h_t_file h_t_fresh h_t_colour h_t_table h_t_last h_t_one t_wide t_high t_size t_at t_fault t_newWide t_newHigh t_colours t_now t_file t_fresh t_colour t_table t_last t_one) H → va_D A (zwX9 cI h_t h_t_now h_t_file h_t_fresh h_t_colour h_t_table h_t_last h_t_one t_wide t_high t_size t_at t_fault t_newWide t_newHigh t_colours t_now t_file t_fresh t_colour t_table t_last t_one) → va_S A s.heap H locs → lv_has ls 6 [(0, .ref h_t), (1, .int l1), (2, .int l2), (3, .int l3), (4, .int l4), (5, .int l5)] → W p l e rmX9_writeSecond s m args below meth c H locs 0 0 Q (F0 m 170 ls [.int k1, .ref h_t]) := by
  intro hf hP hD hS hl
  obtain ⟨hx, hb, hml, hown, hts⟩ := id C
  unfold fX9_writeSecond_170 at hf
  obtain ⟨u1, u2, hc3, hf⟩ := zb2_in hf
  refine zc_v (va_runV (As := [.int k1]) (rest := []) C (mX9_add l D cI H.size h_t h_t_now h_t_file h_t_fresh h_t_colour h_t_table h_t_last h_t_one t_wide t_high t_size t_at t_fault t_newWide t_newHigh t_colours t_now t_file t_fresh t_colour t_table t_last t_one k1 u1 u2 hc3) (qX9_writeSecond_X9_add_63 hts) ⟨zP_blind, va_recv hK hP (ci := 8) (q0 := 0) rfl rfl, zpre hK hN hP hD [0, 1, 2, 3, 4, 5, 6, 7] rfl rfl⟩ rfl rfl hl.1 rfl (lv_room (Nat.le_of_ble_eq_true rfl)) dX9_writeSecond_170 ⟨Nat.zero_le _, Nat.zero_le _⟩) hP hD hS hA [0, 1, 2, 3, 4, 5, 6, 7] [] [0, 1, 2, 3, 4, 5, 6, 7] (ws' := zwX9 cI h_t h_t_now h_t_file h_t_fresh h_t_colour h_t_table h_t_last h_t_one t_wide t_high u1 t_at t_fault t_newWide t_newHigh t_colours t_now u2 t_fresh t_colour t_table t_last t_one) rfl rfl rfl rfl rfl rfl (fun H locs hP hD hS => ?_)
  refine lv_goto (tgt := 187) hx hb dX9_writeSecond_173 (by decide) ?_
  exact wX9_writeSecond_187 C hN hK hA hE hr_90 hr_106 hf hP hD hS (lv_sub hl [0, 1, 2, 3, 4] rfl)
set_option maxHeartbeats 4000000 in
set_option maxRecDepth 100000 in
theorem wX9_writeSecond_144 {p : Program} {l : Launch} {e : Env} {s : State} {m : MethodId} {args : Array Value} {below : List Frame} {meth : Method} {c : Code} {D : va_G} {A : Nat → Prop} {Q : State → Prop} {cI : ClassId} {h_t h_t_now h_t_file h_t_fresh h_t_colour h_t_table h_t_last h_t_one : Nat} {t_wide : Int32} {t_high : Int32} {t_at : Int32} {t_fault : Int32} {t_newWide : Int32} {t_newHigh : Int32} {t_colours : Int32} {t_now : Nat → Int32} {t_fresh : Nat → Int32} {t_colour : Nat → Int32} {t_table : Nat → Int32} {t_last : Nat → Int32} {t_one : Nat → Int32} {zt_size : Int32} {zt_file : Nat → Int32} (C : CallFix p m c cX9_writeSecond 6 s args wsX9_writeSecond RX9) (hN : zN s) (hK : va_K D vwCl [(cI, .int)] s) (hA : ∀ q, s.heap.size ≤ q → A q) (hE : zEv p l e rmX9_writeSecond s m args below meth c cX9_writeSecond D A Q (zwX9 cI h_t h_t_now h_t_file h_t_fresh h_t_colour h_t_table h_t_last h_t_one t_wide t_high zt_size t_at t_fault t_newWide t_newHigh t_colours t_now zt_file t_fresh t_colour t_table t_last t_one)) {rc90 : Int32 → Int32 → Int32 → (Nat → Int32) → (Nat → Int32) → Int32 → Int32 → Int32 → Option (Int32 × (Nat → Int32))} (hr_90 : ∀ {t_size : Int32} {t_file : Nat → Int32} {l1 : Int32} {l2 : Int32} {l3 : Int32} {H : Heap} {locs : List Loc} {ls : Array Slot}, rc90 t_wide t_high t_size t_now t_file l1 l2 l3 = some (zt_size, zt_file) → va_P D vwCl (zwX9 cI h_t h_t_now h_t_file h_t_fresh h_t_colour h_t_table h_t_last h_t_one t_wide t_high t_size t_at t_fault t_newWide t_newHigh t_colours t_now t_file t_fresh t_colour t_table t_last t_one) H → va_D A (zwX9 cI h_t h_t_now h_t_file h_t_fresh h_t_colour h_t_table h_t_last h_t_one t_wide t_high t_size t_at t_fault t_newWide t_newHigh t_colours t_now t_file t_fresh t_colour t_table t_last t_one) → va_S A s.heap H locs → lv_has ls 6 [(0, .ref h_t), (1, .int l1), (2, .int l2), (3, .int l3)] → W p l e rmX9_writeSecond s m args below meth c H locs 0 0 Q (F0 m 90 ls [])) {rc106 : Int32 → Int32 → Int32 → (Nat → Int32) → (Nat → Int32) → Int32 → Int32 → Int32 → Int32 → Option (Int32 × (Nat → Int32))} (hr_106 : ∀ {t_size : Int32} {t_file : Nat → Int32} {l1 : Int32} {l2 : Int32} {l3 : Int32} {l4 : Int32} {H : Heap} {locs : List Loc} {ls : Array Slot}, rc106 t_wide t_high t_size t_now t_file l1 l2 l3 l4 = some (zt_size, zt_file) → va_P D vwCl (zwX9 cI h_t h_t_now h_t_file h_t_fresh h_t_colour h_t_table h_t_last h_t_one t_wide t_high t_size t_at t_fault t_newWide t_newHigh t_colours t_now t_file t_fresh t_colour t_table t_last t_one) H → va_D A (zwX9 cI h_t h_t_now h_t_file h_t_fresh h_t_colour h_t_table h_t_last h_t_one t_wide t_high t_size t_at t_fault t_newWide t_newHigh t_colours t_now t_file t_fresh t_colour t_table t_last t_one) → va_S A s.heap H locs → lv_has ls 6 [(0, .ref h_t), (1, .int l1), (2, .int l2), (3, .int l3), (4, .int l4)] → W p l e rmX9_writeSecond s m args below meth c H locs 0 0 Q (F0 m 106 ls [])) {t_size : Int32} {t_file : Nat → Int32} {l1 : Int32} {l2 : Int32} {l3 : Int32} {l4 : Int32} {k0 : Int32} {H : Heap} {locs : List Loc} {ls : Array Slot} : fX9_writeSecond_144 rc90 rc106 t_wide t_high t_size t_now t_file l1 l2 l3 l4 k0 = some (zt_size, zt_file) → va_P D vwCl (zwX9 cI h_t h_t_now h_t_file h_t_fresh h_t_colour h_t_table h_t_last h_t_one t_wide t_high t_size t_at t_fault t_newWide t_newHigh t_colours t_now t_file t_fresh t_colour t_table t_last t_one) H → va_D A (zwX9 cI h_t h_t_now h_t_file h_t_fresh h_t_colour h_t_table h_t_last h_t_one t_wide t_high t_size t_at t_fault t_newWide t_newHigh t_colours t_now t_file t_fresh t_colour t_table t_last t_one) → va_S A s.heap H locs → lv_has ls 6 [(0, .ref h_t), (1, .int l1), (2, .int l2), (3, .int l3), (4, .int l4)] → W p l e rmX9_writeSecond s m args below meth c H locs 0 0 Q (F0 m 144 ls [.int k0]) := by
  intro hf hP hD hS hl
  obtain ⟨hx, hb, hml, hown, hts⟩ := id C
  unfold fX9_writeSecond_144 at hf
  refine lv_istore (lv' := [(5, .int k0), (0, .ref h_t), (1, .int l1), (2, .int l2), (3, .int l3), (4, .int l4)]) hx hb dX9_writeSecond_144 hl (by decide) rfl (fun ls hl => ?_)
  refine lv_aload_n hx hb dX9_writeSecond_146 rfl (lv_at hl 1 rfl) ?_
  refine lv_aload_n hx hb dX9_writeSecond_147 rfl (lv_at hl 1 rfl) ?_
  refine lv_iload_n hx hb dX9_writeSecond_148 rfl (lv_at hl 4 rfl) ?_
  refine lv_iload hx hb dX9_writeSecond_149 (lv_at hl 5 rfl) ?_
  obtain ⟨r1, hc2, hf⟩ := zb1_in hf
  refine zc_i (va_runV (As := [.int l3, .int l4]) (rest := [.ref h_t]) C (mX9_channel l D cI H.size h_t h_t_now h_t_file h_t_fresh h_t_colour h_t_table h_t_last h_t_one t_wide t_high t_size t_at t_fault t_newWide t_newHigh t_colours t_now t_file t_fresh t_colour t_table t_last t_one l3 l4 r1 hc2) (qX9_writeSecond_X9_channel_49 hts) ⟨zP_blind, va_recv hK hP (ci := 8) (q0 := 0) rfl rfl, zpre hK hN hP hD [0, 1, 2, 3, 4, 5, 6, 7] rfl rfl⟩ rfl rfl hl.1 rfl (lv_room (Nat.le_of_ble_eq_true rfl)) dX9_writeSecond_151 ⟨Nat.zero_le _, Nat.zero_le _⟩) hP hD hS hA [0, 1, 2, 3, 4, 5, 6, 7] [] [0, 1, 2, 3, 4, 5, 6, 7] (ws' := zwX9 cI h_t h_t_now h_t_file h_t_fresh h_t_colour h_t_table h_t_last h_t_one t_wide t_high t_size t_at t_fault t_newWide t_newHigh t_colours t_now t_file t_fresh t_colour t_table t_last t_one) rfl rfl rfl rfl rfl rfl (fun H locs hP hD hS => ?_)
  obtain ⟨u3, u4, hc5, hf⟩ := zb2_in hf
  refine zc_v (va_runV (As := [.int r1]) (rest := []) C (mX9_digits l D cI H.size h_t h_t_now h_t_file h_t_fresh h_t_colour h_t_table h_t_last h_t_one t_wide t_high t_size t_at t_fault t_newWide t_newHigh t_colours t_now t_file t_fresh t_colour t_table t_last t_one r1 u3 u4 hc5) (qX9_writeSecond_X9_digits_91 hts) ⟨zP_blind, va_recv hK hP (ci := 8) (q0 := 0) rfl rfl, zpre hK hN hP hD [0, 1, 2, 3, 4, 5, 6, 7] rfl rfl⟩ rfl rfl hl.1 rfl (lv_room (Nat.le_of_ble_eq_true rfl)) dX9_writeSecond_154 ⟨Nat.zero_le _, Nat.zero_le _⟩) hP hD hS hA [0, 1, 2, 3, 4, 5, 6, 7] [] [0, 1, 2, 3, 4, 5, 6, 7] (ws' := zwX9 cI h_t h_t_now h_t_file h_t_fresh h_t_colour h_t_table h_t_last h_t_one t_wide t_high u3 t_at t_fault t_newWide t_newHigh t_colours t_now u4 t_fresh t_colour t_table t_last t_one) rfl rfl rfl rfl rfl rfl (fun H locs hP hD hS => ?_)
  refine lv_aload_n hx hb dX9_writeSecond_157 rfl (lv_at hl 1 rfl) ?_
  refine lv_iload hx hb dX9_writeSecond_158 (lv_at hl 0 rfl) ?_
  refine lv_if_eq (tgt := 168) hx hb dX9_writeSecond_160 (by decide) (fun c6 => ?_) (fun c6 => ?_)
  · replace hf := zif_t hf c6
    refine lv_bipush (v := 32) hx hb dX9_writeSecond_168 (by decide) ?_
    exact wX9_writeSecond_170 C hN hK hA hE hr_90 hr_106 hf hP hD hS (lv_sub hl [1, 2, 3, 4, 5, 0] rfl)
  · replace hf := zif_f hf c6
    refine lv_bipush (v := 10) hx hb dX9_writeSecond_163 (by decide) ?_
    refine lv_goto (tgt := 170) hx hb dX9_writeSecond_165 (by decide) ?_
    exact wX9_writeSecond_170 C hN hK hA hE hr_90 hr_106 hf hP hD hS (lv_sub hl [1, 2, 3, 4, 5, 0] rfl)
set_option maxHeartbeats 4000000 in
set_option maxRecDepth 100000 in
theorem wX9_writeSecond_143 {p : Program} {l : Launch} {e : Env} {s : State} {m : MethodId} {args : Array Value} {below : List Frame} {meth : Method} {c : Code} {D : va_G} {A : Nat → Prop} {Q : State → Prop} {cI : ClassId} {h_t h_t_now h_t_file h_t_fresh h_t_colour h_t_table h_t_last h_t_one : Nat} {t_wide : Int32} {t_high : Int32} {t_at : Int32} {t_fault : Int32} {t_newWide : Int32} {t_newHigh : Int32} {t_colours : Int32} {t_now : Nat → Int32} {t_fresh : Nat → Int32} {t_colour : Nat → Int32} {t_table : Nat → Int32} {t_last : Nat → Int32} {t_one : Nat → Int32} {zt_size : Int32} {zt_file : Nat → Int32} (C : CallFix p m c cX9_writeSecond 6 s args wsX9_writeSecond RX9) (hN : zN s) (hK : va_K D vwCl [(cI, .int)] s) (hA : ∀ q, s.heap.size ≤ q → A q) (hE : zEv p l e rmX9_writeSecond s m args below meth c cX9_writeSecond D A Q (zwX9 cI h_t h_t_now h_t_file h_t_fresh h_t_colour h_t_table h_t_last h_t_one t_wide t_high zt_size t_at t_fault t_newWide t_newHigh t_colours t_now zt_file t_fresh t_colour t_table t_last t_one)) {rc90 : Int32 → Int32 → Int32 → (Nat → Int32) → (Nat → Int32) → Int32 → Int32 → Int32 → Option (Int32 × (Nat → Int32))} (hr_90 : ∀ {t_size : Int32} {t_file : Nat → Int32} {l1 : Int32} {l2 : Int32} {l3 : Int32} {H : Heap} {locs : List Loc} {ls : Array Slot}, rc90 t_wide t_high t_size t_now t_file l1 l2 l3 = some (zt_size, zt_file) → va_P D vwCl (zwX9 cI h_t h_t_now h_t_file h_t_fresh h_t_colour h_t_table h_t_last h_t_one t_wide t_high t_size t_at t_fault t_newWide t_newHigh t_colours t_now t_file t_fresh t_colour t_table t_last t_one) H → va_D A (zwX9 cI h_t h_t_now h_t_file h_t_fresh h_t_colour h_t_table h_t_last h_t_one t_wide t_high t_size t_at t_fault t_newWide t_newHigh t_colours t_now t_file t_fresh t_colour t_table t_last t_one) → va_S A s.heap H locs → lv_has ls 6 [(0, .ref h_t), (1, .int l1), (2, .int l2), (3, .int l3)] → W p l e rmX9_writeSecond s m args below meth c H locs 0 0 Q (F0 m 90 ls [])) {rc106 : Int32 → Int32 → Int32 → (Nat → Int32) → (Nat → Int32) → Int32 → Int32 → Int32 → Int32 → Option (Int32 × (Nat → Int32))} (hr_106 : ∀ {t_size : Int32} {t_file : Nat → Int32} {l1 : Int32} {l2 : Int32} {l3 : Int32} {l4 : Int32} {H : Heap} {locs : List Loc} {ls : Array Slot}, rc106 t_wide t_high t_size t_now t_file l1 l2 l3 l4 = some (zt_size, zt_file) → va_P D vwCl (zwX9 cI h_t h_t_now h_t_file h_t_fresh h_t_colour h_t_table h_t_last h_t_one t_wide t_high t_size t_at t_fault t_newWide t_newHigh t_colours t_now t_file t_fresh t_colour t_table t_last t_one) H → va_D A (zwX9 cI h_t h_t_now h_t_file h_t_fresh h_t_colour h_t_table h_t_last h_t_one t_wide t_high t_size t_at t_fault t_newWide t_newHigh t_colours t_now t_file t_fresh t_colour t_table t_last t_one) → va_S A s.heap H locs → lv_has ls 6 [(0, .ref h_t), (1, .int l1), (2, .int l2), (3, .int l3), (4, .int l4)] → W p l e rmX9_writeSecond s m args below meth c H locs 0 0 Q (F0 m 106 ls [])) {t_size : Int32} {t_file : Nat → Int32} {l1 : Int32} {l2 : Int32} {l3 : Int32} {l4 : Int32} {H : Heap} {locs : List Loc} {ls : Array Slot} : fX9_writeSecond_143 rc90 rc106 t_wide t_high t_size t_now t_file l1 l2 l3 l4 = some (zt_size, zt_file) → va_P D vwCl (zwX9 cI h_t h_t_now h_t_file h_t_fresh h_t_colour h_t_table h_t_last h_t_one t_wide t_high t_size t_at t_fault t_newWide t_newHigh t_colours t_now t_file t_fresh t_colour t_table t_last t_one) H → va_D A (zwX9 cI h_t h_t_now h_t_file h_t_fresh h_t_colour h_t_table h_t_last h_t_one t_wide t_high t_size t_at t_fault t_newWide t_newHigh t_colours t_now t_file t_fresh t_colour t_table t_last t_one) → va_S A s.heap H locs → lv_has ls 6 [(0, .ref h_t), (1, .int l1), (2, .int l2), (3, .int l3), (4, .int l4)] → W p l e rmX9_writeSecond s m args below meth c H locs 0 0 Q (F0 m 143 ls []) := by
  intro hf hP hD hS hl
  obtain ⟨hx, hb, hml, hown, hts⟩ := id C
  unfold fX9_writeSecond_143 at hf
  refine lv_iconst (v := 0) hx hb dX9_writeSecond_143 (by decide) ?_
  exact wX9_writeSecond_144 C hN hK hA hE hr_90 hr_106 hf hP hD hS (lv_sub hl [0, 1, 2, 3, 4] rfl)
set_option maxHeartbeats 4000000 in
set_option maxRecDepth 100000 in
theorem wX9_writeSecond_106 {p : Program} {l : Launch} {e : Env} {s : State} {m : MethodId} {args : Array Value} {below : List Frame} {meth : Method} {c : Code} {D : va_G} {A : Nat → Prop} {Q : State → Prop} {cI : ClassId} {h_t h_t_now h_t_file h_t_fresh h_t_colour h_t_table h_t_last h_t_one : Nat} {t_wide : Int32} {t_high : Int32} {t_at : Int32} {t_fault : Int32} {t_newWide : Int32} {t_newHigh : Int32} {t_colours : Int32} {t_now : Nat → Int32} {t_fresh : Nat → Int32} {t_colour : Nat → Int32} {t_table : Nat → Int32} {t_last : Nat → Int32} {t_one : Nat → Int32} {zt_size : Int32} {zt_file : Nat → Int32} (C : CallFix p m c cX9_writeSecond 6 s args wsX9_writeSecond RX9) (hN : zN s) (hK : va_K D vwCl [(cI, .int)] s) (hA : ∀ q, s.heap.size ≤ q → A q) (hE : zEv p l e rmX9_writeSecond s m args below meth c cX9_writeSecond D A Q (zwX9 cI h_t h_t_now h_t_file h_t_fresh h_t_colour h_t_table h_t_last h_t_one t_wide t_high zt_size t_at t_fault t_newWide t_newHigh t_colours t_now zt_file t_fresh t_colour t_table t_last t_one)) {rc90 : Int32 → Int32 → Int32 → (Nat → Int32) → (Nat → Int32) → Int32 → Int32 → Int32 → Option (Int32 × (Nat → Int32))} (hr_90 : ∀ {t_size : Int32} {t_file : Nat → Int32} {l1 : Int32} {l2 : Int32} {l3 : Int32} {H : Heap} {locs : List Loc} {ls : Array Slot}, rc90 t_wide t_high t_size t_now t_file l1 l2 l3 = some (zt_size, zt_file) → va_P D vwCl (zwX9 cI h_t h_t_now h_t_file h_t_fresh h_t_colour h_t_table h_t_last h_t_one t_wide t_high t_size t_at t_fault t_newWide t_newHigh t_colours t_now t_file t_fresh t_colour t_table t_last t_one) H → va_D A (zwX9 cI h_t h_t_now h_t_file h_t_fresh h_t_colour h_t_table h_t_last h_t_one t_wide t_high t_size t_at t_fault t_newWide t_newHigh t_colours t_now t_file t_fresh t_colour t_table t_last t_one) → va_S A s.heap H locs → lv_has ls 6 [(0, .ref h_t), (1, .int l1), (2, .int l2), (3, .int l3)] → W p l e rmX9_writeSecond s m args below meth c H locs 0 0 Q (F0 m 90 ls [])) (n : Nat) : ∀ {t_size : Int32} {t_file : Nat → Int32} {l1 : Int32} {l2 : Int32} {l3 : Int32} {l4 : Int32} {H : Heap} {locs : List Loc} {ls : Array Slot}, fX9_writeSecond_106 rc90 n t_wide t_high t_size t_now t_file l1 l2 l3 l4 = some (zt_size, zt_file) → va_P D vwCl (zwX9 cI h_t h_t_now h_t_file h_t_fresh h_t_colour h_t_table h_t_last h_t_one t_wide t_high t_size t_at t_fault t_newWide t_newHigh t_colours t_now t_file t_fresh t_colour t_table t_last t_one) H → va_D A (zwX9 cI h_t h_t_now h_t_file h_t_fresh h_t_colour h_t_table h_t_last h_t_one t_wide t_high t_size t_at t_fault t_newWide t_newHigh t_colours t_now t_file t_fresh t_colour t_table t_last t_one) → va_S A s.heap H locs → lv_has ls 6 [(0, .ref h_t), (1, .int l1), (2, .int l2), (3, .int l3), (4, .int l4)] → W p l e rmX9_writeSecond s m args below meth c H locs 0 0 Q (F0 m 106 ls []) := by
  obtain ⟨hx, hb, hml, hown, hts⟩ := id C
  induction n with
  | zero =>
    intro t_size t_file l1 l2 l3 l4 H locs ls hf
    cases hf
  | succ n hr_106 =>
    intro t_size t_file l1 l2 l3 l4 H locs ls hf hP hD hS hl
    rw [fX9_writeSecond_106_s] at hf
    refine lv_iload hx hb dX9_writeSecond_106 (lv_at hl 4 rfl) ?_
    refine lv_iload_n hx hb dX9_writeSecond_108 rfl (lv_at hl 2 rfl) ?_
    refine lv_icmp_ge (tgt := 193) hx hb dX9_writeSecond_109 (by decide) (fun c1 => ?_) (fun c1 => ?_)
    · replace hf := zif_t hf c1
      obtain ⟨x2, ex2⟩ : ∃ y : Int32, y = l3 + 1 := ⟨_, rfl⟩
      replace hf := zlet_in hf ex2
      refine lv_iinc (v := x2) (lv' := [(3, .int x2), (0, .ref h_t), (1, .int l1), (2, .int l2), (4, .int l4)]) hx hb dX9_writeSecond_193 hl (k := 3) rfl (by rw [ex2]; rfl) (by decide) rfl (fun ls hl => ?_)
      clear ex2
      refine lv_goto (tgt := 90) hx hb dX9_writeSecond_196 (by decide) ?_
      exact hr_90 hf hP hD hS (lv_sub hl [1, 2, 3, 0] rfl)
    · replace hf := zif_f hf c1
      refine lv_iload_n hx hb dX9_writeSecond_112 rfl (lv_at hl 1 rfl) ?_
      refine lv_if_eq (tgt := 176) hx hb dX9_writeSecond_113 (by decide) (fun c3 => ?_) (fun c3 => ?_)
      · replace hf := zif_t hf c3
        refine lv_aload_n hx hb dX9_writeSecond_176 rfl (lv_at hl 0 rfl) ?_
        refine lv_aload_n hx hb dX9_writeSecond_177 rfl (lv_at hl 0 rfl) ?_
        refine lv_iload_n hx hb dX9_writeSecond_178 rfl (lv_at hl 3 rfl) ?_
        refine lv_iload hx hb dX9_writeSecond_179 (lv_at hl 4 rfl) ?_
        obtain ⟨r4, hc5, hf⟩ := zb1_in hf
        refine zc_i (va_runV (As := [.int l3, .int l4]) (rest := [.ref h_t]) C (mX9_channel l D cI H.size h_t h_t_now h_t_file h_t_fresh h_t_colour h_t_table h_t_last h_t_one t_wide t_high t_size t_at t_fault t_newWide t_newHigh t_colours t_now t_file t_fresh t_colour t_table t_last t_one l3 l4 r4 hc5) (qX9_writeSecond_X9_channel_49 hts) ⟨zP_blind, va_recv hK hP (ci := 8) (q0 := 0) rfl rfl, zpre hK hN hP hD [0, 1, 2, 3, 4, 5, 6, 7] rfl rfl⟩ rfl rfl hl.1 rfl (lv_room (Nat.le_of_ble_eq_true rfl)) dX9_writeSecond_181 ⟨Nat.zero_le _, Nat.zero_le _⟩) hP hD hS hA [0, 1, 2, 3, 4, 5, 6, 7] [] [0, 1, 2, 3, 4, 5, 6, 7] (ws' := zwX9 cI h_t h_t_now h_t_file h_t_fresh h_t_colour h_t_table h_t_last h_t_one t_wide t_high t_size t_at t_fault t_newWide t_newHigh t_colours t_now t_file t_fresh t_colour t_table t_last t_one) rfl rfl rfl rfl rfl rfl (fun H locs hP hD hS => ?_)
        obtain ⟨u6, u7, hc8, hf⟩ := zb2_in hf
        refine zc_v (va_runV (As := [.int r4]) (rest := []) C (mX9_add l D cI H.size h_t h_t_now h_t_file h_t_fresh h_t_colour h_t_table h_t_last h_t_one t_wide t_high t_size t_at t_fault t_newWide t_newHigh t_colours t_now t_file t_fresh t_colour t_table t_last t_one r4 u6 u7 hc8) (qX9_writeSecond_X9_add_63 hts) ⟨zP_blind, va_recv hK hP (ci := 8) (q0 := 0) rfl rfl, zpre hK hN hP hD [0, 1, 2, 3, 4, 5, 6, 7] rfl rfl⟩ rfl rfl hl.1 rfl (lv_room (Nat.le_of_ble_eq_true rfl)) dX9_writeSecond_184 ⟨Nat.zero_le _, Nat.zero_le _⟩) hP hD hS hA [0, 1, 2, 3, 4, 5, 6, 7] [] [0, 1, 2, 3, 4, 5, 6, 7] (ws' := zwX9 cI h_t h_t_now h_t_file h_t_fresh h_t_colour h_t_table h_t_last h_t_one t_wide t_high u6 t_at t_fault t_newWide t_newHigh t_colours t_now u7 t_fresh t_colour t_table t_last t_one) rfl rfl rfl rfl rfl rfl (fun H locs hP hD hS => ?_)
        exact wX9_writeSecond_187 C hN hK hA hE hr_90 hr_106 hf hP hD hS (lv_sub hl [0, 1, 2, 3, 4] rfl)
      · replace hf := zif_f hf c3
        refine lv_iload_n hx hb dX9_writeSecond_116 rfl (lv_at hl 3 rfl) ?_
        refine lv_aload_n hx hb dX9_writeSecond_117 rfl (lv_at hl 0 rfl) ?_
        refine va_get (D := D) (ci := 8) (v := .int t_wide) (C := RX9) (T := TX9) (N := 15) hx hb hts iX9_writeSecond_X9 hown hK hP 0 rfl rfl 0 (by decide) (kX9_writeSecond_7 hts) (fun _ h9 => h9) rfl dX9_writeSecond_118 ?_
        obtain ⟨hg9, hf⟩ := znz_in hf
        refine lv_irem hx hb dX9_writeSecond_121 hg9 ?_
        refine lv_aload_n hx hb dX9_writeSecond_122 rfl (lv_at hl 0 rfl) ?_
        refine va_get (D := D) (ci := 8) (v := .int t_wide) (C := RX9) (T := TX9) (N := 15) hx hb hts iX9_writeSecond_X9 hown hK hP 0 rfl rfl 0 (by decide) (kX9_writeSecond_7 hts) (fun _ h9 => h9) rfl dX9_writeSecond_123 ?_
        refine lv_iconst (v := 1) hx hb dX9_writeSecond_126 (by decide) ?_
        refine lv_isub hx hb dX9_writeSecond_127 ?_
        refine lv_icmp_ne (tgt := 143) hx hb dX9_writeSecond_128 (by decide) (fun c10 => ?_) (fun c10 => ?_)
        · replace hf := zif_f hf c10
          exact wX9_writeSecond_143 C hN hK hA hE hr_90 hr_106 hf hP hD hS (lv_sub hl [0, 1, 2, 3, 4] rfl)
        · replace hf := zif_t hf c10
          refine lv_iload hx hb dX9_writeSecond_131 (lv_at hl 4 rfl) ?_
          refine lv_iload_n hx hb dX9_writeSecond_133 rfl (lv_at hl 2 rfl) ?_
          refine lv_iconst (v := 1) hx hb dX9_writeSecond_134 (by decide) ?_
          refine lv_isub hx hb dX9_writeSecond_135 ?_
          refine lv_icmp_ne (tgt := 143) hx hb dX9_writeSecond_136 (by decide) (fun c11 => ?_) (fun c11 => ?_)
          · replace hf := zif_f hf c11
            exact wX9_writeSecond_143 C hN hK hA hE hr_90 hr_106 hf hP hD hS (lv_sub hl [0, 1, 2, 3, 4] rfl)
          · replace hf := zif_t hf c11
            refine lv_iconst (v := 1) hx hb dX9_writeSecond_139 (by decide) ?_
            refine lv_goto (tgt := 144) hx hb dX9_writeSecond_140 (by decide) ?_
            exact wX9_writeSecond_144 C hN hK hA hE hr_90 hr_106 hf hP hD hS (lv_sub hl [0, 1, 2, 3, 4] rfl)
set_option maxHeartbeats 4000000 in
set_option maxRecDepth 100000 in
theorem wX9_writeSecond_90 {p : Program} {l : Launch} {e : Env} {s : State} {m : MethodId} {args : Array Value} {below : List Frame} {meth : Method} {c : Code} {D : va_G} {A : Nat → Prop} {Q : State → Prop} {cI : ClassId} {h_t h_t_now h_t_file h_t_fresh h_t_colour h_t_table h_t_last h_t_one : Nat} {t_wide : Int32} {t_high : Int32} {t_at : Int32} {t_fault : Int32} {t_newWide : Int32} {t_newHigh : Int32} {t_colours : Int32} {t_now : Nat → Int32} {t_fresh : Nat → Int32} {t_colour : Nat → Int32} {t_table : Nat → Int32} {t_last : Nat → Int32} {t_one : Nat → Int32} {zt_size : Int32} {zt_file : Nat → Int32} (C : CallFix p m c cX9_writeSecond 6 s args wsX9_writeSecond RX9) (hN : zN s) (hK : va_K D vwCl [(cI, .int)] s) (hA : ∀ q, s.heap.size ≤ q → A q) (hE : zEv p l e rmX9_writeSecond s m args below meth c cX9_writeSecond D A Q (zwX9 cI h_t h_t_now h_t_file h_t_fresh h_t_colour h_t_table h_t_last h_t_one t_wide t_high zt_size t_at t_fault t_newWide t_newHigh t_colours t_now zt_file t_fresh t_colour t_table t_last t_one)) (n : Nat) : ∀ {t_size : Int32} {t_file : Nat → Int32} {l1 : Int32} {l2 : Int32} {l3 : Int32} {H : Heap} {locs : List Loc} {ls : Array Slot}, fX9_writeSecond_90 n t_wide t_high t_size t_now t_file l1 l2 l3 = some (zt_size, zt_file) → va_P D vwCl (zwX9 cI h_t h_t_now h_t_file h_t_fresh h_t_colour h_t_table h_t_last h_t_one t_wide t_high t_size t_at t_fault t_newWide t_newHigh t_colours t_now t_file t_fresh t_colour t_table t_last t_one) H → va_D A (zwX9 cI h_t h_t_now h_t_file h_t_fresh h_t_colour h_t_table h_t_last h_t_one t_wide t_high t_size t_at t_fault t_newWide t_newHigh t_colours t_now t_file t_fresh t_colour t_table t_last t_one) → va_S A s.heap H locs → lv_has ls 6 [(0, .ref h_t), (1, .int l1), (2, .int l2), (3, .int l3)] → W p l e rmX9_writeSecond s m args below meth c H locs 0 0 Q (F0 m 90 ls []) := by
  obtain ⟨hx, hb, hml, hown, hts⟩ := id C
  induction n with
  | zero =>
    intro t_size t_file l1 l2 l3 H locs ls hf
    cases hf
  | succ n hr_90 =>
    intro t_size t_file l1 l2 l3 H locs ls hf hP hD hS hl
    rw [fX9_writeSecond_90_s] at hf
    refine lv_iload_n hx hb dX9_writeSecond_90 rfl (lv_at hl 3 rfl) ?_
    refine lv_aload_n hx hb dX9_writeSecond_91 rfl (lv_at hl 0 rfl) ?_
    refine va_get (D := D) (ci := 8) (v := .int t_wide) (C := RX9) (T := TX9) (N := 15) hx hb hts iX9_writeSecond_X9 hown hK hP 0 rfl rfl 0 (by decide) (kX9_writeSecond_7 hts) (fun _ h9 => h9) rfl dX9_writeSecond_92 ?_
    refine lv_aload_n hx hb dX9_writeSecond_95 rfl (lv_at hl 0 rfl) ?_
    refine va_get (D := D) (ci := 8) (v := .int t_high) (C := RX9) (T := TX9) (N := 15) hx hb hts iX9_writeSecond_X9 hown hK hP 0 rfl rfl 1 (by decide) (kX9_writeSecond_13 hts) (fun _ h9 => h9) rfl dX9_writeSecond_96 ?_
    refine lv_imul hx hb dX9_writeSecond_99 ?_
    refine lv_icmp_ge (tgt := 199) hx hb dX9_writeSecond_100 (by decide) (fun c1 => ?_) (fun c1 => ?_)
    · replace hf := zif_t hf c1
      cases hf
      exact hE _ _ _ _ dX9_writeSecond_199 hP hD hS
    · replace hf := zif_f hf c1
      refine lv_iconst (v := 0) hx hb dX9_writeSecond_103 (by decide) ?_
      refine lv_istore (lv' := [(4, .int 0), (0, .ref h_t), (1, .int l1), (2, .int l2), (3, .int l3)]) hx hb dX9_writeSecond_104 hl (by decide) rfl (fun ls hl => ?_)
      exact wX9_writeSecond_106 C hN hK hA hE hr_90 1000 hf hP hD hS (lv_sub hl [1, 2, 3, 4, 0] rfl)
set_option maxHeartbeats 4000000 in
set_option maxRecDepth 100000 in
theorem wX9_writeSecond_37 {p : Program} {l : Launch} {e : Env} {s : State} {m : MethodId} {args : Array Value} {below : List Frame} {meth : Method} {c : Code} {D : va_G} {A : Nat → Prop} {Q : State → Prop} {cI : ClassId} {h_t h_t_now h_t_file h_t_fresh h_t_colour h_t_table h_t_last h_t_one : Nat} {t_wide : Int32} {t_high : Int32} {t_at : Int32} {t_fault : Int32} {t_newWide : Int32} {t_newHigh : Int32} {t_colours : Int32} {t_now : Nat → Int32} {t_fresh : Nat → Int32} {t_colour : Nat → Int32} {t_table : Nat → Int32} {t_last : Nat → Int32} {t_one : Nat → Int32} {zt_size : Int32} {zt_file : Nat → Int32} (C : CallFix p m c cX9_writeSecond 6 s args wsX9_writeSecond RX9) (hN : zN s) (hK : va_K D vwCl [(cI, .int)] s) (hA : ∀ q, s.heap.size ≤ q → A q) (hE : zEv p l e rmX9_writeSecond s m args below meth c cX9_writeSecond D A Q (zwX9 cI h_t h_t_now h_t_file h_t_fresh h_t_colour h_t_table h_t_last h_t_one t_wide t_high zt_size t_at t_fault t_newWide t_newHigh t_colours t_now zt_file t_fresh t_colour t_table t_last t_one)) {t_size : Int32} {t_file : Nat → Int32} {l1 : Int32} {l2 : Int32} {k1 : Int32} {k2 : Int32} {k3 : Int32} {H : Heap} {locs : List Loc} {ls : Array Slot} : fX9_writeSecond_37 t_wide t_high t_size t_now t_file l1 l2 k1 k2 k3 = some (zt_size, zt_file) → va_P D vwCl (zwX9 cI h_t h_t_now h_t_file h_t_fresh h_t_colour h_t_table h_t_last h_t_one t_wide t_high t_size t_at t_fault t_newWide t_newHigh t_colours t_now t_file t_fresh t_colour t_table t_last t_one) H → va_D A (zwX9 cI h_t h_t_now h_t_file h_t_fresh h_t_colour h_t_table h_t_last h_t_one t_wide t_high t_size t_at t_fault t_newWide t_newHigh t_colours t_now t_file t_fresh t_colour t_table t_last t_one) → va_S A s.heap H locs → lv_has ls 6 [(0, .ref h_t), (1, .int l1), (2, .int l2)] → W p l e rmX9_writeSecond s m args below meth c H locs 0 0 Q (F0 m 37 ls [.int k3, .int k2, .int k1, .ref h_t]) := by
  intro hf hP hD hS hl
  obtain ⟨hx, hb, hml, hown, hts⟩ := id C
  unfold fX9_writeSecond_37 at hf
  refine lv_iadd hx hb dX9_writeSecond_37 ?_
  obtain ⟨u1, u2, hc3, hf⟩ := zb2_in hf
  refine zc_v (va_runV (As := [.int k1, .int (k2 + k3)]) (rest := []) C (mX9_addTwo l D cI H.size h_t h_t_now h_t_file h_t_fresh h_t_colour h_t_table h_t_last h_t_one t_wide t_high t_size t_at t_fault t_newWide t_newHigh t_colours t_now t_file t_fresh t_colour t_table t_last t_one k1 (k2 + k3) u1 u2 hc3) (qX9_writeSecond_X9_addTwo_71 hts) ⟨zP_blind, va_recv hK hP (ci := 8) (q0 := 0) rfl rfl, zpre hK hN hP hD [0, 1, 2, 3, 4, 5, 6, 7] rfl rfl⟩ rfl rfl hl.1 rfl (lv_room (Nat.le_of_ble_eq_true rfl)) dX9_writeSecond_38 ⟨Nat.zero_le _, Nat.zero_le _⟩) hP hD hS hA [0, 1, 2, 3, 4, 5, 6, 7] [] [0, 1, 2, 3, 4, 5, 6, 7] (ws' := zwX9 cI h_t h_t_now h_t_file h_t_fresh h_t_colour h_t_table h_t_last h_t_one t_wide t_high u1 t_at t_fault t_newWide t_newHigh t_colours t_now u2 t_fresh t_colour t_table t_last t_one) rfl rfl rfl rfl rfl rfl (fun H locs hP hD hS => ?_)
  refine lv_aload_n hx hb dX9_writeSecond_41 rfl (lv_at hl 0 rfl) ?_
  refine lv_bipush (v := 10) hx hb dX9_writeSecond_42 (by decide) ?_
  obtain ⟨u4, u5, hc6, hf⟩ := zb2_in hf
  refine zc_v (va_runV (As := [.int 10]) (rest := []) C (mX9_add l D cI H.size h_t h_t_now h_t_file h_t_fresh h_t_colour h_t_table h_t_last h_t_one t_wide t_high u1 t_at t_fault t_newWide t_newHigh t_colours t_now u2 t_fresh t_colour t_table t_last t_one 10 u4 u5 hc6) (qX9_writeSecond_X9_add_63 hts) ⟨zP_blind, va_recv hK hP (ci := 8) (q0 := 0) rfl rfl, zpre hK hN hP hD [0, 1, 2, 3, 4, 5, 6, 7] rfl rfl⟩ rfl rfl hl.1 rfl (lv_room (Nat.le_of_ble_eq_true rfl)) dX9_writeSecond_44 ⟨Nat.zero_le _, Nat.zero_le _⟩) hP hD hS hA [0, 1, 2, 3, 4, 5, 6, 7] [] [0, 1, 2, 3, 4, 5, 6, 7] (ws' := zwX9 cI h_t h_t_now h_t_file h_t_fresh h_t_colour h_t_table h_t_last h_t_one t_wide t_high u4 t_at t_fault t_newWide t_newHigh t_colours t_now u5 t_fresh t_colour t_table t_last t_one) rfl rfl rfl rfl rfl rfl (fun H locs hP hD hS => ?_)
  refine lv_aload_n hx hb dX9_writeSecond_47 rfl (lv_at hl 0 rfl) ?_
  refine lv_aload_n hx hb dX9_writeSecond_48 rfl (lv_at hl 0 rfl) ?_
  refine va_get (D := D) (ci := 8) (v := .int t_wide) (C := RX9) (T := TX9) (N := 15) hx hb hts iX9_writeSecond_X9 hown hK hP 0 rfl rfl 0 (by decide) (kX9_writeSecond_7 hts) (fun _ h9 => h9) rfl dX9_writeSecond_49 ?_
  obtain ⟨u7, u8, hc9, hf⟩ := zb2_in hf
  refine zc_v (va_runV (As := [.int t_wide]) (rest := []) C (mX9_digits l D cI H.size h_t h_t_now h_t_file h_t_fresh h_t_colour h_t_table h_t_last h_t_one t_wide t_high u4 t_at t_fault t_newWide t_newHigh t_colours t_now u5 t_fresh t_colour t_table t_last t_one t_wide u7 u8 hc9) (qX9_writeSecond_X9_digits_91 hts) ⟨zP_blind, va_recv hK hP (ci := 8) (q0 := 0) rfl rfl, zpre hK hN hP hD [0, 1, 2, 3, 4, 5, 6, 7] rfl rfl⟩ rfl rfl hl.1 rfl (lv_room (Nat.le_of_ble_eq_true rfl)) dX9_writeSecond_52 ⟨Nat.zero_le _, Nat.zero_le _⟩) hP hD hS hA [0, 1, 2, 3, 4, 5, 6, 7] [] [0, 1, 2, 3, 4, 5, 6, 7] (ws' := zwX9 cI h_t h_t_now h_t_file h_t_fresh h_t_colour h_t_table h_t_last h_t_one t_wide t_high u7 t_at t_fault t_newWide t_newHigh t_colours t_now u8 t_fresh t_colour t_table t_last t_one) rfl rfl rfl rfl rfl rfl (fun H locs hP hD hS => ?_)
  refine lv_aload_n hx hb dX9_writeSecond_55 rfl (lv_at hl 0 rfl) ?_
  refine lv_bipush (v := 32) hx hb dX9_writeSecond_56 (by decide) ?_
  obtain ⟨u10, u11, hc12, hf⟩ := zb2_in hf
  refine zc_v (va_runV (As := [.int 32]) (rest := []) C (mX9_add l D cI H.size h_t h_t_now h_t_file h_t_fresh h_t_colour h_t_table h_t_last h_t_one t_wide t_high u7 t_at t_fault t_newWide t_newHigh t_colours t_now u8 t_fresh t_colour t_table t_last t_one 32 u10 u11 hc12) (qX9_writeSecond_X9_add_63 hts) ⟨zP_blind, va_recv hK hP (ci := 8) (q0 := 0) rfl rfl, zpre hK hN hP hD [0, 1, 2, 3, 4, 5, 6, 7] rfl rfl⟩ rfl rfl hl.1 rfl (lv_room (Nat.le_of_ble_eq_true rfl)) dX9_writeSecond_58 ⟨Nat.zero_le _, Nat.zero_le _⟩) hP hD hS hA [0, 1, 2, 3, 4, 5, 6, 7] [] [0, 1, 2, 3, 4, 5, 6, 7] (ws' := zwX9 cI h_t h_t_now h_t_file h_t_fresh h_t_colour h_t_table h_t_last h_t_one t_wide t_high u10 t_at t_fault t_newWide t_newHigh t_colours t_now u11 t_fresh t_colour t_table t_last t_one) rfl rfl rfl rfl rfl rfl (fun H locs hP hD hS => ?_)
  refine lv_aload_n hx hb dX9_writeSecond_61 rfl (lv_at hl 0 rfl) ?_
  refine lv_aload_n hx hb dX9_writeSecond_62 rfl (lv_at hl 0 rfl) ?_
  refine va_get (D := D) (ci := 8) (v := .int t_high) (C := RX9) (T := TX9) (N := 15) hx hb hts iX9_writeSecond_X9 hown hK hP 0 rfl rfl 1 (by decide) (kX9_writeSecond_13 hts) (fun _ h9 => h9) rfl dX9_writeSecond_63 ?_
  obtain ⟨u13, u14, hc15, hf⟩ := zb2_in hf
  refine zc_v (va_runV (As := [.int t_high]) (rest := []) C (mX9_digits l D cI H.size h_t h_t_now h_t_file h_t_fresh h_t_colour h_t_table h_t_last h_t_one t_wide t_high u10 t_at t_fault t_newWide t_newHigh t_colours t_now u11 t_fresh t_colour t_table t_last t_one t_high u13 u14 hc15) (qX9_writeSecond_X9_digits_91 hts) ⟨zP_blind, va_recv hK hP (ci := 8) (q0 := 0) rfl rfl, zpre hK hN hP hD [0, 1, 2, 3, 4, 5, 6, 7] rfl rfl⟩ rfl rfl hl.1 rfl (lv_room (Nat.le_of_ble_eq_true rfl)) dX9_writeSecond_66 ⟨Nat.zero_le _, Nat.zero_le _⟩) hP hD hS hA [0, 1, 2, 3, 4, 5, 6, 7] [] [0, 1, 2, 3, 4, 5, 6, 7] (ws' := zwX9 cI h_t h_t_now h_t_file h_t_fresh h_t_colour h_t_table h_t_last h_t_one t_wide t_high u13 t_at t_fault t_newWide t_newHigh t_colours t_now u14 t_fresh t_colour t_table t_last t_one) rfl rfl rfl rfl rfl rfl (fun H locs hP hD hS => ?_)
  refine lv_aload_n hx hb dX9_writeSecond_69 rfl (lv_at hl 0 rfl) ?_
  refine lv_bipush (v := 10) hx hb dX9_writeSecond_70 (by decide) ?_
  obtain ⟨u16, u17, hc18, hf⟩ := zb2_in hf
  refine zc_v (va_runV (As := [.int 10]) (rest := []) C (mX9_add l D cI H.size h_t h_t_now h_t_file h_t_fresh h_t_colour h_t_table h_t_last h_t_one t_wide t_high u13 t_at t_fault t_newWide t_newHigh t_colours t_now u14 t_fresh t_colour t_table t_last t_one 10 u16 u17 hc18) (qX9_writeSecond_X9_add_63 hts) ⟨zP_blind, va_recv hK hP (ci := 8) (q0 := 0) rfl rfl, zpre hK hN hP hD [0, 1, 2, 3, 4, 5, 6, 7] rfl rfl⟩ rfl rfl hl.1 rfl (lv_room (Nat.le_of_ble_eq_true rfl)) dX9_writeSecond_72 ⟨Nat.zero_le _, Nat.zero_le _⟩) hP hD hS hA [0, 1, 2, 3, 4, 5, 6, 7] [] [0, 1, 2, 3, 4, 5, 6, 7] (ws' := zwX9 cI h_t h_t_now h_t_file h_t_fresh h_t_colour h_t_table h_t_last h_t_one t_wide t_high u16 t_at t_fault t_newWide t_newHigh t_colours t_now u17 t_fresh t_colour t_table t_last t_one) rfl rfl rfl rfl rfl rfl (fun H locs hP hD hS => ?_)
  refine lv_aload_n hx hb dX9_writeSecond_75 rfl (lv_at hl 0 rfl) ?_
  refine lv_sipush (v := 255) hx hb dX9_writeSecond_76 (by decide) ?_
  obtain ⟨u19, u20, hc21, hf⟩ := zb2_in hf
  refine zc_v (va_runV (As := [.int 255]) (rest := []) C (mX9_digits l D cI H.size h_t h_t_now h_t_file h_t_fresh h_t_colour h_t_table h_t_last h_t_one t_wide t_high u16 t_at t_fault t_newWide t_newHigh t_colours t_now u17 t_fresh t_colour t_table t_last t_one 255 u19 u20 hc21) (qX9_writeSecond_X9_digits_91 hts) ⟨zP_blind, va_recv hK hP (ci := 8) (q0 := 0) rfl rfl, zpre hK hN hP hD [0, 1, 2, 3, 4, 5, 6, 7] rfl rfl⟩ rfl rfl hl.1 rfl (lv_room (Nat.le_of_ble_eq_true rfl)) dX9_writeSecond_79 ⟨Nat.zero_le _, Nat.zero_le _⟩) hP hD hS hA [0, 1, 2, 3, 4, 5, 6, 7] [] [0, 1, 2, 3, 4, 5, 6, 7] (ws' := zwX9 cI h_t h_t_now h_t_file h_t_fresh h_t_colour h_t_table h_t_last h_t_one t_wide t_high u19 t_at t_fault t_newWide t_newHigh t_colours t_now u20 t_fresh t_colour t_table t_last t_one) rfl rfl rfl rfl rfl rfl (fun H locs hP hD hS => ?_)
  refine lv_aload_n hx hb dX9_writeSecond_82 rfl (lv_at hl 0 rfl) ?_
  refine lv_bipush (v := 10) hx hb dX9_writeSecond_83 (by decide) ?_
  obtain ⟨u22, u23, hc24, hf⟩ := zb2_in hf
  refine zc_v (va_runV (As := [.int 10]) (rest := []) C (mX9_add l D cI H.size h_t h_t_now h_t_file h_t_fresh h_t_colour h_t_table h_t_last h_t_one t_wide t_high u19 t_at t_fault t_newWide t_newHigh t_colours t_now u20 t_fresh t_colour t_table t_last t_one 10 u22 u23 hc24) (qX9_writeSecond_X9_add_63 hts) ⟨zP_blind, va_recv hK hP (ci := 8) (q0 := 0) rfl rfl, zpre hK hN hP hD [0, 1, 2, 3, 4, 5, 6, 7] rfl rfl⟩ rfl rfl hl.1 rfl (lv_room (Nat.le_of_ble_eq_true rfl)) dX9_writeSecond_85 ⟨Nat.zero_le _, Nat.zero_le _⟩) hP hD hS hA [0, 1, 2, 3, 4, 5, 6, 7] [] [0, 1, 2, 3, 4, 5, 6, 7] (ws' := zwX9 cI h_t h_t_now h_t_file h_t_fresh h_t_colour h_t_table h_t_last h_t_one t_wide t_high u22 t_at t_fault t_newWide t_newHigh t_colours t_now u23 t_fresh t_colour t_table t_last t_one) rfl rfl rfl rfl rfl rfl (fun H locs hP hD hS => ?_)
  refine lv_iconst (v := 0) hx hb dX9_writeSecond_88 (by decide) ?_
  refine lv_istore_n (lv' := [(3, .int 0), (0, .ref h_t), (1, .int l1), (2, .int l2)]) hx hb dX9_writeSecond_89 rfl hl (by decide) rfl (fun ls hl => ?_)
  exact wX9_writeSecond_90 C hN hK hA hE 1000 hf hP hD hS (lv_sub hl [1, 2, 3, 0] rfl)
set_option maxHeartbeats 4000000 in
set_option maxRecDepth 100000 in
theorem wX9_writeSecond_27 {p : Program} {l : Launch} {e : Env} {s : State} {m : MethodId} {args : Array Value} {below : List Frame} {meth : Method} {c : Code} {D : va_G} {A : Nat → Prop} {Q : State → Prop} {cI : ClassId} {h_t h_t_now h_t_file h_t_fresh h_t_colour h_t_table h_t_last h_t_one : Nat} {t_wide : Int32} {t_high : Int32} {t_at : Int32} {t_fault : Int32} {t_newWide : Int32} {t_newHigh : Int32} {t_colours : Int32} {t_now : Nat → Int32} {t_fresh : Nat → Int32} {t_colour : Nat → Int32} {t_table : Nat → Int32} {t_last : Nat → Int32} {t_one : Nat → Int32} {zt_size : Int32} {zt_file : Nat → Int32} (C : CallFix p m c cX9_writeSecond 6 s args wsX9_writeSecond RX9) (hN : zN s) (hK : va_K D vwCl [(cI, .int)] s) (hA : ∀ q, s.heap.size ≤ q → A q) (hE : zEv p l e rmX9_writeSecond s m args below meth c cX9_writeSecond D A Q (zwX9 cI h_t h_t_now h_t_file h_t_fresh h_t_colour h_t_table h_t_last h_t_one t_wide t_high zt_size t_at t_fault t_newWide t_newHigh t_colours t_now zt_file t_fresh t_colour t_table t_last t_one)) {t_size : Int32} {t_file : Nat → Int32} {l1 : Int32} {l2 : Int32} {k1 : Int32} {k2 : Int32} {H : Heap} {locs : List Loc} {ls : Array Slot} : fX9_writeSecond_27 t_wide t_high t_size t_now t_file l1 l2 k1 k2 = some (zt_size, zt_file) → va_P D vwCl (zwX9 cI h_t h_t_now h_t_file h_t_fresh h_t_colour h_t_table h_t_last h_t_one t_wide t_high t_size t_at t_fault t_newWide t_newHigh t_colours t_now t_file t_fresh t_colour t_table t_last t_one) H → va_D A (zwX9 cI h_t h_t_now h_t_file h_t_fresh h_t_colour h_t_table h_t_last h_t_one t_wide t_high t_size t_at t_fault t_newWide t_newHigh t_colours t_now t_file t_fresh t_colour t_table t_last t_one) → va_S A s.heap H locs → lv_has ls 6 [(0, .ref h_t), (1, .int l1), (2, .int l2)] → W p l e rmX9_writeSecond s m args below meth c H locs 0 0 Q (F0 m 27 ls [.int k2, .int k1, .ref h_t]) := by
  intro hf hP hD hS hl
  obtain ⟨hx, hb, hml, hown, hts⟩ := id C
  unfold fX9_writeSecond_27 at hf
  refine lv_iload_n hx hb dX9_writeSecond_27 rfl (lv_at hl 2 rfl) ?_
  refine lv_iconst (v := 3) hx hb dX9_writeSecond_28 (by decide) ?_
  refine lv_icmp_ne (tgt := 36) hx hb dX9_writeSecond_29 (by decide) (fun c1 => ?_) (fun c1 => ?_)
  · replace hf := zif_f hf c1
    refine lv_iconst (v := 0) hx hb dX9_writeSecond_36 (by decide) ?_
    exact wX9_writeSecond_37 C hN hK hA hE hf hP hD hS (lv_sub hl [0, 1, 2] rfl)
  · replace hf := zif_t hf c1
    refine lv_iconst (v := 1) hx hb dX9_writeSecond_32 (by decide) ?_
    refine lv_goto (tgt := 37) hx hb dX9_writeSecond_33 (by decide) ?_
    exact wX9_writeSecond_37 C hN hK hA hE hf hP hD hS (lv_sub hl [0, 1, 2] rfl)
set_option maxHeartbeats 4000000 in
set_option maxRecDepth 100000 in
theorem wX9_writeSecond_12 {p : Program} {l : Launch} {e : Env} {s : State} {m : MethodId} {args : Array Value} {below : List Frame} {meth : Method} {c : Code} {D : va_G} {A : Nat → Prop} {Q : State → Prop} {cI : ClassId} {h_t h_t_now h_t_file h_t_fresh h_t_colour h_t_table h_t_last h_t_one : Nat} {t_wide : Int32} {t_high : Int32} {t_at : Int32} {t_fault : Int32} {t_newWide : Int32} {t_newHigh : Int32} {t_colours : Int32} {t_now : Nat → Int32} {t_fresh : Nat → Int32} {t_colour : Nat → Int32} {t_table : Nat → Int32} {t_last : Nat → Int32} {t_one : Nat → Int32} {zt_size : Int32} {zt_file : Nat → Int32} (C : CallFix p m c cX9_writeSecond 6 s args wsX9_writeSecond RX9) (hN : zN s) (hK : va_K D vwCl [(cI, .int)] s) (hA : ∀ q, s.heap.size ≤ q → A q) (hE : zEv p l e rmX9_writeSecond s m args below meth c cX9_writeSecond D A Q (zwX9 cI h_t h_t_now h_t_file h_t_fresh h_t_colour h_t_table h_t_last h_t_one t_wide t_high zt_size t_at t_fault t_newWide t_newHigh t_colours t_now zt_file t_fresh t_colour t_table t_last t_one)) {t_size : Int32} {t_file : Nat → Int32} {l1 : Int32} {k0 : Int32} {H : Heap} {locs : List Loc} {ls : Array Slot} : fX9_writeSecond_12 t_wide t_high t_size t_now t_file l1 k0 = some (zt_size, zt_file) → va_P D vwCl (zwX9 cI h_t h_t_now h_t_file h_t_fresh h_t_colour h_t_table h_t_last h_t_one t_wide t_high t_size t_at t_fault t_newWide t_newHigh t_colours t_now t_file t_fresh t_colour t_table t_last t_one) H → va_D A (zwX9 cI h_t h_t_now h_t_file h_t_fresh h_t_colour h_t_table h_t_last h_t_one t_wide t_high t_size t_at t_fault t_newWide t_newHigh t_colours t_now t_file t_fresh t_colour t_table t_last t_one) → va_S A s.heap H locs → lv_has ls 6 [(0, .ref h_t), (1, .int l1)] → W p l e rmX9_writeSecond s m args below meth c H locs 0 0 Q (F0 m 12 ls [.int k0]) := by
  intro hf hP hD hS hl
  obtain ⟨hx, hb, hml, hown, hts⟩ := id C
  unfold fX9_writeSecond_12 at hf
  refine lv_istore_n (lv' := [(2, .int k0), (0, .ref h_t), (1, .int l1)]) hx hb dX9_writeSecond_12 rfl hl (by decide) rfl (fun ls hl => ?_)
  refine lv_aload_n hx hb dX9_writeSecond_13 rfl (lv_at hl 1 rfl) ?_
  refine lv_bipush (v := 80) hx hb dX9_writeSecond_14 (by decide) ?_
  refine lv_iload_n hx hb dX9_writeSecond_16 rfl (lv_at hl 2 rfl) ?_
  refine lv_if_eq (tgt := 25) hx hb dX9_writeSecond_17 (by decide) (fun c1 => ?_) (fun c1 => ?_)
  · replace hf := zif_t hf c1
    refine lv_bipush (v := 53) hx hb dX9_writeSecond_25 (by decide) ?_
    exact wX9_writeSecond_27 C hN hK hA hE hf hP hD hS (lv_sub hl [1, 2, 0] rfl)
  · replace hf := zif_f hf c1
    refine lv_bipush (v := 50) hx hb dX9_writeSecond_20 (by decide) ?_
    refine lv_goto (tgt := 27) hx hb dX9_writeSecond_22 (by decide) ?_
    exact wX9_writeSecond_27 C hN hK hA hE hf hP hD hS (lv_sub hl [1, 2, 0] rfl)
set_option maxHeartbeats 4000000 in
set_option maxRecDepth 100000 in
theorem wX9_writeSecond_0 {p : Program} {l : Launch} {e : Env} {s : State} {m : MethodId} {args : Array Value} {below : List Frame} {meth : Method} {c : Code} {D : va_G} {A : Nat → Prop} {Q : State → Prop} {cI : ClassId} {h_t h_t_now h_t_file h_t_fresh h_t_colour h_t_table h_t_last h_t_one : Nat} {t_wide : Int32} {t_high : Int32} {t_at : Int32} {t_fault : Int32} {t_newWide : Int32} {t_newHigh : Int32} {t_colours : Int32} {t_now : Nat → Int32} {t_fresh : Nat → Int32} {t_colour : Nat → Int32} {t_table : Nat → Int32} {t_last : Nat → Int32} {t_one : Nat → Int32} {zt_size : Int32} {zt_file : Nat → Int32} (C : CallFix p m c cX9_writeSecond 6 s args wsX9_writeSecond RX9) (hN : zN s) (hK : va_K D vwCl [(cI, .int)] s) (hA : ∀ q, s.heap.size ≤ q → A q) (hE : zEv p l e rmX9_writeSecond s m args below meth c cX9_writeSecond D A Q (zwX9 cI h_t h_t_now h_t_file h_t_fresh h_t_colour h_t_table h_t_last h_t_one t_wide t_high zt_size t_at t_fault t_newWide t_newHigh t_colours t_now zt_file t_fresh t_colour t_table t_last t_one)) {t_size : Int32} {t_file : Nat → Int32} {v0 : Int32} {H : Heap} {locs : List Loc} {ls : Array Slot} : fX9_writeSecond t_wide t_high t_size t_now t_file v0 = some (zt_size, zt_file) → va_P D vwCl (zwX9 cI h_t h_t_now h_t_file h_t_fresh h_t_colour h_t_table h_t_last h_t_one t_wide t_high t_size t_at t_fault t_newWide t_newHigh t_colours t_now t_file t_fresh t_colour t_table t_last t_one) H → va_D A (zwX9 cI h_t h_t_now h_t_file h_t_fresh h_t_colour h_t_table h_t_last h_t_one t_wide t_high t_size t_at t_fault t_newWide t_newHigh t_colours t_now t_file t_fresh t_colour t_table t_last t_one) → va_S A s.heap H locs → lv_has ls 6 [(0, .ref h_t), (1, .int v0)] → W p l e rmX9_writeSecond s m args below meth c H locs 0 0 Q (F0 m 0 ls []) := by
  intro hf hP hD hS hl
  obtain ⟨hx, hb, hml, hown, hts⟩ := id C
  unfold fX9_writeSecond at hf
  refine lv_aload_n hx hb dX9_writeSecond_0 rfl (lv_at hl 0 rfl) ?_
  obtain ⟨r1, hc2, hf⟩ := zb1_in hf
  refine zc_i (va_runV (As := []) (rest := []) C (mX9_grey l D cI H.size h_t h_t_now h_t_file h_t_fresh h_t_colour h_t_table h_t_last h_t_one t_wide t_high t_size t_at t_fault t_newWide t_newHigh t_colours t_now t_file t_fresh t_colour t_table t_last t_one r1 hc2) (qX9_writeSecond_X9_grey_88 hts) ⟨zP_blind, va_recv hK hP (ci := 8) (q0 := 0) rfl rfl, zpre hK hN hP hD [0, 1, 2, 3, 4, 5, 6, 7] rfl rfl⟩ rfl rfl hl.1 rfl (lv_room (Nat.le_of_ble_eq_true rfl)) dX9_writeSecond_1 ⟨Nat.zero_le _, Nat.zero_le _⟩) hP hD hS hA [0, 1, 2, 3, 4, 5, 6, 7] [] [0, 1, 2, 3, 4, 5, 6, 7] (ws' := zwX9 cI h_t h_t_now h_t_file h_t_fresh h_t_colour h_t_table h_t_last h_t_one t_wide t_high t_size t_at t_fault t_newWide t_newHigh t_colours t_now t_file t_fresh t_colour t_table t_last t_one) rfl rfl rfl rfl rfl rfl (fun H locs hP hD hS => ?_)
  refine lv_if_eq (tgt := 11) hx hb dX9_writeSecond_4 (by decide) (fun c3 => ?_) (fun c3 => ?_)
  · replace hf := zif_t hf c3
    refine lv_iconst (v := 3) hx hb dX9_writeSecond_11 (by decide) ?_
    exact wX9_writeSecond_12 C hN hK hA hE hf hP hD hS (lv_sub hl [0, 1] rfl)
  · replace hf := zif_f hf c3
    refine lv_iconst (v := 1) hx hb dX9_writeSecond_7 (by decide) ?_
    refine lv_goto (tgt := 12) hx hb dX9_writeSecond_8 (by decide) ?_
    exact wX9_writeSecond_12 C hN hK hA hE hf hP hD hS (lv_sub hl [0, 1] rfl)
set_option maxHeartbeats 4000000 in
set_option maxRecDepth 100000 in
theorem mX9_writeSecond (l : Launch) (D : va_G) (cI : ClassId) (sz : Nat) (h_t h_t_now h_t_file h_t_fresh h_t_colour h_t_table h_t_last h_t_one : Nat) (t_wide : Int32) (t_high : Int32) (t_size : Int32) (t_at : Int32) (t_fault : Int32) (t_newWide : Int32) (t_newHigh : Int32) (t_colours : Int32) (t_now : Nat → Int32) (t_file : Nat → Int32) (t_fresh : Nat → Int32) (t_colour : Nat → Int32) (t_table : Nat → Int32) (t_last : Nat → Int32) (t_one : Nat → Int32) (v0 : Int32) (zt_size : Int32) (zt_file : Nat → Int32) (hf : fX9_writeSecond t_wide t_high t_size t_now t_file v0 = some (zt_size, zt_file)) : Met l yX9_writeSecond wsX9_writeSecond rmX9_writeSecond (va_Pc [.ref h_t, .int v0] (zP D [(cI, .int)] (zwX9 cI h_t h_t_now h_t_file h_t_fresh h_t_colour h_t_table h_t_last h_t_one t_wide t_high t_size t_at t_fault t_newWide t_newHigh t_colours t_now t_file t_fresh t_colour t_table t_last t_one) sz)) (zQv D (zwX9 cI h_t h_t_now h_t_file h_t_fresh h_t_colour h_t_table h_t_last h_t_one t_wide t_high t_size t_at t_fault t_newWide t_newHigh t_colours t_now t_file t_fresh t_colour t_table t_last t_one) sz (zwX9 cI h_t h_t_now h_t_file h_t_fresh h_t_colour h_t_table h_t_last h_t_one t_wide t_high zt_size t_at t_fault t_newWide t_newHigh t_colours t_now zt_file t_fresh t_colour t_table t_last t_one)) 0 0 (va_A (zwX9 cI h_t h_t_now h_t_file h_t_fresh h_t_colour h_t_table h_t_last h_t_one t_wide t_high t_size t_at t_fault t_newWide t_newHigh t_colours t_now t_file t_fresh t_colour t_table t_last t_one) sz) := by
  refine Met.ofW (cc := cX9_writeSecond) (maxL := 6) (ret := none) (by decide) rfl ?_
  intro p e s m args below meth c s₁ B hml hv
  obtain ⟨rfl, hsz, hP, hK, hD0, hN⟩ := hv
  subst hsz
  have C : CallFix p m c cX9_writeSecond 6 s [.ref h_t, .int v0].toArray wsX9_writeSecond RX9 := ⟨B.exec, B.bytes, hml, findClass_of_methodNamed B.named, atoms_spec (ws := wsX9_writeSecond) B.pre⟩
  have hl := lv_entry ([.ref h_t, .int v0]) (n := 6) (Nat.le_of_ble_eq_true rfl)
  rw [lg_entry_eq]
  exact wX9_writeSecond_0 (A := va_A (zwX9 cI h_t h_t_now h_t_file h_t_fresh h_t_colour h_t_table h_t_last h_t_one t_wide t_high t_size t_at t_fault t_newWide t_newHigh t_colours t_now t_file t_fresh t_colour t_table t_last t_one) s.heap.size) C hN hK (fun q h => Or.inr h) (fun H locs pc ls d hP hD hS => zend_v C.1 C.2.1 B.returns B.notSynchronized d hP hD hS) hf hP hD0.self va_S.rf hl
