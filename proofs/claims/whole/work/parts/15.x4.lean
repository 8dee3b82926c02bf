def fX4_isThatOf_55 : Option (Int32) :=
  some 1
def fX4_isThatOf_43 (l3 : Int32) : Option (Int32) :=
  if l3 = 24 then
    fX4_isThatOf_55
  else
    if l3 = 32 then
      fX4_isThatOf_55
    else
      some 0
def fX4_isThatOf_72 (l3 : Int32) : Option (Int32) :=
  if l3 = 8 then
    some 1
  else
    some 0
def fX4_isThatOf (f_size : Int32) (f_bytes : Nat → Int32) : Option (Int32) :=
  if f_size < 18 then
    some 0
  else
    zb1 (fX2_at f_size f_bytes 1) fun r2 =>
    if r2 = 0 then
      zb1 (fX2_at f_size f_bytes 2) fun r5 =>
      zb1 (fX2_at f_size f_bytes 16) fun r7 =>
      if r5 = 2 then
        fX4_isThatOf_43 r7
      else
        if r5 = 10 then
          fX4_isThatOf_43 r7
        else
          if r5 = 3 then
            fX4_isThatOf_72 r7
          else
            if r5 = 11 then
              fX4_isThatOf_72 r7
            else
              some 0
    else
      some 0
def fX4_canHold : Option (Int32) :=
  some 1
def fX4_alphaBits (t_depth : Int32) : Option (Int32) :=
  if t_depth = 32 then
    some 8
  else
    some 0
def fX4_writePixels_69 (rc3 : Int32 → Int32 → (Nat → Int32) → Int32 → (Nat → Int32) → Int32 → Int32 → Int32 → Option (Int32 × (Nat → Int32))) (t_depth : Int32) (p_wide : Int32) (p_pixels : Nat → Int32) (f_size : Int32) (f_bytes : Nat → Int32) (l2 : Int32) (l4 : Int32) (l6 : Int32) : Option (Int32 × (Nat → Int32)) :=
  zlet (l6 + 1) fun x1 =>
  rc3 t_depth p_wide p_pixels f_size f_bytes l2 l4 x1
def fX4_writePixels_49 (rc3 : Int32 → Int32 → (Nat → Int32) → Int32 → (Nat → Int32) → Int32 → Int32 → Int32 → Option (Int32 × (Nat → Int32))) (t_depth : Int32) (p_wide : Int32) (p_pixels : Nat → Int32) (f_size : Int32) (f_bytes : Nat → Int32) (l2 : Int32) (l4 : Int32) (l6 : Int32) (l7 : Int32) : Option (Int32 × (Nat → Int32)) :=
  if t_depth = 32 then
    zb1 (fX8_alpha l7) fun r2 =>
    zb3 (fX2_append f_size f_bytes r2) fun r4 u5 u6 =>
    fX4_writePixels_69 rc3 t_depth p_wide p_pixels u5 u6 l2 l4 l6
  else
    fX4_writePixels_69 rc3 t_depth p_wide p_pixels f_size f_bytes l2 l4 l6
def fX4_writePixels_3 : Nat → Int32 → Int32 → (Nat → Int32) → Int32 → (Nat → Int32) → Int32 → Int32 → Int32 → Option (Int32 × (Nat → Int32))
  | 0, _, _, _, _, _, _, _, _ => none
  | n + 1, t_depth, p_wide, p_pixels, f_size, f_bytes, l2, l4, l6 =>
    if l4 ≤ l6 then
      some (f_size, f_bytes)
    else
      zb1 (fX5_at p_wide p_pixels l6 l2) fun r2 =>
      if t_depth = 8 then
        zb1 (fX8_red r2) fun r8 =>
        zb3 (fX2_append f_size f_bytes r8) fun r10 u11 u12 =>
        fX4_writePixels_49 (fX4_writePixels_3 n) t_depth p_wide p_pixels u11 u12 l2 l4 l6 r2
      else
        zb2 (fX2_appendBlueGreenRed f_size f_bytes r2) fun u5 u6 =>
        fX4_writePixels_49 (fX4_writePixels_3 n) t_depth p_wide p_pixels u5 u6 l2 l4 l6 r2
theorem fX4_writePixels_3_s (n : Nat) (t_depth : Int32) (p_wide : Int32) (p_pixels : Nat → Int32) (f_size : Int32) (f_bytes : Nat → Int32) (l2 : Int32) (l4 : Int32) (l6 : Int32) : fX4_writePixels_3 (n + 1) t_depth p_wide p_pixels f_size f_bytes l2 l4 l6 =
    if l4 ≤ l6 then
      some (f_size, f_bytes)
    else
      zb1 (fX5_at p_wide p_pixels l6 l2) fun r2 =>
      if t_depth = 8 then
        zb1 (fX8_red r2) fun r8 =>
        zb3 (fX2_append f_size f_bytes r8) fun r10 u11 u12 =>
        fX4_writePixels_49 (fX4_writePixels_3 n) t_depth p_wide p_pixels u11 u12 l2 l4 l6 r2
      else
        zb2 (fX2_appendBlueGreenRed f_size f_bytes r2) fun u5 u6 =>
        fX4_writePixels_49 (fX4_writePixels_3 n) t_depth p_wide p_pixels u5 u6 l2 l4 l6 r2 := rfl
def fX4_writePixels (t_depth : Int32) (p_wide : Int32) (p_pixels : Nat → Int32) (f_size : Int32) (f_bytes : Nat → Int32) (v1 : Int32) (v2 : Int32) (v3 : Int32) : Option (Int32 × (Nat → Int32)) :=
  fX4_writePixels_3 1000 t_depth p_wide p_pixels f_size f_bytes v1 v3 v2
def fX4_isSameAsNext (p_wide : Int32) (p_high : Int32) (p_pixels : Nat → Int32) (v1 : Int32) (v2 : Int32) : Option (Int32) :=
  zb1 (fX5_has p_wide p_high (v1 + 1) v2) fun r1 =>
  if r1 = 0 then
    some 0
  else
    zb1 (fX5_at p_wide p_pixels v1 v2) fun r4 =>
    zb1 (fX5_at p_wide p_pixels (v1 + 1) v2) fun r6 =>
    if r4 = r6 then
      some 1
    else
      some 0
def fX4_endsPacket (p_wide : Int32) (p_high : Int32) (p_pixels : Nat → Int32) (v1 : Int32) (v2 : Int32) (v3 : Int32) : Option (Int32) :=
  if v3 = 0 then
    zb1 (fX4_isSameAsNext p_wide p_high p_pixels (v1 + 1) v2) fun r2 =>
    zbo r2 <|
    some r2
  else
    zb1 (fX4_isSameAsNext p_wide p_high p_pixels v1 v2) fun r5 =>
    if r5 = 0 then
      some 1
    else
      some 0
def fX4_writePackets_109 (rc6 : Int32 → Int32 → Int32 → (Nat → Int32) → Int32 → (Nat → Int32) → Int32 → Int32 → Int32 → Option (Int32 × (Nat → Int32))) (t_depth : Int32) (p_wide : Int32) (p_high : Int32) (p_pixels : Nat → Int32) (f_size : Int32) (f_bytes : Nat → Int32) (l2 : Int32) (l4 : Int32) (l5 : Int32) : Option (Int32 × (Nat → Int32)) :=
  zlet (l5 + 1) fun x1 =>
  rc6 t_depth p_wide p_high p_pixels f_size f_bytes l2 l4 x1
def fX4_writePackets_99 (rc6 : Int32 → Int32 → Int32 → (Nat → Int32) → Int32 → (Nat → Int32) → Int32 → Int32 → Int32 → Option (Int32 × (Nat → Int32))) (t_depth : Int32) (p_wide : Int32) (p_high : Int32) (p_pixels : Nat → Int32) (f_size : Int32) (f_bytes : Nat → Int32) (l2 : Int32) (l5 : Int32) (k2 : Int32) (k3 : Int32) (k4 : Int32) : Option (Int32 × (Nat → Int32)) :=
  zb2 (fX4_writePixels t_depth p_wide p_pixels f_size f_bytes k2 k3 k4) fun u1 u2 =>
  zlet (l5 + 1) fun x4 =>
  fX4_writePackets_109 rc6 t_depth p_wide p_high p_pixels u1 u2 l2 x4 l5
def fX4_writePackets_74 (rc6 : Int32 → Int32 → Int32 → (Nat → Int32) → Int32 → (Nat → Int32) → Int32 → Int32 → Int32 → Option (Int32 × (Nat → Int32))) (t_depth : Int32) (p_wide : Int32) (p_high : Int32) (p_pixels : Nat → Int32) (f_size : Int32) (f_bytes : Nat → Int32) (l2 : Int32) (l4 : Int32) (l5 : Int32) (l6 : Int32) (k1 : Int32) : Option (Int32 × (Nat → Int32)) :=
  zb3 (fX2_append f_size f_bytes k1) fun r1 u2 u3 =>
  if l6 = 0 then
    fX4_writePackets_99 rc6 t_depth p_wide p_high p_pixels u2 u3 l2 l5 l2 l4 (l5 + 1)
  else
    fX4_writePackets_99 rc6 t_depth p_wide p_high p_pixels u2 u3 l2 l5 l2 l4 (l4 + 1)
def fX4_writePackets_47 (rc6 : Int32 → Int32 → Int32 → (Nat → Int32) → Int32 → (Nat → Int32) → Int32 → Int32 → Int32 → Option (Int32 × (Nat → Int32))) (t_depth : Int32) (p_wide : Int32) (p_high : Int32) (p_pixels : Nat → Int32) (f_size : Int32) (f_bytes : Nat → Int32) (l2 : Int32) (l4 : Int32) (l5 : Int32) (l6 : Int32) : Option (Int32 × (Nat → Int32)) :=
  zlet ((l5 + 1) - l4) fun x1 =>
  if l6 = 0 then
    fX4_writePackets_74 rc6 t_depth p_wide p_high p_pixels f_size f_bytes l2 l4 l5 l6 (x1 - 1)
  else
    fX4_writePackets_74 rc6 t_depth p_wide p_high p_pixels f_size f_bytes l2 l4 l5 l6 (127 + x1)
def fX4_writePackets_6 : Nat → Int32 → Int32 → Int32 → (Nat → Int32) → Int32 → (Nat → Int32) → Int32 → Int32 → Int32 → Option (Int32 × (Nat → Int32))
  | 0, _, _, _, _, _, _, _, _, _ => none
  | n + 1, t_depth, p_wide, p_high, p_pixels, f_size, f_bytes, l2, l4, l5 =>
    if p_wide ≤ l5 then
      some (f_size, f_bytes)
    else
      zb1 (fX4_isSameAsNext p_wide p_high p_pixels l4 l2) fun r2 =>
      if (l5 + 1) = p_wide then
        fX4_writePackets_47 (fX4_writePackets_6 n) t_depth p_wide p_high p_pixels f_size f_bytes l2 l4 l5 r2
      else
        zb1 (fX4_endsPacket p_wide p_high p_pixels l5 l2 r2) fun r5 =>
        if r5 = 0 then
          fX4_writePackets_109 (fX4_writePackets_6 n) t_depth p_wide p_high p_pixels f_size f_bytes l2 l4 l5
        else
          fX4_writePackets_47 (fX4_writePackets_6 n) t_depth p_wide p_high p_pixels f_size f_bytes l2 l4 l5 r2
theorem fX4_writePackets_6_s (n : Nat) (t_depth : Int32) (p_wide : Int32) (p_high : Int32) (p_pixels : Nat → Int32) (f_size : Int32) (f_bytes : Nat → Int32) (l2 : Int32) (l4 : Int32) (l5 : Int32) : fX4_writePackets_6 (n + 1) t_depth p_wide p_high p_pixels f_size f_bytes l2 l4 l5 =
    if p_wide ≤ l5 then
      some (f_size, f_bytes)
    else
      zb1 (fX4_isSameAsNext p_wide p_high p_pixels l4 l2) fun r2 =>
      if (l5 + 1) = p_wide then
        fX4_writePackets_47 (fX4_writePackets_6 n) t_depth p_wide p_high p_pixels f_size f_bytes l2 l4 l5 r2
      else
        zb1 (fX4_endsPacket p_wide p_high p_pixels l5 l2 r2) fun r5 =>
        if r5 = 0 then
          fX4_writePackets_109 (fX4_writePackets_6 n) t_depth p_wide p_high p_pixels f_size f_bytes l2 l4 l5
        else
          fX4_writePackets_47 (fX4_writePackets_6 n) t_depth p_wide p_high p_pixels f_size f_bytes l2 l4 l5 r2 := rfl
def fX4_writePackets (t_depth : Int32) (p_wide : Int32) (p_high : Int32) (p_pixels : Nat → Int32) (f_size : Int32) (f_bytes : Nat → Int32) (v1 : Int32) : Option (Int32 × (Nat → Int32)) :=
  fX4_writePackets_6 1000 t_depth p_wide p_high p_pixels f_size f_bytes v1 0 0
def fX4_write_150 (rc113 : Int32 → Int32 → Int32 → (Nat → Int32) → Int32 → (Nat → Int32) → Int32 → Int32 → Option (Int32 × Int32 × (Nat → Int32))) (t_depth : Int32) (p_wide : Int32) (p_high : Int32) (p_pixels : Nat → Int32) (f_size : Int32) (f_bytes : Nat → Int32) (l2 : Int32) (l5 : Int32) : Option (Int32 × Int32 × (Nat → Int32)) :=
  zlet (l5 + 1) fun x1 =>
  rc113 t_depth p_wide p_high p_pixels f_size f_bytes l2 x1
def fX4_write_113 : Nat → Int32 → Int32 → Int32 → (Nat → Int32) → Int32 → (Nat → Int32) → Int32 → Int32 → Option (Int32 × Int32 × (Nat → Int32))
  | 0, _, _, _, _, _, _, _, _ => none
  | n + 1, t_depth, p_wide, p_high, p_pixels, f_size, f_bytes, l2, l5 =>
    if p_high ≤ l5 then
      some (t_depth, f_size, f_bytes)
    else
      if l2 = 0 then
        zb2 (fX4_writePixels t_depth p_wide p_pixels f_size f_bytes l5 0 p_wide) fun u6 u7 =>
        fX4_write_150 (fX4_write_113 n) t_depth p_wide p_high p_pixels u6 u7 l2 l5
      else
        zb2 (fX4_writePackets t_depth p_wide p_high p_pixels f_size f_bytes l5) fun u3 u4 =>
        fX4_write_150 (fX4_write_113 n) t_depth p_wide p_high p_pixels u3 u4 l2 l5
theorem fX4_write_113_s (n : Nat) (t_depth : Int32) (p_wide : Int32) (p_high : Int32) (p_pixels : Nat → Int32) (f_size : Int32) (f_bytes : Nat → Int32) (l2 : Int32) (l5 : Int32) : fX4_write_113 (n + 1) t_depth p_wide p_high p_pixels f_size f_bytes l2 l5 =
    if p_high ≤ l5 then
      some (t_depth, f_size, f_bytes)
    else
      if l2 = 0 then
        zb2 (fX4_writePixels t_depth p_wide p_pixels f_size f_bytes l5 0 p_wide) fun u6 u7 =>
        fX4_write_150 (fX4_write_113 n) t_depth p_wide p_high p_pixels u6 u7 l2 l5
      else
        zb2 (fX4_writePackets t_depth p_wide p_high p_pixels f_size f_bytes l5) fun u3 u4 =>
        fX4_write_150 (fX4_write_113 n) t_depth p_wide p_high p_pixels u3 u4 l2 l5 := rfl
def fX4_write_60 (t_depth : Int32) (p_wide : Int32) (p_high : Int32) (p_pixels : Nat → Int32) (f_size : Int32) (f_bytes : Nat → Int32) (l2 : Int32) (k1 : Int32) (k2 : Int32) : Option (Int32 × Int32 × (Nat → Int32)) :=
  zb3 (fX2_append f_size f_bytes (k1 + k2)) fun r1 u2 u3 =>
  zb2 (fX2_appendZeros u2 u3 9) fun u5 u6 =>
  zb2 (fX2_appendLittle u5 u6 2 p_wide) fun u8 u9 =>
  zb2 (fX2_appendLittle u8 u9 2 p_high) fun u11 u12 =>
  zb3 (fX2_append u11 u12 t_depth) fun r14 u15 u16 =>
  zb1 (fX4_alphaBits t_depth) fun r18 =>
  zb3 (fX2_append u15 u16 (32 + r18)) fun r20 u21 u22 =>
  fX4_write_113 1000 t_depth p_wide p_high p_pixels u21 u22 l2 0
def fX4_write_50 (t_depth : Int32) (p_wide : Int32) (p_high : Int32) (p_pixels : Nat → Int32) (f_size : Int32) (f_bytes : Nat → Int32) (l2 : Int32) (k1 : Int32) : Option (Int32 × Int32 × (Nat → Int32)) :=
  if l2 = 0 then
    fX4_write_60 t_depth p_wide p_high p_pixels f_size f_bytes l2 k1 0
  else
    fX4_write_60 t_depth p_wide p_high p_pixels f_size f_bytes l2 k1 8
def fX4_write_31 (p_wide : Int32) (p_high : Int32) (p_pixels : Nat → Int32) (f_size : Int32) (f_bytes : Nat → Int32) (l2 : Int32) (l4 : Int32) (k1 : Int32) : Option (Int32 × Int32 × (Nat → Int32)) :=
  zb2 (fX2_appendZeros f_size f_bytes 2) fun u1 u2 =>
  if l4 = 0 then
    fX4_write_50 k1 p_wide p_high p_pixels u1 u2 l2 2
  else
    fX4_write_50 k1 p_wide p_high p_pixels u1 u2 l2 3
def fX4_write (p_wide : Int32) (p_high : Int32) (p_pixels : Nat → Int32) (f_size : Int32) (f_bytes : Nat → Int32) (v1 : Int32) : Option (Int32 × Int32 × (Nat → Int32)) :=
  zb1 (fX5_isGrey p_wide p_high p_pixels) fun r1 =>
  if r1 = 0 then
    zb1 (fX5_isOpaque p_wide p_high p_pixels) fun r4 =>
    if r4 = 0 then
      fX4_write_31 p_wide p_high p_pixels f_size f_bytes v1 r1 32
    else
      fX4_write_31 p_wide p_high p_pixels f_size f_bytes v1 r1 24
  else
    fX4_write_31 p_wide p_high p_pixels f_size f_bytes v1 r1 8
def rmX4_isThatOf : Room := { frames := 1, cells := 0, slots := 0, locals := 21 }
theorem iX4_isThatOf_X2 : ∀ w ∈ u_ws RX2 TX2 2, w ∈ wsX4_isThatOf := by decide +kernel
theorem qX4_isThatOf_X2_at_15 {args : Array Value} {s : State} (hts : ∀ w ∈ wsX4_isThatOf, w.before args s = true) : CallW rmX4_isThatOf s args RX4 RX2 15 yX2_at cX2_at 2 (some .int) wsX2_at rmX2_at 0 0 1 := cwV 1 hts gX4_isThatOf_X2_at rfl rfl rfl (by decide +kernel) ⟨Nat.le_of_ble_eq_true rfl, Nat.le_of_ble_eq_true rfl⟩
set_option maxHeartbeats 4000000 in
set_option maxRecDepth 100000 in
theorem wX4_isThatOf_55 {p : Program} {l : Launch} {e : Env} {s : State} {m : MethodId} {args : Array Value} {below : List Frame} {meth : Method} {c : Code} {D : va_G} {A : Nat → Prop} {Q : State → Prop} {cI : ClassId} {h_t h_f h_f_bytes : Nat} {t_depth : Int32} {t_left : Int32} {t_isRepeated : Int32} {t_held : Int32} {f_size : Int32} {f_bytes : Nat → Int32} {r0 : Int32} (C : CallFix p m c cX4_isThatOf 4 s args wsX4_isThatOf RX4) (hN : zN s) (hK : va_K D vwCl [(cI, .int)] s) (hA : ∀ q, s.heap.size ≤ q → A q) (hE : zEz p l e rmX4_isThatOf s m args below meth c cX4_isThatOf D A Q (zwX4 cI h_t t_depth t_left t_isRepeated t_held ++ zwX2 cI h_f h_f_bytes f_size f_bytes) r0) {l2 : Int32} {l3 : Int32} {H : Heap} {locs : List Loc} {ls : Array Slot} : fX4_isThatOf_55 = some r0 → va_P D vwCl (zwX4 cI h_t t_depth t_left t_isRepeated t_held ++ zwX2 cI h_f h_f_bytes f_size f_bytes) H → va_D A (zwX4 cI h_t t_depth t_left t_isRepeated t_held ++ zwX2 cI h_f h_f_bytes f_size f_bytes) → va_S A s.heap H locs → lv_has ls 4 [(0, .ref h_t), (1, .ref h_f), (2, .int l2), (3, .int l3)] → W p l e rmX4_isThatOf s m args below meth c H locs 0 0 Q (F0 m 55 ls []) := by
  intro hf hP hD hS hl
  obtain ⟨hx, hb, hml, hown, hts⟩ := id C
  unfold fX4_isThatOf_55 at hf
  refine lv_iconst (v := 1) hx hb dX4_isThatOf_55 (by decide) ?_
  refine lv_goto (tgt := 60) hx hb dX4_isThatOf_56 (by decide) ?_
  cases hf
  exact hE _ _ _ _ dX4_isThatOf_60 rfl hP hD hS
set_option maxHeartbeats 4000000 in
set_option maxRecDepth 100000 in
theorem wX4_isThatOf_43 {p : Program} {l : Launch} {e : Env} {s : State} {m : MethodId} {args : Array Value} {below : List Frame} {meth : Method} {c : Code} {D : va_G} {A : Nat → Prop} {Q : State → Prop} {cI : ClassId} {h_t h_f h_f_bytes : Nat} {t_depth : Int32} {t_left : Int32} {t_isRepeated : Int32} {t_held : Int32} {f_size : Int32} {f_bytes : Nat → Int32} {r0 : Int32} (C : CallFix p m c cX4_isThatOf 4 s args wsX4_isThatOf RX4) (hN : zN s) (hK : va_K D vwCl [(cI, .int)] s) (hA : ∀ q, s.heap.size ≤ q → A q) (hE : zEz p l e rmX4_isThatOf s m args below meth c cX4_isThatOf D A Q (zwX4 cI h_t t_depth t_left t_isRepeated t_held ++ zwX2 cI h_f h_f_bytes f_size f_bytes) r0) {l2 : Int32} {l3 : Int32} {H : Heap} {locs : List Loc} {ls : Array Slot} : fX4_isThatOf_43 l3 = some r0 → va_P D vwCl (zwX4 cI h_t t_depth t_left t_isRepeated t_held ++ zwX2 cI h_f h_f_bytes f_size f_bytes) H → va_D A (zwX4 cI h_t t_depth t_left t_isRepeated t_held ++ zwX2 cI h_f h_f_bytes f_size f_bytes) → va_S A s.heap H locs → lv_has ls 4 [(0, .ref h_t), (1, .ref h_f), (2, .int l2), (3, .int l3)] → W p l e rmX4_isThatOf s m args below meth c H locs 0 0 Q (F0 m 43 ls []) := by
  intro hf hP hD hS hl
  obtain ⟨hx, hb, hml, hown, hts⟩ := id C
  unfold fX4_isThatOf_43 at hf
  refine lv_iload_n hx hb dX4_isThatOf_43 rfl (lv_at hl 3 rfl) ?_
  refine lv_bipush (v := 24) hx hb dX4_isThatOf_44 (by decide) ?_
  refine lv_icmp_eq (tgt := 55) hx hb dX4_isThatOf_46 (by decide) (fun c1 => ?_) (fun c1 => ?_)
  · replace hf := zif_t hf c1
    exact wX4_isThatOf_55 C hN hK hA hE hf hP hD hS (lv_sub hl [0, 1, 2, 3] rfl)
  · replace hf := zif_f hf c1
    refine lv_iload_n hx hb dX4_isThatOf_49 rfl (lv_at hl 3 rfl) ?_
    refine lv_bipush (v := 32) hx hb dX4_isThatOf_50 (by decide) ?_
    refine lv_icmp_ne (tgt := 59) hx hb dX4_isThatOf_52 (by decide) (fun c2 => ?_) (fun c2 => ?_)
    · replace hf := zif_f hf c2
      refine lv_iconst (v := 0) hx hb dX4_isThatOf_59 (by decide) ?_
      cases hf
      exact hE _ _ _ _ dX4_isThatOf_60 rfl hP hD hS
    · replace hf := zif_t hf c2
      exact wX4_isThatOf_55 C hN hK hA hE hf hP hD hS (lv_sub hl [0, 1, 2, 3] rfl)
set_option maxHeartbeats 4000000 in
set_option maxRecDepth 100000 in
theorem wX4_isThatOf_72 {p : Program} {l : Launch} {e : Env} {s : State} {m : MethodId} {args : Array Value} {below : List Frame} {meth : Method} {c : Code} {D : va_G} {A : Nat → Prop} {Q : State → Prop} {cI : ClassId} {h_t h_f h_f_bytes : Nat} {t_depth : Int32} {t_left : Int32} {t_isRepeated : Int32} {t_held : Int32} {f_size : Int32} {f_bytes : Nat → Int32} {r0 : Int32} (C : CallFix p m c cX4_isThatOf 4 s args wsX4_isThatOf RX4) (hN : zN s) (hK : va_K D vwCl [(cI, .int)] s) (hA : ∀ q, s.heap.size ≤ q → A q) (hE : zEz p l e rmX4_isThatOf s m args below meth c cX4_isThatOf D A Q (zwX4 cI h_t t_depth t_left t_isRepeated t_held ++ zwX2 cI h_f h_f_bytes f_size f_bytes) r0) {l2 : Int32} {l3 : Int32} {H : Heap} {locs : List Loc} {ls : Array Slot} : fX4_isThatOf_72 l3 = some r0 → va_P D vwCl (zwX4 cI h_t t_depth t_left t_isRepeated t_held ++ zwX2 cI h_f h_f_bytes f_size f_bytes) H → va_D A (zwX4 cI h_t t_depth t_left t_isRepeated t_held ++ zwX2 cI h_f h_f_bytes f_size f_bytes) → va_S A s.heap H locs → lv_has ls 4 [(0, .ref h_t), (1, .ref h_f), (2, .int l2), (3, .int l3)] → W p l e rmX4_isThatOf s m args below meth c H locs 0 0 Q (F0 m 72 ls []) := by
  intro hf hP hD hS hl
  obtain ⟨hx, hb, hml, hown, hts⟩ := id C
  unfold fX4_isThatOf_72 at hf
  refine lv_iload_n hx hb dX4_isThatOf_72 rfl (lv_at hl 3 rfl) ?_
  refine lv_bipush (v := 8) hx hb dX4_isThatOf_73 (by decide) ?_
  refine lv_icmp_ne (tgt := 82) hx hb dX4_isThatOf_75 (by decide) (fun c1 => ?_) (fun c1 => ?_)
  · replace hf := zif_f hf c1
    refine lv_iconst (v := 0) hx hb dX4_isThatOf_82 (by decide) ?_
    cases hf
    exact hE _ _ _ _ dX4_isThatOf_83 rfl hP hD hS
  · replace hf := zif_t hf c1
    refine lv_iconst (v := 1) hx hb dX4_isThatOf_78 (by decide) ?_
    refine lv_goto (tgt := 83) hx hb dX4_isThatOf_79 (by decide) ?_
    cases hf
    exact hE _ _ _ _ dX4_isThatOf_83 rfl hP hD hS
set_option maxHeartbeats 4000000 in
set_option maxRecDepth 100000 in
theorem wX4_isThatOf_0 {p : Program} {l : Launch} {e : Env} {s : State} {m : MethodId} {args : Array Value} {below : List Frame} {meth : Method} {c : Code} {D : va_G} {A : Nat → Prop} {Q : State → Prop} {cI : ClassId} {h_t h_f h_f_bytes : Nat} {t_depth : Int32} {t_left : Int32} {t_isRepeated : Int32} {t_held : Int32} {f_size : Int32} {f_bytes : Nat → Int32} {r0 : Int32} (C : CallFix p m c cX4_isThatOf 4 s args wsX4_isThatOf RX4) (hN : zN s) (hK : va_K D vwCl [(cI, .int)] s) (hA : ∀ q, s.heap.size ≤ q → A q) (hE : zEz p l e rmX4_isThatOf s m args below meth c cX4_isThatOf D A Q (zwX4 cI h_t t_depth t_left t_isRepeated t_held ++ zwX2 cI h_f h_f_bytes f_size f_bytes) r0) {H : Heap} {locs : List Loc} {ls : Array Slot} : fX4_isThatOf f_size f_bytes = some r0 → va_P D vwCl (zwX4 cI h_t t_depth t_left t_isRepeated t_held ++ zwX2 cI h_f h_f_bytes f_size f_bytes) H → va_D A (zwX4 cI h_t t_depth t_left t_isRepeated t_held ++ zwX2 cI h_f h_f_bytes f_size f_bytes) → va_S A s.heap H locs → lv_has ls 4 [(0, .ref h_t), (1, .ref h_f)] → W p l e rmX4_isThatOf s m args below meth c H locs 0 0 Q (F0 m 0 ls []) := by
  intro hf hP hD hS hl
  obtain ⟨hx, hb, hml, hown, hts⟩ := id C
  unfold fX4_isThatOf at hf
  refine lv_aload_n hx hb dX4_isThatOf_0 rfl (lv_at hl 1 rfl) ?_
  refine va_getN (D := D) (ci := 2) (v := .int f_size) (C := RX2) (T := TX2) (N := 2) hx hb hts iX4_isThatOf_X2 hown hK hP 1 rfl rfl 1 (by decide) (hN.at 16 rfl) (fun _ h9 => h9) rfl dX4_isThatOf_1 ?_
  refine lv_bipush (v := 18) hx hb dX4_isThatOf_4 (by decide) ?_
  refine lv_icmp_lt (tgt := 17) hx hb dX4_isThatOf_6 (by decide) (fun c1 => ?_) (fun c1 => ?_)
  · replace hf := zif_t hf c1
    refine lv_iconst (v := 0) hx hb dX4_isThatOf_17 (by decide) ?_
    cases hf
    exact hE _ _ _ _ dX4_isThatOf_18 rfl hP hD hS
  · replace hf := zif_f hf c1
    refine lv_aload_n hx hb dX4_isThatOf_9 rfl (lv_at hl 1 rfl) ?_
    refine lv_iconst (v := 1) hx hb dX4_isThatOf_10 (by decide) ?_
    obtain ⟨r2, hc3, hf⟩ := zb1_in hf
    refine zc_i (va_runV (As := [.int 1]) (rest := []) C (mX2_at l D cI H.size h_f h_f_bytes f_size f_bytes 1 r2 hc3) (qX4_isThatOf_X2_at_15 hts) ⟨zP_blind, va_recv hK hP (ci := 2) (q0 := 1) rfl rfl, zpre hK hN hP hD [1, 2] rfl rfl⟩ rfl rfl hl.1 rfl (lv_room (Nat.le_of_ble_eq_true rfl)) dX4_isThatOf_11 ⟨Nat.zero_le _, Nat.zero_le _⟩) hP hD hS hA [1, 2] [0] [0, 1, 2] (ws' := zwX4 cI h_t t_depth t_left t_isRepeated t_held ++ zwX2 cI h_f h_f_bytes f_size f_bytes) rfl rfl rfl rfl rfl rfl (fun H locs hP hD hS => ?_)
    refine lv_if_eq (tgt := 19) hx hb dX4_isThatOf_14 (by decide) (fun c4 => ?_) (fun c4 => ?_)
    · replace hf := zif_t hf c4
      refine lv_aload_n hx hb dX4_isThatOf_19 rfl (lv_at hl 1 rfl) ?_
      refine lv_iconst (v := 2) hx hb dX4_isThatOf_20 (by decide) ?_
      obtain ⟨r5, hc6, hf⟩ := zb1_in hf
      refine zc_i (va_runV (As := [.int 2]) (rest := []) C (mX2_at l D cI H.size h_f h_f_bytes f_size f_bytes 2 r5 hc6) (qX4_isThatOf_X2_at_15 hts) ⟨zP_blind, va_recv hK hP (ci := 2) (q0 := 1) rfl rfl, zpre hK hN hP hD [1, 2] rfl rfl⟩ rfl rfl hl.1 rfl (lv_room (Nat.le_of_ble_eq_true rfl)) dX4_isThatOf_21 ⟨Nat.zero_le _, Nat.zero_le _⟩) hP hD hS hA [1, 2] [0] [0, 1, 2] (ws' := zwX4 cI h_t t_depth t_left t_isRepeated t_held ++ zwX2 cI h_f h_f_bytes f_size f_bytes) rfl rfl rfl rfl rfl rfl (fun H locs hP hD hS => ?_)
      refine lv_istore_n (lv' := [(2, .int r5), (0, .ref h_t), (1, .ref h_f)]) hx hb dX4_isThatOf_24 rfl hl (by decide) rfl (fun ls hl => ?_)
      refine lv_aload_n hx hb dX4_isThatOf_25 rfl (lv_at hl 2 rfl) ?_
      refine lv_bipush (v := 16) hx hb dX4_isThatOf_26 (by decide) ?_
      obtain ⟨r7, hc8, hf⟩ := zb1_in hf
      refine zc_i (va_runV (As := [.int 16]) (rest := []) C (mX2_at l D cI H.size h_f h_f_bytes f_size f_bytes 16 r7 hc8) (qX4_isThatOf_X2_at_15 hts) ⟨zP_blind, va_recv hK hP (ci := 2) (q0 := 1) rfl rfl, zpre hK hN hP hD [1, 2] rfl rfl⟩ rfl rfl hl.1 rfl (lv_room (Nat.le_of_ble_eq_true rfl)) dX4_isThatOf_28 ⟨Nat.zero_le _, Nat.zero_le _⟩) hP hD hS hA [1, 2] [0] [0, 1, 2] (ws' := zwX4 cI h_t t_depth t_left t_isRepeated t_held ++ zwX2 cI h_f h_f_bytes f_size f_bytes) rfl rfl rfl rfl rfl rfl (fun H locs hP hD hS => ?_)
      refine lv_istore_n (lv' := [(3, .int r7), (2, .int r5), (0, .ref h_t), (1, .ref h_f)]) hx hb dX4_isThatOf_31 rfl hl (by decide) rfl (fun ls hl => ?_)
      refine lv_iload_n hx hb dX4_isThatOf_32 rfl (lv_at hl 1 rfl) ?_
      refine lv_iconst (v := 2) hx hb dX4_isThatOf_33 (by decide) ?_
      refine lv_icmp_eq (tgt := 43) hx hb dX4_isThatOf_34 (by decide) (fun c9 => ?_) (fun c9 => ?_)
      · replace hf := zif_t hf c9
        exact wX4_isThatOf_43 C hN hK hA hE hf hP hD hS (lv_sub hl [2, 3, 1, 0] rfl)
      · replace hf := zif_f hf c9
        refine lv_iload_n hx hb dX4_isThatOf_37 rfl (lv_at hl 1 rfl) ?_
        refine lv_bipush (v := 10) hx hb dX4_isThatOf_38 (by decide) ?_
        refine lv_icmp_ne (tgt := 61) hx hb dX4_isThatOf_40 (by decide) (fun c10 => ?_) (fun c10 => ?_)
        · replace hf := zif_f hf c10
          refine lv_iload_n hx hb dX4_isThatOf_61 rfl (lv_at hl 1 rfl) ?_
          refine lv_iconst (v := 3) hx hb dX4_isThatOf_62 (by decide) ?_
          refine lv_icmp_eq (tgt := 72) hx hb dX4_isThatOf_63 (by decide) (fun c11 => ?_) (fun c11 => ?_)
          · replace hf := zif_t hf c11
            exact wX4_isThatOf_72 C hN hK hA hE hf hP hD hS (lv_sub hl [2, 3, 1, 0] rfl)
          · replace hf := zif_f hf c11
            refine lv_iload_n hx hb dX4_isThatOf_66 rfl (lv_at hl 1 rfl) ?_
            refine lv_bipush (v := 11) hx hb dX4_isThatOf_67 (by decide) ?_
            refine lv_icmp_ne (tgt := 82) hx hb dX4_isThatOf_69 (by decide) (fun c12 => ?_) (fun c12 => ?_)
            · replace hf := zif_f hf c12
              refine lv_iconst (v := 0) hx hb dX4_isThatOf_82 (by decide) ?_
              cases hf
              exact hE _ _ _ _ dX4_isThatOf_83 rfl hP hD hS
            · replace hf := zif_t hf c12
              exact wX4_isThatOf_72 C hN hK hA hE hf hP hD hS (lv_sub hl [2, 3, 1, 0] rfl)
        · replace hf := zif_t hf c10
          exact wX4_isThatOf_43 C hN hK hA hE hf hP hD hS (lv_sub hl [2, 3, 1, 0] rfl)
    · replace hf := zif_f hf c4
      refine lv_iconst (v := 0) hx hb dX4_isThatOf_17 (by decide) ?_
      cases hf
      exact hE _ _ _ _ dX4_isThatOf_18 rfl hP hD hS
set_option maxHeartbeats 4000000 in
set_option maxRecDepth 100000 in
theorem mX4_isThatOf (l : Launch) (D : va_G) (cI : ClassId) (sz : Nat) (h_t h_f h_f_bytes : Nat) (t_depth : Int32) (t_left : Int32) (t_isRepeated : Int32) (t_held : Int32) (f_size : Int32) (f_bytes : Nat → Int32) (r0 : Int32) (hf : fX4_isThatOf f_size f_bytes = some r0) : Met l yX4_isThatOf wsX4_isThatOf rmX4_isThatOf (va_Pc [.ref h_t, .ref h_f] (zP D [(cI, .int)] (zwX4 cI h_t t_depth t_left t_isRepeated t_held ++ zwX2 cI h_f h_f_bytes f_size f_bytes) sz)) (zQi D (zwX4 cI h_t t_depth t_left t_isRepeated t_held ++ zwX2 cI h_f h_f_bytes f_size f_bytes) sz r0 (zwX4 cI h_t t_depth t_left t_isRepeated t_held ++ zwX2 cI h_f h_f_bytes f_size f_bytes)) 0 0 (va_A (zwX4 cI h_t t_depth t_left t_isRepeated t_held ++ zwX2 cI h_f h_f_bytes f_size f_bytes) sz) := by
  refine Met.ofW (cc := cX4_isThatOf) (maxL := 4) (ret := (some .boolean)) (by decide) rfl ?_
  intro p e s m args below meth c s₁ B hml hv
  obtain ⟨rfl, hsz, hP, hK, hD0, hN⟩ := hv
  subst hsz
  have C : CallFix p m c cX4_isThatOf 4 s [.ref h_t, .ref h_f].toArray wsX4_isThatOf RX4 := ⟨B.exec, B.bytes, hml, findClass_of_methodNamed B.named, atoms_spec (ws := wsX4_isThatOf) B.pre⟩
  have hl := lv_entry ([.ref h_t, .ref h_f]) (n := 4) (Nat.le_of_ble_eq_true rfl)
  rw [lg_entry_eq]
  exact wX4_isThatOf_0 (A := va_A (zwX4 cI h_t t_depth t_left t_isRepeated t_held ++ zwX2 cI h_f h_f_bytes f_size f_bytes) s.heap.size) C hN hK (fun q h => Or.inr h) (fun H locs pc ls d hn hP hD hS => zend_z C.1 C.2.1 B.returns B.notSynchronized d hn hP hD hS) hf hP hD0.self va_S.rf hl
def rmX4_canHold : Room := { frames := 0, cells := 0, slots := 0, locals := 0 }
set_option maxHeartbeats 4000000 in
set_option maxRecDepth 100000 in
theorem wX4_canHold_0 {p : Program} {l : Launch} {e : Env} {s : State} {m : MethodId} {args : Array Value} {below : List Frame} {meth : Method} {c : Code} {D : va_G} {A : Nat → Prop} {Q : State → Prop} {cI : ClassId} {h_t h_p h_p_pixels : Nat} {t_depth : Int32} {t_left : Int32} {t_isRepeated : Int32} {t_held : Int32} {p_wide : Int32} {p_high : Int32} {p_pixels : Nat → Int32} {r0 : Int32} (C : CallFix p m c cX4_canHold 2 s args wsX4_canHold RX4) (hN : zN s) (hK : va_K D vwCl [(cI, .int)] s) (hA : ∀ q, s.heap.size ≤ q → A q) (hE : zEz p l e rmX4_canHold s m args below meth c cX4_canHold D A Q (zwX4 cI h_t t_depth t_left t_isRepeated t_held ++ zwX5 cI h_p h_p_pixels p_wide p_high p_pixels) r0) {H : Heap} {locs : List Loc} {ls : Array Slot} : fX4_canHold = some r0 → va_P D vwCl (zwX4 cI h_t t_depth t_left t_isRepeated t_held ++ zwX5 cI h_p h_p_pixels p_wide p_high p_pixels) H → va_D A (zwX4 cI h_t t_depth t_left t_isRepeated t_held ++ zwX5 cI h_p h_p_pixels p_wide p_high p_pixels) → va_S A s.heap H locs → lv_has ls 2 [(0, .ref h_t), (1, .ref h_p)] → W p l e rmX4_canHold s m args below meth c H locs 0 0 Q (F0 m 0 ls []) := by
  intro hf hP hD hS hl
  obtain ⟨hx, hb, hml, hown, hts⟩ := id C
  unfold fX4_canHold at hf
  refine lv_iconst (v := 1) hx hb dX4_canHold_0 (by decide) ?_
  cases hf
  exact hE _ _ _ _ dX4_canHold_1 rfl hP hD hS
set_option maxHeartbeats 4000000 in
set_option maxRecDepth 100000 in
theorem mX4_canHold (l : Launch) (D : va_G) (cI : ClassId) (sz : Nat) (h_t h_p h_p_pixels : Nat) (t_depth : Int32) (t_left : Int32) (t_isRepeated : Int32) (t_held : Int32) (p_wide : Int32) (p_high : Int32) (p_pixels : Nat → Int32) (r0 : Int32) (hf : fX4_canHold = some r0) : Met l yX4_canHold wsX4_canHold rmX4_canHold (va_Pc [.ref h_t, .ref h_p] (zP D [(cI, .int)] (zwX4 cI h_t t_depth t_left t_isRepeated t_held ++ zwX5 cI h_p h_p_pixels p_wide p_high p_pixels) sz)) (zQi D (zwX4 cI h_t t_depth t_left t_isRepeated t_held ++ zwX5 cI h_p h_p_pixels p_wide p_high p_pixels) sz r0 (zwX4 cI h_t t_depth t_left t_isRepeated t_held ++ zwX5 cI h_p h_p_pixels p_wide p_high p_pixels)) 0 0 (va_A (zwX4 cI h_t t_depth t_left t_isRepeated t_held ++ zwX5 cI h_p h_p_pixels p_wide p_high p_pixels) sz) := by
  refine Met.ofW (cc := cX4_canHold) (maxL := 2) (ret := (some .boolean)) (by decide) rfl ?_
  intro p e s m args below meth c s₁ B hml hv
  obtain ⟨rfl, hsz, hP, hK, hD0, hN⟩ := hv
  subst hsz
  have C : CallFix p m c cX4_canHold 2 s [.ref h_t, .ref h_p].toArray wsX4_canHold RX4 := ⟨B.exec, B.bytes, hml, findClass_of_methodNamed B.named, atoms_spec (ws := wsX4_canHold) B.pre⟩
  have hl := lv_entry ([.ref h_t, .ref h_p]) (n := 2) (Nat.le_of_ble_eq_true rfl)
  rw [lg_entry_eq]
  exact wX4_canHold_0 (A := va_A (zwX4 cI h_t t_depth t_left t_isRepeated t_held ++ zwX5 cI h_p h_p_pixels p_wide p_high p_pixels) s.heap.size) C hN hK (fun q h => Or.inr h) (fun H locs pc ls d hn hP hD hS => zend_z C.1 C.2.1 B.returns B.notSynchronized d hn hP hD hS) hf hP hD0.self va_S.rf hl
def rmX4_alphaBits : Room := { frames := 0, cells := 0, slots := 0, locals := 0 }
theorem kX4_alphaBits_28 {args : Array Value} {s : State} (h : ∀ w ∈ wsX4_alphaBits, w.before args s = true) : (Cond.fieldLink RX4 28 "FourPictureFiles$PacketFormat" "depth" "I").before args s = true := h _ (by decide +kernel)
theorem iX4_alphaBits_X4 : ∀ w ∈ u_ws RX4 TX4 4, w ∈ wsX4_alphaBits := by decide +kernel
set_option maxHeartbeats 4000000 in
set_option maxRecDepth 100000 in
theorem wX4_alphaBits_0 {p : Program} {l : Launch} {e : Env} {s : State} {m : MethodId} {args : Array Value} {below : List Frame} {meth : Method} {c : Code} {D : va_G} {A : Nat → Prop} {Q : State → Prop} {cI : ClassId} {h_t : Nat} {t_depth : Int32} {t_left : Int32} {t_isRepeated : Int32} {t_held : Int32} {r0 : Int32} (C : CallFix p m c cX4_alphaBits 1 s args wsX4_alphaBits RX4) (hN : zN s) (hK : va_K D vwCl [(cI, .int)] s) (hA : ∀ q, s.heap.size ≤ q → A q) (hE : zEi p l e rmX4_alphaBits s m args below meth c cX4_alphaBits D A Q (zwX4 cI h_t t_depth t_left t_isRepeated t_held) r0) {H : Heap} {locs : List Loc} {ls : Array Slot} : fX4_alphaBits t_depth = some r0 → va_P D vwCl (zwX4 cI h_t t_depth t_left t_isRepeated t_held) H → va_D A (zwX4 cI h_t t_depth t_left t_isRepeated t_held) → va_S A s.heap H locs → lv_has ls 1 [(0, .ref h_t)] → W p l e rmX4_alphaBits s m args below meth c H locs 0 0 Q (F0 m 0 ls []) := by
  intro hf hP hD hS hl
  obtain ⟨hx, hb, hml, hown, hts⟩ := id C
  unfold fX4_alphaBits at hf
  refine lv_aload_n hx hb dX4_alphaBits_0 rfl (lv_at hl 0 rfl) ?_
  refine va_get (D := D) (ci := 3) (v := .int t_depth) (C := RX4) (T := TX4) (N := 4) hx hb hts iX4_alphaBits_X4 hown hK hP 0 rfl rfl 0 (by decide) (kX4_alphaBits_28 hts) (fun _ h9 => h9) rfl dX4_alphaBits_1 ?_
  refine lv_bipush (v := 32) hx hb dX4_alphaBits_4 (by decide) ?_
  refine lv_icmp_ne (tgt := 14) hx hb dX4_alphaBits_6 (by decide) (fun c1 => ?_) (fun c1 => ?_)
  · replace hf := zif_f hf c1
    refine lv_iconst (v := 0) hx hb dX4_alphaBits_14 (by decide) ?_
    cases hf
    exact hE _ _ _ _ dX4_alphaBits_15 hP hD hS
  · replace hf := zif_t hf c1
    refine lv_bipush (v := 8) hx hb dX4_alphaBits_9 (by decide) ?_
    refine lv_goto (tgt := 15) hx hb dX4_alphaBits_11 (by decide) ?_
    cases hf
    exact hE _ _ _ _ dX4_alphaBits_15 hP hD hS
set_option maxHeartbeats 4000000 in
set_option maxRecDepth 100000 in
theorem mX4_alphaBits (l : Launch) (D : va_G) (cI : ClassId) (sz : Nat) (h_t : Nat) (t_depth : Int32) (t_left : Int32) (t_isRepeated : Int32) (t_held : Int32) (r0 : Int32) (hf : fX4_alphaBits t_depth = some r0) : Met l yX4_alphaBits wsX4_alphaBits rmX4_alphaBits (va_Pc [.ref h_t] (zP D [(cI, .int)] (zwX4 cI h_t t_depth t_left t_isRepeated t_held) sz)) (zQi D (zwX4 cI h_t t_depth t_left t_isRepeated t_held) sz r0 (zwX4 cI h_t t_depth t_left t_isRepeated t_held)) 0 0 (va_A (zwX4 cI h_t t_depth t_left t_isRepeated t_held) sz) := by
  refine Met.ofW (cc := cX4_alphaBits) (maxL := 1) (ret := (some .int)) (by decide) rfl ?_
  intro p e s m args below meth c s₁ B hml hv
  obtain ⟨rfl, hsz, hP, hK, hD0, hN⟩ := hv
  subst hsz
  have C : CallFix p m c cX4_alphaBits 1 s [.ref h_t].toArray wsX4_alphaBits RX4 := ⟨B.exec, B.bytes, hml, findClass_of_methodNamed B.named, atoms_spec (ws := wsX4_alphaBits) B.pre⟩
  have hl := lv_entry ([.ref h_t]) (n := 1) (Nat.le_of_ble_eq_true rfl)
  rw [lg_entry_eq]
  exact wX4_alphaBits_0 (A := va_A (zwX4 cI h_t t_depth t_left t_isRepeated t_held) s.heap.size) C hN hK (fun q h => Or.inr h) (fun H locs pc ls d hP hD hS => zend_i C.1 C.2.1 B.returns B.notSynchronized d hP hD hS) hf hP hD0.self va_S.rf hl
def rmX4_writePixels : Room := { frames := 2, cells := 0, slots := 0, locals := 42 }
theorem kX4_writePixels_28 {args : Array Value} {s : State} (h : ∀ w ∈ wsX4_writePixels, w.before args s = true) : (Cond.fieldLink RX4 28 "FourPictureFiles$PacketFormat" "depth" "I").before args s = true := h _ (by decide +kernel)
theorem iX4_writePixels_X4 : ∀ w ∈ u_ws RX4 TX4 4, w ∈ wsX4_writePixels := by decide +kernel
theorem qX4_writePixels_X2_append_35 {args : Array Value} {s : State} (hts : ∀ w ∈ wsX4_writePixels, w.before args s = true) : CallW rmX4_writePixels s args RX4 RX2 35 yX2_append cX2_append 2 (some .boolean) wsX2_append rmX2_append 0 0 1 := cwV 1 hts gX4_writePixels_X2_append rfl rfl rfl (by decide +kernel) ⟨Nat.le_of_ble_eq_true rfl, Nat.le_of_ble_eq_true rfl⟩
theorem qX4_writePixels_X2_appendBlueGreenRed_69 {args : Array Value} {s : State} (hts : ∀ w ∈ wsX4_writePixels, w.before args s = true) : CallW rmX4_writePixels s args RX4 RX2 69 yX2_appendBlueGreenRed cX2_appendBlueGreenRed 2 none wsX2_appendBlueGreenRed rmX2_appendBlueGreenRed 0 0 1 := cwV 1 hts gX4_writePixels_X2_appendBlueGreenRed rfl rfl rfl (by decide +kernel) ⟨Nat.le_of_ble_eq_true rfl, Nat.le_of_ble_eq_true rfl⟩
theorem qX4_writePixels_X5_at_61 {args : Array Value} {s : State} (hts : ∀ w ∈ wsX4_writePixels, w.before args s = true) : CallW rmX4_writePixels s args RX4 RX5 61 yX5_at cX5_at 3 (some .int) wsX5_at rmX5_at 0 0 2 := cwV 2 hts gX4_writePixels_X5_at rfl rfl rfl (by decide +kernel) ⟨Nat.le_of_ble_eq_true rfl, Nat.le_of_ble_eq_true rfl⟩
theorem qX4_writePixels_X8_alpha_72 {args : Array Value} {s : State} (hts : ∀ w ∈ wsX4_writePixels, w.before args s = true) (hN : zN s) : va_CN rmX4_writePixels s args RX4 72 yX8_alpha RX8 cX8_alpha 1 (some .int) wsX8_alpha rmX8_alpha 0 0 1 ∧ (Cond.static yX8_alpha).before args s = true ∧ True := ⟨va_cnB 1 hts gX4_writePixels_X8_alpha_n72 rfl rfl rfl (hN.nw 48 rfl) (hts (.initialized RX8) (by decide +kernel)) (by decide +kernel) ⟨Nat.le_of_ble_eq_true rfl, Nat.le_of_ble_eq_true rfl⟩, hts (.static yX8_alpha) (by decide +kernel), trivial⟩
theorem qX4_writePixels_X8_red_64 {args : Array Value} {s : State} (hts : ∀ w ∈ wsX4_writePixels, w.before args s = true) (hN : zN s) : va_CN rmX4_writePixels s args RX4 64 yX8_red RX8 cX8_red 1 (some .int) wsX8_red rmX8_red 0 0 1 ∧ (Cond.static yX8_red).before args s = true ∧ True := ⟨va_cnB 1 hts gX4_writePixels_X8_red_n64 rfl rfl rfl (hN.nw 47 rfl) (hts (.initialized RX8) (by decide +kernel)) (by decide +kernel) ⟨Nat.le_of_ble_eq_true rfl, Nat.le_of_ble_eq_true rfl⟩, hts (.static yX8_red) (by decide +kernel), trivial⟩
set_option maxHeartbeats 4000000 in
set_option maxRecDepth 100000 in
theorem wX4_writePixels_69 {p : Program} {l : Launch} {e : Env} {s : State} {m : MethodId} {args : Array Value} {below : List Frame} {meth : Method} {c : Code} {D : va_G} {A : Nat → Prop} {Q : State → Prop} {cI : ClassId} {h_t h_p h_p_pixels h_f h_f_bytes : Nat} {t_depth : Int32} {t_left : Int32} {t_isRepeated : Int32} {t_held : Int32} {p_wide : Int32} {p_high : Int32} {p_pixels : Nat → Int32} {zf_size : Int32} {zf_bytes : Nat → Int32} (C : CallFix p m c cX4_writePixels 8 s args wsX4_writePixels RX4) (hN : zN s) (hK : va_K D vwCl [(cI, .int)] s) (hA : ∀ q, s.heap.size ≤ q → A q) (hE : zEv p l e rmX4_writePixels s m args below meth c cX4_writePixels D A Q (zwX4 cI h_t t_depth t_left t_isRepeated t_held ++ zwX5 cI h_p h_p_pixels p_wide p_high p_pixels ++ zwX2 cI h_f h_f_bytes zf_size zf_bytes)) {rc3 : Int32 → Int32 → (Nat → Int32) → Int32 → (Nat → Int32) → Int32 → Int32 → Int32 → Option (Int32 × (Nat → Int32))} (hr_3 : ∀ {f_size : Int32} {f_bytes : Nat → Int32} {l2 : Int32} {l3 : Int32} {l4 : Int32} {l6 : Int32} {H : Heap} {locs : List Loc} {ls : Array Slot}, rc3 t_depth p_wide p_pixels f_size f_bytes l2 l4 l6 = some (zf_size, zf_bytes) → va_P D vwCl (zwX4 cI h_t t_depth t_left t_isRepeated t_held ++ zwX5 cI h_p h_p_pixels p_wide p_high p_pixels ++ zwX2 cI h_f h_f_bytes f_size f_bytes) H → va_D A (zwX4 cI h_t t_depth t_left t_isRepeated t_held ++ zwX5 cI h_p h_p_pixels p_wide p_high p_pixels ++ zwX2 cI h_f h_f_bytes f_size f_bytes) → va_S A s.heap H locs → lv_has ls 8 [(0, .ref h_t), (1, .ref h_p), (2, .int l2), (3, .int l3), (4, .int l4), (5, .ref h_f), (6, .int l6)] → W p l e rmX4_writePixels s m args below meth c H locs 0 0 Q (F0 m 3 ls [])) {f_size : Int32} {f_bytes : Nat → Int32} {l2 : Int32} {l3 : Int32} {l4 : Int32} {l6 : Int32} {l7 : Int32} {H : Heap} {locs : List Loc} {ls : Array Slot} : fX4_writePixels_69 rc3 t_depth p_wide p_pixels f_size f_bytes l2 l4 l6 = some (zf_size, zf_bytes) → va_P D vwCl (zwX4 cI h_t t_depth t_left t_isRepeated t_held ++ zwX5 cI h_p h_p_pixels p_wide p_high p_pixels ++ zwX2 cI h_f h_f_bytes f_size f_bytes) H → va_D A (zwX4 cI h_t t_depth t_left t_isRepeated t_held ++ zwX5 cI h_p h_p_pixels p_wide p_high p_pixels ++ zwX2 cI h_f h_f_bytes f_size f_bytes) → va_S A s.heap H locs → lv_has ls 8 [(0, .ref h_t), (1, .ref h_p), (2, .int l2), (3, .int l3), (4, .int l4), (5, .ref h_f), (6, .int l6), (7, .int l7)] → W p l e rmX4_writePixels s m args below meth c H locs 0 0 Q (F0 m 69 ls []) := by
  intro hf hP hD hS hl
  obtain ⟨hx, hb, hml, hown, hts⟩ := id C
  unfold fX4_writePixels_69 at hf
  obtain ⟨x1, ex1⟩ : ∃ y : Int32, y = l6 + 1 := ⟨_, rfl⟩
  replace hf := zlet_in hf ex1
  refine lv_iinc (v := x1) (lv' := [(6, .int x1), (0, .ref h_t), (1, .ref h_p), (2, .int l2), (3, .int l3), (4, .int l4), (5, .ref h_f), (7, .int l7)]) hx hb dX4_writePixels_69 hl (k := 6) rfl (by rw [ex1]; rfl) (by decide) rfl (fun ls hl => ?_)
  clear ex1
  refine lv_goto (tgt := 3) hx hb dX4_writePixels_72 (by decide) ?_
  exact hr_3 hf hP hD hS (lv_sub hl [1, 2, 3, 4, 5, 6, 0] rfl)
set_option maxHeartbeats 4000000 in
set_option maxRecDepth 100000 in
theorem wX4_writePixels_49 {p : Program} {l : Launch} {e : Env} {s : State} {m : MethodId} {args : Array Value} {below : List Frame} {meth : Method} {c : Code} {D : va_G} {A : Nat → Prop} {Q : State → Prop} {cI : ClassId} {h_t h_p h_p_pixels h_f h_f_bytes : Nat} {t_depth : Int32} {t_left : Int32} {t_isRepeated : Int32} {t_held : Int32} {p_wide : Int32} {p_high : Int32} {p_pixels : Nat → Int32} {zf_size : Int32} {zf_bytes : Nat → Int32} (C : CallFix p m c cX4_writePixels 8 s args wsX4_writePixels RX4) (hN : zN s) (hK : va_K D vwCl [(cI, .int)] s) (hA : ∀ q, s.heap.size ≤ q → A q) (hE : zEv p l e rmX4_writePixels s m args below meth c cX4_writePixels D A Q (zwX4 cI h_t t_depth t_left t_isRepeated t_held ++ zwX5 cI h_p h_p_pixels p_wide p_high p_pixels ++ zwX2 cI h_f h_f_bytes zf_size zf_bytes)) {rc3 : Int32 → Int32 → (Nat → Int32) → Int32 → (Nat → Int32) → Int32 → Int32 → Int32 → Option (Int32 × (Nat → Int32))} (hr_3 : ∀ {f_size : Int32} {f_bytes : Nat → Int32} {l2 : Int32} {l3 : Int32} {l4 : Int32} {l6 : Int32} {H : Heap} {locs : List Loc} {ls : Array Slot}, rc3 t_depth p_wide p_pixels f_size f_bytes l2 l4 l6 = some (zf_size, zf_bytes) → va_P D vwCl (zwX4 cI h_t t_depth t_left t_isRepeated t_held ++ zwX5 cI h_p h_p_pixels p_wide p_high p_pixels ++ zwX2 cI h_f h_f_bytes f_size f_bytes) H → va_D A (zwX4 cI h_t t_depth t_left t_isRepeated t_held ++ zwX5 cI h_p h_p_pixels p_wide p_high p_pixels ++ zwX2 cI h_f h_f_bytes f_size f_bytes) → va_S A s.heap H locs → lv_has ls 8 [(0, .ref h_t), (1, .ref h_p), (2, .int l2), (3, .int l3), (4, .int l4), (5, .ref h_f), (6, .int l6)] → W p l e rmX4_writePixels s m args below meth c H locs 0 0 Q (F0 m 3 ls [])) {f_size : Int32} {f_bytes : Nat → Int32} {l2 : Int32} {l3 : Int32} {l4 : Int32} {l6 : Int32} {l7 : Int32} {H : Heap} {locs : List Loc} {ls : Array Slot} : fX4_writePixels_49 rc3 t_depth p_wide p_pixels f_size f_bytes l2 l4 l6 l7 = some (zf_size, zf_bytes) → va_P D vwCl (zwX4 cI h_t t_depth t_left t_isRepeated t_held ++ zwX5 cI h_p h_p_pixels p_wide p_high p_pixels ++ zwX2 cI h_f h_f_bytes f_size f_bytes) H → va_D A (zwX4 cI h_t t_depth t_left t_isRepeated t_held ++ zwX5 cI h_p h_p_pixels p_wide p_high p_pixels ++ zwX2 cI h_f h_f_bytes f_size f_bytes) → va_S A s.heap H locs → lv_has ls 8 [(0, .ref h_t), (1, .ref h_p), (2, .int l2), (3, .int l3), (4, .int l4), (5, .ref h_f), (6, .int l6), (7, .int l7)] → W p l e rmX4_writePixels s m args below meth c H locs 0 0 Q (F0 m 49 ls []) := by
  intro hf hP hD hS hl
  obtain ⟨hx, hb, hml, hown, hts⟩ := id C
  unfold fX4_writePixels_49 at hf
  refine lv_aload_n hx hb dX4_writePixels_49 rfl (lv_at hl 0 rfl) ?_
  refine va_get (D := D) (ci := 3) (v := .int t_depth) (C := RX4) (T := TX4) (N := 4) hx hb hts iX4_writePixels_X4 hown hK hP 0 rfl rfl 0 (by decide) (kX4_writePixels_28 hts) (fun _ h9 => h9) rfl dX4_writePixels_50 ?_
  refine lv_bipush (v := 32) hx hb dX4_writePixels_53 (by decide) ?_
  refine lv_icmp_ne (tgt := 69) hx hb dX4_writePixels_55 (by decide) (fun c1 => ?_) (fun c1 => ?_)
  · replace hf := zif_f hf c1
    exact wX4_writePixels_69 C hN hK hA hE hr_3 hf hP hD hS (lv_sub hl [0, 1, 2, 3, 4, 5, 6, 7] rfl)
  · replace hf := zif_t hf c1
    refine lv_aload hx hb dX4_writePixels_58 (lv_at hl 5 rfl) ?_
    refine lv_iload hx hb dX4_writePixels_60 (lv_at hl 7 rfl) ?_
    obtain ⟨r2, hc3, hf⟩ := zb1_in hf
    refine zc_i (va_runSN (As := [.int l7]) (rest := [.ref h_f]) C (mX8_alpha l D cI H.size l7 r2 hc3) (qX4_writePixels_X8_alpha_72 hts hN) ⟨zP_blind, zpre hK hN hP hD [] rfl rfl⟩ rfl rfl hl.1 rfl (lv_room (Nat.le_of_ble_eq_true rfl)) dX4_writePixels_62 ⟨Nat.zero_le _, Nat.zero_le _⟩) hP hD hS hA [] [0, 1, 2, 3, 4] [0, 1, 2, 3, 4] (ws' := zwX4 cI h_t t_depth t_left t_isRepeated t_held ++ zwX5 cI h_p h_p_pixels p_wide p_high p_pixels ++ zwX2 cI h_f h_f_bytes f_size f_bytes) rfl rfl rfl rfl rfl rfl (fun H locs hP hD hS => ?_)
    obtain ⟨r4, u5, u6, hc7, hf⟩ := zb3_in hf
    refine zc_i (va_runV (As := [.int r2]) (rest := []) C (mX2_append l D cI H.size h_f h_f_bytes f_size f_bytes r2 r4 u5 u6 hc7) (qX4_writePixels_X2_append_35 hts) ⟨zP_blind, va_recv hK hP (ci := 2) (q0 := 3) rfl rfl, zpre hK hN hP hD [3, 4] rfl rfl⟩ rfl rfl hl.1 rfl (lv_room (Nat.le_of_ble_eq_true rfl)) dX4_writePixels_65 ⟨Nat.zero_le _, Nat.zero_le _⟩) hP hD hS hA [3, 4] [0, 1, 2] [0, 1, 2, 3, 4] (ws' := zwX4 cI h_t t_depth t_left t_isRepeated t_held ++ zwX5 cI h_p h_p_pixels p_wide p_high p_pixels ++ zwX2 cI h_f h_f_bytes u5 u6) rfl rfl rfl rfl rfl rfl (fun H locs hP hD hS => ?_)
    refine lv_pop hx hb dX4_writePixels_68 rfl ?_
    exact wX4_writePixels_69 C hN hK hA hE hr_3 hf hP hD hS (lv_sub hl [0, 1, 2, 3, 4, 5, 6, 7] rfl)
set_option maxHeartbeats 4000000 in
set_option maxRecDepth 100000 in
theorem wX4_writePixels_3 {p : Program} {l : Launch} {e : Env} {s : State} {m : MethodId} {args : Array Value} {below : List Frame} {meth : Method} {c : Code} {D : va_G} {A : Nat → Prop} {Q : State → Prop} {cI : ClassId} {h_t h_p h_p_pixels h_f h_f_bytes : Nat} {t_depth : Int32} {t_left : Int32} {t_isRepeated : Int32} {t_held : Int32} {p_wide : Int32} {p_high : Int32} {p_pixels : Nat → Int32} {zf_size : Int32} {zf_bytes : Nat → Int32} (C : CallFix p m c cX4_writePixels 8 s args wsX4_writePixels RX4) (hN : zN s) (hK : va_K D vwCl [(cI, .int)] s) (hA : ∀ q, s.heap.size ≤ q → A q) (hE : zEv p l e rmX4_writePixels s m args below meth c cX4_writePixels D A Q (zwX4 cI h_t t_depth t_left t_isRepeated t_held ++ zwX5 cI h_p h_p_pixels p_wide p_high p_pixels ++ zwX2 cI h_f h_f_bytes zf_size zf_bytes)) (n : Nat) : ∀ {f_size : Int32} {f_bytes : Nat → Int32} {l2 : Int32} {l3 : Int32} {l4 : Int32} {l6 : Int32} {H : Heap} {locs : List Loc} {ls : Array Slot}, fX4_writePixels_3 n t_depth p_wide p_pixels f_size f_bytes l2 l4 l6 = some (zf_size, zf_bytes) → va_P D vwCl (zwX4 cI h_t t_depth t_left t_isRepeated t_held ++ zwX5 cI h_p h_p_pixels p_wide p_high p_pixels ++ zwX2 cI h_f h_f_bytes f_size f_bytes) H → va_D A (zwX4 cI h_t t_depth t_left t_isRepeated t_held ++ zwX5 cI h_p h_p_pixels p_wide p_high p_pixels ++ zwX2 cI h_f h_f_bytes f_size f_bytes) → va_S A s.heap H locs → lv_has ls 8 [(0, .ref h_t), (1, .ref h_p), (2, .int l2), (3, .int l3), (4, .int l4), (5, .ref h_f), (6, .int l6)] → W p l e rmX4_writePixels s m args below meth c H locs 0 0 Q (F0 m 3 ls []) := by
  obtain ⟨hx, hb, hml, hown, hts⟩ := id C
  induction n with
  | zero =>
    intro f_size f_bytes l2 l3 l4 l6 H locs ls hf
    cases hf
  | succ n hr_3 =>
    intro f_size f_bytes l2 l3 l4 l6 H locs ls hf hP hD hS hl
    rw [fX4_writePixels_3_s] at hf
    refine lv_iload hx hb dX4_writePixels_3 (lv_at hl 6 rfl) ?_
    refine lv_iload hx hb dX4_writePixels_5 (lv_at hl 4 rfl) ?_
    refine lv_icmp_ge (tgt := 75) hx hb dX4_writePixels_7 (by decide) (fun c1 => ?_) (fun c1 => ?_)
    · replace hf := zif_t hf c1
      cases hf
      exact hE _ _ _ _ dX4_writePixels_75 hP hD hS
    · replace hf := zif_f hf c1
      refine lv_aload_n hx hb dX4_writePixels_10 rfl (lv_at hl 1 rfl) ?_
      refine lv_iload hx hb dX4_writePixels_11 (lv_at hl 6 rfl) ?_
      refine lv_iload_n hx hb dX4_writePixels_13 rfl (lv_at hl 2 rfl) ?_
      obtain ⟨r2, hc3, hf⟩ := zb1_in hf
      refine zc_i (va_runV (As := [.int l6, .int l2]) (rest := []) C (mX5_at l D cI H.size h_p h_p_pixels p_wide p_high p_pixels l6 l2 r2 hc3) (qX4_writePixels_X5_at_61 hts) ⟨zP_blind, va_recv hK hP (ci := 4) (q0 := 1) rfl rfl, zpre hK hN hP hD [1, 2] rfl rfl⟩ rfl rfl hl.1 rfl (lv_room (Nat.le_of_ble_eq_true rfl)) dX4_writePixels_14 ⟨Nat.zero_le _, Nat.zero_le _⟩) hP hD hS hA [1, 2] [0, 3, 4] [0, 3, 4, 1, 2] (ws' := zwX4 cI h_t t_depth t_left t_isRepeated t_held ++ zwX5 cI h_p h_p_pixels p_wide p_high p_pixels ++ zwX2 cI h_f h_f_bytes f_size f_bytes) rfl rfl rfl rfl rfl rfl (fun H locs hP hD hS => ?_)
      refine lv_istore (lv' := [(7, .int r2), (0, .ref h_t), (1, .ref h_p), (2, .int l2), (3, .int l3), (4, .int l4), (5, .ref h_f), (6, .int l6)]) hx hb dX4_writePixels_17 hl (by decide) rfl (fun ls hl => ?_)
      refine lv_aload_n hx hb dX4_writePixels_19 rfl (lv_at hl 1 rfl) ?_
      refine va_get (D := D) (ci := 3) (v := .int t_depth) (C := RX4) (T := TX4) (N := 4) hx hb hts iX4_writePixels_X4 hown hK hP 0 rfl rfl 0 (by decide) (kX4_writePixels_28 hts) (fun _ h9 => h9) rfl dX4_writePixels_20 ?_
      refine lv_bipush (v := 8) hx hb dX4_writePixels_23 (by decide) ?_
      refine lv_icmp_ne (tgt := 42) hx hb dX4_writePixels_25 (by decide) (fun c4 => ?_) (fun c4 => ?_)
      · replace hf := zif_f hf c4
        refine lv_aload hx hb dX4_writePixels_42 (lv_at hl 6 rfl) ?_
        refine lv_iload hx hb dX4_writePixels_44 (lv_at hl 0 rfl) ?_
        obtain ⟨u5, u6, hc7, hf⟩ := zb2_in hf
        refine zc_v (va_runV (As := [.int r2]) (rest := []) C (mX2_appendBlueGreenRed l D cI H.size h_f h_f_bytes f_size f_bytes r2 u5 u6 hc7) (qX4_writePixels_X2_appendBlueGreenRed_69 hts) ⟨zP_blind, va_recv hK hP (ci := 2) (q0 := 3) rfl rfl, zpre hK hN hP hD [3, 4] rfl rfl⟩ rfl rfl hl.1 rfl (lv_room (Nat.le_of_ble_eq_true rfl)) dX4_writePixels_46 ⟨Nat.zero_le _, Nat.zero_le _⟩) hP hD hS hA [3, 4] [0, 1, 2] [0, 1, 2, 3, 4] (ws' := zwX4 cI h_t t_depth t_left t_isRepeated t_held ++ zwX5 cI h_p h_p_pixels p_wide p_high p_pixels ++ zwX2 cI h_f h_f_bytes u5 u6) rfl rfl rfl rfl rfl rfl (fun H locs hP hD hS => ?_)
        exact wX4_writePixels_49 C hN hK hA hE hr_3 hf hP hD hS (lv_sub hl [1, 2, 3, 4, 5, 6, 7, 0] rfl)
      · replace hf := zif_t hf c4
        refine lv_aload hx hb dX4_writePixels_28 (lv_at hl 6 rfl) ?_
        refine lv_iload hx hb dX4_writePixels_30 (lv_at hl 0 rfl) ?_
        obtain ⟨r8, hc9, hf⟩ := zb1_in hf
        refine zc_i (va_runSN (As := [.int r2]) (rest := [.ref h_f]) C (mX8_red l D cI H.size r2 r8 hc9) (qX4_writePixels_X8_red_64 hts hN) ⟨zP_blind, zpre hK hN hP hD [] rfl rfl⟩ rfl rfl hl.1 rfl (lv_room (Nat.le_of_ble_eq_true rfl)) dX4_writePixels_32 ⟨Nat.zero_le _, Nat.zero_le _⟩) hP hD hS hA [] [0, 1, 2, 3, 4] [0, 1, 2, 3, 4] (ws' := zwX4 cI h_t t_depth t_left t_isRepeated t_held ++ zwX5 cI h_p h_p_pixels p_wide p_high p_pixels ++ zwX2 cI h_f h_f_bytes f_size f_bytes) rfl rfl rfl rfl rfl rfl (fun H locs hP hD hS => ?_)
        obtain ⟨r10, u11, u12, hc13, hf⟩ := zb3_in hf
        refine zc_i (va_runV (As := [.int r8]) (rest := []) C (mX2_append l D cI H.size h_f h_f_bytes f_size f_bytes r8 r10 u11 u12 hc13) (qX4_writePixels_X2_append_35 hts) ⟨zP_blind, va_recv hK hP (ci := 2) (q0 := 3) rfl rfl, zpre hK hN hP hD [3, 4] rfl rfl⟩ rfl rfl hl.1 rfl (lv_room (Nat.le_of_ble_eq_true rfl)) dX4_writePixels_35 ⟨Nat.zero_le _, Nat.zero_le _⟩) hP hD hS hA [3, 4] [0, 1, 2] [0, 1, 2, 3, 4] (ws' := zwX4 cI h_t t_depth t_left t_isRepeated t_held ++ zwX5 cI h_p h_p_pixels p_wide p_high p_pixels ++ zwX2 cI h_f h_f_bytes u11 u12) rfl rfl rfl rfl rfl rfl (fun H locs hP hD hS => ?_)
        refine lv_pop hx hb dX4_writePixels_38 rfl ?_
        refine lv_goto (tgt := 49) hx hb dX4_writePixels_39 (by decide) ?_
        exact wX4_writePixels_49 C hN hK hA hE hr_3 hf hP hD hS (lv_sub hl [1, 2, 3, 4, 5, 6, 7, 0] rfl)
set_option maxHeartbeats 4000000 in
set_option maxRecDepth 100000 in
theorem wX4_writePixels_0 {p : Program} {l : Launch} {e : Env} {s : State} {m : MethodId} {args : Array Value} {below : List Frame} {meth : Method} {c : Code} {D : va_G} {A : Nat → Prop} {Q : State → Prop} {cI : ClassId} {h_t h_p h_p_pixels h_f h_f_bytes : Nat} {t_depth : Int32} {t_left : Int32} {t_isRepeated : Int32} {t_held : Int32} {p_wide : Int32} {p_high : Int32} {p_pixels : Nat → Int32} {zf_size : Int32} {zf_bytes : Nat → Int32} (C : CallFix p m c cX4_writePixels 8 s args wsX4_writePixels RX4) (hN : zN s) (hK : va_K D vwCl [(cI, .int)] s) (hA : ∀ q, s.heap.size ≤ q → A q) (hE : zEv p l e rmX4_writePixels s m args below meth c cX4_writePixels D A Q (zwX4 cI h_t t_depth t_left t_isRepeated t_held ++ zwX5 cI h_p h_p_pixels p_wide p_high p_pixels ++ zwX2 cI h_f h_f_bytes zf_size zf_bytes)) {f_size : Int32} {f_bytes : Nat → Int32} {v1 : Int32} {v2 : Int32} {v3 : Int32} {H : Heap} {locs : List Loc} {ls : Array Slot} : fX4_writePixels t_depth p_wide p_pixels f_size f_bytes v1 v2 v3 = some (zf_size, zf_bytes) → va_P D vwCl (zwX4 cI h_t t_depth t_left t_isRepeated t_held ++ zwX5 cI h_p h_p_pixels p_wide p_high p_pixels ++ zwX2 cI h_f h_f_bytes f_size f_bytes) H → va_D A (zwX4 cI h_t t_depth t_left t_isRepeated t_held ++ zwX5 cI h_p h_p_pixels p_wide p_high p_pixels ++ zwX2 cI h_f h_f_bytes f_size f_bytes) → va_S A s.heap H locs → lv_has ls 8 [(0, .ref h_t), (1, .ref h_p), (2, .int v1), (3, .int v2), (4, .int v3), (5, .ref h_f)] → W p l e rmX4_writePixels s m args below meth c H locs 0 0 Q (F0 m 0 ls []) := by
  intro hf hP hD hS hl
  obtain ⟨hx, hb, hml, hown, hts⟩ := id C
  unfold fX4_writePixels at hf
  refine lv_iload_n hx hb dX4_writePixels_0 rfl (lv_at hl 3 rfl) ?_
  refine lv_istore (lv' := [(6, .int v2), (0, .ref h_t), (1, .ref h_p), (2, .int v1), (3, .int v2), (4, .int v3), (5, .ref h_f)]) hx hb dX4_writePixels_1 hl (by decide) rfl (fun ls hl => ?_)
  exact wX4_writePixels_3 C hN hK hA hE 1000 hf hP hD hS (lv_sub hl [1, 2, 3, 4, 5, 6, 0] rfl)
set_option maxHeartbeats 4000000 in
set_option maxRecDepth 100000 in
theorem mX4_writePixels (l : Launch) (D : va_G) (cI : ClassId) (sz : Nat) (h_t h_p h_p_pixels h_f h_f_bytes : Nat) (t_depth : Int32) (t_left : Int32) (t_isRepeated : Int32) (t_held : Int32) (p_wide : Int32) (p_high : Int32) (p_pixels : Nat → Int32) (f_size : Int32) (f_bytes : Nat → Int32) (v1 v2 v3 : Int32) (zf_size : Int32) (zf_bytes : Nat → Int32) (hf : fX4_writePixels t_depth p_wide p_pixels f_size f_bytes v1 v2 v3 = some (zf_size, zf_bytes)) : Met l yX4_writePixels wsX4_writePixels rmX4_writePixels (va_Pc [.ref h_t, .ref h_p, .int v1, .int v2, .int v3, .ref h_f] (zP D [(cI, .int)] (zwX4 cI h_t t_depth t_left t_isRepeated t_held ++ zwX5 cI h_p h_p_pixels p_wide p_high p_pixels ++ zwX2 cI h_f h_f_bytes f_size f_bytes) sz)) (zQv D (zwX4 cI h_t t_depth t_left t_isRepeated t_held ++ zwX5 cI h_p h_p_pixels p_wide p_high p_pixels ++ zwX2 cI h_f h_f_bytes f_size f_bytes) sz (zwX4 cI h_t t_depth t_left t_isRepeated t_held ++ zwX5 cI h_p h_p_pixels p_wide p_high p_pixels ++ zwX2 cI h_f h_f_bytes zf_size zf_bytes)) 0 0 (va_A (zwX4 cI h_t t_depth t_left t_isRepeated t_held ++ zwX5 cI h_p h_p_pixels p_wide p_high p_pixels ++ zwX2 cI h_f h_f_bytes f_size f_bytes) sz) := by
  refine Met.ofW (cc := cX4_writePixels) (maxL := 8) (ret := none) (by decide) rfl ?_
  intro p e s m args below meth c s₁ B hml hv
  obtain ⟨rfl, hsz, hP, hK, hD0, hN⟩ := hv
  subst hsz
  have C : CallFix p m c cX4_writePixels 8 s [.ref h_t, .ref h_p, .int v1, .int v2, .int v3, .ref h_f].toArray wsX4_writePixels RX4 := ⟨B.exec, B.bytes, hml, findClass_of_methodNamed B.named, atoms_spec (ws := wsX4_writePixels) B.pre⟩
  have hl := lv_entry ([.ref h_t, .ref h_p, .int v1, .int v2, .int v3, .ref h_f]) (n := 8) (Nat.le_of_ble_eq_true rfl)
  rw [lg_entry_eq]
  exact wX4_writePixels_0 (A := va_A (zwX4 cI h_t t_depth t_left t_isRepeated t_held ++ zwX5 cI h_p h_p_pixels p_wide p_high p_pixels ++ zwX2 cI h_f h_f_bytes f_size f_bytes) s.heap.size) C hN hK (fun q h => Or.inr h) (fun H locs pc ls d hP hD hS => zend_v C.1 C.2.1 B.returns B.notSynchronized d hP hD hS) hf hP hD0.self va_S.rf hl
def rmX4_isSameAsNext : Room := { frames := 1, cells := 0, slots := 0, locals := 22 }
theorem qX4_isSameAsNext_X5_at_61 {args : Array Value} {s : State} (hts : ∀ w ∈ wsX4_isSameAsNext, w.before args s = true) : CallW rmX4_isSameAsNext s args RX4 RX5 61 yX5_at cX5_at 3 (some .int) wsX5_at rmX5_at 0 0 2 := cwV 2 hts gX4_isSameAsNext_X5_at rfl rfl rfl (by decide +kernel) ⟨Nat.le_of_ble_eq_true rfl, Nat.le_of_ble_eq_true rfl⟩
theorem qX4_isSameAsNext_X5_has_83 {args : Array Value} {s : State} (hts : ∀ w ∈ wsX4_isSameAsNext, w.before args s = true) : CallW rmX4_isSameAsNext s args RX4 RX5 83 yX5_has cX5_has 3 (some .boolean) wsX5_has rmX5_has 0 0 2 := cwV 2 hts gX4_isSameAsNext_X5_has rfl rfl rfl (by decide +kernel) ⟨Nat.le_of_ble_eq_true rfl, Nat.le_of_ble_eq_true rfl⟩
set_option maxHeartbeats 4000000 in
set_option maxRecDepth 100000 in
theorem wX4_isSameAsNext_0 {p : Program} {l : Launch} {e : Env} {s : State} {m : MethodId} {args : Array Value} {below : List Frame} {meth : Method} {c : Code} {D : va_G} {A : Nat → Prop} {Q : State → Prop} {cI : ClassId} {h_p h_p_pixels : Nat} {p_wide : Int32} {p_high : Int32} {p_pixels : Nat → Int32} {r0 : Int32} (C : CallFix p m c cX4_isSameAsNext 3 s args wsX4_isSameAsNext RX4) (hN : zN s) (hK : va_K D vwCl [(cI, .int)] s) (hA : ∀ q, s.heap.size ≤ q → A q) (hE : zEz p l e rmX4_isSameAsNext s m args below meth c cX4_isSameAsNext D A Q (zwX5 cI h_p h_p_pixels p_wide p_high p_pixels) r0) {v1 : Int32} {v2 : Int32} {H : Heap} {locs : List Loc} {ls : Array Slot} : fX4_isSameAsNext p_wide p_high p_pixels v1 v2 = some r0 → va_P D vwCl (zwX5 cI h_p h_p_pixels p_wide p_high p_pixels) H → va_D A (zwX5 cI h_p h_p_pixels p_wide p_high p_pixels) → va_S A s.heap H locs → lv_has ls 3 [(0, .ref h_p), (1, .int v1), (2, .int v2)] → W p l e rmX4_isSameAsNext s m args below meth c H locs 0 0 Q (F0 m 0 ls []) := by
  intro hf hP hD hS hl
  obtain ⟨hx, hb, hml, hown, hts⟩ := id C
  unfold fX4_isSameAsNext at hf
  refine lv_aload_n hx hb dX4_isSameAsNext_0 rfl (lv_at hl 0 rfl) ?_
  refine lv_iload_n hx hb dX4_isSameAsNext_1 rfl (lv_at hl 1 rfl) ?_
  refine lv_iconst (v := 1) hx hb dX4_isSameAsNext_2 (by decide) ?_
  refine lv_iadd hx hb dX4_isSameAsNext_3 ?_
  refine lv_iload_n hx hb dX4_isSameAsNext_4 rfl (lv_at hl 2 rfl) ?_
  obtain ⟨r1, hc2, hf⟩ := zb1_in hf
  refine zc_i (va_runV (As := [.int (v1 + 1), .int v2]) (rest := []) C (mX5_has l D cI H.size h_p h_p_pixels p_wide p_high p_pixels (v1 + 1) v2 r1 hc2) (qX4_isSameAsNext_X5_has_83 hts) ⟨zP_blind, va_recv hK hP (ci := 4) (q0 := 0) rfl rfl, zpre hK hN hP hD [0, 1] rfl rfl⟩ rfl rfl hl.1 rfl (lv_room (Nat.le_of_ble_eq_true rfl)) dX4_isSameAsNext_5 ⟨Nat.zero_le _, Nat.zero_le _⟩) hP hD hS hA [0, 1] [] [0, 1] (ws' := zwX5 cI h_p h_p_pixels p_wide p_high p_pixels) rfl rfl rfl rfl rfl rfl (fun H locs hP hD hS => ?_)
  refine lv_if_eq (tgt := 32) hx hb dX4_isSameAsNext_8 (by decide) (fun c3 => ?_) (fun c3 => ?_)
  · replace hf := zif_t hf c3
    refine lv_iconst (v := 0) hx hb dX4_isSameAsNext_32 (by decide) ?_
    cases hf
    exact hE _ _ _ _ dX4_isSameAsNext_33 rfl hP hD hS
  · replace hf := zif_f hf c3
    refine lv_aload_n hx hb dX4_isSameAsNext_11 rfl (lv_at hl 0 rfl) ?_
    refine lv_iload_n hx hb dX4_isSameAsNext_12 rfl (lv_at hl 1 rfl) ?_
    refine lv_iload_n hx hb dX4_isSameAsNext_13 rfl (lv_at hl 2 rfl) ?_
    obtain ⟨r4, hc5, hf⟩ := zb1_in hf
    refine zc_i (va_runV (As := [.int v1, .int v2]) (rest := []) C (mX5_at l D cI H.size h_p h_p_pixels p_wide p_high p_pixels v1 v2 r4 hc5) (qX4_isSameAsNext_X5_at_61 hts) ⟨zP_blind, va_recv hK hP (ci := 4) (q0 := 0) rfl rfl, zpre hK hN hP hD [0, 1] rfl rfl⟩ rfl rfl hl.1 rfl (lv_room (Nat.le_of_ble_eq_true rfl)) dX4_isSameAsNext_14 ⟨Nat.zero_le _, Nat.zero_le _⟩) hP hD hS hA [0, 1] [] [0, 1] (ws' := zwX5 cI h_p h_p_pixels p_wide p_high p_pixels) rfl rfl rfl rfl rfl rfl (fun H locs hP hD hS => ?_)
    refine lv_aload_n hx hb dX4_isSameAsNext_17 rfl (lv_at hl 0 rfl) ?_
    refine lv_iload_n hx hb dX4_isSameAsNext_18 rfl (lv_at hl 1 rfl) ?_
    refine lv_iconst (v := 1) hx hb dX4_isSameAsNext_19 (by decide) ?_
    refine lv_iadd hx hb dX4_isSameAsNext_20 ?_
    refine lv_iload_n hx hb dX4_isSameAsNext_21 rfl (lv_at hl 2 rfl) ?_
    obtain ⟨r6, hc7, hf⟩ := zb1_in hf
    refine zc_i (va_runV (As := [.int (v1 + 1), .int v2]) (rest := [.int r4]) C (mX5_at l D cI H.size h_p h_p_pixels p_wide p_high p_pixels (v1 + 1) v2 r6 hc7) (qX4_isSameAsNext_X5_at_61 hts) ⟨zP_blind, va_recv hK hP (ci := 4) (q0 := 0) rfl rfl, zpre hK hN hP hD [0, 1] rfl rfl⟩ rfl rfl hl.1 rfl (lv_room (Nat.le_of_ble_eq_true rfl)) dX4_isSameAsNext_22 ⟨Nat.zero_le _, Nat.zero_le _⟩) hP hD hS hA [0, 1] [] [0, 1] (ws' := zwX5 cI h_p h_p_pixels p_wide p_high p_pixels) rfl rfl rfl rfl rfl rfl (fun H locs hP hD hS => ?_)
    refine lv_icmp_ne (tgt := 32) hx hb dX4_isSameAsNext_25 (by decide) (fun c8 => ?_) (fun c8 => ?_)
    · replace hf := zif_f hf c8
      refine lv_iconst (v := 0) hx hb dX4_isSameAsNext_32 (by decide) ?_
      cases hf
      exact hE _ _ _ _ dX4_isSameAsNext_33 rfl hP hD hS
    · replace hf := zif_t hf c8
      refine lv_iconst (v := 1) hx hb dX4_isSameAsNext_28 (by decide) ?_
      refine lv_goto (tgt := 33) hx hb dX4_isSameAsNext_29 (by decide) ?_
      cases hf
      exact hE _ _ _ _ dX4_isSameAsNext_33 rfl hP hD hS
set_option maxHeartbeats 4000000 in
set_option maxRecDepth 100000 in
theorem mX4_isSameAsNext (l : Launch) (D : va_G) (cI : ClassId) (sz : Nat) (h_p h_p_pixels : Nat) (p_wide : Int32) (p_high : Int32) (p_pixels : Nat → Int32) (v1 v2 : Int32) (r0 : Int32) (hf : fX4_isSameAsNext p_wide p_high p_pixels v1 v2 = some r0) : Met l yX4_isSameAsNext wsX4_isSameAsNext rmX4_isSameAsNext (va_Pc [.ref h_p, .int v1, .int v2] (zP D [(cI, .int)] (zwX5 cI h_p h_p_pixels p_wide p_high p_pixels) sz)) (zQi D (zwX5 cI h_p h_p_pixels p_wide p_high p_pixels) sz r0 (zwX5 cI h_p h_p_pixels p_wide p_high p_pixels)) 0 0 (va_A (zwX5 cI h_p h_p_pixels p_wide p_high p_pixels) sz) := by
  refine Met.ofW (cc := cX4_isSameAsNext) (maxL := 3) (ret := (some .boolean)) (by decide) rfl ?_
  intro p e s m args below meth c s₁ B hml hv
  obtain ⟨rfl, hsz, hP, hK, hD0, hN⟩ := hv
  subst hsz
  have C : CallFix p m c cX4_isSameAsNext 3 s [.ref h_p, .int v1, .int v2].toArray wsX4_isSameAsNext RX4 := ⟨B.exec, B.bytes, hml, findClass_of_methodNamed B.named, atoms_spec (ws := wsX4_isSameAsNext) B.pre⟩
  have hl := lv_entry ([.ref h_p, .int v1, .int v2]) (n := 3) (Nat.le_of_ble_eq_true rfl)
  rw [lg_entry_eq]
  exact wX4_isSameAsNext_0 (A := va_A (zwX5 cI h_p h_p_pixels p_wide p_high p_pixels) s.heap.size) C hN hK (fun q h => Or.inr h) (fun H locs pc ls d hn hP hD hS => zend_z C.1 C.2.1 B.returns B.notSynchronized d hn hP hD hS) hf hP hD0.self va_S.rf hl
def rmX4_endsPacket : Room := { frames := 2, cells := 0, slots := 0, locals := 44 }
theorem qX4_endsPacket_X4_isSameAsNext_75 {args : Array Value} {s : State} (hts : ∀ w ∈ wsX4_endsPacket, w.before args s = true) : CallB rmX4_endsPacket s args RX4 75 yX4_isSameAsNext cX4_isSameAsNext 3 (some .boolean) wsX4_isSameAsNext rmX4_isSameAsNext 0 0 3 ∧ (Cond.static yX4_isSameAsNext).before args s = true := va_cwS 3 hts gX4_endsPacket_X4_isSameAsNext rfl rfl rfl (by decide +kernel) ⟨Nat.le_of_ble_eq_true rfl, Nat.le_of_ble_eq_true rfl⟩
set_option maxHeartbeats 4000000 in
set_option maxRecDepth 100000 in
theorem wX4_endsPacket_0 {p : Program} {l : Launch} {e : Env} {s : State} {m : MethodId} {args : Array Value} {below : List Frame} {meth : Method} {c : Code} {D : va_G} {A : Nat → Prop} {Q : State → Prop} {cI : ClassId} {h_p h_p_pixels : Nat} {p_wide : Int32} {p_high : Int32} {p_pixels : Nat → Int32} {r0 : Int32} (C : CallFix p m c cX4_endsPacket 4 s args wsX4_endsPacket RX4) (hN : zN s) (hK : va_K D vwCl [(cI, .int)] s) (hA : ∀ q, s.heap.size ≤ q → A q) (hE : zEz p l e rmX4_endsPacket s m args below meth c cX4_endsPacket D A Q (zwX5 cI h_p h_p_pixels p_wide p_high p_pixels) r0) {v1 : Int32} {v2 : Int32} {v3 : Int32} {H : Heap} {locs : List Loc} {ls : Array Slot} : fX4_endsPacket p_wide p_high p_pixels v1 v2 v3 = some r0 → va_P D vwCl (zwX5 cI h_p h_p_pixels p_wide p_high p_pixels) H → va_D A (zwX5 cI h_p h_p_pixels p_wide p_high p_pixels) → va_S A s.heap H locs → lv_has ls 4 [(0, .ref h_p), (1, .int v1), (2, .int v2), (3, .int v3)] → W p l e rmX4_endsPacket s m args below meth c H locs 0 0 Q (F0 m 0 ls []) := by
  intro hf hP hD hS hl
  obtain ⟨hx, hb, hml, hown, hts⟩ := id C
  unfold fX4_endsPacket at hf
  refine lv_iload_n hx hb dX4_endsPacket_0 rfl (lv_at hl 3 rfl) ?_
  refine lv_if_eq (tgt := 21) hx hb dX4_endsPacket_1 (by decide) (fun c1 => ?_) (fun c1 => ?_)
  · replace hf := zif_t hf c1
    refine lv_aload_n hx hb dX4_endsPacket_21 rfl (lv_at hl 0 rfl) ?_
    refine lv_iload_n hx hb dX4_endsPacket_22 rfl (lv_at hl 1 rfl) ?_
    refine lv_iconst (v := 1) hx hb dX4_endsPacket_23 (by decide) ?_
    refine lv_iadd hx hb dX4_endsPacket_24 ?_
    refine lv_iload_n hx hb dX4_endsPacket_25 rfl (lv_at hl 2 rfl) ?_
    obtain ⟨r2, hc3, hf⟩ := zb1_in hf
    refine zc_i (va_runS (As := [.ref h_p, .int (v1 + 1), .int v2]) (rest := []) C (mX4_isSameAsNext l D cI H.size h_p h_p_pixels p_wide p_high p_pixels (v1 + 1) v2 r2 hc3) (qX4_endsPacket_X4_isSameAsNext_75 hts) ⟨zP_blind, zpre hK hN hP hD [0, 1] rfl rfl⟩ rfl rfl hl.1 rfl (lv_room (Nat.le_of_ble_eq_true rfl)) dX4_endsPacket_26 ⟨Nat.zero_le _, Nat.zero_le _⟩) hP hD hS hA [0, 1] [] [0, 1] (ws' := zwX5 cI h_p h_p_pixels p_wide p_high p_pixels) rfl rfl rfl rfl rfl rfl (fun H locs hP hD hS => ?_)
    obtain ⟨hg4, hf⟩ := zbo_in hf
    cases hf
    exact hE _ _ _ _ dX4_endsPacket_29 hg4.1 hP hD hS
  · replace hf := zif_f hf c1
    refine lv_aload_n hx hb dX4_endsPacket_4 rfl (lv_at hl 0 rfl) ?_
    refine lv_iload_n hx hb dX4_endsPacket_5 rfl (lv_at hl 1 rfl) ?_
    refine lv_iload_n hx hb dX4_endsPacket_6 rfl (lv_at hl 2 rfl) ?_
    obtain ⟨r5, hc6, hf⟩ := zb1_in hf
    refine zc_i (va_runS (As := [.ref h_p, .int v1, .int v2]) (rest := []) C (mX4_isSameAsNext l D cI H.size h_p h_p_pixels p_wide p_high p_pixels v1 v2 r5 hc6) (qX4_endsPacket_X4_isSameAsNext_75 hts) ⟨zP_blind, zpre hK hN hP hD [0, 1] rfl rfl⟩ rfl rfl hl.1 rfl (lv_room (Nat.le_of_ble_eq_true rfl)) dX4_endsPacket_7 ⟨Nat.zero_le _, Nat.zero_le _⟩) hP hD hS hA [0, 1] [] [0, 1] (ws' := zwX5 cI h_p h_p_pixels p_wide p_high p_pixels) rfl rfl rfl rfl rfl rfl (fun H locs hP hD hS => ?_)
    refine lv_if_ne (tgt := 17) hx hb dX4_endsPacket_10 (by decide) (fun c7 => ?_) (fun c7 => ?_)
    · replace hf := zif_f hf c7
      refine lv_iconst (v := 0) hx hb dX4_endsPacket_17 (by decide) ?_
      refine lv_goto (tgt := 29) hx hb dX4_endsPacket_18 (by decide) ?_
      cases hf
      exact hE _ _ _ _ dX4_endsPacket_29 rfl hP hD hS
    · replace hf := zif_t hf c7
      refine lv_iconst (v := 1) hx hb dX4_endsPacket_13 (by decide) ?_
      refine lv_goto (tgt := 29) hx hb dX4_endsPacket_14 (by decide) ?_
      cases hf
      exact hE _ _ _ _ dX4_endsPacket_29 rfl hP hD hS
set_option maxHeartbeats 4000000 in
set_option maxRecDepth 100000 in
theorem mX4_endsPacket (l : Launch) (D : va_G) (cI : ClassId) (sz : Nat) (h_p h_p_pixels : Nat) (p_wide : Int32) (p_high : Int32) (p_pixels : Nat → Int32) (v1 v2 v3 : Int32) (r0 : Int32) (hf : fX4_endsPacket p_wide p_high p_pixels v1 v2 v3 = some r0) : Met l yX4_endsPacket wsX4_endsPacket rmX4_endsPacket (va_Pc [.ref h_p, .int v1, .int v2, .int v3] (zP D [(cI, .int)] (zwX5 cI h_p h_p_pixels p_wide p_high p_pixels) sz)) (zQi D (zwX5 cI h_p h_p_pixels p_wide p_high p_pixels) sz r0 (zwX5 cI h_p h_p_pixels p_wide p_high p_pixels)) 0 0 (va_A (zwX5 cI h_p h_p_pixels p_wide p_high p_pixels) sz) := by
  refine Met.ofW (cc := cX4_endsPacket) (maxL := 4) (ret := (some .boolean)) (by decide) rfl ?_
  intro p e s m args below meth c s₁ B hml hv
  obtain ⟨rfl, hsz, hP, hK, hD0, hN⟩ := hv
  subst hsz
  have C : CallFix p m c cX4_endsPacket 4 s [.ref h_p, .int v1, .int v2, .int v3].toArray wsX4_endsPacket RX4 := ⟨B.exec, B.bytes, hml, findClass_of_methodNamed B.named, atoms_spec (ws := wsX4_endsPacket) B.pre⟩
  have hl := lv_entry ([.ref h_p, .int v1, .int v2, .int v3]) (n := 4) (Nat.le_of_ble_eq_true rfl)
  rw [lg_entry_eq]
  exact wX4_endsPacket_0 (A := va_A (zwX5 cI h_p h_p_pixels p_wide p_high p_pixels) s.heap.size) C hN hK (fun q h => Or.inr h) (fun H locs pc ls d hn hP hD hS => zend_z C.1 C.2.1 B.returns B.notSynchronized d hn hP hD hS) hf hP hD0.self va_S.rf hl
def rmX4_writePackets : Room := { frames := 3, cells := 0, slots := 0, locals := 69 }
theorem iX4_writePackets_X5 : ∀ w ∈ u_ws RX5 TX5 3, w ∈ wsX4_writePackets := by decide +kernel
theorem qX4_writePackets_X2_append_35 {args : Array Value} {s : State} (hts : ∀ w ∈ wsX4_writePackets, w.before args s = true) : CallW rmX4_writePackets s args RX4 RX2 35 yX2_append cX2_append 2 (some .boolean) wsX2_append rmX2_append 0 0 1 := cwV 1 hts gX4_writePackets_X2_append rfl rfl rfl (by decide +kernel) ⟨Nat.le_of_ble_eq_true rfl, Nat.le_of_ble_eq_true rfl⟩
theorem qX4_writePackets_X4_endsPacket_79 {args : Array Value} {s : State} (hts : ∀ w ∈ wsX4_writePackets, w.before args s = true) : CallB rmX4_writePackets s args RX4 79 yX4_endsPacket cX4_endsPacket 4 (some .boolean) wsX4_endsPacket rmX4_endsPacket 0 0 4 ∧ (Cond.static yX4_endsPacket).before args s = true := va_cwS 4 hts gX4_writePackets_X4_endsPacket rfl rfl rfl (by decide +kernel) ⟨Nat.le_of_ble_eq_true rfl, Nat.le_of_ble_eq_true rfl⟩
theorem qX4_writePackets_X4_isSameAsNext_75 {args : Array Value} {s : State} (hts : ∀ w ∈ wsX4_writePackets, w.before args s = true) : CallB rmX4_writePackets s args RX4 75 yX4_isSameAsNext cX4_isSameAsNext 3 (some .boolean) wsX4_isSameAsNext rmX4_isSameAsNext 0 0 3 ∧ (Cond.static yX4_isSameAsNext).before args s = true := va_cwS 3 hts gX4_writePackets_X4_isSameAsNext rfl rfl rfl (by decide +kernel) ⟨Nat.le_of_ble_eq_true rfl, Nat.le_of_ble_eq_true rfl⟩
theorem qX4_writePackets_X4_writePixels_53 {args : Array Value} {s : State} (hts : ∀ w ∈ wsX4_writePackets, w.before args s = true) : CallW rmX4_writePackets s args RX4 RX4 53 yX4_writePixels cX4_writePixels 8 none wsX4_writePixels rmX4_writePixels 0 0 5 := cwV 5 hts gX4_writePackets_X4_writePixels rfl rfl rfl (by decide +kernel) ⟨Nat.le_of_ble_eq_true rfl, Nat.le_of_ble_eq_true rfl⟩
set_option maxHeartbeats 4000000 in
set_option maxRecDepth 100000 in
theorem wX4_writePackets_109 {p : Program} {l : Launch} {e : Env} {s : State} {m : MethodId} {args : Array Value} {below : List Frame} {meth : Method} {c : Code} {D : va_G} {A : Nat → Prop} {Q : State → Prop} {cI : ClassId} {h_t h_p h_p_pixels h_f h_f_bytes : Nat} {t_depth : Int32} {t_left : Int32} {t_isRepeated : Int32} {t_held : Int32} {p_wide : Int32} {p_high : Int32} {p_pixels : Nat → Int32} {zf_size : Int32} {zf_bytes : Nat → Int32} (C : CallFix p m c cX4_writePackets 8 s args wsX4_writePackets RX4) (hN : zN s) (hK : va_K D vwCl [(cI, .int)] s) (hA : ∀ q, s.heap.size ≤ q → A q) (hE : zEv p l e rmX4_writePackets s m args below meth c cX4_writePackets D A Q (zwX4 cI h_t t_depth t_left t_isRepeated t_held ++ zwX5 cI h_p h_p_pixels p_wide p_high p_pixels ++ zwX2 cI h_f h_f_bytes zf_size zf_bytes)) {rc6 : Int32 → Int32 → Int32 → (Nat → Int32) → Int32 → (Nat → Int32) → Int32 → Int32 → Int32 → Option (Int32 × (Nat → Int32))} (hr_6 : ∀ {f_size : Int32} {f_bytes : Nat → Int32} {l2 : Int32} {l4 : Int32} {l5 : Int32} {H : Heap} {locs : List Loc} {ls : Array Slot}, rc6 t_depth p_wide p_high p_pixels f_size f_bytes l2 l4 l5 = some (zf_size, zf_bytes) → va_P D vwCl (zwX4 cI h_t t_depth t_left t_isRepeated t_held ++ zwX5 cI h_p h_p_pixels p_wide p_high p_pixels ++ zwX2 cI h_f h_f_bytes f_size f_bytes) H → va_D A (zwX4 cI h_t t_depth t_left t_isRepeated t_held ++ zwX5 cI h_p h_p_pixels p_wide p_high p_pixels ++ zwX2 cI h_f h_f_bytes f_size f_bytes) → va_S A s.heap H locs → lv_has ls 8 [(0, .ref h_t), (1, .ref h_p), (2, .int l2), (3, .ref h_f), (4, .int l4), (5, .int l5)] → W p l e rmX4_writePackets s m args below meth c H locs 0 0 Q (F0 m 6 ls [])) {f_size : Int32} {f_bytes : Nat → Int32} {l2 : Int32} {l4 : Int32} {l5 : Int32} {l6 : Int32} {H : Heap} {locs : List Loc} {ls : Array Slot} : fX4_writePackets_109 rc6 t_depth p_wide p_high p_pixels f_size f_bytes l2 l4 l5 = some (zf_size, zf_bytes) → va_P D vwCl (zwX4 cI h_t t_depth t_left t_isRepeated t_held ++ zwX5 cI h_p h_p_pixels p_wide p_high p_pixels ++ zwX2 cI h_f h_f_bytes f_size f_bytes) H → va_D A (zwX4 cI h_t t_depth t_left t_isRepeated t_held ++ zwX5 cI h_p h_p_pixels p_wide p_high p_pixels ++ zwX2 cI h_f h_f_bytes f_size f_bytes) → va_S A s.heap H locs → lv_has ls 8 [(0, .ref h_t), (1, .ref h_p), (2, .int l2), (3, .ref h_f), (4, .int l4), (5, .int l5), (6, .int l6)] → W p l e rmX4_writePackets s m args below meth c H locs 0 0 Q (F0 m 109 ls []) := by
  intro hf hP hD hS hl
  obtain ⟨hx, hb, hml, hown, hts⟩ := id C
  unfold fX4_writePackets_109 at hf
  obtain ⟨x1, ex1⟩ : ∃ y : Int32, y = l5 + 1 := ⟨_, rfl⟩
  replace hf := zlet_in hf ex1
  refine lv_iinc (v := x1) (lv' := [(5, .int x1), (0, .ref h_t), (1, .ref h_p), (2, .int l2), (3, .ref h_f), (4, .int l4), (6, .int l6)]) hx hb dX4_writePackets_109 hl (k := 5) rfl (by rw [ex1]; rfl) (by decide) rfl (fun ls hl => ?_)
  clear ex1
  refine lv_goto (tgt := 6) hx hb dX4_writePackets_112 (by decide) ?_
  exact hr_6 hf hP hD hS (lv_sub hl [1, 2, 3, 4, 5, 0] rfl)
set_option maxHeartbeats 4000000 in
set_option maxRecDepth 100000 in
theorem wX4_writePackets_99 {p : Program} {l : Launch} {e : Env} {s : State} {m : MethodId} {args : Array Value} {below : List Frame} {meth : Method} {c : Code} {D : va_G} {A : Nat → Prop} {Q : State → Prop} {cI : ClassId} {h_t h_p h_p_pixels h_f h_f_bytes : Nat} {t_depth : Int32} {t_left : Int32} {t_isRepeated : Int32} {t_held : Int32} {p_wide : Int32} {p_high : Int32} {p_pixels : Nat → Int32} {zf_size : Int32} {zf_bytes : Nat → Int32} (C : CallFix p m c cX4_writePackets 8 s args wsX4_writePackets RX4) (hN : zN s) (hK : va_K D vwCl [(cI, .int)] s) (hA : ∀ q, s.heap.size ≤ q → A q) (hE : zEv p l e rmX4_writePackets s m args below meth c cX4_writePackets D A Q (zwX4 cI h_t t_depth t_left t_isRepeated t_held ++ zwX5 cI h_p h_p_pixels p_wide p_high p_pixels ++ zwX2 cI h_f h_f_bytes zf_size zf_bytes)) {rc6 : Int32 → Int32 → Int32 → (Nat → Int32) → Int32 → (Nat → Int32) → Int32 → Int32 → Int32 → Option (Int32 × (Nat → Int32))} (hr_6 : ∀ {f_size : Int32} {f_bytes : Nat → Int32} {l2 : Int32} {l4 : Int32} {l5 : Int32} {H : Heap} {locs : List Loc} {ls : Array Slot}, rc6 t_depth p_wide p_high p_pixels f_size f_bytes l2 l4 l5 = some (zf_size, zf_bytes) → va_P D vwCl (zwX4 cI h_t t_depth t_left t_isRepeated t_held ++ zwX5 cI h_p h_p_pixels p_wide p_high p_pixels ++ zwX2 cI h_f h_f_bytes f_size f_bytes) H → va_D A (zwX4 cI h_t t_depth t_left t_isRepeated t_held ++ zwX5 cI h_p h_p_pixels p_wide p_high p_pixels ++ zwX2 cI h_f h_f_bytes f_size f_bytes) → va_S A s.heap H locs → lv_has ls 8 [(0, .ref h_t), (1, .ref h_p), (2, .int l2), (3, .ref h_f), (4, .int l4), (5, .int l5)] → W p l e rmX4_writePackets s m args below meth c H locs 0 0 Q (F0 m 6 ls [])) {f_size : Int32} {f_bytes : Nat → Int32} {l2 : Int32} {l4 : Int32} {l5 : Int32} {l6 : Int32} {l7 : Int32} {k2 : Int32} {k3 : Int32} {k4 : Int32} {H : Heap} {locs : List Loc} {ls : Array Slot} : fX4_writePackets_99 rc6 t_depth p_wide p_high p_pixels f_size f_bytes l2 l5 k2 k3 k4 = some (zf_size, zf_bytes) → va_P D vwCl (zwX4 cI h_t t_depth t_left t_isRepeated t_held ++ zwX5 cI h_p h_p_pixels p_wide p_high p_pixels ++ zwX2 cI h_f h_f_bytes f_size f_bytes) H → va_D A (zwX4 cI h_t t_depth t_left t_isRepeated t_held ++ zwX5 cI h_p h_p_pixels p_wide p_high p_pixels ++ zwX2 cI h_f h_f_bytes f_size f_bytes) → va_S A s.heap H locs → lv_has ls 8 [(0, .ref h_t), (1, .ref h_p), (2, .int l2), (3, .ref h_f), (4, .int l4), (5, .int l5), (6, .int l6), (7, .int l7)] → W p l e rmX4_writePackets s m args below meth c H locs 0 0 Q (F0 m 99 ls [.int k4, .int k3, .int k2, .ref h_p, .ref h_t]) := by
  intro hf hP hD hS hl
  obtain ⟨hx, hb, hml, hown, hts⟩ := id C
  unfold fX4_writePackets_99 at hf
  refine lv_aload_n hx hb dX4_writePackets_99 rfl (lv_at hl 3 rfl) ?_
  obtain ⟨u1, u2, hc3, hf⟩ := zb2_in hf
  refine zc_v (va_runV (As := [.ref h_p, .int k2, .int k3, .int k4, .ref h_f]) (rest := []) C (mX4_writePixels l D cI H.size h_t h_p h_p_pixels h_f h_f_bytes t_depth t_left t_isRepeated t_held p_wide p_high p_pixels f_size f_bytes k2 k3 k4 u1 u2 hc3) (qX4_writePackets_X4_writePixels_53 hts) ⟨zP_blind, va_recv hK hP (ci := 3) (q0 := 0) rfl rfl, zpre hK hN hP hD [0, 1, 2, 3, 4] rfl rfl⟩ rfl rfl hl.1 rfl (lv_room (Nat.le_of_ble_eq_true rfl)) dX4_writePackets_100 ⟨Nat.zero_le _, Nat.zero_le _⟩) hP hD hS hA [0, 1, 2, 3, 4] [] [0, 1, 2, 3, 4] (ws' := zwX4 cI h_t t_depth t_left t_isRepeated t_held ++ zwX5 cI h_p h_p_pixels p_wide p_high p_pixels ++ zwX2 cI h_f h_f_bytes u1 u2) rfl rfl rfl rfl rfl rfl (fun H locs hP hD hS => ?_)
  refine lv_iload hx hb dX4_writePackets_103 (lv_at hl 5 rfl) ?_
  refine lv_iconst (v := 1) hx hb dX4_writePackets_105 (by decide) ?_
  refine lv_iadd hx hb dX4_writePackets_106 ?_
  refine lv_topi (fun x4 ex4 => ?_)
  replace hf := zlet_in hf ex4
  clear ex4
  refine lv_istore (lv' := [(4, .int x4), (0, .ref h_t), (1, .ref h_p), (2, .int l2), (3, .ref h_f), (5, .int l5), (6, .int l6), (7, .int l7)]) hx hb dX4_writePackets_107 hl (by decide) rfl (fun ls hl => ?_)
  exact wX4_writePackets_109 C hN hK hA hE hr_6 hf hP hD hS (lv_sub hl [1, 2, 3, 4, 0, 5, 6] rfl)
set_option maxHeartbeats 4000000 in
set_option maxRecDepth 100000 in
theorem wX4_writePackets_74 {p : Program} {l : Launch} {e : Env} {s : State} {m : MethodId} {args : Array Value} {below : List Frame} {meth : Method} {c : Code} {D : va_G} {A : Nat → Prop} {Q : State → Prop} {cI : ClassId} {h_t h_p h_p_pixels h_f h_f_bytes : Nat} {t_depth : Int32} {t_left : Int32} {t_isRepeated : Int32} {t_held : Int32} {p_wide : Int32} {p_high : Int32} {p_pixels : Nat → Int32} {zf_size : Int32} {zf_bytes : Nat → Int32} (C : CallFix p m c cX4_writePackets 8 s args wsX4_writePackets RX4) (hN : zN s) (hK : va_K D vwCl [(cI, .int)] s) (hA : ∀ q, s.heap.size ≤ q → A q) (hE : zEv p l e rmX4_writePackets s m args below meth c cX4_writePackets D A Q (zwX4 cI h_t t_depth t_left t_isRepeated t_held ++ zwX5 cI h_p h_p_pixels p_wide p_high p_pixels ++ zwX2 cI h_f h_f_bytes zf_size zf_bytes)) {rc6 : Int32 → Int32 → Int32 → (Nat → Int32) → Int32 → (Nat → Int32) → Int32 → Int32 → Int32 → Option (Int32 × (Nat → Int32))} (hr_6 : ∀ {f_size : Int32} {f_bytes : Nat → Int32} {l2 : Int32} {l4 : Int32} {l5 : Int32} {H : Heap} {locs : List Loc} {ls : Array Slot}, rc6 t_depth p_wide p_high p_pixels f_size f_bytes l2 l4 l5 = some (zf_size, zf_bytes) → va_P D vwCl (zwX4 cI h_t t_depth t_left t_isRepeated t_held ++ zwX5 cI h_p h_p_pixels p_wide p_high p_pixels ++ zwX2 cI h_f h_f_bytes f_size f_bytes) H → va_D A (zwX4 cI h_t t_depth t_left t_isRepeated t_held ++ zwX5 cI h_p h_p_pixels p_wide p_high p_pixels ++ zwX2 cI h_f h_f_bytes f_size f_bytes) → va_S A s.heap H locs → lv_has ls 8 [(0, .ref h_t), (1, .ref h_p), (2, .int l2), (3, .ref h_f), (4, .int l4), (5, .int l5)] → W p l e rmX4_writePackets s m args below meth c H locs 0 0 Q (F0 m 6 ls [])) {f_size : Int32} {f_bytes : Nat → Int32} {l2 : Int32} {l4 : Int32} {l5 : Int32} {l6 : Int32} {l7 : Int32} {k1 : Int32} {H : Heap} {locs : List Loc} {ls : Array Slot} : fX4_writePackets_74 rc6 t_depth p_wide p_high p_pixels f_size f_bytes l2 l4 l5 l6 k1 = some (zf_size, zf_bytes) → va_P D vwCl (zwX4 cI h_t t_depth t_left t_isRepeated t_held ++ zwX5 cI h_p h_p_pixels p_wide p_high p_pixels ++ zwX2 cI h_f h_f_bytes f_size f_bytes) H → va_D A (zwX4 cI h_t t_depth t_left t_isRepeated t_held ++ zwX5 cI h_p h_p_pixels p_wide p_high p_pixels ++ zwX2 cI h_f h_f_bytes f_size f_bytes) → va_S A s.heap H locs → lv_has ls 8 [(0, .ref h_t), (1, .ref h_p), (2, .int l2), (3, .ref h_f), (4, .int l4), (5, .int l5), (6, .int l6), (7, .int l7)] → W p l e rmX4_writePackets s m args below meth c H locs 0 0 Q (F0 m 74 ls [.int k1, .ref h_f]) := by
  intro hf hP hD hS hl
  obtain ⟨hx, hb, hml, hown, hts⟩ := id C
  unfold fX4_writePackets_74 at hf
  obtain ⟨r1, u2, u3, hc4, hf⟩ := zb3_in hf
  refine zc_i (va_runV (As := [.int k1]) (rest := []) C (mX2_append l D cI H.size h_f h_f_bytes f_size f_bytes k1 r1 u2 u3 hc4) (qX4_writePackets_X2_append_35 hts) ⟨zP_blind, va_recv hK hP (ci := 2) (q0 := 3) rfl rfl, zpre hK hN hP hD [3, 4] rfl rfl⟩ rfl rfl hl.1 rfl (lv_room (Nat.le_of_ble_eq_true rfl)) dX4_writePackets_74 ⟨Nat.zero_le _, Nat.zero_le _⟩) hP hD hS hA [3, 4] [0, 1, 2] [0, 1, 2, 3, 4] (ws' := zwX4 cI h_t t_depth t_left t_isRepeated t_held ++ zwX5 cI h_p h_p_pixels p_wide p_high p_pixels ++ zwX2 cI h_f h_f_bytes u2 u3) rfl rfl rfl rfl rfl rfl (fun H locs hP hD hS => ?_)
  refine lv_pop hx hb dX4_writePackets_77 rfl ?_
  refine lv_aload_n hx hb dX4_writePackets_78 rfl (lv_at hl 0 rfl) ?_
  refine lv_aload_n hx hb dX4_writePackets_79 rfl (lv_at hl 1 rfl) ?_
  refine lv_iload_n hx hb dX4_writePackets_80 rfl (lv_at hl 2 rfl) ?_
  refine lv_iload hx hb dX4_writePackets_81 (lv_at hl 4 rfl) ?_
  refine lv_iload hx hb dX4_writePackets_83 (lv_at hl 6 rfl) ?_
  refine lv_if_eq (tgt := 95) hx hb dX4_writePackets_85 (by decide) (fun c5 => ?_) (fun c5 => ?_)
  · replace hf := zif_t hf c5
    refine lv_iload hx hb dX4_writePackets_95 (lv_at hl 5 rfl) ?_
    refine lv_iconst (v := 1) hx hb dX4_writePackets_97 (by decide) ?_
    refine lv_iadd hx hb dX4_writePackets_98 ?_
    exact wX4_writePackets_99 C hN hK hA hE hr_6 hf hP hD hS (lv_sub hl [0, 1, 2, 3, 4, 5, 6, 7] rfl)
  · replace hf := zif_f hf c5
    refine lv_iload hx hb dX4_writePackets_88 (lv_at hl 4 rfl) ?_
    refine lv_iconst (v := 1) hx hb dX4_writePackets_90 (by decide) ?_
    refine lv_iadd hx hb dX4_writePackets_91 ?_
    refine lv_goto (tgt := 99) hx hb dX4_writePackets_92 (by decide) ?_
    exact wX4_writePackets_99 C hN hK hA hE hr_6 hf hP hD hS (lv_sub hl [0, 1, 2, 3, 4, 5, 6, 7] rfl)
set_option maxHeartbeats 4000000 in
set_option maxRecDepth 100000 in
theorem wX4_writePackets_47 {p : Program} {l : Launch} {e : Env} {s : State} {m : MethodId} {args : Array Value} {below : List Frame} {meth : Method} {c : Code} {D : va_G} {A : Nat → Prop} {Q : State → Prop} {cI : ClassId} {h_t h_p h_p_pixels h_f h_f_bytes : Nat} {t_depth : Int32} {t_left : Int32} {t_isRepeated : Int32} {t_held : Int32} {p_wide : Int32} {p_high : Int32} {p_pixels : Nat → Int32} {zf_size : Int32} {zf_bytes : Nat → Int32} (C : CallFix p m c cX4_writePackets 8 s args wsX4_writePackets RX4) (hN : zN s) (hK : va_K D vwCl [(cI, .int)] s) (hA : ∀ q, s.heap.size ≤ q → A q) (hE : zEv p l e rmX4_writePackets s m args below meth c cX4_writePackets D A Q (zwX4 cI h_t t_depth t_left t_isRepeated t_held ++ zwX5 cI h_p h_p_pixels p_wide p_high p_pixels ++ zwX2 cI h_f h_f_bytes zf_size zf_bytes)) {rc6 : Int32 → Int32 → Int32 → (Nat → Int32) → Int32 → (Nat → Int32) → Int32 → Int32 → Int32 → Option (Int32 × (Nat → Int32))} (hr_6 : ∀ {f_size : Int32} {f_bytes : Nat → Int32} {l2 : Int32} {l4 : Int32} {l5 : Int32} {H : Heap} {locs : List Loc} {ls : Array Slot}, rc6 t_depth p_wide p_high p_pixels f_size f_bytes l2 l4 l5 = some (zf_size, zf_bytes) → va_P D vwCl (zwX4 cI h_t t_depth t_left t_isRepeated t_held ++ zwX5 cI h_p h_p_pixels p_wide p_high p_pixels ++ zwX2 cI h_f h_f_bytes f_size f_bytes) H → va_D A (zwX4 cI h_t t_depth t_left t_isRepeated t_held ++ zwX5 cI h_p h_p_pixels p_wide p_high p_pixels ++ zwX2 cI h_f h_f_bytes f_size f_bytes) → va_S A s.heap H locs → lv_has ls 8 [(0, .ref h_t), (1, .ref h_p), (2, .int l2), (3, .ref h_f), (4, .int l4), (5, .int l5)] → W p l e rmX4_writePackets s m args below meth c H locs 0 0 Q (F0 m 6 ls [])) {f_size : Int32} {f_bytes : Nat → Int32} {l2 : Int32} {l4 : Int32} {l5 : Int32} {l6 : Int32} {H : Heap} {locs : List Loc} {ls : Array Slot} : fX4_writePackets_47 rc6 t_depth p_wide p_high p_pixels f_size f_bytes l2 l4 l5 l6 = some (zf_size, zf_bytes) → va_P D vwCl (zwX4 cI h_t t_depth t_left t_isRepeated t_held ++ zwX5 cI h_p h_p_pixels p_wide p_high p_pixels ++ zwX2 cI h_f h_f_bytes f_size f_bytes) H → va_D A (zwX4 cI h_t t_depth t_left t_isRepeated t_held ++ zwX5 cI h_p h_p_pixels p_wide p_high p_pixels ++ zwX2 cI h_f h_f_bytes f_size f_bytes) → va_S A s.heap H locs → lv_has ls 8 [(0, .ref h_t), (1, .ref h_p), (2, .int l2), (3, .ref h_f), (4, .int l4), (5, .int l5), (6, .int l6)] → W p l e rmX4_writePackets s m args below meth c H locs 0 0 Q (F0 m 47 ls []) := by
  intro hf hP hD hS hl
  obtain ⟨hx, hb, hml, hown, hts⟩ := id C
  unfold fX4_writePackets_47 at hf
  refine lv_iload hx hb dX4_writePackets_47 (lv_at hl 5 rfl) ?_
  refine lv_iconst (v := 1) hx hb dX4_writePackets_49 (by decide) ?_
  refine lv_iadd hx hb dX4_writePackets_50 ?_
  refine lv_iload hx hb dX4_writePackets_51 (lv_at hl 4 rfl) ?_
  refine lv_isub hx hb dX4_writePackets_53 ?_
  refine lv_topi (fun x1 ex1 => ?_)
  replace hf := zlet_in hf ex1
  clear ex1
  refine lv_istore (lv' := [(7, .int x1), (0, .ref h_t), (1, .ref h_p), (2, .int l2), (3, .ref h_f), (4, .int l4), (5, .int l5), (6, .int l6)]) hx hb dX4_writePackets_54 hl (by decide) rfl (fun ls hl => ?_)
  refine lv_aload_n hx hb dX4_writePackets_56 rfl (lv_at hl 4 rfl) ?_
  refine lv_iload hx hb dX4_writePackets_57 (lv_at hl 7 rfl) ?_
  refine lv_if_eq (tgt := 70) hx hb dX4_writePackets_59 (by decide) (fun c2 => ?_) (fun c2 => ?_)
  · replace hf := zif_t hf c2
    refine lv_iload hx hb dX4_writePackets_70 (lv_at hl 0 rfl) ?_
    refine lv_iconst (v := 1) hx hb dX4_writePackets_72 (by decide) ?_
    refine lv_isub hx hb dX4_writePackets_73 ?_
    exact wX4_writePackets_74 C hN hK hA hE hr_6 hf hP hD hS (lv_sub hl [1, 2, 3, 4, 5, 6, 7, 0] rfl)
  · replace hf := zif_f hf c2
    refine lv_bipush (v := 127) hx hb dX4_writePackets_62 (by decide) ?_
    refine lv_iload hx hb dX4_writePackets_64 (lv_at hl 0 rfl) ?_
    refine lv_iadd hx hb dX4_writePackets_66 ?_
    refine lv_goto (tgt := 74) hx hb dX4_writePackets_67 (by decide) ?_
    exact wX4_writePackets_74 C hN hK hA hE hr_6 hf hP hD hS (lv_sub hl [1, 2, 3, 4, 5, 6, 7, 0] rfl)
set_option maxHeartbeats 4000000 in
set_option maxRecDepth 100000 in
theorem wX4_writePackets_6 {p : Program} {l : Launch} {e : Env} {s : State} {m : MethodId} {args : Array Value} {below : List Frame} {meth : Method} {c : Code} {D : va_G} {A : Nat → Prop} {Q : State → Prop} {cI : ClassId} {h_t h_p h_p_pixels h_f h_f_bytes : Nat} {t_depth : Int32} {t_left : Int32} {t_isRepeated : Int32} {t_held : Int32} {p_wide : Int32} {p_high : Int32} {p_pixels : Nat → Int32} {zf_size : Int32} {zf_bytes : Nat → Int32} (C : CallFix p m c cX4_writePackets 8 s args wsX4_writePackets RX4) (hN : zN s) (hK : va_K D vwCl [(cI, .int)] s) (hA : ∀ q, s.heap.size ≤ q → A q) (hE : zEv p l e rmX4_writePackets s m args below meth c cX4_writePackets D A Q (zwX4 cI h_t t_depth t_left t_isRepeated t_held ++ zwX5 cI h_p h_p_pixels p_wide p_high p_pixels ++ zwX2 cI h_f h_f_bytes zf_size zf_bytes)) (n : Nat) : ∀ {f_size : Int32} {f_bytes : Nat → Int32} {l2 : Int32} {l4 : Int32} {l5 : Int32} {H : Heap} {locs : List Loc} {ls : Array Slot}, fX4_writePackets_6 n t_depth p_wide p_high p_pixels f_size f_bytes l2 l4 l5 = some (zf_size, zf_bytes) → va_P D vwCl (zwX4 cI h_t t_depth t_left t_isRepeated t_held ++ zwX5 cI h_p h_p_pixels p_wide p_high p_pixels ++ zwX2 cI h_f h_f_bytes f_size f_bytes) H → va_D A (zwX4 cI h_t t_depth t_left t_isRepeated t_held ++ zwX5 cI h_p h_p_pixels p_wide p_high p_pixels ++ zwX2 cI h_f h_f_bytes f_size f_bytes) → va_S A s.heap H locs → lv_has ls 8 [(0, .ref h_t), (1, .ref h_p), (2, .int l2), (3, .ref h_f), (4, .int l4), (5, .int l5)] → W p l e rmX4_writePackets s m args below meth c H locs 0 0 Q (F0 m 6 ls []) := by
  obtain ⟨hx, hb, hml, hown, hts⟩ := id C
  induction n with
  | zero =>
    intro f_size f_bytes l2 l4 l5 H locs ls hf
    cases hf
  | succ n hr_6 =>
    intro f_size f_bytes l2 l4 l5 H locs ls hf hP hD hS hl
    rw [fX4_writePackets_6_s] at hf
    refine lv_iload hx hb dX4_writePackets_6 (lv_at hl 5 rfl) ?_
    refine lv_aload_n hx hb dX4_writePackets_8 rfl (lv_at hl 1 rfl) ?_
    refine va_getN (D := D) (ci := 4) (v := .int p_wide) (C := RX5) (T := TX5) (N := 3) hx hb hts iX4_writePackets_X5 hown hK hP 1 rfl rfl 1 (by decide) (hN.at 4 rfl) (fun _ h9 => h9) rfl dX4_writePackets_9 ?_
    refine lv_icmp_ge (tgt := 115) hx hb dX4_writePackets_12 (by decide) (fun c1 => ?_) (fun c1 => ?_)
    · replace hf := zif_t hf c1
      cases hf
      exact hE _ _ _ _ dX4_writePackets_115 hP hD hS
    · replace hf := zif_f hf c1
      refine lv_aload_n hx hb dX4_writePackets_15 rfl (lv_at hl 1 rfl) ?_
      refine lv_iload hx hb dX4_writePackets_16 (lv_at hl 4 rfl) ?_
      refine lv_iload_n hx hb dX4_writePackets_18 rfl (lv_at hl 2 rfl) ?_
      obtain ⟨r2, hc3, hf⟩ := zb1_in hf
      refine zc_i (va_runS (As := [.ref h_p, .int l4, .int l2]) (rest := []) C (mX4_isSameAsNext l D cI H.size h_p h_p_pixels p_wide p_high p_pixels l4 l2 r2 hc3) (qX4_writePackets_X4_isSameAsNext_75 hts) ⟨zP_blind, zpre hK hN hP hD [1, 2] rfl rfl⟩ rfl rfl hl.1 rfl (lv_room (Nat.le_of_ble_eq_true rfl)) dX4_writePackets_19 ⟨Nat.zero_le _, Nat.zero_le _⟩) hP hD hS hA [1, 2] [0, 3, 4] [0, 3, 4, 1, 2] (ws' := zwX4 cI h_t t_depth t_left t_isRepeated t_held ++ zwX5 cI h_p h_p_pixels p_wide p_high p_pixels ++ zwX2 cI h_f h_f_bytes f_size f_bytes) rfl rfl rfl rfl rfl rfl (fun H locs hP hD hS => ?_)
      refine lv_istore (lv' := [(6, .int r2), (0, .ref h_t), (1, .ref h_p), (2, .int l2), (3, .ref h_f), (4, .int l4), (5, .int l5)]) hx hb dX4_writePackets_22 hl (by decide) rfl (fun ls hl => ?_)
      refine lv_iload hx hb dX4_writePackets_24 (lv_at hl 6 rfl) ?_
      refine lv_iconst (v := 1) hx hb dX4_writePackets_26 (by decide) ?_
      refine lv_iadd hx hb dX4_writePackets_27 ?_
      refine lv_aload_n hx hb dX4_writePackets_28 rfl (lv_at hl 2 rfl) ?_
      refine va_getN (D := D) (ci := 4) (v := .int p_wide) (C := RX5) (T := TX5) (N := 3) hx hb hts iX4_writePackets_X5 hown hK hP 1 rfl rfl 1 (by decide) (hN.at 4 rfl) (fun _ h9 => h9) rfl dX4_writePackets_29 ?_
      refine lv_icmp_eq (tgt := 47) hx hb dX4_writePackets_32 (by decide) (fun c4 => ?_) (fun c4 => ?_)
      · replace hf := zif_t hf c4
        exact wX4_writePackets_47 C hN hK hA hE hr_6 hf hP hD hS (lv_sub hl [1, 2, 3, 4, 5, 6, 0] rfl)
      · replace hf := zif_f hf c4
        refine lv_aload_n hx hb dX4_writePackets_35 rfl (lv_at hl 2 rfl) ?_
        refine lv_iload hx hb dX4_writePackets_36 (lv_at hl 6 rfl) ?_
        refine lv_iload_n hx hb dX4_writePackets_38 rfl (lv_at hl 3 rfl) ?_
        refine lv_iload hx hb dX4_writePackets_39 (lv_at hl 0 rfl) ?_
        obtain ⟨r5, hc6, hf⟩ := zb1_in hf
        refine zc_i (va_runS (As := [.ref h_p, .int l5, .int l2, .int r2]) (rest := []) C (mX4_endsPacket l D cI H.size h_p h_p_pixels p_wide p_high p_pixels l5 l2 r2 r5 hc6) (qX4_writePackets_X4_endsPacket_79 hts) ⟨zP_blind, zpre hK hN hP hD [1, 2] rfl rfl⟩ rfl rfl hl.1 rfl (lv_room (Nat.le_of_ble_eq_true rfl)) dX4_writePackets_41 ⟨Nat.zero_le _, Nat.zero_le _⟩) hP hD hS hA [1, 2] [0, 3, 4] [0, 3, 4, 1, 2] (ws' := zwX4 cI h_t t_depth t_left t_isRepeated t_held ++ zwX5 cI h_p h_p_pixels p_wide p_high p_pixels ++ zwX2 cI h_f h_f_bytes f_size f_bytes) rfl rfl rfl rfl rfl rfl (fun H locs hP hD hS => ?_)
        refine lv_if_eq (tgt := 109) hx hb dX4_writePackets_44 (by decide) (fun c7 => ?_) (fun c7 => ?_)
        · replace hf := zif_t hf c7
          exact wX4_writePackets_109 C hN hK hA hE hr_6 hf hP hD hS (lv_sub hl [1, 2, 3, 4, 5, 6, 0] rfl)
        · replace hf := zif_f hf c7
          exact wX4_writePackets_47 C hN hK hA hE hr_6 hf hP hD hS (lv_sub hl [1, 2, 3, 4, 5, 6, 0] rfl)
set_option maxHeartbeats 4000000 in
set_option maxRecDepth 100000 in
theorem wX4_writePackets_0 {p : Program} {l : Launch} {e : Env} {s : State} {m : MethodId} {args : Array Value} {below : List Frame} {meth : Method} {c : Code} {D : va_G} {A : Nat → Prop} {Q : State → Prop} {cI : ClassId} {h_t h_p h_p_pixels h_f h_f_bytes : Nat} {t_depth : Int32} {t_left : Int32} {t_isRepeated : Int32} {t_held : Int32} {p_wide : Int32} {p_high : Int32} {p_pixels : Nat → Int32} {zf_size : Int32} {zf_bytes : Nat → Int32} (C : CallFix p m c cX4_writePackets 8 s args wsX4_writePackets RX4) (hN : zN s) (hK : va_K D vwCl [(cI, .int)] s) (hA : ∀ q, s.heap.size ≤ q → A q) (hE : zEv p l e rmX4_writePackets s m args below meth c cX4_writePackets D A Q (zwX4 cI h_t t_depth t_left t_isRepeated t_held ++ zwX5 cI h_p h_p_pixels p_wide p_high p_pixels ++ zwX2 cI h_f h_f_bytes zf_size zf_bytes)) {f_size : Int32} {f_bytes : Nat → Int32} {v1 : Int32} {H : Heap} {locs : List Loc} {ls : Array Slot} : fX4_writePackets t_depth p_wide p_high p_pixels f_size f_bytes v1 = some (zf_size, zf_bytes) → va_P D vwCl (zwX4 cI h_t t_depth t_left t_isRepeated t_held ++ zwX5 cI h_p h_p_pixels p_wide p_high p_pixels ++ zwX2 cI h_f h_f_bytes f_size f_bytes) H → va_D A (zwX4 cI h_t t_depth t_left t_isRepeated t_held ++ zwX5 cI h_p h_p_pixels p_wide p_high p_pixels ++ zwX2 cI h_f h_f_bytes f_size f_bytes) → va_S A s.heap H locs → lv_has ls 8 [(0, .ref h_t), (1, .ref h_p), (2, .int v1), (3, .ref h_f)] → W p l e rmX4_writePackets s m args below meth c H locs 0 0 Q (F0 m 0 ls []) := by
  intro hf hP hD hS hl
  obtain ⟨hx, hb, hml, hown, hts⟩ := id C
  unfold fX4_writePackets at hf
  refine lv_iconst (v := 0) hx hb dX4_writePackets_0 (by decide) ?_
  refine lv_istore (lv' := [(4, .int 0), (0, .ref h_t), (1, .ref h_p), (2, .int v1), (3, .ref h_f)]) hx hb dX4_writePackets_1 hl (by decide) rfl (fun ls hl => ?_)
  refine lv_iconst (v := 0) hx hb dX4_writePackets_3 (by decide) ?_
  refine lv_istore (lv' := [(5, .int 0), (4, .int 0), (0, .ref h_t), (1, .ref h_p), (2, .int v1), (3, .ref h_f)]) hx hb dX4_writePackets_4 hl (by decide) rfl (fun ls hl => ?_)
  exact wX4_writePackets_6 C hN hK hA hE 1000 hf hP hD hS (lv_sub hl [2, 3, 4, 5, 1, 0] rfl)
set_option maxHeartbeats 4000000 in
set_option maxRecDepth 100000 in
theorem mX4_writePackets (l : Launch) (D : va_G) (cI : ClassId) (sz : Nat) (h_t h_p h_p_pixels h_f h_f_bytes : Nat) (t_depth : Int32) (t_left : Int32) (t_isRepeated : Int32) (t_held : Int32) (p_wide : Int32) (p_high : Int32) (p_pixels : Nat → Int32) (f_size : Int32) (f_bytes : Nat → Int32) (v1 : Int32) (zf_size : Int32) (zf_bytes : Nat → Int32) (hf : fX4_writePackets t_depth p_wide p_high p_pixels f_size f_bytes v1 = some (zf_size, zf_bytes)) : Met l yX4_writePackets wsX4_writePackets rmX4_writePackets (va_Pc [.ref h_t, .ref h_p, .int v1, .ref h_f] (zP D [(cI, .int)] (zwX4 cI h_t t_depth t_left t_isRepeated t_held ++ zwX5 cI h_p h_p_pixels p_wide p_high p_pixels ++ zwX2 cI h_f h_f_bytes f_size f_bytes) sz)) (zQv D (zwX4 cI h_t t_depth t_left t_isRepeated t_held ++ zwX5 cI h_p h_p_pixels p_wide p_high p_pixels ++ zwX2 cI h_f h_f_bytes f_size f_bytes) sz (zwX4 cI h_t t_depth t_left t_isRepeated t_held ++ zwX5 cI h_p h_p_pixels p_wide p_high p_pixels ++ zwX2 cI h_f h_f_bytes zf_size zf_bytes)) 0 0 (va_A (zwX4 cI h_t t_depth t_left t_isRepeated t_held ++ zwX5 cI h_p h_p_pixels p_wide p_high p_pixels ++ zwX2 cI h_f h_f_bytes f_size f_bytes) sz) := by
  refine Met.ofW (cc := cX4_writePackets) (maxL := 8) (ret := none) (by decide) rfl ?_
  intro p e s m args below meth c s₁ B hml hv
  obtain ⟨rfl, hsz, hP, hK, hD0, hN⟩ := hv
  subst hsz
  have C : CallFix p m c cX4_writePackets 8 s [.ref h_t, .ref h_p, .int v1, .ref h_f].toArray wsX4_writePackets RX4 := ⟨B.exec, B.bytes, hml, findClass_of_methodNamed B.named, atoms_spec (ws := wsX4_writePackets) B.pre⟩
  have hl := lv_entry ([.ref h_t, .ref h_p, .int v1, .ref h_f]) (n := 8) (Nat.le_of_ble_eq_true rfl)
  rw [lg_entry_eq]
  exact wX4_writePackets_0 (A := va_A (zwX4 cI h_t t_depth t_left t_isRepeated t_held ++ zwX5 cI h_p h_p_pixels p_wide p_high p_pixels ++ zwX2 cI h_f h_f_bytes f_size f_bytes) s.heap.size) C hN hK (fun q h => Or.inr h) (fun H locs pc ls d hP hD hS => zend_v C.1 C.2.1 B.returns B.notSynchronized d hP hD hS) hf hP hD0.self va_S.rf hl
def rmX4_write : Room := { frames := 4, cells := 0, slots := 0, locals := 96 }
theorem kX4_write_28 {args : Array Value} {s : State} (h : ∀ w ∈ wsX4_write, w.before args s = true) : (Cond.fieldLink RX4 28 "FourPictureFiles$PacketFormat" "depth" "I").before args s = true := h _ (by decide +kernel)
theorem iX4_write_X4 : ∀ w ∈ u_ws RX4 TX4 4, w ∈ wsX4_write := by decide +kernel
theorem iX4_write_X5 : ∀ w ∈ u_ws RX5 TX5 3, w ∈ wsX4_write := by decide +kernel
theorem qX4_write_X2_append_35 {args : Array Value} {s : State} (hts : ∀ w ∈ wsX4_write, w.before args s = true) : CallW rmX4_write s args RX4 RX2 35 yX2_append cX2_append 2 (some .boolean) wsX2_append rmX2_append 0 0 1 := cwV 1 hts gX4_write_X2_append rfl rfl rfl (by decide +kernel) ⟨Nat.le_of_ble_eq_true rfl, Nat.le_of_ble_eq_true rfl⟩
theorem qX4_write_X2_appendLittle_42 {args : Array Value} {s : State} (hts : ∀ w ∈ wsX4_write, w.before args s = true) : CallW rmX4_write s args RX4 RX2 42 yX2_appendLittle cX2_appendLittle 4 none wsX2_appendLittle rmX2_appendLittle 0 0 2 := cwV 2 hts gX4_write_X2_appendLittle rfl rfl rfl (by decide +kernel) ⟨Nat.le_of_ble_eq_true rfl, Nat.le_of_ble_eq_true rfl⟩
theorem qX4_write_X2_appendZeros_31 {args : Array Value} {s : State} (hts : ∀ w ∈ wsX4_write, w.before args s = true) : CallW rmX4_write s args RX4 RX2 31 yX2_appendZeros cX2_appendZeros 3 none wsX2_appendZeros rmX2_appendZeros 0 0 1 := cwV 1 hts gX4_write_X2_appendZeros rfl rfl rfl (by decide +kernel) ⟨Nat.le_of_ble_eq_true rfl, Nat.le_of_ble_eq_true rfl⟩
theorem qX4_write_X4_alphaBits_49 {args : Array Value} {s : State} (hts : ∀ w ∈ wsX4_write, w.before args s = true) : CallW rmX4_write s args RX4 RX4 49 yX4_alphaBits cX4_alphaBits 1 (some .int) wsX4_alphaBits rmX4_alphaBits 0 0 0 := cwV 0 hts gX4_write_X4_alphaBits rfl rfl rfl (by decide +kernel) ⟨Nat.le_of_ble_eq_true rfl, Nat.le_of_ble_eq_true rfl⟩
theorem qX4_write_X4_writePackets_57 {args : Array Value} {s : State} (hts : ∀ w ∈ wsX4_write, w.before args s = true) : CallW rmX4_write s args RX4 RX4 57 yX4_writePackets cX4_writePackets 8 none wsX4_writePackets rmX4_writePackets 0 0 3 := cwV 3 hts gX4_write_X4_writePackets rfl rfl rfl (by decide +kernel) ⟨Nat.le_of_ble_eq_true rfl, Nat.le_of_ble_eq_true rfl⟩
theorem qX4_write_X4_writePixels_53 {args : Array Value} {s : State} (hts : ∀ w ∈ wsX4_write, w.before args s = true) : CallW rmX4_write s args RX4 RX4 53 yX4_writePixels cX4_writePixels 8 none wsX4_writePixels rmX4_writePixels 0 0 5 := cwV 5 hts gX4_write_X4_writePixels rfl rfl rfl (by decide +kernel) ⟨Nat.le_of_ble_eq_true rfl, Nat.le_of_ble_eq_true rfl⟩
theorem qX4_write_X5_isGrey_19 {args : Array Value} {s : State} (hts : ∀ w ∈ wsX4_write, w.before args s = true) : CallW rmX4_write s args RX4 RX5 19 yX5_isGrey cX5_isGrey 3 (some .boolean) wsX5_isGrey rmX5_isGrey 0 0 0 := cwV 0 hts gX4_write_X5_isGrey rfl rfl rfl (by decide +kernel) ⟨Nat.le_of_ble_eq_true rfl, Nat.le_of_ble_eq_true rfl⟩
theorem qX4_write_X5_isOpaque_25 {args : Array Value} {s : State} (hts : ∀ w ∈ wsX4_write, w.before args s = true) : CallW rmX4_write s args RX4 RX5 25 yX5_isOpaque cX5_isOpaque 2 (some .boolean) wsX5_isOpaque rmX5_isOpaque 0 0 0 := cwV 0 hts gX4_write_X5_isOpaque rfl rfl rfl (by decide +kernel) ⟨Nat.le_of_ble_eq_true rfl, Nat.le_of_ble_eq_true rfl⟩
set_option maxHeartbeats 4000000 in
set_option maxRecDepth 100000 in
theorem wX4_write_150 {p : Program} {l : Launch} {e : Env} {s : State} {m : MethodId} {args : Array Value} {below : List Frame} {meth : Method} {c : Code} {D : va_G} {A : Nat → Prop} {Q : State → Prop} {cI : ClassId} {h_t h_p h_p_pixels h_f h_f_bytes : Nat} {t_left : Int32} {t_isRepeated : Int32} {t_held : Int32} {p_wide : Int32} {p_high : Int32} {p_pixels : Nat → Int32} {zt_depth : Int32} {zf_size : Int32} {zf_bytes : Nat → Int32} (C : CallFix p m c cX4_write 6 s args wsX4_write RX4) (hN : zN s) (hK : va_K D vwCl [(cI, .int)] s) (hA : ∀ q, s.heap.size ≤ q → A q) (hE : zEv p l e rmX4_write s m args below meth c cX4_write D A Q (zwX4 cI h_t zt_depth t_left t_isRepeated t_held ++ zwX5 cI h_p h_p_pixels p_wide p_high p_pixels ++ zwX2 cI h_f h_f_bytes zf_size zf_bytes)) {rc113 : Int32 → Int32 → Int32 → (Nat → Int32) → Int32 → (Nat → Int32) → Int32 → Int32 → Option (Int32 × Int32 × (Nat → Int32))} (hr_113 : ∀ {t_depth : Int32} {f_size : Int32} {f_bytes : Nat → Int32} {l2 : Int32} {l4 : Int32} {l5 : Int32} {H : Heap} {locs : List Loc} {ls : Array Slot}, rc113 t_depth p_wide p_high p_pixels f_size f_bytes l2 l5 = some (zt_depth, zf_size, zf_bytes) → va_P D vwCl (zwX4 cI h_t t_depth t_left t_isRepeated t_held ++ zwX5 cI h_p h_p_pixels p_wide p_high p_pixels ++ zwX2 cI h_f h_f_bytes f_size f_bytes) H → va_D A (zwX4 cI h_t t_depth t_left t_isRepeated t_held ++ zwX5 cI h_p h_p_pixels p_wide p_high p_pixels ++ zwX2 cI h_f h_f_bytes f_size f_bytes) → va_S A s.heap H locs → lv_has ls 6 [(0, .ref h_t), (1, .ref h_p), (2, .int l2), (3, .ref h_f), (4, .int l4), (5, .int l5)] → W p l e rmX4_write s m args below meth c H locs 0 0 Q (F0 m 113 ls [])) {t_depth : Int32} {f_size : Int32} {f_bytes : Nat → Int32} {l2 : Int32} {l4 : Int32} {l5 : Int32} {H : Heap} {locs : List Loc} {ls : Array Slot} : fX4_write_150 rc113 t_depth p_wide p_high p_pixels f_size f_bytes l2 l5 = some (zt_depth, zf_size, zf_bytes) → va_P D vwCl (zwX4 cI h_t t_depth t_left t_isRepeated t_held ++ zwX5 cI h_p h_p_pixels p_wide p_high p_pixels ++ zwX2 cI h_f h_f_bytes f_size f_bytes) H → va_D A (zwX4 cI h_t t_depth t_left t_isRepeated t_held ++ zwX5 cI h_p h_p_pixels p_wide p_high p_pixels ++ zwX2 cI h_f h_f_bytes f_size f_bytes) → va_S A s.heap H locs → lv_has ls 6 [(0, .ref h_t), (1, .ref h_p), (2, .int l2), (3, .ref h_f), (4, .int l4), (5, .int l5)] → W p l e rmX4_write s m args below meth c H locs 0 0 Q (F0 m 150 ls []) := by
  intro hf hP hD hS hl
  obtain ⟨hx, hb, hml, hown, hts⟩ := id C
  unfold fX4_write_150 at hf
  obtain ⟨x1, ex1⟩ : ∃ y : Int32, y = l5 + 1 := ⟨_, rfl⟩
  replace hf := zlet_in hf ex1
  refine lv_iinc (v := x1) (lv' := [(5, .int x1), (0, .ref h_t), (1, .ref h_p), (2, .int l2), (3, .ref h_f), (4, .int l4)]) hx hb dX4_write_150 hl (k := 5) rfl (by rw [ex1]; rfl) (by decide) rfl (fun ls hl => ?_)
  clear ex1
  refine lv_goto (tgt := 113) hx hb dX4_write_153 (by decide) ?_
  exact hr_113 hf hP hD hS (lv_sub hl [1, 2, 3, 4, 5, 0] rfl)
set_option maxHeartbeats 4000000 in
set_option maxRecDepth 100000 in
theorem wX4_write_113 {p : Program} {l : Launch} {e : Env} {s : State} {m : MethodId} {args : Array Value} {below : List Frame} {meth : Method} {c : Code} {D : va_G} {A : Nat → Prop} {Q : State → Prop} {cI : ClassId} {h_t h_p h_p_pixels h_f h_f_bytes : Nat} {t_left : Int32} {t_isRepeated : Int32} {t_held : Int32} {p_wide : Int32} {p_high : Int32} {p_pixels : Nat → Int32} {zt_depth : Int32} {zf_size : Int32} {zf_bytes : Nat → Int32} (C : CallFix p m c cX4_write 6 s args wsX4_write RX4) (hN : zN s) (hK : va_K D vwCl [(cI, .int)] s) (hA : ∀ q, s.heap.size ≤ q → A q) (hE : zEv p l e rmX4_write s m args below meth c cX4_write D A Q (zwX4 cI h_t zt_depth t_left t_isRepeated t_held ++ zwX5 cI h_p h_p_pixels p_wide p_high p_pixels ++ zwX2 cI h_f h_f_bytes zf_size zf_bytes)) (n : Nat) : ∀ {t_depth : Int32} {f_size : Int32} {f_bytes : Nat → Int32} {l2 : Int32} {l4 : Int32} {l5 : Int32} {H : Heap} {locs : List Loc} {ls : Array Slot}, fX4_write_113 n t_depth p_wide p_high p_pixels f_size f_bytes l2 l5 = some (zt_depth, zf_size, zf_bytes) → va_P D vwCl (zwX4 cI h_t t_depth t_left t_isRepeated t_held ++ zwX5 cI h_p h_p_pixels p_wide p_high p_pixels ++ zwX2 cI h_f h_f_bytes f_size f_bytes) H → va_D A (zwX4 cI h_t t_depth t_left t_isRepeated t_held ++ zwX5 cI h_p h_p_pixels p_wide p_high p_pixels ++ zwX2 cI h_f h_f_bytes f_size f_bytes) → va_S A s.heap H locs → lv_has ls 6 [(0, .ref h_t), (1, .ref h_p), (2, .int l2), (3, .ref h_f), (4, .int l4), (5, .int l5)] → W p l e rmX4_write s m args below meth c H locs 0 0 Q (F0 m 113 ls []) := by
  obtain ⟨hx, hb, hml, hown, hts⟩ := id C
  induction n with
  | zero =>
    intro t_depth f_size f_bytes l2 l4 l5 H locs ls hf
    cases hf
  | succ n hr_113 =>
    intro t_depth f_size f_bytes l2 l4 l5 H locs ls hf hP hD hS hl
    rw [fX4_write_113_s] at hf
    refine lv_iload hx hb dX4_write_113 (lv_at hl 5 rfl) ?_
    refine lv_aload_n hx hb dX4_write_115 rfl (lv_at hl 1 rfl) ?_
    refine va_getN (D := D) (ci := 4) (v := .int p_high) (C := RX5) (T := TX5) (N := 3) hx hb hts iX4_write_X5 hown hK hP 1 rfl rfl 2 (by decide) (hN.at 10 rfl) (fun _ h9 => h9) rfl dX4_write_116 ?_
    refine lv_icmp_ge (tgt := 156) hx hb dX4_write_119 (by decide) (fun c1 => ?_) (fun c1 => ?_)
    · replace hf := zif_t hf c1
      cases hf
      exact hE _ _ _ _ dX4_write_156 hP hD hS
    · replace hf := zif_f hf c1
      refine lv_iload_n hx hb dX4_write_122 rfl (lv_at hl 2 rfl) ?_
      refine lv_if_ne (tgt := 142) hx hb dX4_write_123 (by decide) (fun c2 => ?_) (fun c2 => ?_)
      · replace hf := zif_f hf c2
        refine lv_aload_n hx hb dX4_write_142 rfl (lv_at hl 0 rfl) ?_
        refine lv_aload_n hx hb dX4_write_143 rfl (lv_at hl 1 rfl) ?_
        refine lv_iload hx hb dX4_write_144 (lv_at hl 5 rfl) ?_
        refine lv_aload_n hx hb dX4_write_146 rfl (lv_at hl 3 rfl) ?_
        obtain ⟨u3, u4, hc5, hf⟩ := zb2_in hf
        refine zc_v (va_runV (As := [.ref h_p, .int l5, .ref h_f]) (rest := []) C (mX4_writePackets l D cI H.size h_t h_p h_p_pixels h_f h_f_bytes t_depth t_left t_isRepeated t_held p_wide p_high p_pixels f_size f_bytes l5 u3 u4 hc5) (qX4_write_X4_writePackets_57 hts) ⟨zP_blind, va_recv hK hP (ci := 3) (q0 := 0) rfl rfl, zpre hK hN hP hD [0, 1, 2, 3, 4] rfl rfl⟩ rfl rfl hl.1 rfl (lv_room (Nat.le_of_ble_eq_true rfl)) dX4_write_147 ⟨Nat.zero_le _, Nat.zero_le _⟩) hP hD hS hA [0, 1, 2, 3, 4] [] [0, 1, 2, 3, 4] (ws' := zwX4 cI h_t t_depth t_left t_isRepeated t_held ++ zwX5 cI h_p h_p_pixels p_wide p_high p_pixels ++ zwX2 cI h_f h_f_bytes u3 u4) rfl rfl rfl rfl rfl rfl (fun H locs hP hD hS => ?_)
        exact wX4_write_150 C hN hK hA hE hr_113 hf hP hD hS (lv_sub hl [0, 1, 2, 3, 4, 5] rfl)
      · replace hf := zif_t hf c2
        refine lv_aload_n hx hb dX4_write_126 rfl (lv_at hl 0 rfl) ?_
        refine lv_aload_n hx hb dX4_write_127 rfl (lv_at hl 1 rfl) ?_
        refine lv_iload hx hb dX4_write_128 (lv_at hl 5 rfl) ?_
        refine lv_iconst (v := 0) hx hb dX4_write_130 (by decide) ?_
        refine lv_aload_n hx hb dX4_write_131 rfl (lv_at hl 1 rfl) ?_
        refine va_getN (D := D) (ci := 4) (v := .int p_wide) (C := RX5) (T := TX5) (N := 3) hx hb hts iX4_write_X5 hown hK hP 1 rfl rfl 1 (by decide) (hN.at 4 rfl) (fun _ h9 => h9) rfl dX4_write_132 ?_
        refine lv_aload_n hx hb dX4_write_135 rfl (lv_at hl 3 rfl) ?_
        obtain ⟨u6, u7, hc8, hf⟩ := zb2_in hf
        refine zc_v (va_runV (As := [.ref h_p, .int l5, .int 0, .int p_wide, .ref h_f]) (rest := []) C (mX4_writePixels l D cI H.size h_t h_p h_p_pixels h_f h_f_bytes t_depth t_left t_isRepeated t_held p_wide p_high p_pixels f_size f_bytes l5 0 p_wide u6 u7 hc8) (qX4_write_X4_writePixels_53 hts) ⟨zP_blind, va_recv hK hP (ci := 3) (q0 := 0) rfl rfl, zpre hK hN hP hD [0, 1, 2, 3, 4] rfl rfl⟩ rfl rfl hl.1 rfl (lv_room (Nat.le_of_ble_eq_true rfl)) dX4_write_136 ⟨Nat.zero_le _, Nat.zero_le _⟩) hP hD hS hA [0, 1, 2, 3, 4] [] [0, 1, 2, 3, 4] (ws' := zwX4 cI h_t t_depth t_left t_isRepeated t_held ++ zwX5 cI h_p h_p_pixels p_wide p_high p_pixels ++ zwX2 cI h_f h_f_bytes u6 u7) rfl rfl rfl rfl rfl rfl (fun H locs hP hD hS => ?_)
        refine lv_goto (tgt := 150) hx hb dX4_write_139 (by decide) ?_
        exact wX4_write_150 C hN hK hA hE hr_113 hf hP hD hS (lv_sub hl [0, 1, 2, 3, 4, 5] rfl)
set_option maxHeartbeats 4000000 in
set_option maxRecDepth 100000 in
theorem wX4_write_60 {p : Program} {l : Launch} {e : Env} {s : State} {m : MethodId} {args : Array Value} {below : List Frame} {meth : Method} {c : Code} {D : va_G} {A : Nat → Prop} {Q : State → Prop} {cI : ClassId} {h_t h_p h_p_pixels h_f h_f_bytes : Nat} {t_left : Int32} {t_isRepeated : Int32} {t_held : Int32} {p_wide : Int32} {p_high : Int32} {p_pixels : Nat → Int32} {zt_depth : Int32} {zf_size : Int32} {zf_bytes : Nat → Int32} (C : CallFix p m c cX4_write 6 s args wsX4_write RX4) (hN : zN s) (hK : va_K D vwCl [(cI, .int)] s) (hA : ∀ q, s.heap.size ≤ q → A q) (hE : zEv p l e rmX4_write s m args below meth c cX4_write D A Q (zwX4 cI h_t zt_depth t_left t_isRepeated t_held ++ zwX5 cI h_p h_p_pixels p_wide p_high p_pixels ++ zwX2 cI h_f h_f_bytes zf_size zf_bytes)) {t_depth : Int32} {f_size : Int32} {f_bytes : Nat → Int32} {l2 : Int32} {l4 : Int32} {k1 : Int32} {k2 : Int32} {H : Heap} {locs : List Loc} {ls : Array Slot} : fX4_write_60 t_depth p_wide p_high p_pixels f_size f_bytes l2 k1 k2 = some (zt_depth, zf_size, zf_bytes) → va_P D vwCl (zwX4 cI h_t t_depth t_left t_isRepeated t_held ++ zwX5 cI h_p h_p_pixels p_wide p_high p_pixels ++ zwX2 cI h_f h_f_bytes f_size f_bytes) H → va_D A (zwX4 cI h_t t_depth t_left t_isRepeated t_held ++ zwX5 cI h_p h_p_pixels p_wide p_high p_pixels ++ zwX2 cI h_f h_f_bytes f_size f_bytes) → va_S A s.heap H locs → lv_has ls 6 [(0, .ref h_t), (1, .ref h_p), (2, .int l2), (3, .ref h_f), (4, .int l4)] → W p l e rmX4_write s m args below meth c H locs 0 0 Q (F0 m 60 ls [.int k2, .int k1, .ref h_f]) := by
  intro hf hP hD hS hl
  obtain ⟨hx, hb, hml, hown, hts⟩ := id C
  unfold fX4_write_60 at hf
  refine lv_iadd hx hb dX4_write_60 ?_
  obtain ⟨r1, u2, u3, hc4, hf⟩ := zb3_in hf
  refine zc_i (va_runV (As := [.int (k1 + k2)]) (rest := []) C (mX2_append l D cI H.size h_f h_f_bytes f_size f_bytes (k1 + k2) r1 u2 u3 hc4) (qX4_write_X2_append_35 hts) ⟨zP_blind, va_recv hK hP (ci := 2) (q0 := 3) rfl rfl, zpre hK hN hP hD [3, 4] rfl rfl⟩ rfl rfl hl.1 rfl (lv_room (Nat.le_of_ble_eq_true rfl)) dX4_write_61 ⟨Nat.zero_le _, Nat.zero_le _⟩) hP hD hS hA [3, 4] [0, 1, 2] [0, 1, 2, 3, 4] (ws' := zwX4 cI h_t t_depth t_left t_isRepeated t_held ++ zwX5 cI h_p h_p_pixels p_wide p_high p_pixels ++ zwX2 cI h_f h_f_bytes u2 u3) rfl rfl rfl rfl rfl rfl (fun H locs hP hD hS => ?_)
  refine lv_pop hx hb dX4_write_64 rfl ?_
  refine lv_aload_n hx hb dX4_write_65 rfl (lv_at hl 3 rfl) ?_
  refine lv_bipush (v := 9) hx hb dX4_write_66 (by decide) ?_
  obtain ⟨u5, u6, hc7, hf⟩ := zb2_in hf
  refine zc_v (va_runV (As := [.int 9]) (rest := []) C (mX2_appendZeros l D cI H.size h_f h_f_bytes u2 u3 9 u5 u6 hc7) (qX4_write_X2_appendZeros_31 hts) ⟨zP_blind, va_recv hK hP (ci := 2) (q0 := 3) rfl rfl, zpre hK hN hP hD [3, 4] rfl rfl⟩ rfl rfl hl.1 rfl (lv_room (Nat.le_of_ble_eq_true rfl)) dX4_write_68 ⟨Nat.zero_le _, Nat.zero_le _⟩) hP hD hS hA [3, 4] [0, 1, 2] [0, 1, 2, 3, 4] (ws' := zwX4 cI h_t t_depth t_left t_isRepeated t_held ++ zwX5 cI h_p h_p_pixels p_wide p_high p_pixels ++ zwX2 cI h_f h_f_bytes u5 u6) rfl rfl rfl rfl rfl rfl (fun H locs hP hD hS => ?_)
  refine lv_aload_n hx hb dX4_write_71 rfl (lv_at hl 3 rfl) ?_
  refine lv_iconst (v := 2) hx hb dX4_write_72 (by decide) ?_
  refine lv_aload_n hx hb dX4_write_73 rfl (lv_at hl 1 rfl) ?_
  refine va_getN (D := D) (ci := 4) (v := .int p_wide) (C := RX5) (T := TX5) (N := 3) hx hb hts iX4_write_X5 hown hK hP 1 rfl rfl 1 (by decide) (hN.at 4 rfl) (fun _ h9 => h9) rfl dX4_write_74 ?_
  obtain ⟨u8, u9, hc10, hf⟩ := zb2_in hf
  refine zc_v (va_runV (As := [.int 2, .int p_wide]) (rest := []) C (mX2_appendLittle l D cI H.size h_f h_f_bytes u5 u6 2 p_wide u8 u9 hc10) (qX4_write_X2_appendLittle_42 hts) ⟨zP_blind, va_recv hK hP (ci := 2) (q0 := 3) rfl rfl, zpre hK hN hP hD [3, 4] rfl rfl⟩ rfl rfl hl.1 rfl (lv_room (Nat.le_of_ble_eq_true rfl)) dX4_write_77 ⟨Nat.zero_le _, Nat.zero_le _⟩) hP hD hS hA [3, 4] [0, 1, 2] [0, 1, 2, 3, 4] (ws' := zwX4 cI h_t t_depth t_left t_isRepeated t_held ++ zwX5 cI h_p h_p_pixels p_wide p_high p_pixels ++ zwX2 cI h_f h_f_bytes u8 u9) rfl rfl rfl rfl rfl rfl (fun H locs hP hD hS => ?_)
  refine lv_aload_n hx hb dX4_write_80 rfl (lv_at hl 3 rfl) ?_
  refine lv_iconst (v := 2) hx hb dX4_write_81 (by decide) ?_
  refine lv_aload_n hx hb dX4_write_82 rfl (lv_at hl 1 rfl) ?_
  refine va_getN (D := D) (ci := 4) (v := .int p_high) (C := RX5) (T := TX5) (N := 3) hx hb hts iX4_write_X5 hown hK hP 1 rfl rfl 2 (by decide) (hN.at 10 rfl) (fun _ h9 => h9) rfl dX4_write_83 ?_
  obtain ⟨u11, u12, hc13, hf⟩ := zb2_in hf
  refine zc_v (va_runV (As := [.int 2, .int p_high]) (rest := []) C (mX2_appendLittle l D cI H.size h_f h_f_bytes u8 u9 2 p_high u11 u12 hc13) (qX4_write_X2_appendLittle_42 hts) ⟨zP_blind, va_recv hK hP (ci := 2) (q0 := 3) rfl rfl, zpre hK hN hP hD [3, 4] rfl rfl⟩ rfl rfl hl.1 rfl (lv_room (Nat.le_of_ble_eq_true rfl)) dX4_write_86 ⟨Nat.zero_le _, Nat.zero_le _⟩) hP hD hS hA [3, 4] [0, 1, 2] [0, 1, 2, 3, 4] (ws' := zwX4 cI h_t t_depth t_left t_isRepeated t_held ++ zwX5 cI h_p h_p_pixels p_wide p_high p_pixels ++ zwX2 cI h_f h_f_bytes u11 u12) rfl rfl rfl rfl rfl rfl (fun H locs hP hD hS => ?_)
  refine lv_aload_n hx hb dX4_write_89 rfl (lv_at hl 3 rfl) ?_
  refine lv_aload_n hx hb dX4_write_90 rfl (lv_at hl 0 rfl) ?_
  refine va_get (D := D) (ci := 3) (v := .int t_depth) (C := RX4) (T := TX4) (N := 4) hx hb hts iX4_write_X4 hown hK hP 0 rfl rfl 0 (by decide) (kX4_write_28 hts) (fun _ h9 => h9) rfl dX4_write_91 ?_
  obtain ⟨r14, u15, u16, hc17, hf⟩ := zb3_in hf
  refine zc_i (va_runV (As := [.int t_depth]) (rest := []) C (mX2_append l D cI H.size h_f h_f_bytes u11 u12 t_depth r14 u15 u16 hc17) (qX4_write_X2_append_35 hts) ⟨zP_blind, va_recv hK hP (ci := 2) (q0 := 3) rfl rfl, zpre hK hN hP hD [3, 4] rfl rfl⟩ rfl rfl hl.1 rfl (lv_room (Nat.le_of_ble_eq_true rfl)) dX4_write_94 ⟨Nat.zero_le _, Nat.zero_le _⟩) hP hD hS hA [3, 4] [0, 1, 2] [0, 1, 2, 3, 4] (ws' := zwX4 cI h_t t_depth t_left t_isRepeated t_held ++ zwX5 cI h_p h_p_pixels p_wide p_high p_pixels ++ zwX2 cI h_f h_f_bytes u15 u16) rfl rfl rfl rfl rfl rfl (fun H locs hP hD hS => ?_)
  refine lv_pop hx hb dX4_write_97 rfl ?_
  refine lv_aload_n hx hb dX4_write_98 rfl (lv_at hl 3 rfl) ?_
  refine lv_bipush (v := 32) hx hb dX4_write_99 (by decide) ?_
  refine lv_aload_n hx hb dX4_write_101 rfl (lv_at hl 0 rfl) ?_
  obtain ⟨r18, hc19, hf⟩ := zb1_in hf
  refine zc_i (va_runV (As := []) (rest := [.int 32, .ref h_f]) C (mX4_alphaBits l D cI H.size h_t t_depth t_left t_isRepeated t_held r18 hc19) (qX4_write_X4_alphaBits_49 hts) ⟨zP_blind, va_recv hK hP (ci := 3) (q0 := 0) rfl rfl, zpre hK hN hP hD [0] rfl rfl⟩ rfl rfl hl.1 rfl (lv_room (Nat.le_of_ble_eq_true rfl)) dX4_write_102 ⟨Nat.zero_le _, Nat.zero_le _⟩) hP hD hS hA [0] [1, 2, 3, 4] [4, 0, 1, 2, 3] (ws' := zwX4 cI h_t t_depth t_left t_isRepeated t_held ++ zwX5 cI h_p h_p_pixels p_wide p_high p_pixels ++ zwX2 cI h_f h_f_bytes u15 u16) rfl rfl rfl rfl rfl rfl (fun H locs hP hD hS => ?_)
  refine lv_iadd hx hb dX4_write_105 ?_
  obtain ⟨r20, u21, u22, hc23, hf⟩ := zb3_in hf
  refine zc_i (va_runV (As := [.int (32 + r18)]) (rest := []) C (mX2_append l D cI H.size h_f h_f_bytes u15 u16 (32 + r18) r20 u21 u22 hc23) (qX4_write_X2_append_35 hts) ⟨zP_blind, va_recv hK hP (ci := 2) (q0 := 3) rfl rfl, zpre hK hN hP hD [3, 4] rfl rfl⟩ rfl rfl hl.1 rfl (lv_room (Nat.le_of_ble_eq_true rfl)) dX4_write_106 ⟨Nat.zero_le _, Nat.zero_le _⟩) hP hD hS hA [3, 4] [0, 1, 2] [0, 1, 2, 3, 4] (ws' := zwX4 cI h_t t_depth t_left t_isRepeated t_held ++ zwX5 cI h_p h_p_pixels p_wide p_high p_pixels ++ zwX2 cI h_f h_f_bytes u21 u22) rfl rfl rfl rfl rfl rfl (fun H locs hP hD hS => ?_)
  refine lv_pop hx hb dX4_write_109 rfl ?_
  refine lv_iconst (v := 0) hx hb dX4_write_110 (by decide) ?_
  refine lv_istore (lv' := [(5, .int 0), (0, .ref h_t), (1, .ref h_p), (2, .int l2), (3, .ref h_f), (4, .int l4)]) hx hb dX4_write_111 hl (by decide) rfl (fun ls hl => ?_)
  exact wX4_write_113 C hN hK hA hE 1000 hf hP hD hS (lv_sub hl [1, 2, 3, 4, 5, 0] rfl)
set_option maxHeartbeats 4000000 in
set_option maxRecDepth 100000 in
theorem wX4_write_50 {p : Program} {l : Launch} {e : Env} {s : State} {m : MethodId} {args : Array Value} {below : List Frame} {meth : Method} {c : Code} {D : va_G} {A : Nat → Prop} {Q : State → Prop} {cI : ClassId} {h_t h_p h_p_pixels h_f h_f_bytes : Nat} {t_left : Int32} {t_isRepeated : Int32} {t_held : Int32} {p_wide : Int32} {p_high : Int32} {p_pixels : Nat → Int32} {zt_depth : Int32} {zf_size : Int32} {zf_bytes : Nat → Int32} (C : CallFix p m c cX4_write 6 s args wsX4_write RX4) (hN : zN s) (hK : va_K D vwCl [(cI, .int)] s) (hA : ∀ q, s.heap.size ≤ q → A q) (hE : zEv p l e rmX4_write s m args below meth c cX4_write D A Q (zwX4 cI h_t zt_depth t_left t_isRepeated t_held ++ zwX5 cI h_p h_p_pixels p_wide p_high p_pixels ++ zwX2 cI h_f h_f_bytes zf_size zf_bytes)) {t_depth : Int32} {f_size : Int32} {f_bytes : Nat → Int32} {l2 : Int32} {l4 : Int32} {k1 : Int32} {H : Heap} {locs : List Loc} {ls : Array Slot} : fX4_write_50 t_depth p_wide p_high p_pixels f_size f_bytes l2 k1 = some (zt_depth, zf_size, zf_bytes) → va_P D vwCl (zwX4 cI h_t t_depth t_left t_isRepeated t_held ++ zwX5 cI h_p h_p_pixels p_wide p_high p_pixels ++ zwX2 cI h_f h_f_bytes f_size f_bytes) H → va_D A (zwX4 cI h_t t_depth t_left t_isRepeated t_held ++ zwX5 cI h_p h_p_pixels p_wide p_high p_pixels ++ zwX2 cI h_f h_f_bytes f_size f_bytes) → va_S A s.heap H locs → lv_has ls 6 [(0, .ref h_t), (1, .ref h_p), (2, .int l2), (3, .ref h_f), (4, .int l4)] → W p l e rmX4_write s m args below meth c H locs 0 0 Q (F0 m 50 ls [.int k1, .ref h_f]) := by
  intro hf hP hD hS hl
  obtain ⟨hx, hb, hml, hown, hts⟩ := id C
  unfold fX4_write_50 at hf
  refine lv_iload_n hx hb dX4_write_50 rfl (lv_at hl 2 rfl) ?_
  refine lv_if_ne (tgt := 58) hx hb dX4_write_51 (by decide) (fun c1 => ?_) (fun c1 => ?_)
  · replace hf := zif_f hf c1
    refine lv_bipush (v := 8) hx hb dX4_write_58 (by decide) ?_
    exact wX4_write_60 C hN hK hA hE hf hP hD hS (lv_sub hl [0, 1, 2, 3, 4] rfl)
  · replace hf := zif_t hf c1
    refine lv_iconst (v := 0) hx hb dX4_write_54 (by decide) ?_
    refine lv_goto (tgt := 60) hx hb dX4_write_55 (by decide) ?_
    exact wX4_write_60 C hN hK hA hE hf hP hD hS (lv_sub hl [0, 1, 2, 3, 4] rfl)
set_option maxHeartbeats 4000000 in
set_option maxRecDepth 100000 in
theorem wX4_write_31 {p : Program} {l : Launch} {e : Env} {s : State} {m : MethodId} {args : Array Value} {below : List Frame} {meth : Method} {c : Code} {D : va_G} {A : Nat → Prop} {Q : State → Prop} {cI : ClassId} {h_t h_p h_p_pixels h_f h_f_bytes : Nat} {t_left : Int32} {t_isRepeated : Int32} {t_held : Int32} {p_wide : Int32} {p_high : Int32} {p_pixels : Nat → Int32} {zt_depth : Int32} {zf_size : Int32} {zf_bytes : Nat → Int32} (C : CallFix p m c cX4_write 6 s args wsX4_write RX4) (hN : zN s) (hK : va_K D vwCl [(cI, .int)] s) (hA : ∀ q, s.heap.size ≤ q → A q) (hE : zEv p l e rmX4_write s m args below meth c cX4_write D A Q (zwX4 cI h_t zt_depth t_left t_isRepeated t_held ++ zwX5 cI h_p h_p_pixels p_wide p_high p_pixels ++ zwX2 cI h_f h_f_bytes zf_size zf_bytes)) {t_depth : Int32} {f_size : Int32} {f_bytes : Nat → Int32} {l2 : Int32} {l4 : Int32} {k1 : Int32} {H : Heap} {locs : List Loc} {ls : Array Slot} : fX4_write_31 p_wide p_high p_pixels f_size f_bytes l2 l4 k1 = some (zt_depth, zf_size, zf_bytes) → va_P D vwCl (zwX4 cI h_t t_depth t_left t_isRepeated t_held ++ zwX5 cI h_p h_p_pixels p_wide p_high p_pixels ++ zwX2 cI h_f h_f_bytes f_size f_bytes) H → va_D A (zwX4 cI h_t t_depth t_left t_isRepeated t_held ++ zwX5 cI h_p h_p_pixels p_wide p_high p_pixels ++ zwX2 cI h_f h_f_bytes f_size f_bytes) → va_S A s.heap H locs → lv_has ls 6 [(0, .ref h_t), (1, .ref h_p), (2, .int l2), (3, .ref h_f), (4, .int l4)] → W p l e rmX4_write s m args below meth c H locs 0 0 Q (F0 m 31 ls [.int k1, .ref h_t]) := by
  intro hf hP hD hS hl
  obtain ⟨hx, hb, hml, hown, hts⟩ := id C
  unfold fX4_write_31 at hf
  refine va_put (D := D) (ci := 3) (v := .int k1) (ty := .int) (C := RX4) (T := TX4) (N := 4) hx hb hts iX4_write_X4 tyX4 tyX4_ok nmX4 hown hK hP hD hS 0 rfl rfl 0 (by decide) (kX4_write_28 hts) (fun _ h9 => h9) rfl (by decide +kernel) rfl rfl (Nat.le_of_ble_eq_true rfl) dX4_write_31 (fun H locs hP hD hS => ?_)
  replace hP : va_P D vwCl (zwX4 cI h_t k1 t_left t_isRepeated t_held ++ zwX5 cI h_p h_p_pixels p_wide p_high p_pixels ++ zwX2 cI h_f h_f_bytes f_size f_bytes) H := hP
  replace hD : va_D A (zwX4 cI h_t k1 t_left t_isRepeated t_held ++ zwX5 cI h_p h_p_pixels p_wide p_high p_pixels ++ zwX2 cI h_f h_f_bytes f_size f_bytes) := hD
  refine lv_aload_n hx hb dX4_write_34 rfl (lv_at hl 3 rfl) ?_
  refine lv_iconst (v := 2) hx hb dX4_write_35 (by decide) ?_
  obtain ⟨u1, u2, hc3, hf⟩ := zb2_in hf
  refine zc_v (va_runV (As := [.int 2]) (rest := []) C (mX2_appendZeros l D cI H.size h_f h_f_bytes f_size f_bytes 2 u1 u2 hc3) (qX4_write_X2_appendZeros_31 hts) ⟨zP_blind, va_recv hK hP (ci := 2) (q0 := 3) rfl rfl, zpre hK hN hP hD [3, 4] rfl rfl⟩ rfl rfl hl.1 rfl (lv_room (Nat.le_of_ble_eq_true rfl)) dX4_write_36 ⟨Nat.zero_le _, Nat.zero_le _⟩) hP hD hS hA [3, 4] [0, 1, 2] [0, 1, 2, 3, 4] (ws' := zwX4 cI h_t k1 t_left t_isRepeated t_held ++ zwX5 cI h_p h_p_pixels p_wide p_high p_pixels ++ zwX2 cI h_f h_f_bytes u1 u2) rfl rfl rfl rfl rfl rfl (fun H locs hP hD hS => ?_)
  refine lv_aload_n hx hb dX4_write_39 rfl (lv_at hl 3 rfl) ?_
  refine lv_iload hx hb dX4_write_40 (lv_at hl 4 rfl) ?_
  refine lv_if_eq (tgt := 49) hx hb dX4_write_42 (by decide) (fun c4 => ?_) (fun c4 => ?_)
  · replace hf := zif_t hf c4
    refine lv_iconst (v := 2) hx hb dX4_write_49 (by decide) ?_
    exact wX4_write_50 C hN hK hA hE hf hP hD hS (lv_sub hl [0, 1, 2, 3, 4] rfl)
  · replace hf := zif_f hf c4
    refine lv_iconst (v := 3) hx hb dX4_write_45 (by decide) ?_
    refine lv_goto (tgt := 50) hx hb dX4_write_46 (by decide) ?_
    exact wX4_write_50 C hN hK hA hE hf hP hD hS (lv_sub hl [0, 1, 2, 3, 4] rfl)
set_option maxHeartbeats 4000000 in
set_option maxRecDepth 100000 in
theorem wX4_write_0 {p : Program} {l : Launch} {e : Env} {s : State} {m : MethodId} {args : Array Value} {below : List Frame} {meth : Method} {c : Code} {D : va_G} {A : Nat → Prop} {Q : State → Prop} {cI : ClassId} {h_t h_p h_p_pixels h_f h_f_bytes : Nat} {t_left : Int32} {t_isRepeated : Int32} {t_held : Int32} {p_wide : Int32} {p_high : Int32} {p_pixels : Nat → Int32} {zt_depth : Int32} {zf_size : Int32} {zf_bytes : Nat → Int32} (C : CallFix p m c cX4_write 6 s args wsX4_write RX4) (hN : zN s) (hK : va_K D vwCl [(cI, .int)] s) (hA : ∀ q, s.heap.size ≤ q → A q) (hE : zEv p l e rmX4_write s m args below meth c cX4_write D A Q (zwX4 cI h_t zt_depth t_left t_isRepeated t_held ++ zwX5 cI h_p h_p_pixels p_wide p_high p_pixels ++ zwX2 cI h_f h_f_bytes zf_size zf_bytes)) {t_depth : Int32} {f_size : Int32} {f_bytes : Nat → Int32} {v1 : Int32} {H : Heap} {locs : List Loc} {ls : Array Slot} : fX4_write p_wide p_high p_pixels f_size f_bytes v1 = some (zt_depth, zf_size, zf_bytes) → va_P D vwCl (zwX4 cI h_t t_depth t_left t_isRepeated t_held ++ zwX5 cI h_p h_p_pixels p_wide p_high p_pixels ++ zwX2 cI h_f h_f_bytes f_size f_bytes) H → va_D A (zwX4 cI h_t t_depth t_left t_isRepeated t_held ++ zwX5 cI h_p h_p_pixels p_wide p_high p_pixels ++ zwX2 cI h_f h_f_bytes f_size f_bytes) → va_S A s.heap H locs → lv_has ls 6 [(0, .ref h_t), (1, .ref h_p), (2, .int v1), (3, .ref h_f)] → W p l e rmX4_write s m args below meth c H locs 0 0 Q (F0 m 0 ls []) := by
  intro hf hP hD hS hl
  obtain ⟨hx, hb, hml, hown, hts⟩ := id C
  unfold fX4_write at hf
  refine lv_aload_n hx hb dX4_write_0 rfl (lv_at hl 1 rfl) ?_
  obtain ⟨r1, hc2, hf⟩ := zb1_in hf
  refine zc_i (va_runV (As := []) (rest := []) C (mX5_isGrey l D cI H.size h_p h_p_pixels p_wide p_high p_pixels r1 hc2) (qX4_write_X5_isGrey_19 hts) ⟨zP_blind, va_recv hK hP (ci := 4) (q0 := 1) rfl rfl, zpre hK hN hP hD [1, 2] rfl rfl⟩ rfl rfl hl.1 rfl (lv_room (Nat.le_of_ble_eq_true rfl)) dX4_write_1 ⟨Nat.zero_le _, Nat.zero_le _⟩) hP hD hS hA [1, 2] [0, 3, 4] [0, 3, 4, 1, 2] (ws' := zwX4 cI h_t t_depth t_left t_isRepeated t_held ++ zwX5 cI h_p h_p_pixels p_wide p_high p_pixels ++ zwX2 cI h_f h_f_bytes f_size f_bytes) rfl rfl rfl rfl rfl rfl (fun H locs hP hD hS => ?_)
  refine lv_istore (lv' := [(4, .int r1), (0, .ref h_t), (1, .ref h_p), (2, .int v1), (3, .ref h_f)]) hx hb dX4_write_4 hl (by decide) rfl (fun ls hl => ?_)
  refine lv_aload_n hx hb dX4_write_6 rfl (lv_at hl 1 rfl) ?_
  refine lv_iload hx hb dX4_write_7 (lv_at hl 0 rfl) ?_
  refine lv_if_eq (tgt := 17) hx hb dX4_write_9 (by decide) (fun c3 => ?_) (fun c3 => ?_)
  · replace hf := zif_t hf c3
    refine lv_aload_n hx hb dX4_write_17 rfl (lv_at hl 2 rfl) ?_
    obtain ⟨r4, hc5, hf⟩ := zb1_in hf
    refine zc_i (va_runV (As := []) (rest := [.ref h_t]) C (mX5_isOpaque l D cI H.size h_p h_p_pixels p_wide p_high p_pixels r4 hc5) (qX4_write_X5_isOpaque_25 hts) ⟨zP_blind, va_recv hK hP (ci := 4) (q0 := 1) rfl rfl, zpre hK hN hP hD [1, 2] rfl rfl⟩ rfl rfl hl.1 rfl (lv_room (Nat.le_of_ble_eq_true rfl)) dX4_write_18 ⟨Nat.zero_le _, Nat.zero_le _⟩) hP hD hS hA [1, 2] [0, 3, 4] [0, 3, 4, 1, 2] (ws' := zwX4 cI h_t t_depth t_left t_isRepeated t_held ++ zwX5 cI h_p h_p_pixels p_wide p_high p_pixels ++ zwX2 cI h_f h_f_bytes f_size f_bytes) rfl rfl rfl rfl rfl rfl (fun H locs hP hD hS => ?_)
    refine lv_if_eq (tgt := 29) hx hb dX4_write_21 (by decide) (fun c6 => ?_) (fun c6 => ?_)
    · replace hf := zif_t hf c6
      refine lv_bipush (v := 32) hx hb dX4_write_29 (by decide) ?_
      exact wX4_write_31 C hN hK hA hE hf hP hD hS (lv_sub hl [1, 2, 3, 4, 0] rfl)
    · replace hf := zif_f hf c6
      refine lv_bipush (v := 24) hx hb dX4_write_24 (by decide) ?_
      refine lv_goto (tgt := 31) hx hb dX4_write_26 (by decide) ?_
      exact wX4_write_31 C hN hK hA hE hf hP hD hS (lv_sub hl [1, 2, 3, 4, 0] rfl)
  · replace hf := zif_f hf c3
    refine lv_bipush (v := 8) hx hb dX4_write_12 (by decide) ?_
    refine lv_goto (tgt := 31) hx hb dX4_write_14 (by decide) ?_
    exact wX4_write_31 C hN hK hA hE hf hP hD hS (lv_sub hl [1, 2, 3, 4, 0] rfl)
set_option maxHeartbeats 4000000 in
set_option maxRecDepth 100000 in
theorem mX4_write (l : Launch) (D : va_G) (cI : ClassId) (sz : Nat) (h_t h_p h_p_pixels h_f h_f_bytes : Nat) (t_depth : Int32) (t_left : Int32) (t_isRepeated : Int32) (t_held : Int32) (p_wide : Int32) (p_high : Int32) (p_pixels : Nat → Int32) (f_size : Int32) (f_bytes : Nat → Int32) (v1 : Int32) (zt_depth : Int32) (zf_size : Int32) (zf_bytes : Nat → Int32) (hf : fX4_write p_wide p_high p_pixels f_size f_bytes v1 = some (zt_depth, zf_size, zf_bytes)) : Met l yX4_write wsX4_write rmX4_write (va_Pc [.ref h_t, .ref h_p, .int v1, .ref h_f] (zP D [(cI, .int)] (zwX4 cI h_t t_depth t_left t_isRepeated t_held ++ zwX5 cI h_p h_p_pixels p_wide p_high p_pixels ++ zwX2 cI h_f h_f_bytes f_size f_bytes) sz)) (zQv D (zwX4 cI h_t t_depth t_left t_isRepeated t_held ++ zwX5 cI h_p h_p_pixels p_wide p_high p_pixels ++ zwX2 cI h_f h_f_bytes f_size f_bytes) sz (zwX4 cI h_t zt_depth t_left t_isRepeated t_held ++ zwX5 cI h_p h_p_pixels p_wide p_high p_pixels ++ zwX2 cI h_f h_f_bytes zf_size zf_bytes)) 0 0 (va_A (zwX4 cI h_t t_depth t_left t_isRepeated t_held ++ zwX5 cI h_p h_p_pixels p_wide p_high p_pixels ++ zwX2 cI h_f h_f_bytes f_size f_bytes) sz) := by
  refine Met.ofW (cc := cX4_write) (maxL := 6) (ret := none) (by decide) rfl ?_
  intro p e s m args below meth c s₁ B hml hv
  obtain ⟨rfl, hsz, hP, hK, hD0, hN⟩ := hv
  subst hsz
  have C : CallFix p m c cX4_write 6 s [.ref h_t, .ref h_p, .int v1, .ref h_f].toArray wsX4_write RX4 := ⟨B.exec, B.bytes, hml, findClass_of_methodNamed B.named, atoms_spec (ws := wsX4_write) B.pre⟩
  have hl := lv_entry ([.ref h_t, .ref h_p, .int v1, .ref h_f]) (n := 6) (Nat.le_of_ble_eq_true rfl)
  rw [lg_entry_eq]
  exact wX4_write_0 (A := va_A (zwX4 cI h_t t_depth t_left t_isRepeated t_held ++ zwX5 cI h_p h_p_pixels p_wide p_high p_pixels ++ zwX2 cI h_f h_f_bytes f_size f_bytes) s.heap.size) C hN hK (fun q h => Or.inr h) (fun H locs pc ls d hP hD hS => zend_v C.1 C.2.1 B.returns B.notSynchronized d hP hD hS) hf hP hD0.self va_S.rf hl
