def fX0_isThatOf (f_size : Int32) (f_bytes : Nat → Int32) : Option (Int32) :=
  zb1 (fX2_at f_size f_bytes 0) fun r1 =>
  if r1 = 66 then
    zb1 (fX2_at f_size f_bytes 1) fun r4 =>
    if r4 = 77 then
      some 1
    else
      some 0
  else
    some 0
def fX0_canHold (p_wide : Int32) (p_high : Int32) (p_pixels : Nat → Int32) : Option (Int32) :=
  zb1 (fX5_isOpaque p_wide p_high p_pixels) fun r1 =>
  zbo r1 <|
  some r1
def fX0_numberOf_2 : Nat → Int32 → (Nat → Int32) → Int32 → Int32 → Option (Int32)
  | 0, _, _, _, _ => none
  | n + 1, t_known, t_colours, l1, l2 =>
    if t_known ≤ l2 then
      some t_known
    else
      zrd t_colours 64 l2 fun x2 =>
      if x2 = l1 then
        some l2
      else
        zlet (l2 + 1) fun x5 =>
        (fX0_numberOf_2 n) t_known t_colours l1 x5
theorem fX0_numberOf_2_s (n : Nat) (t_known : Int32) (t_colours : Nat → Int32) (l1 : Int32) (l2 : Int32) : fX0_numberOf_2 (n + 1) t_known t_colours l1 l2 =
    if t_known ≤ l2 then
      some t_known
    else
      zrd t_colours 64 l2 fun x2 =>
      if x2 = l1 then
        some l2
      else
        zlet (l2 + 1) fun x5 =>
        (fX0_numberOf_2 n) t_known t_colours l1 x5 := rfl
def fX0_numberOf (t_known : Int32) (t_colours : Nat → Int32) (v0 : Int32) : Option (Int32) :=
  fX0_numberOf_2 1000 t_known t_colours v0 0
def fX0_gatherColours_58 (rc2 : Int32 → (Nat → Int32) → Int32 → Int32 → (Nat → Int32) → Int32 → Option (Int32 × (Nat → Int32))) (t_known : Int32) (t_colours : Nat → Int32) (p_wide : Int32) (p_high : Int32) (p_pixels : Nat → Int32) (l2 : Int32) : Option (Int32 × (Nat → Int32)) :=
  zlet (l2 + 1) fun x1 =>
  rc2 t_known t_colours p_wide p_high p_pixels x1
def fX0_gatherColours_2 : Nat → Int32 → (Nat → Int32) → Int32 → Int32 → (Nat → Int32) → Int32 → Option (Int32 × (Nat → Int32))
  | 0, _, _, _, _, _, _ => none
  | n + 1, t_known, t_colours, p_wide, p_high, p_pixels, l2 =>
    zb1 (fX5_count p_wide p_high) fun r1 =>
    if r1 ≤ l2 then
      some (t_known, t_colours)
    else
      zrd p_pixels 64 l2 fun x4 =>
      zb1 (fX0_numberOf t_known t_colours x4) fun r6 =>
      if r6 = t_known then
        if 64 ≤ t_known then
          fX0_gatherColours_58 (fX0_gatherColours_2 n) t_known t_colours p_wide p_high p_pixels l2
        else
          zwr t_colours 64 t_known x4 fun g10 =>
          zlet (t_known + 1) fun x12 =>
          fX0_gatherColours_58 (fX0_gatherColours_2 n) x12 g10 p_wide p_high p_pixels l2
      else
        fX0_gatherColours_58 (fX0_gatherColours_2 n) t_known t_colours p_wide p_high p_pixels l2
theorem fX0_gatherColours_2_s (n : Nat) (t_known : Int32) (t_colours : Nat → Int32) (p_wide : Int32) (p_high : Int32) (p_pixels : Nat → Int32) (l2 : Int32) : fX0_gatherColours_2 (n + 1) t_known t_colours p_wide p_high p_pixels l2 =
    zb1 (fX5_count p_wide p_high) fun r1 =>
    if r1 ≤ l2 then
      some (t_known, t_colours)
    else
      zrd p_pixels 64 l2 fun x4 =>
      zb1 (fX0_numberOf t_known t_colours x4) fun r6 =>
      if r6 = t_known then
        if 64 ≤ t_known then
          fX0_gatherColours_58 (fX0_gatherColours_2 n) t_known t_colours p_wide p_high p_pixels l2
        else
          zwr t_colours 64 t_known x4 fun g10 =>
          zlet (t_known + 1) fun x12 =>
          fX0_gatherColours_58 (fX0_gatherColours_2 n) x12 g10 p_wide p_high p_pixels l2
      else
        fX0_gatherColours_58 (fX0_gatherColours_2 n) t_known t_colours p_wide p_high p_pixels l2 := rfl
def fX0_gatherColours (t_known : Int32) (t_colours : Nat → Int32) (p_wide : Int32) (p_high : Int32) (p_pixels : Nat → Int32) : Option (Int32 × (Nat → Int32)) :=
  fX0_gatherColours_2 1000 t_known t_colours p_wide p_high p_pixels 0
def fX0_bytesToFour (v0 : Int32) : Option (Int32) :=
  some ((-v0) &&& 3)
def fX0_writeHeader_78 (t_known : Int32) (f_size : Int32) (f_bytes : Nat → Int32) (l2 : Int32) (k1 : Int32) (k2 : Int32) : Option (Int32 × (Nat → Int32)) :=
  zb2 (fX2_appendLittle f_size f_bytes k1 k2) fun u1 u2 =>
  zb2 (fX2_appendLittle u1 u2 4 l2) fun u4 u5 =>
  zb2 (fX2_appendZeros u4 u5 12) fun u7 u8 =>
  zb2 (fX2_appendLittle u7 u8 4 t_known) fun u10 u11 =>
  zb2 (fX2_appendZeros u10 u11 4) fun u13 u14 =>
  some (u13, u14)
def fX0_writeHeader (t_known : Int32) (p_wide : Int32) (p_high : Int32) (f_size : Int32) (f_bytes : Nat → Int32) (v1 : Int32) : Option (Int32 × (Nat → Int32)) :=
  zb3 (fX2_append f_size f_bytes 66) fun r1 u2 u3 =>
  zb3 (fX2_append u2 u3 77) fun r5 u6 u7 =>
  zb2 (fX2_appendZeros u6 u7 8) fun u9 u10 =>
  zb2 (fX2_appendLittle u9 u10 4 (54 + (4 * t_known))) fun u12 u13 =>
  zb2 (fX2_appendLittle u12 u13 4 40) fun u15 u16 =>
  zb2 (fX2_appendLittle u15 u16 4 p_wide) fun u18 u19 =>
  zb2 (fX2_appendLittle u18 u19 4 p_high) fun u21 u22 =>
  zb2 (fX2_appendLittle u21 u22 2 1) fun u24 u25 =>
  if v1 = 0 then
    fX0_writeHeader_78 t_known u24 u25 v1 2 24
  else
    fX0_writeHeader_78 t_known u24 u25 v1 2 8
def fX0_writeLength (f_size : Int32) (f_bytes : Nat → Int32) : Option ((Nat → Int32)) :=
  zwr f_bytes 800 2 (f_size &&& 255) fun g1 =>
  zwr g1 800 3 (zushr f_size 8) fun g3 =>
  some g3
def fX0_writePlainRow_2 : Nat → Int32 → (Nat → Int32) → Int32 → (Nat → Int32) → Int32 → Int32 → Option (Int32 × (Nat → Int32))
  | 0, _, _, _, _, _, _ => none
  | n + 1, p_wide, p_pixels, f_size, f_bytes, l1, l3 =>
    if p_wide ≤ l3 then
      zb1 (fX0_bytesToFour (3 * p_wide)) fun r2 =>
      zb2 (fX2_appendZeros f_size f_bytes r2) fun u4 u5 =>
      some (u4, u5)
    else
      zb1 (fX5_at p_wide p_pixels l3 l1) fun r7 =>
      zb2 (fX2_appendBlueGreenRed f_size f_bytes r7) fun u9 u10 =>
      zlet (l3 + 1) fun x12 =>
      (fX0_writePlainRow_2 n) p_wide p_pixels u9 u10 l1 x12
theorem fX0_writePlainRow_2_s (n : Nat) (p_wide : Int32) (p_pixels : Nat → Int32) (f_size : Int32) (f_bytes : Nat → Int32) (l1 : Int32) (l3 : Int32) : fX0_writePlainRow_2 (n + 1) p_wide p_pixels f_size f_bytes l1 l3 =
    if p_wide ≤ l3 then
      zb1 (fX0_bytesToFour (3 * p_wide)) fun r2 =>
      zb2 (fX2_appendZeros f_size f_bytes r2) fun u4 u5 =>
      some (u4, u5)
    else
      zb1 (fX5_at p_wide p_pixels l3 l1) fun r7 =>
      zb2 (fX2_appendBlueGreenRed f_size f_bytes r7) fun u9 u10 =>
      zlet (l3 + 1) fun x12 =>
      (fX0_writePlainRow_2 n) p_wide p_pixels u9 u10 l1 x12 := rfl
def fX0_writePlainRow (p_wide : Int32) (p_pixels : Nat → Int32) (f_size : Int32) (f_bytes : Nat → Int32) (v1 : Int32) : Option (Int32 × (Nat → Int32)) :=
  fX0_writePlainRow_2 1000 p_wide p_pixels f_size f_bytes v1 0
def fX0_writePackedRow_95 (f_size : Int32) (f_bytes : Nat → Int32) (k1 : Int32) : Option (Int32 × (Nat → Int32)) :=
  zb3 (fX2_append f_size f_bytes k1) fun r1 u2 u3 =>
  some (u2, u3)
def fX0_writePackedRow_73 (rc6 : Int32 → (Nat → Int32) → Int32 → (Nat → Int32) → Int32 → (Nat → Int32) → Int32 → Int32 → Int32 → Option (Int32 × (Nat → Int32))) (t_known : Int32) (t_colours : Nat → Int32) (p_wide : Int32) (p_pixels : Nat → Int32) (f_size : Int32) (f_bytes : Nat → Int32) (l2 : Int32) (l4 : Int32) (l5 : Int32) : Option (Int32 × (Nat → Int32)) :=
  zlet (l5 + 1) fun x1 =>
  rc6 t_known t_colours p_wide p_pixels f_size f_bytes l2 l4 x1
def fX0_writePackedRow_52 (rc6 : Int32 → (Nat → Int32) → Int32 → (Nat → Int32) → Int32 → (Nat → Int32) → Int32 → Int32 → Int32 → Option (Int32 × (Nat → Int32))) (t_known : Int32) (t_colours : Nat → Int32) (p_wide : Int32) (p_pixels : Nat → Int32) (f_size : Int32) (f_bytes : Nat → Int32) (l2 : Int32) (l4 : Int32) (l5 : Int32) (l6 : Int32) : Option (Int32 × (Nat → Int32)) :=
  zb3 (fX2_append f_size f_bytes l4) fun r1 u2 u3 =>
  zb1 (fX0_numberOf t_known t_colours l6) fun r5 =>
  zb3 (fX2_append u2 u3 r5) fun r7 u8 u9 =>
  fX0_writePackedRow_73 rc6 t_known t_colours p_wide p_pixels u8 u9 l2 0 l5
def fX0_writePackedRow_6 : Nat → Int32 → (Nat → Int32) → Int32 → (Nat → Int32) → Int32 → (Nat → Int32) → Int32 → Int32 → Int32 → Option (Int32 × (Nat → Int32))
  | 0, _, _, _, _, _, _, _, _, _ => none
  | n + 1, t_known, t_colours, p_wide, p_pixels, f_size, f_bytes, l2, l4, l5 =>
    if p_wide ≤ l5 then
      zb3 (fX2_append f_size f_bytes 0) fun r2 u3 u4 =>
      if l2 = 0 then
        fX0_writePackedRow_95 u3 u4 1
      else
        fX0_writePackedRow_95 u3 u4 0
    else
      zlet (l4 + 1) fun x7 =>
      zb1 (fX5_at p_wide p_pixels l5 l2) fun r8 =>
      if (l5 + 1) = p_wide then
        fX0_writePackedRow_52 (fX0_writePackedRow_6 n) t_known t_colours p_wide p_pixels f_size f_bytes l2 x7 l5 r8
      else
        zb1 (fX5_at p_wide p_pixels (l5 + 1) l2) fun r11 =>
        if r11 = r8 then
          fX0_writePackedRow_73 (fX0_writePackedRow_6 n) t_known t_colours p_wide p_pixels f_size f_bytes l2 x7 l5
        else
          fX0_writePackedRow_52 (fX0_writePackedRow_6 n) t_known t_colours p_wide p_pixels f_size f_bytes l2 x7 l5 r8
theorem fX0_writePackedRow_6_s (n : Nat) (t_known : Int32) (t_colours : Nat → Int32) (p_wide : Int32) (p_pixels : Nat → Int32) (f_size : Int32) (f_bytes : Nat → Int32) (l2 : Int32) (l4 : Int32) (l5 : Int32) : fX0_writePackedRow_6 (n + 1) t_known t_colours p_wide p_pixels f_size f_bytes l2 l4 l5 =
    if p_wide ≤ l5 then
      zb3 (fX2_append f_size f_bytes 0) fun r2 u3 u4 =>
      if l2 = 0 then
        fX0_writePackedRow_95 u3 u4 1
      else
        fX0_writePackedRow_95 u3 u4 0
    else
      zlet (l4 + 1) fun x7 =>
      zb1 (fX5_at p_wide p_pixels l5 l2) fun r8 =>
      if (l5 + 1) = p_wide then
        fX0_writePackedRow_52 (fX0_writePackedRow_6 n) t_known t_colours p_wide p_pixels f_size f_bytes l2 x7 l5 r8
      else
        zb1 (fX5_at p_wide p_pixels (l5 + 1) l2) fun r11 =>
        if r11 = r8 then
          fX0_writePackedRow_73 (fX0_writePackedRow_6 n) t_known t_colours p_wide p_pixels f_size f_bytes l2 x7 l5
        else
          fX0_writePackedRow_52 (fX0_writePackedRow_6 n) t_known t_colours p_wide p_pixels f_size f_bytes l2 x7 l5 r8 := rfl
def fX0_writePackedRow (t_known : Int32) (t_colours : Nat → Int32) (p_wide : Int32) (p_pixels : Nat → Int32) (f_size : Int32) (f_bytes : Nat → Int32) (v1 : Int32) : Option (Int32 × (Nat → Int32)) :=
  fX0_writePackedRow_6 1000 t_known t_colours p_wide p_pixels f_size f_bytes v1 0 0
def fX0_write_92 (rc65 : Int32 → (Nat → Int32) → Int32 → (Nat → Int32) → Int32 → (Nat → Int32) → Int32 → Int32 → Option (Int32 × (Nat → Int32) × Int32 × (Nat → Int32))) (t_known : Int32) (t_colours : Nat → Int32) (p_wide : Int32) (p_pixels : Nat → Int32) (f_size : Int32) (f_bytes : Nat → Int32) (l2 : Int32) (l4 : Int32) : Option (Int32 × (Nat → Int32) × Int32 × (Nat → Int32)) :=
  zlet (l4 + (-1)) fun x1 =>
  rc65 t_known t_colours p_wide p_pixels f_size f_bytes l2 x1
def fX0_write_65 : Nat → Int32 → (Nat → Int32) → Int32 → (Nat → Int32) → Int32 → (Nat → Int32) → Int32 → Int32 → Option (Int32 × (Nat → Int32) × Int32 × (Nat → Int32))
  | 0, _, _, _, _, _, _, _, _ => none
  | n + 1, t_known, t_colours, p_wide, p_pixels, f_size, f_bytes, l2, l4 =>
    if l4 < 0 then
      zb1 (fX0_writeLength f_size f_bytes) fun u2 =>
      some (t_known, t_colours, f_size, u2)
    else
      if l2 = 0 then
        zb2 (fX0_writePlainRow p_wide p_pixels f_size f_bytes l4) fun u8 u9 =>
        fX0_write_92 (fX0_write_65 n) t_known t_colours p_wide p_pixels u8 u9 l2 l4
      else
        zb2 (fX0_writePackedRow t_known t_colours p_wide p_pixels f_size f_bytes l4) fun u5 u6 =>
        fX0_write_92 (fX0_write_65 n) t_known t_colours p_wide p_pixels u5 u6 l2 l4
theorem fX0_write_65_s (n : Nat) (t_known : Int32) (t_colours : Nat → Int32) (p_wide : Int32) (p_pixels : Nat → Int32) (f_size : Int32) (f_bytes : Nat → Int32) (l2 : Int32) (l4 : Int32) : fX0_write_65 (n + 1) t_known t_colours p_wide p_pixels f_size f_bytes l2 l4 =
    if l4 < 0 then
      zb1 (fX0_writeLength f_size f_bytes) fun u2 =>
      some (t_known, t_colours, f_size, u2)
    else
      if l2 = 0 then
        zb2 (fX0_writePlainRow p_wide p_pixels f_size f_bytes l4) fun u8 u9 =>
        fX0_write_92 (fX0_write_65 n) t_known t_colours p_wide p_pixels u8 u9 l2 l4
      else
        zb2 (fX0_writePackedRow t_known t_colours p_wide p_pixels f_size f_bytes l4) fun u5 u6 =>
        fX0_write_92 (fX0_write_65 n) t_known t_colours p_wide p_pixels u5 u6 l2 l4 := rfl
def fX0_write_25 : Nat → Int32 → (Nat → Int32) → Int32 → Int32 → (Nat → Int32) → Int32 → (Nat → Int32) → Int32 → Int32 → Option (Int32 × (Nat → Int32) × Int32 × (Nat → Int32))
  | 0, _, _, _, _, _, _, _, _, _ => none
  | n + 1, t_known, t_colours, p_wide, p_high, p_pixels, f_size, f_bytes, l2, l4 =>
    if t_known ≤ l4 then
      zlet (p_high - 1) fun x2 =>
      fX0_write_65 1000 t_known t_colours p_wide p_pixels f_size f_bytes l2 x2
    else
      zrd t_colours 64 l4 fun x3 =>
      zb2 (fX2_appendBlueGreenRed f_size f_bytes x3) fun u5 u6 =>
      zb3 (fX2_append u5 u6 0) fun r8 u9 u10 =>
      zlet (l4 + 1) fun x12 =>
      (fX0_write_25 n) t_known t_colours p_wide p_high p_pixels u9 u10 l2 x12
theorem fX0_write_25_s (n : Nat) (t_known : Int32) (t_colours : Nat → Int32) (p_wide : Int32) (p_high : Int32) (p_pixels : Nat → Int32) (f_size : Int32) (f_bytes : Nat → Int32) (l2 : Int32) (l4 : Int32) : fX0_write_25 (n + 1) t_known t_colours p_wide p_high p_pixels f_size f_bytes l2 l4 =
    if t_known ≤ l4 then
      zlet (p_high - 1) fun x2 =>
      fX0_write_65 1000 t_known t_colours p_wide p_pixels f_size f_bytes l2 x2
    else
      zrd t_colours 64 l4 fun x3 =>
      zb2 (fX2_appendBlueGreenRed f_size f_bytes x3) fun u5 u6 =>
      zb3 (fX2_append u5 u6 0) fun r8 u9 u10 =>
      zlet (l4 + 1) fun x12 =>
      (fX0_write_25 n) t_known t_colours p_wide p_high p_pixels u9 u10 l2 x12 := rfl
def fX0_write_15 (t_known : Int32) (t_colours : Nat → Int32) (p_wide : Int32) (p_high : Int32) (p_pixels : Nat → Int32) (f_size : Int32) (f_bytes : Nat → Int32) (l2 : Int32) : Option (Int32 × (Nat → Int32) × Int32 × (Nat → Int32)) :=
  zb2 (fX0_writeHeader t_known p_wide p_high f_size f_bytes l2) fun u1 u2 =>
  fX0_write_25 1000 t_known t_colours p_wide p_high p_pixels u1 u2 l2 0
def fX0_write (t_colours : Nat → Int32) (p_wide : Int32) (p_high : Int32) (p_pixels : Nat → Int32) (f_size : Int32) (f_bytes : Nat → Int32) (v1 : Int32) : Option (Int32 × (Nat → Int32) × Int32 × (Nat → Int32)) :=
  if v1 = 1 then
    zb2 (fX0_gatherColours 0 t_colours p_wide p_high p_pixels) fun u2 u3 =>
    fX0_write_15 u2 u3 p_wide p_high p_pixels f_size f_bytes v1
  else
    fX0_write_15 0 t_colours p_wide p_high p_pixels f_size f_bytes v1
def rmX0_isThatOf : Room := { frames := 1, cells := 0, slots := 0, locals := 21 }
theorem qX0_isThatOf_X2_at_15 {args : Array Value} {s : State} (hts : ∀ w ∈ wsX0_isThatOf, w.before args s = true) : CallW rmX0_isThatOf s args RX0 RX2 15 yX2_at cX2_at 2 (some .int) wsX2_at rmX2_at 0 0 1 := cwV 1 hts gX0_isThatOf_X2_at rfl rfl rfl (by decide +kernel) ⟨Nat.le_of_ble_eq_true rfl, Nat.le_of_ble_eq_true rfl⟩
set_option maxHeartbeats 4000000 in
set_option maxRecDepth 100000 in
theorem wX0_isThatOf_0 {p : Program} {l : Launch} {e : Env} {s : State} {m : MethodId} {args : Array Value} {below : List Frame} {meth : Method} {c : Code} {D : va_G} {A : Nat → Prop} {Q : State → Prop} {cI : ClassId} {h_t h_t_colours h_f h_f_bytes : Nat} {t_known : Int32} {t_depth : Int32} {t_packing : Int32} {t_isUpward : Int32} {t_column : Int32} {t_up : Int32} {t_colours : Nat → Int32} {f_size : Int32} {f_bytes : Nat → Int32} {r0 : Int32} (C : CallFix p m c cX0_isThatOf 2 s args wsX0_isThatOf RX0) (hN : zN s) (hK : va_K D vwCl [(cI, .int)] s) (hA : ∀ q, s.heap.size ≤ q → A q) (hE : zEz p l e rmX0_isThatOf s m args below meth c cX0_isThatOf D A Q (zwX0 cI h_t h_t_colours t_known t_depth t_packing t_isUpward t_column t_up t_colours ++ zwX2 cI h_f h_f_bytes f_size f_bytes) r0) {H : Heap} {locs : List Loc} {ls : Array Slot} : fX0_isThatOf f_size f_bytes = some r0 → va_P D vwCl (zwX0 cI h_t h_t_colours t_known t_depth t_packing t_isUpward t_column t_up t_colours ++ zwX2 cI h_f h_f_bytes f_size f_bytes) H → va_D A (zwX0 cI h_t h_t_colours t_known t_depth t_packing t_isUpward t_column t_up t_colours ++ zwX2 cI h_f h_f_bytes f_size f_bytes) → va_S A s.heap H locs → lv_has ls 2 [(0, .ref h_t), (1, .ref h_f)] → W p l e rmX0_isThatOf s m args below meth c H locs 0 0 Q (F0 m 0 ls []) := by
  intro hf hP hD hS hl
  obtain ⟨hx, hb, hml, hown, hts⟩ := id C
  unfold fX0_isThatOf at hf
  refine lv_aload_n hx hb dX0_isThatOf_0 rfl (lv_at hl 1 rfl) ?_
  refine lv_iconst (v := 0) hx hb dX0_isThatOf_1 (by decide) ?_
  obtain ⟨r1, hc2, hf⟩ := zb1_in hf
  refine zc_i (va_runV (As := [.int 0]) (rest := []) C (mX2_at l D cI H.size h_f h_f_bytes f_size f_bytes 0 r1 hc2) (qX0_isThatOf_X2_at_15 hts) ⟨zP_blind, va_recv hK hP (ci := 2) (q0 := 2) rfl rfl, zpre hK hN hP hD [2, 3] rfl rfl⟩ rfl rfl hl.1 rfl (lv_room (Nat.le_of_ble_eq_true rfl)) dX0_isThatOf_2 ⟨Nat.zero_le _, Nat.zero_le _⟩) hP hD hS hA [2, 3] [0, 1] [0, 1, 2, 3] (ws' := zwX0 cI h_t h_t_colours t_known t_depth t_packing t_isUpward t_column t_up t_colours ++ zwX2 cI h_f h_f_bytes f_size f_bytes) rfl rfl rfl rfl rfl rfl (fun H locs hP hD hS => ?_)
  refine lv_bipush (v := 66) hx hb dX0_isThatOf_5 (by decide) ?_
  refine lv_icmp_ne (tgt := 24) hx hb dX0_isThatOf_7 (by decide) (fun c3 => ?_) (fun c3 => ?_)
  · replace hf := zif_f hf c3
    refine lv_iconst (v := 0) hx hb dX0_isThatOf_24 (by decide) ?_
    cases hf
    exact hE _ _ _ _ dX0_isThatOf_25 rfl hP hD hS
  · replace hf := zif_t hf c3
    refine lv_aload_n hx hb dX0_isThatOf_10 rfl (lv_at hl 1 rfl) ?_
    refine lv_iconst (v := 1) hx hb dX0_isThatOf_11 (by decide) ?_
    obtain ⟨r4, hc5, hf⟩ := zb1_in hf
    refine zc_i (va_runV (As := [.int 1]) (rest := []) C (mX2_at l D cI H.size h_f h_f_bytes f_size f_bytes 1 r4 hc5) (qX0_isThatOf_X2_at_15 hts) ⟨zP_blind, va_recv hK hP (ci := 2) (q0 := 2) rfl rfl, zpre hK hN hP hD [2, 3] rfl rfl⟩ rfl rfl hl.1 rfl (lv_room (Nat.le_of_ble_eq_true rfl)) dX0_isThatOf_12 ⟨Nat.zero_le _, Nat.zero_le _⟩) hP hD hS hA [2, 3] [0, 1] [0, 1, 2, 3] (ws' := zwX0 cI h_t h_t_colours t_known t_depth t_packing t_isUpward t_column t_up t_colours ++ zwX2 cI h_f h_f_bytes f_size f_bytes) rfl rfl rfl rfl rfl rfl (fun H locs hP hD hS => ?_)
    refine lv_bipush (v := 77) hx hb dX0_isThatOf_15 (by decide) ?_
    refine lv_icmp_ne (tgt := 24) hx hb dX0_isThatOf_17 (by decide) (fun c6 => ?_) (fun c6 => ?_)
    · replace hf := zif_f hf c6
      refine lv_iconst (v := 0) hx hb dX0_isThatOf_24 (by decide) ?_
      cases hf
      exact hE _ _ _ _ dX0_isThatOf_25 rfl hP hD hS
    · replace hf := zif_t hf c6
      refine lv_iconst (v := 1) hx hb dX0_isThatOf_20 (by decide) ?_
      refine lv_goto (tgt := 25) hx hb dX0_isThatOf_21 (by decide) ?_
      cases hf
      exact hE _ _ _ _ dX0_isThatOf_25 rfl hP hD hS
set_option maxHeartbeats 4000000 in
set_option maxRecDepth 100000 in
theorem mX0_isThatOf (l : Launch) (D : va_G) (cI : ClassId) (sz : Nat) (h_t h_t_colours h_f h_f_bytes : Nat) (t_known : Int32) (t_depth : Int32) (t_packing : Int32) (t_isUpward : Int32) (t_column : Int32) (t_up : Int32) (t_colours : Nat → Int32) (f_size : Int32) (f_bytes : Nat → Int32) (r0 : Int32) (hf : fX0_isThatOf f_size f_bytes = some r0) : Met l yX0_isThatOf wsX0_isThatOf rmX0_isThatOf (va_Pc [.ref h_t, .ref h_f] (zP D [(cI, .int)] (zwX0 cI h_t h_t_colours t_known t_depth t_packing t_isUpward t_column t_up t_colours ++ zwX2 cI h_f h_f_bytes f_size f_bytes) sz)) (zQi D (zwX0 cI h_t h_t_colours t_known t_depth t_packing t_isUpward t_column t_up t_colours ++ zwX2 cI h_f h_f_bytes f_size f_bytes) sz r0 (zwX0 cI h_t h_t_colours t_known t_depth t_packing t_isUpward t_column t_up t_colours ++ zwX2 cI h_f h_f_bytes f_size f_bytes)) 0 0 (va_A (zwX0 cI h_t h_t_colours t_known t_depth t_packing t_isUpward t_column t_up t_colours ++ zwX2 cI h_f h_f_bytes f_size f_bytes) sz) := by
  refine Met.ofW (cc := cX0_isThatOf) (maxL := 2) (ret := (some .boolean)) (by decide) rfl ?_
  intro p e s m args below meth c s₁ B hml hv
  obtain ⟨rfl, hsz, hP, hK, hD0, hN⟩ := hv
  subst hsz
  have C : CallFix p m c cX0_isThatOf 2 s [.ref h_t, .ref h_f].toArray wsX0_isThatOf RX0 := ⟨B.exec, B.bytes, hml, findClass_of_methodNamed B.named, atoms_spec (ws := wsX0_isThatOf) B.pre⟩
  have hl := lv_entry ([.ref h_t, .ref h_f]) (n := 2) (Nat.le_of_ble_eq_true rfl)
  rw [lg_entry_eq]
  exact wX0_isThatOf_0 (A := va_A (zwX0 cI h_t h_t_colours t_known t_depth t_packing t_isUpward t_column t_up t_colours ++ zwX2 cI h_f h_f_bytes f_size f_bytes) s.heap.size) C hN hK (fun q h => Or.inr h) (fun H locs pc ls d hn hP hD hS => zend_z C.1 C.2.1 B.returns B.notSynchronized d hn hP hD hS) hf hP hD0.self va_S.rf hl
def rmX0_canHold : Room := { frames := 2, cells := 0, slots := 0, locals := 41 }
theorem qX0_canHold_X5_isOpaque_21 {args : Array Value} {s : State} (hts : ∀ w ∈ wsX0_canHold, w.before args s = true) : CallW rmX0_canHold s args RX0 RX5 21 yX5_isOpaque cX5_isOpaque 2 (some .boolean) wsX5_isOpaque rmX5_isOpaque 0 0 0 := cwV 0 hts gX0_canHold_X5_isOpaque rfl rfl rfl (by decide +kernel) ⟨Nat.le_of_ble_eq_true rfl, Nat.le_of_ble_eq_true rfl⟩
set_option maxHeartbeats 4000000 in
set_option maxRecDepth 100000 in
theorem wX0_canHold_0 {p : Program} {l : Launch} {e : Env} {s : State} {m : MethodId} {args : Array Value} {below : List Frame} {meth : Method} {c : Code} {D : va_G} {A : Nat → Prop} {Q : State → Prop} {cI : ClassId} {h_t h_t_colours h_p h_p_pixels : Nat} {t_known : Int32} {t_depth : Int32} {t_packing : Int32} {t_isUpward : Int32} {t_column : Int32} {t_up : Int32} {t_colours : Nat → Int32} {p_wide : Int32} {p_high : Int32} {p_pixels : Nat → Int32} {r0 : Int32} (C : CallFix p m c cX0_canHold 2 s args wsX0_canHold RX0) (hN : zN s) (hK : va_K D vwCl [(cI, .int)] s) (hA : ∀ q, s.heap.size ≤ q → A q) (hE : zEz p l e rmX0_canHold s m args below meth c cX0_canHold D A Q (zwX0 cI h_t h_t_colours t_known t_depth t_packing t_isUpward t_column t_up t_colours ++ zwX5 cI h_p h_p_pixels p_wide p_high p_pixels) r0) {H : Heap} {locs : List Loc} {ls : Array Slot} : fX0_canHold p_wide p_high p_pixels = some r0 → va_P D vwCl (zwX0 cI h_t h_t_colours t_known t_depth t_packing t_isUpward t_column t_up t_colours ++ zwX5 cI h_p h_p_pixels p_wide p_high p_pixels) H → va_D A (zwX0 cI h_t h_t_colours t_known t_depth t_packing t_isUpward t_column t_up t_colours ++ zwX5 cI h_p h_p_pixels p_wide p_high p_pixels) → va_S A s.heap H locs → lv_has ls 2 [(0, .ref h_t), (1, .ref h_p)] → W p l e rmX0_canHold s m args below meth c H locs 0 0 Q (F0 m 0 ls []) := by
  intro hf hP hD hS hl
  obtain ⟨hx, hb, hml, hown, hts⟩ := id C
  unfold fX0_canHold at hf
  refine lv_aload_n hx hb dX0_canHold_0 rfl (lv_at hl 1 rfl) ?_
  obtain ⟨r1, hc2, hf⟩ := zb1_in hf
  refine zc_i (va_runV (As := []) (rest := []) C (mX5_isOpaque l D cI H.size h_p h_p_pixels p_wide p_high p_pixels r1 hc2) (qX0_canHold_X5_isOpaque_21 hts) ⟨zP_blind, va_recv hK hP (ci := 4) (q0 := 2) rfl rfl, zpre hK hN hP hD [2, 3] rfl rfl⟩ rfl rfl hl.1 rfl (lv_room (Nat.le_of_ble_eq_true rfl)) dX0_canHold_1 ⟨Nat.zero_le _, Nat.zero_le _⟩) hP hD hS hA [2, 3] [0, 1] [0, 1, 2, 3] (ws' := zwX0 cI h_t h_t_colours t_known t_depth t_packing t_isUpward t_column t_up t_colours ++ zwX5 cI h_p h_p_pixels p_wide p_high p_pixels) rfl rfl rfl rfl rfl rfl (fun H locs hP hD hS => ?_)
  obtain ⟨hg3, hf⟩ := zbo_in hf
  cases hf
  exact hE _ _ _ _ dX0_canHold_4 hg3.1 hP hD hS
set_option maxHeartbeats 4000000 in
set_option maxRecDepth 100000 in
theorem mX0_canHold (l : Launch) (D : va_G) (cI : ClassId) (sz : Nat) (h_t h_t_colours h_p h_p_pixels : Nat) (t_known : Int32) (t_depth : Int32) (t_packing : Int32) (t_isUpward : Int32) (t_column : Int32) (t_up : Int32) (t_colours : Nat → Int32) (p_wide : Int32) (p_high : Int32) (p_pixels : Nat → Int32) (r0 : Int32) (hf : fX0_canHold p_wide p_high p_pixels = some r0) : Met l yX0_canHold wsX0_canHold rmX0_canHold (va_Pc [.ref h_t, .ref h_p] (zP D [(cI, .int)] (zwX0 cI h_t h_t_colours t_known t_depth t_packing t_isUpward t_column t_up t_colours ++ zwX5 cI h_p h_p_pixels p_wide p_high p_pixels) sz)) (zQi D (zwX0 cI h_t h_t_colours t_known t_depth t_packing t_isUpward t_column t_up t_colours ++ zwX5 cI h_p h_p_pixels p_wide p_high p_pixels) sz r0 (zwX0 cI h_t h_t_colours t_known t_depth t_packing t_isUpward t_column t_up t_colours ++ zwX5 cI h_p h_p_pixels p_wide p_high p_pixels)) 0 0 (va_A (zwX0 cI h_t h_t_colours t_known t_depth t_packing t_isUpward t_column t_up t_colours ++ zwX5 cI h_p h_p_pixels p_wide p_high p_pixels) sz) := by
  refine Met.ofW (cc := cX0_canHold) (maxL := 2) (ret := (some .boolean)) (by decide) rfl ?_
  intro p e s m args below meth c s₁ B hml hv
  obtain ⟨rfl, hsz, hP, hK, hD0, hN⟩ := hv
  subst hsz
  have C : CallFix p m c cX0_canHold 2 s [.ref h_t, .ref h_p].toArray wsX0_canHold RX0 := ⟨B.exec, B.bytes, hml, findClass_of_methodNamed B.named, atoms_spec (ws := wsX0_canHold) B.pre⟩
  have hl := lv_entry ([.ref h_t, .ref h_p]) (n := 2) (Nat.le_of_ble_eq_true rfl)
  rw [lg_entry_eq]
  exact wX0_canHold_0 (A := va_A (zwX0 cI h_t h_t_colours t_known t_depth t_packing t_isUpward t_column t_up t_colours ++ zwX5 cI h_p h_p_pixels p_wide p_high p_pixels) s.heap.size) C hN hK (fun q h => Or.inr h) (fun H locs pc ls d hn hP hD hS => zend_z C.1 C.2.1 B.returns B.notSynchronized d hn hP hD hS) hf hP hD0.self va_S.rf hl
def rmX0_numberOf : Room := { frames := 0, cells := 0, slots := 0, locals := 0 }
theorem kX0_numberOf_11 {args : Array Value} {s : State} (h : ∀ w ∈ wsX0_numberOf, w.before args s = true) : (Cond.fieldLink RX0 11 "FourPictureFiles$BitmapFormat" "colours" "[I").before args s = true := h _ (by decide +kernel)
theorem kX0_numberOf_27 {args : Array Value} {s : State} (h : ∀ w ∈ wsX0_numberOf, w.before args s = true) : (Cond.fieldLink RX0 27 "FourPictureFiles$BitmapFormat" "known" "I").before args s = true := h _ (by decide +kernel)
theorem iX0_numberOf_X0 : ∀ w ∈ u_ws RX0 TX0 7, w ∈ wsX0_numberOf := by decide +kernel
set_option maxHeartbeats 4000000 in
set_option maxRecDepth 100000 in
theorem wX0_numberOf_2 {p : Program} {l : Launch} {e : Env} {s : State} {m : MethodId} {args : Array Value} {below : List Frame} {meth : Method} {c : Code} {D : va_G} {A : Nat → Prop} {Q : State → Prop} {cI : ClassId} {h_t h_t_colours : Nat} {t_known : Int32} {t_depth : Int32} {t_packing : Int32} {t_isUpward : Int32} {t_column : Int32} {t_up : Int32} {t_colours : Nat → Int32} {r0 : Int32} (C : CallFix p m c cX0_numberOf 3 s args wsX0_numberOf RX0) (hN : zN s) (hK : va_K D vwCl [(cI, .int)] s) (hA : ∀ q, s.heap.size ≤ q → A q) (hE : zEi p l e rmX0_numberOf s m args below meth c cX0_numberOf D A Q (zwX0 cI h_t h_t_colours t_known t_depth t_packing t_isUpward t_column t_up t_colours) r0) (n : Nat) : ∀ {l1 : Int32} {l2 : Int32} {H : Heap} {locs : List Loc} {ls : Array Slot}, fX0_numberOf_2 n t_known t_colours l1 l2 = some r0 → va_P D vwCl (zwX0 cI h_t h_t_colours t_known t_depth t_packing t_isUpward t_column t_up t_colours) H → va_D A (zwX0 cI h_t h_t_colours t_known t_depth t_packing t_isUpward t_column t_up t_colours) → va_S A s.heap H locs → lv_has ls 3 [(0, .ref h_t), (1, .int l1), (2, .int l2)] → W p l e rmX0_numberOf s m args below meth c H locs 0 0 Q (F0 m 2 ls []) := by
  obtain ⟨hx, hb, hml, hown, hts⟩ := id C
  induction n with
  | zero =>
    intro l1 l2 H locs ls hf
    cases hf
  | succ n hr_2 =>
    intro l1 l2 H locs ls hf hP hD hS hl
    rw [fX0_numberOf_2_s] at hf
    refine lv_iload_n hx hb dX0_numberOf_2 rfl (lv_at hl 2 rfl) ?_
    refine lv_aload_n hx hb dX0_numberOf_3 rfl (lv_at hl 0 rfl) ?_
    refine va_get (D := D) (ci := 0) (v := .int t_known) (C := RX0) (T := TX0) (N := 7) hx hb hts iX0_numberOf_X0 hown hK hP 0 rfl rfl 1 (by decide) (kX0_numberOf_27 hts) (fun _ h9 => h9) rfl dX0_numberOf_4 ?_
    refine lv_icmp_ge (tgt := 28) hx hb dX0_numberOf_7 (by decide) (fun c1 => ?_) (fun c1 => ?_)
    · replace hf := zif_t hf c1
      refine lv_aload_n hx hb dX0_numberOf_28 rfl (lv_at hl 0 rfl) ?_
      refine va_get (D := D) (ci := 0) (v := .int t_known) (C := RX0) (T := TX0) (N := 7) hx hb hts iX0_numberOf_X0 hown hK hP 0 rfl rfl 1 (by decide) (kX0_numberOf_27 hts) (fun _ h9 => h9) rfl dX0_numberOf_29 ?_
      cases hf
      exact hE _ _ _ _ dX0_numberOf_32 hP hD hS
    · replace hf := zif_f hf c1
      refine lv_aload_n hx hb dX0_numberOf_10 rfl (lv_at hl 0 rfl) ?_
      refine va_get (D := D) (ci := 0) (v := .ref h_t_colours) (C := RX0) (T := TX0) (N := 7) hx hb hts iX0_numberOf_X0 hown hK hP 0 rfl rfl 0 (by decide) (kX0_numberOf_11 hts) (fun _ h9 => h9) rfl dX0_numberOf_11 ?_
      refine lv_iload_n hx hb dX0_numberOf_14 rfl (lv_at hl 2 rfl) ?_
      obtain ⟨hg3, hf⟩ := zrd_in hf
      refine va_iald hx hb hK hP 1 0 rfl rfl hg3 dX0_numberOf_15 ?_
      refine lv_topi (fun x2 ex2 => ?_)
      replace hf := hf x2 ex2
      clear ex2
      refine lv_iload_n hx hb dX0_numberOf_16 rfl (lv_at hl 1 rfl) ?_
      refine lv_icmp_ne (tgt := 22) hx hb dX0_numberOf_17 (by decide) (fun c4 => ?_) (fun c4 => ?_)
      · replace hf := zif_f hf c4
        obtain ⟨x5, ex5⟩ : ∃ y : Int32, y = l2 + 1 := ⟨_, rfl⟩
        replace hf := zlet_in hf ex5
        refine lv_iinc (v := x5) (lv' := [(2, .int x5), (0, .ref h_t), (1, .int l1)]) hx hb dX0_numberOf_22 hl (k := 2) rfl (by rw [ex5]; rfl) (by decide) rfl (fun ls hl => ?_)
        clear ex5
        refine lv_goto (tgt := 2) hx hb dX0_numberOf_25 (by decide) ?_
        exact hr_2 hf hP hD hS (lv_sub hl [1, 2, 0] rfl)
      · replace hf := zif_t hf c4
        refine lv_iload_n hx hb dX0_numberOf_20 rfl (lv_at hl 2 rfl) ?_
        cases hf
        exact hE _ _ _ _ dX0_numberOf_21 hP hD hS
set_option maxHeartbeats 4000000 in
set_option maxRecDepth 100000 in
theorem wX0_numberOf_0 {p : Program} {l : Launch} {e : Env} {s : State} {m : MethodId} {args : Array Value} {below : List Frame} {meth : Method} {c : Code} {D : va_G} {A : Nat → Prop} {Q : State → Prop} {cI : ClassId} {h_t h_t_colours : Nat} {t_known : Int32} {t_depth : Int32} {t_packing : Int32} {t_isUpward : Int32} {t_column : Int32} {t_up : Int32} {t_colours : Nat → Int32} {r0 : Int32} (C : CallFix p m c cX0_numberOf 3 s args wsX0_numberOf RX0) (hN : zN s) (hK : va_K D vwCl [(cI, .int)] s) (hA : ∀ q, s.heap.size ≤ q → A q) (hE : zEi p l e rmX0_numberOf s m args below meth c cX0_numberOf D A Q (zwX0 cI h_t h_t_colours t_known t_depth t_packing t_isUpward t_column t_up t_colours) r0) {v0 : Int32} {H : Heap} {locs : List Loc} {ls : Array Slot} : fX0_numberOf t_known t_colours v0 = some r0 → va_P D vwCl (zwX0 cI h_t h_t_colours t_known t_depth t_packing t_isUpward t_column t_up t_colours) H → va_D A (zwX0 cI h_t h_t_colours t_known t_depth t_packing t_isUpward t_column t_up t_colours) → va_S A s.heap H locs → lv_has ls 3 [(0, .ref h_t), (1, .int v0)] → W p l e rmX0_numberOf s m args below meth c H locs 0 0 Q (F0 m 0 ls []) := by
  intro hf hP hD hS hl
  obtain ⟨hx, hb, hml, hown, hts⟩ := id C
  unfold fX0_numberOf at hf
  refine lv_iconst (v := 0) hx hb dX0_numberOf_0 (by decide) ?_
  refine lv_istore_n (lv' := [(2, .int 0), (0, .ref h_t), (1, .int v0)]) hx hb dX0_numberOf_1 rfl hl (by decide) rfl (fun ls hl => ?_)
  exact wX0_numberOf_2 C hN hK hA hE 1000 hf hP hD hS (lv_sub hl [1, 2, 0] rfl)
set_option maxHeartbeats 4000000 in
set_option maxRecDepth 100000 in
theorem mX0_numberOf (l : Launch) (D : va_G) (cI : ClassId) (sz : Nat) (h_t h_t_colours : Nat) (t_known : Int32) (t_depth : Int32) (t_packing : Int32) (t_isUpward : Int32) (t_column : Int32) (t_up : Int32) (t_colours : Nat → Int32) (v0 : Int32) (r0 : Int32) (hf : fX0_numberOf t_known t_colours v0 = some r0) : Met l yX0_numberOf wsX0_numberOf rmX0_numberOf (va_Pc [.ref h_t, .int v0] (zP D [(cI, .int)] (zwX0 cI h_t h_t_colours t_known t_depth t_packing t_isUpward t_column t_up t_colours) sz)) (zQi D (zwX0 cI h_t h_t_colours t_known t_depth t_packing t_isUpward t_column t_up t_colours) sz r0 (zwX0 cI h_t h_t_colours t_known t_depth t_packing t_isUpward t_column t_up t_colours)) 0 0 (va_A (zwX0 cI h_t h_t_colours t_known t_depth t_packing t_isUpward t_column t_up t_colours) sz) := by
  refine Met.ofW (cc := cX0_numberOf) (maxL := 3) (ret := (some .int)) (by decide) rfl ?_
  intro p e s m args below meth c s₁ B hml hv
  obtain ⟨rfl, hsz, hP, hK, hD0, hN⟩ := hv
  subst hsz
  have C : CallFix p m c cX0_numberOf 3 s [.ref h_t, .int v0].toArray wsX0_numberOf RX0 := ⟨B.exec, B.bytes, hml, findClass_of_methodNamed B.named, atoms_spec (ws := wsX0_numberOf) B.pre⟩
  have hl := lv_entry ([.ref h_t, .int v0]) (n := 3) (Nat.le_of_ble_eq_true rfl)
  rw [lg_entry_eq]
  exact wX0_numberOf_0 (A := va_A (zwX0 cI h_t h_t_colours t_known t_depth t_packing t_isUpward t_column t_up t_colours) s.heap.size) C hN hK (fun q h => Or.inr h) (fun H locs pc ls d hP hD hS => zend_i C.1 C.2.1 B.returns B.notSynchronized d hP hD hS) hf hP hD0.self va_S.rf hl
def rmX0_gatherColours : Room := { frames := 1, cells := 0, slots := 0, locals := 22 }
theorem kX0_gatherColours_11 {args : Array Value} {s : State} (h : ∀ w ∈ wsX0_gatherColours, w.before args s = true) : (Cond.fieldLink RX0 11 "FourPictureFiles$BitmapFormat" "colours" "[I").before args s = true := h _ (by decide +kernel)
theorem kX0_gatherColours_27 {args : Array Value} {s : State} (h : ∀ w ∈ wsX0_gatherColours, w.before args s = true) : (Cond.fieldLink RX0 27 "FourPictureFiles$BitmapFormat" "known" "I").before args s = true := h _ (by decide +kernel)
theorem iX0_gatherColours_X0 : ∀ w ∈ u_ws RX0 TX0 7, w ∈ wsX0_gatherColours := by decide +kernel
theorem iX0_gatherColours_X5 : ∀ w ∈ u_ws RX5 TX5 3, w ∈ wsX0_gatherColours := by decide +kernel
theorem qX0_gatherColours_X0_numberOf_67 {args : Array Value} {s : State} (hts : ∀ w ∈ wsX0_gatherColours, w.before args s = true) : CallW rmX0_gatherColours s args RX0 RX0 67 yX0_numberOf cX0_numberOf 3 (some .int) wsX0_numberOf rmX0_numberOf 0 0 1 := cwV 1 hts gX0_gatherColours_X0_numberOf rfl rfl rfl (by decide +kernel) ⟨Nat.le_of_ble_eq_true rfl, Nat.le_of_ble_eq_true rfl⟩
theorem qX0_gatherColours_X5_count_60 {args : Array Value} {s : State} (hts : ∀ w ∈ wsX0_gatherColours, w.before args s = true) : CallW rmX0_gatherColours s args RX0 RX5 60 yX5_count cX5_count 1 (some .int) wsX5_count rmX5_count 0 0 0 := cwV 0 hts gX0_gatherColours_X5_count rfl rfl rfl (by decide +kernel) ⟨Nat.le_of_ble_eq_true rfl, Nat.le_of_ble_eq_true rfl⟩
set_option maxHeartbeats 4000000 in
set_option maxRecDepth 100000 in
theorem wX0_gatherColours_58 {p : Program} {l : Launch} {e : Env} {s : State} {m : MethodId} {args : Array Value} {below : List Frame} {meth : Method} {c : Code} {D : va_G} {A : Nat → Prop} {Q : State → Prop} {cI : ClassId} {h_t h_t_colours h_p h_p_pixels : Nat} {t_depth : Int32} {t_packing : Int32} {t_isUpward : Int32} {t_column : Int32} {t_up : Int32} {p_wide : Int32} {p_high : Int32} {p_pixels : Nat → Int32} {zt_known : Int32} {zt_colours : Nat → Int32} (C : CallFix p m c cX0_gatherColours 4 s args wsX0_gatherColours RX0) (hN : zN s) (hK : va_K D vwCl [(cI, .int)] s) (hA : ∀ q, s.heap.size ≤ q → A q) (hE : zEv p l e rmX0_gatherColours s m args below meth c cX0_gatherColours D A Q (zwX0 cI h_t h_t_colours zt_known t_depth t_packing t_isUpward t_column t_up zt_colours ++ zwX5 cI h_p h_p_pixels p_wide p_high p_pixels)) {rc2 : Int32 → (Nat → Int32) → Int32 → Int32 → (Nat → Int32) → Int32 → Option (Int32 × (Nat → Int32))} (hr_2 : ∀ {t_known : Int32} {t_colours : Nat → Int32} {l2 : Int32} {H : Heap} {locs : List Loc} {ls : Array Slot}, rc2 t_known t_colours p_wide p_high p_pixels l2 = some (zt_known, zt_colours) → va_P D vwCl (zwX0 cI h_t h_t_colours t_known t_depth t_packing t_isUpward t_column t_up t_colours ++ zwX5 cI h_p h_p_pixels p_wide p_high p_pixels) H → va_D A (zwX0 cI h_t h_t_colours t_known t_depth t_packing t_isUpward t_column t_up t_colours ++ zwX5 cI h_p h_p_pixels p_wide p_high p_pixels) → va_S A s.heap H locs → lv_has ls 4 [(0, .ref h_t), (1, .ref h_p), (2, .int l2)] → W p l e rmX0_gatherColours s m args below meth c H locs 0 0 Q (F0 m 2 ls [])) {t_known : Int32} {t_colours : Nat → Int32} {l2 : Int32} {l3 : Int32} {H : Heap} {locs : List Loc} {ls : Array Slot} : fX0_gatherColours_58 rc2 t_known t_colours p_wide p_high p_pixels l2 = some (zt_known, zt_colours) → va_P D vwCl (zwX0 cI h_t h_t_colours t_known t_depth t_packing t_isUpward t_column t_up t_colours ++ zwX5 cI h_p h_p_pixels p_wide p_high p_pixels) H → va_D A (zwX0 cI h_t h_t_colours t_known t_depth t_packing t_isUpward t_column t_up t_colours ++ zwX5 cI h_p h_p_pixels p_wide p_high p_pixels) → va_S A s.heap H locs → lv_has ls 4 [(0, .ref h_t), (1, .ref h_p), (2, .int l2), (3, .int l3)] → W p l e rmX0_gatherColours s m args below meth c H locs 0 0 Q (F0 m 58 ls []) := by
  intro hf hP hD hS hl
  obtain ⟨hx, hb, hml, hown, hts⟩ := id C
  unfold fX0_gatherColours_58 at hf
  obtain ⟨x1, ex1⟩ : ∃ y : Int32, y = l2 + 1 := ⟨_, rfl⟩
  replace hf := zlet_in hf ex1
  refine lv_iinc (v := x1) (lv' := [(2, .int x1), (0, .ref h_t), (1, .ref h_p), (3, .int l3)]) hx hb dX0_gatherColours_58 hl (k := 2) rfl (by rw [ex1]; rfl) (by decide) rfl (fun ls hl => ?_)
  clear ex1
  refine lv_goto (tgt := 2) hx hb dX0_gatherColours_61 (by decide) ?_
  exact hr_2 hf hP hD hS (lv_sub hl [1, 2, 0] rfl)
set_option maxHeartbeats 4000000 in
set_option maxRecDepth 100000 in
theorem wX0_gatherColours_2 {p : Program} {l : Launch} {e : Env} {s : State} {m : MethodId} {args : Array Value} {below : List Frame} {meth : Method} {c : Code} {D : va_G} {A : Nat → Prop} {Q : State → Prop} {cI : ClassId} {h_t h_t_colours h_p h_p_pixels : Nat} {t_depth : Int32} {t_packing : Int32} {t_isUpward : Int32} {t_column : Int32} {t_up : Int32} {p_wide : Int32} {p_high : Int32} {p_pixels : Nat → Int32} {zt_known : Int32} {zt_colours : Nat → Int32} (C : CallFix p m c cX0_gatherColours 4 s args wsX0_gatherColours RX0) (hN : zN s) (hK : va_K D vwCl [(cI, .int)] s) (hA : ∀ q, s.heap.size ≤ q → A q) (hE : zEv p l e rmX0_gatherColours s m args below meth c cX0_gatherColours D A Q (zwX0 cI h_t h_t_colours zt_known t_depth t_packing t_isUpward t_column t_up zt_colours ++ zwX5 cI h_p h_p_pixels p_wide p_high p_pixels)) (n : Nat) : ∀ {t_known : Int32} {t_colours : Nat → Int32} {l2 : Int32} {H : Heap} {locs : List Loc} {ls : Array Slot}, fX0_gatherColours_2 n t_known t_colours p_wide p_high p_pixels l2 = some (zt_known, zt_colours) → va_P D vwCl (zwX0 cI h_t h_t_colours t_known t_depth t_packing t_isUpward t_column t_up t_colours ++ zwX5 cI h_p h_p_pixels p_wide p_high p_pixels) H → va_D A (zwX0 cI h_t h_t_colours t_known t_depth t_packing t_isUpward t_column t_up t_colours ++ zwX5 cI h_p h_p_pixels p_wide p_high p_pixels) → va_S A s.heap H locs → lv_has ls 4 [(0, .ref h_t), (1, .ref h_p), (2, .int l2)] → W p l e rmX0_gatherColours s m args below meth c H locs 0 0 Q (F0 m 2 ls []) := by
  obtain ⟨hx, hb, hml, hown, hts⟩ := id C
  induction n with
  | zero =>
    intro t_known t_colours l2 H locs ls hf
    cases hf
  | succ n hr_2 =>
    intro t_known t_colours l2 H locs ls hf hP hD hS hl
    rw [fX0_gatherColours_2_s] at hf
    refine lv_iload_n hx hb dX0_gatherColours_2 rfl (lv_at hl 2 rfl) ?_
    refine lv_aload_n hx hb dX0_gatherColours_3 rfl (lv_at hl 1 rfl) ?_
    obtain ⟨r1, hc2, hf⟩ := zb1_in hf
    refine zc_i (va_runV (As := []) (rest := [.int l2]) C (mX5_count l D cI H.size h_p h_p_pixels p_wide p_high p_pixels r1 hc2) (qX0_gatherColours_X5_count_60 hts) ⟨zP_blind, va_recv hK hP (ci := 4) (q0 := 2) rfl rfl, zpre hK hN hP hD [2, 3] rfl rfl⟩ rfl rfl hl.1 rfl (lv_room (Nat.le_of_ble_eq_true rfl)) dX0_gatherColours_4 ⟨Nat.zero_le _, Nat.zero_le _⟩) hP hD hS hA [2, 3] [0, 1] [0, 1, 2, 3] (ws' := zwX0 cI h_t h_t_colours t_known t_depth t_packing t_isUpward t_column t_up t_colours ++ zwX5 cI h_p h_p_pixels p_wide p_high p_pixels) rfl rfl rfl rfl rfl rfl (fun H locs hP hD hS => ?_)
    refine lv_icmp_ge (tgt := 64) hx hb dX0_gatherColours_7 (by decide) (fun c3 => ?_) (fun c3 => ?_)
    · replace hf := zif_t hf c3
      cases hf
      exact hE _ _ _ _ dX0_gatherColours_64 hP hD hS
    · replace hf := zif_f hf c3
      refine lv_aload_n hx hb dX0_gatherColours_10 rfl (lv_at hl 1 rfl) ?_
      refine va_getN (D := D) (ci := 4) (v := .ref h_p_pixels) (C := RX5) (T := TX5) (N := 3) hx hb hts iX0_gatherColours_X5 hown hK hP 2 rfl rfl 0 (by decide) (hN.at 0 rfl) (fun _ h9 => h9) rfl dX0_gatherColours_11 ?_
      refine lv_iload_n hx hb dX0_gatherColours_14 rfl (lv_at hl 2 rfl) ?_
      obtain ⟨hg5, hf⟩ := zrd_in hf
      refine va_iald hx hb hK hP 3 0 rfl rfl hg5 dX0_gatherColours_15 ?_
      refine lv_topi (fun x4 ex4 => ?_)
      replace hf := hf x4 ex4
      clear ex4
      refine lv_istore_n (lv' := [(3, .int x4), (0, .ref h_t), (1, .ref h_p), (2, .int l2)]) hx hb dX0_gatherColours_16 rfl hl (by decide) rfl (fun ls hl => ?_)
      refine lv_aload_n hx hb dX0_gatherColours_17 rfl (lv_at hl 1 rfl) ?_
      refine lv_iload_n hx hb dX0_gatherColours_18 rfl (lv_at hl 0 rfl) ?_
      obtain ⟨r6, hc7, hf⟩ := zb1_in hf
      refine zc_i (va_runV (As := [.int x4]) (rest := []) C (mX0_numberOf l D cI H.size h_t h_t_colours t_known t_depth t_packing t_isUpward t_column t_up t_colours x4 r6 hc7) (qX0_gatherColours_X0_numberOf_67 hts) ⟨zP_blind, va_recv hK hP (ci := 0) (q0 := 0) rfl rfl, zpre hK hN hP hD [0, 1] rfl rfl⟩ rfl rfl hl.1 rfl (lv_room (Nat.le_of_ble_eq_true rfl)) dX0_gatherColours_19 ⟨Nat.zero_le _, Nat.zero_le _⟩) hP hD hS hA [0, 1] [2, 3] [2, 3, 0, 1] (ws' := zwX0 cI h_t h_t_colours t_known t_depth t_packing t_isUpward t_column t_up t_colours ++ zwX5 cI h_p h_p_pixels p_wide p_high p_pixels) rfl rfl rfl rfl rfl rfl (fun H locs hP hD hS => ?_)
      refine lv_aload_n hx hb dX0_gatherColours_22 rfl (lv_at hl 1 rfl) ?_
      refine va_get (D := D) (ci := 0) (v := .int t_known) (C := RX0) (T := TX0) (N := 7) hx hb hts iX0_gatherColours_X0 hown hK hP 0 rfl rfl 1 (by decide) (kX0_gatherColours_27 hts) (fun _ h9 => h9) rfl dX0_gatherColours_23 ?_
      refine lv_icmp_ne (tgt := 58) hx hb dX0_gatherColours_26 (by decide) (fun c8 => ?_) (fun c8 => ?_)
      · replace hf := zif_f hf c8
        exact wX0_gatherColours_58 C hN hK hA hE hr_2 hf hP hD hS (lv_sub hl [1, 2, 3, 0] rfl)
      · replace hf := zif_t hf c8
        refine lv_aload_n hx hb dX0_gatherColours_29 rfl (lv_at hl 1 rfl) ?_
        refine va_get (D := D) (ci := 0) (v := .int t_known) (C := RX0) (T := TX0) (N := 7) hx hb hts iX0_gatherColours_X0 hown hK hP 0 rfl rfl 1 (by decide) (kX0_gatherColours_27 hts) (fun _ h9 => h9) rfl dX0_gatherColours_30 ?_
        refine lv_bipush (v := 64) hx hb dX0_gatherColours_33 (by decide) ?_
        refine lv_icmp_ge (tgt := 58) hx hb dX0_gatherColours_35 (by decide) (fun c9 => ?_) (fun c9 => ?_)
        · replace hf := zif_t hf c9
          exact wX0_gatherColours_58 C hN hK hA hE hr_2 hf hP hD hS (lv_sub hl [1, 2, 3, 0] rfl)
        · replace hf := zif_f hf c9
          refine lv_aload_n hx hb dX0_gatherColours_38 rfl (lv_at hl 1 rfl) ?_
          refine va_get (D := D) (ci := 0) (v := .ref h_t_colours) (C := RX0) (T := TX0) (N := 7) hx hb hts iX0_gatherColours_X0 hown hK hP 0 rfl rfl 0 (by decide) (kX0_gatherColours_11 hts) (fun _ h9 => h9) rfl dX0_gatherColours_39 ?_
          refine lv_aload_n hx hb dX0_gatherColours_42 rfl (lv_at hl 1 rfl) ?_
          refine va_get (D := D) (ci := 0) (v := .int t_known) (C := RX0) (T := TX0) (N := 7) hx hb hts iX0_gatherColours_X0 hown hK hP 0 rfl rfl 1 (by decide) (kX0_gatherColours_27 hts) (fun _ h9 => h9) rfl dX0_gatherColours_43 ?_
          refine lv_iload_n hx hb dX0_gatherColours_46 rfl (lv_at hl 0 rfl) ?_
          obtain ⟨hg11, g10, eg10, hf⟩ := zwr_in hf
          refine va_iast hx hb hK hP hD hS 1 0 rfl rfl hg11 dX0_gatherColours_47 (fun H locs hP hD hS => ?_)
          replace hP : va_P D vwCl (zwX0 cI h_t h_t_colours t_known t_depth t_packing t_isUpward t_column t_up g10 ++ zwX5 cI h_p h_p_pixels p_wide p_high p_pixels) H := by rw [← eg10]; exact hP
          replace hD : va_D A (zwX0 cI h_t h_t_colours t_known t_depth t_packing t_isUpward t_column t_up g10 ++ zwX5 cI h_p h_p_pixels p_wide p_high p_pixels) := by rw [← eg10]; exact hD
          clear eg10
          refine lv_aload_n hx hb dX0_gatherColours_48 rfl (lv_at hl 1 rfl) ?_
          refine lv_dup hx hb dX0_gatherColours_49 rfl ?_
          refine va_get (D := D) (ci := 0) (v := .int t_known) (C := RX0) (T := TX0) (N := 7) hx hb hts iX0_gatherColours_X0 hown hK hP 0 rfl rfl 1 (by decide) (kX0_gatherColours_27 hts) (fun _ h9 => h9) rfl dX0_gatherColours_50 ?_
          refine lv_iconst (v := 1) hx hb dX0_gatherColours_53 (by decide) ?_
          refine lv_iadd hx hb dX0_gatherColours_54 ?_
          refine lv_topi (fun x12 ex12 => ?_)
          replace hf := zlet_in hf ex12
          clear ex12
          refine va_put (D := D) (ci := 0) (v := .int x12) (ty := .int) (C := RX0) (T := TX0) (N := 7) hx hb hts iX0_gatherColours_X0 tyX0 tyX0_ok nmX0 hown hK hP hD hS 0 rfl rfl 1 (by decide) (kX0_gatherColours_27 hts) (fun _ h9 => h9) rfl (by decide +kernel) rfl rfl (Nat.le_of_ble_eq_true rfl) dX0_gatherColours_55 (fun H locs hP hD hS => ?_)
          replace hP : va_P D vwCl (zwX0 cI h_t h_t_colours x12 t_depth t_packing t_isUpward t_column t_up g10 ++ zwX5 cI h_p h_p_pixels p_wide p_high p_pixels) H := hP
          replace hD : va_D A (zwX0 cI h_t h_t_colours x12 t_depth t_packing t_isUpward t_column t_up g10 ++ zwX5 cI h_p h_p_pixels p_wide p_high p_pixels) := hD
          exact wX0_gatherColours_58 C hN hK hA hE hr_2 hf hP hD hS (lv_sub hl [1, 2, 3, 0] rfl)
set_option maxHeartbeats 4000000 in
set_option maxRecDepth 100000 in
theorem wX0_gatherColours_0 {p : Program} {l : Launch} {e : Env} {s : State} {m : MethodId} {args : Array Value} {below : List Frame} {meth : Method} {c : Code} {D : va_G} {A : Nat → Prop} {Q : State → Prop} {cI : ClassId} {h_t h_t_colours h_p h_p_pixels : Nat} {t_depth : Int32} {t_packing : Int32} {t_isUpward : Int32} {t_column : Int32} {t_up : Int32} {p_wide : Int32} {p_high : Int32} {p_pixels : Nat → Int32} {zt_known : Int32} {zt_colours : Nat → Int32} (C : CallFix p m c cX0_gatherColours 4 s args wsX0_gatherColours RX0) (hN : zN s) (hK : va_K D vwCl [(cI, .int)] s) (hA : ∀ q, s.heap.size ≤ q → A q) (hE : zEv p l e rmX0_gatherColours s m args below meth c cX0_gatherColours D A Q (zwX0 cI h_t h_t_colours zt_known t_depth t_packing t_isUpward t_column t_up zt_colours ++ zwX5 cI h_p h_p_pixels p_wide p_high p_pixels)) {t_known : Int32} {t_colours : Nat → Int32} {H : Heap} {locs : List Loc} {ls : Array Slot} : fX0_gatherColours t_known t_colours p_wide p_high p_pixels = some (zt_known, zt_colours) → va_P D vwCl (zwX0 cI h_t h_t_colours t_known t_depth t_packing t_isUpward t_column t_up t_colours ++ zwX5 cI h_p h_p_pixels p_wide p_high p_pixels) H → va_D A (zwX0 cI h_t h_t_colours t_known t_depth t_packing t_isUpward t_column t_up t_colours ++ zwX5 cI h_p h_p_pixels p_wide p_high p_pixels) → va_S A s.heap H locs → lv_has ls 4 [(0, .ref h_t), (1, .ref h_p)] → W p l e rmX0_gatherColours s m args below meth c H locs 0 0 Q (F0 m 0 ls []) := by
  intro hf hP hD hS hl
  obtain ⟨hx, hb, hml, hown, hts⟩ := id C
  unfold fX0_gatherColours at hf
  refine lv_iconst (v := 0) hx hb dX0_gatherColours_0 (by decide) ?_
  refine lv_istore_n (lv' := [(2, .int 0), (0, .ref h_t), (1, .ref h_p)]) hx hb dX0_gatherColours_1 rfl hl (by decide) rfl (fun ls hl => ?_)
  exact wX0_gatherColours_2 C hN hK hA hE 1000 hf hP hD hS (lv_sub hl [1, 2, 0] rfl)
set_option maxHeartbeats 4000000 in
set_option maxRecDepth 100000 in
theorem mX0_gatherColours (l : Launch) (D : va_G) (cI : ClassId) (sz : Nat) (h_t h_t_colours h_p h_p_pixels : Nat) (t_known : Int32) (t_depth : Int32) (t_packing : Int32) (t_isUpward : Int32) (t_column : Int32) (t_up : Int32) (t_colours : Nat → Int32) (p_wide : Int32) (p_high : Int32) (p_pixels : Nat → Int32) (zt_known : Int32) (zt_colours : Nat → Int32) (hf : fX0_gatherColours t_known t_colours p_wide p_high p_pixels = some (zt_known, zt_colours)) : Met l yX0_gatherColours wsX0_gatherColours rmX0_gatherColours (va_Pc [.ref h_t, .ref h_p] (zP D [(cI, .int)] (zwX0 cI h_t h_t_colours t_known t_depth t_packing t_isUpward t_column t_up t_colours ++ zwX5 cI h_p h_p_pixels p_wide p_high p_pixels) sz)) (zQv D (zwX0 cI h_t h_t_colours t_known t_depth t_packing t_isUpward t_column t_up t_colours ++ zwX5 cI h_p h_p_pixels p_wide p_high p_pixels) sz (zwX0 cI h_t h_t_colours zt_known t_depth t_packing t_isUpward t_column t_up zt_colours ++ zwX5 cI h_p h_p_pixels p_wide p_high p_pixels)) 0 0 (va_A (zwX0 cI h_t h_t_colours t_known t_depth t_packing t_isUpward t_column t_up t_colours ++ zwX5 cI h_p h_p_pixels p_wide p_high p_pixels) sz) := by
  refine Met.ofW (cc := cX0_gatherColours) (maxL := 4) (ret := none) (by decide) rfl ?_
  intro p e s m args below meth c s₁ B hml hv
  obtain ⟨rfl, hsz, hP, hK, hD0, hN⟩ := hv
  subst hsz
  have C : CallFix p m c cX0_gatherColours 4 s [.ref h_t, .ref h_p].toArray wsX0_gatherColours RX0 := ⟨B.exec, B.bytes, hml, findClass_of_methodNamed B.named, atoms_spec (ws := wsX0_gatherColours) B.pre⟩
  have hl := lv_entry ([.ref h_t, .ref h_p]) (n := 4) (Nat.le_of_ble_eq_true rfl)
  rw [lg_entry_eq]
  exact wX0_gatherColours_0 (A := va_A (zwX0 cI h_t h_t_colours t_known t_depth t_packing t_isUpward t_column t_up t_colours ++ zwX5 cI h_p h_p_pixels p_wide p_high p_pixels) s.heap.size) C hN hK (fun q h => Or.inr h) (fun H locs pc ls d hP hD hS => zend_v C.1 C.2.1 B.returns B.notSynchronized d hP hD hS) hf hP hD0.self va_S.rf hl
def rmX0_bytesToFour : Room := { frames := 0, cells := 0, slots := 0, locals := 0 }
set_option maxHeartbeats 4000000 in
set_option maxRecDepth 100000 in
theorem wX0_bytesToFour_0 {p : Program} {l : Launch} {e : Env} {s : State} {m : MethodId} {args : Array Value} {below : List Frame} {meth : Method} {c : Code} {D : va_G} {A : Nat → Prop} {Q : State → Prop} {cI : ClassId} {r0 : Int32} (C : CallFix p m c cX0_bytesToFour 1 s args wsX0_bytesToFour RX0) (hN : zN s) (hK : va_K D vwCl [(cI, .int)] s) (hA : ∀ q, s.heap.size ≤ q → A q) (hE : zEi p l e rmX0_bytesToFour s m args below meth c cX0_bytesToFour D A Q (([] : va_W)) r0) {v0 : Int32} {H : Heap} {locs : List Loc} {ls : Array Slot} : fX0_bytesToFour v0 = some r0 → va_P D vwCl (([] : va_W)) H → va_D A (([] : va_W)) → va_S A s.heap H locs → lv_has ls 1 [(0, .int v0)] → W p l e rmX0_bytesToFour s m args below meth c H locs 0 0 Q (F0 m 0 ls []) := by
  intro hf hP hD hS hl
  obtain ⟨hx, hb, hml, hown, hts⟩ := id C
  unfold fX0_bytesToFour at hf
  refine lv_iload_n hx hb dX0_bytesToFour_0 rfl (lv_at hl 0 rfl) ?_
  refine lv_ineg hx hb dX0_bytesToFour_1 ?_
  refine lv_iconst (v := 3) hx hb dX0_bytesToFour_2 (by decide) ?_
  refine lv_iand hx hb dX0_bytesToFour_3 ?_
  cases hf
  exact hE _ _ _ _ dX0_bytesToFour_4 hP hD hS
set_option maxHeartbeats 4000000 in
set_option maxRecDepth 100000 in
theorem mX0_bytesToFour (l : Launch) (D : va_G) (cI : ClassId) (sz : Nat) (v0 : Int32) (r0 : Int32) (hf : fX0_bytesToFour v0 = some r0) : Met l yX0_bytesToFour wsX0_bytesToFour rmX0_bytesToFour (va_Pc [.int v0] (zP D [(cI, .int)] (([] : va_W)) sz)) (zQi D (([] : va_W)) sz r0 (([] : va_W))) 0 0 (va_A (([] : va_W)) sz) := by
  refine Met.ofW (cc := cX0_bytesToFour) (maxL := 1) (ret := (some .int)) (by decide) rfl ?_
  intro p e s m args below meth c s₁ B hml hv
  obtain ⟨rfl, hsz, hP, hK, hD0, hN⟩ := hv
  subst hsz
  have C : CallFix p m c cX0_bytesToFour 1 s [.int v0].toArray wsX0_bytesToFour RX0 := ⟨B.exec, B.bytes, hml, findClass_of_methodNamed B.named, atoms_spec (ws := wsX0_bytesToFour) B.pre⟩
  have hl := lv_entry ([.int v0]) (n := 1) (Nat.le_of_ble_eq_true rfl)
  rw [lg_entry_eq]
  exact wX0_bytesToFour_0 (A := va_A (([] : va_W)) s.heap.size) C hN hK (fun q h => Or.inr h) (fun H locs pc ls d hP hD hS => zend_i C.1 C.2.1 B.returns B.notSynchronized d hP hD hS) hf hP hD0.self va_S.rf hl
def rmX0_writeHeader : Room := { frames := 2, cells := 0, slots := 0, locals := 44 }
theorem kX0_writeHeader_27 {args : Array Value} {s : State} (h : ∀ w ∈ wsX0_writeHeader, w.before args s = true) : (Cond.fieldLink RX0 27 "FourPictureFiles$BitmapFormat" "known" "I").before args s = true := h _ (by decide +kernel)
theorem iX0_writeHeader_X0 : ∀ w ∈ u_ws RX0 TX0 7, w ∈ wsX0_writeHeader := by decide +kernel
theorem iX0_writeHeader_X5 : ∀ w ∈ u_ws RX5 TX5 3, w ∈ wsX0_writeHeader := by decide +kernel
theorem qX0_writeHeader_X2_append_43 {args : Array Value} {s : State} (hts : ∀ w ∈ wsX0_writeHeader, w.before args s = true) : CallW rmX0_writeHeader s args RX0 RX2 43 yX2_append cX2_append 2 (some .boolean) wsX2_append rmX2_append 0 0 1 := cwV 1 hts gX0_writeHeader_X2_append rfl rfl rfl (by decide +kernel) ⟨Nat.le_of_ble_eq_true rfl, Nat.le_of_ble_eq_true rfl⟩
theorem qX0_writeHeader_X2_appendLittle_73 {args : Array Value} {s : State} (hts : ∀ w ∈ wsX0_writeHeader, w.before args s = true) : CallW rmX0_writeHeader s args RX0 RX2 73 yX2_appendLittle cX2_appendLittle 4 none wsX2_appendLittle rmX2_appendLittle 0 0 2 := cwV 2 hts gX0_writeHeader_X2_appendLittle rfl rfl rfl (by decide +kernel) ⟨Nat.le_of_ble_eq_true rfl, Nat.le_of_ble_eq_true rfl⟩
theorem qX0_writeHeader_X2_appendZeros_70 {args : Array Value} {s : State} (hts : ∀ w ∈ wsX0_writeHeader, w.before args s = true) : CallW rmX0_writeHeader s args RX0 RX2 70 yX2_appendZeros cX2_appendZeros 3 none wsX2_appendZeros rmX2_appendZeros 0 0 1 := cwV 1 hts gX0_writeHeader_X2_appendZeros rfl rfl rfl (by decide +kernel) ⟨Nat.le_of_ble_eq_true rfl, Nat.le_of_ble_eq_true rfl⟩
set_option maxHeartbeats 4000000 in
set_option maxRecDepth 100000 in
theorem wX0_writeHeader_78 {p : Program} {l : Launch} {e : Env} {s : State} {m : MethodId} {args : Array Value} {below : List Frame} {meth : Method} {c : Code} {D : va_G} {A : Nat → Prop} {Q : State → Prop} {cI : ClassId} {h_t h_t_colours h_p h_p_pixels h_f h_f_bytes : Nat} {t_known : Int32} {t_depth : Int32} {t_packing : Int32} {t_isUpward : Int32} {t_column : Int32} {t_up : Int32} {t_colours : Nat → Int32} {p_wide : Int32} {p_high : Int32} {p_pixels : Nat → Int32} {zf_size : Int32} {zf_bytes : Nat → Int32} (C : CallFix p m c cX0_writeHeader 4 s args wsX0_writeHeader RX0) (hN : zN s) (hK : va_K D vwCl [(cI, .int)] s) (hA : ∀ q, s.heap.size ≤ q → A q) (hE : zEv p l e rmX0_writeHeader s m args below meth c cX0_writeHeader D A Q (zwX0 cI h_t h_t_colours t_known t_depth t_packing t_isUpward t_column t_up t_colours ++ zwX5 cI h_p h_p_pixels p_wide p_high p_pixels ++ zwX2 cI h_f h_f_bytes zf_size zf_bytes)) {f_size : Int32} {f_bytes : Nat → Int32} {l2 : Int32} {k1 : Int32} {k2 : Int32} {H : Heap} {locs : List Loc} {ls : Array Slot} : fX0_writeHeader_78 t_known f_size f_bytes l2 k1 k2 = some (zf_size, zf_bytes) → va_P D vwCl (zwX0 cI h_t h_t_colours t_known t_depth t_packing t_isUpward t_column t_up t_colours ++ zwX5 cI h_p h_p_pixels p_wide p_high p_pixels ++ zwX2 cI h_f h_f_bytes f_size f_bytes) H → va_D A (zwX0 cI h_t h_t_colours t_known t_depth t_packing t_isUpward t_column t_up t_colours ++ zwX5 cI h_p h_p_pixels p_wide p_high p_pixels ++ zwX2 cI h_f h_f_bytes f_size f_bytes) → va_S A s.heap H locs → lv_has ls 4 [(0, .ref h_t), (1, .ref h_p), (2, .int l2), (3, .ref h_f)] → W p l e rmX0_writeHeader s m args below meth c H locs 0 0 Q (F0 m 78 ls [.int k2, .int k1, .ref h_f]) := by
  intro hf hP hD hS hl
  obtain ⟨hx, hb, hml, hown, hts⟩ := id C
  unfold fX0_writeHeader_78 at hf
  obtain ⟨u1, u2, hc3, hf⟩ := zb2_in hf
  refine zc_v (va_runV (As := [.int k1, .int k2]) (rest := []) C (mX2_appendLittle l D cI H.size h_f h_f_bytes f_size f_bytes k1 k2 u1 u2 hc3) (qX0_writeHeader_X2_appendLittle_73 hts) ⟨zP_blind, va_recv hK hP (ci := 2) (q0 := 4) rfl rfl, zpre hK hN hP hD [4, 5] rfl rfl⟩ rfl rfl hl.1 rfl (lv_room (Nat.le_of_ble_eq_true rfl)) dX0_writeHeader_78 ⟨Nat.zero_le _, Nat.zero_le _⟩) hP hD hS hA [4, 5] [0, 1, 2, 3] [0, 1, 2, 3, 4, 5] (ws' := zwX0 cI h_t h_t_colours t_known t_depth t_packing t_isUpward t_column t_up t_colours ++ zwX5 cI h_p h_p_pixels p_wide p_high p_pixels ++ zwX2 cI h_f h_f_bytes u1 u2) rfl rfl rfl rfl rfl rfl (fun H locs hP hD hS => ?_)
  refine lv_aload_n hx hb dX0_writeHeader_81 rfl (lv_at hl 3 rfl) ?_
  refine lv_iconst (v := 4) hx hb dX0_writeHeader_82 (by decide) ?_
  refine lv_iload_n hx hb dX0_writeHeader_83 rfl (lv_at hl 2 rfl) ?_
  obtain ⟨u4, u5, hc6, hf⟩ := zb2_in hf
  refine zc_v (va_runV (As := [.int 4, .int l2]) (rest := []) C (mX2_appendLittle l D cI H.size h_f h_f_bytes u1 u2 4 l2 u4 u5 hc6) (qX0_writeHeader_X2_appendLittle_73 hts) ⟨zP_blind, va_recv hK hP (ci := 2) (q0 := 4) rfl rfl, zpre hK hN hP hD [4, 5] rfl rfl⟩ rfl rfl hl.1 rfl (lv_room (Nat.le_of_ble_eq_true rfl)) dX0_writeHeader_84 ⟨Nat.zero_le _, Nat.zero_le _⟩) hP hD hS hA [4, 5] [0, 1, 2, 3] [0, 1, 2, 3, 4, 5] (ws' := zwX0 cI h_t h_t_colours t_known t_depth t_packing t_isUpward t_column t_up t_colours ++ zwX5 cI h_p h_p_pixels p_wide p_high p_pixels ++ zwX2 cI h_f h_f_bytes u4 u5) rfl rfl rfl rfl rfl rfl (fun H locs hP hD hS => ?_)
  refine lv_aload_n hx hb dX0_writeHeader_87 rfl (lv_at hl 3 rfl) ?_
  refine lv_bipush (v := 12) hx hb dX0_writeHeader_88 (by decide) ?_
  obtain ⟨u7, u8, hc9, hf⟩ := zb2_in hf
  refine zc_v (va_runV (As := [.int 12]) (rest := []) C (mX2_appendZeros l D cI H.size h_f h_f_bytes u4 u5 12 u7 u8 hc9) (qX0_writeHeader_X2_appendZeros_70 hts) ⟨zP_blind, va_recv hK hP (ci := 2) (q0 := 4) rfl rfl, zpre hK hN hP hD [4, 5] rfl rfl⟩ rfl rfl hl.1 rfl (lv_room (Nat.le_of_ble_eq_true rfl)) dX0_writeHeader_90 ⟨Nat.zero_le _, Nat.zero_le _⟩) hP hD hS hA [4, 5] [0, 1, 2, 3] [0, 1, 2, 3, 4, 5] (ws' := zwX0 cI h_t h_t_colours t_known t_depth t_packing t_isUpward t_column t_up t_colours ++ zwX5 cI h_p h_p_pixels p_wide p_high p_pixels ++ zwX2 cI h_f h_f_bytes u7 u8) rfl rfl rfl rfl rfl rfl (fun H locs hP hD hS => ?_)
  refine lv_aload_n hx hb dX0_writeHeader_93 rfl (lv_at hl 3 rfl) ?_
  refine lv_iconst (v := 4) hx hb dX0_writeHeader_94 (by decide) ?_
  refine lv_aload_n hx hb dX0_writeHeader_95 rfl (lv_at hl 0 rfl) ?_
  refine va_get (D := D) (ci := 0) (v := .int t_known) (C := RX0) (T := TX0) (N := 7) hx hb hts iX0_writeHeader_X0 hown hK hP 0 rfl rfl 1 (by decide) (kX0_writeHeader_27 hts) (fun _ h9 => h9) rfl dX0_writeHeader_96 ?_
  obtain ⟨u10, u11, hc12, hf⟩ := zb2_in hf
  refine zc_v (va_runV (As := [.int 4, .int t_known]) (rest := []) C (mX2_appendLittle l D cI H.size h_f h_f_bytes u7 u8 4 t_known u10 u11 hc12) (qX0_writeHeader_X2_appendLittle_73 hts) ⟨zP_blind, va_recv hK hP (ci := 2) (q0 := 4) rfl rfl, zpre hK hN hP hD [4, 5] rfl rfl⟩ rfl rfl hl.1 rfl (lv_room (Nat.le_of_ble_eq_true rfl)) dX0_writeHeader_99 ⟨Nat.zero_le _, Nat.zero_le _⟩) hP hD hS hA [4, 5] [0, 1, 2, 3] [0, 1, 2, 3, 4, 5] (ws' := zwX0 cI h_t h_t_colours t_known t_depth t_packing t_isUpward t_column t_up t_colours ++ zwX5 cI h_p h_p_pixels p_wide p_high p_pixels ++ zwX2 cI h_f h_f_bytes u10 u11) rfl rfl rfl rfl rfl rfl (fun H locs hP hD hS => ?_)
  refine lv_aload_n hx hb dX0_writeHeader_102 rfl (lv_at hl 3 rfl) ?_
  refine lv_iconst (v := 4) hx hb dX0_writeHeader_103 (by decide) ?_
  obtain ⟨u13, u14, hc15, hf⟩ := zb2_in hf
  refine zc_v (va_runV (As := [.int 4]) (rest := []) C (mX2_appendZeros l D cI H.size h_f h_f_bytes u10 u11 4 u13 u14 hc15) (qX0_writeHeader_X2_appendZeros_70 hts) ⟨zP_blind, va_recv hK hP (ci := 2) (q0 := 4) rfl rfl, zpre hK hN hP hD [4, 5] rfl rfl⟩ rfl rfl hl.1 rfl (lv_room (Nat.le_of_ble_eq_true rfl)) dX0_writeHeader_104 ⟨Nat.zero_le _, Nat.zero_le _⟩) hP hD hS hA [4, 5] [0, 1, 2, 3] [0, 1, 2, 3, 4, 5] (ws' := zwX0 cI h_t h_t_colours t_known t_depth t_packing t_isUpward t_column t_up t_colours ++ zwX5 cI h_p h_p_pixels p_wide p_high p_pixels ++ zwX2 cI h_f h_f_bytes u13 u14) rfl rfl rfl rfl rfl rfl (fun H locs hP hD hS => ?_)
  cases hf
  exact hE _ _ _ _ dX0_writeHeader_107 hP hD hS
set_option maxHeartbeats 4000000 in
set_option maxRecDepth 100000 in
theorem wX0_writeHeader_0 {p : Program} {l : Launch} {e : Env} {s : State} {m : MethodId} {args : Array Value} {below : List Frame} {meth : Method} {c : Code} {D : va_G} {A : Nat → Prop} {Q : State → Prop} {cI : ClassId} {h_t h_t_colours h_p h_p_pixels h_f h_f_bytes : Nat} {t_known : Int32} {t_depth : Int32} {t_packing : Int32} {t_isUpward : Int32} {t_column : Int32} {t_up : Int32} {t_colours : Nat → Int32} {p_wide : Int32} {p_high : Int32} {p_pixels : Nat → Int32} {zf_size : Int32} {zf_bytes : Nat → Int32} (C : CallFix p m c cX0_writeHeader 4 s args wsX0_writeHeader RX0) (hN : zN s) (hK : va_K D vwCl [(cI, .int)] s) (hA : ∀ q, s.heap.size ≤ q → A q) (hE : zEv p l e rmX0_writeHeader s m args below meth c cX0_writeHeader D A Q (zwX0 cI h_t h_t_colours t_known t_depth t_packing t_isUpward t_column t_up t_colours ++ zwX5 cI h_p h_p_pixels p_wide p_high p_pixels ++ zwX2 cI h_f h_f_bytes zf_size zf_bytes)) {f_size : Int32} {f_bytes : Nat → Int32} {v1 : Int32} {H : Heap} {locs : List Loc} {ls : Array Slot} : fX0_writeHeader t_known p_wide p_high f_size f_bytes v1 = some (zf_size, zf_bytes) → va_P D vwCl (zwX0 cI h_t h_t_colours t_known t_depth t_packing t_isUpward t_column t_up t_colours ++ zwX5 cI h_p h_p_pixels p_wide p_high p_pixels ++ zwX2 cI h_f h_f_bytes f_size f_bytes) H → va_D A (zwX0 cI h_t h_t_colours t_known t_depth t_packing t_isUpward t_column t_up t_colours ++ zwX5 cI h_p h_p_pixels p_wide p_high p_pixels ++ zwX2 cI h_f h_f_bytes f_size f_bytes) → va_S A s.heap H locs → lv_has ls 4 [(0, .ref h_t), (1, .ref h_p), (2, .int v1), (3, .ref h_f)] → W p l e rmX0_writeHeader s m args below meth c H locs 0 0 Q (F0 m 0 ls []) := by
  intro hf hP hD hS hl
  obtain ⟨hx, hb, hml, hown, hts⟩ := id C
  unfold fX0_writeHeader at hf
  refine lv_aload_n hx hb dX0_writeHeader_0 rfl (lv_at hl 3 rfl) ?_
  refine lv_bipush (v := 66) hx hb dX0_writeHeader_1 (by decide) ?_
  obtain ⟨r1, u2, u3, hc4, hf⟩ := zb3_in hf
  refine zc_i (va_runV (As := [.int 66]) (rest := []) C (mX2_append l D cI H.size h_f h_f_bytes f_size f_bytes 66 r1 u2 u3 hc4) (qX0_writeHeader_X2_append_43 hts) ⟨zP_blind, va_recv hK hP (ci := 2) (q0 := 4) rfl rfl, zpre hK hN hP hD [4, 5] rfl rfl⟩ rfl rfl hl.1 rfl (lv_room (Nat.le_of_ble_eq_true rfl)) dX0_writeHeader_3 ⟨Nat.zero_le _, Nat.zero_le _⟩) hP hD hS hA [4, 5] [0, 1, 2, 3] [0, 1, 2, 3, 4, 5] (ws' := zwX0 cI h_t h_t_colours t_known t_depth t_packing t_isUpward t_column t_up t_colours ++ zwX5 cI h_p h_p_pixels p_wide p_high p_pixels ++ zwX2 cI h_f h_f_bytes u2 u3) rfl rfl rfl rfl rfl rfl (fun H locs hP hD hS => ?_)
  refine lv_pop hx hb dX0_writeHeader_6 rfl ?_
  refine lv_aload_n hx hb dX0_writeHeader_7 rfl (lv_at hl 3 rfl) ?_
  refine lv_bipush (v := 77) hx hb dX0_writeHeader_8 (by decide) ?_
  obtain ⟨r5, u6, u7, hc8, hf⟩ := zb3_in hf
  refine zc_i (va_runV (As := [.int 77]) (rest := []) C (mX2_append l D cI H.size h_f h_f_bytes u2 u3 77 r5 u6 u7 hc8) (qX0_writeHeader_X2_append_43 hts) ⟨zP_blind, va_recv hK hP (ci := 2) (q0 := 4) rfl rfl, zpre hK hN hP hD [4, 5] rfl rfl⟩ rfl rfl hl.1 rfl (lv_room (Nat.le_of_ble_eq_true rfl)) dX0_writeHeader_10 ⟨Nat.zero_le _, Nat.zero_le _⟩) hP hD hS hA [4, 5] [0, 1, 2, 3] [0, 1, 2, 3, 4, 5] (ws' := zwX0 cI h_t h_t_colours t_known t_depth t_packing t_isUpward t_column t_up t_colours ++ zwX5 cI h_p h_p_pixels p_wide p_high p_pixels ++ zwX2 cI h_f h_f_bytes u6 u7) rfl rfl rfl rfl rfl rfl (fun H locs hP hD hS => ?_)
  refine lv_pop hx hb dX0_writeHeader_13 rfl ?_
  refine lv_aload_n hx hb dX0_writeHeader_14 rfl (lv_at hl 3 rfl) ?_
  refine lv_bipush (v := 8) hx hb dX0_writeHeader_15 (by decide) ?_
  obtain ⟨u9, u10, hc11, hf⟩ := zb2_in hf
  refine zc_v (va_runV (As := [.int 8]) (rest := []) C (mX2_appendZeros l D cI H.size h_f h_f_bytes u6 u7 8 u9 u10 hc11) (qX0_writeHeader_X2_appendZeros_70 hts) ⟨zP_blind, va_recv hK hP (ci := 2) (q0 := 4) rfl rfl, zpre hK hN hP hD [4, 5] rfl rfl⟩ rfl rfl hl.1 rfl (lv_room (Nat.le_of_ble_eq_true rfl)) dX0_writeHeader_17 ⟨Nat.zero_le _, Nat.zero_le _⟩) hP hD hS hA [4, 5] [0, 1, 2, 3] [0, 1, 2, 3, 4, 5] (ws' := zwX0 cI h_t h_t_colours t_known t_depth t_packing t_isUpward t_column t_up t_colours ++ zwX5 cI h_p h_p_pixels p_wide p_high p_pixels ++ zwX2 cI h_f h_f_bytes u9 u10) rfl rfl rfl rfl rfl rfl (fun H locs hP hD hS => ?_)
  refine lv_aload_n hx hb dX0_writeHeader_20 rfl (lv_at hl 3 rfl) ?_
  refine lv_iconst (v := 4) hx hb dX0_writeHeader_21 (by decide) ?_
  refine lv_bipush (v := 54) hx hb dX0_writeHeader_22 (by decide) ?_
  refine lv_iconst (v := 4) hx hb dX0_writeHeader_24 (by decide) ?_
  refine lv_aload_n hx hb dX0_writeHeader_25 rfl (lv_at hl 0 rfl) ?_
  refine va_get (D := D) (ci := 0) (v := .int t_known) (C := RX0) (T := TX0) (N := 7) hx hb hts iX0_writeHeader_X0 hown hK hP 0 rfl rfl 1 (by decide) (kX0_writeHeader_27 hts) (fun _ h9 => h9) rfl dX0_writeHeader_26 ?_
  refine lv_imul hx hb dX0_writeHeader_29 ?_
  refine lv_iadd hx hb dX0_writeHeader_30 ?_
  obtain ⟨u12, u13, hc14, hf⟩ := zb2_in hf
  refine zc_v (va_runV (As := [.int 4, .int (54 + (4 * t_known))]) (rest := []) C (mX2_appendLittle l D cI H.size h_f h_f_bytes u9 u10 4 (54 + (4 * t_known)) u12 u13 hc14) (qX0_writeHeader_X2_appendLittle_73 hts) ⟨zP_blind, va_recv hK hP (ci := 2) (q0 := 4) rfl rfl, zpre hK hN hP hD [4, 5] rfl rfl⟩ rfl rfl hl.1 rfl (lv_room (Nat.le_of_ble_eq_true rfl)) dX0_writeHeader_31 ⟨Nat.zero_le _, Nat.zero_le _⟩) hP hD hS hA [4, 5] [0, 1, 2, 3] [0, 1, 2, 3, 4, 5] (ws' := zwX0 cI h_t h_t_colours t_known t_depth t_packing t_isUpward t_column t_up t_colours ++ zwX5 cI h_p h_p_pixels p_wide p_high p_pixels ++ zwX2 cI h_f h_f_bytes u12 u13) rfl rfl rfl rfl rfl rfl (fun H locs hP hD hS => ?_)
  refine lv_aload_n hx hb dX0_writeHeader_34 rfl (lv_at hl 3 rfl) ?_
  refine lv_iconst (v := 4) hx hb dX0_writeHeader_35 (by decide) ?_
  refine lv_bipush (v := 40) hx hb dX0_writeHeader_36 (by decide) ?_
  obtain ⟨u15, u16, hc17, hf⟩ := zb2_in hf
  refine zc_v (va_runV (As := [.int 4, .int 40]) (rest := []) C (mX2_appendLittle l D cI H.size h_f h_f_bytes u12 u13 4 40 u15 u16 hc17) (qX0_writeHeader_X2_appendLittle_73 hts) ⟨zP_blind, va_recv hK hP (ci := 2) (q0 := 4) rfl rfl, zpre hK hN hP hD [4, 5] rfl rfl⟩ rfl rfl hl.1 rfl (lv_room (Nat.le_of_ble_eq_true rfl)) dX0_writeHeader_38 ⟨Nat.zero_le _, Nat.zero_le _⟩) hP hD hS hA [4, 5] [0, 1, 2, 3] [0, 1, 2, 3, 4, 5] (ws' := zwX0 cI h_t h_t_colours t_known t_depth t_packing t_isUpward t_column t_up t_colours ++ zwX5 cI h_p h_p_pixels p_wide p_high p_pixels ++ zwX2 cI h_f h_f_bytes u15 u16) rfl rfl rfl rfl rfl rfl (fun H locs hP hD hS => ?_)
  refine lv_aload_n hx hb dX0_writeHeader_41 rfl (lv_at hl 3 rfl) ?_
  refine lv_iconst (v := 4) hx hb dX0_writeHeader_42 (by decide) ?_
  refine lv_aload_n hx hb dX0_writeHeader_43 rfl (lv_at hl 1 rfl) ?_
  refine va_getN (D := D) (ci := 4) (v := .int p_wide) (C := RX5) (T := TX5) (N := 3) hx hb hts iX0_writeHeader_X5 hown hK hP 2 rfl rfl 1 (by decide) (hN.at 7 rfl) (fun _ h9 => h9) rfl dX0_writeHeader_44 ?_
  obtain ⟨u18, u19, hc20, hf⟩ := zb2_in hf
  refine zc_v (va_runV (As := [.int 4, .int p_wide]) (rest := []) C (mX2_appendLittle l D cI H.size h_f h_f_bytes u15 u16 4 p_wide u18 u19 hc20) (qX0_writeHeader_X2_appendLittle_73 hts) ⟨zP_blind, va_recv hK hP (ci := 2) (q0 := 4) rfl rfl, zpre hK hN hP hD [4, 5] rfl rfl⟩ rfl rfl hl.1 rfl (lv_room (Nat.le_of_ble_eq_true rfl)) dX0_writeHeader_47 ⟨Nat.zero_le _, Nat.zero_le _⟩) hP hD hS hA [4, 5] [0, 1, 2, 3] [0, 1, 2, 3, 4, 5] (ws' := zwX0 cI h_t h_t_colours t_known t_depth t_packing t_isUpward t_column t_up t_colours ++ zwX5 cI h_p h_p_pixels p_wide p_high p_pixels ++ zwX2 cI h_f h_f_bytes u18 u19) rfl rfl rfl rfl rfl rfl (fun H locs hP hD hS => ?_)
  refine lv_aload_n hx hb dX0_writeHeader_50 rfl (lv_at hl 3 rfl) ?_
  refine lv_iconst (v := 4) hx hb dX0_writeHeader_51 (by decide) ?_
  refine lv_aload_n hx hb dX0_writeHeader_52 rfl (lv_at hl 1 rfl) ?_
  refine va_getN (D := D) (ci := 4) (v := .int p_high) (C := RX5) (T := TX5) (N := 3) hx hb hts iX0_writeHeader_X5 hown hK hP 2 rfl rfl 2 (by decide) (hN.at 8 rfl) (fun _ h9 => h9) rfl dX0_writeHeader_53 ?_
  obtain ⟨u21, u22, hc23, hf⟩ := zb2_in hf
  refine zc_v (va_runV (As := [.int 4, .int p_high]) (rest := []) C (mX2_appendLittle l D cI H.size h_f h_f_bytes u18 u19 4 p_high u21 u22 hc23) (qX0_writeHeader_X2_appendLittle_73 hts) ⟨zP_blind, va_recv hK hP (ci := 2) (q0 := 4) rfl rfl, zpre hK hN hP hD [4, 5] rfl rfl⟩ rfl rfl hl.1 rfl (lv_room (Nat.le_of_ble_eq_true rfl)) dX0_writeHeader_56 ⟨Nat.zero_le _, Nat.zero_le _⟩) hP hD hS hA [4, 5] [0, 1, 2, 3] [0, 1, 2, 3, 4, 5] (ws' := zwX0 cI h_t h_t_colours t_known t_depth t_packing t_isUpward t_column t_up t_colours ++ zwX5 cI h_p h_p_pixels p_wide p_high p_pixels ++ zwX2 cI h_f h_f_bytes u21 u22) rfl rfl rfl rfl rfl rfl (fun H locs hP hD hS => ?_)
  refine lv_aload_n hx hb dX0_writeHeader_59 rfl (lv_at hl 3 rfl) ?_
  refine lv_iconst (v := 2) hx hb dX0_writeHeader_60 (by decide) ?_
  refine lv_iconst (v := 1) hx hb dX0_writeHeader_61 (by decide) ?_
  obtain ⟨u24, u25, hc26, hf⟩ := zb2_in hf
  refine zc_v (va_runV (As := [.int 2, .int 1]) (rest := []) C (mX2_appendLittle l D cI H.size h_f h_f_bytes u21 u22 2 1 u24 u25 hc26) (qX0_writeHeader_X2_appendLittle_73 hts) ⟨zP_blind, va_recv hK hP (ci := 2) (q0 := 4) rfl rfl, zpre hK hN hP hD [4, 5] rfl rfl⟩ rfl rfl hl.1 rfl (lv_room (Nat.le_of_ble_eq_true rfl)) dX0_writeHeader_62 ⟨Nat.zero_le _, Nat.zero_le _⟩) hP hD hS hA [4, 5] [0, 1, 2, 3] [0, 1, 2, 3, 4, 5] (ws' := zwX0 cI h_t h_t_colours t_known t_depth t_packing t_isUpward t_column t_up t_colours ++ zwX5 cI h_p h_p_pixels p_wide p_high p_pixels ++ zwX2 cI h_f h_f_bytes u24 u25) rfl rfl rfl rfl rfl rfl (fun H locs hP hD hS => ?_)
  refine lv_aload_n hx hb dX0_writeHeader_65 rfl (lv_at hl 3 rfl) ?_
  refine lv_iconst (v := 2) hx hb dX0_writeHeader_66 (by decide) ?_
  refine lv_iload_n hx hb dX0_writeHeader_67 rfl (lv_at hl 2 rfl) ?_
  refine lv_if_ne (tgt := 76) hx hb dX0_writeHeader_68 (by decide) (fun c27 => ?_) (fun c27 => ?_)
  · replace hf := zif_f hf c27
    refine lv_bipush (v := 8) hx hb dX0_writeHeader_76 (by decide) ?_
    exact wX0_writeHeader_78 C hN hK hA hE hf hP hD hS (lv_sub hl [0, 1, 2, 3] rfl)
  · replace hf := zif_t hf c27
    refine lv_bipush (v := 24) hx hb dX0_writeHeader_71 (by decide) ?_
    refine lv_goto (tgt := 78) hx hb dX0_writeHeader_73 (by decide) ?_
    exact wX0_writeHeader_78 C hN hK hA hE hf hP hD hS (lv_sub hl [0, 1, 2, 3] rfl)
set_option maxHeartbeats 4000000 in
set_option maxRecDepth 100000 in
theorem mX0_writeHeader (l : Launch) (D : va_G) (cI : ClassId) (sz : Nat) (h_t h_t_colours h_p h_p_pixels h_f h_f_bytes : Nat) (t_known : Int32) (t_depth : Int32) (t_packing : Int32) (t_isUpward : Int32) (t_column : Int32) (t_up : Int32) (t_colours : Nat → Int32) (p_wide : Int32) (p_high : Int32) (p_pixels : Nat → Int32) (f_size : Int32) (f_bytes : Nat → Int32) (v1 : Int32) (zf_size : Int32) (zf_bytes : Nat → Int32) (hf : fX0_writeHeader t_known p_wide p_high f_size f_bytes v1 = some (zf_size, zf_bytes)) : Met l yX0_writeHeader wsX0_writeHeader rmX0_writeHeader (va_Pc [.ref h_t, .ref h_p, .int v1, .ref h_f] (zP D [(cI, .int)] (zwX0 cI h_t h_t_colours t_known t_depth t_packing t_isUpward t_column t_up t_colours ++ zwX5 cI h_p h_p_pixels p_wide p_high p_pixels ++ zwX2 cI h_f h_f_bytes f_size f_bytes) sz)) (zQv D (zwX0 cI h_t h_t_colours t_known t_depth t_packing t_isUpward t_column t_up t_colours ++ zwX5 cI h_p h_p_pixels p_wide p_high p_pixels ++ zwX2 cI h_f h_f_bytes f_size f_bytes) sz (zwX0 cI h_t h_t_colours t_known t_depth t_packing t_isUpward t_column t_up t_colours ++ zwX5 cI h_p h_p_pixels p_wide p_high p_pixels ++ zwX2 cI h_f h_f_bytes zf_size zf_bytes)) 0 0 (va_A (zwX0 cI h_t h_t_colours t_known t_depth t_packing t_isUpward t_column t_up t_colours ++ zwX5 cI h_p h_p_pixels p_wide p_high p_pixels ++ zwX2 cI h_f h_f_bytes f_size f_bytes) sz) := by
  refine Met.ofW (cc := cX0_writeHeader) (maxL := 4) (ret := none) (by decide) rfl ?_
  intro p e s m args below meth c s₁ B hml hv
  obtain ⟨rfl, hsz, hP, hK, hD0, hN⟩ := hv
  subst hsz
  have C : CallFix p m c cX0_writeHeader 4 s [.ref h_t, .ref h_p, .int v1, .ref h_f].toArray wsX0_writeHeader RX0 := ⟨B.exec, B.bytes, hml, findClass_of_methodNamed B.named, atoms_spec (ws := wsX0_writeHeader) B.pre⟩
  have hl := lv_entry ([.ref h_t, .ref h_p, .int v1, .ref h_f]) (n := 4) (Nat.le_of_ble_eq_true rfl)
  rw [lg_entry_eq]
  exact wX0_writeHeader_0 (A := va_A (zwX0 cI h_t h_t_colours t_known t_depth t_packing t_isUpward t_column t_up t_colours ++ zwX5 cI h_p h_p_pixels p_wide p_high p_pixels ++ zwX2 cI h_f h_f_bytes f_size f_bytes) s.heap.size) C hN hK (fun q h => Or.inr h) (fun H locs pc ls d hP hD hS => zend_v C.1 C.2.1 B.returns B.notSynchronized d hP hD hS) hf hP hD0.self va_S.rf hl
def rmX0_writeLength : Room := { frames := 0, cells := 0, slots := 0, locals := 0 }
theorem iX0_writeLength_X2 : ∀ w ∈ u_ws RX2 TX2 2, w ∈ wsX0_writeLength := by decide +kernel
set_option maxHeartbeats 4000000 in
set_option maxRecDepth 100000 in
theorem wX0_writeLength_0 {p : Program} {l : Launch} {e : Env} {s : State} {m : MethodId} {args : Array Value} {below : List Frame} {meth : Method} {c : Code} {D : va_G} {A : Nat → Prop} {Q : State → Prop} {cI : ClassId} {h_f h_f_bytes : Nat} {f_size : Int32} {zf_bytes : Nat → Int32} (C : CallFix p m c cX0_writeLength 1 s args wsX0_writeLength RX0) (hN : zN s) (hK : va_K D vwCl [(cI, .int)] s) (hA : ∀ q, s.heap.size ≤ q → A q) (hE : zEv p l e rmX0_writeLength s m args below meth c cX0_writeLength D A Q (zwX2 cI h_f h_f_bytes f_size zf_bytes)) {f_bytes : Nat → Int32} {H : Heap} {locs : List Loc} {ls : Array Slot} : fX0_writeLength f_size f_bytes = some zf_bytes → va_P D vwCl (zwX2 cI h_f h_f_bytes f_size f_bytes) H → va_D A (zwX2 cI h_f h_f_bytes f_size f_bytes) → va_S A s.heap H locs → lv_has ls 1 [(0, .ref h_f)] → W p l e rmX0_writeLength s m args below meth c H locs 0 0 Q (F0 m 0 ls []) := by
  intro hf hP hD hS hl
  obtain ⟨hx, hb, hml, hown, hts⟩ := id C
  unfold fX0_writeLength at hf
  refine lv_aload_n hx hb dX0_writeLength_0 rfl (lv_at hl 0 rfl) ?_
  refine va_getN (D := D) (ci := 2) (v := .ref h_f_bytes) (C := RX2) (T := TX2) (N := 2) hx hb hts iX0_writeLength_X2 hown hK hP 0 rfl rfl 0 (by decide) (hN.at 14 rfl) (fun _ h9 => h9) rfl dX0_writeLength_1 ?_
  refine lv_iconst (v := 2) hx hb dX0_writeLength_4 (by decide) ?_
  refine lv_aload_n hx hb dX0_writeLength_5 rfl (lv_at hl 0 rfl) ?_
  refine va_getN (D := D) (ci := 2) (v := .int f_size) (C := RX2) (T := TX2) (N := 2) hx hb hts iX0_writeLength_X2 hown hK hP 0 rfl rfl 1 (by decide) (hN.at 18 rfl) (fun _ h9 => h9) rfl dX0_writeLength_6 ?_
  refine lv_sipush (v := 255) hx hb dX0_writeLength_9 (by decide) ?_
  refine lv_iand hx hb dX0_writeLength_12 ?_
  obtain ⟨hg2, g1, eg1, hf⟩ := zwr_in hf
  refine va_iast hx hb hK hP hD hS 1 0 rfl rfl hg2 dX0_writeLength_13 (fun H locs hP hD hS => ?_)
  replace hP : va_P D vwCl (zwX2 cI h_f h_f_bytes f_size g1) H := by rw [← eg1]; exact hP
  replace hD : va_D A (zwX2 cI h_f h_f_bytes f_size g1) := by rw [← eg1]; exact hD
  clear eg1
  refine lv_aload_n hx hb dX0_writeLength_14 rfl (lv_at hl 0 rfl) ?_
  refine va_getN (D := D) (ci := 2) (v := .ref h_f_bytes) (C := RX2) (T := TX2) (N := 2) hx hb hts iX0_writeLength_X2 hown hK hP 0 rfl rfl 0 (by decide) (hN.at 14 rfl) (fun _ h9 => h9) rfl dX0_writeLength_15 ?_
  refine lv_iconst (v := 3) hx hb dX0_writeLength_18 (by decide) ?_
  refine lv_aload_n hx hb dX0_writeLength_19 rfl (lv_at hl 0 rfl) ?_
  refine va_getN (D := D) (ci := 2) (v := .int f_size) (C := RX2) (T := TX2) (N := 2) hx hb hts iX0_writeLength_X2 hown hK hP 0 rfl rfl 1 (by decide) (hN.at 18 rfl) (fun _ h9 => h9) rfl dX0_writeLength_20 ?_
  refine lv_bipush (v := 8) hx hb dX0_writeLength_23 (by decide) ?_
  refine lv_iushr (v := zushr f_size 8) hx hb dX0_writeLength_25 rfl ?_
  obtain ⟨hg4, g3, eg3, hf⟩ := zwr_in hf
  refine va_iast hx hb hK hP hD hS 1 0 rfl rfl hg4 dX0_writeLength_26 (fun H locs hP hD hS => ?_)
  replace hP : va_P D vwCl (zwX2 cI h_f h_f_bytes f_size g3) H := by rw [← eg3]; exact hP
  replace hD : va_D A (zwX2 cI h_f h_f_bytes f_size g3) := by rw [← eg3]; exact hD
  clear eg3
  cases hf
  exact hE _ _ _ _ dX0_writeLength_27 hP hD hS
set_option maxHeartbeats 4000000 in
set_option maxRecDepth 100000 in
theorem mX0_writeLength (l : Launch) (D : va_G) (cI : ClassId) (sz : Nat) (h_f h_f_bytes : Nat) (f_size : Int32) (f_bytes : Nat → Int32) (zf_bytes : Nat → Int32) (hf : fX0_writeLength f_size f_bytes = some zf_bytes) : Met l yX0_writeLength wsX0_writeLength rmX0_writeLength (va_Pc [.ref h_f] (zP D [(cI, .int)] (zwX2 cI h_f h_f_bytes f_size f_bytes) sz)) (zQv D (zwX2 cI h_f h_f_bytes f_size f_bytes) sz (zwX2 cI h_f h_f_bytes f_size zf_bytes)) 0 0 (va_A (zwX2 cI h_f h_f_bytes f_size f_bytes) sz) := by
  refine Met.ofW (cc := cX0_writeLength) (maxL := 1) (ret := none) (by decide) rfl ?_
  intro p e s m args below meth c s₁ B hml hv
  obtain ⟨rfl, hsz, hP, hK, hD0, hN⟩ := hv
  subst hsz
  have C : CallFix p m c cX0_writeLength 1 s [.ref h_f].toArray wsX0_writeLength RX0 := ⟨B.exec, B.bytes, hml, findClass_of_methodNamed B.named, atoms_spec (ws := wsX0_writeLength) B.pre⟩
  have hl := lv_entry ([.ref h_f]) (n := 1) (Nat.le_of_ble_eq_true rfl)
  rw [lg_entry_eq]
  exact wX0_writeLength_0 (A := va_A (zwX2 cI h_f h_f_bytes f_size f_bytes) s.heap.size) C hN hK (fun q h => Or.inr h) (fun H locs pc ls d hP hD hS => zend_v C.1 C.2.1 B.returns B.notSynchronized d hP hD hS) hf hP hD0.self va_S.rf hl
def rmX0_writePlainRow : Room := { frames := 2, cells := 0, slots := 0, locals := 43 }
theorem iX0_writePlainRow_X5 : ∀ w ∈ u_ws RX5 TX5 3, w ∈ wsX0_writePlainRow := by decide +kernel
theorem qX0_writePlainRow_X0_bytesToFour_89 {args : Array Value} {s : State} (hts : ∀ w ∈ wsX0_writePlainRow, w.before args s = true) : CallB rmX0_writePlainRow s args RX0 89 yX0_bytesToFour cX0_bytesToFour 1 (some .int) wsX0_bytesToFour rmX0_bytesToFour 0 0 1 ∧ (Cond.static yX0_bytesToFour).before args s = true := va_cwS 1 hts gX0_writePlainRow_X0_bytesToFour rfl rfl rfl (by decide +kernel) ⟨Nat.le_of_ble_eq_true rfl, Nat.le_of_ble_eq_true rfl⟩
theorem qX0_writePlainRow_X2_appendBlueGreenRed_39 {args : Array Value} {s : State} (hts : ∀ w ∈ wsX0_writePlainRow, w.before args s = true) : CallW rmX0_writePlainRow s args RX0 RX2 39 yX2_appendBlueGreenRed cX2_appendBlueGreenRed 2 none wsX2_appendBlueGreenRed rmX2_appendBlueGreenRed 0 0 1 := cwV 1 hts gX0_writePlainRow_X2_appendBlueGreenRed rfl rfl rfl (by decide +kernel) ⟨Nat.le_of_ble_eq_true rfl, Nat.le_of_ble_eq_true rfl⟩
theorem qX0_writePlainRow_X2_appendZeros_70 {args : Array Value} {s : State} (hts : ∀ w ∈ wsX0_writePlainRow, w.before args s = true) : CallW rmX0_writePlainRow s args RX0 RX2 70 yX2_appendZeros cX2_appendZeros 3 none wsX2_appendZeros rmX2_appendZeros 0 0 1 := cwV 1 hts gX0_writePlainRow_X2_appendZeros rfl rfl rfl (by decide +kernel) ⟨Nat.le_of_ble_eq_true rfl, Nat.le_of_ble_eq_true rfl⟩
theorem qX0_writePlainRow_X5_at_86 {args : Array Value} {s : State} (hts : ∀ w ∈ wsX0_writePlainRow, w.before args s = true) : CallW rmX0_writePlainRow s args RX0 RX5 86 yX5_at cX5_at 3 (some .int) wsX5_at rmX5_at 0 0 2 := cwV 2 hts gX0_writePlainRow_X5_at rfl rfl rfl (by decide +kernel) ⟨Nat.le_of_ble_eq_true rfl, Nat.le_of_ble_eq_true rfl⟩
set_option maxHeartbeats 4000000 in
set_option maxRecDepth 100000 in
theorem wX0_writePlainRow_2 {p : Program} {l : Launch} {e : Env} {s : State} {m : MethodId} {args : Array Value} {below : List Frame} {meth : Method} {c : Code} {D : va_G} {A : Nat → Prop} {Q : State → Prop} {cI : ClassId} {h_p h_p_pixels h_f h_f_bytes : Nat} {p_wide : Int32} {p_high : Int32} {p_pixels : Nat → Int32} {zf_size : Int32} {zf_bytes : Nat → Int32} (C : CallFix p m c cX0_writePlainRow 4 s args wsX0_writePlainRow RX0) (hN : zN s) (hK : va_K D vwCl [(cI, .int)] s) (hA : ∀ q, s.heap.size ≤ q → A q) (hE : zEv p l e rmX0_writePlainRow s m args below meth c cX0_writePlainRow D A Q (zwX5 cI h_p h_p_pixels p_wide p_high p_pixels ++ zwX2 cI h_f h_f_bytes zf_size zf_bytes)) (n : Nat) : ∀ {f_size : Int32} {f_bytes : Nat → Int32} {l1 : Int32} {l3 : Int32} {H : Heap} {locs : List Loc} {ls : Array Slot}, fX0_writePlainRow_2 n p_wide p_pixels f_size f_bytes l1 l3 = some (zf_size, zf_bytes) → va_P D vwCl (zwX5 cI h_p h_p_pixels p_wide p_high p_pixels ++ zwX2 cI h_f h_f_bytes f_size f_bytes) H → va_D A (zwX5 cI h_p h_p_pixels p_wide p_high p_pixels ++ zwX2 cI h_f h_f_bytes f_size f_bytes) → va_S A s.heap H locs → lv_has ls 4 [(0, .ref h_p), (1, .int l1), (2, .ref h_f), (3, .int l3)] → W p l e rmX0_writePlainRow s m args below meth c H locs 0 0 Q (F0 m 2 ls []) := by
  obtain ⟨hx, hb, hml, hown, hts⟩ := id C
  induction n with
  | zero =>
    intro f_size f_bytes l1 l3 H locs ls hf
    cases hf
  | succ n hr_2 =>
    intro f_size f_bytes l1 l3 H locs ls hf hP hD hS hl
    rw [fX0_writePlainRow_2_s] at hf
    refine lv_iload_n hx hb dX0_writePlainRow_2 rfl (lv_at hl 3 rfl) ?_
    refine lv_aload_n hx hb dX0_writePlainRow_3 rfl (lv_at hl 0 rfl) ?_
    refine va_getN (D := D) (ci := 4) (v := .int p_wide) (C := RX5) (T := TX5) (N := 3) hx hb hts iX0_writePlainRow_X5 hown hK hP 0 rfl rfl 1 (by decide) (hN.at 7 rfl) (fun _ h9 => h9) rfl dX0_writePlainRow_4 ?_
    refine lv_icmp_ge (tgt := 26) hx hb dX0_writePlainRow_7 (by decide) (fun c1 => ?_) (fun c1 => ?_)
    · replace hf := zif_t hf c1
      refine lv_aload_n hx hb dX0_writePlainRow_26 rfl (lv_at hl 2 rfl) ?_
      refine lv_iconst (v := 3) hx hb dX0_writePlainRow_27 (by decide) ?_
      refine lv_aload_n hx hb dX0_writePlainRow_28 rfl (lv_at hl 0 rfl) ?_
      refine va_getN (D := D) (ci := 4) (v := .int p_wide) (C := RX5) (T := TX5) (N := 3) hx hb hts iX0_writePlainRow_X5 hown hK hP 0 rfl rfl 1 (by decide) (hN.at 7 rfl) (fun _ h9 => h9) rfl dX0_writePlainRow_29 ?_
      refine lv_imul hx hb dX0_writePlainRow_32 ?_
      obtain ⟨r2, hc3, hf⟩ := zb1_in hf
      refine zc_i (va_runS (As := [.int (3 * p_wide)]) (rest := [.ref h_f]) C (mX0_bytesToFour l D cI H.size (3 * p_wide) r2 hc3) (qX0_writePlainRow_X0_bytesToFour_89 hts) ⟨zP_blind, zpre hK hN hP hD [] rfl rfl⟩ rfl rfl hl.1 rfl (lv_room (Nat.le_of_ble_eq_true rfl)) dX0_writePlainRow_33 ⟨Nat.zero_le _, Nat.zero_le _⟩) hP hD hS hA [] [0, 1, 2, 3] [0, 1, 2, 3] (ws' := zwX5 cI h_p h_p_pixels p_wide p_high p_pixels ++ zwX2 cI h_f h_f_bytes f_size f_bytes) rfl rfl rfl rfl rfl rfl (fun H locs hP hD hS => ?_)
      obtain ⟨u4, u5, hc6, hf⟩ := zb2_in hf
      refine zc_v (va_runV (As := [.int r2]) (rest := []) C (mX2_appendZeros l D cI H.size h_f h_f_bytes f_size f_bytes r2 u4 u5 hc6) (qX0_writePlainRow_X2_appendZeros_70 hts) ⟨zP_blind, va_recv hK hP (ci := 2) (q0 := 2) rfl rfl, zpre hK hN hP hD [2, 3] rfl rfl⟩ rfl rfl hl.1 rfl (lv_room (Nat.le_of_ble_eq_true rfl)) dX0_writePlainRow_36 ⟨Nat.zero_le _, Nat.zero_le _⟩) hP hD hS hA [2, 3] [0, 1] [0, 1, 2, 3] (ws' := zwX5 cI h_p h_p_pixels p_wide p_high p_pixels ++ zwX2 cI h_f h_f_bytes u4 u5) rfl rfl rfl rfl rfl rfl (fun H locs hP hD hS => ?_)
      cases hf
      exact hE _ _ _ _ dX0_writePlainRow_39 hP hD hS
    · replace hf := zif_f hf c1
      refine lv_aload_n hx hb dX0_writePlainRow_10 rfl (lv_at hl 2 rfl) ?_
      refine lv_aload_n hx hb dX0_writePlainRow_11 rfl (lv_at hl 0 rfl) ?_
      refine lv_iload_n hx hb dX0_writePlainRow_12 rfl (lv_at hl 3 rfl) ?_
      refine lv_iload_n hx hb dX0_writePlainRow_13 rfl (lv_at hl 1 rfl) ?_
      obtain ⟨r7, hc8, hf⟩ := zb1_in hf
      refine zc_i (va_runV (As := [.int l3, .int l1]) (rest := [.ref h_f]) C (mX5_at l D cI H.size h_p h_p_pixels p_wide p_high p_pixels l3 l1 r7 hc8) (qX0_writePlainRow_X5_at_86 hts) ⟨zP_blind, va_recv hK hP (ci := 4) (q0 := 0) rfl rfl, zpre hK hN hP hD [0, 1] rfl rfl⟩ rfl rfl hl.1 rfl (lv_room (Nat.le_of_ble_eq_true rfl)) dX0_writePlainRow_14 ⟨Nat.zero_le _, Nat.zero_le _⟩) hP hD hS hA [0, 1] [2, 3] [2, 3, 0, 1] (ws' := zwX5 cI h_p h_p_pixels p_wide p_high p_pixels ++ zwX2 cI h_f h_f_bytes f_size f_bytes) rfl rfl rfl rfl rfl rfl (fun H locs hP hD hS => ?_)
      obtain ⟨u9, u10, hc11, hf⟩ := zb2_in hf
      refine zc_v (va_runV (As := [.int r7]) (rest := []) C (mX2_appendBlueGreenRed l D cI H.size h_f h_f_bytes f_size f_bytes r7 u9 u10 hc11) (qX0_writePlainRow_X2_appendBlueGreenRed_39 hts) ⟨zP_blind, va_recv hK hP (ci := 2) (q0 := 2) rfl rfl, zpre hK hN hP hD [2, 3] rfl rfl⟩ rfl rfl hl.1 rfl (lv_room (Nat.le_of_ble_eq_true rfl)) dX0_writePlainRow_17 ⟨Nat.zero_le _, Nat.zero_le _⟩) hP hD hS hA [2, 3] [0, 1] [0, 1, 2, 3] (ws' := zwX5 cI h_p h_p_pixels p_wide p_high p_pixels ++ zwX2 cI h_f h_f_bytes u9 u10) rfl rfl rfl rfl rfl rfl (fun H locs hP hD hS => ?_)
      obtain ⟨x12, ex12⟩ : ∃ y : Int32, y = l3 + 1 := ⟨_, rfl⟩
      replace hf := zlet_in hf ex12
      refine lv_iinc (v := x12) (lv' := [(3, .int x12), (0, .ref h_p), (1, .int l1), (2, .ref h_f)]) hx hb dX0_writePlainRow_20 hl (k := 3) rfl (by rw [ex12]; rfl) (by decide) rfl (fun ls hl => ?_)
      clear ex12
      refine lv_goto (tgt := 2) hx hb dX0_writePlainRow_23 (by decide) ?_
      exact hr_2 hf hP hD hS (lv_sub hl [1, 2, 3, 0] rfl)
set_option maxHeartbeats 4000000 in
set_option maxRecDepth 100000 in
theorem wX0_writePlainRow_0 {p : Program} {l : Launch} {e : Env} {s : State} {m : MethodId} {args : Array Value} {below : List Frame} {meth : Method} {c : Code} {D : va_G} {A : Nat → Prop} {Q : State → Prop} {cI : ClassId} {h_p h_p_pixels h_f h_f_bytes : Nat} {p_wide : Int32} {p_high : Int32} {p_pixels : Nat → Int32} {zf_size : Int32} {zf_bytes : Nat → Int32} (C : CallFix p m c cX0_writePlainRow 4 s args wsX0_writePlainRow RX0) (hN : zN s) (hK : va_K D vwCl [(cI, .int)] s) (hA : ∀ q, s.heap.size ≤ q → A q) (hE : zEv p l e rmX0_writePlainRow s m args below meth c cX0_writePlainRow D A Q (zwX5 cI h_p h_p_pixels p_wide p_high p_pixels ++ zwX2 cI h_f h_f_bytes zf_size zf_bytes)) {f_size : Int32} {f_bytes : Nat → Int32} {v1 : Int32} {H : Heap} {locs : List Loc} {ls : Array Slot} : fX0_writePlainRow p_wide p_pixels f_size f_bytes v1 = some (zf_size, zf_bytes) → va_P D vwCl (zwX5 cI h_p h_p_pixels p_wide p_high p_pixels ++ zwX2 cI h_f h_f_bytes f_size f_bytes) H → va_D A (zwX5 cI h_p h_p_pixels p_wide p_high p_pixels ++ zwX2 cI h_f h_f_bytes f_size f_bytes) → va_S A s.heap H locs → lv_has ls 4 [(0, .ref h_p), (1, .int v1), (2, .ref h_f)] → W p l e rmX0_writePlainRow s m args below meth c H locs 0 0 Q (F0 m 0 ls []) := by
  intro hf hP hD hS hl
  obtain ⟨hx, hb, hml, hown, hts⟩ := id C
  unfold fX0_writePlainRow at hf
  refine lv_iconst (v := 0) hx hb dX0_writePlainRow_0 (by decide) ?_
  refine lv_istore_n (lv' := [(3, .int 0), (0, .ref h_p), (1, .int v1), (2, .ref h_f)]) hx hb dX0_writePlainRow_1 rfl hl (by decide) rfl (fun ls hl => ?_)
  exact wX0_writePlainRow_2 C hN hK hA hE 1000 hf hP hD hS (lv_sub hl [1, 2, 3, 0] rfl)
set_option maxHeartbeats 4000000 in
set_option maxRecDepth 100000 in
theorem mX0_writePlainRow (l : Launch) (D : va_G) (cI : ClassId) (sz : Nat) (h_p h_p_pixels h_f h_f_bytes : Nat) (p_wide : Int32) (p_high : Int32) (p_pixels : Nat → Int32) (f_size : Int32) (f_bytes : Nat → Int32) (v1 : Int32) (zf_size : Int32) (zf_bytes : Nat → Int32) (hf : fX0_writePlainRow p_wide p_pixels f_size f_bytes v1 = some (zf_size, zf_bytes)) : Met l yX0_writePlainRow wsX0_writePlainRow rmX0_writePlainRow (va_Pc [.ref h_p, .int v1, .ref h_f] (zP D [(cI, .int)] (zwX5 cI h_p h_p_pixels p_wide p_high p_pixels ++ zwX2 cI h_f h_f_bytes f_size f_bytes) sz)) (zQv D (zwX5 cI h_p h_p_pixels p_wide p_high p_pixels ++ zwX2 cI h_f h_f_bytes f_size f_bytes) sz (zwX5 cI h_p h_p_pixels p_wide p_high p_pixels ++ zwX2 cI h_f h_f_bytes zf_size zf_bytes)) 0 0 (va_A (zwX5 cI h_p h_p_pixels p_wide p_high p_pixels ++ zwX2 cI h_f h_f_bytes f_size f_bytes) sz) := by
  refine Met.ofW (cc := cX0_writePlainRow) (maxL := 4) (ret := none) (by decide) rfl ?_
  intro p e s m args below meth c s₁ B hml hv
  obtain ⟨rfl, hsz, hP, hK, hD0, hN⟩ := hv
  subst hsz
  have C : CallFix p m c cX0_writePlainRow 4 s [.ref h_p, .int v1, .ref h_f].toArray wsX0_writePlainRow RX0 := ⟨B.exec, B.bytes, hml, findClass_of_methodNamed B.named, atoms_spec (ws := wsX0_writePlainRow) B.pre⟩
  have hl := lv_entry ([.ref h_p, .int v1, .ref h_f]) (n := 4) (Nat.le_of_ble_eq_true rfl)
  rw [lg_entry_eq]
  exact wX0_writePlainRow_0 (A := va_A (zwX5 cI h_p h_p_pixels p_wide p_high p_pixels ++ zwX2 cI h_f h_f_bytes f_size f_bytes) s.heap.size) C hN hK (fun q h => Or.inr h) (fun H locs pc ls d hP hD hS => zend_v C.1 C.2.1 B.returns B.notSynchronized d hP hD hS) hf hP hD0.self va_S.rf hl
def rmX0_writePackedRow : Room := { frames := 1, cells := 0, slots := 0, locals := 22 }
theorem iX0_writePackedRow_X5 : ∀ w ∈ u_ws RX5 TX5 3, w ∈ wsX0_writePackedRow := by decide +kernel
theorem qX0_writePackedRow_X0_numberOf_67 {args : Array Value} {s : State} (hts : ∀ w ∈ wsX0_writePackedRow, w.before args s = true) : CallW rmX0_writePackedRow s args RX0 RX0 67 yX0_numberOf cX0_numberOf 3 (some .int) wsX0_numberOf rmX0_numberOf 0 0 1 := cwV 1 hts gX0_writePackedRow_X0_numberOf rfl rfl rfl (by decide +kernel) ⟨Nat.le_of_ble_eq_true rfl, Nat.le_of_ble_eq_true rfl⟩
theorem qX0_writePackedRow_X2_append_43 {args : Array Value} {s : State} (hts : ∀ w ∈ wsX0_writePackedRow, w.before args s = true) : CallW rmX0_writePackedRow s args RX0 RX2 43 yX2_append cX2_append 2 (some .boolean) wsX2_append rmX2_append 0 0 1 := cwV 1 hts gX0_writePackedRow_X2_append rfl rfl rfl (by decide +kernel) ⟨Nat.le_of_ble_eq_true rfl, Nat.le_of_ble_eq_true rfl⟩
theorem qX0_writePackedRow_X5_at_86 {args : Array Value} {s : State} (hts : ∀ w ∈ wsX0_writePackedRow, w.before args s = true) : CallW rmX0_writePackedRow s args RX0 RX5 86 yX5_at cX5_at 3 (some .int) wsX5_at rmX5_at 0 0 2 := cwV 2 hts gX0_writePackedRow_X5_at rfl rfl rfl (by decide +kernel) ⟨Nat.le_of_ble_eq_true rfl, Nat.le_of_ble_eq_true rfl⟩
set_option maxHeartbeats 4000000 in
set_option maxRecDepth 100000 in
theorem wX0_writePackedRow_95 {p : Program} {l : Launch} {e : Env} {s : State} {m : MethodId} {args : Array Value} {below : List Frame} {meth : Method} {c : Code} {D : va_G} {A : Nat → Prop} {Q : State → Prop} {cI : ClassId} {h_t h_t_colours h_p h_p_pixels h_f h_f_bytes : Nat} {t_known : Int32} {t_depth : Int32} {t_packing : Int32} {t_isUpward : Int32} {t_column : Int32} {t_up : Int32} {t_colours : Nat → Int32} {p_wide : Int32} {p_high : Int32} {p_pixels : Nat → Int32} {zf_size : Int32} {zf_bytes : Nat → Int32} (C : CallFix p m c cX0_writePackedRow 7 s args wsX0_writePackedRow RX0) (hN : zN s) (hK : va_K D vwCl [(cI, .int)] s) (hA : ∀ q, s.heap.size ≤ q → A q) (hE : zEv p l e rmX0_writePackedRow s m args below meth c cX0_writePackedRow D A Q (zwX0 cI h_t h_t_colours t_known t_depth t_packing t_isUpward t_column t_up t_colours ++ zwX5 cI h_p h_p_pixels p_wide p_high p_pixels ++ zwX2 cI h_f h_f_bytes zf_size zf_bytes)) {f_size : Int32} {f_bytes : Nat → Int32} {l2 : Int32} {l4 : Int32} {l5 : Int32} {k1 : Int32} {H : Heap} {locs : List Loc} {ls : Array Slot} : fX0_writePackedRow_95 f_size f_bytes k1 = some (zf_size, zf_bytes) → va_P D vwCl (zwX0 cI h_t h_t_colours t_known t_depth t_packing t_isUpward t_column t_up t_colours ++ zwX5 cI h_p h_p_pixels p_wide p_high p_pixels ++ zwX2 cI h_f h_f_bytes f_size f_bytes) H → va_D A (zwX0 cI h_t h_t_colours t_known t_depth t_packing t_isUpward t_column t_up t_colours ++ zwX5 cI h_p h_p_pixels p_wide p_high p_pixels ++ zwX2 cI h_f h_f_bytes f_size f_bytes) → va_S A s.heap H locs → lv_has ls 7 [(0, .ref h_t), (1, .ref h_p), (2, .int l2), (3, .ref h_f), (4, .int l4), (5, .int l5)] → W p l e rmX0_writePackedRow s m args below meth c H locs 0 0 Q (F0 m 95 ls [.int k1, .ref h_f]) := by
  intro hf hP hD hS hl
  obtain ⟨hx, hb, hml, hown, hts⟩ := id C
  unfold fX0_writePackedRow_95 at hf
  obtain ⟨r1, u2, u3, hc4, hf⟩ := zb3_in hf
  refine zc_i (va_runV (As := [.int k1]) (rest := []) C (mX2_append l D cI H.size h_f h_f_bytes f_size f_bytes k1 r1 u2 u3 hc4) (qX0_writePackedRow_X2_append_43 hts) ⟨zP_blind, va_recv hK hP (ci := 2) (q0 := 4) rfl rfl, zpre hK hN hP hD [4, 5] rfl rfl⟩ rfl rfl hl.1 rfl (lv_room (Nat.le_of_ble_eq_true rfl)) dX0_writePackedRow_95 ⟨Nat.zero_le _, Nat.zero_le _⟩) hP hD hS hA [4, 5] [0, 1, 2, 3] [0, 1, 2, 3, 4, 5] (ws' := zwX0 cI h_t h_t_colours t_known t_depth t_packing t_isUpward t_column t_up t_colours ++ zwX5 cI h_p h_p_pixels p_wide p_high p_pixels ++ zwX2 cI h_f h_f_bytes u2 u3) rfl rfl rfl rfl rfl rfl (fun H locs hP hD hS => ?_)
  refine lv_pop hx hb dX0_writePackedRow_98 rfl ?_
  cases hf
  exact hE _ _ _ _ dX0_writePackedRow_99 hP hD hS
set_option maxHeartbeats 4000000 in
set_option maxRecDepth 100000 in
theorem wX0_writePackedRow_73 {p : Program} {l : Launch} {e : Env} {s : State} {m : MethodId} {args : Array Value} {below : List Frame} {meth : Method} {c : Code} {D : va_G} {A : Nat → Prop} {Q : State → Prop} {cI : ClassId} {h_t h_t_colours h_p h_p_pixels h_f h_f_bytes : Nat} {t_known : Int32} {t_depth : Int32} {t_packing : Int32} {t_isUpward : Int32} {t_column : Int32} {t_up : Int32} {t_colours : Nat → Int32} {p_wide : Int32} {p_high : Int32} {p_pixels : Nat → Int32} {zf_size : Int32} {zf_bytes : Nat → Int32} (C : CallFix p m c cX0_writePackedRow 7 s args wsX0_writePackedRow RX0) (hN : zN s) (hK : va_K D vwCl [(cI, .int)] s) (hA : ∀ q, s.heap.size ≤ q → A q) (hE : zEv p l e rmX0_writePackedRow s m args below meth c cX0_writePackedRow D A Q (zwX0 cI h_t h_t_colours t_known t_depth t_packing t_isUpward t_column t_up t_colours ++ zwX5 cI h_p h_p_pixels p_wide p_high p_pixels ++ zwX2 cI h_f h_f_bytes zf_size zf_bytes)) {rc6 : Int32 → (Nat → Int32) → Int32 → (Nat → Int32) → Int32 → (Nat → Int32) → Int32 → Int32 → Int32 → Option (Int32 × (Nat → Int32))} (hr_6 : ∀ {f_size : Int32} {f_bytes : Nat → Int32} {l2 : Int32} {l4 : Int32} {l5 : Int32} {H : Heap} {locs : List Loc} {ls : Array Slot}, rc6 t_known t_colours p_wide p_pixels f_size f_bytes l2 l4 l5 = some (zf_size, zf_bytes) → va_P D vwCl (zwX0 cI h_t h_t_colours t_known t_depth t_packing t_isUpward t_column t_up t_colours ++ zwX5 cI h_p h_p_pixels p_wide p_high p_pixels ++ zwX2 cI h_f h_f_bytes f_size f_bytes) H → va_D A (zwX0 cI h_t h_t_colours t_known t_depth t_packing t_isUpward t_column t_up t_colours ++ zwX5 cI h_p h_p_pixels p_wide p_high p_pixels ++ zwX2 cI h_f h_f_bytes f_size f_bytes) → va_S A s.heap H locs → lv_has ls 7 [(0, .ref h_t), (1, .ref h_p), (2, .int l2), (3, .ref h_f), (4, .int l4), (5, .int l5)] → W p l e rmX0_writePackedRow s m args below meth c H locs 0 0 Q (F0 m 6 ls [])) {f_size : Int32} {f_bytes : Nat → Int32} {l2 : Int32} {l4 : Int32} {l5 : Int32} {l6 : Int32} {H : Heap} {locs : List Loc} {ls : Array Slot} : fX0_writePackedRow_73 rc6 t_known t_colours p_wide p_pixels f_size f_bytes l2 l4 l5 = some (zf_size, zf_bytes) → va_P D vwCl (zwX0 cI h_t h_t_colours t_known t_depth t_packing t_isUpward t_column t_up t_colours ++ zwX5 cI h_p h_p_pixels p_wide p_high p_pixels ++ zwX2 cI h_f h_f_bytes f_size f_bytes) H → va_D A (zwX0 cI h_t h_t_colours t_known t_depth t_packing t_isUpward t_column t_up t_colours ++ zwX5 cI h_p h_p_pixels p_wide p_high p_pixels ++ zwX2 cI h_f h_f_bytes f_size f_bytes) → va_S A s.heap H locs → lv_has ls 7 [(0, .ref h_t), (1, .ref h_p), (2, .int l2), (3, .ref h_f), (4, .int l4), (5, .int l5), (6, .int l6)] → W p l e rmX0_writePackedRow s m args below meth c H locs 0 0 Q (F0 m 73 ls []) := by
  intro hf hP hD hS hl
  obtain ⟨hx, hb, hml, hown, hts⟩ := id C
  unfold fX0_writePackedRow_73 at hf
  obtain ⟨x1, ex1⟩ : ∃ y : Int32, y = l5 + 1 := ⟨_, rfl⟩
  replace hf := zlet_in hf ex1
  refine lv_iinc (v := x1) (lv' := [(5, .int x1), (0, .ref h_t), (1, .ref h_p), (2, .int l2), (3, .ref h_f), (4, .int l4), (6, .int l6)]) hx hb dX0_writePackedRow_73 hl (k := 5) rfl (by rw [ex1]; rfl) (by decide) rfl (fun ls hl => ?_)
  clear ex1
  refine lv_goto (tgt := 6) hx hb dX0_writePackedRow_76 (by decide) ?_
  exact hr_6 hf hP hD hS (lv_sub hl [1, 2, 3, 4, 5, 0] rfl)
set_option maxHeartbeats 4000000 in
set_option maxRecDepth 100000 in
theorem wX0_writePackedRow_52 {p : Program} {l : Launch} {e : Env} {s : State} {m : MethodId} {args : Array Value} {below : List Frame} {meth : Method} {c : Code} {D : va_G} {A : Nat → Prop} {Q : State → Prop} {cI : ClassId} {h_t h_t_colours h_p h_p_pixels h_f h_f_bytes : Nat} {t_known : Int32} {t_depth : Int32} {t_packing : Int32} {t_isUpward : Int32} {t_column : Int32} {t_up : Int32} {t_colours : Nat → Int32} {p_wide : Int32} {p_high : Int32} {p_pixels : Nat → Int32} {zf_size : Int32} {zf_bytes : Nat → Int32} (C : CallFix p m c cX0_writePackedRow 7 s args wsX0_writePackedRow RX0) (hN : zN s) (hK : va_K D vwCl [(cI, .int)] s) (hA : ∀ q, s.heap.size ≤ q → A q) (hE : zEv p l e rmX0_writePackedRow s m args below meth c cX0_writePackedRow D A Q (zwX0 cI h_t h_t_colours t_known t_depth t_packing t_isUpward t_column t_up t_colours ++ zwX5 cI h_p h_p_pixels p_wide p_high p_pixels ++ zwX2 cI h_f h_f_bytes zf_size zf_bytes)) {rc6 : Int32 → (Nat → Int32) → Int32 → (Nat → Int32) → Int32 → (Nat → Int32) → Int32 → Int32 → Int32 → Option (Int32 × (Nat → Int32))} (hr_6 : ∀ {f_size : Int32} {f_bytes : Nat → Int32} {l2 : Int32} {l4 : Int32} {l5 : Int32} {H : Heap} {locs : List Loc} {ls : Array Slot}, rc6 t_known t_colours p_wide p_pixels f_size f_bytes l2 l4 l5 = some (zf_size, zf_bytes) → va_P D vwCl (zwX0 cI h_t h_t_colours t_known t_depth t_packing t_isUpward t_column t_up t_colours ++ zwX5 cI h_p h_p_pixels p_wide p_high p_pixels ++ zwX2 cI h_f h_f_bytes f_size f_bytes) H → va_D A (zwX0 cI h_t h_t_colours t_known t_depth t_packing t_isUpward t_column t_up t_colours ++ zwX5 cI h_p h_p_pixels p_wide p_high p_pixels ++ zwX2 cI h_f h_f_bytes f_size f_bytes) → va_S A s.heap H locs → lv_has ls 7 [(0, .ref h_t), (1, .ref h_p), (2, .int l2), (3, .ref h_f), (4, .int l4), (5, .int l5)] → W p l e rmX0_writePackedRow s m args below meth c H locs 0 0 Q (F0 m 6 ls [])) {f_size : Int32} {f_bytes : Nat → Int32} {l2 : Int32} {l4 : Int32} {l5 : Int32} {l6 : Int32} {H : Heap} {locs : List Loc} {ls : Array Slot} : fX0_writePackedRow_52 rc6 t_known t_colours p_wide p_pixels f_size f_bytes l2 l4 l5 l6 = some (zf_size, zf_bytes) → va_P D vwCl (zwX0 cI h_t h_t_colours t_known t_depth t_packing t_isUpward t_column t_up t_colours ++ zwX5 cI h_p h_p_pixels p_wide p_high p_pixels ++ zwX2 cI h_f h_f_bytes f_size f_bytes) H → va_D A (zwX0 cI h_t h_t_colours t_known t_depth t_packing t_isUpward t_column t_up t_colours ++ zwX5 cI h_p h_p_pixels p_wide p_high p_pixels ++ zwX2 cI h_f h_f_bytes f_size f_bytes) → va_S A s.heap H locs → lv_has ls 7 [(0, .ref h_t), (1, .ref h_p), (2, .int l2), (3, .ref h_f), (4, .int l4), (5, .int l5), (6, .int l6)] → W p l e rmX0_writePackedRow s m args below meth c H locs 0 0 Q (F0 m 52 ls []) := by
  intro hf hP hD hS hl
  obtain ⟨hx, hb, hml, hown, hts⟩ := id C
  unfold fX0_writePackedRow_52 at hf
  refine lv_aload_n hx hb dX0_writePackedRow_52 rfl (lv_at hl 3 rfl) ?_
  refine lv_iload hx hb dX0_writePackedRow_53 (lv_at hl 4 rfl) ?_
  obtain ⟨r1, u2, u3, hc4, hf⟩ := zb3_in hf
  refine zc_i (va_runV (As := [.int l4]) (rest := []) C (mX2_append l D cI H.size h_f h_f_bytes f_size f_bytes l4 r1 u2 u3 hc4) (qX0_writePackedRow_X2_append_43 hts) ⟨zP_blind, va_recv hK hP (ci := 2) (q0 := 4) rfl rfl, zpre hK hN hP hD [4, 5] rfl rfl⟩ rfl rfl hl.1 rfl (lv_room (Nat.le_of_ble_eq_true rfl)) dX0_writePackedRow_55 ⟨Nat.zero_le _, Nat.zero_le _⟩) hP hD hS hA [4, 5] [0, 1, 2, 3] [0, 1, 2, 3, 4, 5] (ws' := zwX0 cI h_t h_t_colours t_known t_depth t_packing t_isUpward t_column t_up t_colours ++ zwX5 cI h_p h_p_pixels p_wide p_high p_pixels ++ zwX2 cI h_f h_f_bytes u2 u3) rfl rfl rfl rfl rfl rfl (fun H locs hP hD hS => ?_)
  refine lv_pop hx hb dX0_writePackedRow_58 rfl ?_
  refine lv_aload_n hx hb dX0_writePackedRow_59 rfl (lv_at hl 3 rfl) ?_
  refine lv_aload_n hx hb dX0_writePackedRow_60 rfl (lv_at hl 0 rfl) ?_
  refine lv_iload hx hb dX0_writePackedRow_61 (lv_at hl 6 rfl) ?_
  obtain ⟨r5, hc6, hf⟩ := zb1_in hf
  refine zc_i (va_runV (As := [.int l6]) (rest := [.ref h_f]) C (mX0_numberOf l D cI H.size h_t h_t_colours t_known t_depth t_packing t_isUpward t_column t_up t_colours l6 r5 hc6) (qX0_writePackedRow_X0_numberOf_67 hts) ⟨zP_blind, va_recv hK hP (ci := 0) (q0 := 0) rfl rfl, zpre hK hN hP hD [0, 1] rfl rfl⟩ rfl rfl hl.1 rfl (lv_room (Nat.le_of_ble_eq_true rfl)) dX0_writePackedRow_63 ⟨Nat.zero_le _, Nat.zero_le _⟩) hP hD hS hA [0, 1] [2, 3, 4, 5] [4, 5, 0, 1, 2, 3] (ws' := zwX0 cI h_t h_t_colours t_known t_depth t_packing t_isUpward t_column t_up t_colours ++ zwX5 cI h_p h_p_pixels p_wide p_high p_pixels ++ zwX2 cI h_f h_f_bytes u2 u3) rfl rfl rfl rfl rfl rfl (fun H locs hP hD hS => ?_)
  obtain ⟨r7, u8, u9, hc10, hf⟩ := zb3_in hf
  refine zc_i (va_runV (As := [.int r5]) (rest := []) C (mX2_append l D cI H.size h_f h_f_bytes u2 u3 r5 r7 u8 u9 hc10) (qX0_writePackedRow_X2_append_43 hts) ⟨zP_blind, va_recv hK hP (ci := 2) (q0 := 4) rfl rfl, zpre hK hN hP hD [4, 5] rfl rfl⟩ rfl rfl hl.1 rfl (lv_room (Nat.le_of_ble_eq_true rfl)) dX0_writePackedRow_66 ⟨Nat.zero_le _, Nat.zero_le _⟩) hP hD hS hA [4, 5] [0, 1, 2, 3] [0, 1, 2, 3, 4, 5] (ws' := zwX0 cI h_t h_t_colours t_known t_depth t_packing t_isUpward t_column t_up t_colours ++ zwX5 cI h_p h_p_pixels p_wide p_high p_pixels ++ zwX2 cI h_f h_f_bytes u8 u9) rfl rfl rfl rfl rfl rfl (fun H locs hP hD hS => ?_)
  refine lv_pop hx hb dX0_writePackedRow_69 rfl ?_
  refine lv_iconst (v := 0) hx hb dX0_writePackedRow_70 (by decide) ?_
  refine lv_istore (lv' := [(4, .int 0), (0, .ref h_t), (1, .ref h_p), (2, .int l2), (3, .ref h_f), (5, .int l5), (6, .int l6)]) hx hb dX0_writePackedRow_71 hl (by decide) rfl (fun ls hl => ?_)
  exact wX0_writePackedRow_73 C hN hK hA hE hr_6 hf hP hD hS (lv_sub hl [1, 2, 3, 4, 0, 5, 6] rfl)
set_option maxHeartbeats 4000000 in
set_option maxRecDepth 100000 in
theorem wX0_writePackedRow_6 {p : Program} {l : Launch} {e : Env} {s : State} {m : MethodId} {args : Array Value} {below : List Frame} {meth : Method} {c : Code} {D : va_G} {A : Nat → Prop} {Q : State → Prop} {cI : ClassId} {h_t h_t_colours h_p h_p_pixels h_f h_f_bytes : Nat} {t_known : Int32} {t_depth : Int32} {t_packing : Int32} {t_isUpward : Int32} {t_column : Int32} {t_up : Int32} {t_colours : Nat → Int32} {p_wide : Int32} {p_high : Int32} {p_pixels : Nat → Int32} {zf_size : Int32} {zf_bytes : Nat → Int32} (C : CallFix p m c cX0_writePackedRow 7 s args wsX0_writePackedRow RX0) (hN : zN s) (hK : va_K D vwCl [(cI, .int)] s) (hA : ∀ q, s.heap.size ≤ q → A q) (hE : zEv p l e rmX0_writePackedRow s m args below meth c cX0_writePackedRow D A Q (zwX0 cI h_t h_t_colours t_known t_depth t_packing t_isUpward t_column t_up t_colours ++ zwX5 cI h_p h_p_pixels p_wide p_high p_pixels ++ zwX2 cI h_f h_f_bytes zf_size zf_bytes)) (n : Nat) : ∀ {f_size : Int32} {f_bytes : Nat → Int32} {l2 : Int32} {l4 : Int32} {l5 : Int32} {H : Heap} {locs : List Loc} {ls : Array Slot}, fX0_writePackedRow_6 n t_known t_colours p_wide p_pixels f_size f_bytes l2 l4 l5 = some (zf_size, zf_bytes) → va_P D vwCl (zwX0 cI h_t h_t_colours t_known t_depth t_packing t_isUpward t_column t_up t_colours ++ zwX5 cI h_p h_p_pixels p_wide p_high p_pixels ++ zwX2 cI h_f h_f_bytes f_size f_bytes) H → va_D A (zwX0 cI h_t h_t_colours t_known t_depth t_packing t_isUpward t_column t_up t_colours ++ zwX5 cI h_p h_p_pixels p_wide p_high p_pixels ++ zwX2 cI h_f h_f_bytes f_size f_bytes) → va_S A s.heap H locs → lv_has ls 7 [(0, .ref h_t), (1, .ref h_p), (2, .int l2), (3, .ref h_f), (4, .int l4), (5, .int l5)] → W p l e rmX0_writePackedRow s m args below meth c H locs 0 0 Q (F0 m 6 ls []) := by
  obtain ⟨hx, hb, hml, hown, hts⟩ := id C
  induction n with
  | zero =>
    intro f_size f_bytes l2 l4 l5 H locs ls hf
    cases hf
  | succ n hr_6 =>
    intro f_size f_bytes l2 l4 l5 H locs ls hf hP hD hS hl
    rw [fX0_writePackedRow_6_s] at hf
    refine lv_iload hx hb dX0_writePackedRow_6 (lv_at hl 5 rfl) ?_
    refine lv_aload_n hx hb dX0_writePackedRow_8 rfl (lv_at hl 1 rfl) ?_
    refine va_getN (D := D) (ci := 4) (v := .int p_wide) (C := RX5) (T := TX5) (N := 3) hx hb hts iX0_writePackedRow_X5 hown hK hP 2 rfl rfl 1 (by decide) (hN.at 7 rfl) (fun _ h9 => h9) rfl dX0_writePackedRow_9 ?_
    refine lv_icmp_ge (tgt := 79) hx hb dX0_writePackedRow_12 (by decide) (fun c1 => ?_) (fun c1 => ?_)
    · replace hf := zif_t hf c1
      refine lv_aload_n hx hb dX0_writePackedRow_79 rfl (lv_at hl 3 rfl) ?_
      refine lv_iconst (v := 0) hx hb dX0_writePackedRow_80 (by decide) ?_
      obtain ⟨r2, u3, u4, hc5, hf⟩ := zb3_in hf
      refine zc_i (va_runV (As := [.int 0]) (rest := []) C (mX2_append l D cI H.size h_f h_f_bytes f_size f_bytes 0 r2 u3 u4 hc5) (qX0_writePackedRow_X2_append_43 hts) ⟨zP_blind, va_recv hK hP (ci := 2) (q0 := 4) rfl rfl, zpre hK hN hP hD [4, 5] rfl rfl⟩ rfl rfl hl.1 rfl (lv_room (Nat.le_of_ble_eq_true rfl)) dX0_writePackedRow_81 ⟨Nat.zero_le _, Nat.zero_le _⟩) hP hD hS hA [4, 5] [0, 1, 2, 3] [0, 1, 2, 3, 4, 5] (ws' := zwX0 cI h_t h_t_colours t_known t_depth t_packing t_isUpward t_column t_up t_colours ++ zwX5 cI h_p h_p_pixels p_wide p_high p_pixels ++ zwX2 cI h_f h_f_bytes u3 u4) rfl rfl rfl rfl rfl rfl (fun H locs hP hD hS => ?_)
      refine lv_pop hx hb dX0_writePackedRow_84 rfl ?_
      refine lv_aload_n hx hb dX0_writePackedRow_85 rfl (lv_at hl 3 rfl) ?_
      refine lv_iload_n hx hb dX0_writePackedRow_86 rfl (lv_at hl 2 rfl) ?_
      refine lv_if_ne (tgt := 94) hx hb dX0_writePackedRow_87 (by decide) (fun c6 => ?_) (fun c6 => ?_)
      · replace hf := zif_f hf c6
        refine lv_iconst (v := 0) hx hb dX0_writePackedRow_94 (by decide) ?_
        exact wX0_writePackedRow_95 C hN hK hA hE hf hP hD hS (lv_sub hl [0, 1, 2, 3, 4, 5] rfl)
      · replace hf := zif_t hf c6
        refine lv_iconst (v := 1) hx hb dX0_writePackedRow_90 (by decide) ?_
        refine lv_goto (tgt := 95) hx hb dX0_writePackedRow_91 (by decide) ?_
        exact wX0_writePackedRow_95 C hN hK hA hE hf hP hD hS (lv_sub hl [0, 1, 2, 3, 4, 5] rfl)
    · replace hf := zif_f hf c1
      obtain ⟨x7, ex7⟩ : ∃ y : Int32, y = l4 + 1 := ⟨_, rfl⟩
      replace hf := zlet_in hf ex7
      refine lv_iinc (v := x7) (lv' := [(4, .int x7), (0, .ref h_t), (1, .ref h_p), (2, .int l2), (3, .ref h_f), (5, .int l5)]) hx hb dX0_writePackedRow_15 hl (k := 4) rfl (by rw [ex7]; rfl) (by decide) rfl (fun ls hl => ?_)
      clear ex7
      refine lv_aload_n hx hb dX0_writePackedRow_18 rfl (lv_at hl 2 rfl) ?_
      refine lv_iload hx hb dX0_writePackedRow_19 (lv_at hl 5 rfl) ?_
      refine lv_iload_n hx hb dX0_writePackedRow_21 rfl (lv_at hl 3 rfl) ?_
      obtain ⟨r8, hc9, hf⟩ := zb1_in hf
      refine zc_i (va_runV (As := [.int l5, .int l2]) (rest := []) C (mX5_at l D cI H.size h_p h_p_pixels p_wide p_high p_pixels l5 l2 r8 hc9) (qX0_writePackedRow_X5_at_86 hts) ⟨zP_blind, va_recv hK hP (ci := 4) (q0 := 2) rfl rfl, zpre hK hN hP hD [2, 3] rfl rfl⟩ rfl rfl hl.1 rfl (lv_room (Nat.le_of_ble_eq_true rfl)) dX0_writePackedRow_22 ⟨Nat.zero_le _, Nat.zero_le _⟩) hP hD hS hA [2, 3] [0, 1, 4, 5] [0, 1, 4, 5, 2, 3] (ws' := zwX0 cI h_t h_t_colours t_known t_depth t_packing t_isUpward t_column t_up t_colours ++ zwX5 cI h_p h_p_pixels p_wide p_high p_pixels ++ zwX2 cI h_f h_f_bytes f_size f_bytes) rfl rfl rfl rfl rfl rfl (fun H locs hP hD hS => ?_)
      refine lv_istore (lv' := [(6, .int r8), (4, .int x7), (0, .ref h_t), (1, .ref h_p), (2, .int l2), (3, .ref h_f), (5, .int l5)]) hx hb dX0_writePackedRow_25 hl (by decide) rfl (fun ls hl => ?_)
      refine lv_iload hx hb dX0_writePackedRow_27 (lv_at hl 6 rfl) ?_
      refine lv_iconst (v := 1) hx hb dX0_writePackedRow_29 (by decide) ?_
      refine lv_iadd hx hb dX0_writePackedRow_30 ?_
      refine lv_aload_n hx hb dX0_writePackedRow_31 rfl (lv_at hl 3 rfl) ?_
      refine va_getN (D := D) (ci := 4) (v := .int p_wide) (C := RX5) (T := TX5) (N := 3) hx hb hts iX0_writePackedRow_X5 hown hK hP 2 rfl rfl 1 (by decide) (hN.at 7 rfl) (fun _ h9 => h9) rfl dX0_writePackedRow_32 ?_
      refine lv_icmp_eq (tgt := 52) hx hb dX0_writePackedRow_35 (by decide) (fun c10 => ?_) (fun c10 => ?_)
      · replace hf := zif_t hf c10
        exact wX0_writePackedRow_52 C hN hK hA hE hr_6 hf hP hD hS (lv_sub hl [2, 3, 4, 5, 1, 6, 0] rfl)
      · replace hf := zif_f hf c10
        refine lv_aload_n hx hb dX0_writePackedRow_38 rfl (lv_at hl 3 rfl) ?_
        refine lv_iload hx hb dX0_writePackedRow_39 (lv_at hl 6 rfl) ?_
        refine lv_iconst (v := 1) hx hb dX0_writePackedRow_41 (by decide) ?_
        refine lv_iadd hx hb dX0_writePackedRow_42 ?_
        refine lv_iload_n hx hb dX0_writePackedRow_43 rfl (lv_at hl 4 rfl) ?_
        obtain ⟨r11, hc12, hf⟩ := zb1_in hf
        refine zc_i (va_runV (As := [.int (l5 + 1), .int l2]) (rest := []) C (mX5_at l D cI H.size h_p h_p_pixels p_wide p_high p_pixels (l5 + 1) l2 r11 hc12) (qX0_writePackedRow_X5_at_86 hts) ⟨zP_blind, va_recv hK hP (ci := 4) (q0 := 2) rfl rfl, zpre hK hN hP hD [2, 3] rfl rfl⟩ rfl rfl hl.1 rfl (lv_room (Nat.le_of_ble_eq_true rfl)) dX0_writePackedRow_44 ⟨Nat.zero_le _, Nat.zero_le _⟩) hP hD hS hA [2, 3] [0, 1, 4, 5] [0, 1, 4, 5, 2, 3] (ws' := zwX0 cI h_t h_t_colours t_known t_depth t_packing t_isUpward t_column t_up t_colours ++ zwX5 cI h_p h_p_pixels p_wide p_high p_pixels ++ zwX2 cI h_f h_f_bytes f_size f_bytes) rfl rfl rfl rfl rfl rfl (fun H locs hP hD hS => ?_)
        refine lv_iload hx hb dX0_writePackedRow_47 (lv_at hl 0 rfl) ?_
        refine lv_icmp_eq (tgt := 73) hx hb dX0_writePackedRow_49 (by decide) (fun c13 => ?_) (fun c13 => ?_)
        · replace hf := zif_t hf c13
          exact wX0_writePackedRow_73 C hN hK hA hE hr_6 hf hP hD hS (lv_sub hl [2, 3, 4, 5, 1, 6, 0] rfl)
        · replace hf := zif_f hf c13
          exact wX0_writePackedRow_52 C hN hK hA hE hr_6 hf hP hD hS (lv_sub hl [2, 3, 4, 5, 1, 6, 0] rfl)
set_option maxHeartbeats 4000000 in
set_option maxRecDepth 100000 in
theorem wX0_writePackedRow_0 {p : Program} {l : Launch} {e : Env} {s : State} {m : MethodId} {args : Array Value} {below : List Frame} {meth : Method} {c : Code} {D : va_G} {A : Nat → Prop} {Q : State → Prop} {cI : ClassId} {h_t h_t_colours h_p h_p_pixels h_f h_f_bytes : Nat} {t_known : Int32} {t_depth : Int32} {t_packing : Int32} {t_isUpward : Int32} {t_column : Int32} {t_up : Int32} {t_colours : Nat → Int32} {p_wide : Int32} {p_high : Int32} {p_pixels : Nat → Int32} {zf_size : Int32} {zf_bytes : Nat → Int32} (C : CallFix p m c cX0_writePackedRow 7 s args wsX0_writePackedRow RX0) (hN : zN s) (hK : va_K D vwCl [(cI, .int)] s) (hA : ∀ q, s.heap.size ≤ q → A q) (hE : zEv p l e rmX0_writePackedRow s m args below meth c cX0_writePackedRow D A Q (zwX0 cI h_t h_t_colours t_known t_depth t_packing t_isUpward t_column t_up t_colours ++ zwX5 cI h_p h_p_pixels p_wide p_high p_pixels ++ zwX2 cI h_f h_f_bytes zf_size zf_bytes)) {f_size : Int32} {f_bytes : Nat → Int32} {v1 : Int32} {H : Heap} {locs : List Loc} {ls : Array Slot} : fX0_writePackedRow t_known t_colours p_wide p_pixels f_size f_bytes v1 = some (zf_size, zf_bytes) → va_P D vwCl (zwX0 cI h_t h_t_colours t_known t_depth t_packing t_isUpward t_column t_up t_colours ++ zwX5 cI h_p h_p_pixels p_wide p_high p_pixels ++ zwX2 cI h_f h_f_bytes f_size f_bytes) H → va_D A (zwX0 cI h_t h_t_colours t_known t_depth t_packing t_isUpward t_column t_up t_colours ++ zwX5 cI h_p h_p_pixels p_wide p_high p_pixels ++ zwX2 cI h_f h_f_bytes f_size f_bytes) → va_S A s.heap H locs → lv_has ls 7 [(0, .ref h_t), (1, .ref h_p), (2, .int v1), (3, .ref h_f)] → W p l e rmX0_writePackedRow s m args below meth c H locs 0 0 Q (F0 m 0 ls []) := by
  intro hf hP hD hS hl
  obtain ⟨hx, hb, hml, hown, hts⟩ := id C
  unfold fX0_writePackedRow at hf
  refine lv_iconst (v := 0) hx hb dX0_writePackedRow_0 (by decide) ?_
  refine lv_istore (lv' := [(4, .int 0), (0, .ref h_t), (1, .ref h_p), (2, .int v1), (3, .ref h_f)]) hx hb dX0_writePackedRow_1 hl (by decide) rfl (fun ls hl => ?_)
  refine lv_iconst (v := 0) hx hb dX0_writePackedRow_3 (by decide) ?_
  refine lv_istore (lv' := [(5, .int 0), (4, .int 0), (0, .ref h_t), (1, .ref h_p), (2, .int v1), (3, .ref h_f)]) hx hb dX0_writePackedRow_4 hl (by decide) rfl (fun ls hl => ?_)
  exact wX0_writePackedRow_6 C hN hK hA hE 1000 hf hP hD hS (lv_sub hl [2, 3, 4, 5, 1, 0] rfl)
set_option maxHeartbeats 4000000 in
set_option maxRecDepth 100000 in
theorem mX0_writePackedRow (l : Launch) (D : va_G) (cI : ClassId) (sz : Nat) (h_t h_t_colours h_p h_p_pixels h_f h_f_bytes : Nat) (t_known : Int32) (t_depth : Int32) (t_packing : Int32) (t_isUpward : Int32) (t_column : Int32) (t_up : Int32) (t_colours : Nat → Int32) (p_wide : Int32) (p_high : Int32) (p_pixels : Nat → Int32) (f_size : Int32) (f_bytes : Nat → Int32) (v1 : Int32) (zf_size : Int32) (zf_bytes : Nat → Int32) (hf : fX0_writePackedRow t_known t_colours p_wide p_pixels f_size f_bytes v1 = some (zf_size, zf_bytes)) : Met l yX0_writePackedRow wsX0_writePackedRow rmX0_writePackedRow (va_Pc [.ref h_t, .ref h_p, .int v1, .ref h_f] (zP D [(cI, .int)] (zwX0 cI h_t h_t_colours t_known t_depth t_packing t_isUpward t_column t_up t_colours ++ zwX5 cI h_p h_p_pixels p_wide p_high p_pixels ++ zwX2 cI h_f h_f_bytes f_size f_bytes) sz)) (zQv D (zwX0 cI h_t h_t_colours t_known t_depth t_packing t_isUpward t_column t_up t_colours ++ zwX5 cI h_p h_p_pixels p_wide p_high p_pixels ++ zwX2 cI h_f h_f_bytes f_size f_bytes) sz (zwX0 cI h_t h_t_colours t_known t_depth t_packing t_isUpward t_column t_up t_colours ++ zwX5 cI h_p h_p_pixels p_wide p_high p_pixels ++ zwX2 cI h_f h_f_bytes zf_size zf_bytes)) 0 0 (va_A (zwX0 cI h_t h_t_colours t_known t_depth t_packing t_isUpward t_column t_up t_colours ++ zwX5 cI h_p h_p_pixels p_wide p_high p_pixels ++ zwX2 cI h_f h_f_bytes f_size f_bytes) sz) := by
  refine Met.ofW (cc := cX0_writePackedRow) (maxL := 7) (ret := none) (by decide) rfl ?_
  intro p e s m args below meth c s₁ B hml hv
  obtain ⟨rfl, hsz, hP, hK, hD0, hN⟩ := hv
  subst hsz
  have C : CallFix p m c cX0_writePackedRow 7 s [.ref h_t, .ref h_p, .int v1, .ref h_f].toArray wsX0_writePackedRow RX0 := ⟨B.exec, B.bytes, hml, findClass_of_methodNamed B.named, atoms_spec (ws := wsX0_writePackedRow) B.pre⟩
  have hl := lv_entry ([.ref h_t, .ref h_p, .int v1, .ref h_f]) (n := 7) (Nat.le_of_ble_eq_true rfl)
  rw [lg_entry_eq]
  exact wX0_writePackedRow_0 (A := va_A (zwX0 cI h_t h_t_colours t_known t_depth t_packing t_isUpward t_column t_up t_colours ++ zwX5 cI h_p h_p_pixels p_wide p_high p_pixels ++ zwX2 cI h_f h_f_bytes f_size f_bytes) s.heap.size) C hN hK (fun q h => Or.inr h) (fun H locs pc ls d hP hD hS => zend_v C.1 C.2.1 B.returns B.notSynchronized d hP hD hS) hf hP hD0.self va_S.rf hl
def rmX0_write : Room := { frames := 3, cells := 0, slots := 0, locals := 67 }
theorem kX0_write_11 {args : Array Value} {s : State} (h : ∀ w ∈ wsX0_write, w.before args s = true) : (Cond.fieldLink RX0 11 "FourPictureFiles$BitmapFormat" "colours" "[I").before args s = true := h _ (by decide +kernel)
theorem kX0_write_27 {args : Array Value} {s : State} (h : ∀ w ∈ wsX0_write, w.before args s = true) : (Cond.fieldLink RX0 27 "FourPictureFiles$BitmapFormat" "known" "I").before args s = true := h _ (by decide +kernel)
theorem iX0_write_X0 : ∀ w ∈ u_ws RX0 TX0 7, w ∈ wsX0_write := by decide +kernel
theorem iX0_write_X5 : ∀ w ∈ u_ws RX5 TX5 3, w ∈ wsX0_write := by decide +kernel
theorem qX0_write_X0_gatherColours_31 {args : Array Value} {s : State} (hts : ∀ w ∈ wsX0_write, w.before args s = true) : CallW rmX0_write s args RX0 RX0 31 yX0_gatherColours cX0_gatherColours 4 none wsX0_gatherColours rmX0_gatherColours 0 0 1 := cwV 1 hts gX0_write_X0_gatherColours rfl rfl rfl (by decide +kernel) ⟨Nat.le_of_ble_eq_true rfl, Nat.le_of_ble_eq_true rfl⟩
theorem qX0_write_X0_writeHeader_35 {args : Array Value} {s : State} (hts : ∀ w ∈ wsX0_write, w.before args s = true) : CallW rmX0_write s args RX0 RX0 35 yX0_writeHeader cX0_writeHeader 4 none wsX0_writeHeader rmX0_writeHeader 0 0 3 := cwV 3 hts gX0_write_X0_writeHeader rfl rfl rfl (by decide +kernel) ⟨Nat.le_of_ble_eq_true rfl, Nat.le_of_ble_eq_true rfl⟩
theorem qX0_write_X0_writeLength_56 {args : Array Value} {s : State} (hts : ∀ w ∈ wsX0_write, w.before args s = true) : CallB rmX0_write s args RX0 56 yX0_writeLength cX0_writeLength 1 none wsX0_writeLength rmX0_writeLength 0 0 1 ∧ (Cond.static yX0_writeLength).before args s = true := va_cwS 1 hts gX0_write_X0_writeLength rfl rfl rfl (by decide +kernel) ⟨Nat.le_of_ble_eq_true rfl, Nat.le_of_ble_eq_true rfl⟩
theorem qX0_write_X0_writePackedRow_53 {args : Array Value} {s : State} (hts : ∀ w ∈ wsX0_write, w.before args s = true) : CallW rmX0_write s args RX0 RX0 53 yX0_writePackedRow cX0_writePackedRow 7 none wsX0_writePackedRow rmX0_writePackedRow 0 0 3 := cwV 3 hts gX0_write_X0_writePackedRow rfl rfl rfl (by decide +kernel) ⟨Nat.le_of_ble_eq_true rfl, Nat.le_of_ble_eq_true rfl⟩
theorem qX0_write_X0_writePlainRow_50 {args : Array Value} {s : State} (hts : ∀ w ∈ wsX0_write, w.before args s = true) : CallB rmX0_write s args RX0 50 yX0_writePlainRow cX0_writePlainRow 4 none wsX0_writePlainRow rmX0_writePlainRow 0 0 3 ∧ (Cond.static yX0_writePlainRow).before args s = true := va_cwS 3 hts gX0_write_X0_writePlainRow rfl rfl rfl (by decide +kernel) ⟨Nat.le_of_ble_eq_true rfl, Nat.le_of_ble_eq_true rfl⟩
theorem qX0_write_X2_append_43 {args : Array Value} {s : State} (hts : ∀ w ∈ wsX0_write, w.before args s = true) : CallW rmX0_write s args RX0 RX2 43 yX2_append cX2_append 2 (some .boolean) wsX2_append rmX2_append 0 0 1 := cwV 1 hts gX0_write_X2_append rfl rfl rfl (by decide +kernel) ⟨Nat.le_of_ble_eq_true rfl, Nat.le_of_ble_eq_true rfl⟩
theorem qX0_write_X2_appendBlueGreenRed_39 {args : Array Value} {s : State} (hts : ∀ w ∈ wsX0_write, w.before args s = true) : CallW rmX0_write s args RX0 RX2 39 yX2_appendBlueGreenRed cX2_appendBlueGreenRed 2 none wsX2_appendBlueGreenRed rmX2_appendBlueGreenRed 0 0 1 := cwV 1 hts gX0_write_X2_appendBlueGreenRed rfl rfl rfl (by decide +kernel) ⟨Nat.le_of_ble_eq_true rfl, Nat.le_of_ble_eq_true rfl⟩
set_option maxHeartbeats 4000000 in
set_option maxRecDepth 100000 in
theorem wX0_write_92 {p : Program} {l : Launch} {e : Env} {s : State} {m : MethodId} {args : Array Value} {below : List Frame} {meth : Method} {c : Code} {D : va_G} {A : Nat → Prop} {Q : State → Prop} {cI : ClassId} {h_t h_t_colours h_p h_p_pixels h_f h_f_bytes : Nat} {t_depth : Int32} {t_packing : Int32} {t_isUpward : Int32} {t_column : Int32} {t_up : Int32} {p_wide : Int32} {p_high : Int32} {p_pixels : Nat → Int32} {zt_known : Int32} {zt_colours : Nat → Int32} {zf_size : Int32} {zf_bytes : Nat → Int32} (C : CallFix p m c cX0_write 5 s args wsX0_write RX0) (hN : zN s) (hK : va_K D vwCl [(cI, .int)] s) (hA : ∀ q, s.heap.size ≤ q → A q) (hE : zEv p l e rmX0_write s m args below meth c cX0_write D A Q (zwX0 cI h_t h_t_colours zt_known t_depth t_packing t_isUpward t_column t_up zt_colours ++ zwX5 cI h_p h_p_pixels p_wide p_high p_pixels ++ zwX2 cI h_f h_f_bytes zf_size zf_bytes)) {rc65 : Int32 → (Nat → Int32) → Int32 → (Nat → Int32) → Int32 → (Nat → Int32) → Int32 → Int32 → Option (Int32 × (Nat → Int32) × Int32 × (Nat → Int32))} (hr_65 : ∀ {t_known : Int32} {t_colours : Nat → Int32} {f_size : Int32} {f_bytes : Nat → Int32} {l2 : Int32} {l4 : Int32} {H : Heap} {locs : List Loc} {ls : Array Slot}, rc65 t_known t_colours p_wide p_pixels f_size f_bytes l2 l4 = some (zt_known, zt_colours, zf_size, zf_bytes) → va_P D vwCl (zwX0 cI h_t h_t_colours t_known t_depth t_packing t_isUpward t_column t_up t_colours ++ zwX5 cI h_p h_p_pixels p_wide p_high p_pixels ++ zwX2 cI h_f h_f_bytes f_size f_bytes) H → va_D A (zwX0 cI h_t h_t_colours t_known t_depth t_packing t_isUpward t_column t_up t_colours ++ zwX5 cI h_p h_p_pixels p_wide p_high p_pixels ++ zwX2 cI h_f h_f_bytes f_size f_bytes) → va_S A s.heap H locs → lv_has ls 5 [(0, .ref h_t), (1, .ref h_p), (2, .int l2), (3, .ref h_f), (4, .int l4)] → W p l e rmX0_write s m args below meth c H locs 0 0 Q (F0 m 65 ls [])) {t_known : Int32} {t_colours : Nat → Int32} {f_size : Int32} {f_bytes : Nat → Int32} {l2 : Int32} {l4 : Int32} {H : Heap} {locs : List Loc} {ls : Array Slot} : fX0_write_92 rc65 t_known t_colours p_wide p_pixels f_size f_bytes l2 l4 = some (zt_known, zt_colours, zf_size, zf_bytes) → va_P D vwCl (zwX0 cI h_t h_t_colours t_known t_depth t_packing t_isUpward t_column t_up t_colours ++ zwX5 cI h_p h_p_pixels p_wide p_high p_pixels ++ zwX2 cI h_f h_f_bytes f_size f_bytes) H → va_D A (zwX0 cI h_t h_t_colours t_known t_depth t_packing t_isUpward t_column t_up t_colours ++ zwX5 cI h_p h_p_pixels p_wide p_high p_pixels ++ zwX2 cI h_f h_f_bytes f_size f_bytes) → va_S A s.heap H locs → lv_has ls 5 [(0, .ref h_t), (1, .ref h_p), (2, .int l2), (3, .ref h_f), (4, .int l4)] → W p l e rmX0_write s m args below meth c H locs 0 0 Q (F0 m 92 ls []) := by
  intro hf hP hD hS hl
  obtain ⟨hx, hb, hml, hown, hts⟩ := id C
  unfold fX0_write_92 at hf
  obtain ⟨x1, ex1⟩ : ∃ y : Int32, y = l4 + (-1) := ⟨_, rfl⟩
  replace hf := zlet_in hf ex1
  refine lv_iinc (v := x1) (lv' := [(4, .int x1), (0, .ref h_t), (1, .ref h_p), (2, .int l2), (3, .ref h_f)]) hx hb dX0_write_92 hl (k := 4) rfl (by rw [ex1]; rfl) (by decide) rfl (fun ls hl => ?_)
  clear ex1
  refine lv_goto (tgt := 65) hx hb dX0_write_95 (by decide) ?_
  exact hr_65 hf hP hD hS (lv_sub hl [1, 2, 3, 4, 0] rfl)
set_option maxHeartbeats 4000000 in
set_option maxRecDepth 100000 in
theorem wX0_write_65 {p : Program} {l : Launch} {e : Env} {s : State} {m : MethodId} {args : Array Value} {below : List Frame} {meth : Method} {c : Code} {D : va_G} {A : Nat → Prop} {Q : State → Prop} {cI : ClassId} {h_t h_t_colours h_p h_p_pixels h_f h_f_bytes : Nat} {t_depth : Int32} {t_packing : Int32} {t_isUpward : Int32} {t_column : Int32} {t_up : Int32} {p_wide : Int32} {p_high : Int32} {p_pixels : Nat → Int32} {zt_known : Int32} {zt_colours : Nat → Int32} {zf_size : Int32} {zf_bytes : Nat → Int32} (C : CallFix p m c cX0_write 5 s args wsX0_write RX0) (hN : zN s) (hK : va_K D vwCl [(cI, .int)] s) (hA : ∀ q, s.heap.size ≤ q → A q) (hE : zEv p l e rmX0_write s m args below meth c cX0_write D A Q (zwX0 cI h_t h_t_colours zt_known t_depth t_packing t_isUpward t_column t_up zt_colours ++ zwX5 cI h_p h_p_pixels p_wide p_high p_pixels ++ zwX2 cI h_f h_f_bytes zf_size zf_bytes)) (n : Nat) : ∀ {t_known : Int32} {t_colours : Nat → Int32} {f_size : Int32} {f_bytes : Nat → Int32} {l2 : Int32} {l4 : Int32} {H : Heap} {locs : List Loc} {ls : Array Slot}, fX0_write_65 n t_known t_colours p_wide p_pixels f_size f_bytes l2 l4 = some (zt_known, zt_colours, zf_size, zf_bytes) → va_P D vwCl (zwX0 cI h_t h_t_colours t_known t_depth t_packing t_isUpward t_column t_up t_colours ++ zwX5 cI h_p h_p_pixels p_wide p_high p_pixels ++ zwX2 cI h_f h_f_bytes f_size f_bytes) H → va_D A (zwX0 cI h_t h_t_colours t_known t_depth t_packing t_isUpward t_column t_up t_colours ++ zwX5 cI h_p h_p_pixels p_wide p_high p_pixels ++ zwX2 cI h_f h_f_bytes f_size f_bytes) → va_S A s.heap H locs → lv_has ls 5 [(0, .ref h_t), (1, .ref h_p), (2, .int l2), (3, .ref h_f), (4, .int l4)] → W p l e rmX0_write s m args below meth c H locs 0 0 Q (F0 m 65 ls []) := by
  obtain ⟨hx, hb, hml, hown, hts⟩ := id C
  induction n with
  | zero =>
    intro t_known t_colours f_size f_bytes l2 l4 H locs ls hf
    cases hf
  | succ n hr_65 =>
    intro t_known t_colours f_size f_bytes l2 l4 H locs ls hf hP hD hS hl
    rw [fX0_write_65_s] at hf
    refine lv_iload hx hb dX0_write_65 (lv_at hl 4 rfl) ?_
    refine lv_if_lt (tgt := 98) hx hb dX0_write_67 (by decide) (fun c1 => ?_) (fun c1 => ?_)
    · replace hf := zif_t hf c1
      refine lv_aload_n hx hb dX0_write_98 rfl (lv_at hl 3 rfl) ?_
      obtain ⟨u2, hc3, hf⟩ := zb1_in hf
      refine zc_v (va_runS (As := [.ref h_f]) (rest := []) C (mX0_writeLength l D cI H.size h_f h_f_bytes f_size f_bytes u2 hc3) (qX0_write_X0_writeLength_56 hts) ⟨zP_blind, zpre hK hN hP hD [4, 5] rfl rfl⟩ rfl rfl hl.1 rfl (lv_room (Nat.le_of_ble_eq_true rfl)) dX0_write_99 ⟨Nat.zero_le _, Nat.zero_le _⟩) hP hD hS hA [4, 5] [0, 1, 2, 3] [0, 1, 2, 3, 4, 5] (ws' := zwX0 cI h_t h_t_colours t_known t_depth t_packing t_isUpward t_column t_up t_colours ++ zwX5 cI h_p h_p_pixels p_wide p_high p_pixels ++ zwX2 cI h_f h_f_bytes f_size u2) rfl rfl rfl rfl rfl rfl (fun H locs hP hD hS => ?_)
      cases hf
      exact hE _ _ _ _ dX0_write_102 hP hD hS
    · replace hf := zif_f hf c1
      refine lv_iload_n hx hb dX0_write_70 rfl (lv_at hl 2 rfl) ?_
      refine lv_if_ne (tgt := 84) hx hb dX0_write_71 (by decide) (fun c4 => ?_) (fun c4 => ?_)
      · replace hf := zif_f hf c4
        refine lv_aload_n hx hb dX0_write_84 rfl (lv_at hl 0 rfl) ?_
        refine lv_aload_n hx hb dX0_write_85 rfl (lv_at hl 1 rfl) ?_
        refine lv_iload hx hb dX0_write_86 (lv_at hl 4 rfl) ?_
        refine lv_aload_n hx hb dX0_write_88 rfl (lv_at hl 3 rfl) ?_
        obtain ⟨u5, u6, hc7, hf⟩ := zb2_in hf
        refine zc_v (va_runV (As := [.ref h_p, .int l4, .ref h_f]) (rest := []) C (mX0_writePackedRow l D cI H.size h_t h_t_colours h_p h_p_pixels h_f h_f_bytes t_known t_depth t_packing t_isUpward t_column t_up t_colours p_wide p_high p_pixels f_size f_bytes l4 u5 u6 hc7) (qX0_write_X0_writePackedRow_53 hts) ⟨zP_blind, va_recv hK hP (ci := 0) (q0 := 0) rfl rfl, zpre hK hN hP hD [0, 1, 2, 3, 4, 5] rfl rfl⟩ rfl rfl hl.1 rfl (lv_room (Nat.le_of_ble_eq_true rfl)) dX0_write_89 ⟨Nat.zero_le _, Nat.zero_le _⟩) hP hD hS hA [0, 1, 2, 3, 4, 5] [] [0, 1, 2, 3, 4, 5] (ws' := zwX0 cI h_t h_t_colours t_known t_depth t_packing t_isUpward t_column t_up t_colours ++ zwX5 cI h_p h_p_pixels p_wide p_high p_pixels ++ zwX2 cI h_f h_f_bytes u5 u6) rfl rfl rfl rfl rfl rfl (fun H locs hP hD hS => ?_)
        exact wX0_write_92 C hN hK hA hE hr_65 hf hP hD hS (lv_sub hl [0, 1, 2, 3, 4] rfl)
      · replace hf := zif_t hf c4
        refine lv_aload_n hx hb dX0_write_74 rfl (lv_at hl 1 rfl) ?_
        refine lv_iload hx hb dX0_write_75 (lv_at hl 4 rfl) ?_
        refine lv_aload_n hx hb dX0_write_77 rfl (lv_at hl 3 rfl) ?_
        obtain ⟨u8, u9, hc10, hf⟩ := zb2_in hf
        refine zc_v (va_runS (As := [.ref h_p, .int l4, .ref h_f]) (rest := []) C (mX0_writePlainRow l D cI H.size h_p h_p_pixels h_f h_f_bytes p_wide p_high p_pixels f_size f_bytes l4 u8 u9 hc10) (qX0_write_X0_writePlainRow_50 hts) ⟨zP_blind, zpre hK hN hP hD [2, 3, 4, 5] rfl rfl⟩ rfl rfl hl.1 rfl (lv_room (Nat.le_of_ble_eq_true rfl)) dX0_write_78 ⟨Nat.zero_le _, Nat.zero_le _⟩) hP hD hS hA [2, 3, 4, 5] [0, 1] [0, 1, 2, 3, 4, 5] (ws' := zwX0 cI h_t h_t_colours t_known t_depth t_packing t_isUpward t_column t_up t_colours ++ zwX5 cI h_p h_p_pixels p_wide p_high p_pixels ++ zwX2 cI h_f h_f_bytes u8 u9) rfl rfl rfl rfl rfl rfl (fun H locs hP hD hS => ?_)
        refine lv_goto (tgt := 92) hx hb dX0_write_81 (by decide) ?_
        exact wX0_write_92 C hN hK hA hE hr_65 hf hP hD hS (lv_sub hl [0, 1, 2, 3, 4] rfl)
set_option maxHeartbeats 4000000 in
set_option maxRecDepth 100000 in
theorem wX0_write_25 {p : Program} {l : Launch} {e : Env} {s : State} {m : MethodId} {args : Array Value} {below : List Frame} {meth : Method} {c : Code} {D : va_G} {A : Nat → Prop} {Q : State → Prop} {cI : ClassId} {h_t h_t_colours h_p h_p_pixels h_f h_f_bytes : Nat} {t_depth : Int32} {t_packing : Int32} {t_isUpward : Int32} {t_column : Int32} {t_up : Int32} {p_wide : Int32} {p_high : Int32} {p_pixels : Nat → Int32} {zt_known : Int32} {zt_colours : Nat → Int32} {zf_size : Int32} {zf_bytes : Nat → Int32} (C : CallFix p m c cX0_write 5 s args wsX0_write RX0) (hN : zN s) (hK : va_K D vwCl [(cI, .int)] s) (hA : ∀ q, s.heap.size ≤ q → A q) (hE : zEv p l e rmX0_write s m args below meth c cX0_write D A Q (zwX0 cI h_t h_t_colours zt_known t_depth t_packing t_isUpward t_column t_up zt_colours ++ zwX5 cI h_p h_p_pixels p_wide p_high p_pixels ++ zwX2 cI h_f h_f_bytes zf_size zf_bytes)) (n : Nat) : ∀ {t_known : Int32} {t_colours : Nat → Int32} {f_size : Int32} {f_bytes : Nat → Int32} {l2 : Int32} {l4 : Int32} {H : Heap} {locs : List Loc} {ls : Array Slot}, fX0_write_25 n t_known t_colours p_wide p_high p_pixels f_size f_bytes l2 l4 = some (zt_known, zt_colours, zf_size, zf_bytes) → va_P D vwCl (zwX0 cI h_t h_t_colours t_known t_depth t_packing t_isUpward t_column t_up t_colours ++ zwX5 cI h_p h_p_pixels p_wide p_high p_pixels ++ zwX2 cI h_f h_f_bytes f_size f_bytes) H → va_D A (zwX0 cI h_t h_t_colours t_known t_depth t_packing t_isUpward t_column t_up t_colours ++ zwX5 cI h_p h_p_pixels p_wide p_high p_pixels ++ zwX2 cI h_f h_f_bytes f_size f_bytes) → va_S A s.heap H locs → lv_has ls 5 [(0, .ref h_t), (1, .ref h_p), (2, .int l2), (3, .ref h_f), (4, .int l4)] → W p l e rmX0_write s m args below meth c H locs 0 0 Q (F0 m 25 ls []) := by
  obtain ⟨hx, hb, hml, hown, hts⟩ := id C
  induction n with
  | zero =>
    intro t_known t_colours f_size f_bytes l2 l4 H locs ls hf
    cases hf
  | succ n hr_25 =>
    intro t_known t_colours f_size f_bytes l2 l4 H locs ls hf hP hD hS hl
    rw [fX0_write_25_s] at hf
    refine lv_iload hx hb dX0_write_25 (lv_at hl 4 rfl) ?_
    refine lv_aload_n hx hb dX0_write_27 rfl (lv_at hl 0 rfl) ?_
    refine va_get (D := D) (ci := 0) (v := .int t_known) (C := RX0) (T := TX0) (N := 7) hx hb hts iX0_write_X0 hown hK hP 0 rfl rfl 1 (by decide) (kX0_write_27 hts) (fun _ h9 => h9) rfl dX0_write_28 ?_
    refine lv_icmp_ge (tgt := 57) hx hb dX0_write_31 (by decide) (fun c1 => ?_) (fun c1 => ?_)
    · replace hf := zif_t hf c1
      refine lv_aload_n hx hb dX0_write_57 rfl (lv_at hl 1 rfl) ?_
      refine va_getN (D := D) (ci := 4) (v := .int p_high) (C := RX5) (T := TX5) (N := 3) hx hb hts iX0_write_X5 hown hK hP 2 rfl rfl 2 (by decide) (hN.at 8 rfl) (fun _ h9 => h9) rfl dX0_write_58 ?_
      refine lv_iconst (v := 1) hx hb dX0_write_61 (by decide) ?_
      refine lv_isub hx hb dX0_write_62 ?_
      refine lv_topi (fun x2 ex2 => ?_)
      replace hf := zlet_in hf ex2
      clear ex2
      refine lv_istore (lv' := [(4, .int x2), (0, .ref h_t), (1, .ref h_p), (2, .int l2), (3, .ref h_f)]) hx hb dX0_write_63 hl (by decide) rfl (fun ls hl => ?_)
      exact wX0_write_65 C hN hK hA hE 1000 hf hP hD hS (lv_sub hl [1, 2, 3, 4, 0] rfl)
    · replace hf := zif_f hf c1
      refine lv_aload_n hx hb dX0_write_34 rfl (lv_at hl 3 rfl) ?_
      refine lv_aload_n hx hb dX0_write_35 rfl (lv_at hl 0 rfl) ?_
      refine va_get (D := D) (ci := 0) (v := .ref h_t_colours) (C := RX0) (T := TX0) (N := 7) hx hb hts iX0_write_X0 hown hK hP 0 rfl rfl 0 (by decide) (kX0_write_11 hts) (fun _ h9 => h9) rfl dX0_write_36 ?_
      refine lv_iload hx hb dX0_write_39 (lv_at hl 4 rfl) ?_
      obtain ⟨hg4, hf⟩ := zrd_in hf
      refine va_iald hx hb hK hP 1 0 rfl rfl hg4 dX0_write_41 ?_
      refine lv_topi (fun x3 ex3 => ?_)
      replace hf := hf x3 ex3
      clear ex3
      obtain ⟨u5, u6, hc7, hf⟩ := zb2_in hf
      refine zc_v (va_runV (As := [.int x3]) (rest := []) C (mX2_appendBlueGreenRed l D cI H.size h_f h_f_bytes f_size f_bytes x3 u5 u6 hc7) (qX0_write_X2_appendBlueGreenRed_39 hts) ⟨zP_blind, va_recv hK hP (ci := 2) (q0 := 4) rfl rfl, zpre hK hN hP hD [4, 5] rfl rfl⟩ rfl rfl hl.1 rfl (lv_room (Nat.le_of_ble_eq_true rfl)) dX0_write_42 ⟨Nat.zero_le _, Nat.zero_le _⟩) hP hD hS hA [4, 5] [0, 1, 2, 3] [0, 1, 2, 3, 4, 5] (ws' := zwX0 cI h_t h_t_colours t_known t_depth t_packing t_isUpward t_column t_up t_colours ++ zwX5 cI h_p h_p_pixels p_wide p_high p_pixels ++ zwX2 cI h_f h_f_bytes u5 u6) rfl rfl rfl rfl rfl rfl (fun H locs hP hD hS => ?_)
      refine lv_aload_n hx hb dX0_write_45 rfl (lv_at hl 3 rfl) ?_
      refine lv_iconst (v := 0) hx hb dX0_write_46 (by decide) ?_
      obtain ⟨r8, u9, u10, hc11, hf⟩ := zb3_in hf
      refine zc_i (va_runV (As := [.int 0]) (rest := []) C (mX2_append l D cI H.size h_f h_f_bytes u5 u6 0 r8 u9 u10 hc11) (qX0_write_X2_append_43 hts) ⟨zP_blind, va_recv hK hP (ci := 2) (q0 := 4) rfl rfl, zpre hK hN hP hD [4, 5] rfl rfl⟩ rfl rfl hl.1 rfl (lv_room (Nat.le_of_ble_eq_true rfl)) dX0_write_47 ⟨Nat.zero_le _, Nat.zero_le _⟩) hP hD hS hA [4, 5] [0, 1, 2, 3] [0, 1, 2, 3, 4, 5] (ws' := zwX0 cI h_t h_t_colours t_known t_depth t_packing t_isUpward t_column t_up t_colours ++ zwX5 cI h_p h_p_pixels p_wide p_high p_pixels ++ zwX2 cI h_f h_f_bytes u9 u10) rfl rfl rfl rfl rfl rfl (fun H locs hP hD hS => ?_)
      refine lv_pop hx hb dX0_write_50 rfl ?_
      obtain ⟨x12, ex12⟩ : ∃ y : Int32, y = l4 + 1 := ⟨_, rfl⟩
      replace hf := zlet_in hf ex12
      refine lv_iinc (v := x12) (lv' := [(4, .int x12), (0, .ref h_t), (1, .ref h_p), (2, .int l2), (3, .ref h_f)]) hx hb dX0_write_51 hl (k := 4) rfl (by rw [ex12]; rfl) (by decide) rfl (fun ls hl => ?_)
      clear ex12
      refine lv_goto (tgt := 25) hx hb dX0_write_54 (by decide) ?_
      exact hr_25 hf hP hD hS (lv_sub hl [1, 2, 3, 4, 0] rfl)
set_option maxHeartbeats 4000000 in
set_option maxRecDepth 100000 in
theorem wX0_write_15 {p : Program} {l : Launch} {e : Env} {s : State} {m : MethodId} {args : Array Value} {below : List Frame} {meth : Method} {c : Code} {D : va_G} {A : Nat → Prop} {Q : State → Prop} {cI : ClassId} {h_t h_t_colours h_p h_p_pixels h_f h_f_bytes : Nat} {t_depth : Int32} {t_packing : Int32} {t_isUpward : Int32} {t_column : Int32} {t_up : Int32} {p_wide : Int32} {p_high : Int32} {p_pixels : Nat → Int32} {zt_known : Int32} {zt_colours : Nat → Int32} {zf_size : Int32} {zf_bytes : Nat → Int32} (C : CallFix p m c cX0_write 5 s args wsX0_write RX0) (hN : zN s) (hK : va_K D vwCl [(cI, .int)] s) (hA : ∀ q, s.heap.size ≤ q → A q) (hE : zEv p l e rmX0_write s m args below meth c cX0_write D A Q (zwX0 cI h_t h_t_colours zt_known t_depth t_packing t_isUpward t_column t_up zt_colours ++ zwX5 cI h_p h_p_pixels p_wide p_high p_pixels ++ zwX2 cI h_f h_f_bytes zf_size zf_bytes)) {t_known : Int32} {t_colours : Nat → Int32} {f_size : Int32} {f_bytes : Nat → Int32} {l2 : Int32} {H : Heap} {locs : List Loc} {ls : Array Slot} : fX0_write_15 t_known t_colours p_wide p_high p_pixels f_size f_bytes l2 = some (zt_known, zt_colours, zf_size, zf_bytes) → va_P D vwCl (zwX0 cI h_t h_t_colours t_known t_depth t_packing t_isUpward t_column t_up t_colours ++ zwX5 cI h_p h_p_pixels p_wide p_high p_pixels ++ zwX2 cI h_f h_f_bytes f_size f_bytes) H → va_D A (zwX0 cI h_t h_t_colours t_known t_depth t_packing t_isUpward t_column t_up t_colours ++ zwX5 cI h_p h_p_pixels p_wide p_high p_pixels ++ zwX2 cI h_f h_f_bytes f_size f_bytes) → va_S A s.heap H locs → lv_has ls 5 [(0, .ref h_t), (1, .ref h_p), (2, .int l2), (3, .ref h_f)] → W p l e rmX0_write s m args below meth c H locs 0 0 Q (F0 m 15 ls []) := by
  intro hf hP hD hS hl
  obtain ⟨hx, hb, hml, hown, hts⟩ := id C
  unfold fX0_write_15 at hf
  refine lv_aload_n hx hb dX0_write_15 rfl (lv_at hl 0 rfl) ?_
  refine lv_aload_n hx hb dX0_write_16 rfl (lv_at hl 1 rfl) ?_
  refine lv_iload_n hx hb dX0_write_17 rfl (lv_at hl 2 rfl) ?_
  refine lv_aload_n hx hb dX0_write_18 rfl (lv_at hl 3 rfl) ?_
  obtain ⟨u1, u2, hc3, hf⟩ := zb2_in hf
  refine zc_v (va_runV (As := [.ref h_p, .int l2, .ref h_f]) (rest := []) C (mX0_writeHeader l D cI H.size h_t h_t_colours h_p h_p_pixels h_f h_f_bytes t_known t_depth t_packing t_isUpward t_column t_up t_colours p_wide p_high p_pixels f_size f_bytes l2 u1 u2 hc3) (qX0_write_X0_writeHeader_35 hts) ⟨zP_blind, va_recv hK hP (ci := 0) (q0 := 0) rfl rfl, zpre hK hN hP hD [0, 1, 2, 3, 4, 5] rfl rfl⟩ rfl rfl hl.1 rfl (lv_room (Nat.le_of_ble_eq_true rfl)) dX0_write_19 ⟨Nat.zero_le _, Nat.zero_le _⟩) hP hD hS hA [0, 1, 2, 3, 4, 5] [] [0, 1, 2, 3, 4, 5] (ws' := zwX0 cI h_t h_t_colours t_known t_depth t_packing t_isUpward t_column t_up t_colours ++ zwX5 cI h_p h_p_pixels p_wide p_high p_pixels ++ zwX2 cI h_f h_f_bytes u1 u2) rfl rfl rfl rfl rfl rfl (fun H locs hP hD hS => ?_)
  refine lv_iconst (v := 0) hx hb dX0_write_22 (by decide) ?_
  refine lv_istore (lv' := [(4, .int 0), (0, .ref h_t), (1, .ref h_p), (2, .int l2), (3, .ref h_f)]) hx hb dX0_write_23 hl (by decide) rfl (fun ls hl => ?_)
  exact wX0_write_25 C hN hK hA hE 1000 hf hP hD hS (lv_sub hl [1, 2, 3, 4, 0] rfl)
set_option maxHeartbeats 4000000 in
set_option maxRecDepth 100000 in
theorem wX0_write_0 {p : Program} {l : Launch} {e : Env} {s : State} {m : MethodId} {args : Array Value} {below : List Frame} {meth : Method} {c : Code} {D : va_G} {A : Nat → Prop} {Q : State → Prop} {cI : ClassId} {h_t h_t_colours h_p h_p_pixels h_f h_f_bytes : Nat} {t_depth : Int32} {t_packing : Int32} {t_isUpward : Int32} {t_column : Int32} {t_up : Int32} {p_wide : Int32} {p_high : Int32} {p_pixels : Nat → Int32} {zt_known : Int32} {zt_colours : Nat → Int32} {zf_size : Int32} {zf_bytes : Nat → Int32} (C : CallFix p m c cX0_write 5 s args wsX0_write RX0) (hN : zN s) (hK : va_K D vwCl [(cI, .int)] s) (hA : ∀ q, s.heap.size ≤ q → A q) (hE : zEv p l e rmX0_write s m args below meth c cX0_write D A Q (zwX0 cI h_t h_t_colours zt_known t_depth t_packing t_isUpward t_column t_up zt_colours ++ zwX5 cI h_p h_p_pixels p_wide p_high p_pixels ++ zwX2 cI h_f h_f_bytes zf_size zf_bytes)) {t_known : Int32} {t_colours : Nat → Int32} {f_size : Int32} {f_bytes : Nat → Int32} {v1 : Int32} {H : Heap} {locs : List Loc} {ls : Array Slot} : fX0_write t_colours p_wide p_high p_pixels f_size f_bytes v1 = some (zt_known, zt_colours, zf_size, zf_bytes) → va_P D vwCl (zwX0 cI h_t h_t_colours t_known t_depth t_packing t_isUpward t_column t_up t_colours ++ zwX5 cI h_p h_p_pixels p_wide p_high p_pixels ++ zwX2 cI h_f h_f_bytes f_size f_bytes) H → va_D A (zwX0 cI h_t h_t_colours t_known t_depth t_packing t_isUpward t_column t_up t_colours ++ zwX5 cI h_p h_p_pixels p_wide p_high p_pixels ++ zwX2 cI h_f h_f_bytes f_size f_bytes) → va_S A s.heap H locs → lv_has ls 5 [(0, .ref h_t), (1, .ref h_p), (2, .int v1), (3, .ref h_f)] → W p l e rmX0_write s m args below meth c H locs 0 0 Q (F0 m 0 ls []) := by
  intro hf hP hD hS hl
  obtain ⟨hx, hb, hml, hown, hts⟩ := id C
  unfold fX0_write at hf
  refine lv_aload_n hx hb dX0_write_0 rfl (lv_at hl 0 rfl) ?_
  refine lv_iconst (v := 0) hx hb dX0_write_1 (by decide) ?_
  refine va_put (D := D) (ci := 0) (v := .int 0) (ty := .int) (C := RX0) (T := TX0) (N := 7) hx hb hts iX0_write_X0 tyX0 tyX0_ok nmX0 hown hK hP hD hS 0 rfl rfl 1 (by decide) (kX0_write_27 hts) (fun _ h9 => h9) rfl (by decide +kernel) rfl rfl (Nat.le_of_ble_eq_true rfl) dX0_write_2 (fun H locs hP hD hS => ?_)
  replace hP : va_P D vwCl (zwX0 cI h_t h_t_colours 0 t_depth t_packing t_isUpward t_column t_up t_colours ++ zwX5 cI h_p h_p_pixels p_wide p_high p_pixels ++ zwX2 cI h_f h_f_bytes f_size f_bytes) H := hP
  replace hD : va_D A (zwX0 cI h_t h_t_colours 0 t_depth t_packing t_isUpward t_column t_up t_colours ++ zwX5 cI h_p h_p_pixels p_wide p_high p_pixels ++ zwX2 cI h_f h_f_bytes f_size f_bytes) := hD
  refine lv_iload_n hx hb dX0_write_5 rfl (lv_at hl 2 rfl) ?_
  refine lv_iconst (v := 1) hx hb dX0_write_6 (by decide) ?_
  refine lv_icmp_ne (tgt := 15) hx hb dX0_write_7 (by decide) (fun c1 => ?_) (fun c1 => ?_)
  · replace hf := zif_f hf c1
    exact wX0_write_15 C hN hK hA hE hf hP hD hS (lv_sub hl [0, 1, 2, 3] rfl)
  · replace hf := zif_t hf c1
    refine lv_aload_n hx hb dX0_write_10 rfl (lv_at hl 0 rfl) ?_
    refine lv_aload_n hx hb dX0_write_11 rfl (lv_at hl 1 rfl) ?_
    obtain ⟨u2, u3, hc4, hf⟩ := zb2_in hf
    refine zc_v (va_runV (As := [.ref h_p]) (rest := []) C (mX0_gatherColours l D cI H.size h_t h_t_colours h_p h_p_pixels 0 t_depth t_packing t_isUpward t_column t_up t_colours p_wide p_high p_pixels u2 u3 hc4) (qX0_write_X0_gatherColours_31 hts) ⟨zP_blind, va_recv hK hP (ci := 0) (q0 := 0) rfl rfl, zpre hK hN hP hD [0, 1, 2, 3] rfl rfl⟩ rfl rfl hl.1 rfl (lv_room (Nat.le_of_ble_eq_true rfl)) dX0_write_12 ⟨Nat.zero_le _, Nat.zero_le _⟩) hP hD hS hA [0, 1, 2, 3] [4, 5] [2, 3, 4, 5, 0, 1] (ws' := zwX0 cI h_t h_t_colours u2 t_depth t_packing t_isUpward t_column t_up u3 ++ zwX5 cI h_p h_p_pixels p_wide p_high p_pixels ++ zwX2 cI h_f h_f_bytes f_size f_bytes) rfl rfl rfl rfl rfl rfl (fun H locs hP hD hS => ?_)
    exact wX0_write_15 C hN hK hA hE hf hP hD hS (lv_sub hl [0, 1, 2, 3] rfl)
set_option maxHeartbeats 4000000 in
set_option maxRecDepth 100000 in
theorem mX0_write (l : Launch) (D : va_G) (cI : ClassId) (sz : Nat) (h_t h_t_colours h_p h_p_pixels h_f h_f_bytes : Nat) (t_known : Int32) (t_depth : Int32) (t_packing : Int32) (t_isUpward : Int32) (t_column : Int32) (t_up : Int32) (t_colours : Nat → Int32) (p_wide : Int32) (p_high : Int32) (p_pixels : Nat → Int32) (f_size : Int32) (f_bytes : Nat → Int32) (v1 : Int32) (zt_known : Int32) (zt_colours : Nat → Int32) (zf_size : Int32) (zf_bytes : Nat → Int32) (hf : fX0_write t_colours p_wide p_high p_pixels f_size f_bytes v1 = some (zt_known, zt_colours, zf_size, zf_bytes)) : Met l yX0_write wsX0_write rmX0_write (va_Pc [.ref h_t, .ref h_p, .int v1, .ref h_f] (zP D [(cI, .int)] (zwX0 cI h_t h_t_colours t_known t_depth t_packing t_isUpward t_column t_up t_colours ++ zwX5 cI h_p h_p_pixels p_wide p_high p_pixels ++ zwX2 cI h_f h_f_bytes f_size f_bytes) sz)) (zQv D (zwX0 cI h_t h_t_colours t_known t_depth t_packing t_isUpward t_column t_up t_colours ++ zwX5 cI h_p h_p_pixels p_wide p_high p_pixels ++ zwX2 cI h_f h_f_bytes f_size f_bytes) sz (zwX0 cI h_t h_t_colours zt_known t_depth t_packing t_isUpward t_column t_up zt_colours ++ zwX5 cI h_p h_p_pixels p_wide p_high p_pixels ++ zwX2 cI h_f h_f_bytes zf_size zf_bytes)) 0 0 (va_A (zwX0 cI h_t h_t_colours t_known t_depth t_packing t_isUpward t_column t_up t_colours ++ zwX5 cI h_p h_p_pixels p_wide p_high p_pixels ++ zwX2 cI h_f h_f_bytes f_size f_bytes) sz) := by
  refine Met.ofW (cc := cX0_write) (maxL := 5) (ret := none) (by decide) rfl ?_
  intro p e s m args below meth c s₁ B hml hv
  obtain ⟨rfl, hsz, hP, hK, hD0, hN⟩ := hv
  subst hsz
  have C : CallFix p m c cX0_write 5 s [.ref h_t, .ref h_p, .int v1, .ref h_f].toArray wsX0_write RX0 := ⟨B.exec, B.bytes, hml, findClass_of_methodNamed B.named, atoms_spec (ws := wsX0_write) B.pre⟩
  have hl := lv_entry ([.ref h_t, .ref h_p, .int v1, .ref h_f]) (n := 5) (Nat.le_of_ble_eq_true rfl)
  rw [lg_entry_eq]
  exact wX0_write_0 (A := va_A (zwX0 cI h_t h_t_colours t_known t_depth t_packing t_isUpward t_column t_up t_colours ++ zwX5 cI h_p h_p_pixels p_wide p_high p_pixels ++ zwX2 cI h_f h_f_bytes f_size f_bytes) s.heap.size) C hN hK (fun q h => Or.inr h) (fun H locs pc ls d hP hD hS => zend_v C.1 C.2.1 B.returns B.notSynchronized d hP hD hS) hf hP hD0.self va_S.rf hl
