def fX5_fill (t_pixels : Nat → Int32) (v0 : Int32) : Option ((Nat → Int32)) :=
  zb1 (fJ7_fill_53178 t_pixels v0) fun u1 =>
  some u1
def fX5_begin (t_pixels : Nat → Int32) (v0 : Int32) (v1 : Int32) : Option (Int32 × Int32 × (Nat → Int32)) :=
  zb1 (fX5_fill t_pixels 255) fun u1 =>
  some (v0, v1, u1)
def fX5_has (t_wide : Int32) (t_high : Int32) (v0 : Int32) (v1 : Int32) : Option (Int32) :=
  if v0 < 0 then
    some 0
  else
    if t_wide ≤ v0 then
      some 0
    else
      if v1 < 0 then
        some 0
      else
        if t_high ≤ v1 then
          some 0
        else
          some 1
def fX5_at (t_wide : Int32) (t_pixels : Nat → Int32) (v0 : Int32) (v1 : Int32) : Option (Int32) :=
  zrd t_pixels 64 ((v1 * t_wide) + v0) fun x1 =>
  some x1
def fX5_set (t_wide : Int32) (t_pixels : Nat → Int32) (v0 : Int32) (v1 : Int32) (v2 : Int32) : Option ((Nat → Int32)) :=
  zwr t_pixels 64 ((v1 * t_wide) + v0) v2 fun g1 =>
  some g1
def fX5_count (t_wide : Int32) (t_high : Int32) : Option (Int32) :=
  some (t_wide * t_high)
def fX5_become (t_pixels : Nat → Int32) (p_wide : Int32) (p_high : Int32) (p_pixels : Nat → Int32) : Option (Int32 × Int32 × (Nat → Int32)) :=
  zlet (va_cpy p_pixels t_pixels 0 0 64) fun g1 =>
  some (p_wide, p_high, g1)
def fX5_becomeTurned_24 (rc14 : Int32 → Int32 → (Nat → Int32) → Int32 → (Nat → Int32) → Int32 → Option (Int32 × Int32 × (Nat → Int32))) : Nat → Int32 → Int32 → (Nat → Int32) → Int32 → (Nat → Int32) → Int32 → Int32 → Option (Int32 × Int32 × (Nat → Int32))
  | 0, _, _, _, _, _, _, _ => none
  | n + 1, t_wide, t_high, t_pixels, p_wide, p_pixels, l2, l3 =>
    if t_wide ≤ l3 then
      zlet (l2 + 1) fun x2 =>
      rc14 t_wide t_high t_pixels p_wide p_pixels x2
    else
      zb1 (fX5_at p_wide p_pixels l2 l3) fun r3 =>
      zb1 (fX5_set t_wide t_pixels l3 l2 r3) fun u5 =>
      zlet (l3 + 1) fun x7 =>
      (fX5_becomeTurned_24 rc14 n) t_wide t_high u5 p_wide p_pixels l2 x7
theorem fX5_becomeTurned_24_s (rc14 : Int32 → Int32 → (Nat → Int32) → Int32 → (Nat → Int32) → Int32 → Option (Int32 × Int32 × (Nat → Int32))) (n : Nat) (t_wide : Int32) (t_high : Int32) (t_pixels : Nat → Int32) (p_wide : Int32) (p_pixels : Nat → Int32) (l2 : Int32) (l3 : Int32) : fX5_becomeTurned_24 rc14 (n + 1) t_wide t_high t_pixels p_wide p_pixels l2 l3 =
    if t_wide ≤ l3 then
      zlet (l2 + 1) fun x2 =>
      rc14 t_wide t_high t_pixels p_wide p_pixels x2
    else
      zb1 (fX5_at p_wide p_pixels l2 l3) fun r3 =>
      zb1 (fX5_set t_wide t_pixels l3 l2 r3) fun u5 =>
      zlet (l3 + 1) fun x7 =>
      (fX5_becomeTurned_24 rc14 n) t_wide t_high u5 p_wide p_pixels l2 x7 := rfl
def fX5_becomeTurned_14 : Nat → Int32 → Int32 → (Nat → Int32) → Int32 → (Nat → Int32) → Int32 → Option (Int32 × Int32 × (Nat → Int32))
  | 0, _, _, _, _, _, _ => none
  | n + 1, t_wide, t_high, t_pixels, p_wide, p_pixels, l2 =>
    if t_high ≤ l2 then
      some (t_wide, t_high, t_pixels)
    else
      fX5_becomeTurned_24 (fX5_becomeTurned_14 n) 1000 t_wide t_high t_pixels p_wide p_pixels l2 0
theorem fX5_becomeTurned_14_s (n : Nat) (t_wide : Int32) (t_high : Int32) (t_pixels : Nat → Int32) (p_wide : Int32) (p_pixels : Nat → Int32) (l2 : Int32) : fX5_becomeTurned_14 (n + 1) t_wide t_high t_pixels p_wide p_pixels l2 =
    if t_high ≤ l2 then
      some (t_wide, t_high, t_pixels)
    else
      fX5_becomeTurned_24 (fX5_becomeTurned_14 n) 1000 t_wide t_high t_pixels p_wide p_pixels l2 0 := rfl
def fX5_becomeTurned (t_pixels : Nat → Int32) (p_wide : Int32) (p_high : Int32) (p_pixels : Nat → Int32) : Option (Int32 × Int32 × (Nat → Int32)) :=
  zb3 (fX5_begin t_pixels p_high p_wide) fun u1 u2 u3 =>
  fX5_becomeTurned_14 1000 u1 u2 u3 p_wide p_pixels 0
def fX5_exchange (t_pixels : Nat → Int32) (v0 : Int32) (v1 : Int32) : Option ((Nat → Int32)) :=
  zrd t_pixels 64 v0 fun x1 =>
  zrd t_pixels 64 v1 fun x3 =>
  zwr t_pixels 64 v0 x3 fun g5 =>
  zwr g5 64 v1 x1 fun g7 =>
  some g7
def fX5_exchangeColumns_12 (rc2 : Int32 → Int32 → (Nat → Int32) → Int32 → Option ((Nat → Int32))) : Nat → Int32 → Int32 → (Nat → Int32) → Int32 → Int32 → Option ((Nat → Int32))
  | 0, _, _, _, _, _ => none
  | n + 1, t_wide, t_high, t_pixels, l1, l2 =>
    if (t_wide / 2) ≤ l2 then
      zlet (l1 + 1) fun x2 =>
      rc2 t_wide t_high t_pixels x2
    else
      zb1 (fX5_exchange t_pixels ((l1 * t_wide) + l2) ((((l1 * t_wide) + t_wide) - 1) - l2)) fun u3 =>
      zlet (l2 + 1) fun x5 =>
      (fX5_exchangeColumns_12 rc2 n) t_wide t_high u3 l1 x5
theorem fX5_exchangeColumns_12_s (rc2 : Int32 → Int32 → (Nat → Int32) → Int32 → Option ((Nat → Int32))) (n : Nat) (t_wide : Int32) (t_high : Int32) (t_pixels : Nat → Int32) (l1 : Int32) (l2 : Int32) : fX5_exchangeColumns_12 rc2 (n + 1) t_wide t_high t_pixels l1 l2 =
    if (t_wide / 2) ≤ l2 then
      zlet (l1 + 1) fun x2 =>
      rc2 t_wide t_high t_pixels x2
    else
      zb1 (fX5_exchange t_pixels ((l1 * t_wide) + l2) ((((l1 * t_wide) + t_wide) - 1) - l2)) fun u3 =>
      zlet (l2 + 1) fun x5 =>
      (fX5_exchangeColumns_12 rc2 n) t_wide t_high u3 l1 x5 := rfl
def fX5_exchangeColumns_2 : Nat → Int32 → Int32 → (Nat → Int32) → Int32 → Option ((Nat → Int32))
  | 0, _, _, _, _ => none
  | n + 1, t_wide, t_high, t_pixels, l1 =>
    if t_high ≤ l1 then
      some t_pixels
    else
      fX5_exchangeColumns_12 (fX5_exchangeColumns_2 n) 1000 t_wide t_high t_pixels l1 0
theorem fX5_exchangeColumns_2_s (n : Nat) (t_wide : Int32) (t_high : Int32) (t_pixels : Nat → Int32) (l1 : Int32) : fX5_exchangeColumns_2 (n + 1) t_wide t_high t_pixels l1 =
    if t_high ≤ l1 then
      some t_pixels
    else
      fX5_exchangeColumns_12 (fX5_exchangeColumns_2 n) 1000 t_wide t_high t_pixels l1 0 := rfl
def fX5_exchangeColumns (t_wide : Int32) (t_high : Int32) (t_pixels : Nat → Int32) : Option ((Nat → Int32)) :=
  fX5_exchangeColumns_2 1000 t_wide t_high t_pixels 0
def fX5_exchangeRows_14 (rc2 : Int32 → Int32 → (Nat → Int32) → Int32 → Option ((Nat → Int32))) : Nat → Int32 → Int32 → (Nat → Int32) → Int32 → Int32 → Option ((Nat → Int32))
  | 0, _, _, _, _, _ => none
  | n + 1, t_wide, t_high, t_pixels, l1, l2 =>
    if t_wide ≤ l2 then
      zlet (l1 + 1) fun x2 =>
      rc2 t_wide t_high t_pixels x2
    else
      zb1 (fX5_exchange t_pixels ((l1 * t_wide) + l2) ((((t_high - 1) - l1) * t_wide) + l2)) fun u3 =>
      zlet (l2 + 1) fun x5 =>
      (fX5_exchangeRows_14 rc2 n) t_wide t_high u3 l1 x5
theorem fX5_exchangeRows_14_s (rc2 : Int32 → Int32 → (Nat → Int32) → Int32 → Option ((Nat → Int32))) (n : Nat) (t_wide : Int32) (t_high : Int32) (t_pixels : Nat → Int32) (l1 : Int32) (l2 : Int32) : fX5_exchangeRows_14 rc2 (n + 1) t_wide t_high t_pixels l1 l2 =
    if t_wide ≤ l2 then
      zlet (l1 + 1) fun x2 =>
      rc2 t_wide t_high t_pixels x2
    else
      zb1 (fX5_exchange t_pixels ((l1 * t_wide) + l2) ((((t_high - 1) - l1) * t_wide) + l2)) fun u3 =>
      zlet (l2 + 1) fun x5 =>
      (fX5_exchangeRows_14 rc2 n) t_wide t_high u3 l1 x5 := rfl
def fX5_exchangeRows_2 : Nat → Int32 → Int32 → (Nat → Int32) → Int32 → Option ((Nat → Int32))
  | 0, _, _, _, _ => none
  | n + 1, t_wide, t_high, t_pixels, l1 =>
    if (t_high / 2) ≤ l1 then
      some t_pixels
    else
      fX5_exchangeRows_14 (fX5_exchangeRows_2 n) 1000 t_wide t_high t_pixels l1 0
theorem fX5_exchangeRows_2_s (n : Nat) (t_wide : Int32) (t_high : Int32) (t_pixels : Nat → Int32) (l1 : Int32) : fX5_exchangeRows_2 (n + 1) t_wide t_high t_pixels l1 =
    if (t_high / 2) ≤ l1 then
      some t_pixels
    else
      fX5_exchangeRows_14 (fX5_exchangeRows_2 n) 1000 t_wide t_high t_pixels l1 0 := rfl
def fX5_exchangeRows (t_wide : Int32) (t_high : Int32) (t_pixels : Nat → Int32) : Option ((Nat → Int32)) :=
  fX5_exchangeRows_2 1000 t_wide t_high t_pixels 0
def fX5_loseColour_2 : Nat → Int32 → Int32 → (Nat → Int32) → Int32 → Option ((Nat → Int32))
  | 0, _, _, _, _ => none
  | n + 1, t_wide, t_high, t_pixels, l1 =>
    zb1 (fX5_count t_wide t_high) fun r1 =>
    if r1 ≤ l1 then
      some t_pixels
    else
      zrd t_pixels 64 l1 fun x4 =>
      zb1 (fX8_red x4) fun r6 =>
      zb1 (fX8_green x4) fun r8 =>
      zb1 (fX8_blue x4) fun r10 =>
      zlet ((((77 * r6) + (150 * r8)) + (29 * r10)) / 256) fun x12 =>
      zb1 (fX8_alpha x4) fun r13 =>
      zb1 (fX8_colour x12 x12 x12 r13) fun r15 =>
      zwr t_pixels 64 l1 r15 fun g17 =>
      zlet (l1 + 1) fun x19 =>
      (fX5_loseColour_2 n) t_wide t_high g17 x19
theorem fX5_loseColour_2_s (n : Nat) (t_wide : Int32) (t_high : Int32) (t_pixels : Nat → Int32) (l1 : Int32) : fX5_loseColour_2 (n + 1) t_wide t_high t_pixels l1 =
    zb1 (fX5_count t_wide t_high) fun r1 =>
    if r1 ≤ l1 then
      some t_pixels
    else
      zrd t_pixels 64 l1 fun x4 =>
      zb1 (fX8_red x4) fun r6 =>
      zb1 (fX8_green x4) fun r8 =>
      zb1 (fX8_blue x4) fun r10 =>
      zlet ((((77 * r6) + (150 * r8)) + (29 * r10)) / 256) fun x12 =>
      zb1 (fX8_alpha x4) fun r13 =>
      zb1 (fX8_colour x12 x12 x12 r13) fun r15 =>
      zwr t_pixels 64 l1 r15 fun g17 =>
      zlet (l1 + 1) fun x19 =>
      (fX5_loseColour_2 n) t_wide t_high g17 x19 := rfl
def fX5_loseColour (t_wide : Int32) (t_high : Int32) (t_pixels : Nat → Int32) : Option ((Nat → Int32)) :=
  fX5_loseColour_2 1000 t_wide t_high t_pixels 0
def fX5_becomeOpaque_2 : Nat → Int32 → Int32 → (Nat → Int32) → Int32 → Option ((Nat → Int32))
  | 0, _, _, _, _ => none
  | n + 1, t_wide, t_high, t_pixels, l1 =>
    zb1 (fX5_count t_wide t_high) fun r1 =>
    if r1 ≤ l1 then
      some t_pixels
    else
      zrd t_pixels 64 l1 fun x4 =>
      zwr t_pixels 64 l1 (x4 ||| 255) fun g6 =>
      zlet (l1 + 1) fun x8 =>
      (fX5_becomeOpaque_2 n) t_wide t_high g6 x8
theorem fX5_becomeOpaque_2_s (n : Nat) (t_wide : Int32) (t_high : Int32) (t_pixels : Nat → Int32) (l1 : Int32) : fX5_becomeOpaque_2 (n + 1) t_wide t_high t_pixels l1 =
    zb1 (fX5_count t_wide t_high) fun r1 =>
    if r1 ≤ l1 then
      some t_pixels
    else
      zrd t_pixels 64 l1 fun x4 =>
      zwr t_pixels 64 l1 (x4 ||| 255) fun g6 =>
      zlet (l1 + 1) fun x8 =>
      (fX5_becomeOpaque_2 n) t_wide t_high g6 x8 := rfl
def fX5_becomeOpaque (t_wide : Int32) (t_high : Int32) (t_pixels : Nat → Int32) : Option ((Nat → Int32)) :=
  fX5_becomeOpaque_2 1000 t_wide t_high t_pixels 0
def fX5_isOpaque_2 : Nat → Int32 → Int32 → (Nat → Int32) → Int32 → Option (Int32)
  | 0, _, _, _, _ => none
  | n + 1, t_wide, t_high, t_pixels, l1 =>
    zb1 (fX5_count t_wide t_high) fun r1 =>
    if r1 ≤ l1 then
      some 1
    else
      zrd t_pixels 64 l1 fun x4 =>
      zb1 (fX8_alpha x4) fun r6 =>
      if r6 = 255 then
        zlet (l1 + 1) fun x9 =>
        (fX5_isOpaque_2 n) t_wide t_high t_pixels x9
      else
        some 0
theorem fX5_isOpaque_2_s (n : Nat) (t_wide : Int32) (t_high : Int32) (t_pixels : Nat → Int32) (l1 : Int32) : fX5_isOpaque_2 (n + 1) t_wide t_high t_pixels l1 =
    zb1 (fX5_count t_wide t_high) fun r1 =>
    if r1 ≤ l1 then
      some 1
    else
      zrd t_pixels 64 l1 fun x4 =>
      zb1 (fX8_alpha x4) fun r6 =>
      if r6 = 255 then
        zlet (l1 + 1) fun x9 =>
        (fX5_isOpaque_2 n) t_wide t_high t_pixels x9
      else
        some 0 := rfl
def fX5_isOpaque (t_wide : Int32) (t_high : Int32) (t_pixels : Nat → Int32) : Option (Int32) :=
  fX5_isOpaque_2 1000 t_wide t_high t_pixels 0
def fX5_isGrey_2 : Nat → Int32 → Int32 → (Nat → Int32) → Int32 → Option (Int32)
  | 0, _, _, _, _ => none
  | n + 1, t_wide, t_high, t_pixels, l1 =>
    zb1 (fX5_count t_wide t_high) fun r1 =>
    if r1 ≤ l1 then
      zb1 (fX5_isOpaque t_wide t_high t_pixels) fun r4 =>
      zbo r4 <|
      some r4
    else
      zrd t_pixels 64 l1 fun x7 =>
      zb1 (fX8_red x7) fun r9 =>
      zb1 (fX8_green x7) fun r11 =>
      if r9 = r11 then
        zb1 (fX8_green x7) fun r14 =>
        zb1 (fX8_blue x7) fun r16 =>
        if r14 = r16 then
          zlet (l1 + 1) fun x19 =>
          (fX5_isGrey_2 n) t_wide t_high t_pixels x19
        else
          some 0
      else
        some 0
theorem fX5_isGrey_2_s (n : Nat) (t_wide : Int32) (t_high : Int32) (t_pixels : Nat → Int32) (l1 : Int32) : fX5_isGrey_2 (n + 1) t_wide t_high t_pixels l1 =
    zb1 (fX5_count t_wide t_high) fun r1 =>
    if r1 ≤ l1 then
      zb1 (fX5_isOpaque t_wide t_high t_pixels) fun r4 =>
      zbo r4 <|
      some r4
    else
      zrd t_pixels 64 l1 fun x7 =>
      zb1 (fX8_red x7) fun r9 =>
      zb1 (fX8_green x7) fun r11 =>
      if r9 = r11 then
        zb1 (fX8_green x7) fun r14 =>
        zb1 (fX8_blue x7) fun r16 =>
        if r14 = r16 then
          zlet (l1 + 1) fun x19 =>
          (fX5_isGrey_2 n) t_wide t_high t_pixels x19
        else
          some 0
      else
        some 0 := rfl
def fX5_isGrey (t_wide : Int32) (t_high : Int32) (t_pixels : Nat → Int32) : Option (Int32) :=
  fX5_isGrey_2 1000 t_wide t_high t_pixels 0
def rmX5_fill : Room := { frames := 1, cells := 0, slots := 0, locals := 23 }
theorem kX5_fill_9 {args : Array Value} {s : State} (h : ∀ w ∈ wsX5_fill, w.before args s = true) : (Cond.fieldLink RX5 9 "FourPictureFiles$Picture" "pixels" "[I").before args s = true := h _ (by decide +kernel)
theorem iX5_fill_X5 : ∀ w ∈ u_ws RX5 TX5 3, w ∈ wsX5_fill := by decide +kernel
theorem qX5_fill_J7_fill_53178_26 {args : Array Value} {s : State} (hts : ∀ w ∈ wsX5_fill, w.before args s = true) : CallB rmX5_fill s args RX5 26 yJ7_fill_53178 cJ7_fill_53178 4 none wsJ7_fill_53178 rmJ7_fill_53178 0 0 2 ∧ (Cond.static yJ7_fill_53178).before args s = true := va_cwS 2 hts gX5_fill_J7_fill_53178 rfl rfl rfl (by decide +kernel) ⟨Nat.le_of_ble_eq_true rfl, Nat.le_of_ble_eq_true rfl⟩
set_option maxHeartbeats 4000000 in
set_option maxRecDepth 100000 in
theorem wX5_fill_0 {p : Program} {l : Launch} {e : Env} {s : State} {m : MethodId} {args : Array Value} {below : List Frame} {meth : Method} {c : Code} {D : va_G} {A : Nat → Prop} {Q : State → Prop} {cI : ClassId} {h_t h_t_pixels : Nat} {t_wide : Int32} {t_high : Int32} {zt_pixels : Nat → Int32} (C : CallFix p m c cX5_fill 2 s args wsX5_fill RX5) (hN : zN s) (hK : va_K D vwCl [(cI, .int)] s) (hA : ∀ q, s.heap.size ≤ q → A q) (hE : zEv p l e rmX5_fill s m args below meth c cX5_fill D A Q (zwX5 cI h_t h_t_pixels t_wide t_high zt_pixels)) {t_pixels : Nat → Int32} {v0 : Int32} {H : Heap} {locs : List Loc} {ls : Array Slot} : fX5_fill t_pixels v0 = some zt_pixels → va_P D vwCl (zwX5 cI h_t h_t_pixels t_wide t_high t_pixels) H → va_D A (zwX5 cI h_t h_t_pixels t_wide t_high t_pixels) → va_S A s.heap H locs → lv_has ls 2 [(0, .ref h_t), (1, .int v0)] → W p l e rmX5_fill s m args below meth c H locs 0 0 Q (F0 m 0 ls []) := by
  intro hf hP hD hS hl
  obtain ⟨hx, hb, hml, hown, hts⟩ := id C
  unfold fX5_fill at hf
  refine lv_aload_n hx hb dX5_fill_0 rfl (lv_at hl 0 rfl) ?_
  refine va_get (D := D) (ci := 4) (v := .ref h_t_pixels) (C := RX5) (T := TX5) (N := 3) hx hb hts iX5_fill_X5 hown hK hP 0 rfl rfl 0 (by decide) (kX5_fill_9 hts) (fun _ h9 => h9) rfl dX5_fill_1 ?_
  refine lv_iload_n hx hb dX5_fill_4 rfl (lv_at hl 1 rfl) ?_
  obtain ⟨u1, hc2, hf⟩ := zb1_in hf
  refine zc_v (va_runS (As := [.ref h_t_pixels, .int v0]) (rest := []) C (mJ7_fill_53178 l D cI H.size h_t_pixels t_pixels v0 u1 hc2) (qX5_fill_J7_fill_53178_26 hts) ⟨zP_blind, zpre hK hN hP hD [1] rfl rfl⟩ rfl rfl hl.1 rfl (lv_room (Nat.le_of_ble_eq_true rfl)) dX5_fill_5 ⟨Nat.zero_le _, Nat.zero_le _⟩) hP hD hS hA [1] [0] [0, 1] (ws' := zwX5 cI h_t h_t_pixels t_wide t_high u1) rfl rfl rfl rfl rfl rfl (fun H locs hP hD hS => ?_)
  cases hf
  exact hE _ _ _ _ dX5_fill_8 hP hD hS
set_option maxHeartbeats 4000000 in
set_option maxRecDepth 100000 in
theorem mX5_fill (l : Launch) (D : va_G) (cI : ClassId) (sz : Nat) (h_t h_t_pixels : Nat) (t_wide : Int32) (t_high : Int32) (t_pixels : Nat → Int32) (v0 : Int32) (zt_pixels : Nat → Int32) (hf : fX5_fill t_pixels v0 = some zt_pixels) : Met l yX5_fill wsX5_fill rmX5_fill (va_Pc [.ref h_t, .int v0] (zP D [(cI, .int)] (zwX5 cI h_t h_t_pixels t_wide t_high t_pixels) sz)) (zQv D (zwX5 cI h_t h_t_pixels t_wide t_high t_pixels) sz (zwX5 cI h_t h_t_pixels t_wide t_high zt_pixels)) 0 0 (va_A (zwX5 cI h_t h_t_pixels t_wide t_high t_pixels) sz) := by
  refine Met.ofW (cc := cX5_fill) (maxL := 2) (ret := none) (by decide) rfl ?_
  intro p e s m args below meth c s₁ B hml hv
  obtain ⟨rfl, hsz, hP, hK, hD0, hN⟩ := hv
  subst hsz
  have C : CallFix p m c cX5_fill 2 s [.ref h_t, .int v0].toArray wsX5_fill RX5 := ⟨B.exec, B.bytes, hml, findClass_of_methodNamed B.named, atoms_spec (ws := wsX5_fill) B.pre⟩
  have hl := lv_entry ([.ref h_t, .int v0]) (n := 2) (Nat.le_of_ble_eq_true rfl)
  rw [lg_entry_eq]
  exact wX5_fill_0 (A := va_A (zwX5 cI h_t h_t_pixels t_wide t_high t_pixels) s.heap.size) C hN hK (fun q h => Or.inr h) (fun H locs pc ls d hP hD hS => zend_v C.1 C.2.1 B.returns B.notSynchronized d hP hD hS) hf hP hD0.self va_S.rf hl
def rmX5_begin : Room := { frames := 2, cells := 0, slots := 0, locals := 44 }
theorem kX5_begin_15 {args : Array Value} {s : State} (h : ∀ w ∈ wsX5_begin, w.before args s = true) : (Cond.fieldLink RX5 15 "FourPictureFiles$Picture" "wide" "I").before args s = true := h _ (by decide +kernel)
theorem kX5_begin_19 {args : Array Value} {s : State} (h : ∀ w ∈ wsX5_begin, w.before args s = true) : (Cond.fieldLink RX5 19 "FourPictureFiles$Picture" "high" "I").before args s = true := h _ (by decide +kernel)
theorem iX5_begin_X5 : ∀ w ∈ u_ws RX5 TX5 3, w ∈ wsX5_begin := by decide +kernel
theorem qX5_begin_X5_fill_22 {args : Array Value} {s : State} (hts : ∀ w ∈ wsX5_begin, w.before args s = true) : CallW rmX5_begin s args RX5 RX5 22 yX5_fill cX5_fill 2 none wsX5_fill rmX5_fill 0 0 1 := cwV 1 hts gX5_begin_X5_fill rfl rfl rfl (by decide +kernel) ⟨Nat.le_of_ble_eq_true rfl, Nat.le_of_ble_eq_true rfl⟩
set_option maxHeartbeats 4000000 in
set_option maxRecDepth 100000 in
theorem wX5_begin_0 {p : Program} {l : Launch} {e : Env} {s : State} {m : MethodId} {args : Array Value} {below : List Frame} {meth : Method} {c : Code} {D : va_G} {A : Nat → Prop} {Q : State → Prop} {cI : ClassId} {h_t h_t_pixels : Nat} {zt_wide : Int32} {zt_high : Int32} {zt_pixels : Nat → Int32} (C : CallFix p m c cX5_begin 3 s args wsX5_begin RX5) (hN : zN s) (hK : va_K D vwCl [(cI, .int)] s) (hA : ∀ q, s.heap.size ≤ q → A q) (hE : zEv p l e rmX5_begin s m args below meth c cX5_begin D A Q (zwX5 cI h_t h_t_pixels zt_wide zt_high zt_pixels)) {t_wide : Int32} {t_high : Int32} {t_pixels : Nat → Int32} {v0 : Int32} {v1 : Int32} {H : Heap} {locs : List Loc} {ls : Array Slot} : fX5_begin t_pixels v0 v1 = some (zt_wide, zt_high, zt_pixels) → va_P D vwCl (zwX5 cI h_t h_t_pixels t_wide t_high t_pixels) H → va_D A (zwX5 cI h_t h_t_pixels t_wide t_high t_pixels) → va_S A s.heap H locs → lv_has ls 3 [(0, .ref h_t), (1, .int v0), (2, .int v1)] → W p l e rmX5_begin s m args below meth c H locs 0 0 Q (F0 m 0 ls []) := by
  intro hf hP hD hS hl
  obtain ⟨hx, hb, hml, hown, hts⟩ := id C
  unfold fX5_begin at hf
  refine lv_aload_n hx hb dX5_begin_0 rfl (lv_at hl 0 rfl) ?_
  refine lv_iload_n hx hb dX5_begin_1 rfl (lv_at hl 1 rfl) ?_
  refine va_put (D := D) (ci := 4) (v := .int v0) (ty := .int) (C := RX5) (T := TX5) (N := 3) hx hb hts iX5_begin_X5 tyX5 tyX5_ok nmX5 hown hK hP hD hS 0 rfl rfl 1 (by decide) (kX5_begin_15 hts) (fun _ h9 => h9) rfl (by decide +kernel) rfl rfl (Nat.le_of_ble_eq_true rfl) dX5_begin_2 (fun H locs hP hD hS => ?_)
  replace hP : va_P D vwCl (zwX5 cI h_t h_t_pixels v0 t_high t_pixels) H := hP
  replace hD : va_D A (zwX5 cI h_t h_t_pixels v0 t_high t_pixels) := hD
  refine lv_aload_n hx hb dX5_begin_5 rfl (lv_at hl 0 rfl) ?_
  refine lv_iload_n hx hb dX5_begin_6 rfl (lv_at hl 2 rfl) ?_
  refine va_put (D := D) (ci := 4) (v := .int v1) (ty := .int) (C := RX5) (T := TX5) (N := 3) hx hb hts iX5_begin_X5 tyX5 tyX5_ok nmX5 hown hK hP hD hS 0 rfl rfl 2 (by decide) (kX5_begin_19 hts) (fun _ h9 => h9) rfl (by decide +kernel) rfl rfl (Nat.le_of_ble_eq_true rfl) dX5_begin_7 (fun H locs hP hD hS => ?_)
  replace hP : va_P D vwCl (zwX5 cI h_t h_t_pixels v0 v1 t_pixels) H := hP
  replace hD : va_D A (zwX5 cI h_t h_t_pixels v0 v1 t_pixels) := hD
  refine lv_aload_n hx hb dX5_begin_10 rfl (lv_at hl 0 rfl) ?_
  refine lv_sipush (v := 255) hx hb dX5_begin_11 (by decide) ?_
  obtain ⟨u1, hc2, hf⟩ := zb1_in hf
  refine zc_v (va_runV (As := [.int 255]) (rest := []) C (mX5_fill l D cI H.size h_t h_t_pixels v0 v1 t_pixels 255 u1 hc2) (qX5_begin_X5_fill_22 hts) ⟨zP_blind, va_recv hK hP (ci := 4) (q0 := 0) rfl rfl, zpre hK hN hP hD [0, 1] rfl rfl⟩ rfl rfl hl.1 rfl (lv_room (Nat.le_of_ble_eq_true rfl)) dX5_begin_14 ⟨Nat.zero_le _, Nat.zero_le _⟩) hP hD hS hA [0, 1] [] [0, 1] (ws' := zwX5 cI h_t h_t_pixels v0 v1 u1) rfl rfl rfl rfl rfl rfl (fun H locs hP hD hS => ?_)
  cases hf
  exact hE _ _ _ _ dX5_begin_17 hP hD hS
set_option maxHeartbeats 4000000 in
set_option maxRecDepth 100000 in
theorem mX5_begin (l : Launch) (D : va_G) (cI : ClassId) (sz : Nat) (h_t h_t_pixels : Nat) (t_wide : Int32) (t_high : Int32) (t_pixels : Nat → Int32) (v0 v1 : Int32) (zt_wide : Int32) (zt_high : Int32) (zt_pixels : Nat → Int32) (hf : fX5_begin t_pixels v0 v1 = some (zt_wide, zt_high, zt_pixels)) : Met l yX5_begin wsX5_begin rmX5_begin (va_Pc [.ref h_t, .int v0, .int v1] (zP D [(cI, .int)] (zwX5 cI h_t h_t_pixels t_wide t_high t_pixels) sz)) (zQv D (zwX5 cI h_t h_t_pixels t_wide t_high t_pixels) sz (zwX5 cI h_t h_t_pixels zt_wide zt_high zt_pixels)) 0 0 (va_A (zwX5 cI h_t h_t_pixels t_wide t_high t_pixels) sz) := by
  refine Met.ofW (cc := cX5_begin) (maxL := 3) (ret := none) (by decide) rfl ?_
  intro p e s m args below meth c s₁ B hml hv
  obtain ⟨rfl, hsz, hP, hK, hD0, hN⟩ := hv
  subst hsz
  have C : CallFix p m c cX5_begin 3 s [.ref h_t, .int v0, .int v1].toArray wsX5_begin RX5 := ⟨B.exec, B.bytes, hml, findClass_of_methodNamed B.named, atoms_spec (ws := wsX5_begin) B.pre⟩
  have hl := lv_entry ([.ref h_t, .int v0, .int v1]) (n := 3) (Nat.le_of_ble_eq_true rfl)
  rw [lg_entry_eq]
  exact wX5_begin_0 (A := va_A (zwX5 cI h_t h_t_pixels t_wide t_high t_pixels) s.heap.size) C hN hK (fun q h => Or.inr h) (fun H locs pc ls d hP hD hS => zend_v C.1 C.2.1 B.returns B.notSynchronized d hP hD hS) hf hP hD0.self va_S.rf hl
def rmX5_has : Room := { frames := 0, cells := 0, slots := 0, locals := 0 }
theorem kX5_has_15 {args : Array Value} {s : State} (h : ∀ w ∈ wsX5_has, w.before args s = true) : (Cond.fieldLink RX5 15 "FourPictureFiles$Picture" "wide" "I").before args s = true := h _ (by decide +kernel)
theorem kX5_has_19 {args : Array Value} {s : State} (h : ∀ w ∈ wsX5_has, w.before args s = true) : (Cond.fieldLink RX5 19 "FourPictureFiles$Picture" "high" "I").before args s = true := h _ (by decide +kernel)
theorem iX5_has_X5 : ∀ w ∈ u_ws RX5 TX5 3, w ∈ wsX5_has := by decide +kernel
set_option maxHeartbeats 4000000 in
set_option maxRecDepth 100000 in
theorem wX5_has_0 {p : Program} {l : Launch} {e : Env} {s : State} {m : MethodId} {args : Array Value} {below : List Frame} {meth : Method} {c : Code} {D : va_G} {A : Nat → Prop} {Q : State → Prop} {cI : ClassId} {h_t h_t_pixels : Nat} {t_wide : Int32} {t_high : Int32} {t_pixels : Nat → Int32} {r0 : Int32} (C : CallFix p m c cX5_has 3 s args wsX5_has RX5) (hN : zN s) (hK : va_K D vwCl [(cI, .int)] s) (hA : ∀ q, s.heap.size ≤ q → A q) (hE : zEz p l e rmX5_has s m args below meth c cX5_has D A Q (zwX5 cI h_t h_t_pixels t_wide t_high t_pixels) r0) {v0 : Int32} {v1 : Int32} {H : Heap} {locs : List Loc} {ls : Array Slot} : fX5_has t_wide t_high v0 v1 = some r0 → va_P D vwCl (zwX5 cI h_t h_t_pixels t_wide t_high t_pixels) H → va_D A (zwX5 cI h_t h_t_pixels t_wide t_high t_pixels) → va_S A s.heap H locs → lv_has ls 3 [(0, .ref h_t), (1, .int v0), (2, .int v1)] → W p l e rmX5_has s m args below meth c H locs 0 0 Q (F0 m 0 ls []) := by
  intro hf hP hD hS hl
  obtain ⟨hx, hb, hml, hown, hts⟩ := id C
  unfold fX5_has at hf
  refine lv_iload_n hx hb dX5_has_0 rfl (lv_at hl 1 rfl) ?_
  refine lv_if_lt (tgt := 28) hx hb dX5_has_1 (by decide) (fun c1 => ?_) (fun c1 => ?_)
  · replace hf := zif_t hf c1
    refine lv_iconst (v := 0) hx hb dX5_has_28 (by decide) ?_
    cases hf
    exact hE _ _ _ _ dX5_has_29 rfl hP hD hS
  · replace hf := zif_f hf c1
    refine lv_iload_n hx hb dX5_has_4 rfl (lv_at hl 1 rfl) ?_
    refine lv_aload_n hx hb dX5_has_5 rfl (lv_at hl 0 rfl) ?_
    refine va_get (D := D) (ci := 4) (v := .int t_wide) (C := RX5) (T := TX5) (N := 3) hx hb hts iX5_has_X5 hown hK hP 0 rfl rfl 1 (by decide) (kX5_has_15 hts) (fun _ h9 => h9) rfl dX5_has_6 ?_
    refine lv_icmp_ge (tgt := 28) hx hb dX5_has_9 (by decide) (fun c2 => ?_) (fun c2 => ?_)
    · replace hf := zif_t hf c2
      refine lv_iconst (v := 0) hx hb dX5_has_28 (by decide) ?_
      cases hf
      exact hE _ _ _ _ dX5_has_29 rfl hP hD hS
    · replace hf := zif_f hf c2
      refine lv_iload_n hx hb dX5_has_12 rfl (lv_at hl 2 rfl) ?_
      refine lv_if_lt (tgt := 28) hx hb dX5_has_13 (by decide) (fun c3 => ?_) (fun c3 => ?_)
      · replace hf := zif_t hf c3
        refine lv_iconst (v := 0) hx hb dX5_has_28 (by decide) ?_
        cases hf
        exact hE _ _ _ _ dX5_has_29 rfl hP hD hS
      · replace hf := zif_f hf c3
        refine lv_iload_n hx hb dX5_has_16 rfl (lv_at hl 2 rfl) ?_
        refine lv_aload_n hx hb dX5_has_17 rfl (lv_at hl 0 rfl) ?_
        refine va_get (D := D) (ci := 4) (v := .int t_high) (C := RX5) (T := TX5) (N := 3) hx hb hts iX5_has_X5 hown hK hP 0 rfl rfl 2 (by decide) (kX5_has_19 hts) (fun _ h9 => h9) rfl dX5_has_18 ?_
        refine lv_icmp_ge (tgt := 28) hx hb dX5_has_21 (by decide) (fun c4 => ?_) (fun c4 => ?_)
        · replace hf := zif_t hf c4
          refine lv_iconst (v := 0) hx hb dX5_has_28 (by decide) ?_
          cases hf
          exact hE _ _ _ _ dX5_has_29 rfl hP hD hS
        · replace hf := zif_f hf c4
          refine lv_iconst (v := 1) hx hb dX5_has_24 (by decide) ?_
          refine lv_goto (tgt := 29) hx hb dX5_has_25 (by decide) ?_
          cases hf
          exact hE _ _ _ _ dX5_has_29 rfl hP hD hS
set_option maxHeartbeats 4000000 in
set_option maxRecDepth 100000 in
theorem mX5_has (l : Launch) (D : va_G) (cI : ClassId) (sz : Nat) (h_t h_t_pixels : Nat) (t_wide : Int32) (t_high : Int32) (t_pixels : Nat → Int32) (v0 v1 : Int32) (r0 : Int32) (hf : fX5_has t_wide t_high v0 v1 = some r0) : Met l yX5_has wsX5_has rmX5_has (va_Pc [.ref h_t, .int v0, .int v1] (zP D [(cI, .int)] (zwX5 cI h_t h_t_pixels t_wide t_high t_pixels) sz)) (zQi D (zwX5 cI h_t h_t_pixels t_wide t_high t_pixels) sz r0 (zwX5 cI h_t h_t_pixels t_wide t_high t_pixels)) 0 0 (va_A (zwX5 cI h_t h_t_pixels t_wide t_high t_pixels) sz) := by
  refine Met.ofW (cc := cX5_has) (maxL := 3) (ret := (some .boolean)) (by decide) rfl ?_
  intro p e s m args below meth c s₁ B hml hv
  obtain ⟨rfl, hsz, hP, hK, hD0, hN⟩ := hv
  subst hsz
  have C : CallFix p m c cX5_has 3 s [.ref h_t, .int v0, .int v1].toArray wsX5_has RX5 := ⟨B.exec, B.bytes, hml, findClass_of_methodNamed B.named, atoms_spec (ws := wsX5_has) B.pre⟩
  have hl := lv_entry ([.ref h_t, .int v0, .int v1]) (n := 3) (Nat.le_of_ble_eq_true rfl)
  rw [lg_entry_eq]
  exact wX5_has_0 (A := va_A (zwX5 cI h_t h_t_pixels t_wide t_high t_pixels) s.heap.size) C hN hK (fun q h => Or.inr h) (fun H locs pc ls d hn hP hD hS => zend_z C.1 C.2.1 B.returns B.notSynchronized d hn hP hD hS) hf hP hD0.self va_S.rf hl
def rmX5_at : Room := { frames := 0, cells := 0, slots := 0, locals := 0 }
theorem kX5_at_9 {args : Array Value} {s : State} (h : ∀ w ∈ wsX5_at, w.before args s = true) : (Cond.fieldLink RX5 9 "FourPictureFiles$Picture" "pixels" "[I").before args s = true := h _ (by decide +kernel)
theorem kX5_at_15 {args : Array Value} {s : State} (h : ∀ w ∈ wsX5_at, w.before args s = true) : (Cond.fieldLink RX5 15 "FourPictureFiles$Picture" "wide" "I").before args s = true := h _ (by decide +kernel)
theorem iX5_at_X5 : ∀ w ∈ u_ws RX5 TX5 3, w ∈ wsX5_at := by decide +kernel
set_option maxHeartbeats 4000000 in
set_option maxRecDepth 100000 in
theorem wX5_at_0 {p : Program} {l : Launch} {e : Env} {s : State} {m : MethodId} {args : Array Value} {below : List Frame} {meth : Method} {c : Code} {D : va_G} {A : Nat → Prop} {Q : State → Prop} {cI : ClassId} {h_t h_t_pixels : Nat} {t_wide : Int32} {t_high : Int32} {t_pixels : Nat → Int32} {r0 : Int32} (C : CallFix p m c cX5_at 3 s args wsX5_at RX5) (hN : zN s) (hK : va_K D vwCl [(cI, .int)] s) (hA : ∀ q, s.heap.size ≤ q → A q) (hE : zEi p l e rmX5_at s m args below meth c cX5_at D A Q (zwX5 cI h_t h_t_pixels t_wide t_high t_pixels) r0) {v0 : Int32} {v1 : Int32} {H : Heap} {locs : List Loc} {ls : Array Slot} : fX5_at t_wide t_pixels v0 v1 = some r0 → va_P D vwCl (zwX5 cI h_t h_t_pixels t_wide t_high t_pixels) H → va_D A (zwX5 cI h_t h_t_pixels t_wide t_high t_pixels) → va_S A s.heap H locs → lv_has ls 3 [(0, .ref h_t), (1, .int v0), (2, .int v1)] → W p l e rmX5_at s m args below meth c H locs 0 0 Q (F0 m 0 ls []) := by
  intro hf hP hD hS hl
  obtain ⟨hx, hb, hml, hown, hts⟩ := id C
  unfold fX5_at at hf
  refine lv_aload_n hx hb dX5_at_0 rfl (lv_at hl 0 rfl) ?_
  refine va_get (D := D) (ci := 4) (v := .ref h_t_pixels) (C := RX5) (T := TX5) (N := 3) hx hb hts iX5_at_X5 hown hK hP 0 rfl rfl 0 (by decide) (kX5_at_9 hts) (fun _ h9 => h9) rfl dX5_at_1 ?_
  refine lv_iload_n hx hb dX5_at_4 rfl (lv_at hl 2 rfl) ?_
  refine lv_aload_n hx hb dX5_at_5 rfl (lv_at hl 0 rfl) ?_
  refine va_get (D := D) (ci := 4) (v := .int t_wide) (C := RX5) (T := TX5) (N := 3) hx hb hts iX5_at_X5 hown hK hP 0 rfl rfl 1 (by decide) (kX5_at_15 hts) (fun _ h9 => h9) rfl dX5_at_6 ?_
  refine lv_imul hx hb dX5_at_9 ?_
  refine lv_iload_n hx hb dX5_at_10 rfl (lv_at hl 1 rfl) ?_
  refine lv_iadd hx hb dX5_at_11 ?_
  obtain ⟨hg2, hf⟩ := zrd_in hf
  refine va_iald hx hb hK hP 1 0 rfl rfl hg2 dX5_at_12 ?_
  refine lv_topi (fun x1 ex1 => ?_)
  replace hf := hf x1 ex1
  clear ex1
  cases hf
  exact hE _ _ _ _ dX5_at_13 hP hD hS
set_option maxHeartbeats 4000000 in
set_option maxRecDepth 100000 in
theorem mX5_at (l : Launch) (D : va_G) (cI : ClassId) (sz : Nat) (h_t h_t_pixels : Nat) (t_wide : Int32) (t_high : Int32) (t_pixels : Nat → Int32) (v0 v1 : Int32) (r0 : Int32) (hf : fX5_at t_wide t_pixels v0 v1 = some r0) : Met l yX5_at wsX5_at rmX5_at (va_Pc [.ref h_t, .int v0, .int v1] (zP D [(cI, .int)] (zwX5 cI h_t h_t_pixels t_wide t_high t_pixels) sz)) (zQi D (zwX5 cI h_t h_t_pixels t_wide t_high t_pixels) sz r0 (zwX5 cI h_t h_t_pixels t_wide t_high t_pixels)) 0 0 (va_A (zwX5 cI h_t h_t_pixels t_wide t_high t_pixels) sz) := by
  refine Met.ofW (cc := cX5_at) (maxL := 3) (ret := (some .int)) (by decide) rfl ?_
  intro p e s m args below meth c s₁ B hml hv
  obtain ⟨rfl, hsz, hP, hK, hD0, hN⟩ := hv
  subst hsz
  have C : CallFix p m c cX5_at 3 s [.ref h_t, .int v0, .int v1].toArray wsX5_at RX5 := ⟨B.exec, B.bytes, hml, findClass_of_methodNamed B.named, atoms_spec (ws := wsX5_at) B.pre⟩
  have hl := lv_entry ([.ref h_t, .int v0, .int v1]) (n := 3) (Nat.le_of_ble_eq_true rfl)
  rw [lg_entry_eq]
  exact wX5_at_0 (A := va_A (zwX5 cI h_t h_t_pixels t_wide t_high t_pixels) s.heap.size) C hN hK (fun q h => Or.inr h) (fun H locs pc ls d hP hD hS => zend_i C.1 C.2.1 B.returns B.notSynchronized d hP hD hS) hf hP hD0.self va_S.rf hl
def rmX5_set : Room := { frames := 0, cells := 0, slots := 0, locals := 0 }
theorem kX5_set_9 {args : Array Value} {s : State} (h : ∀ w ∈ wsX5_set, w.before args s = true) : (Cond.fieldLink RX5 9 "FourPictureFiles$Picture" "pixels" "[I").before args s = true := h _ (by decide +kernel)
theorem kX5_set_15 {args : Array Value} {s : State} (h : ∀ w ∈ wsX5_set, w.before args s = true) : (Cond.fieldLink RX5 15 "FourPictureFiles$Picture" "wide" "I").before args s = true := h _ (by decide +kernel)
theorem iX5_set_X5 : ∀ w ∈ u_ws RX5 TX5 3, w ∈ wsX5_set := by decide +kernel
set_option maxHeartbeats 4000000 in
set_option maxRecDepth 100000 in
theorem wX5_set_0 {p : Program} {l : Launch} {e : Env} {s : State} {m : MethodId} {args : Array Value} {below : List Frame} {meth : Method} {c : Code} {D : va_G} {A : Nat → Prop} {Q : State → Prop} {cI : ClassId} {h_t h_t_pixels : Nat} {t_wide : Int32} {t_high : Int32} {zt_pixels : Nat → Int32} (C : CallFix p m c cX5_set 4 s args wsX5_set RX5) (hN : zN s) (hK : va_K D vwCl [(cI, .int)] s) (hA : ∀ q, s.heap.size ≤ q → A q) (hE : zEv p l e rmX5_set s m args below meth c cX5_set D A Q (zwX5 cI h_t h_t_pixels t_wide t_high zt_pixels)) {t_pixels : Nat → Int32} {v0 : Int32} {v1 : Int32} {v2 : Int32} {H : Heap} {locs : List Loc} {ls : Array Slot} : fX5_set t_wide t_pixels v0 v1 v2 = some zt_pixels → va_P D vwCl (zwX5 cI h_t h_t_pixels t_wide t_high t_pixels) H → va_D A (zwX5 cI h_t h_t_pixels t_wide t_high t_pixels) → va_S A s.heap H locs → lv_has ls 4 [(0, .ref h_t), (1, .int v0), (2, .int v1), (3, .int v2)] → W p l e rmX5_set s m args below meth c H locs 0 0 Q (F0 m 0 ls []) := by
  intro hf hP hD hS hl
  obtain ⟨hx, hb, hml, hown, hts⟩ := id C
  unfold fX5_set at hf
  refine lv_aload_n hx hb dX5_set_0 rfl (lv_at hl 0 rfl) ?_
  refine va_get (D := D) (ci := 4) (v := .ref h_t_pixels) (C := RX5) (T := TX5) (N := 3) hx hb hts iX5_set_X5 hown hK hP 0 rfl rfl 0 (by decide) (kX5_set_9 hts) (fun _ h9 => h9) rfl dX5_set_1 ?_
  refine lv_iload_n hx hb dX5_set_4 rfl (lv_at hl 2 rfl) ?_
  refine lv_aload_n hx hb dX5_set_5 rfl (lv_at hl 0 rfl) ?_
  refine va_get (D := D) (ci := 4) (v := .int t_wide) (C := RX5) (T := TX5) (N := 3) hx hb hts iX5_set_X5 hown hK hP 0 rfl rfl 1 (by decide) (kX5_set_15 hts) (fun _ h9 => h9) rfl dX5_set_6 ?_
  refine lv_imul hx hb dX5_set_9 ?_
  refine lv_iload_n hx hb dX5_set_10 rfl (lv_at hl 1 rfl) ?_
  refine lv_iadd hx hb dX5_set_11 ?_
  refine lv_iload_n hx hb dX5_set_12 rfl (lv_at hl 3 rfl) ?_
  obtain ⟨hg2, g1, eg1, hf⟩ := zwr_in hf
  refine va_iast hx hb hK hP hD hS 1 0 rfl rfl hg2 dX5_set_13 (fun H locs hP hD hS => ?_)
  replace hP : va_P D vwCl (zwX5 cI h_t h_t_pixels t_wide t_high g1) H := by rw [← eg1]; exact hP
  replace hD : va_D A (zwX5 cI h_t h_t_pixels t_wide t_high g1) := by rw [← eg1]; exact hD
  clear eg1
  cases hf
  exact hE _ _ _ _ dX5_set_14 hP hD hS
set_option maxHeartbeats 4000000 in
set_option maxRecDepth 100000 in
theorem mX5_set (l : Launch) (D : va_G) (cI : ClassId) (sz : Nat) (h_t h_t_pixels : Nat) (t_wide : Int32) (t_high : Int32) (t_pixels : Nat → Int32) (v0 v1 v2 : Int32) (zt_pixels : Nat → Int32) (hf : fX5_set t_wide t_pixels v0 v1 v2 = some zt_pixels) : Met l yX5_set wsX5_set rmX5_set (va_Pc [.ref h_t, .int v0, .int v1, .int v2] (zP D [(cI, .int)] (zwX5 cI h_t h_t_pixels t_wide t_high t_pixels) sz)) (zQv D (zwX5 cI h_t h_t_pixels t_wide t_high t_pixels) sz (zwX5 cI h_t h_t_pixels t_wide t_high zt_pixels)) 0 0 (va_A (zwX5 cI h_t h_t_pixels t_wide t_high t_pixels) sz) := by
  refine Met.ofW (cc := cX5_set) (maxL := 4) (ret := none) (by decide) rfl ?_
  intro p e s m args below meth c s₁ B hml hv
  obtain ⟨rfl, hsz, hP, hK, hD0, hN⟩ := hv
  subst hsz
  have C : CallFix p m c cX5_set 4 s [.ref h_t, .int v0, .int v1, .int v2].toArray wsX5_set RX5 := ⟨B.exec, B.bytes, hml, findClass_of_methodNamed B.named, atoms_spec (ws := wsX5_set) B.pre⟩
  have hl := lv_entry ([.ref h_t, .int v0, .int v1, .int v2]) (n := 4) (Nat.le_of_ble_eq_true rfl)
  rw [lg_entry_eq]
  exact wX5_set_0 (A := va_A (zwX5 cI h_t h_t_pixels t_wide t_high t_pixels) s.heap.size) C hN hK (fun q h => Or.inr h) (fun H locs pc ls d hP hD hS => zend_v C.1 C.2.1 B.returns B.notSynchronized d hP hD hS) hf hP hD0.self va_S.rf hl
def rmX5_count : Room := { frames := 0, cells := 0, slots := 0, locals := 0 }
theorem kX5_count_15 {args : Array Value} {s : State} (h : ∀ w ∈ wsX5_count, w.before args s = true) : (Cond.fieldLink RX5 15 "FourPictureFiles$Picture" "wide" "I").before args s = true := h _ (by decide +kernel)
theorem kX5_count_19 {args : Array Value} {s : State} (h : ∀ w ∈ wsX5_count, w.before args s = true) : (Cond.fieldLink RX5 19 "FourPictureFiles$Picture" "high" "I").before args s = true := h _ (by decide +kernel)
theorem iX5_count_X5 : ∀ w ∈ u_ws RX5 TX5 3, w ∈ wsX5_count := by decide +kernel
set_option maxHeartbeats 4000000 in
set_option maxRecDepth 100000 in
theorem wX5_count_0 {p : Program} {l : Launch} {e : Env} {s : State} {m : MethodId} {args : Array Value} {below : List Frame} {meth : Method} {c : Code} {D : va_G} {A : Nat → Prop} {Q : State → Prop} {cI : ClassId} {h_t h_t_pixels : Nat} {t_wide : Int32} {t_high : Int32} {t_pixels : Nat → Int32} {r0 : Int32} (C : CallFix p m c cX5_count 1 s args wsX5_count RX5) (hN : zN s) (hK : va_K D vwCl [(cI, .int)] s) (hA : ∀ q, s.heap.size ≤ q → A q) (hE : zEi p l e rmX5_count s m args below meth c cX5_count D A Q (zwX5 cI h_t h_t_pixels t_wide t_high t_pixels) r0) {H : Heap} {locs : List Loc} {ls : Array Slot} : fX5_count t_wide t_high = some r0 → va_P D vwCl (zwX5 cI h_t h_t_pixels t_wide t_high t_pixels) H → va_D A (zwX5 cI h_t h_t_pixels t_wide t_high t_pixels) → va_S A s.heap H locs → lv_has ls 1 [(0, .ref h_t)] → W p l e rmX5_count s m args below meth c H locs 0 0 Q (F0 m 0 ls []) := by
  intro hf hP hD hS hl
  obtain ⟨hx, hb, hml, hown, hts⟩ := id C
  unfold fX5_count at hf
  refine lv_aload_n hx hb dX5_count_0 rfl (lv_at hl 0 rfl) ?_
  refine va_get (D := D) (ci := 4) (v := .int t_wide) (C := RX5) (T := TX5) (N := 3) hx hb hts iX5_count_X5 hown hK hP 0 rfl rfl 1 (by decide) (kX5_count_15 hts) (fun _ h9 => h9) rfl dX5_count_1 ?_
  refine lv_aload_n hx hb dX5_count_4 rfl (lv_at hl 0 rfl) ?_
  refine va_get (D := D) (ci := 4) (v := .int t_high) (C := RX5) (T := TX5) (N := 3) hx hb hts iX5_count_X5 hown hK hP 0 rfl rfl 2 (by decide) (kX5_count_19 hts) (fun _ h9 => h9) rfl dX5_count_5 ?_
  refine lv_imul hx hb dX5_count_8 ?_
  cases hf
  exact hE _ _ _ _ dX5_count_9 hP hD hS
set_option maxHeartbeats 4000000 in
set_option maxRecDepth 100000 in
theorem mX5_count (l : Launch) (D : va_G) (cI : ClassId) (sz : Nat) (h_t h_t_pixels : Nat) (t_wide : Int32) (t_high : Int32) (t_pixels : Nat → Int32) (r0 : Int32) (hf : fX5_count t_wide t_high = some r0) : Met l yX5_count wsX5_count rmX5_count (va_Pc [.ref h_t] (zP D [(cI, .int)] (zwX5 cI h_t h_t_pixels t_wide t_high t_pixels) sz)) (zQi D (zwX5 cI h_t h_t_pixels t_wide t_high t_pixels) sz r0 (zwX5 cI h_t h_t_pixels t_wide t_high t_pixels)) 0 0 (va_A (zwX5 cI h_t h_t_pixels t_wide t_high t_pixels) sz) := by
  refine Met.ofW (cc := cX5_count) (maxL := 1) (ret := (some .int)) (by decide) rfl ?_
  intro p e s m args below meth c s₁ B hml hv
  obtain ⟨rfl, hsz, hP, hK, hD0, hN⟩ := hv
  subst hsz
  have C : CallFix p m c cX5_count 1 s [.ref h_t].toArray wsX5_count RX5 := ⟨B.exec, B.bytes, hml, findClass_of_methodNamed B.named, atoms_spec (ws := wsX5_count) B.pre⟩
  have hl := lv_entry ([.ref h_t]) (n := 1) (Nat.le_of_ble_eq_true rfl)
  rw [lg_entry_eq]
  exact wX5_count_0 (A := va_A (zwX5 cI h_t h_t_pixels t_wide t_high t_pixels) s.heap.size) C hN hK (fun q h => Or.inr h) (fun H locs pc ls d hP hD hS => zend_i C.1 C.2.1 B.returns B.notSynchronized d hP hD hS) hf hP hD0.self va_S.rf hl
def rmX5_become : Room := { frames := 1, cells := 0, slots := 0, locals := 60 }
theorem kX5_become_9 {args : Array Value} {s : State} (h : ∀ w ∈ wsX5_become, w.before args s = true) : (Cond.fieldLink RX5 9 "FourPictureFiles$Picture" "pixels" "[I").before args s = true := h _ (by decide +kernel)
theorem kX5_become_15 {args : Array Value} {s : State} (h : ∀ w ∈ wsX5_become, w.before args s = true) : (Cond.fieldLink RX5 15 "FourPictureFiles$Picture" "wide" "I").before args s = true := h _ (by decide +kernel)
theorem kX5_become_19 {args : Array Value} {s : State} (h : ∀ w ∈ wsX5_become, w.before args s = true) : (Cond.fieldLink RX5 19 "FourPictureFiles$Picture" "high" "I").before args s = true := h _ (by decide +kernel)
theorem iX5_become_X5 : ∀ w ∈ u_ws RX5 TX5 3, w ∈ wsX5_become := by decide +kernel
set_option maxHeartbeats 4000000 in
set_option maxRecDepth 100000 in
theorem wX5_become_0 {p : Program} {l : Launch} {e : Env} {s : State} {m : MethodId} {args : Array Value} {below : List Frame} {meth : Method} {c : Code} {D : va_G} {A : Nat → Prop} {Q : State → Prop} {cI : ClassId} {h_t h_t_pixels h_p h_p_pixels : Nat} {p_wide : Int32} {p_high : Int32} {p_pixels : Nat → Int32} {zt_wide : Int32} {zt_high : Int32} {zt_pixels : Nat → Int32} (C : CallFix p m c cX5_become 2 s args wsX5_become RX5) (hN : zN s) (hK : va_K D vwCl [(cI, .int)] s) (hA : ∀ q, s.heap.size ≤ q → A q) (hE : zEv p l e rmX5_become s m args below meth c cX5_become D A Q (zwX5 cI h_t h_t_pixels zt_wide zt_high zt_pixels ++ zwX5 cI h_p h_p_pixels p_wide p_high p_pixels)) {t_wide : Int32} {t_high : Int32} {t_pixels : Nat → Int32} {H : Heap} {locs : List Loc} {ls : Array Slot} : fX5_become t_pixels p_wide p_high p_pixels = some (zt_wide, zt_high, zt_pixels) → va_P D vwCl (zwX5 cI h_t h_t_pixels t_wide t_high t_pixels ++ zwX5 cI h_p h_p_pixels p_wide p_high p_pixels) H → va_D A (zwX5 cI h_t h_t_pixels t_wide t_high t_pixels ++ zwX5 cI h_p h_p_pixels p_wide p_high p_pixels) → va_S A s.heap H locs → lv_has ls 2 [(0, .ref h_t), (1, .ref h_p)] → W p l e rmX5_become s m args below meth c H locs 0 0 Q (F0 m 0 ls []) := by
  intro hf hP hD hS hl
  obtain ⟨hx, hb, hml, hown, hts⟩ := id C
  unfold fX5_become at hf
  refine lv_aload_n hx hb dX5_become_0 rfl (lv_at hl 0 rfl) ?_
  refine lv_aload_n hx hb dX5_become_1 rfl (lv_at hl 1 rfl) ?_
  refine va_get (D := D) (ci := 4) (v := .int p_wide) (C := RX5) (T := TX5) (N := 3) hx hb hts iX5_become_X5 hown hK hP 2 rfl rfl 1 (by decide) (kX5_become_15 hts) (fun _ h9 => h9) rfl dX5_become_2 ?_
  refine va_put (D := D) (ci := 4) (v := .int p_wide) (ty := .int) (C := RX5) (T := TX5) (N := 3) hx hb hts iX5_become_X5 tyX5 tyX5_ok nmX5 hown hK hP hD hS 0 rfl rfl 1 (by decide) (kX5_become_15 hts) (fun _ h9 => h9) rfl (by decide +kernel) rfl rfl (Nat.le_of_ble_eq_true rfl) dX5_become_5 (fun H locs hP hD hS => ?_)
  replace hP : va_P D vwCl (zwX5 cI h_t h_t_pixels p_wide t_high t_pixels ++ zwX5 cI h_p h_p_pixels p_wide p_high p_pixels) H := hP
  replace hD : va_D A (zwX5 cI h_t h_t_pixels p_wide t_high t_pixels ++ zwX5 cI h_p h_p_pixels p_wide p_high p_pixels) := hD
  refine lv_aload_n hx hb dX5_become_8 rfl (lv_at hl 0 rfl) ?_
  refine lv_aload_n hx hb dX5_become_9 rfl (lv_at hl 1 rfl) ?_
  refine va_get (D := D) (ci := 4) (v := .int p_high) (C := RX5) (T := TX5) (N := 3) hx hb hts iX5_become_X5 hown hK hP 2 rfl rfl 2 (by decide) (kX5_become_19 hts) (fun _ h9 => h9) rfl dX5_become_10 ?_
  refine va_put (D := D) (ci := 4) (v := .int p_high) (ty := .int) (C := RX5) (T := TX5) (N := 3) hx hb hts iX5_become_X5 tyX5 tyX5_ok nmX5 hown hK hP hD hS 0 rfl rfl 2 (by decide) (kX5_become_19 hts) (fun _ h9 => h9) rfl (by decide +kernel) rfl rfl (Nat.le_of_ble_eq_true rfl) dX5_become_13 (fun H locs hP hD hS => ?_)
  replace hP : va_P D vwCl (zwX5 cI h_t h_t_pixels p_wide p_high t_pixels ++ zwX5 cI h_p h_p_pixels p_wide p_high p_pixels) H := hP
  replace hD : va_D A (zwX5 cI h_t h_t_pixels p_wide p_high t_pixels ++ zwX5 cI h_p h_p_pixels p_wide p_high p_pixels) := hD
  refine lv_aload_n hx hb dX5_become_16 rfl (lv_at hl 1 rfl) ?_
  refine va_get (D := D) (ci := 4) (v := .ref h_p_pixels) (C := RX5) (T := TX5) (N := 3) hx hb hts iX5_become_X5 hown hK hP 2 rfl rfl 0 (by decide) (kX5_become_9 hts) (fun _ h9 => h9) rfl dX5_become_17 ?_
  refine lv_iconst (v := 0) hx hb dX5_become_20 (by decide) ?_
  refine lv_aload_n hx hb dX5_become_21 rfl (lv_at hl 0 rfl) ?_
  refine va_get (D := D) (ci := 4) (v := .ref h_t_pixels) (C := RX5) (T := TX5) (N := 3) hx hb hts iX5_become_X5 hown hK hP 0 rfl rfl 0 (by decide) (kX5_become_9 hts) (fun _ h9 => h9) rfl dX5_become_22 ?_
  refine lv_iconst (v := 0) hx hb dX5_become_25 (by decide) ?_
  refine lv_bipush (v := 64) hx hb dX5_become_26 (by decide) ?_
  obtain ⟨g1, eg1⟩ : ∃ y : Nat → Int32, y = va_cpy p_pixels t_pixels 0 0 64 := ⟨_, rfl⟩
  replace hf := zlet_in hf eg1
  refine va_copyi hx hb (hml.trans hl.1.symm) hown (hts (.methodLink RX5 31 arraycopyName) (by decide +kernel)) (hts (.native arraycopyName) (by decide +kernel)) (hts (.static arraycopyName) (by decide +kernel)) (hts (.initialized "java/lang/System") (by decide +kernel)) hK hP hD hS 3 1 0 0 rfl rfl rfl rfl rfl (by decide) (by decide) (by decide) (by decide) (by decide) (fun i _ => rfl) (Nat.le_of_ble_eq_true rfl) (Nat.le_of_ble_eq_true rfl) dX5_become_28 (fun H locs hP hD hS => ?_)
  replace hP : va_P D vwCl (zwX5 cI h_t h_t_pixels p_wide p_high g1 ++ zwX5 cI h_p h_p_pixels p_wide p_high p_pixels) H := by rw [eg1]; exact hP
  replace hD : va_D A (zwX5 cI h_t h_t_pixels p_wide p_high g1 ++ zwX5 cI h_p h_p_pixels p_wide p_high p_pixels) := by rw [eg1]; exact hD
  clear eg1
  cases hf
  exact hE _ _ _ _ dX5_become_31 hP hD hS
set_option maxHeartbeats 4000000 in
set_option maxRecDepth 100000 in
theorem mX5_become (l : Launch) (D : va_G) (cI : ClassId) (sz : Nat) (h_t h_t_pixels h_p h_p_pixels : Nat) (t_wide : Int32) (t_high : Int32) (t_pixels : Nat → Int32) (p_wide : Int32) (p_high : Int32) (p_pixels : Nat → Int32) (zt_wide : Int32) (zt_high : Int32) (zt_pixels : Nat → Int32) (hf : fX5_become t_pixels p_wide p_high p_pixels = some (zt_wide, zt_high, zt_pixels)) : Met l yX5_become wsX5_become rmX5_become (va_Pc [.ref h_t, .ref h_p] (zP D [(cI, .int)] (zwX5 cI h_t h_t_pixels t_wide t_high t_pixels ++ zwX5 cI h_p h_p_pixels p_wide p_high p_pixels) sz)) (zQv D (zwX5 cI h_t h_t_pixels t_wide t_high t_pixels ++ zwX5 cI h_p h_p_pixels p_wide p_high p_pixels) sz (zwX5 cI h_t h_t_pixels zt_wide zt_high zt_pixels ++ zwX5 cI h_p h_p_pixels p_wide p_high p_pixels)) 0 0 (va_A (zwX5 cI h_t h_t_pixels t_wide t_high t_pixels ++ zwX5 cI h_p h_p_pixels p_wide p_high p_pixels) sz) := by
  refine Met.ofW (cc := cX5_become) (maxL := 2) (ret := none) (by decide) rfl ?_
  intro p e s m args below meth c s₁ B hml hv
  obtain ⟨rfl, hsz, hP, hK, hD0, hN⟩ := hv
  subst hsz
  have C : CallFix p m c cX5_become 2 s [.ref h_t, .ref h_p].toArray wsX5_become RX5 := ⟨B.exec, B.bytes, hml, findClass_of_methodNamed B.named, atoms_spec (ws := wsX5_become) B.pre⟩
  have hl := lv_entry ([.ref h_t, .ref h_p]) (n := 2) (Nat.le_of_ble_eq_true rfl)
  rw [lg_entry_eq]
  exact wX5_become_0 (A := va_A (zwX5 cI h_t h_t_pixels t_wide t_high t_pixels ++ zwX5 cI h_p h_p_pixels p_wide p_high p_pixels) s.heap.size) C hN hK (fun q h => Or.inr h) (fun H locs pc ls d hP hD hS => zend_v C.1 C.2.1 B.returns B.notSynchronized d hP hD hS) hf hP hD0.self va_S.rf hl
def rmX5_becomeTurned : Room := { frames := 3, cells := 0, slots := 0, locals := 66 }
theorem kX5_becomeTurned_15 {args : Array Value} {s : State} (h : ∀ w ∈ wsX5_becomeTurned, w.before args s = true) : (Cond.fieldLink RX5 15 "FourPictureFiles$Picture" "wide" "I").before args s = true := h _ (by decide +kernel)
theorem kX5_becomeTurned_19 {args : Array Value} {s : State} (h : ∀ w ∈ wsX5_becomeTurned, w.before args s = true) : (Cond.fieldLink RX5 19 "FourPictureFiles$Picture" "high" "I").before args s = true := h _ (by decide +kernel)
theorem iX5_becomeTurned_X5 : ∀ w ∈ u_ws RX5 TX5 3, w ∈ wsX5_becomeTurned := by decide +kernel
theorem qX5_becomeTurned_X5_at_41 {args : Array Value} {s : State} (hts : ∀ w ∈ wsX5_becomeTurned, w.before args s = true) : CallW rmX5_becomeTurned s args RX5 RX5 41 yX5_at cX5_at 3 (some .int) wsX5_at rmX5_at 0 0 2 := cwV 2 hts gX5_becomeTurned_X5_at rfl rfl rfl (by decide +kernel) ⟨Nat.le_of_ble_eq_true rfl, Nat.le_of_ble_eq_true rfl⟩
theorem qX5_becomeTurned_X5_begin_37 {args : Array Value} {s : State} (hts : ∀ w ∈ wsX5_becomeTurned, w.before args s = true) : CallW rmX5_becomeTurned s args RX5 RX5 37 yX5_begin cX5_begin 3 none wsX5_begin rmX5_begin 0 0 2 := cwV 2 hts gX5_becomeTurned_X5_begin rfl rfl rfl (by decide +kernel) ⟨Nat.le_of_ble_eq_true rfl, Nat.le_of_ble_eq_true rfl⟩
theorem qX5_becomeTurned_X5_set_45 {args : Array Value} {s : State} (hts : ∀ w ∈ wsX5_becomeTurned, w.before args s = true) : CallW rmX5_becomeTurned s args RX5 RX5 45 yX5_set cX5_set 4 none wsX5_set rmX5_set 0 0 3 := cwV 3 hts gX5_becomeTurned_X5_set rfl rfl rfl (by decide +kernel) ⟨Nat.le_of_ble_eq_true rfl, Nat.le_of_ble_eq_true rfl⟩
set_option maxHeartbeats 4000000 in
set_option maxRecDepth 100000 in
theorem wX5_becomeTurned_24 {p : Program} {l : Launch} {e : Env} {s : State} {m : MethodId} {args : Array Value} {below : List Frame} {meth : Method} {c : Code} {D : va_G} {A : Nat → Prop} {Q : State → Prop} {cI : ClassId} {h_t h_t_pixels h_p h_p_pixels : Nat} {p_wide : Int32} {p_high : Int32} {p_pixels : Nat → Int32} {zt_wide : Int32} {zt_high : Int32} {zt_pixels : Nat → Int32} (C : CallFix p m c cX5_becomeTurned 4 s args wsX5_becomeTurned RX5) (hN : zN s) (hK : va_K D vwCl [(cI, .int)] s) (hA : ∀ q, s.heap.size ≤ q → A q) (hE : zEv p l e rmX5_becomeTurned s m args below meth c cX5_becomeTurned D A Q (zwX5 cI h_t h_t_pixels zt_wide zt_high zt_pixels ++ zwX5 cI h_p h_p_pixels p_wide p_high p_pixels)) {rc14 : Int32 → Int32 → (Nat → Int32) → Int32 → (Nat → Int32) → Int32 → Option (Int32 × Int32 × (Nat → Int32))} (hr_14 : ∀ {t_wide : Int32} {t_high : Int32} {t_pixels : Nat → Int32} {l2 : Int32} {H : Heap} {locs : List Loc} {ls : Array Slot}, rc14 t_wide t_high t_pixels p_wide p_pixels l2 = some (zt_wide, zt_high, zt_pixels) → va_P D vwCl (zwX5 cI h_t h_t_pixels t_wide t_high t_pixels ++ zwX5 cI h_p h_p_pixels p_wide p_high p_pixels) H → va_D A (zwX5 cI h_t h_t_pixels t_wide t_high t_pixels ++ zwX5 cI h_p h_p_pixels p_wide p_high p_pixels) → va_S A s.heap H locs → lv_has ls 4 [(0, .ref h_t), (1, .ref h_p), (2, .int l2)] → W p l e rmX5_becomeTurned s m args below meth c H locs 0 0 Q (F0 m 14 ls [])) (n : Nat) : ∀ {t_wide : Int32} {t_high : Int32} {t_pixels : Nat → Int32} {l2 : Int32} {l3 : Int32} {H : Heap} {locs : List Loc} {ls : Array Slot}, fX5_becomeTurned_24 rc14 n t_wide t_high t_pixels p_wide p_pixels l2 l3 = some (zt_wide, zt_high, zt_pixels) → va_P D vwCl (zwX5 cI h_t h_t_pixels t_wide t_high t_pixels ++ zwX5 cI h_p h_p_pixels p_wide p_high p_pixels) H → va_D A (zwX5 cI h_t h_t_pixels t_wide t_high t_pixels ++ zwX5 cI h_p h_p_pixels p_wide p_high p_pixels) → va_S A s.heap H locs → lv_has ls 4 [(0, .ref h_t), (1, .ref h_p), (2, .int l2), (3, .int l3)] → W p l e rmX5_becomeTurned s m args below meth c H locs 0 0 Q (F0 m 24 ls []) := by
  obtain ⟨hx, hb, hml, hown, hts⟩ := id C
  induction n with
  | zero =>
    intro t_wide t_high t_pixels l2 l3 H locs ls hf
    cases hf
  | succ n hr_24 =>
    intro t_wide t_high t_pixels l2 l3 H locs ls hf hP hD hS hl
    rw [fX5_becomeTurned_24_s] at hf
    refine lv_iload_n hx hb dX5_becomeTurned_24 rfl (lv_at hl 3 rfl) ?_
    refine lv_aload_n hx hb dX5_becomeTurned_25 rfl (lv_at hl 0 rfl) ?_
    refine va_get (D := D) (ci := 4) (v := .int t_wide) (C := RX5) (T := TX5) (N := 3) hx hb hts iX5_becomeTurned_X5 hown hK hP 0 rfl rfl 1 (by decide) (kX5_becomeTurned_15 hts) (fun _ h9 => h9) rfl dX5_becomeTurned_26 ?_
    refine lv_icmp_ge (tgt := 50) hx hb dX5_becomeTurned_29 (by decide) (fun c1 => ?_) (fun c1 => ?_)
    · replace hf := zif_t hf c1
      obtain ⟨x2, ex2⟩ : ∃ y : Int32, y = l2 + 1 := ⟨_, rfl⟩
      replace hf := zlet_in hf ex2
      refine lv_iinc (v := x2) (lv' := [(2, .int x2), (0, .ref h_t), (1, .ref h_p), (3, .int l3)]) hx hb dX5_becomeTurned_50 hl (k := 2) rfl (by rw [ex2]; rfl) (by decide) rfl (fun ls hl => ?_)
      clear ex2
      refine lv_goto (tgt := 14) hx hb dX5_becomeTurned_53 (by decide) ?_
      exact hr_14 hf hP hD hS (lv_sub hl [1, 2, 0] rfl)
    · replace hf := zif_f hf c1
      refine lv_aload_n hx hb dX5_becomeTurned_32 rfl (lv_at hl 0 rfl) ?_
      refine lv_iload_n hx hb dX5_becomeTurned_33 rfl (lv_at hl 3 rfl) ?_
      refine lv_iload_n hx hb dX5_becomeTurned_34 rfl (lv_at hl 2 rfl) ?_
      refine lv_aload_n hx hb dX5_becomeTurned_35 rfl (lv_at hl 1 rfl) ?_
      refine lv_iload_n hx hb dX5_becomeTurned_36 rfl (lv_at hl 2 rfl) ?_
      refine lv_iload_n hx hb dX5_becomeTurned_37 rfl (lv_at hl 3 rfl) ?_
      obtain ⟨r3, hc4, hf⟩ := zb1_in hf
      refine zc_i (va_runV (As := [.int l2, .int l3]) (rest := [.int l2, .int l3, .ref h_t]) C (mX5_at l D cI H.size h_p h_p_pixels p_wide p_high p_pixels l2 l3 r3 hc4) (qX5_becomeTurned_X5_at_41 hts) ⟨zP_blind, va_recv hK hP (ci := 4) (q0 := 2) rfl rfl, zpre hK hN hP hD [2, 3] rfl rfl⟩ rfl rfl hl.1 rfl (lv_room (Nat.le_of_ble_eq_true rfl)) dX5_becomeTurned_38 ⟨Nat.zero_le _, Nat.zero_le _⟩) hP hD hS hA [2, 3] [0, 1] [0, 1, 2, 3] (ws' := zwX5 cI h_t h_t_pixels t_wide t_high t_pixels ++ zwX5 cI h_p h_p_pixels p_wide p_high p_pixels) rfl rfl rfl rfl rfl rfl (fun H locs hP hD hS => ?_)
      obtain ⟨u5, hc6, hf⟩ := zb1_in hf
      refine zc_v (va_runV (As := [.int l3, .int l2, .int r3]) (rest := []) C (mX5_set l D cI H.size h_t h_t_pixels t_wide t_high t_pixels l3 l2 r3 u5 hc6) (qX5_becomeTurned_X5_set_45 hts) ⟨zP_blind, va_recv hK hP (ci := 4) (q0 := 0) rfl rfl, zpre hK hN hP hD [0, 1] rfl rfl⟩ rfl rfl hl.1 rfl (lv_room (Nat.le_of_ble_eq_true rfl)) dX5_becomeTurned_41 ⟨Nat.zero_le _, Nat.zero_le _⟩) hP hD hS hA [0, 1] [2, 3] [2, 3, 0, 1] (ws' := zwX5 cI h_t h_t_pixels t_wide t_high u5 ++ zwX5 cI h_p h_p_pixels p_wide p_high p_pixels) rfl rfl rfl rfl rfl rfl (fun H locs hP hD hS => ?_)
      obtain ⟨x7, ex7⟩ : ∃ y : Int32, y = l3 + 1 := ⟨_, rfl⟩
      replace hf := zlet_in hf ex7
      refine lv_iinc (v := x7) (lv' := [(3, .int x7), (0, .ref h_t), (1, .ref h_p), (2, .int l2)]) hx hb dX5_becomeTurned_44 hl (k := 3) rfl (by rw [ex7]; rfl) (by decide) rfl (fun ls hl => ?_)
      clear ex7
      refine lv_goto (tgt := 24) hx hb dX5_becomeTurned_47 (by decide) ?_
      exact hr_24 hf hP hD hS (lv_sub hl [1, 2, 3, 0] rfl)
set_option maxHeartbeats 4000000 in
set_option maxRecDepth 100000 in
theorem wX5_becomeTurned_14 {p : Program} {l : Launch} {e : Env} {s : State} {m : MethodId} {args : Array Value} {below : List Frame} {meth : Method} {c : Code} {D : va_G} {A : Nat → Prop} {Q : State → Prop} {cI : ClassId} {h_t h_t_pixels h_p h_p_pixels : Nat} {p_wide : Int32} {p_high : Int32} {p_pixels : Nat → Int32} {zt_wide : Int32} {zt_high : Int32} {zt_pixels : Nat → Int32} (C : CallFix p m c cX5_becomeTurned 4 s args wsX5_becomeTurned RX5) (hN : zN s) (hK : va_K D vwCl [(cI, .int)] s) (hA : ∀ q, s.heap.size ≤ q → A q) (hE : zEv p l e rmX5_becomeTurned s m args below meth c cX5_becomeTurned D A Q (zwX5 cI h_t h_t_pixels zt_wide zt_high zt_pixels ++ zwX5 cI h_p h_p_pixels p_wide p_high p_pixels)) (n : Nat) : ∀ {t_wide : Int32} {t_high : Int32} {t_pixels : Nat → Int32} {l2 : Int32} {H : Heap} {locs : List Loc} {ls : Array Slot}, fX5_becomeTurned_14 n t_wide t_high t_pixels p_wide p_pixels l2 = some (zt_wide, zt_high, zt_pixels) → va_P D vwCl (zwX5 cI h_t h_t_pixels t_wide t_high t_pixels ++ zwX5 cI h_p h_p_pixels p_wide p_high p_pixels) H → va_D A (zwX5 cI h_t h_t_pixels t_wide t_high t_pixels ++ zwX5 cI h_p h_p_pixels p_wide p_high p_pixels) → va_S A s.heap H locs → lv_has ls 4 [(0, .ref h_t), (1, .ref h_p), (2, .int l2)] → W p l e rmX5_becomeTurned s m args below meth c H locs 0 0 Q (F0 m 14 ls []) := by
  obtain ⟨hx, hb, hml, hown, hts⟩ := id C
  induction n with
  | zero =>
    intro t_wide t_high t_pixels l2 H locs ls hf
    cases hf
  | succ n hr_14 =>
    intro t_wide t_high t_pixels l2 H locs ls hf hP hD hS hl
    rw [fX5_becomeTurned_14_s] at hf
    refine lv_iload_n hx hb dX5_becomeTurned_14 rfl (lv_at hl 2 rfl) ?_
    refine lv_aload_n hx hb dX5_becomeTurned_15 rfl (lv_at hl 0 rfl) ?_
    refine va_get (D := D) (ci := 4) (v := .int t_high) (C := RX5) (T := TX5) (N := 3) hx hb hts iX5_becomeTurned_X5 hown hK hP 0 rfl rfl 2 (by decide) (kX5_becomeTurned_19 hts) (fun _ h9 => h9) rfl dX5_becomeTurned_16 ?_
    refine lv_icmp_ge (tgt := 56) hx hb dX5_becomeTurned_19 (by decide) (fun c1 => ?_) (fun c1 => ?_)
    · replace hf := zif_t hf c1
      cases hf
      exact hE _ _ _ _ dX5_becomeTurned_56 hP hD hS
    · replace hf := zif_f hf c1
      refine lv_iconst (v := 0) hx hb dX5_becomeTurned_22 (by decide) ?_
      refine lv_istore_n (lv' := [(3, .int 0), (0, .ref h_t), (1, .ref h_p), (2, .int l2)]) hx hb dX5_becomeTurned_23 rfl hl (by decide) rfl (fun ls hl => ?_)
      exact wX5_becomeTurned_24 C hN hK hA hE hr_14 1000 hf hP hD hS (lv_sub hl [1, 2, 3, 0] rfl)
set_option maxHeartbeats 4000000 in
set_option maxRecDepth 100000 in
theorem wX5_becomeTurned_0 {p : Program} {l : Launch} {e : Env} {s : State} {m : MethodId} {args : Array Value} {below : List Frame} {meth : Method} {c : Code} {D : va_G} {A : Nat → Prop} {Q : State → Prop} {cI : ClassId} {h_t h_t_pixels h_p h_p_pixels : Nat} {p_wide : Int32} {p_high : Int32} {p_pixels : Nat → Int32} {zt_wide : Int32} {zt_high : Int32} {zt_pixels : Nat → Int32} (C : CallFix p m c cX5_becomeTurned 4 s args wsX5_becomeTurned RX5) (hN : zN s) (hK : va_K D vwCl [(cI, .int)] s) (hA : ∀ q, s.heap.size ≤ q → A q) (hE : zEv p l e rmX5_becomeTurned s m args below meth c cX5_becomeTurned D A Q (zwX5 cI h_t h_t_pixels zt_wide zt_high zt_pixels ++ zwX5 cI h_p h_p_pixels p_wide p_high p_pixels)) {t_wide : Int32} {t_high : Int32} {t_pixels : Nat → Int32} {H : Heap} {locs : List Loc} {ls : Array Slot} : fX5_becomeTurned t_pixels p_wide p_high p_pixels = some (zt_wide, zt_high, zt_pixels) → va_P D vwCl (zwX5 cI h_t h_t_pixels t_wide t_high t_pixels ++ zwX5 cI h_p h_p_pixels p_wide p_high p_pixels) H → va_D A (zwX5 cI h_t h_t_pixels t_wide t_high t_pixels ++ zwX5 cI h_p h_p_pixels p_wide p_high p_pixels) → va_S A s.heap H locs → lv_has ls 4 [(0, .ref h_t), (1, .ref h_p)] → W p l e rmX5_becomeTurned s m args below meth c H locs 0 0 Q (F0 m 0 ls []) := by
  intro hf hP hD hS hl
  obtain ⟨hx, hb, hml, hown, hts⟩ := id C
  unfold fX5_becomeTurned at hf
  refine lv_aload_n hx hb dX5_becomeTurned_0 rfl (lv_at hl 0 rfl) ?_
  refine lv_aload_n hx hb dX5_becomeTurned_1 rfl (lv_at hl 1 rfl) ?_
  refine va_get (D := D) (ci := 4) (v := .int p_high) (C := RX5) (T := TX5) (N := 3) hx hb hts iX5_becomeTurned_X5 hown hK hP 2 rfl rfl 2 (by decide) (kX5_becomeTurned_19 hts) (fun _ h9 => h9) rfl dX5_becomeTurned_2 ?_
  refine lv_aload_n hx hb dX5_becomeTurned_5 rfl (lv_at hl 1 rfl) ?_
  refine va_get (D := D) (ci := 4) (v := .int p_wide) (C := RX5) (T := TX5) (N := 3) hx hb hts iX5_becomeTurned_X5 hown hK hP 2 rfl rfl 1 (by decide) (kX5_becomeTurned_15 hts) (fun _ h9 => h9) rfl dX5_becomeTurned_6 ?_
  obtain ⟨u1, u2, u3, hc4, hf⟩ := zb3_in hf
  refine zc_v (va_runV (As := [.int p_high, .int p_wide]) (rest := []) C (mX5_begin l D cI H.size h_t h_t_pixels t_wide t_high t_pixels p_high p_wide u1 u2 u3 hc4) (qX5_becomeTurned_X5_begin_37 hts) ⟨zP_blind, va_recv hK hP (ci := 4) (q0 := 0) rfl rfl, zpre hK hN hP hD [0, 1] rfl rfl⟩ rfl rfl hl.1 rfl (lv_room (Nat.le_of_ble_eq_true rfl)) dX5_becomeTurned_9 ⟨Nat.zero_le _, Nat.zero_le _⟩) hP hD hS hA [0, 1] [2, 3] [2, 3, 0, 1] (ws' := zwX5 cI h_t h_t_pixels u1 u2 u3 ++ zwX5 cI h_p h_p_pixels p_wide p_high p_pixels) rfl rfl rfl rfl rfl rfl (fun H locs hP hD hS => ?_)
  refine lv_iconst (v := 0) hx hb dX5_becomeTurned_12 (by decide) ?_
  refine lv_istore_n (lv' := [(2, .int 0), (0, .ref h_t), (1, .ref h_p)]) hx hb dX5_becomeTurned_13 rfl hl (by decide) rfl (fun ls hl => ?_)
  exact wX5_becomeTurned_14 C hN hK hA hE 1000 hf hP hD hS (lv_sub hl [1, 2, 0] rfl)
set_option maxHeartbeats 4000000 in
set_option maxRecDepth 100000 in
theorem mX5_becomeTurned (l : Launch) (D : va_G) (cI : ClassId) (sz : Nat) (h_t h_t_pixels h_p h_p_pixels : Nat) (t_wide : Int32) (t_high : Int32) (t_pixels : Nat → Int32) (p_wide : Int32) (p_high : Int32) (p_pixels : Nat → Int32) (zt_wide : Int32) (zt_high : Int32) (zt_pixels : Nat → Int32) (hf : fX5_becomeTurned t_pixels p_wide p_high p_pixels = some (zt_wide, zt_high, zt_pixels)) : Met l yX5_becomeTurned wsX5_becomeTurned rmX5_becomeTurned (va_Pc [.ref h_t, .ref h_p] (zP D [(cI, .int)] (zwX5 cI h_t h_t_pixels t_wide t_high t_pixels ++ zwX5 cI h_p h_p_pixels p_wide p_high p_pixels) sz)) (zQv D (zwX5 cI h_t h_t_pixels t_wide t_high t_pixels ++ zwX5 cI h_p h_p_pixels p_wide p_high p_pixels) sz (zwX5 cI h_t h_t_pixels zt_wide zt_high zt_pixels ++ zwX5 cI h_p h_p_pixels p_wide p_high p_pixels)) 0 0 (va_A (zwX5 cI h_t h_t_pixels t_wide t_high t_pixels ++ zwX5 cI h_p h_p_pixels p_wide p_high p_pixels) sz) := by
  refine Met.ofW (cc := cX5_becomeTurned) (maxL := 4) (ret := none) (by decide) rfl ?_
  intro p e s m args below meth c s₁ B hml hv
  obtain ⟨rfl, hsz, hP, hK, hD0, hN⟩ := hv
  subst hsz
  have C : CallFix p m c cX5_becomeTurned 4 s [.ref h_t, .ref h_p].toArray wsX5_becomeTurned RX5 := ⟨B.exec, B.bytes, hml, findClass_of_methodNamed B.named, atoms_spec (ws := wsX5_becomeTurned) B.pre⟩
  have hl := lv_entry ([.ref h_t, .ref h_p]) (n := 4) (Nat.le_of_ble_eq_true rfl)
  rw [lg_entry_eq]
  exact wX5_becomeTurned_0 (A := va_A (zwX5 cI h_t h_t_pixels t_wide t_high t_pixels ++ zwX5 cI h_p h_p_pixels p_wide p_high p_pixels) s.heap.size) C hN hK (fun q h => Or.inr h) (fun H locs pc ls d hP hD hS => zend_v C.1 C.2.1 B.returns B.notSynchronized d hP hD hS) hf hP hD0.self va_S.rf hl
def rmX5_exchange : Room := { frames := 0, cells := 0, slots := 0, locals := 0 }
theorem kX5_exchange_9 {args : Array Value} {s : State} (h : ∀ w ∈ wsX5_exchange, w.before args s = true) : (Cond.fieldLink RX5 9 "FourPictureFiles$Picture" "pixels" "[I").before args s = true := h _ (by decide +kernel)
theorem iX5_exchange_X5 : ∀ w ∈ u_ws RX5 TX5 3, w ∈ wsX5_exchange := by decide +kernel
set_option maxHeartbeats 4000000 in
set_option maxRecDepth 100000 in
theorem wX5_exchange_0 {p : Program} {l : Launch} {e : Env} {s : State} {m : MethodId} {args : Array Value} {below : List Frame} {meth : Method} {c : Code} {D : va_G} {A : Nat → Prop} {Q : State → Prop} {cI : ClassId} {h_t h_t_pixels : Nat} {t_wide : Int32} {t_high : Int32} {zt_pixels : Nat → Int32} (C : CallFix p m c cX5_exchange 4 s args wsX5_exchange RX5) (hN : zN s) (hK : va_K D vwCl [(cI, .int)] s) (hA : ∀ q, s.heap.size ≤ q → A q) (hE : zEv p l e rmX5_exchange s m args below meth c cX5_exchange D A Q (zwX5 cI h_t h_t_pixels t_wide t_high zt_pixels)) {t_pixels : Nat → Int32} {v0 : Int32} {v1 : Int32} {H : Heap} {locs : List Loc} {ls : Array Slot} : fX5_exchange t_pixels v0 v1 = some zt_pixels → va_P D vwCl (zwX5 cI h_t h_t_pixels t_wide t_high t_pixels) H → va_D A (zwX5 cI h_t h_t_pixels t_wide t_high t_pixels) → va_S A s.heap H locs → lv_has ls 4 [(0, .ref h_t), (1, .int v0), (2, .int v1)] → W p l e rmX5_exchange s m args below meth c H locs 0 0 Q (F0 m 0 ls []) := by
  intro hf hP hD hS hl
  obtain ⟨hx, hb, hml, hown, hts⟩ := id C
  unfold fX5_exchange at hf
  refine lv_aload_n hx hb dX5_exchange_0 rfl (lv_at hl 0 rfl) ?_
  refine va_get (D := D) (ci := 4) (v := .ref h_t_pixels) (C := RX5) (T := TX5) (N := 3) hx hb hts iX5_exchange_X5 hown hK hP 0 rfl rfl 0 (by decide) (kX5_exchange_9 hts) (fun _ h9 => h9) rfl dX5_exchange_1 ?_
  refine lv_iload_n hx hb dX5_exchange_4 rfl (lv_at hl 1 rfl) ?_
  obtain ⟨hg2, hf⟩ := zrd_in hf
  refine va_iald hx hb hK hP 1 0 rfl rfl hg2 dX5_exchange_5 ?_
  refine lv_topi (fun x1 ex1 => ?_)
  replace hf := hf x1 ex1
  clear ex1
  refine lv_istore_n (lv' := [(3, .int x1), (0, .ref h_t), (1, .int v0), (2, .int v1)]) hx hb dX5_exchange_6 rfl hl (by decide) rfl (fun ls hl => ?_)
  refine lv_aload_n hx hb dX5_exchange_7 rfl (lv_at hl 1 rfl) ?_
  refine va_get (D := D) (ci := 4) (v := .ref h_t_pixels) (C := RX5) (T := TX5) (N := 3) hx hb hts iX5_exchange_X5 hown hK hP 0 rfl rfl 0 (by decide) (kX5_exchange_9 hts) (fun _ h9 => h9) rfl dX5_exchange_8 ?_
  refine lv_iload_n hx hb dX5_exchange_11 rfl (lv_at hl 2 rfl) ?_
  refine lv_aload_n hx hb dX5_exchange_12 rfl (lv_at hl 1 rfl) ?_
  refine va_get (D := D) (ci := 4) (v := .ref h_t_pixels) (C := RX5) (T := TX5) (N := 3) hx hb hts iX5_exchange_X5 hown hK hP 0 rfl rfl 0 (by decide) (kX5_exchange_9 hts) (fun _ h9 => h9) rfl dX5_exchange_13 ?_
  refine lv_iload_n hx hb dX5_exchange_16 rfl (lv_at hl 3 rfl) ?_
  obtain ⟨hg4, hf⟩ := zrd_in hf
  refine va_iald hx hb hK hP 1 0 rfl rfl hg4 dX5_exchange_17 ?_
  refine lv_topi (fun x3 ex3 => ?_)
  replace hf := hf x3 ex3
  clear ex3
  obtain ⟨hg6, g5, eg5, hf⟩ := zwr_in hf
  refine va_iast hx hb hK hP hD hS 1 0 rfl rfl hg6 dX5_exchange_18 (fun H locs hP hD hS => ?_)
  replace hP : va_P D vwCl (zwX5 cI h_t h_t_pixels t_wide t_high g5) H := by rw [← eg5]; exact hP
  replace hD : va_D A (zwX5 cI h_t h_t_pixels t_wide t_high g5) := by rw [← eg5]; exact hD
  clear eg5
  refine lv_aload_n hx hb dX5_exchange_19 rfl (lv_at hl 1 rfl) ?_
  refine va_get (D := D) (ci := 4) (v := .ref h_t_pixels) (C := RX5) (T := TX5) (N := 3) hx hb hts iX5_exchange_X5 hown hK hP 0 rfl rfl 0 (by decide) (kX5_exchange_9 hts) (fun _ h9 => h9) rfl dX5_exchange_20 ?_
  refine lv_iload_n hx hb dX5_exchange_23 rfl (lv_at hl 3 rfl) ?_
  refine lv_iload_n hx hb dX5_exchange_24 rfl (lv_at hl 0 rfl) ?_
  obtain ⟨hg8, g7, eg7, hf⟩ := zwr_in hf
  refine va_iast hx hb hK hP hD hS 1 0 rfl rfl hg8 dX5_exchange_25 (fun H locs hP hD hS => ?_)
  replace hP : va_P D vwCl (zwX5 cI h_t h_t_pixels t_wide t_high g7) H := by rw [← eg7]; exact hP
  replace hD : va_D A (zwX5 cI h_t h_t_pixels t_wide t_high g7) := by rw [← eg7]; exact hD
  clear eg7
  cases hf
  exact hE _ _ _ _ dX5_exchange_26 hP hD hS
set_option maxHeartbeats 4000000 in
set_option maxRecDepth 100000 in
theorem mX5_exchange (l : Launch) (D : va_G) (cI : ClassId) (sz : Nat) (h_t h_t_pixels : Nat) (t_wide : Int32) (t_high : Int32) (t_pixels : Nat → Int32) (v0 v1 : Int32) (zt_pixels : Nat → Int32) (hf : fX5_exchange t_pixels v0 v1 = some zt_pixels) : Met l yX5_exchange wsX5_exchange rmX5_exchange (va_Pc [.ref h_t, .int v0, .int v1] (zP D [(cI, .int)] (zwX5 cI h_t h_t_pixels t_wide t_high t_pixels) sz)) (zQv D (zwX5 cI h_t h_t_pixels t_wide t_high t_pixels) sz (zwX5 cI h_t h_t_pixels t_wide t_high zt_pixels)) 0 0 (va_A (zwX5 cI h_t h_t_pixels t_wide t_high t_pixels) sz) := by
  refine Met.ofW (cc := cX5_exchange) (maxL := 4) (ret := none) (by decide) rfl ?_
  intro p e s m args below meth c s₁ B hml hv
  obtain ⟨rfl, hsz, hP, hK, hD0, hN⟩ := hv
  subst hsz
  have C : CallFix p m c cX5_exchange 4 s [.ref h_t, .int v0, .int v1].toArray wsX5_exchange RX5 := ⟨B.exec, B.bytes, hml, findClass_of_methodNamed B.named, atoms_spec (ws := wsX5_exchange) B.pre⟩
  have hl := lv_entry ([.ref h_t, .int v0, .int v1]) (n := 4) (Nat.le_of_ble_eq_true rfl)
  rw [lg_entry_eq]
  exact wX5_exchange_0 (A := va_A (zwX5 cI h_t h_t_pixels t_wide t_high t_pixels) s.heap.size) C hN hK (fun q h => Or.inr h) (fun H locs pc ls d hP hD hS => zend_v C.1 C.2.1 B.returns B.notSynchronized d hP hD hS) hf hP hD0.self va_S.rf hl
def rmX5_exchangeColumns : Room := { frames := 1, cells := 0, slots := 0, locals := 23 }
theorem kX5_exchangeColumns_15 {args : Array Value} {s : State} (h : ∀ w ∈ wsX5_exchangeColumns, w.before args s = true) : (Cond.fieldLink RX5 15 "FourPictureFiles$Picture" "wide" "I").before args s = true := h _ (by decide +kernel)
theorem kX5_exchangeColumns_19 {args : Array Value} {s : State} (h : ∀ w ∈ wsX5_exchangeColumns, w.before args s = true) : (Cond.fieldLink RX5 19 "FourPictureFiles$Picture" "high" "I").before args s = true := h _ (by decide +kernel)
theorem iX5_exchangeColumns_X5 : ∀ w ∈ u_ws RX5 TX5 3, w ∈ wsX5_exchangeColumns := by decide +kernel
theorem qX5_exchangeColumns_X5_exchange_49 {args : Array Value} {s : State} (hts : ∀ w ∈ wsX5_exchangeColumns, w.before args s = true) : CallW rmX5_exchangeColumns s args RX5 RX5 49 yX5_exchange cX5_exchange 4 none wsX5_exchange rmX5_exchange 0 0 2 := cwV 2 hts gX5_exchangeColumns_X5_exchange rfl rfl rfl (by decide +kernel) ⟨Nat.le_of_ble_eq_true rfl, Nat.le_of_ble_eq_true rfl⟩
set_option maxHeartbeats 4000000 in
set_option maxRecDepth 100000 in
theorem wX5_exchangeColumns_12 {p : Program} {l : Launch} {e : Env} {s : State} {m : MethodId} {args : Array Value} {below : List Frame} {meth : Method} {c : Code} {D : va_G} {A : Nat → Prop} {Q : State → Prop} {cI : ClassId} {h_t h_t_pixels : Nat} {t_wide : Int32} {t_high : Int32} {zt_pixels : Nat → Int32} (C : CallFix p m c cX5_exchangeColumns 3 s args wsX5_exchangeColumns RX5) (hN : zN s) (hK : va_K D vwCl [(cI, .int)] s) (hA : ∀ q, s.heap.size ≤ q → A q) (hE : zEv p l e rmX5_exchangeColumns s m args below meth c cX5_exchangeColumns D A Q (zwX5 cI h_t h_t_pixels t_wide t_high zt_pixels)) {rc2 : Int32 → Int32 → (Nat → Int32) → Int32 → Option ((Nat → Int32))} (hr_2 : ∀ {t_pixels : Nat → Int32} {l1 : Int32} {H : Heap} {locs : List Loc} {ls : Array Slot}, rc2 t_wide t_high t_pixels l1 = some zt_pixels → va_P D vwCl (zwX5 cI h_t h_t_pixels t_wide t_high t_pixels) H → va_D A (zwX5 cI h_t h_t_pixels t_wide t_high t_pixels) → va_S A s.heap H locs → lv_has ls 3 [(0, .ref h_t), (1, .int l1)] → W p l e rmX5_exchangeColumns s m args below meth c H locs 0 0 Q (F0 m 2 ls [])) (n : Nat) : ∀ {t_pixels : Nat → Int32} {l1 : Int32} {l2 : Int32} {H : Heap} {locs : List Loc} {ls : Array Slot}, fX5_exchangeColumns_12 rc2 n t_wide t_high t_pixels l1 l2 = some zt_pixels → va_P D vwCl (zwX5 cI h_t h_t_pixels t_wide t_high t_pixels) H → va_D A (zwX5 cI h_t h_t_pixels t_wide t_high t_pixels) → va_S A s.heap H locs → lv_has ls 3 [(0, .ref h_t), (1, .int l1), (2, .int l2)] → W p l e rmX5_exchangeColumns s m args below meth c H locs 0 0 Q (F0 m 12 ls []) := by
  obtain ⟨hx, hb, hml, hown, hts⟩ := id C
  induction n with
  | zero =>
    intro t_pixels l1 l2 H locs ls hf
    cases hf
  | succ n hr_12 =>
    intro t_pixels l1 l2 H locs ls hf hP hD hS hl
    rw [fX5_exchangeColumns_12_s] at hf
    refine lv_iload_n hx hb dX5_exchangeColumns_12 rfl (lv_at hl 2 rfl) ?_
    refine lv_aload_n hx hb dX5_exchangeColumns_13 rfl (lv_at hl 0 rfl) ?_
    refine va_get (D := D) (ci := 4) (v := .int t_wide) (C := RX5) (T := TX5) (N := 3) hx hb hts iX5_exchangeColumns_X5 hown hK hP 0 rfl rfl 1 (by decide) (kX5_exchangeColumns_15 hts) (fun _ h9 => h9) rfl dX5_exchangeColumns_14 ?_
    refine lv_iconst (v := 2) hx hb dX5_exchangeColumns_17 (by decide) ?_
    refine lv_idiv hx hb dX5_exchangeColumns_18 (by decide) ?_
    refine lv_icmp_ge (tgt := 55) hx hb dX5_exchangeColumns_19 (by decide) (fun c1 => ?_) (fun c1 => ?_)
    · replace hf := zif_t hf c1
      obtain ⟨x2, ex2⟩ : ∃ y : Int32, y = l1 + 1 := ⟨_, rfl⟩
      replace hf := zlet_in hf ex2
      refine lv_iinc (v := x2) (lv' := [(1, .int x2), (0, .ref h_t), (2, .int l2)]) hx hb dX5_exchangeColumns_55 hl (k := 1) rfl (by rw [ex2]; rfl) (by decide) rfl (fun ls hl => ?_)
      clear ex2
      refine lv_goto (tgt := 2) hx hb dX5_exchangeColumns_58 (by decide) ?_
      exact hr_2 hf hP hD hS (lv_sub hl [1, 0] rfl)
    · replace hf := zif_f hf c1
      refine lv_aload_n hx hb dX5_exchangeColumns_22 rfl (lv_at hl 0 rfl) ?_
      refine lv_iload_n hx hb dX5_exchangeColumns_23 rfl (lv_at hl 1 rfl) ?_
      refine lv_aload_n hx hb dX5_exchangeColumns_24 rfl (lv_at hl 0 rfl) ?_
      refine va_get (D := D) (ci := 4) (v := .int t_wide) (C := RX5) (T := TX5) (N := 3) hx hb hts iX5_exchangeColumns_X5 hown hK hP 0 rfl rfl 1 (by decide) (kX5_exchangeColumns_15 hts) (fun _ h9 => h9) rfl dX5_exchangeColumns_25 ?_
      refine lv_imul hx hb dX5_exchangeColumns_28 ?_
      refine lv_iload_n hx hb dX5_exchangeColumns_29 rfl (lv_at hl 2 rfl) ?_
      refine lv_iadd hx hb dX5_exchangeColumns_30 ?_
      refine lv_iload_n hx hb dX5_exchangeColumns_31 rfl (lv_at hl 1 rfl) ?_
      refine lv_aload_n hx hb dX5_exchangeColumns_32 rfl (lv_at hl 0 rfl) ?_
      refine va_get (D := D) (ci := 4) (v := .int t_wide) (C := RX5) (T := TX5) (N := 3) hx hb hts iX5_exchangeColumns_X5 hown hK hP 0 rfl rfl 1 (by decide) (kX5_exchangeColumns_15 hts) (fun _ h9 => h9) rfl dX5_exchangeColumns_33 ?_
      refine lv_imul hx hb dX5_exchangeColumns_36 ?_
      refine lv_aload_n hx hb dX5_exchangeColumns_37 rfl (lv_at hl 0 rfl) ?_
      refine va_get (D := D) (ci := 4) (v := .int t_wide) (C := RX5) (T := TX5) (N := 3) hx hb hts iX5_exchangeColumns_X5 hown hK hP 0 rfl rfl 1 (by decide) (kX5_exchangeColumns_15 hts) (fun _ h9 => h9) rfl dX5_exchangeColumns_38 ?_
      refine lv_iadd hx hb dX5_exchangeColumns_41 ?_
      refine lv_iconst (v := 1) hx hb dX5_exchangeColumns_42 (by decide) ?_
      refine lv_isub hx hb dX5_exchangeColumns_43 ?_
      refine lv_iload_n hx hb dX5_exchangeColumns_44 rfl (lv_at hl 2 rfl) ?_
      refine lv_isub hx hb dX5_exchangeColumns_45 ?_
      obtain ⟨u3, hc4, hf⟩ := zb1_in hf
      refine zc_v (va_runV (As := [.int ((l1 * t_wide) + l2), .int ((((l1 * t_wide) + t_wide) - 1) - l2)]) (rest := []) C (mX5_exchange l D cI H.size h_t h_t_pixels t_wide t_high t_pixels ((l1 * t_wide) + l2) ((((l1 * t_wide) + t_wide) - 1) - l2) u3 hc4) (qX5_exchangeColumns_X5_exchange_49 hts) ⟨zP_blind, va_recv hK hP (ci := 4) (q0 := 0) rfl rfl, zpre hK hN hP hD [0, 1] rfl rfl⟩ rfl rfl hl.1 rfl (lv_room (Nat.le_of_ble_eq_true rfl)) dX5_exchangeColumns_46 ⟨Nat.zero_le _, Nat.zero_le _⟩) hP hD hS hA [0, 1] [] [0, 1] (ws' := zwX5 cI h_t h_t_pixels t_wide t_high u3) rfl rfl rfl rfl rfl rfl (fun H locs hP hD hS => ?_)
      obtain ⟨x5, ex5⟩ : ∃ y : Int32, y = l2 + 1 := ⟨_, rfl⟩
      replace hf := zlet_in hf ex5
      refine lv_iinc (v := x5) (lv' := [(2, .int x5), (0, .ref h_t), (1, .int l1)]) hx hb dX5_exchangeColumns_49 hl (k := 2) rfl (by rw [ex5]; rfl) (by decide) rfl (fun ls hl => ?_)
      clear ex5
      refine lv_goto (tgt := 12) hx hb dX5_exchangeColumns_52 (by decide) ?_
      exact hr_12 hf hP hD hS (lv_sub hl [1, 2, 0] rfl)
set_option maxHeartbeats 4000000 in
set_option maxRecDepth 100000 in
theorem wX5_exchangeColumns_2 {p : Program} {l : Launch} {e : Env} {s : State} {m : MethodId} {args : Array Value} {below : List Frame} {meth : Method} {c : Code} {D : va_G} {A : Nat → Prop} {Q : State → Prop} {cI : ClassId} {h_t h_t_pixels : Nat} {t_wide : Int32} {t_high : Int32} {zt_pixels : Nat → Int32} (C : CallFix p m c cX5_exchangeColumns 3 s args wsX5_exchangeColumns RX5) (hN : zN s) (hK : va_K D vwCl [(cI, .int)] s) (hA : ∀ q, s.heap.size ≤ q → A q) (hE : zEv p l e rmX5_exchangeColumns s m args below meth c cX5_exchangeColumns D A Q (zwX5 cI h_t h_t_pixels t_wide t_high zt_pixels)) (n : Nat) : ∀ {t_pixels : Nat → Int32} {l1 : Int32} {H : Heap} {locs : List Loc} {ls : Array Slot}, fX5_exchangeColumns_2 n t_wide t_high t_pixels l1 = some zt_pixels → va_P D vwCl (zwX5 cI h_t h_t_pixels t_wide t_high t_pixels) H → va_D A (zwX5 cI h_t h_t_pixels t_wide t_high t_pixels) → va_S A s.heap H locs → lv_has ls 3 [(0, .ref h_t), (1, .int l1)] → W p l e rmX5_exchangeColumns s m args below meth c H locs 0 0 Q (F0 m 2 ls []) := by
  obtain ⟨hx, hb, hml, hown, hts⟩ := id C
  induction n with
  | zero =>
    intro t_pixels l1 H locs ls hf
    cases hf
  | succ n hr_2 =>
    intro t_pixels l1 H locs ls hf hP hD hS hl
    rw [fX5_exchangeColumns_2_s] at hf
    refine lv_iload_n hx hb dX5_exchangeColumns_2 rfl (lv_at hl 1 rfl) ?_
    refine lv_aload_n hx hb dX5_exchangeColumns_3 rfl (lv_at hl 0 rfl) ?_
    refine va_get (D := D) (ci := 4) (v := .int t_high) (C := RX5) (T := TX5) (N := 3) hx hb hts iX5_exchangeColumns_X5 hown hK hP 0 rfl rfl 2 (by decide) (kX5_exchangeColumns_19 hts) (fun _ h9 => h9) rfl dX5_exchangeColumns_4 ?_
    refine lv_icmp_ge (tgt := 61) hx hb dX5_exchangeColumns_7 (by decide) (fun c1 => ?_) (fun c1 => ?_)
    · replace hf := zif_t hf c1
      cases hf
      exact hE _ _ _ _ dX5_exchangeColumns_61 hP hD hS
    · replace hf := zif_f hf c1
      refine lv_iconst (v := 0) hx hb dX5_exchangeColumns_10 (by decide) ?_
      refine lv_istore_n (lv' := [(2, .int 0), (0, .ref h_t), (1, .int l1)]) hx hb dX5_exchangeColumns_11 rfl hl (by decide) rfl (fun ls hl => ?_)
      exact wX5_exchangeColumns_12 C hN hK hA hE hr_2 1000 hf hP hD hS (lv_sub hl [1, 2, 0] rfl)
set_option maxHeartbeats 4000000 in
set_option maxRecDepth 100000 in
theorem wX5_exchangeColumns_0 {p : Program} {l : Launch} {e : Env} {s : State} {m : MethodId} {args : Array Value} {below : List Frame} {meth : Method} {c : Code} {D : va_G} {A : Nat → Prop} {Q : State → Prop} {cI : ClassId} {h_t h_t_pixels : Nat} {t_wide : Int32} {t_high : Int32} {zt_pixels : Nat → Int32} (C : CallFix p m c cX5_exchangeColumns 3 s args wsX5_exchangeColumns RX5) (hN : zN s) (hK : va_K D vwCl [(cI, .int)] s) (hA : ∀ q, s.heap.size ≤ q → A q) (hE : zEv p l e rmX5_exchangeColumns s m args below meth c cX5_exchangeColumns D A Q (zwX5 cI h_t h_t_pixels t_wide t_high zt_pixels)) {t_pixels : Nat → Int32} {H : Heap} {locs : List Loc} {ls : Array Slot} : fX5_exchangeColumns t_wide t_high t_pixels = some zt_pixels → va_P D vwCl (zwX5 cI h_t h_t_pixels t_wide t_high t_pixels) H → va_D A (zwX5 cI h_t h_t_pixels t_wide t_high t_pixels) → va_S A s.heap H locs → lv_has ls 3 [(0, .ref h_t)] → W p l e rmX5_exchangeColumns s m args below meth c H locs 0 0 Q (F0 m 0 ls []) := by
  intro hf hP hD hS hl
  obtain ⟨hx, hb, hml, hown, hts⟩ := id C
  unfold fX5_exchangeColumns at hf
  refine lv_iconst (v := 0) hx hb dX5_exchangeColumns_0 (by decide) ?_
  refine lv_istore_n (lv' := [(1, .int 0), (0, .ref h_t)]) hx hb dX5_exchangeColumns_1 rfl hl (by decide) rfl (fun ls hl => ?_)
  exact wX5_exchangeColumns_2 C hN hK hA hE 1000 hf hP hD hS (lv_sub hl [1, 0] rfl)
set_option maxHeartbeats 4000000 in
set_option maxRecDepth 100000 in
theorem mX5_exchangeColumns (l : Launch) (D : va_G) (cI : ClassId) (sz : Nat) (h_t h_t_pixels : Nat) (t_wide : Int32) (t_high : Int32) (t_pixels : Nat → Int32) (zt_pixels : Nat → Int32) (hf : fX5_exchangeColumns t_wide t_high t_pixels = some zt_pixels) : Met l yX5_exchangeColumns wsX5_exchangeColumns rmX5_exchangeColumns (va_Pc [.ref h_t] (zP D [(cI, .int)] (zwX5 cI h_t h_t_pixels t_wide t_high t_pixels) sz)) (zQv D (zwX5 cI h_t h_t_pixels t_wide t_high t_pixels) sz (zwX5 cI h_t h_t_pixels t_wide t_high zt_pixels)) 0 0 (va_A (zwX5 cI h_t h_t_pixels t_wide t_high t_pixels) sz) := by
  refine Met.ofW (cc := cX5_exchangeColumns) (maxL := 3) (ret := none) (by decide) rfl ?_
  intro p e s m args below meth c s₁ B hml hv
  obtain ⟨rfl, hsz, hP, hK, hD0, hN⟩ := hv
  subst hsz
  have C : CallFix p m c cX5_exchangeColumns 3 s [.ref h_t].toArray wsX5_exchangeColumns RX5 := ⟨B.exec, B.bytes, hml, findClass_of_methodNamed B.named, atoms_spec (ws := wsX5_exchangeColumns) B.pre⟩
  have hl := lv_entry ([.ref h_t]) (n := 3) (Nat.le_of_ble_eq_true rfl)
  rw [lg_entry_eq]
  exact wX5_exchangeColumns_0 (A := va_A (zwX5 cI h_t h_t_pixels t_wide t_high t_pixels) s.heap.size) C hN hK (fun q h => Or.inr h) (fun H locs pc ls d hP hD hS => zend_v C.1 C.2.1 B.returns B.notSynchronized d hP hD hS) hf hP hD0.self va_S.rf hl
def rmX5_exchangeRows : Room := { frames := 1, cells := 0, slots := 0, locals := 23 }
theorem kX5_exchangeRows_15 {args : Array Value} {s : State} (h : ∀ w ∈ wsX5_exchangeRows, w.before args s = true) : (Cond.fieldLink RX5 15 "FourPictureFiles$Picture" "wide" "I").before args s = true := h _ (by decide +kernel)
theorem kX5_exchangeRows_19 {args : Array Value} {s : State} (h : ∀ w ∈ wsX5_exchangeRows, w.before args s = true) : (Cond.fieldLink RX5 19 "FourPictureFiles$Picture" "high" "I").before args s = true := h _ (by decide +kernel)
theorem iX5_exchangeRows_X5 : ∀ w ∈ u_ws RX5 TX5 3, w ∈ wsX5_exchangeRows := by decide +kernel
theorem qX5_exchangeRows_X5_exchange_49 {args : Array Value} {s : State} (hts : ∀ w ∈ wsX5_exchangeRows, w.before args s = true) : CallW rmX5_exchangeRows s args RX5 RX5 49 yX5_exchange cX5_exchange 4 none wsX5_exchange rmX5_exchange 0 0 2 := cwV 2 hts gX5_exchangeRows_X5_exchange rfl rfl rfl (by decide +kernel) ⟨Nat.le_of_ble_eq_true rfl, Nat.le_of_ble_eq_true rfl⟩
set_option maxHeartbeats 4000000 in
set_option maxRecDepth 100000 in
theorem wX5_exchangeRows_14 {p : Program} {l : Launch} {e : Env} {s : State} {m : MethodId} {args : Array Value} {below : List Frame} {meth : Method} {c : Code} {D : va_G} {A : Nat → Prop} {Q : State → Prop} {cI : ClassId} {h_t h_t_pixels : Nat} {t_wide : Int32} {t_high : Int32} {zt_pixels : Nat → Int32} (C : CallFix p m c cX5_exchangeRows 3 s args wsX5_exchangeRows RX5) (hN : zN s) (hK : va_K D vwCl [(cI, .int)] s) (hA : ∀ q, s.heap.size ≤ q → A q) (hE : zEv p l e rmX5_exchangeRows s m args below meth c cX5_exchangeRows D A Q (zwX5 cI h_t h_t_pixels t_wide t_high zt_pixels)) {rc2 : Int32 → Int32 → (Nat → Int32) → Int32 → Option ((Nat → Int32))} (hr_2 : ∀ {t_pixels : Nat → Int32} {l1 : Int32} {H : Heap} {locs : List Loc} {ls : Array Slot}, rc2 t_wide t_high t_pixels l1 = some zt_pixels → va_P D vwCl (zwX5 cI h_t h_t_pixels t_wide t_high t_pixels) H → va_D A (zwX5 cI h_t h_t_pixels t_wide t_high t_pixels) → va_S A s.heap H locs → lv_has ls 3 [(0, .ref h_t), (1, .int l1)] → W p l e rmX5_exchangeRows s m args below meth c H locs 0 0 Q (F0 m 2 ls [])) (n : Nat) : ∀ {t_pixels : Nat → Int32} {l1 : Int32} {l2 : Int32} {H : Heap} {locs : List Loc} {ls : Array Slot}, fX5_exchangeRows_14 rc2 n t_wide t_high t_pixels l1 l2 = some zt_pixels → va_P D vwCl (zwX5 cI h_t h_t_pixels t_wide t_high t_pixels) H → va_D A (zwX5 cI h_t h_t_pixels t_wide t_high t_pixels) → va_S A s.heap H locs → lv_has ls 3 [(0, .ref h_t), (1, .int l1), (2, .int l2)] → W p l e rmX5_exchangeRows s m args below meth c H locs 0 0 Q (F0 m 14 ls []) := by
  obtain ⟨hx, hb, hml, hown, hts⟩ := id C
  induction n with
  | zero =>
    intro t_pixels l1 l2 H locs ls hf
    cases hf
  | succ n hr_14 =>
    intro t_pixels l1 l2 H locs ls hf hP hD hS hl
    rw [fX5_exchangeRows_14_s] at hf
    refine lv_iload_n hx hb dX5_exchangeRows_14 rfl (lv_at hl 2 rfl) ?_
    refine lv_aload_n hx hb dX5_exchangeRows_15 rfl (lv_at hl 0 rfl) ?_
    refine va_get (D := D) (ci := 4) (v := .int t_wide) (C := RX5) (T := TX5) (N := 3) hx hb hts iX5_exchangeRows_X5 hown hK hP 0 rfl rfl 1 (by decide) (kX5_exchangeRows_15 hts) (fun _ h9 => h9) rfl dX5_exchangeRows_16 ?_
    refine lv_icmp_ge (tgt := 55) hx hb dX5_exchangeRows_19 (by decide) (fun c1 => ?_) (fun c1 => ?_)
    · replace hf := zif_t hf c1
      obtain ⟨x2, ex2⟩ : ∃ y : Int32, y = l1 + 1 := ⟨_, rfl⟩
      replace hf := zlet_in hf ex2
      refine lv_iinc (v := x2) (lv' := [(1, .int x2), (0, .ref h_t), (2, .int l2)]) hx hb dX5_exchangeRows_55 hl (k := 1) rfl (by rw [ex2]; rfl) (by decide) rfl (fun ls hl => ?_)
      clear ex2
      refine lv_goto (tgt := 2) hx hb dX5_exchangeRows_58 (by decide) ?_
      exact hr_2 hf hP hD hS (lv_sub hl [1, 0] rfl)
    · replace hf := zif_f hf c1
      refine lv_aload_n hx hb dX5_exchangeRows_22 rfl (lv_at hl 0 rfl) ?_
      refine lv_iload_n hx hb dX5_exchangeRows_23 rfl (lv_at hl 1 rfl) ?_
      refine lv_aload_n hx hb dX5_exchangeRows_24 rfl (lv_at hl 0 rfl) ?_
      refine va_get (D := D) (ci := 4) (v := .int t_wide) (C := RX5) (T := TX5) (N := 3) hx hb hts iX5_exchangeRows_X5 hown hK hP 0 rfl rfl 1 (by decide) (kX5_exchangeRows_15 hts) (fun _ h9 => h9) rfl dX5_exchangeRows_25 ?_
      refine lv_imul hx hb dX5_exchangeRows_28 ?_
      refine lv_iload_n hx hb dX5_exchangeRows_29 rfl (lv_at hl 2 rfl) ?_
      refine lv_iadd hx hb dX5_exchangeRows_30 ?_
      refine lv_aload_n hx hb dX5_exchangeRows_31 rfl (lv_at hl 0 rfl) ?_
      refine va_get (D := D) (ci := 4) (v := .int t_high) (C := RX5) (T := TX5) (N := 3) hx hb hts iX5_exchangeRows_X5 hown hK hP 0 rfl rfl 2 (by decide) (kX5_exchangeRows_19 hts) (fun _ h9 => h9) rfl dX5_exchangeRows_32 ?_
      refine lv_iconst (v := 1) hx hb dX5_exchangeRows_35 (by decide) ?_
      refine lv_isub hx hb dX5_exchangeRows_36 ?_
      refine lv_iload_n hx hb dX5_exchangeRows_37 rfl (lv_at hl 1 rfl) ?_
      refine lv_isub hx hb dX5_exchangeRows_38 ?_
      refine lv_aload_n hx hb dX5_exchangeRows_39 rfl (lv_at hl 0 rfl) ?_
      refine va_get (D := D) (ci := 4) (v := .int t_wide) (C := RX5) (T := TX5) (N := 3) hx hb hts iX5_exchangeRows_X5 hown hK hP 0 rfl rfl 1 (by decide) (kX5_exchangeRows_15 hts) (fun _ h9 => h9) rfl dX5_exchangeRows_40 ?_
      refine lv_imul hx hb dX5_exchangeRows_43 ?_
      refine lv_iload_n hx hb dX5_exchangeRows_44 rfl (lv_at hl 2 rfl) ?_
      refine lv_iadd hx hb dX5_exchangeRows_45 ?_
      obtain ⟨u3, hc4, hf⟩ := zb1_in hf
      refine zc_v (va_runV (As := [.int ((l1 * t_wide) + l2), .int ((((t_high - 1) - l1) * t_wide) + l2)]) (rest := []) C (mX5_exchange l D cI H.size h_t h_t_pixels t_wide t_high t_pixels ((l1 * t_wide) + l2) ((((t_high - 1) - l1) * t_wide) + l2) u3 hc4) (qX5_exchangeRows_X5_exchange_49 hts) ⟨zP_blind, va_recv hK hP (ci := 4) (q0 := 0) rfl rfl, zpre hK hN hP hD [0, 1] rfl rfl⟩ rfl rfl hl.1 rfl (lv_room (Nat.le_of_ble_eq_true rfl)) dX5_exchangeRows_46 ⟨Nat.zero_le _, Nat.zero_le _⟩) hP hD hS hA [0, 1] [] [0, 1] (ws' := zwX5 cI h_t h_t_pixels t_wide t_high u3) rfl rfl rfl rfl rfl rfl (fun H locs hP hD hS => ?_)
      obtain ⟨x5, ex5⟩ : ∃ y : Int32, y = l2 + 1 := ⟨_, rfl⟩
      replace hf := zlet_in hf ex5
      refine lv_iinc (v := x5) (lv' := [(2, .int x5), (0, .ref h_t), (1, .int l1)]) hx hb dX5_exchangeRows_49 hl (k := 2) rfl (by rw [ex5]; rfl) (by decide) rfl (fun ls hl => ?_)
      clear ex5
      refine lv_goto (tgt := 14) hx hb dX5_exchangeRows_52 (by decide) ?_
      exact hr_14 hf hP hD hS (lv_sub hl [1, 2, 0] rfl)
set_option maxHeartbeats 4000000 in
set_option maxRecDepth 100000 in
theorem wX5_exchangeRows_2 {p : Program} {l : Launch} {e : Env} {s : State} {m : MethodId} {args : Array Value} {below : List Frame} {meth : Method} {c : Code} {D : va_G} {A : Nat → Prop} {Q : State → Prop} {cI : ClassId} {h_t h_t_pixels : Nat} {t_wide : Int32} {t_high : Int32} {zt_pixels : Nat → Int32} (C : CallFix p m c cX5_exchangeRows 3 s args wsX5_exchangeRows RX5) (hN : zN s) (hK : va_K D vwCl [(cI, .int)] s) (hA : ∀ q, s.heap.size ≤ q → A q) (hE : zEv p l e rmX5_exchangeRows s m args below meth c cX5_exchangeRows D A Q (zwX5 cI h_t h_t_pixels t_wide t_high zt_pixels)) (n : Nat) : ∀ {t_pixels : Nat → Int32} {l1 : Int32} {H : Heap} {locs : List Loc} {ls : Array Slot}, fX5_exchangeRows_2 n t_wide t_high t_pixels l1 = some zt_pixels → va_P D vwCl (zwX5 cI h_t h_t_pixels t_wide t_high t_pixels) H → va_D A (zwX5 cI h_t h_t_pixels t_wide t_high t_pixels) → va_S A s.heap H locs → lv_has ls 3 [(0, .ref h_t), (1, .int l1)] → W p l e rmX5_exchangeRows s m args below meth c H locs 0 0 Q (F0 m 2 ls []) := by
  obtain ⟨hx, hb, hml, hown, hts⟩ := id C
  induction n with
  | zero =>
    intro t_pixels l1 H locs ls hf
    cases hf
  | succ n hr_2 =>
    intro t_pixels l1 H locs ls hf hP hD hS hl
    rw [fX5_exchangeRows_2_s] at hf
    refine lv_iload_n hx hb dX5_exchangeRows_2 rfl (lv_at hl 1 rfl) ?_
    refine lv_aload_n hx hb dX5_exchangeRows_3 rfl (lv_at hl 0 rfl) ?_
    refine va_get (D := D) (ci := 4) (v := .int t_high) (C := RX5) (T := TX5) (N := 3) hx hb hts iX5_exchangeRows_X5 hown hK hP 0 rfl rfl 2 (by decide) (kX5_exchangeRows_19 hts) (fun _ h9 => h9) rfl dX5_exchangeRows_4 ?_
    refine lv_iconst (v := 2) hx hb dX5_exchangeRows_7 (by decide) ?_
    refine lv_idiv hx hb dX5_exchangeRows_8 (by decide) ?_
    refine lv_icmp_ge (tgt := 61) hx hb dX5_exchangeRows_9 (by decide) (fun c1 => ?_) (fun c1 => ?_)
    · replace hf := zif_t hf c1
      cases hf
      exact hE _ _ _ _ dX5_exchangeRows_61 hP hD hS
    · replace hf := zif_f hf c1
      refine lv_iconst (v := 0) hx hb dX5_exchangeRows_12 (by decide) ?_
      refine lv_istore_n (lv' := [(2, .int 0), (0, .ref h_t), (1, .int l1)]) hx hb dX5_exchangeRows_13 rfl hl (by decide) rfl (fun ls hl => ?_)
      exact wX5_exchangeRows_14 C hN hK hA hE hr_2 1000 hf hP hD hS (lv_sub hl [1, 2, 0] rfl)
set_option maxHeartbeats 4000000 in
set_option maxRecDepth 100000 in
theorem wX5_exchangeRows_0 {p : Program} {l : Launch} {e : Env} {s : State} {m : MethodId} {args : Array Value} {below : List Frame} {meth : Method} {c : Code} {D : va_G} {A : Nat → Prop} {Q : State → Prop} {cI : ClassId} {h_t h_t_pixels : Nat} {t_wide : Int32} {t_high : Int32} {zt_pixels : Nat → Int32} (C : CallFix p m c cX5_exchangeRows 3 s args wsX5_exchangeRows RX5) (hN : zN s) (hK : va_K D vwCl [(cI, .int)] s) (hA : ∀ q, s.heap.size ≤ q → A q) (hE : zEv p l e rmX5_exchangeRows s m args below meth c cX5_exchangeRows D A Q (zwX5 cI h_t h_t_pixels t_wide t_high zt_pixels)) {t_pixels : Nat → Int32} {H : Heap} {locs : List Loc} {ls : Array Slot} : fX5_exchangeRows t_wide t_high t_pixels = some zt_pixels → va_P D vwCl (zwX5 cI h_t h_t_pixels t_wide t_high t_pixels) H → va_D A (zwX5 cI h_t h_t_pixels t_wide t_high t_pixels) → va_S A s.heap H locs → lv_has ls 3 [(0, .ref h_t)] → W p l e rmX5_exchangeRows s m args below meth c H locs 0 0 Q (F0 m 0 ls []) := by
  intro hf hP hD hS hl
  obtain ⟨hx, hb, hml, hown, hts⟩ := id C
  unfold fX5_exchangeRows at hf
  refine lv_iconst (v := 0) hx hb dX5_exchangeRows_0 (by decide) ?_
  refine lv_istore_n (lv' := [(1, .int 0), (0, .ref h_t)]) hx hb dX5_exchangeRows_1 rfl hl (by decide) rfl (fun ls hl => ?_)
  exact wX5_exchangeRows_2 C hN hK hA hE 1000 hf hP hD hS (lv_sub hl [1, 0] rfl)
set_option maxHeartbeats 4000000 in
set_option maxRecDepth 100000 in
theorem mX5_exchangeRows (l : Launch) (D : va_G) (cI : ClassId) (sz : Nat) (h_t h_t_pixels : Nat) (t_wide : Int32) (t_high : Int32) (t_pixels : Nat → Int32) (zt_pixels : Nat → Int32) (hf : fX5_exchangeRows t_wide t_high t_pixels = some zt_pixels) : Met l yX5_exchangeRows wsX5_exchangeRows rmX5_exchangeRows (va_Pc [.ref h_t] (zP D [(cI, .int)] (zwX5 cI h_t h_t_pixels t_wide t_high t_pixels) sz)) (zQv D (zwX5 cI h_t h_t_pixels t_wide t_high t_pixels) sz (zwX5 cI h_t h_t_pixels t_wide t_high zt_pixels)) 0 0 (va_A (zwX5 cI h_t h_t_pixels t_wide t_high t_pixels) sz) := by
  refine Met.ofW (cc := cX5_exchangeRows) (maxL := 3) (ret := none) (by decide) rfl ?_
  intro p e s m args below meth c s₁ B hml hv
  obtain ⟨rfl, hsz, hP, hK, hD0, hN⟩ := hv
  subst hsz
  have C : CallFix p m c cX5_exchangeRows 3 s [.ref h_t].toArray wsX5_exchangeRows RX5 := ⟨B.exec, B.bytes, hml, findClass_of_methodNamed B.named, atoms_spec (ws := wsX5_exchangeRows) B.pre⟩
  have hl := lv_entry ([.ref h_t]) (n := 3) (Nat.le_of_ble_eq_true rfl)
  rw [lg_entry_eq]
  exact wX5_exchangeRows_0 (A := va_A (zwX5 cI h_t h_t_pixels t_wide t_high t_pixels) s.heap.size) C hN hK (fun q h => Or.inr h) (fun H locs pc ls d hP hD hS => zend_v C.1 C.2.1 B.returns B.notSynchronized d hP hD hS) hf hP hD0.self va_S.rf hl
def rmX5_loseColour : Room := { frames := 1, cells := 0, slots := 0, locals := 23 }
theorem kX5_loseColour_9 {args : Array Value} {s : State} (h : ∀ w ∈ wsX5_loseColour, w.before args s = true) : (Cond.fieldLink RX5 9 "FourPictureFiles$Picture" "pixels" "[I").before args s = true := h _ (by decide +kernel)
theorem iX5_loseColour_X5 : ∀ w ∈ u_ws RX5 TX5 3, w ∈ wsX5_loseColour := by decide +kernel
theorem qX5_loseColour_X5_count_52 {args : Array Value} {s : State} (hts : ∀ w ∈ wsX5_loseColour, w.before args s = true) : CallW rmX5_loseColour s args RX5 RX5 52 yX5_count cX5_count 1 (some .int) wsX5_count rmX5_count 0 0 0 := cwV 0 hts gX5_loseColour_X5_count rfl rfl rfl (by decide +kernel) ⟨Nat.le_of_ble_eq_true rfl, Nat.le_of_ble_eq_true rfl⟩
theorem qX5_loseColour_X8_alpha_66 {args : Array Value} {s : State} (hts : ∀ w ∈ wsX5_loseColour, w.before args s = true) (hN : zN s) : va_CN rmX5_loseColour s args RX5 66 yX8_alpha RX8 cX8_alpha 1 (some .int) wsX8_alpha rmX8_alpha 0 0 1 ∧ (Cond.static yX8_alpha).before args s = true ∧ True := ⟨va_cnB 1 hts gX5_loseColour_X8_alpha_n66 rfl rfl rfl (hN.nw 37 rfl) (hts (.initialized RX8) (by decide +kernel)) (by decide +kernel) ⟨Nat.le_of_ble_eq_true rfl, Nat.le_of_ble_eq_true rfl⟩, hts (.static yX8_alpha) (by decide +kernel), trivial⟩
theorem qX5_loseColour_X8_blue_63 {args : Array Value} {s : State} (hts : ∀ w ∈ wsX5_loseColour, w.before args s = true) (hN : zN s) : va_CN rmX5_loseColour s args RX5 63 yX8_blue RX8 cX8_blue 1 (some .int) wsX8_blue rmX8_blue 0 0 1 ∧ (Cond.static yX8_blue).before args s = true ∧ True := ⟨va_cnB 1 hts gX5_loseColour_X8_blue_n63 rfl rfl rfl (hN.nw 36 rfl) (hts (.initialized RX8) (by decide +kernel)) (by decide +kernel) ⟨Nat.le_of_ble_eq_true rfl, Nat.le_of_ble_eq_true rfl⟩, hts (.static yX8_blue) (by decide +kernel), trivial⟩
theorem qX5_loseColour_X8_colour_69 {args : Array Value} {s : State} (hts : ∀ w ∈ wsX5_loseColour, w.before args s = true) (hN : zN s) : va_CN rmX5_loseColour s args RX5 69 yX8_colour RX8 cX8_colour 4 (some .int) wsX8_colour rmX8_colour 0 0 4 ∧ (Cond.static yX8_colour).before args s = true ∧ True := ⟨va_cnB 4 hts gX5_loseColour_X8_colour_n69 rfl rfl rfl (hN.nw 38 rfl) (hts (.initialized RX8) (by decide +kernel)) (by decide +kernel) ⟨Nat.le_of_ble_eq_true rfl, Nat.le_of_ble_eq_true rfl⟩, hts (.static yX8_colour) (by decide +kernel), trivial⟩
theorem qX5_loseColour_X8_green_60 {args : Array Value} {s : State} (hts : ∀ w ∈ wsX5_loseColour, w.before args s = true) (hN : zN s) : va_CN rmX5_loseColour s args RX5 60 yX8_green RX8 cX8_green 1 (some .int) wsX8_green rmX8_green 0 0 1 ∧ (Cond.static yX8_green).before args s = true ∧ True := ⟨va_cnB 1 hts gX5_loseColour_X8_green_n60 rfl rfl rfl (hN.nw 35 rfl) (hts (.initialized RX8) (by decide +kernel)) (by decide +kernel) ⟨Nat.le_of_ble_eq_true rfl, Nat.le_of_ble_eq_true rfl⟩, hts (.static yX8_green) (by decide +kernel), trivial⟩
theorem qX5_loseColour_X8_red_56 {args : Array Value} {s : State} (hts : ∀ w ∈ wsX5_loseColour, w.before args s = true) (hN : zN s) : va_CN rmX5_loseColour s args RX5 56 yX8_red RX8 cX8_red 1 (some .int) wsX8_red rmX8_red 0 0 1 ∧ (Cond.static yX8_red).before args s = true ∧ True := ⟨va_cnB 1 hts gX5_loseColour_X8_red_n56 rfl rfl rfl (hN.nw 34 rfl) (hts (.initialized RX8) (by decide +kernel)) (by decide +kernel) ⟨Nat.le_of_ble_eq_true rfl, Nat.le_of_ble_eq_true rfl⟩, hts (.static yX8_red) (by decide +kernel), trivial⟩
set_option maxHeartbeats 4000000 in
set_option maxRecDepth 100000 in
theorem wX5_loseColour_2 {p : Program} {l : Launch} {e : Env} {s : State} {m : MethodId} {args : Array Value} {below : List Frame} {meth : Method} {c : Code} {D : va_G} {A : Nat → Prop} {Q : State → Prop} {cI : ClassId} {h_t h_t_pixels : Nat} {t_wide : Int32} {t_high : Int32} {zt_pixels : Nat → Int32} (C : CallFix p m c cX5_loseColour 4 s args wsX5_loseColour RX5) (hN : zN s) (hK : va_K D vwCl [(cI, .int)] s) (hA : ∀ q, s.heap.size ≤ q → A q) (hE : zEv p l e rmX5_loseColour s m args below meth c cX5_loseColour D A Q (zwX5 cI h_t h_t_pixels t_wide t_high zt_pixels)) (n : Nat) : ∀ {t_pixels : Nat → Int32} {l1 : Int32} {H : Heap} {locs : List Loc} {ls : Array Slot}, fX5_loseColour_2 n t_wide t_high t_pixels l1 = some zt_pixels → va_P D vwCl (zwX5 cI h_t h_t_pixels t_wide t_high t_pixels) H → va_D A (zwX5 cI h_t h_t_pixels t_wide t_high t_pixels) → va_S A s.heap H locs → lv_has ls 4 [(0, .ref h_t), (1, .int l1)] → W p l e rmX5_loseColour s m args below meth c H locs 0 0 Q (F0 m 2 ls []) := by
  obtain ⟨hx, hb, hml, hown, hts⟩ := id C
  induction n with
  | zero =>
    intro t_pixels l1 H locs ls hf
    cases hf
  | succ n hr_2 =>
    intro t_pixels l1 H locs ls hf hP hD hS hl
    rw [fX5_loseColour_2_s] at hf
    refine lv_iload_n hx hb dX5_loseColour_2 rfl (lv_at hl 1 rfl) ?_
    refine lv_aload_n hx hb dX5_loseColour_3 rfl (lv_at hl 0 rfl) ?_
    obtain ⟨r1, hc2, hf⟩ := zb1_in hf
    refine zc_i (va_runV (As := []) (rest := [.int l1]) C (mX5_count l D cI H.size h_t h_t_pixels t_wide t_high t_pixels r1 hc2) (qX5_loseColour_X5_count_52 hts) ⟨zP_blind, va_recv hK hP (ci := 4) (q0 := 0) rfl rfl, zpre hK hN hP hD [0, 1] rfl rfl⟩ rfl rfl hl.1 rfl (lv_room (Nat.le_of_ble_eq_true rfl)) dX5_loseColour_4 ⟨Nat.zero_le _, Nat.zero_le _⟩) hP hD hS hA [0, 1] [] [0, 1] (ws' := zwX5 cI h_t h_t_pixels t_wide t_high t_pixels) rfl rfl rfl rfl rfl rfl (fun H locs hP hD hS => ?_)
    refine lv_icmp_ge (tgt := 68) hx hb dX5_loseColour_7 (by decide) (fun c3 => ?_) (fun c3 => ?_)
    · replace hf := zif_t hf c3
      cases hf
      exact hE _ _ _ _ dX5_loseColour_68 hP hD hS
    · replace hf := zif_f hf c3
      refine lv_aload_n hx hb dX5_loseColour_10 rfl (lv_at hl 0 rfl) ?_
      refine va_get (D := D) (ci := 4) (v := .ref h_t_pixels) (C := RX5) (T := TX5) (N := 3) hx hb hts iX5_loseColour_X5 hown hK hP 0 rfl rfl 0 (by decide) (kX5_loseColour_9 hts) (fun _ h9 => h9) rfl dX5_loseColour_11 ?_
      refine lv_iload_n hx hb dX5_loseColour_14 rfl (lv_at hl 1 rfl) ?_
      obtain ⟨hg5, hf⟩ := zrd_in hf
      refine va_iald hx hb hK hP 1 0 rfl rfl hg5 dX5_loseColour_15 ?_
      refine lv_topi (fun x4 ex4 => ?_)
      replace hf := hf x4 ex4
      clear ex4
      refine lv_istore_n (lv' := [(2, .int x4), (0, .ref h_t), (1, .int l1)]) hx hb dX5_loseColour_16 rfl hl (by decide) rfl (fun ls hl => ?_)
      refine lv_bipush (v := 77) hx hb dX5_loseColour_17 (by decide) ?_
      refine lv_iload_n hx hb dX5_loseColour_19 rfl (lv_at hl 0 rfl) ?_
      obtain ⟨r6, hc7, hf⟩ := zb1_in hf
      refine zc_i (va_runSN (As := [.int x4]) (rest := [.int 77]) C (mX8_red l D cI H.size x4 r6 hc7) (qX5_loseColour_X8_red_56 hts hN) ⟨zP_blind, zpre hK hN hP hD [] rfl rfl⟩ rfl rfl hl.1 rfl (lv_room (Nat.le_of_ble_eq_true rfl)) dX5_loseColour_20 ⟨Nat.zero_le _, Nat.zero_le _⟩) hP hD hS hA [] [0, 1] [0, 1] (ws' := zwX5 cI h_t h_t_pixels t_wide t_high t_pixels) rfl rfl rfl rfl rfl rfl (fun H locs hP hD hS => ?_)
      refine lv_imul hx hb dX5_loseColour_23 ?_
      refine lv_sipush (v := 150) hx hb dX5_loseColour_24 (by decide) ?_
      refine lv_iload_n hx hb dX5_loseColour_27 rfl (lv_at hl 0 rfl) ?_
      obtain ⟨r8, hc9, hf⟩ := zb1_in hf
      refine zc_i (va_runSN (As := [.int x4]) (rest := [.int 150, .int (77 * r6)]) C (mX8_green l D cI H.size x4 r8 hc9) (qX5_loseColour_X8_green_60 hts hN) ⟨zP_blind, zpre hK hN hP hD [] rfl rfl⟩ rfl rfl hl.1 rfl (lv_room (Nat.le_of_ble_eq_true rfl)) dX5_loseColour_28 ⟨Nat.zero_le _, Nat.zero_le _⟩) hP hD hS hA [] [0, 1] [0, 1] (ws' := zwX5 cI h_t h_t_pixels t_wide t_high t_pixels) rfl rfl rfl rfl rfl rfl (fun H locs hP hD hS => ?_)
      refine lv_imul hx hb dX5_loseColour_31 ?_
      refine lv_iadd hx hb dX5_loseColour_32 ?_
      refine lv_bipush (v := 29) hx hb dX5_loseColour_33 (by decide) ?_
      refine lv_iload_n hx hb dX5_loseColour_35 rfl (lv_at hl 0 rfl) ?_
      obtain ⟨r10, hc11, hf⟩ := zb1_in hf
      refine zc_i (va_runSN (As := [.int x4]) (rest := [.int 29, .int ((77 * r6) + (150 * r8))]) C (mX8_blue l D cI H.size x4 r10 hc11) (qX5_loseColour_X8_blue_63 hts hN) ⟨zP_blind, zpre hK hN hP hD [] rfl rfl⟩ rfl rfl hl.1 rfl (lv_room (Nat.le_of_ble_eq_true rfl)) dX5_loseColour_36 ⟨Nat.zero_le _, Nat.zero_le _⟩) hP hD hS hA [] [0, 1] [0, 1] (ws' := zwX5 cI h_t h_t_pixels t_wide t_high t_pixels) rfl rfl rfl rfl rfl rfl (fun H locs hP hD hS => ?_)
      refine lv_imul hx hb dX5_loseColour_39 ?_
      refine lv_iadd hx hb dX5_loseColour_40 ?_
      refine lv_sipush (v := 256) hx hb dX5_loseColour_41 (by decide) ?_
      refine lv_idiv hx hb dX5_loseColour_44 (by decide) ?_
      refine lv_topi (fun x12 ex12 => ?_)
      replace hf := zlet_in hf ex12
      clear ex12
      refine lv_istore_n (lv' := [(3, .int x12), (2, .int x4), (0, .ref h_t), (1, .int l1)]) hx hb dX5_loseColour_45 rfl hl (by decide) rfl (fun ls hl => ?_)
      refine lv_aload_n hx hb dX5_loseColour_46 rfl (lv_at hl 2 rfl) ?_
      refine va_get (D := D) (ci := 4) (v := .ref h_t_pixels) (C := RX5) (T := TX5) (N := 3) hx hb hts iX5_loseColour_X5 hown hK hP 0 rfl rfl 0 (by decide) (kX5_loseColour_9 hts) (fun _ h9 => h9) rfl dX5_loseColour_47 ?_
      refine lv_iload_n hx hb dX5_loseColour_50 rfl (lv_at hl 3 rfl) ?_
      refine lv_iload_n hx hb dX5_loseColour_51 rfl (lv_at hl 0 rfl) ?_
      refine lv_iload_n hx hb dX5_loseColour_52 rfl (lv_at hl 0 rfl) ?_
      refine lv_iload_n hx hb dX5_loseColour_53 rfl (lv_at hl 0 rfl) ?_
      refine lv_iload_n hx hb dX5_loseColour_54 rfl (lv_at hl 1 rfl) ?_
      obtain ⟨r13, hc14, hf⟩ := zb1_in hf
      refine zc_i (va_runSN (As := [.int x4]) (rest := [.int x12, .int x12, .int x12, .int l1, .ref h_t_pixels]) C (mX8_alpha l D cI H.size x4 r13 hc14) (qX5_loseColour_X8_alpha_66 hts hN) ⟨zP_blind, zpre hK hN hP hD [] rfl rfl⟩ rfl rfl hl.1 rfl (lv_room (Nat.le_of_ble_eq_true rfl)) dX5_loseColour_55 ⟨Nat.zero_le _, Nat.zero_le _⟩) hP hD hS hA [] [0, 1] [0, 1] (ws' := zwX5 cI h_t h_t_pixels t_wide t_high t_pixels) rfl rfl rfl rfl rfl rfl (fun H locs hP hD hS => ?_)
      obtain ⟨r15, hc16, hf⟩ := zb1_in hf
      refine zc_i (va_runSN (As := [.int x12, .int x12, .int x12, .int r13]) (rest := [.int l1, .ref h_t_pixels]) C (mX8_colour l D cI H.size x12 x12 x12 r13 r15 hc16) (qX5_loseColour_X8_colour_69 hts hN) ⟨zP_blind, zpre hK hN hP hD [] rfl rfl⟩ rfl rfl hl.1 rfl (lv_room (Nat.le_of_ble_eq_true rfl)) dX5_loseColour_58 ⟨Nat.zero_le _, Nat.zero_le _⟩) hP hD hS hA [] [0, 1] [0, 1] (ws' := zwX5 cI h_t h_t_pixels t_wide t_high t_pixels) rfl rfl rfl rfl rfl rfl (fun H locs hP hD hS => ?_)
      obtain ⟨hg18, g17, eg17, hf⟩ := zwr_in hf
      refine va_iast hx hb hK hP hD hS 1 0 rfl rfl hg18 dX5_loseColour_61 (fun H locs hP hD hS => ?_)
      replace hP : va_P D vwCl (zwX5 cI h_t h_t_pixels t_wide t_high g17) H := by rw [← eg17]; exact hP
      replace hD : va_D A (zwX5 cI h_t h_t_pixels t_wide t_high g17) := by rw [← eg17]; exact hD
      clear eg17
      obtain ⟨x19, ex19⟩ : ∃ y : Int32, y = l1 + 1 := ⟨_, rfl⟩
      replace hf := zlet_in hf ex19
      refine lv_iinc (v := x19) (lv' := [(1, .int x19), (3, .int x12), (2, .int x4), (0, .ref h_t)]) hx hb dX5_loseColour_62 hl (k := 3) rfl (by rw [ex19]; rfl) (by decide) rfl (fun ls hl => ?_)
      clear ex19
      refine lv_goto (tgt := 2) hx hb dX5_loseColour_65 (by decide) ?_
      exact hr_2 hf hP hD hS (lv_sub hl [3, 0] rfl)
set_option maxHeartbeats 4000000 in
set_option maxRecDepth 100000 in
theorem wX5_loseColour_0 {p : Program} {l : Launch} {e : Env} {s : State} {m : MethodId} {args : Array Value} {below : List Frame} {meth : Method} {c : Code} {D : va_G} {A : Nat → Prop} {Q : State → Prop} {cI : ClassId} {h_t h_t_pixels : Nat} {t_wide : Int32} {t_high : Int32} {zt_pixels : Nat → Int32} (C : CallFix p m c cX5_loseColour 4 s args wsX5_loseColour RX5) (hN : zN s) (hK : va_K D vwCl [(cI, .int)] s) (hA : ∀ q, s.heap.size ≤ q → A q) (hE : zEv p l e rmX5_loseColour s m args below meth c cX5_loseColour D A Q (zwX5 cI h_t h_t_pixels t_wide t_high zt_pixels)) {t_pixels : Nat → Int32} {H : Heap} {locs : List Loc} {ls : Array Slot} : fX5_loseColour t_wide t_high t_pixels = some zt_pixels → va_P D vwCl (zwX5 cI h_t h_t_pixels t_wide t_high t_pixels) H → va_D A (zwX5 cI h_t h_t_pixels t_wide t_high t_pixels) → va_S A s.heap H locs → lv_has ls 4 [(0, .ref h_t)] → W p l e rmX5_loseColour s m args below meth c H locs 0 0 Q (F0 m 0 ls []) := by
  intro hf hP hD hS hl
  obtain ⟨hx, hb, hml, hown, hts⟩ := id C
  unfold fX5_loseColour at hf
  refine lv_iconst (v := 0) hx hb dX5_loseColour_0 (by decide) ?_
  refine lv_istore_n (lv' := [(1, .int 0), (0, .ref h_t)]) hx hb dX5_loseColour_1 rfl hl (by decide) rfl (fun ls hl => ?_)
  exact wX5_loseColour_2 C hN hK hA hE 1000 hf hP hD hS (lv_sub hl [1, 0] rfl)
set_option maxHeartbeats 4000000 in
set_option maxRecDepth 100000 in
theorem mX5_loseColour (l : Launch) (D : va_G) (cI : ClassId) (sz : Nat) (h_t h_t_pixels : Nat) (t_wide : Int32) (t_high : Int32) (t_pixels : Nat → Int32) (zt_pixels : Nat → Int32) (hf : fX5_loseColour t_wide t_high t_pixels = some zt_pixels) : Met l yX5_loseColour wsX5_loseColour rmX5_loseColour (va_Pc [.ref h_t] (zP D [(cI, .int)] (zwX5 cI h_t h_t_pixels t_wide t_high t_pixels) sz)) (zQv D (zwX5 cI h_t h_t_pixels t_wide t_high t_pixels) sz (zwX5 cI h_t h_t_pixels t_wide t_high zt_pixels)) 0 0 (va_A (zwX5 cI h_t h_t_pixels t_wide t_high t_pixels) sz) := by
  refine Met.ofW (cc := cX5_loseColour) (maxL := 4) (ret := none) (by decide) rfl ?_
  intro p e s m args below meth c s₁ B hml hv
  obtain ⟨rfl, hsz, hP, hK, hD0, hN⟩ := hv
  subst hsz
  have C : CallFix p m c cX5_loseColour 4 s [.ref h_t].toArray wsX5_loseColour RX5 := ⟨B.exec, B.bytes, hml, findClass_of_methodNamed B.named, atoms_spec (ws := wsX5_loseColour) B.pre⟩
  have hl := lv_entry ([.ref h_t]) (n := 4) (Nat.le_of_ble_eq_true rfl)
  rw [lg_entry_eq]
  exact wX5_loseColour_0 (A := va_A (zwX5 cI h_t h_t_pixels t_wide t_high t_pixels) s.heap.size) C hN hK (fun q h => Or.inr h) (fun H locs pc ls d hP hD hS => zend_v C.1 C.2.1 B.returns B.notSynchronized d hP hD hS) hf hP hD0.self va_S.rf hl
def rmX5_becomeOpaque : Room := { frames := 1, cells := 0, slots := 0, locals := 20 }
theorem kX5_becomeOpaque_9 {args : Array Value} {s : State} (h : ∀ w ∈ wsX5_becomeOpaque, w.before args s = true) : (Cond.fieldLink RX5 9 "FourPictureFiles$Picture" "pixels" "[I").before args s = true := h _ (by decide +kernel)
theorem iX5_becomeOpaque_X5 : ∀ w ∈ u_ws RX5 TX5 3, w ∈ wsX5_becomeOpaque := by decide +kernel
theorem qX5_becomeOpaque_X5_count_52 {args : Array Value} {s : State} (hts : ∀ w ∈ wsX5_becomeOpaque, w.before args s = true) : CallW rmX5_becomeOpaque s args RX5 RX5 52 yX5_count cX5_count 1 (some .int) wsX5_count rmX5_count 0 0 0 := cwV 0 hts gX5_becomeOpaque_X5_count rfl rfl rfl (by decide +kernel) ⟨Nat.le_of_ble_eq_true rfl, Nat.le_of_ble_eq_true rfl⟩
set_option maxHeartbeats 4000000 in
set_option maxRecDepth 100000 in
theorem wX5_becomeOpaque_2 {p : Program} {l : Launch} {e : Env} {s : State} {m : MethodId} {args : Array Value} {below : List Frame} {meth : Method} {c : Code} {D : va_G} {A : Nat → Prop} {Q : State → Prop} {cI : ClassId} {h_t h_t_pixels : Nat} {t_wide : Int32} {t_high : Int32} {zt_pixels : Nat → Int32} (C : CallFix p m c cX5_becomeOpaque 2 s args wsX5_becomeOpaque RX5) (hN : zN s) (hK : va_K D vwCl [(cI, .int)] s) (hA : ∀ q, s.heap.size ≤ q → A q) (hE : zEv p l e rmX5_becomeOpaque s m args below meth c cX5_becomeOpaque D A Q (zwX5 cI h_t h_t_pixels t_wide t_high zt_pixels)) (n : Nat) : ∀ {t_pixels : Nat → Int32} {l1 : Int32} {H : Heap} {locs : List Loc} {ls : Array Slot}, fX5_becomeOpaque_2 n t_wide t_high t_pixels l1 = some zt_pixels → va_P D vwCl (zwX5 cI h_t h_t_pixels t_wide t_high t_pixels) H → va_D A (zwX5 cI h_t h_t_pixels t_wide t_high t_pixels) → va_S A s.heap H locs → lv_has ls 2 [(0, .ref h_t), (1, .int l1)] → W p l e rmX5_becomeOpaque s m args below meth c H locs 0 0 Q (F0 m 2 ls []) := by
  obtain ⟨hx, hb, hml, hown, hts⟩ := id C
  induction n with
  | zero =>
    intro t_pixels l1 H locs ls hf
    cases hf
  | succ n hr_2 =>
    intro t_pixels l1 H locs ls hf hP hD hS hl
    rw [fX5_becomeOpaque_2_s] at hf
    refine lv_iload_n hx hb dX5_becomeOpaque_2 rfl (lv_at hl 1 rfl) ?_
    refine lv_aload_n hx hb dX5_becomeOpaque_3 rfl (lv_at hl 0 rfl) ?_
    obtain ⟨r1, hc2, hf⟩ := zb1_in hf
    refine zc_i (va_runV (As := []) (rest := [.int l1]) C (mX5_count l D cI H.size h_t h_t_pixels t_wide t_high t_pixels r1 hc2) (qX5_becomeOpaque_X5_count_52 hts) ⟨zP_blind, va_recv hK hP (ci := 4) (q0 := 0) rfl rfl, zpre hK hN hP hD [0, 1] rfl rfl⟩ rfl rfl hl.1 rfl (lv_room (Nat.le_of_ble_eq_true rfl)) dX5_becomeOpaque_4 ⟨Nat.zero_le _, Nat.zero_le _⟩) hP hD hS hA [0, 1] [] [0, 1] (ws' := zwX5 cI h_t h_t_pixels t_wide t_high t_pixels) rfl rfl rfl rfl rfl rfl (fun H locs hP hD hS => ?_)
    refine lv_icmp_ge (tgt := 32) hx hb dX5_becomeOpaque_7 (by decide) (fun c3 => ?_) (fun c3 => ?_)
    · replace hf := zif_t hf c3
      cases hf
      exact hE _ _ _ _ dX5_becomeOpaque_32 hP hD hS
    · replace hf := zif_f hf c3
      refine lv_aload_n hx hb dX5_becomeOpaque_10 rfl (lv_at hl 0 rfl) ?_
      refine va_get (D := D) (ci := 4) (v := .ref h_t_pixels) (C := RX5) (T := TX5) (N := 3) hx hb hts iX5_becomeOpaque_X5 hown hK hP 0 rfl rfl 0 (by decide) (kX5_becomeOpaque_9 hts) (fun _ h9 => h9) rfl dX5_becomeOpaque_11 ?_
      refine lv_iload_n hx hb dX5_becomeOpaque_14 rfl (lv_at hl 1 rfl) ?_
      refine lv_aload_n hx hb dX5_becomeOpaque_15 rfl (lv_at hl 0 rfl) ?_
      refine va_get (D := D) (ci := 4) (v := .ref h_t_pixels) (C := RX5) (T := TX5) (N := 3) hx hb hts iX5_becomeOpaque_X5 hown hK hP 0 rfl rfl 0 (by decide) (kX5_becomeOpaque_9 hts) (fun _ h9 => h9) rfl dX5_becomeOpaque_16 ?_
      refine lv_iload_n hx hb dX5_becomeOpaque_19 rfl (lv_at hl 1 rfl) ?_
      obtain ⟨hg5, hf⟩ := zrd_in hf
      refine va_iald hx hb hK hP 1 0 rfl rfl hg5 dX5_becomeOpaque_20 ?_
      refine lv_topi (fun x4 ex4 => ?_)
      replace hf := hf x4 ex4
      clear ex4
      refine lv_sipush (v := 255) hx hb dX5_becomeOpaque_21 (by decide) ?_
      refine lv_ior hx hb dX5_becomeOpaque_24 ?_
      obtain ⟨hg7, g6, eg6, hf⟩ := zwr_in hf
      refine va_iast hx hb hK hP hD hS 1 0 rfl rfl hg7 dX5_becomeOpaque_25 (fun H locs hP hD hS => ?_)
      replace hP : va_P D vwCl (zwX5 cI h_t h_t_pixels t_wide t_high g6) H := by rw [← eg6]; exact hP
      replace hD : va_D A (zwX5 cI h_t h_t_pixels t_wide t_high g6) := by rw [← eg6]; exact hD
      clear eg6
      obtain ⟨x8, ex8⟩ : ∃ y : Int32, y = l1 + 1 := ⟨_, rfl⟩
      replace hf := zlet_in hf ex8
      refine lv_iinc (v := x8) (lv' := [(1, .int x8), (0, .ref h_t)]) hx hb dX5_becomeOpaque_26 hl (k := 1) rfl (by rw [ex8]; rfl) (by decide) rfl (fun ls hl => ?_)
      clear ex8
      refine lv_goto (tgt := 2) hx hb dX5_becomeOpaque_29 (by decide) ?_
      exact hr_2 hf hP hD hS (lv_sub hl [1, 0] rfl)
set_option maxHeartbeats 4000000 in
set_option maxRecDepth 100000 in
theorem wX5_becomeOpaque_0 {p : Program} {l : Launch} {e : Env} {s : State} {m : MethodId} {args : Array Value} {below : List Frame} {meth : Method} {c : Code} {D : va_G} {A : Nat → Prop} {Q : State → Prop} {cI : ClassId} {h_t h_t_pixels : Nat} {t_wide : Int32} {t_high : Int32} {zt_pixels : Nat → Int32} (C : CallFix p m c cX5_becomeOpaque 2 s args wsX5_becomeOpaque RX5) (hN : zN s) (hK : va_K D vwCl [(cI, .int)] s) (hA : ∀ q, s.heap.size ≤ q → A q) (hE : zEv p l e rmX5_becomeOpaque s m args below meth c cX5_becomeOpaque D A Q (zwX5 cI h_t h_t_pixels t_wide t_high zt_pixels)) {t_pixels : Nat → Int32} {H : Heap} {locs : List Loc} {ls : Array Slot} : fX5_becomeOpaque t_wide t_high t_pixels = some zt_pixels → va_P D vwCl (zwX5 cI h_t h_t_pixels t_wide t_high t_pixels) H → va_D A (zwX5 cI h_t h_t_pixels t_wide t_high t_pixels) → va_S A s.heap H locs → lv_has ls 2 [(0, .ref h_t)] → W p l e rmX5_becomeOpaque s m args below meth c H locs 0 0 Q (F0 m 0 ls []) := by
  intro hf hP hD hS hl
  obtain ⟨hx, hb, hml, hown, hts⟩ := id C
  unfold fX5_becomeOpaque at hf
  refine lv_iconst (v := 0) hx hb dX5_becomeOpaque_0 (by decide) ?_
  refine lv_istore_n (lv' := [(1, .int 0), (0, .ref h_t)]) hx hb dX5_becomeOpaque_1 rfl hl (by decide) rfl (fun ls hl => ?_)
  exact wX5_becomeOpaque_2 C hN hK hA hE 1000 hf hP hD hS (lv_sub hl [1, 0] rfl)
set_option maxHeartbeats 4000000 in
set_option maxRecDepth 100000 in
theorem mX5_becomeOpaque (l : Launch) (D : va_G) (cI : ClassId) (sz : Nat) (h_t h_t_pixels : Nat) (t_wide : Int32) (t_high : Int32) (t_pixels : Nat → Int32) (zt_pixels : Nat → Int32) (hf : fX5_becomeOpaque t_wide t_high t_pixels = some zt_pixels) : Met l yX5_becomeOpaque wsX5_becomeOpaque rmX5_becomeOpaque (va_Pc [.ref h_t] (zP D [(cI, .int)] (zwX5 cI h_t h_t_pixels t_wide t_high t_pixels) sz)) (zQv D (zwX5 cI h_t h_t_pixels t_wide t_high t_pixels) sz (zwX5 cI h_t h_t_pixels t_wide t_high zt_pixels)) 0 0 (va_A (zwX5 cI h_t h_t_pixels t_wide t_high t_pixels) sz) := by
  refine Met.ofW (cc := cX5_becomeOpaque) (maxL := 2) (ret := none) (by decide) rfl ?_
  intro p e s m args below meth c s₁ B hml hv
  obtain ⟨rfl, hsz, hP, hK, hD0, hN⟩ := hv
  subst hsz
  have C : CallFix p m c cX5_becomeOpaque 2 s [.ref h_t].toArray wsX5_becomeOpaque RX5 := ⟨B.exec, B.bytes, hml, findClass_of_methodNamed B.named, atoms_spec (ws := wsX5_becomeOpaque) B.pre⟩
  have hl := lv_entry ([.ref h_t]) (n := 2) (Nat.le_of_ble_eq_true rfl)
  rw [lg_entry_eq]
  exact wX5_becomeOpaque_0 (A := va_A (zwX5 cI h_t h_t_pixels t_wide t_high t_pixels) s.heap.size) C hN hK (fun q h => Or.inr h) (fun H locs pc ls d hP hD hS => zend_v C.1 C.2.1 B.returns B.notSynchronized d hP hD hS) hf hP hD0.self va_S.rf hl
def rmX5_isOpaque : Room := { frames := 1, cells := 0, slots := 0, locals := 20 }
theorem kX5_isOpaque_9 {args : Array Value} {s : State} (h : ∀ w ∈ wsX5_isOpaque, w.before args s = true) : (Cond.fieldLink RX5 9 "FourPictureFiles$Picture" "pixels" "[I").before args s = true := h _ (by decide +kernel)
theorem iX5_isOpaque_X5 : ∀ w ∈ u_ws RX5 TX5 3, w ∈ wsX5_isOpaque := by decide +kernel
theorem qX5_isOpaque_X5_count_52 {args : Array Value} {s : State} (hts : ∀ w ∈ wsX5_isOpaque, w.before args s = true) : CallW rmX5_isOpaque s args RX5 RX5 52 yX5_count cX5_count 1 (some .int) wsX5_count rmX5_count 0 0 0 := cwV 0 hts gX5_isOpaque_X5_count rfl rfl rfl (by decide +kernel) ⟨Nat.le_of_ble_eq_true rfl, Nat.le_of_ble_eq_true rfl⟩
theorem qX5_isOpaque_X8_alpha_66 {args : Array Value} {s : State} (hts : ∀ w ∈ wsX5_isOpaque, w.before args s = true) (hN : zN s) : va_CN rmX5_isOpaque s args RX5 66 yX8_alpha RX8 cX8_alpha 1 (some .int) wsX8_alpha rmX8_alpha 0 0 1 ∧ (Cond.static yX8_alpha).before args s = true ∧ True := ⟨va_cnB 1 hts gX5_isOpaque_X8_alpha_n66 rfl rfl rfl (hN.nw 37 rfl) (hts (.initialized RX8) (by decide +kernel)) (by decide +kernel) ⟨Nat.le_of_ble_eq_true rfl, Nat.le_of_ble_eq_true rfl⟩, hts (.static yX8_alpha) (by decide +kernel), trivial⟩
set_option maxHeartbeats 4000000 in
set_option maxRecDepth 100000 in
theorem wX5_isOpaque_2 {p : Program} {l : Launch} {e : Env} {s : State} {m : MethodId} {args : Array Value} {below : List Frame} {meth : Method} {c : Code} {D : va_G} {A : Nat → Prop} {Q : State → Prop} {cI : ClassId} {h_t h_t_pixels : Nat} {t_wide : Int32} {t_high : Int32} {t_pixels : Nat → Int32} {r0 : Int32} (C : CallFix p m c cX5_isOpaque 2 s args wsX5_isOpaque RX5) (hN : zN s) (hK : va_K D vwCl [(cI, .int)] s) (hA : ∀ q, s.heap.size ≤ q → A q) (hE : zEz p l e rmX5_isOpaque s m args below meth c cX5_isOpaque D A Q (zwX5 cI h_t h_t_pixels t_wide t_high t_pixels) r0) (n : Nat) : ∀ {l1 : Int32} {H : Heap} {locs : List Loc} {ls : Array Slot}, fX5_isOpaque_2 n t_wide t_high t_pixels l1 = some r0 → va_P D vwCl (zwX5 cI h_t h_t_pixels t_wide t_high t_pixels) H → va_D A (zwX5 cI h_t h_t_pixels t_wide t_high t_pixels) → va_S A s.heap H locs → lv_has ls 2 [(0, .ref h_t), (1, .int l1)] → W p l e rmX5_isOpaque s m args below meth c H locs 0 0 Q (F0 m 2 ls []) := by
  obtain ⟨hx, hb, hml, hown, hts⟩ := id C
  induction n with
  | zero =>
    intro l1 H locs ls hf
    cases hf
  | succ n hr_2 =>
    intro l1 H locs ls hf hP hD hS hl
    rw [fX5_isOpaque_2_s] at hf
    refine lv_iload_n hx hb dX5_isOpaque_2 rfl (lv_at hl 1 rfl) ?_
    refine lv_aload_n hx hb dX5_isOpaque_3 rfl (lv_at hl 0 rfl) ?_
    obtain ⟨r1, hc2, hf⟩ := zb1_in hf
    refine zc_i (va_runV (As := []) (rest := [.int l1]) C (mX5_count l D cI H.size h_t h_t_pixels t_wide t_high t_pixels r1 hc2) (qX5_isOpaque_X5_count_52 hts) ⟨zP_blind, va_recv hK hP (ci := 4) (q0 := 0) rfl rfl, zpre hK hN hP hD [0, 1] rfl rfl⟩ rfl rfl hl.1 rfl (lv_room (Nat.le_of_ble_eq_true rfl)) dX5_isOpaque_4 ⟨Nat.zero_le _, Nat.zero_le _⟩) hP hD hS hA [0, 1] [] [0, 1] (ws' := zwX5 cI h_t h_t_pixels t_wide t_high t_pixels) rfl rfl rfl rfl rfl rfl (fun H locs hP hD hS => ?_)
    refine lv_icmp_ge (tgt := 33) hx hb dX5_isOpaque_7 (by decide) (fun c3 => ?_) (fun c3 => ?_)
    · replace hf := zif_t hf c3
      refine lv_iconst (v := 1) hx hb dX5_isOpaque_33 (by decide) ?_
      cases hf
      exact hE _ _ _ _ dX5_isOpaque_34 rfl hP hD hS
    · replace hf := zif_f hf c3
      refine lv_aload_n hx hb dX5_isOpaque_10 rfl (lv_at hl 0 rfl) ?_
      refine va_get (D := D) (ci := 4) (v := .ref h_t_pixels) (C := RX5) (T := TX5) (N := 3) hx hb hts iX5_isOpaque_X5 hown hK hP 0 rfl rfl 0 (by decide) (kX5_isOpaque_9 hts) (fun _ h9 => h9) rfl dX5_isOpaque_11 ?_
      refine lv_iload_n hx hb dX5_isOpaque_14 rfl (lv_at hl 1 rfl) ?_
      obtain ⟨hg5, hf⟩ := zrd_in hf
      refine va_iald hx hb hK hP 1 0 rfl rfl hg5 dX5_isOpaque_15 ?_
      refine lv_topi (fun x4 ex4 => ?_)
      replace hf := hf x4 ex4
      clear ex4
      obtain ⟨r6, hc7, hf⟩ := zb1_in hf
      refine zc_i (va_runSN (As := [.int x4]) (rest := []) C (mX8_alpha l D cI H.size x4 r6 hc7) (qX5_isOpaque_X8_alpha_66 hts hN) ⟨zP_blind, zpre hK hN hP hD [] rfl rfl⟩ rfl rfl hl.1 rfl (lv_room (Nat.le_of_ble_eq_true rfl)) dX5_isOpaque_16 ⟨Nat.zero_le _, Nat.zero_le _⟩) hP hD hS hA [] [0, 1] [0, 1] (ws' := zwX5 cI h_t h_t_pixels t_wide t_high t_pixels) rfl rfl rfl rfl rfl rfl (fun H locs hP hD hS => ?_)
      refine lv_sipush (v := 255) hx hb dX5_isOpaque_19 (by decide) ?_
      refine lv_icmp_eq (tgt := 27) hx hb dX5_isOpaque_22 (by decide) (fun c8 => ?_) (fun c8 => ?_)
      · replace hf := zif_t hf c8
        obtain ⟨x9, ex9⟩ : ∃ y : Int32, y = l1 + 1 := ⟨_, rfl⟩
        replace hf := zlet_in hf ex9
        refine lv_iinc (v := x9) (lv' := [(1, .int x9), (0, .ref h_t)]) hx hb dX5_isOpaque_27 hl (k := 1) rfl (by rw [ex9]; rfl) (by decide) rfl (fun ls hl => ?_)
        clear ex9
        refine lv_goto (tgt := 2) hx hb dX5_isOpaque_30 (by decide) ?_
        exact hr_2 hf hP hD hS (lv_sub hl [1, 0] rfl)
      · replace hf := zif_f hf c8
        refine lv_iconst (v := 0) hx hb dX5_isOpaque_25 (by decide) ?_
        cases hf
        exact hE _ _ _ _ dX5_isOpaque_26 rfl hP hD hS
set_option maxHeartbeats 4000000 in
set_option maxRecDepth 100000 in
theorem wX5_isOpaque_0 {p : Program} {l : Launch} {e : Env} {s : State} {m : MethodId} {args : Array Value} {below : List Frame} {meth : Method} {c : Code} {D : va_G} {A : Nat → Prop} {Q : State → Prop} {cI : ClassId} {h_t h_t_pixels : Nat} {t_wide : Int32} {t_high : Int32} {t_pixels : Nat → Int32} {r0 : Int32} (C : CallFix p m c cX5_isOpaque 2 s args wsX5_isOpaque RX5) (hN : zN s) (hK : va_K D vwCl [(cI, .int)] s) (hA : ∀ q, s.heap.size ≤ q → A q) (hE : zEz p l e rmX5_isOpaque s m args below meth c cX5_isOpaque D A Q (zwX5 cI h_t h_t_pixels t_wide t_high t_pixels) r0) {H : Heap} {locs : List Loc} {ls : Array Slot} : fX5_isOpaque t_wide t_high t_pixels = some r0 → va_P D vwCl (zwX5 cI h_t h_t_pixels t_wide t_high t_pixels) H → va_D A (zwX5 cI h_t h_t_pixels t_wide t_high t_pixels) → va_S A s.heap H locs → lv_has ls 2 [(0, .ref h_t)] → W p l e rmX5_isOpaque s m args below meth c H locs 0 0 Q (F0 m 0 ls []) := by
  intro hf hP hD hS hl
  obtain ⟨hx, hb, hml, hown, hts⟩ := id C
  unfold fX5_isOpaque at hf
  refine lv_iconst (v := 0) hx hb dX5_isOpaque_0 (by decide) ?_
  refine lv_istore_n (lv' := [(1, .int 0), (0, .ref h_t)]) hx hb dX5_isOpaque_1 rfl hl (by decide) rfl (fun ls hl => ?_)
  exact wX5_isOpaque_2 C hN hK hA hE 1000 hf hP hD hS (lv_sub hl [1, 0] rfl)
set_option maxHeartbeats 4000000 in
set_option maxRecDepth 100000 in
theorem mX5_isOpaque (l : Launch) (D : va_G) (cI : ClassId) (sz : Nat) (h_t h_t_pixels : Nat) (t_wide : Int32) (t_high : Int32) (t_pixels : Nat → Int32) (r0 : Int32) (hf : fX5_isOpaque t_wide t_high t_pixels = some r0) : Met l yX5_isOpaque wsX5_isOpaque rmX5_isOpaque (va_Pc [.ref h_t] (zP D [(cI, .int)] (zwX5 cI h_t h_t_pixels t_wide t_high t_pixels) sz)) (zQi D (zwX5 cI h_t h_t_pixels t_wide t_high t_pixels) sz r0 (zwX5 cI h_t h_t_pixels t_wide t_high t_pixels)) 0 0 (va_A (zwX5 cI h_t h_t_pixels t_wide t_high t_pixels) sz) := by
  refine Met.ofW (cc := cX5_isOpaque) (maxL := 2) (ret := (some .boolean)) (by decide) rfl ?_
  intro p e s m args below meth c s₁ B hml hv
  obtain ⟨rfl, hsz, hP, hK, hD0, hN⟩ := hv
  subst hsz
  have C : CallFix p m c cX5_isOpaque 2 s [.ref h_t].toArray wsX5_isOpaque RX5 := ⟨B.exec, B.bytes, hml, findClass_of_methodNamed B.named, atoms_spec (ws := wsX5_isOpaque) B.pre⟩
  have hl := lv_entry ([.ref h_t]) (n := 2) (Nat.le_of_ble_eq_true rfl)
  rw [lg_entry_eq]
  exact wX5_isOpaque_0 (A := va_A (zwX5 cI h_t h_t_pixels t_wide t_high t_pixels) s.heap.size) C hN hK (fun q h => Or.inr h) (fun H locs pc ls d hn hP hD hS => zend_z C.1 C.2.1 B.returns B.notSynchronized d hn hP hD hS) hf hP hD0.self va_S.rf hl
def rmX5_isGrey : Room := { frames := 2, cells := 0, slots := 0, locals := 41 }
theorem kX5_isGrey_9 {args : Array Value} {s : State} (h : ∀ w ∈ wsX5_isGrey, w.before args s = true) : (Cond.fieldLink RX5 9 "FourPictureFiles$Picture" "pixels" "[I").before args s = true := h _ (by decide +kernel)
theorem iX5_isGrey_X5 : ∀ w ∈ u_ws RX5 TX5 3, w ∈ wsX5_isGrey := by decide +kernel
theorem qX5_isGrey_X5_count_52 {args : Array Value} {s : State} (hts : ∀ w ∈ wsX5_isGrey, w.before args s = true) : CallW rmX5_isGrey s args RX5 RX5 52 yX5_count cX5_count 1 (some .int) wsX5_count rmX5_count 0 0 0 := cwV 0 hts gX5_isGrey_X5_count rfl rfl rfl (by decide +kernel) ⟨Nat.le_of_ble_eq_true rfl, Nat.le_of_ble_eq_true rfl⟩
theorem qX5_isGrey_X5_isOpaque_73 {args : Array Value} {s : State} (hts : ∀ w ∈ wsX5_isGrey, w.before args s = true) : CallW rmX5_isGrey s args RX5 RX5 73 yX5_isOpaque cX5_isOpaque 2 (some .boolean) wsX5_isOpaque rmX5_isOpaque 0 0 0 := cwV 0 hts gX5_isGrey_X5_isOpaque rfl rfl rfl (by decide +kernel) ⟨Nat.le_of_ble_eq_true rfl, Nat.le_of_ble_eq_true rfl⟩
theorem qX5_isGrey_X8_blue_63 {args : Array Value} {s : State} (hts : ∀ w ∈ wsX5_isGrey, w.before args s = true) (hN : zN s) : va_CN rmX5_isGrey s args RX5 63 yX8_blue RX8 cX8_blue 1 (some .int) wsX8_blue rmX8_blue 0 0 1 ∧ (Cond.static yX8_blue).before args s = true ∧ True := ⟨va_cnB 1 hts gX5_isGrey_X8_blue_n63 rfl rfl rfl (hN.nw 36 rfl) (hts (.initialized RX8) (by decide +kernel)) (by decide +kernel) ⟨Nat.le_of_ble_eq_true rfl, Nat.le_of_ble_eq_true rfl⟩, hts (.static yX8_blue) (by decide +kernel), trivial⟩
theorem qX5_isGrey_X8_green_60 {args : Array Value} {s : State} (hts : ∀ w ∈ wsX5_isGrey, w.before args s = true) (hN : zN s) : va_CN rmX5_isGrey s args RX5 60 yX8_green RX8 cX8_green 1 (some .int) wsX8_green rmX8_green 0 0 1 ∧ (Cond.static yX8_green).before args s = true ∧ True := ⟨va_cnB 1 hts gX5_isGrey_X8_green_n60 rfl rfl rfl (hN.nw 35 rfl) (hts (.initialized RX8) (by decide +kernel)) (by decide +kernel) ⟨Nat.le_of_ble_eq_true rfl, Nat.le_of_ble_eq_true rfl⟩, hts (.static yX8_green) (by decide +kernel), trivial⟩
theorem qX5_isGrey_X8_red_56 {args : Array Value} {s : State} (hts : ∀ w ∈ wsX5_isGrey, w.before args s = true) (hN : zN s) : va_CN rmX5_isGrey s args RX5 56 yX8_red RX8 cX8_red 1 (some .int) wsX8_red rmX8_red 0 0 1 ∧ (Cond.static yX8_red).before args s = true ∧ True := ⟨va_cnB 1 hts gX5_isGrey_X8_red_n56 rfl rfl rfl (hN.nw 34 rfl) (hts (.initialized RX8) (by decide +kernel)) (by decide +kernel) ⟨Nat.le_of_ble_eq_true rfl, Nat.le_of_ble_eq_true rfl⟩, hts (.static yX8_red) (by decide +kernel), trivial⟩
set_option maxHeartbeats 4000000 in
set_option maxRecDepth 100000 in
theorem wX5_isGrey_2 {p : Program} {l : Launch} {e : Env} {s : State} {m : MethodId} {args : Array Value} {below : List Frame} {meth : Method} {c : Code} {D : va_G} {A : Nat → Prop} {Q : State → Prop} {cI : ClassId} {h_t h_t_pixels : Nat} {t_wide : Int32} {t_high : Int32} {t_pixels : Nat → Int32} {r0 : Int32} (C : CallFix p m c cX5_isGrey 3 s args wsX5_isGrey RX5) (hN : zN s) (hK : va_K D vwCl [(cI, .int)] s) (hA : ∀ q, s.heap.size ≤ q → A q) (hE : zEz p l e rmX5_isGrey s m args below meth c cX5_isGrey D A Q (zwX5 cI h_t h_t_pixels t_wide t_high t_pixels) r0) (n : Nat) : ∀ {l1 : Int32} {H : Heap} {locs : List Loc} {ls : Array Slot}, fX5_isGrey_2 n t_wide t_high t_pixels l1 = some r0 → va_P D vwCl (zwX5 cI h_t h_t_pixels t_wide t_high t_pixels) H → va_D A (zwX5 cI h_t h_t_pixels t_wide t_high t_pixels) → va_S A s.heap H locs → lv_has ls 3 [(0, .ref h_t), (1, .int l1)] → W p l e rmX5_isGrey s m args below meth c H locs 0 0 Q (F0 m 2 ls []) := by
  obtain ⟨hx, hb, hml, hown, hts⟩ := id C
  induction n with
  | zero =>
    intro l1 H locs ls hf
    cases hf
  | succ n hr_2 =>
    intro l1 H locs ls hf hP hD hS hl
    rw [fX5_isGrey_2_s] at hf
    refine lv_iload_n hx hb dX5_isGrey_2 rfl (lv_at hl 1 rfl) ?_
    refine lv_aload_n hx hb dX5_isGrey_3 rfl (lv_at hl 0 rfl) ?_
    obtain ⟨r1, hc2, hf⟩ := zb1_in hf
    refine zc_i (va_runV (As := []) (rest := [.int l1]) C (mX5_count l D cI H.size h_t h_t_pixels t_wide t_high t_pixels r1 hc2) (qX5_isGrey_X5_count_52 hts) ⟨zP_blind, va_recv hK hP (ci := 4) (q0 := 0) rfl rfl, zpre hK hN hP hD [0, 1] rfl rfl⟩ rfl rfl hl.1 rfl (lv_room (Nat.le_of_ble_eq_true rfl)) dX5_isGrey_4 ⟨Nat.zero_le _, Nat.zero_le _⟩) hP hD hS hA [0, 1] [] [0, 1] (ws' := zwX5 cI h_t h_t_pixels t_wide t_high t_pixels) rfl rfl rfl rfl rfl rfl (fun H locs hP hD hS => ?_)
    refine lv_icmp_ge (tgt := 47) hx hb dX5_isGrey_7 (by decide) (fun c3 => ?_) (fun c3 => ?_)
    · replace hf := zif_t hf c3
      refine lv_aload_n hx hb dX5_isGrey_47 rfl (lv_at hl 0 rfl) ?_
      obtain ⟨r4, hc5, hf⟩ := zb1_in hf
      refine zc_i (va_runV (As := []) (rest := []) C (mX5_isOpaque l D cI H.size h_t h_t_pixels t_wide t_high t_pixels r4 hc5) (qX5_isGrey_X5_isOpaque_73 hts) ⟨zP_blind, va_recv hK hP (ci := 4) (q0 := 0) rfl rfl, zpre hK hN hP hD [0, 1] rfl rfl⟩ rfl rfl hl.1 rfl (lv_room (Nat.le_of_ble_eq_true rfl)) dX5_isGrey_48 ⟨Nat.zero_le _, Nat.zero_le _⟩) hP hD hS hA [0, 1] [] [0, 1] (ws' := zwX5 cI h_t h_t_pixels t_wide t_high t_pixels) rfl rfl rfl rfl rfl rfl (fun H locs hP hD hS => ?_)
      obtain ⟨hg6, hf⟩ := zbo_in hf
      cases hf
      exact hE _ _ _ _ dX5_isGrey_51 hg6.1 hP hD hS
    · replace hf := zif_f hf c3
      refine lv_aload_n hx hb dX5_isGrey_10 rfl (lv_at hl 0 rfl) ?_
      refine va_get (D := D) (ci := 4) (v := .ref h_t_pixels) (C := RX5) (T := TX5) (N := 3) hx hb hts iX5_isGrey_X5 hown hK hP 0 rfl rfl 0 (by decide) (kX5_isGrey_9 hts) (fun _ h9 => h9) rfl dX5_isGrey_11 ?_
      refine lv_iload_n hx hb dX5_isGrey_14 rfl (lv_at hl 1 rfl) ?_
      obtain ⟨hg8, hf⟩ := zrd_in hf
      refine va_iald hx hb hK hP 1 0 rfl rfl hg8 dX5_isGrey_15 ?_
      refine lv_topi (fun x7 ex7 => ?_)
      replace hf := hf x7 ex7
      clear ex7
      refine lv_istore_n (lv' := [(2, .int x7), (0, .ref h_t), (1, .int l1)]) hx hb dX5_isGrey_16 rfl hl (by decide) rfl (fun ls hl => ?_)
      refine lv_iload_n hx hb dX5_isGrey_17 rfl (lv_at hl 0 rfl) ?_
      obtain ⟨r9, hc10, hf⟩ := zb1_in hf
      refine zc_i (va_runSN (As := [.int x7]) (rest := []) C (mX8_red l D cI H.size x7 r9 hc10) (qX5_isGrey_X8_red_56 hts hN) ⟨zP_blind, zpre hK hN hP hD [] rfl rfl⟩ rfl rfl hl.1 rfl (lv_room (Nat.le_of_ble_eq_true rfl)) dX5_isGrey_18 ⟨Nat.zero_le _, Nat.zero_le _⟩) hP hD hS hA [] [0, 1] [0, 1] (ws' := zwX5 cI h_t h_t_pixels t_wide t_high t_pixels) rfl rfl rfl rfl rfl rfl (fun H locs hP hD hS => ?_)
      refine lv_iload_n hx hb dX5_isGrey_21 rfl (lv_at hl 0 rfl) ?_
      obtain ⟨r11, hc12, hf⟩ := zb1_in hf
      refine zc_i (va_runSN (As := [.int x7]) (rest := [.int r9]) C (mX8_green l D cI H.size x7 r11 hc12) (qX5_isGrey_X8_green_60 hts hN) ⟨zP_blind, zpre hK hN hP hD [] rfl rfl⟩ rfl rfl hl.1 rfl (lv_room (Nat.le_of_ble_eq_true rfl)) dX5_isGrey_22 ⟨Nat.zero_le _, Nat.zero_le _⟩) hP hD hS hA [] [0, 1] [0, 1] (ws' := zwX5 cI h_t h_t_pixels t_wide t_high t_pixels) rfl rfl rfl rfl rfl rfl (fun H locs hP hD hS => ?_)
      refine lv_icmp_ne (tgt := 39) hx hb dX5_isGrey_25 (by decide) (fun c13 => ?_) (fun c13 => ?_)
      · replace hf := zif_f hf c13
        refine lv_iconst (v := 0) hx hb dX5_isGrey_39 (by decide) ?_
        cases hf
        exact hE _ _ _ _ dX5_isGrey_40 rfl hP hD hS
      · replace hf := zif_t hf c13
        refine lv_iload_n hx hb dX5_isGrey_28 rfl (lv_at hl 0 rfl) ?_
        obtain ⟨r14, hc15, hf⟩ := zb1_in hf
        refine zc_i (va_runSN (As := [.int x7]) (rest := []) C (mX8_green l D cI H.size x7 r14 hc15) (qX5_isGrey_X8_green_60 hts hN) ⟨zP_blind, zpre hK hN hP hD [] rfl rfl⟩ rfl rfl hl.1 rfl (lv_room (Nat.le_of_ble_eq_true rfl)) dX5_isGrey_29 ⟨Nat.zero_le _, Nat.zero_le _⟩) hP hD hS hA [] [0, 1] [0, 1] (ws' := zwX5 cI h_t h_t_pixels t_wide t_high t_pixels) rfl rfl rfl rfl rfl rfl (fun H locs hP hD hS => ?_)
        refine lv_iload_n hx hb dX5_isGrey_32 rfl (lv_at hl 0 rfl) ?_
        obtain ⟨r16, hc17, hf⟩ := zb1_in hf
        refine zc_i (va_runSN (As := [.int x7]) (rest := [.int r14]) C (mX8_blue l D cI H.size x7 r16 hc17) (qX5_isGrey_X8_blue_63 hts hN) ⟨zP_blind, zpre hK hN hP hD [] rfl rfl⟩ rfl rfl hl.1 rfl (lv_room (Nat.le_of_ble_eq_true rfl)) dX5_isGrey_33 ⟨Nat.zero_le _, Nat.zero_le _⟩) hP hD hS hA [] [0, 1] [0, 1] (ws' := zwX5 cI h_t h_t_pixels t_wide t_high t_pixels) rfl rfl rfl rfl rfl rfl (fun H locs hP hD hS => ?_)
        refine lv_icmp_eq (tgt := 41) hx hb dX5_isGrey_36 (by decide) (fun c18 => ?_) (fun c18 => ?_)
        · replace hf := zif_t hf c18
          obtain ⟨x19, ex19⟩ : ∃ y : Int32, y = l1 + 1 := ⟨_, rfl⟩
          replace hf := zlet_in hf ex19
          refine lv_iinc (v := x19) (lv' := [(1, .int x19), (2, .int x7), (0, .ref h_t)]) hx hb dX5_isGrey_41 hl (k := 2) rfl (by rw [ex19]; rfl) (by decide) rfl (fun ls hl => ?_)
          clear ex19
          refine lv_goto (tgt := 2) hx hb dX5_isGrey_44 (by decide) ?_
          exact hr_2 hf hP hD hS (lv_sub hl [2, 0] rfl)
        · replace hf := zif_f hf c18
          refine lv_iconst (v := 0) hx hb dX5_isGrey_39 (by decide) ?_
          cases hf
          exact hE _ _ _ _ dX5_isGrey_40 rfl hP hD hS
set_option maxHeartbeats 4000000 in
set_option maxRecDepth 100000 in
theorem wX5_isGrey_0 {p : Program} {l : Launch} {e : Env} {s : State} {m : MethodId} {args : Array Value} {below : List Frame} {meth : Method} {c : Code} {D : va_G} {A : Nat → Prop} {Q : State → Prop} {cI : ClassId} {h_t h_t_pixels : Nat} {t_wide : Int32} {t_high : Int32} {t_pixels : Nat → Int32} {r0 : Int32} (C : CallFix p m c cX5_isGrey 3 s args wsX5_isGrey RX5) (hN : zN s) (hK : va_K D vwCl [(cI, .int)] s) (hA : ∀ q, s.heap.size ≤ q → A q) (hE : zEz p l e rmX5_isGrey s m args below meth c cX5_isGrey D A Q (zwX5 cI h_t h_t_pixels t_wide t_high t_pixels) r0) {H : Heap} {locs : List Loc} {ls : Array Slot} : fX5_isGrey t_wide t_high t_pixels = some r0 → va_P D vwCl (zwX5 cI h_t h_t_pixels t_wide t_high t_pixels) H → va_D A (zwX5 cI h_t h_t_pixels t_wide t_high t_pixels) → va_S A s.heap H locs → lv_has ls 3 [(0, .ref h_t)] → W p l e rmX5_isGrey s m args below meth c H locs 0 0 Q (F0 m 0 ls []) := by
  intro hf hP hD hS hl
  obtain ⟨hx, hb, hml, hown, hts⟩ := id C
  unfold fX5_isGrey at hf
  refine lv_iconst (v := 0) hx hb dX5_isGrey_0 (by decide) ?_
  refine lv_istore_n (lv' := [(1, .int 0), (0, .ref h_t)]) hx hb dX5_isGrey_1 rfl hl (by decide) rfl (fun ls hl => ?_)
  exact wX5_isGrey_2 C hN hK hA hE 1000 hf hP hD hS (lv_sub hl [1, 0] rfl)
set_option maxHeartbeats 4000000 in
set_option maxRecDepth 100000 in
theorem mX5_isGrey (l : Launch) (D : va_G) (cI : ClassId) (sz : Nat) (h_t h_t_pixels : Nat) (t_wide : Int32) (t_high : Int32) (t_pixels : Nat → Int32) (r0 : Int32) (hf : fX5_isGrey t_wide t_high t_pixels = some r0) : Met l yX5_isGrey wsX5_isGrey rmX5_isGrey (va_Pc [.ref h_t] (zP D [(cI, .int)] (zwX5 cI h_t h_t_pixels t_wide t_high t_pixels) sz)) (zQi D (zwX5 cI h_t h_t_pixels t_wide t_high t_pixels) sz r0 (zwX5 cI h_t h_t_pixels t_wide t_high t_pixels)) 0 0 (va_A (zwX5 cI h_t h_t_pixels t_wide t_high t_pixels) sz) := by
  refine Met.ofW (cc := cX5_isGrey) (maxL := 3) (ret := (some .boolean)) (by decide) rfl ?_
  intro p e s m args below meth c s₁ B hml hv
  obtain ⟨rfl, hsz, hP, hK, hD0, hN⟩ := hv
  subst hsz
  have C : CallFix p m c cX5_isGrey 3 s [.ref h_t].toArray wsX5_isGrey RX5 := ⟨B.exec, B.bytes, hml, findClass_of_methodNamed B.named, atoms_spec (ws := wsX5_isGrey) B.pre⟩
  have hl := lv_entry ([.ref h_t]) (n := 3) (Nat.le_of_ble_eq_true rfl)
  rw [lg_entry_eq]
  exact wX5_isGrey_0 (A := va_A (zwX5 cI h_t h_t_pixels t_wide t_high t_pixels) s.heap.size) C hN hK (fun q h => Or.inr h) (fun H locs pc ls d hn hP hD hS => zend_z C.1 C.2.1 B.returns B.notSynchronized d hn hP hD hS) hf hP hD0.self va_S.rf hl
