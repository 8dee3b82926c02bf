def fX8_make (p_wide : Int32) (p_high : Int32) (p_pixels : Nat → Int32) (v0 : Int32) (v1 : Int32) : Option (Int32 × Int32 × Int32 × (Nat → Int32)) :=
  zb1 (fX8_isSide v0) fun r1 =>
  if r1 = 0 then
    some (0, p_wide, p_high, p_pixels)
  else
    zb1 (fX8_isSide v1) fun r4 =>
    if r4 = 0 then
      some (0, p_wide, p_high, p_pixels)
    else
      zb3 (fX5_begin p_pixels v0 v1) fun u7 u8 u9 =>
      some (1, u7, u8, u9)
def fX8_put (p_wide : Int32) (p_high : Int32) (p_pixels : Nat → Int32) (v0 : Int32) (v1 : Int32) (v2 : Int32) : Option (Int32 × (Nat → Int32)) :=
  zb1 (fX5_has p_wide p_high v0 v1) fun r1 =>
  if r1 = 0 then
    some (0, p_pixels)
  else
    zb1 (fX5_set p_wide p_pixels v0 v1 v2) fun u4 =>
    some (1, u4)
def fX8_pixel (p_wide : Int32) (p_high : Int32) (p_pixels : Nat → Int32) (v0 : Int32) (v1 : Int32) : Option (Int32) :=
  zb1 (fX5_has p_wide p_high v0 v1) fun r1 =>
  if r1 = 0 then
    some 0
  else
    zb1 (fX5_at p_wide p_pixels v0 v1) fun r4 =>
    some r4
def fX8_width (p_wide : Int32) : Option (Int32) :=
  some p_wide
def fX8_height (p_high : Int32) : Option (Int32) :=
  some p_high
def fX8_change (p_wide : Int32) (p_high : Int32) (p_pixels : Nat → Int32) (d_wide : Int32) (d_high : Int32) (d_pixels : Nat → Int32) (v0 : Int32) : Option (Int32 × Int32 × Int32 × (Nat → Int32) × Int32 × Int32 × (Nat → Int32)) :=
  if v0 = 0 then
    zb1 (fX5_exchangeColumns p_wide p_high p_pixels) fun u2 =>
    some (1, p_wide, p_high, u2, d_wide, d_high, d_pixels)
  else
    if v0 = 1 then
      zb1 (fX5_exchangeRows p_wide p_high p_pixels) fun u5 =>
      some (1, p_wide, p_high, u5, d_wide, d_high, d_pixels)
    else
      if v0 = 2 then
        zb3 (fX5_becomeTurned d_pixels p_wide p_high p_pixels) fun u8 u9 u10 =>
        zb3 (fX5_become p_pixels u8 u9 u10) fun u12 u13 u14 =>
        some (1, u12, u13, u14, u8, u9, u10)
      else
        if v0 = 3 then
          zb1 (fX5_loseColour p_wide p_high p_pixels) fun u17 =>
          some (1, p_wide, p_high, u17, d_wide, d_high, d_pixels)
        else
          if v0 = 4 then
            zb1 (fX5_becomeOpaque p_wide p_high p_pixels) fun u20 =>
            some (1, p_wide, p_high, u20, d_wide, d_high, d_pixels)
          else
            some (0, p_wide, p_high, p_pixels, d_wide, d_high, d_pixels)
def fX8_feed (f_size : Int32) (f_bytes : Nat → Int32) (v0 : Int32) : Option (Int32 × Int32 × (Nat → Int32)) :=
  zb1 (fX8_isByte v0) fun r1 =>
  if r1 = 0 then
    some (0, f_size, f_bytes)
  else
    zb3 (fX2_append f_size f_bytes v0) fun r4 u5 u6 =>
    if r4 = 0 then
      some (0, u5, u6)
    else
      some (1, u5, u6)
def fX8_cut (f_size : Int32) (v0 : Int32) : Option (Int32 × Int32) :=
  if v0 < 0 then
    some (0, f_size)
  else
    if v0 ≤ f_size then
      some (1, v0)
    else
      some (0, f_size)
def fX8_alter (f_size : Int32) (f_bytes : Nat → Int32) (v0 : Int32) (v1 : Int32) : Option (Int32 × (Nat → Int32)) :=
  zb1 (fX8_isByte v1) fun r1 =>
  if r1 = 0 then
    some (0, f_bytes)
  else
    if v0 < 0 then
      some (0, f_bytes)
    else
      if v0 < f_size then
        zwr f_bytes 800 v0 v1 fun g6 =>
        some (1, g6)
      else
        some (0, f_bytes)
def fX8_length (f_size : Int32) : Option (Int32) :=
  some f_size
def fX8_byteAt (f_size : Int32) (f_bytes : Nat → Int32) (v0 : Int32) : Option (Int32) :=
  zb1 (fX2_at f_size f_bytes v0) fun r1 =>
  some r1
def rmX8_make : Room := { frames := 3, cells := 0, slots := 0, locals := 66 }
theorem kX8_make_10 {args : Array Value} {s : State} (h : ∀ w ∈ wsX8_make, w.before args s = true) : (Cond.fieldLink RX8 10 "FourPictureFiles" "picture" "LFourPictureFiles$Picture;").before args s = true := h _ (by decide +kernel)
theorem iX8_make_X8 : ∀ w ∈ u_ws RX8 TX8 5, w ∈ wsX8_make := by decide +kernel
theorem qX8_make_X5_begin_57 {args : Array Value} {s : State} (hts : ∀ w ∈ wsX8_make, w.before args s = true) : CallW rmX8_make s args RX8 RX5 57 yX5_begin cX5_begin 3 none wsX5_begin rmX5_begin 0 0 2 := cwV 2 hts gX8_make_X5_begin rfl rfl rfl (by decide +kernel) ⟨Nat.le_of_ble_eq_true rfl, Nat.le_of_ble_eq_true rfl⟩
theorem qX8_make_X8_isSide_53 {args : Array Value} {s : State} (hts : ∀ w ∈ wsX8_make, w.before args s = true) : CallB rmX8_make s args RX8 53 yX8_isSide cX8_isSide 1 (some .boolean) wsX8_isSide rmX8_isSide 0 0 1 ∧ (Cond.static yX8_isSide).before args s = true := va_cwS 1 hts gX8_make_X8_isSide rfl rfl rfl (by decide +kernel) ⟨Nat.le_of_ble_eq_true rfl, Nat.le_of_ble_eq_true rfl⟩
set_option maxHeartbeats 4000000 in
set_option maxRecDepth 100000 in
theorem wX8_make_0 {p : Program} {l : Launch} {e : Env} {s : State} {m : MethodId} {args : Array Value} {below : List Frame} {meth : Method} {c : Code} {D : va_G} {A : Nat → Prop} {Q : State → Prop} {cI : ClassId} {h_t h_t_draft h_t_file h_t_source h_t_formats h_p h_p_pixels : Nat} {r0 : Int32} {zp_wide : Int32} {zp_high : Int32} {zp_pixels : Nat → Int32} (C : CallFix p m c cX8_make 3 s args wsX8_make RX8) (hN : zN s) (hK : va_K D vwCl [(cI, .int)] s) (hA : ∀ q, s.heap.size ≤ q → A q) (hE : zEz p l e rmX8_make s m args below meth c cX8_make D A Q (zwX8 h_t h_p h_t_draft h_t_file h_t_source h_t_formats ++ zwX5 cI h_p h_p_pixels zp_wide zp_high zp_pixels) r0) {p_wide : Int32} {p_high : Int32} {p_pixels : Nat → Int32} {v0 : Int32} {v1 : Int32} {H : Heap} {locs : List Loc} {ls : Array Slot} : fX8_make p_wide p_high p_pixels v0 v1 = some (r0, zp_wide, zp_high, zp_pixels) → va_P D vwCl (zwX8 h_t h_p h_t_draft h_t_file h_t_source h_t_formats ++ zwX5 cI h_p h_p_pixels p_wide p_high p_pixels) H → va_D A (zwX8 h_t h_p h_t_draft h_t_file h_t_source h_t_formats ++ zwX5 cI h_p h_p_pixels p_wide p_high p_pixels) → va_S A s.heap H locs → lv_has ls 3 [(0, .ref h_t), (1, .int v0), (2, .int v1)] → W p l e rmX8_make s m args below meth c H locs 0 0 Q (F0 m 0 ls []) := by
  intro hf hP hD hS hl
  obtain ⟨hx, hb, hml, hown, hts⟩ := id C
  unfold fX8_make at hf
  refine lv_iload_n hx hb dX8_make_0 rfl (lv_at hl 1 rfl) ?_
  obtain ⟨r1, hc2, hf⟩ := zb1_in hf
  refine zc_i (va_runS (As := [.int v0]) (rest := []) C (mX8_isSide l D cI H.size v0 r1 hc2) (qX8_make_X8_isSide_53 hts) ⟨zP_blind, zpre hK hN hP hD [] rfl rfl⟩ rfl rfl hl.1 rfl (lv_room (Nat.le_of_ble_eq_true rfl)) dX8_make_1 ⟨Nat.zero_le _, Nat.zero_le _⟩) hP hD hS hA [] [0, 1, 2] [0, 1, 2] (ws' := zwX8 h_t h_p h_t_draft h_t_file h_t_source h_t_formats ++ zwX5 cI h_p h_p_pixels p_wide p_high p_pixels) rfl rfl rfl rfl rfl rfl (fun H locs hP hD hS => ?_)
  refine lv_if_eq (tgt := 14) hx hb dX8_make_4 (by decide) (fun c3 => ?_) (fun c3 => ?_)
  · replace hf := zif_t hf c3
    refine lv_iconst (v := 0) hx hb dX8_make_14 (by decide) ?_
    cases hf
    exact hE _ _ _ _ dX8_make_15 rfl hP hD hS
  · replace hf := zif_f hf c3
    refine lv_iload_n hx hb dX8_make_7 rfl (lv_at hl 2 rfl) ?_
    obtain ⟨r4, hc5, hf⟩ := zb1_in hf
    refine zc_i (va_runS (As := [.int v1]) (rest := []) C (mX8_isSide l D cI H.size v1 r4 hc5) (qX8_make_X8_isSide_53 hts) ⟨zP_blind, zpre hK hN hP hD [] rfl rfl⟩ rfl rfl hl.1 rfl (lv_room (Nat.le_of_ble_eq_true rfl)) dX8_make_8 ⟨Nat.zero_le _, Nat.zero_le _⟩) hP hD hS hA [] [0, 1, 2] [0, 1, 2] (ws' := zwX8 h_t h_p h_t_draft h_t_file h_t_source h_t_formats ++ zwX5 cI h_p h_p_pixels p_wide p_high p_pixels) rfl rfl rfl rfl rfl rfl (fun H locs hP hD hS => ?_)
    refine lv_if_ne (tgt := 16) hx hb dX8_make_11 (by decide) (fun c6 => ?_) (fun c6 => ?_)
    · replace hf := zif_f hf c6
      refine lv_aload_n hx hb dX8_make_16 rfl (lv_at hl 0 rfl) ?_
      refine va_get (D := D) (ci := 7) (v := .ref h_p) (C := RX8) (T := TX8) (N := 5) hx hb hts iX8_make_X8 hown hK hP 0 rfl rfl 0 (by decide) (kX8_make_10 hts) (fun _ h9 => h9) rfl dX8_make_17 ?_
      refine lv_iload_n hx hb dX8_make_20 rfl (lv_at hl 1 rfl) ?_
      refine lv_iload_n hx hb dX8_make_21 rfl (lv_at hl 2 rfl) ?_
      obtain ⟨u7, u8, u9, hc10, hf⟩ := zb3_in hf
      refine zc_v (va_runV (As := [.int v0, .int v1]) (rest := []) C (mX5_begin l D cI H.size h_p h_p_pixels p_wide p_high p_pixels v0 v1 u7 u8 u9 hc10) (qX8_make_X5_begin_57 hts) ⟨zP_blind, va_recv hK hP (ci := 4) (q0 := 1) rfl rfl, zpre hK hN hP hD [1, 2] rfl rfl⟩ rfl rfl hl.1 rfl (lv_room (Nat.le_of_ble_eq_true rfl)) dX8_make_22 ⟨Nat.zero_le _, Nat.zero_le _⟩) hP hD hS hA [1, 2] [0] [0, 1, 2] (ws' := zwX8 h_t h_p h_t_draft h_t_file h_t_source h_t_formats ++ zwX5 cI h_p h_p_pixels u7 u8 u9) rfl rfl rfl rfl rfl rfl (fun H locs hP hD hS => ?_)
      refine lv_iconst (v := 1) hx hb dX8_make_25 (by decide) ?_
      cases hf
      exact hE _ _ _ _ dX8_make_26 rfl hP hD hS
    · replace hf := zif_t hf c6
      refine lv_iconst (v := 0) hx hb dX8_make_14 (by decide) ?_
      cases hf
      exact hE _ _ _ _ dX8_make_15 rfl hP hD hS
set_option maxHeartbeats 4000000 in
set_option maxRecDepth 100000 in
theorem mX8_make (l : Launch) (D : va_G) (cI : ClassId) (sz : Nat) (h_t h_t_draft h_t_file h_t_source h_t_formats h_p h_p_pixels : Nat) (p_wide : Int32) (p_high : Int32) (p_pixels : Nat → Int32) (v0 v1 : Int32) (r0 : Int32) (zp_wide : Int32) (zp_high : Int32) (zp_pixels : Nat → Int32) (hf : fX8_make p_wide p_high p_pixels v0 v1 = some (r0, zp_wide, zp_high, zp_pixels)) : Met l yX8_make wsX8_make rmX8_make (va_Pc [.ref h_t, .int v0, .int v1] (zP D [(cI, .int)] (zwX8 h_t h_p h_t_draft h_t_file h_t_source h_t_formats ++ zwX5 cI h_p h_p_pixels p_wide p_high p_pixels) sz)) (zQi D (zwX8 h_t h_p h_t_draft h_t_file h_t_source h_t_formats ++ zwX5 cI h_p h_p_pixels p_wide p_high p_pixels) sz r0 (zwX8 h_t h_p h_t_draft h_t_file h_t_source h_t_formats ++ zwX5 cI h_p h_p_pixels zp_wide zp_high zp_pixels)) 0 0 (va_A (zwX8 h_t h_p h_t_draft h_t_file h_t_source h_t_formats ++ zwX5 cI h_p h_p_pixels p_wide p_high p_pixels) sz) := by
  refine Met.ofW (cc := cX8_make) (maxL := 3) (ret := (some .boolean)) (by decide) rfl ?_
  intro p e s m args below meth c s₁ B hml hv
  obtain ⟨rfl, hsz, hP, hK, hD0, hN⟩ := hv
  subst hsz
  have C : CallFix p m c cX8_make 3 s [.ref h_t, .int v0, .int v1].toArray wsX8_make RX8 := ⟨B.exec, B.bytes, hml, findClass_of_methodNamed B.named, atoms_spec (ws := wsX8_make) B.pre⟩
  have hl := lv_entry ([.ref h_t, .int v0, .int v1]) (n := 3) (Nat.le_of_ble_eq_true rfl)
  rw [lg_entry_eq]
  exact wX8_make_0 (A := va_A (zwX8 h_t h_p h_t_draft h_t_file h_t_source h_t_formats ++ zwX5 cI h_p h_p_pixels p_wide p_high p_pixels) s.heap.size) C hN hK (fun q h => Or.inr h) (fun H locs pc ls d hn hP hD hS => zend_z C.1 C.2.1 B.returns B.notSynchronized d hn hP hD hS) hf hP hD0.self va_S.rf hl
def rmX8_put : Room := { frames := 1, cells := 0, slots := 0, locals := 23 }
theorem kX8_put_10 {args : Array Value} {s : State} (h : ∀ w ∈ wsX8_put, w.before args s = true) : (Cond.fieldLink RX8 10 "FourPictureFiles" "picture" "LFourPictureFiles$Picture;").before args s = true := h _ (by decide +kernel)
theorem iX8_put_X8 : ∀ w ∈ u_ws RX8 TX8 5, w ∈ wsX8_put := by decide +kernel
theorem qX8_put_X5_has_61 {args : Array Value} {s : State} (hts : ∀ w ∈ wsX8_put, w.before args s = true) : CallW rmX8_put s args RX8 RX5 61 yX5_has cX5_has 3 (some .boolean) wsX5_has rmX5_has 0 0 2 := cwV 2 hts gX8_put_X5_has rfl rfl rfl (by decide +kernel) ⟨Nat.le_of_ble_eq_true rfl, Nat.le_of_ble_eq_true rfl⟩
theorem qX8_put_X5_set_65 {args : Array Value} {s : State} (hts : ∀ w ∈ wsX8_put, w.before args s = true) : CallW rmX8_put s args RX8 RX5 65 yX5_set cX5_set 4 none wsX5_set rmX5_set 0 0 3 := cwV 3 hts gX8_put_X5_set rfl rfl rfl (by decide +kernel) ⟨Nat.le_of_ble_eq_true rfl, Nat.le_of_ble_eq_true rfl⟩
set_option maxHeartbeats 4000000 in
set_option maxRecDepth 100000 in
theorem wX8_put_0 {p : Program} {l : Launch} {e : Env} {s : State} {m : MethodId} {args : Array Value} {below : List Frame} {meth : Method} {c : Code} {D : va_G} {A : Nat → Prop} {Q : State → Prop} {cI : ClassId} {h_t h_t_draft h_t_file h_t_source h_t_formats h_p h_p_pixels : Nat} {p_wide : Int32} {p_high : Int32} {r0 : Int32} {zp_pixels : Nat → Int32} (C : CallFix p m c cX8_put 4 s args wsX8_put RX8) (hN : zN s) (hK : va_K D vwCl [(cI, .int)] s) (hA : ∀ q, s.heap.size ≤ q → A q) (hE : zEz p l e rmX8_put s m args below meth c cX8_put D A Q (zwX8 h_t h_p h_t_draft h_t_file h_t_source h_t_formats ++ zwX5 cI h_p h_p_pixels p_wide p_high zp_pixels) r0) {p_pixels : Nat → Int32} {v0 : Int32} {v1 : Int32} {v2 : Int32} {H : Heap} {locs : List Loc} {ls : Array Slot} : fX8_put p_wide p_high p_pixels v0 v1 v2 = some (r0, zp_pixels) → va_P D vwCl (zwX8 h_t h_p h_t_draft h_t_file h_t_source h_t_formats ++ zwX5 cI h_p h_p_pixels p_wide p_high p_pixels) H → va_D A (zwX8 h_t h_p h_t_draft h_t_file h_t_source h_t_formats ++ zwX5 cI h_p h_p_pixels p_wide p_high p_pixels) → va_S A s.heap H locs → lv_has ls 4 [(0, .ref h_t), (1, .int v0), (2, .int v1), (3, .int v2)] → W p l e rmX8_put s m args below meth c H locs 0 0 Q (F0 m 0 ls []) := by
  intro hf hP hD hS hl
  obtain ⟨hx, hb, hml, hown, hts⟩ := id C
  unfold fX8_put at hf
  refine lv_aload_n hx hb dX8_put_0 rfl (lv_at hl 0 rfl) ?_
  refine va_get (D := D) (ci := 7) (v := .ref h_p) (C := RX8) (T := TX8) (N := 5) hx hb hts iX8_put_X8 hown hK hP 0 rfl rfl 0 (by decide) (kX8_put_10 hts) (fun _ h9 => h9) rfl dX8_put_1 ?_
  refine lv_iload_n hx hb dX8_put_4 rfl (lv_at hl 1 rfl) ?_
  refine lv_iload_n hx hb dX8_put_5 rfl (lv_at hl 2 rfl) ?_
  obtain ⟨r1, hc2, hf⟩ := zb1_in hf
  refine zc_i (va_runV (As := [.int v0, .int v1]) (rest := []) C (mX5_has l D cI H.size h_p h_p_pixels p_wide p_high p_pixels v0 v1 r1 hc2) (qX8_put_X5_has_61 hts) ⟨zP_blind, va_recv hK hP (ci := 4) (q0 := 1) rfl rfl, zpre hK hN hP hD [1, 2] rfl rfl⟩ rfl rfl hl.1 rfl (lv_room (Nat.le_of_ble_eq_true rfl)) dX8_put_6 ⟨Nat.zero_le _, Nat.zero_le _⟩) hP hD hS hA [1, 2] [0] [0, 1, 2] (ws' := zwX8 h_t h_p h_t_draft h_t_file h_t_source h_t_formats ++ zwX5 cI h_p h_p_pixels p_wide p_high p_pixels) rfl rfl rfl rfl rfl rfl (fun H locs hP hD hS => ?_)
  refine lv_if_ne (tgt := 14) hx hb dX8_put_9 (by decide) (fun c3 => ?_) (fun c3 => ?_)
  · replace hf := zif_f hf c3
    refine lv_aload_n hx hb dX8_put_14 rfl (lv_at hl 0 rfl) ?_
    refine va_get (D := D) (ci := 7) (v := .ref h_p) (C := RX8) (T := TX8) (N := 5) hx hb hts iX8_put_X8 hown hK hP 0 rfl rfl 0 (by decide) (kX8_put_10 hts) (fun _ h9 => h9) rfl dX8_put_15 ?_
    refine lv_iload_n hx hb dX8_put_18 rfl (lv_at hl 1 rfl) ?_
    refine lv_iload_n hx hb dX8_put_19 rfl (lv_at hl 2 rfl) ?_
    refine lv_iload_n hx hb dX8_put_20 rfl (lv_at hl 3 rfl) ?_
    obtain ⟨u4, hc5, hf⟩ := zb1_in hf
    refine zc_v (va_runV (As := [.int v0, .int v1, .int v2]) (rest := []) C (mX5_set l D cI H.size h_p h_p_pixels p_wide p_high p_pixels v0 v1 v2 u4 hc5) (qX8_put_X5_set_65 hts) ⟨zP_blind, va_recv hK hP (ci := 4) (q0 := 1) rfl rfl, zpre hK hN hP hD [1, 2] rfl rfl⟩ rfl rfl hl.1 rfl (lv_room (Nat.le_of_ble_eq_true rfl)) dX8_put_21 ⟨Nat.zero_le _, Nat.zero_le _⟩) hP hD hS hA [1, 2] [0] [0, 1, 2] (ws' := zwX8 h_t h_p h_t_draft h_t_file h_t_source h_t_formats ++ zwX5 cI h_p h_p_pixels p_wide p_high u4) rfl rfl rfl rfl rfl rfl (fun H locs hP hD hS => ?_)
    refine lv_iconst (v := 1) hx hb dX8_put_24 (by decide) ?_
    cases hf
    exact hE _ _ _ _ dX8_put_25 rfl hP hD hS
  · replace hf := zif_t hf c3
    refine lv_iconst (v := 0) hx hb dX8_put_12 (by decide) ?_
    cases hf
    exact hE _ _ _ _ dX8_put_13 rfl hP hD hS
set_option maxHeartbeats 4000000 in
set_option maxRecDepth 100000 in
theorem mX8_put (l : Launch) (D : va_G) (cI : ClassId) (sz : Nat) (h_t h_t_draft h_t_file h_t_source h_t_formats h_p h_p_pixels : Nat) (p_wide : Int32) (p_high : Int32) (p_pixels : Nat → Int32) (v0 v1 v2 : Int32) (r0 : Int32) (zp_pixels : Nat → Int32) (hf : fX8_put p_wide p_high p_pixels v0 v1 v2 = some (r0, zp_pixels)) : Met l yX8_put wsX8_put rmX8_put (va_Pc [.ref h_t, .int v0, .int v1, .int v2] (zP D [(cI, .int)] (zwX8 h_t h_p h_t_draft h_t_file h_t_source h_t_formats ++ zwX5 cI h_p h_p_pixels p_wide p_high p_pixels) sz)) (zQi D (zwX8 h_t h_p h_t_draft h_t_file h_t_source h_t_formats ++ zwX5 cI h_p h_p_pixels p_wide p_high p_pixels) sz r0 (zwX8 h_t h_p h_t_draft h_t_file h_t_source h_t_formats ++ zwX5 cI h_p h_p_pixels p_wide p_high zp_pixels)) 0 0 (va_A (zwX8 h_t h_p h_t_draft h_t_file h_t_source h_t_formats ++ zwX5 cI h_p h_p_pixels p_wide p_high p_pixels) sz) := by
  refine Met.ofW (cc := cX8_put) (maxL := 4) (ret := (some .boolean)) (by decide) rfl ?_
  intro p e s m args below meth c s₁ B hml hv
  obtain ⟨rfl, hsz, hP, hK, hD0, hN⟩ := hv
  subst hsz
  have C : CallFix p m c cX8_put 4 s [.ref h_t, .int v0, .int v1, .int v2].toArray wsX8_put RX8 := ⟨B.exec, B.bytes, hml, findClass_of_methodNamed B.named, atoms_spec (ws := wsX8_put) B.pre⟩
  have hl := lv_entry ([.ref h_t, .int v0, .int v1, .int v2]) (n := 4) (Nat.le_of_ble_eq_true rfl)
  rw [lg_entry_eq]
  exact wX8_put_0 (A := va_A (zwX8 h_t h_p h_t_draft h_t_file h_t_source h_t_formats ++ zwX5 cI h_p h_p_pixels p_wide p_high p_pixels) s.heap.size) C hN hK (fun q h => Or.inr h) (fun H locs pc ls d hn hP hD hS => zend_z C.1 C.2.1 B.returns B.notSynchronized d hn hP hD hS) hf hP hD0.self va_S.rf hl
def rmX8_pixel : Room := { frames := 1, cells := 0, slots := 0, locals := 22 }
theorem kX8_pixel_10 {args : Array Value} {s : State} (h : ∀ w ∈ wsX8_pixel, w.before args s = true) : (Cond.fieldLink RX8 10 "FourPictureFiles" "picture" "LFourPictureFiles$Picture;").before args s = true := h _ (by decide +kernel)
theorem iX8_pixel_X8 : ∀ w ∈ u_ws RX8 TX8 5, w ∈ wsX8_pixel := by decide +kernel
theorem qX8_pixel_X5_at_69 {args : Array Value} {s : State} (hts : ∀ w ∈ wsX8_pixel, w.before args s = true) : CallW rmX8_pixel s args RX8 RX5 69 yX5_at cX5_at 3 (some .int) wsX5_at rmX5_at 0 0 2 := cwV 2 hts gX8_pixel_X5_at rfl rfl rfl (by decide +kernel) ⟨Nat.le_of_ble_eq_true rfl, Nat.le_of_ble_eq_true rfl⟩
theorem qX8_pixel_X5_has_61 {args : Array Value} {s : State} (hts : ∀ w ∈ wsX8_pixel, w.before args s = true) : CallW rmX8_pixel s args RX8 RX5 61 yX5_has cX5_has 3 (some .boolean) wsX5_has rmX5_has 0 0 2 := cwV 2 hts gX8_pixel_X5_has rfl rfl rfl (by decide +kernel) ⟨Nat.le_of_ble_eq_true rfl, Nat.le_of_ble_eq_true rfl⟩
set_option maxHeartbeats 4000000 in
set_option maxRecDepth 100000 in
theorem wX8_pixel_0 {p : Program} {l : Launch} {e : Env} {s : State} {m : MethodId} {args : Array Value} {below : List Frame} {meth : Method} {c : Code} {D : va_G} {A : Nat → Prop} {Q : State → Prop} {cI : ClassId} {h_t h_t_draft h_t_file h_t_source h_t_formats h_p h_p_pixels : Nat} {p_wide : Int32} {p_high : Int32} {p_pixels : Nat → Int32} {r0 : Int32} (C : CallFix p m c cX8_pixel 3 s args wsX8_pixel RX8) (hN : zN s) (hK : va_K D vwCl [(cI, .int)] s) (hA : ∀ q, s.heap.size ≤ q → A q) (hE : zEi p l e rmX8_pixel s m args below meth c cX8_pixel D A Q (zwX8 h_t h_p h_t_draft h_t_file h_t_source h_t_formats ++ zwX5 cI h_p h_p_pixels p_wide p_high p_pixels) r0) {v0 : Int32} {v1 : Int32} {H : Heap} {locs : List Loc} {ls : Array Slot} : fX8_pixel p_wide p_high p_pixels v0 v1 = some r0 → va_P D vwCl (zwX8 h_t h_p h_t_draft h_t_file h_t_source h_t_formats ++ zwX5 cI h_p h_p_pixels p_wide p_high p_pixels) H → va_D A (zwX8 h_t h_p h_t_draft h_t_file h_t_source h_t_formats ++ zwX5 cI h_p h_p_pixels p_wide p_high p_pixels) → va_S A s.heap H locs → lv_has ls 3 [(0, .ref h_t), (1, .int v0), (2, .int v1)] → W p l e rmX8_pixel s m args below meth c H locs 0 0 Q (F0 m 0 ls []) := by
  intro hf hP hD hS hl
  obtain ⟨hx, hb, hml, hown, hts⟩ := id C
  unfold fX8_pixel at hf
  refine lv_aload_n hx hb dX8_pixel_0 rfl (lv_at hl 0 rfl) ?_
  refine va_get (D := D) (ci := 7) (v := .ref h_p) (C := RX8) (T := TX8) (N := 5) hx hb hts iX8_pixel_X8 hown hK hP 0 rfl rfl 0 (by decide) (kX8_pixel_10 hts) (fun _ h9 => h9) rfl dX8_pixel_1 ?_
  refine lv_iload_n hx hb dX8_pixel_4 rfl (lv_at hl 1 rfl) ?_
  refine lv_iload_n hx hb dX8_pixel_5 rfl (lv_at hl 2 rfl) ?_
  obtain ⟨r1, hc2, hf⟩ := zb1_in hf
  refine zc_i (va_runV (As := [.int v0, .int v1]) (rest := []) C (mX5_has l D cI H.size h_p h_p_pixels p_wide p_high p_pixels v0 v1 r1 hc2) (qX8_pixel_X5_has_61 hts) ⟨zP_blind, va_recv hK hP (ci := 4) (q0 := 1) rfl rfl, zpre hK hN hP hD [1, 2] rfl rfl⟩ rfl rfl hl.1 rfl (lv_room (Nat.le_of_ble_eq_true rfl)) dX8_pixel_6 ⟨Nat.zero_le _, Nat.zero_le _⟩) hP hD hS hA [1, 2] [0] [0, 1, 2] (ws' := zwX8 h_t h_p h_t_draft h_t_file h_t_source h_t_formats ++ zwX5 cI h_p h_p_pixels p_wide p_high p_pixels) rfl rfl rfl rfl rfl rfl (fun H locs hP hD hS => ?_)
  refine lv_if_eq (tgt := 24) hx hb dX8_pixel_9 (by decide) (fun c3 => ?_) (fun c3 => ?_)
  · replace hf := zif_t hf c3
    refine lv_iconst (v := 0) hx hb dX8_pixel_24 (by decide) ?_
    cases hf
    exact hE _ _ _ _ dX8_pixel_25 hP hD hS
  · replace hf := zif_f hf c3
    refine lv_aload_n hx hb dX8_pixel_12 rfl (lv_at hl 0 rfl) ?_
    refine va_get (D := D) (ci := 7) (v := .ref h_p) (C := RX8) (T := TX8) (N := 5) hx hb hts iX8_pixel_X8 hown hK hP 0 rfl rfl 0 (by decide) (kX8_pixel_10 hts) (fun _ h9 => h9) rfl dX8_pixel_13 ?_
    refine lv_iload_n hx hb dX8_pixel_16 rfl (lv_at hl 1 rfl) ?_
    refine lv_iload_n hx hb dX8_pixel_17 rfl (lv_at hl 2 rfl) ?_
    obtain ⟨r4, hc5, hf⟩ := zb1_in hf
    refine zc_i (va_runV (As := [.int v0, .int v1]) (rest := []) C (mX5_at l D cI H.size h_p h_p_pixels p_wide p_high p_pixels v0 v1 r4 hc5) (qX8_pixel_X5_at_69 hts) ⟨zP_blind, va_recv hK hP (ci := 4) (q0 := 1) rfl rfl, zpre hK hN hP hD [1, 2] rfl rfl⟩ rfl rfl hl.1 rfl (lv_room (Nat.le_of_ble_eq_true rfl)) dX8_pixel_18 ⟨Nat.zero_le _, Nat.zero_le _⟩) hP hD hS hA [1, 2] [0] [0, 1, 2] (ws' := zwX8 h_t h_p h_t_draft h_t_file h_t_source h_t_formats ++ zwX5 cI h_p h_p_pixels p_wide p_high p_pixels) rfl rfl rfl rfl rfl rfl (fun H locs hP hD hS => ?_)
    refine lv_goto (tgt := 25) hx hb dX8_pixel_21 (by decide) ?_
    cases hf
    exact hE _ _ _ _ dX8_pixel_25 hP hD hS
set_option maxHeartbeats 4000000 in
set_option maxRecDepth 100000 in
theorem mX8_pixel (l : Launch) (D : va_G) (cI : ClassId) (sz : Nat) (h_t h_t_draft h_t_file h_t_source h_t_formats h_p h_p_pixels : Nat) (p_wide : Int32) (p_high : Int32) (p_pixels : Nat → Int32) (v0 v1 : Int32) (r0 : Int32) (hf : fX8_pixel p_wide p_high p_pixels v0 v1 = some r0) : Met l yX8_pixel wsX8_pixel rmX8_pixel (va_Pc [.ref h_t, .int v0, .int v1] (zP D [(cI, .int)] (zwX8 h_t h_p h_t_draft h_t_file h_t_source h_t_formats ++ zwX5 cI h_p h_p_pixels p_wide p_high p_pixels) sz)) (zQi D (zwX8 h_t h_p h_t_draft h_t_file h_t_source h_t_formats ++ zwX5 cI h_p h_p_pixels p_wide p_high p_pixels) sz r0 (zwX8 h_t h_p h_t_draft h_t_file h_t_source h_t_formats ++ zwX5 cI h_p h_p_pixels p_wide p_high p_pixels)) 0 0 (va_A (zwX8 h_t h_p h_t_draft h_t_file h_t_source h_t_formats ++ zwX5 cI h_p h_p_pixels p_wide p_high p_pixels) sz) := by
  refine Met.ofW (cc := cX8_pixel) (maxL := 3) (ret := (some .int)) (by decide) rfl ?_
  intro p e s m args below meth c s₁ B hml hv
  obtain ⟨rfl, hsz, hP, hK, hD0, hN⟩ := hv
  subst hsz
  have C : CallFix p m c cX8_pixel 3 s [.ref h_t, .int v0, .int v1].toArray wsX8_pixel RX8 := ⟨B.exec, B.bytes, hml, findClass_of_methodNamed B.named, atoms_spec (ws := wsX8_pixel) B.pre⟩
  have hl := lv_entry ([.ref h_t, .int v0, .int v1]) (n := 3) (Nat.le_of_ble_eq_true rfl)
  rw [lg_entry_eq]
  exact wX8_pixel_0 (A := va_A (zwX8 h_t h_p h_t_draft h_t_file h_t_source h_t_formats ++ zwX5 cI h_p h_p_pixels p_wide p_high p_pixels) s.heap.size) C hN hK (fun q h => Or.inr h) (fun H locs pc ls d hP hD hS => zend_i C.1 C.2.1 B.returns B.notSynchronized d hP hD hS) hf hP hD0.self va_S.rf hl
def rmX8_width : Room := { frames := 0, cells := 0, slots := 0, locals := 0 }
theorem kX8_width_10 {args : Array Value} {s : State} (h : ∀ w ∈ wsX8_width, w.before args s = true) : (Cond.fieldLink RX8 10 "FourPictureFiles" "picture" "LFourPictureFiles$Picture;").before args s = true := h _ (by decide +kernel)
theorem iX8_width_X5 : ∀ w ∈ u_ws RX5 TX5 3, w ∈ wsX8_width := by decide +kernel
theorem iX8_width_X8 : ∀ w ∈ u_ws RX8 TX8 5, w ∈ wsX8_width := by decide +kernel
set_option maxHeartbeats 4000000 in
set_option maxRecDepth 100000 in
theorem wX8_width_0 {p : Program} {l : Launch} {e : Env} {s : State} {m : MethodId} {args : Array Value} {below : List Frame} {meth : Method} {c : Code} {D : va_G} {A : Nat → Prop} {Q : State → Prop} {cI : ClassId} {h_t h_t_draft h_t_file h_t_source h_t_formats h_p h_p_pixels : Nat} {p_wide : Int32} {p_high : Int32} {p_pixels : Nat → Int32} {r0 : Int32} (C : CallFix p m c cX8_width 1 s args wsX8_width RX8) (hN : zN s) (hK : va_K D vwCl [(cI, .int)] s) (hA : ∀ q, s.heap.size ≤ q → A q) (hE : zEi p l e rmX8_width s m args below meth c cX8_width D A Q (zwX8 h_t h_p h_t_draft h_t_file h_t_source h_t_formats ++ zwX5 cI h_p h_p_pixels p_wide p_high p_pixels) r0) {H : Heap} {locs : List Loc} {ls : Array Slot} : fX8_width p_wide = some r0 → va_P D vwCl (zwX8 h_t h_p h_t_draft h_t_file h_t_source h_t_formats ++ zwX5 cI h_p h_p_pixels p_wide p_high p_pixels) H → va_D A (zwX8 h_t h_p h_t_draft h_t_file h_t_source h_t_formats ++ zwX5 cI h_p h_p_pixels p_wide p_high p_pixels) → va_S A s.heap H locs → lv_has ls 1 [(0, .ref h_t)] → W p l e rmX8_width s m args below meth c H locs 0 0 Q (F0 m 0 ls []) := by
  intro hf hP hD hS hl
  obtain ⟨hx, hb, hml, hown, hts⟩ := id C
  unfold fX8_width at hf
  refine lv_aload_n hx hb dX8_width_0 rfl (lv_at hl 0 rfl) ?_
  refine va_get (D := D) (ci := 7) (v := .ref h_p) (C := RX8) (T := TX8) (N := 5) hx hb hts iX8_width_X8 hown hK hP 0 rfl rfl 0 (by decide) (kX8_width_10 hts) (fun _ h9 => h9) rfl dX8_width_1 ?_
  refine va_getN (D := D) (ci := 4) (v := .int p_wide) (C := RX5) (T := TX5) (N := 3) hx hb hts iX8_width_X5 hown hK hP 1 rfl rfl 1 (by decide) (hN.at 5 rfl) (fun _ h9 => h9) rfl dX8_width_4 ?_
  cases hf
  exact hE _ _ _ _ dX8_width_7 hP hD hS
set_option maxHeartbeats 4000000 in
set_option maxRecDepth 100000 in
theorem mX8_width (l : Launch) (D : va_G) (cI : ClassId) (sz : Nat) (h_t h_t_draft h_t_file h_t_source h_t_formats h_p h_p_pixels : Nat) (p_wide : Int32) (p_high : Int32) (p_pixels : Nat → Int32) (r0 : Int32) (hf : fX8_width p_wide = some r0) : Met l yX8_width wsX8_width rmX8_width (va_Pc [.ref h_t] (zP D [(cI, .int)] (zwX8 h_t h_p h_t_draft h_t_file h_t_source h_t_formats ++ zwX5 cI h_p h_p_pixels p_wide p_high p_pixels) sz)) (zQi D (zwX8 h_t h_p h_t_draft h_t_file h_t_source h_t_formats ++ zwX5 cI h_p h_p_pixels p_wide p_high p_pixels) sz r0 (zwX8 h_t h_p h_t_draft h_t_file h_t_source h_t_formats ++ zwX5 cI h_p h_p_pixels p_wide p_high p_pixels)) 0 0 (va_A (zwX8 h_t h_p h_t_draft h_t_file h_t_source h_t_formats ++ zwX5 cI h_p h_p_pixels p_wide p_high p_pixels) sz) := by
  refine Met.ofW (cc := cX8_width) (maxL := 1) (ret := (some .int)) (by decide) rfl ?_
  intro p e s m args below meth c s₁ B hml hv
  obtain ⟨rfl, hsz, hP, hK, hD0, hN⟩ := hv
  subst hsz
  have C : CallFix p m c cX8_width 1 s [.ref h_t].toArray wsX8_width RX8 := ⟨B.exec, B.bytes, hml, findClass_of_methodNamed B.named, atoms_spec (ws := wsX8_width) B.pre⟩
  have hl := lv_entry ([.ref h_t]) (n := 1) (Nat.le_of_ble_eq_true rfl)
  rw [lg_entry_eq]
  exact wX8_width_0 (A := va_A (zwX8 h_t h_p h_t_draft h_t_file h_t_source h_t_formats ++ zwX5 cI h_p h_p_pixels p_wide p_high p_pixels) s.heap.size) C hN hK (fun q h => Or.inr h) (fun H locs pc ls d hP hD hS => zend_i C.1 C.2.1 B.returns B.notSynchronized d hP hD hS) hf hP hD0.self va_S.rf hl
def rmX8_height : Room := { frames := 0, cells := 0, slots := 0, locals := 0 }
theorem kX8_height_10 {args : Array Value} {s : State} (h : ∀ w ∈ wsX8_height, w.before args s = true) : (Cond.fieldLink RX8 10 "FourPictureFiles" "picture" "LFourPictureFiles$Picture;").before args s = true := h _ (by decide +kernel)
theorem iX8_height_X5 : ∀ w ∈ u_ws RX5 TX5 3, w ∈ wsX8_height := by decide +kernel
theorem iX8_height_X8 : ∀ w ∈ u_ws RX8 TX8 5, w ∈ wsX8_height := by decide +kernel
set_option maxHeartbeats 4000000 in
set_option maxRecDepth 100000 in
theorem wX8_height_0 {p : Program} {l : Launch} {e : Env} {s : State} {m : MethodId} {args : Array Value} {below : List Frame} {meth : Method} {c : Code} {D : va_G} {A : Nat → Prop} {Q : State → Prop} {cI : ClassId} {h_t h_t_draft h_t_file h_t_source h_t_formats h_p h_p_pixels : Nat} {p_wide : Int32} {p_high : Int32} {p_pixels : Nat → Int32} {r0 : Int32} (C : CallFix p m c cX8_height 1 s args wsX8_height RX8) (hN : zN s) (hK : va_K D vwCl [(cI, .int)] s) (hA : ∀ q, s.heap.size ≤ q → A q) (hE : zEi p l e rmX8_height s m args below meth c cX8_height D A Q (zwX8 h_t h_p h_t_draft h_t_file h_t_source h_t_formats ++ zwX5 cI h_p h_p_pixels p_wide p_high p_pixels) r0) {H : Heap} {locs : List Loc} {ls : Array Slot} : fX8_height p_high = some r0 → va_P D vwCl (zwX8 h_t h_p h_t_draft h_t_file h_t_source h_t_formats ++ zwX5 cI h_p h_p_pixels p_wide p_high p_pixels) H → va_D A (zwX8 h_t h_p h_t_draft h_t_file h_t_source h_t_formats ++ zwX5 cI h_p h_p_pixels p_wide p_high p_pixels) → va_S A s.heap H locs → lv_has ls 1 [(0, .ref h_t)] → W p l e rmX8_height s m args below meth c H locs 0 0 Q (F0 m 0 ls []) := by
  intro hf hP hD hS hl
  obtain ⟨hx, hb, hml, hown, hts⟩ := id C
  unfold fX8_height at hf
  refine lv_aload_n hx hb dX8_height_0 rfl (lv_at hl 0 rfl) ?_
  refine va_get (D := D) (ci := 7) (v := .ref h_p) (C := RX8) (T := TX8) (N := 5) hx hb hts iX8_height_X8 hown hK hP 0 rfl rfl 0 (by decide) (kX8_height_10 hts) (fun _ h9 => h9) rfl dX8_height_1 ?_
  refine va_getN (D := D) (ci := 4) (v := .int p_high) (C := RX5) (T := TX5) (N := 3) hx hb hts iX8_height_X5 hown hK hP 1 rfl rfl 2 (by decide) (hN.at 11 rfl) (fun _ h9 => h9) rfl dX8_height_4 ?_
  cases hf
  exact hE _ _ _ _ dX8_height_7 hP hD hS
set_option maxHeartbeats 4000000 in
set_option maxRecDepth 100000 in
theorem mX8_height (l : Launch) (D : va_G) (cI : ClassId) (sz : Nat) (h_t h_t_draft h_t_file h_t_source h_t_formats h_p h_p_pixels : Nat) (p_wide : Int32) (p_high : Int32) (p_pixels : Nat → Int32) (r0 : Int32) (hf : fX8_height p_high = some r0) : Met l yX8_height wsX8_height rmX8_height (va_Pc [.ref h_t] (zP D [(cI, .int)] (zwX8 h_t h_p h_t_draft h_t_file h_t_source h_t_formats ++ zwX5 cI h_p h_p_pixels p_wide p_high p_pixels) sz)) (zQi D (zwX8 h_t h_p h_t_draft h_t_file h_t_source h_t_formats ++ zwX5 cI h_p h_p_pixels p_wide p_high p_pixels) sz r0 (zwX8 h_t h_p h_t_draft h_t_file h_t_source h_t_formats ++ zwX5 cI h_p h_p_pixels p_wide p_high p_pixels)) 0 0 (va_A (zwX8 h_t h_p h_t_draft h_t_file h_t_source h_t_formats ++ zwX5 cI h_p h_p_pixels p_wide p_high p_pixels) sz) := by
  refine Met.ofW (cc := cX8_height) (maxL := 1) (ret := (some .int)) (by decide) rfl ?_
  intro p e s m args below meth c s₁ B hml hv
  obtain ⟨rfl, hsz, hP, hK, hD0, hN⟩ := hv
  subst hsz
  have C : CallFix p m c cX8_height 1 s [.ref h_t].toArray wsX8_height RX8 := ⟨B.exec, B.bytes, hml, findClass_of_methodNamed B.named, atoms_spec (ws := wsX8_height) B.pre⟩
  have hl := lv_entry ([.ref h_t]) (n := 1) (Nat.le_of_ble_eq_true rfl)
  rw [lg_entry_eq]
  exact wX8_height_0 (A := va_A (zwX8 h_t h_p h_t_draft h_t_file h_t_source h_t_formats ++ zwX5 cI h_p h_p_pixels p_wide p_high p_pixels) s.heap.size) C hN hK (fun q h => Or.inr h) (fun H locs pc ls d hP hD hS => zend_i C.1 C.2.1 B.returns B.notSynchronized d hP hD hS) hf hP hD0.self va_S.rf hl
def rmX8_change : Room := { frames := 4, cells := 0, slots := 0, locals := 89 }
theorem kX8_change_10 {args : Array Value} {s : State} (h : ∀ w ∈ wsX8_change, w.before args s = true) : (Cond.fieldLink RX8 10 "FourPictureFiles" "picture" "LFourPictureFiles$Picture;").before args s = true := h _ (by decide +kernel)
theorem kX8_change_16 {args : Array Value} {s : State} (h : ∀ w ∈ wsX8_change, w.before args s = true) : (Cond.fieldLink RX8 16 "FourPictureFiles" "draft" "LFourPictureFiles$Picture;").before args s = true := h _ (by decide +kernel)
theorem iX8_change_X8 : ∀ w ∈ u_ws RX8 TX8 5, w ∈ wsX8_change := by decide +kernel
theorem qX8_change_X5_become_90 {args : Array Value} {s : State} (hts : ∀ w ∈ wsX8_change, w.before args s = true) : CallW rmX8_change s args RX8 RX5 90 yX5_become cX5_become 2 none wsX5_become rmX5_become 0 0 1 := cwV 1 hts gX8_change_X5_become rfl rfl rfl (by decide +kernel) ⟨Nat.le_of_ble_eq_true rfl, Nat.le_of_ble_eq_true rfl⟩
theorem qX8_change_X5_becomeOpaque_96 {args : Array Value} {s : State} (hts : ∀ w ∈ wsX8_change, w.before args s = true) : CallW rmX8_change s args RX8 RX5 96 yX5_becomeOpaque cX5_becomeOpaque 2 none wsX5_becomeOpaque rmX5_becomeOpaque 0 0 0 := cwV 0 hts gX8_change_X5_becomeOpaque rfl rfl rfl (by decide +kernel) ⟨Nat.le_of_ble_eq_true rfl, Nat.le_of_ble_eq_true rfl⟩
theorem qX8_change_X5_becomeTurned_86 {args : Array Value} {s : State} (hts : ∀ w ∈ wsX8_change, w.before args s = true) : CallW rmX8_change s args RX8 RX5 86 yX5_becomeTurned cX5_becomeTurned 4 none wsX5_becomeTurned rmX5_becomeTurned 0 0 1 := cwV 1 hts gX8_change_X5_becomeTurned rfl rfl rfl (by decide +kernel) ⟨Nat.le_of_ble_eq_true rfl, Nat.le_of_ble_eq_true rfl⟩
theorem qX8_change_X5_exchangeColumns_80 {args : Array Value} {s : State} (hts : ∀ w ∈ wsX8_change, w.before args s = true) : CallW rmX8_change s args RX8 RX5 80 yX5_exchangeColumns cX5_exchangeColumns 3 none wsX5_exchangeColumns rmX5_exchangeColumns 0 0 0 := cwV 0 hts gX8_change_X5_exchangeColumns rfl rfl rfl (by decide +kernel) ⟨Nat.le_of_ble_eq_true rfl, Nat.le_of_ble_eq_true rfl⟩
theorem qX8_change_X5_exchangeRows_83 {args : Array Value} {s : State} (hts : ∀ w ∈ wsX8_change, w.before args s = true) : CallW rmX8_change s args RX8 RX5 83 yX5_exchangeRows cX5_exchangeRows 3 none wsX5_exchangeRows rmX5_exchangeRows 0 0 0 := cwV 0 hts gX8_change_X5_exchangeRows rfl rfl rfl (by decide +kernel) ⟨Nat.le_of_ble_eq_true rfl, Nat.le_of_ble_eq_true rfl⟩
theorem qX8_change_X5_loseColour_93 {args : Array Value} {s : State} (hts : ∀ w ∈ wsX8_change, w.before args s = true) : CallW rmX8_change s args RX8 RX5 93 yX5_loseColour cX5_loseColour 4 none wsX5_loseColour rmX5_loseColour 0 0 0 := cwV 0 hts gX8_change_X5_loseColour rfl rfl rfl (by decide +kernel) ⟨Nat.le_of_ble_eq_true rfl, Nat.le_of_ble_eq_true rfl⟩
set_option maxHeartbeats 4000000 in
set_option maxRecDepth 100000 in
theorem wX8_change_0 {p : Program} {l : Launch} {e : Env} {s : State} {m : MethodId} {args : Array Value} {below : List Frame} {meth : Method} {c : Code} {D : va_G} {A : Nat → Prop} {Q : State → Prop} {cI : ClassId} {h_t h_t_file h_t_source h_t_formats h_p h_p_pixels h_d h_d_pixels : Nat} {r0 : Int32} {zp_wide : Int32} {zp_high : Int32} {zp_pixels : Nat → Int32} {zd_wide : Int32} {zd_high : Int32} {zd_pixels : Nat → Int32} (C : CallFix p m c cX8_change 2 s args wsX8_change RX8) (hN : zN s) (hK : va_K D vwCl [(cI, .int)] s) (hA : ∀ q, s.heap.size ≤ q → A q) (hE : zEz p l e rmX8_change s m args below meth c cX8_change D A Q (zwX8 h_t h_p h_d h_t_file h_t_source h_t_formats ++ zwX5 cI h_p h_p_pixels zp_wide zp_high zp_pixels ++ zwX5 cI h_d h_d_pixels zd_wide zd_high zd_pixels) r0) {p_wide : Int32} {p_high : Int32} {p_pixels : Nat → Int32} {d_wide : Int32} {d_high : Int32} {d_pixels : Nat → Int32} {v0 : Int32} {H : Heap} {locs : List Loc} {ls : Array Slot} : fX8_change p_wide p_high p_pixels d_wide d_high d_pixels v0 = some (r0, zp_wide, zp_high, zp_pixels, zd_wide, zd_high, zd_pixels) → va_P D vwCl (zwX8 h_t h_p h_d h_t_file h_t_source h_t_formats ++ zwX5 cI h_p h_p_pixels p_wide p_high p_pixels ++ zwX5 cI h_d h_d_pixels d_wide d_high d_pixels) H → va_D A (zwX8 h_t h_p h_d h_t_file h_t_source h_t_formats ++ zwX5 cI h_p h_p_pixels p_wide p_high p_pixels ++ zwX5 cI h_d h_d_pixels d_wide d_high d_pixels) → va_S A s.heap H locs → lv_has ls 2 [(0, .ref h_t), (1, .int v0)] → W p l e rmX8_change s m args below meth c H locs 0 0 Q (F0 m 0 ls []) := by
  intro hf hP hD hS hl
  obtain ⟨hx, hb, hml, hown, hts⟩ := id C
  unfold fX8_change at hf
  refine lv_iload_n hx hb dX8_change_0 rfl (lv_at hl 1 rfl) ?_
  by_cases c1 : v0 = 0
  · replace hf := zif_t hf c1
    refine lv_tableIn (tgt := 36) hx hb dX8_change_1 (by rw [c1]; decide) (by rw [c1]; decide) (by rw [c1]; rfl) (by decide) ?_
    refine lv_aload_n hx hb dX8_change_36 rfl (lv_at hl 0 rfl) ?_
    refine va_get (D := D) (ci := 7) (v := .ref h_p) (C := RX8) (T := TX8) (N := 5) hx hb hts iX8_change_X8 hown hK hP 0 rfl rfl 0 (by decide) (kX8_change_10 hts) (fun _ h9 => h9) rfl dX8_change_37 ?_
    obtain ⟨u2, hc3, hf⟩ := zb1_in hf
    refine zc_v (va_runV (As := []) (rest := []) C (mX5_exchangeColumns l D cI H.size h_p h_p_pixels p_wide p_high p_pixels u2 hc3) (qX8_change_X5_exchangeColumns_80 hts) ⟨zP_blind, va_recv hK hP (ci := 4) (q0 := 1) rfl rfl, zpre hK hN hP hD [1, 2] rfl rfl⟩ rfl rfl hl.1 rfl (lv_room (Nat.le_of_ble_eq_true rfl)) dX8_change_40 ⟨Nat.zero_le _, Nat.zero_le _⟩) hP hD hS hA [1, 2] [0, 3, 4] [0, 3, 4, 1, 2] (ws' := zwX8 h_t h_p h_d h_t_file h_t_source h_t_formats ++ zwX5 cI h_p h_p_pixels p_wide p_high u2 ++ zwX5 cI h_d h_d_pixels d_wide d_high d_pixels) rfl rfl rfl rfl rfl rfl (fun H locs hP hD hS => ?_)
    refine lv_iconst (v := 1) hx hb dX8_change_43 (by decide) ?_
    cases hf
    exact hE _ _ _ _ dX8_change_44 rfl hP hD hS
  replace hf := zif_f hf c1
  by_cases c4 : v0 = 1
  · replace hf := zif_t hf c4
    refine lv_tableIn (tgt := 45) hx hb dX8_change_1 (by rw [c4]; decide) (by rw [c4]; decide) (by rw [c4]; rfl) (by decide) ?_
    refine lv_aload_n hx hb dX8_change_45 rfl (lv_at hl 0 rfl) ?_
    refine va_get (D := D) (ci := 7) (v := .ref h_p) (C := RX8) (T := TX8) (N := 5) hx hb hts iX8_change_X8 hown hK hP 0 rfl rfl 0 (by decide) (kX8_change_10 hts) (fun _ h9 => h9) rfl dX8_change_46 ?_
    obtain ⟨u5, hc6, hf⟩ := zb1_in hf
    refine zc_v (va_runV (As := []) (rest := []) C (mX5_exchangeRows l D cI H.size h_p h_p_pixels p_wide p_high p_pixels u5 hc6) (qX8_change_X5_exchangeRows_83 hts) ⟨zP_blind, va_recv hK hP (ci := 4) (q0 := 1) rfl rfl, zpre hK hN hP hD [1, 2] rfl rfl⟩ rfl rfl hl.1 rfl (lv_room (Nat.le_of_ble_eq_true rfl)) dX8_change_49 ⟨Nat.zero_le _, Nat.zero_le _⟩) hP hD hS hA [1, 2] [0, 3, 4] [0, 3, 4, 1, 2] (ws' := zwX8 h_t h_p h_d h_t_file h_t_source h_t_formats ++ zwX5 cI h_p h_p_pixels p_wide p_high u5 ++ zwX5 cI h_d h_d_pixels d_wide d_high d_pixels) rfl rfl rfl rfl rfl rfl (fun H locs hP hD hS => ?_)
    refine lv_iconst (v := 1) hx hb dX8_change_52 (by decide) ?_
    cases hf
    exact hE _ _ _ _ dX8_change_53 rfl hP hD hS
  replace hf := zif_f hf c4
  by_cases c7 : v0 = 2
  · replace hf := zif_t hf c7
    refine lv_tableIn (tgt := 54) hx hb dX8_change_1 (by rw [c7]; decide) (by rw [c7]; decide) (by rw [c7]; rfl) (by decide) ?_
    refine lv_aload_n hx hb dX8_change_54 rfl (lv_at hl 0 rfl) ?_
    refine va_get (D := D) (ci := 7) (v := .ref h_d) (C := RX8) (T := TX8) (N := 5) hx hb hts iX8_change_X8 hown hK hP 0 rfl rfl 1 (by decide) (kX8_change_16 hts) (fun _ h9 => h9) rfl dX8_change_55 ?_
    refine lv_aload_n hx hb dX8_change_58 rfl (lv_at hl 0 rfl) ?_
    refine va_get (D := D) (ci := 7) (v := .ref h_p) (C := RX8) (T := TX8) (N := 5) hx hb hts iX8_change_X8 hown hK hP 0 rfl rfl 0 (by decide) (kX8_change_10 hts) (fun _ h9 => h9) rfl dX8_change_59 ?_
    obtain ⟨u8, u9, u10, hc11, hf⟩ := zb3_in hf
    refine zc_v (va_runV (As := [.ref h_p]) (rest := []) C (mX5_becomeTurned l D cI H.size h_d h_d_pixels h_p h_p_pixels d_wide d_high d_pixels p_wide p_high p_pixels u8 u9 u10 hc11) (qX8_change_X5_becomeTurned_86 hts) ⟨zP_blind, va_recv hK hP (ci := 4) (q0 := 3) rfl rfl, zpre hK hN hP hD [3, 4, 1, 2] rfl rfl⟩ rfl rfl hl.1 rfl (lv_room (Nat.le_of_ble_eq_true rfl)) dX8_change_62 ⟨Nat.zero_le _, Nat.zero_le _⟩) hP hD hS hA [3, 4, 1, 2] [0] [0, 3, 4, 1, 2] (ws' := zwX8 h_t h_p h_d h_t_file h_t_source h_t_formats ++ zwX5 cI h_p h_p_pixels p_wide p_high p_pixels ++ zwX5 cI h_d h_d_pixels u8 u9 u10) rfl rfl rfl rfl rfl rfl (fun H locs hP hD hS => ?_)
    refine lv_aload_n hx hb dX8_change_65 rfl (lv_at hl 0 rfl) ?_
    refine va_get (D := D) (ci := 7) (v := .ref h_p) (C := RX8) (T := TX8) (N := 5) hx hb hts iX8_change_X8 hown hK hP 0 rfl rfl 0 (by decide) (kX8_change_10 hts) (fun _ h9 => h9) rfl dX8_change_66 ?_
    refine lv_aload_n hx hb dX8_change_69 rfl (lv_at hl 0 rfl) ?_
    refine va_get (D := D) (ci := 7) (v := .ref h_d) (C := RX8) (T := TX8) (N := 5) hx hb hts iX8_change_X8 hown hK hP 0 rfl rfl 1 (by decide) (kX8_change_16 hts) (fun _ h9 => h9) rfl dX8_change_70 ?_
    obtain ⟨u12, u13, u14, hc15, hf⟩ := zb3_in hf
    refine zc_v (va_runV (As := [.ref h_d]) (rest := []) C (mX5_become l D cI H.size h_p h_p_pixels h_d h_d_pixels p_wide p_high p_pixels u8 u9 u10 u12 u13 u14 hc15) (qX8_change_X5_become_90 hts) ⟨zP_blind, va_recv hK hP (ci := 4) (q0 := 1) rfl rfl, zpre hK hN hP hD [1, 2, 3, 4] rfl rfl⟩ rfl rfl hl.1 rfl (lv_room (Nat.le_of_ble_eq_true rfl)) dX8_change_73 ⟨Nat.zero_le _, Nat.zero_le _⟩) hP hD hS hA [1, 2, 3, 4] [0] [0, 1, 2, 3, 4] (ws' := zwX8 h_t h_p h_d h_t_file h_t_source h_t_formats ++ zwX5 cI h_p h_p_pixels u12 u13 u14 ++ zwX5 cI h_d h_d_pixels u8 u9 u10) rfl rfl rfl rfl rfl rfl (fun H locs hP hD hS => ?_)
    refine lv_iconst (v := 1) hx hb dX8_change_76 (by decide) ?_
    cases hf
    exact hE _ _ _ _ dX8_change_77 rfl hP hD hS
  replace hf := zif_f hf c7
  by_cases c16 : v0 = 3
  · replace hf := zif_t hf c16
    refine lv_tableIn (tgt := 78) hx hb dX8_change_1 (by rw [c16]; decide) (by rw [c16]; decide) (by rw [c16]; rfl) (by decide) ?_
    refine lv_aload_n hx hb dX8_change_78 rfl (lv_at hl 0 rfl) ?_
    refine va_get (D := D) (ci := 7) (v := .ref h_p) (C := RX8) (T := TX8) (N := 5) hx hb hts iX8_change_X8 hown hK hP 0 rfl rfl 0 (by decide) (kX8_change_10 hts) (fun _ h9 => h9) rfl dX8_change_79 ?_
    obtain ⟨u17, hc18, hf⟩ := zb1_in hf
    refine zc_v (va_runV (As := []) (rest := []) C (mX5_loseColour l D cI H.size h_p h_p_pixels p_wide p_high p_pixels u17 hc18) (qX8_change_X5_loseColour_93 hts) ⟨zP_blind, va_recv hK hP (ci := 4) (q0 := 1) rfl rfl, zpre hK hN hP hD [1, 2] rfl rfl⟩ rfl rfl hl.1 rfl (lv_room (Nat.le_of_ble_eq_true rfl)) dX8_change_82 ⟨Nat.zero_le _, Nat.zero_le _⟩) hP hD hS hA [1, 2] [0, 3, 4] [0, 3, 4, 1, 2] (ws' := zwX8 h_t h_p h_d h_t_file h_t_source h_t_formats ++ zwX5 cI h_p h_p_pixels p_wide p_high u17 ++ zwX5 cI h_d h_d_pixels d_wide d_high d_pixels) rfl rfl rfl rfl rfl rfl (fun H locs hP hD hS => ?_)
    refine lv_iconst (v := 1) hx hb dX8_change_85 (by decide) ?_
    cases hf
    exact hE _ _ _ _ dX8_change_86 rfl hP hD hS
  replace hf := zif_f hf c16
  by_cases c19 : v0 = 4
  · replace hf := zif_t hf c19
    refine lv_tableIn (tgt := 87) hx hb dX8_change_1 (by rw [c19]; decide) (by rw [c19]; decide) (by rw [c19]; rfl) (by decide) ?_
    refine lv_aload_n hx hb dX8_change_87 rfl (lv_at hl 0 rfl) ?_
    refine va_get (D := D) (ci := 7) (v := .ref h_p) (C := RX8) (T := TX8) (N := 5) hx hb hts iX8_change_X8 hown hK hP 0 rfl rfl 0 (by decide) (kX8_change_10 hts) (fun _ h9 => h9) rfl dX8_change_88 ?_
    obtain ⟨u20, hc21, hf⟩ := zb1_in hf
    refine zc_v (va_runV (As := []) (rest := []) C (mX5_becomeOpaque l D cI H.size h_p h_p_pixels p_wide p_high p_pixels u20 hc21) (qX8_change_X5_becomeOpaque_96 hts) ⟨zP_blind, va_recv hK hP (ci := 4) (q0 := 1) rfl rfl, zpre hK hN hP hD [1, 2] rfl rfl⟩ rfl rfl hl.1 rfl (lv_room (Nat.le_of_ble_eq_true rfl)) dX8_change_91 ⟨Nat.zero_le _, Nat.zero_le _⟩) hP hD hS hA [1, 2] [0, 3, 4] [0, 3, 4, 1, 2] (ws' := zwX8 h_t h_p h_d h_t_file h_t_source h_t_formats ++ zwX5 cI h_p h_p_pixels p_wide p_high u20 ++ zwX5 cI h_d h_d_pixels d_wide d_high d_pixels) rfl rfl rfl rfl rfl rfl (fun H locs hP hD hS => ?_)
    refine lv_iconst (v := 1) hx hb dX8_change_94 (by decide) ?_
    cases hf
    exact hE _ _ _ _ dX8_change_95 rfl hP hD hS
  replace hf := zif_f hf c19
  refine lv_tableOut (tgt := 96) hx hb dX8_change_1 (ztab 4 (zall4 c1 c4 c7 c16 c19)) (by decide) ?_
  refine lv_iconst (v := 0) hx hb dX8_change_96 (by decide) ?_
  cases hf
  exact hE _ _ _ _ dX8_change_97 rfl hP hD hS
set_option maxHeartbeats 4000000 in
set_option maxRecDepth 100000 in
theorem mX8_change (l : Launch) (D : va_G) (cI : ClassId) (sz : Nat) (h_t h_t_file h_t_source h_t_formats h_p h_p_pixels h_d h_d_pixels : Nat) (p_wide : Int32) (p_high : Int32) (p_pixels : Nat → Int32) (d_wide : Int32) (d_high : Int32) (d_pixels : Nat → Int32) (v0 : Int32) (r0 : Int32) (zp_wide : Int32) (zp_high : Int32) (zp_pixels : Nat → Int32) (zd_wide : Int32) (zd_high : Int32) (zd_pixels : Nat → Int32) (hf : fX8_change p_wide p_high p_pixels d_wide d_high d_pixels v0 = some (r0, zp_wide, zp_high, zp_pixels, zd_wide, zd_high, zd_pixels)) : Met l yX8_change wsX8_change rmX8_change (va_Pc [.ref h_t, .int v0] (zP D [(cI, .int)] (zwX8 h_t h_p h_d h_t_file h_t_source h_t_formats ++ zwX5 cI h_p h_p_pixels p_wide p_high p_pixels ++ zwX5 cI h_d h_d_pixels d_wide d_high d_pixels) sz)) (zQi D (zwX8 h_t h_p h_d h_t_file h_t_source h_t_formats ++ zwX5 cI h_p h_p_pixels p_wide p_high p_pixels ++ zwX5 cI h_d h_d_pixels d_wide d_high d_pixels) sz r0 (zwX8 h_t h_p h_d h_t_file h_t_source h_t_formats ++ zwX5 cI h_p h_p_pixels zp_wide zp_high zp_pixels ++ zwX5 cI h_d h_d_pixels zd_wide zd_high zd_pixels)) 0 0 (va_A (zwX8 h_t h_p h_d h_t_file h_t_source h_t_formats ++ zwX5 cI h_p h_p_pixels p_wide p_high p_pixels ++ zwX5 cI h_d h_d_pixels d_wide d_high d_pixels) sz) := by
  refine Met.ofW (cc := cX8_change) (maxL := 2) (ret := (some .boolean)) (by decide) rfl ?_
  intro p e s m args below meth c s₁ B hml hv
  obtain ⟨rfl, hsz, hP, hK, hD0, hN⟩ := hv
  subst hsz
  have C : CallFix p m c cX8_change 2 s [.ref h_t, .int v0].toArray wsX8_change RX8 := ⟨B.exec, B.bytes, hml, findClass_of_methodNamed B.named, atoms_spec (ws := wsX8_change) B.pre⟩
  have hl := lv_entry ([.ref h_t, .int v0]) (n := 2) (Nat.le_of_ble_eq_true rfl)
  rw [lg_entry_eq]
  exact wX8_change_0 (A := va_A (zwX8 h_t h_p h_d h_t_file h_t_source h_t_formats ++ zwX5 cI h_p h_p_pixels p_wide p_high p_pixels ++ zwX5 cI h_d h_d_pixels d_wide d_high d_pixels) s.heap.size) C hN hK (fun q h => Or.inr h) (fun H locs pc ls d hn hP hD hS => zend_z C.1 C.2.1 B.returns B.notSynchronized d hn hP hD hS) hf hP hD0.self va_S.rf hl
def rmX8_feed : Room := { frames := 1, cells := 0, slots := 0, locals := 21 }
theorem kX8_feed_22 {args : Array Value} {s : State} (h : ∀ w ∈ wsX8_feed, w.before args s = true) : (Cond.fieldLink RX8 22 "FourPictureFiles" "file" "LFourPictureFiles$FileRow;").before args s = true := h _ (by decide +kernel)
theorem iX8_feed_X8 : ∀ w ∈ u_ws RX8 TX8 5, w ∈ wsX8_feed := by decide +kernel
theorem qX8_feed_X2_append_102 {args : Array Value} {s : State} (hts : ∀ w ∈ wsX8_feed, w.before args s = true) : CallW rmX8_feed s args RX8 RX2 102 yX2_append cX2_append 2 (some .boolean) wsX2_append rmX2_append 0 0 1 := cwV 1 hts gX8_feed_X2_append rfl rfl rfl (by decide +kernel) ⟨Nat.le_of_ble_eq_true rfl, Nat.le_of_ble_eq_true rfl⟩
theorem qX8_feed_X8_isByte_99 {args : Array Value} {s : State} (hts : ∀ w ∈ wsX8_feed, w.before args s = true) : CallB rmX8_feed s args RX8 99 yX8_isByte cX8_isByte 1 (some .boolean) wsX8_isByte rmX8_isByte 0 0 1 ∧ (Cond.static yX8_isByte).before args s = true := va_cwS 1 hts gX8_feed_X8_isByte rfl rfl rfl (by decide +kernel) ⟨Nat.le_of_ble_eq_true rfl, Nat.le_of_ble_eq_true rfl⟩
set_option maxHeartbeats 4000000 in
set_option maxRecDepth 100000 in
theorem wX8_feed_0 {p : Program} {l : Launch} {e : Env} {s : State} {m : MethodId} {args : Array Value} {below : List Frame} {meth : Method} {c : Code} {D : va_G} {A : Nat → Prop} {Q : State → Prop} {cI : ClassId} {h_t h_t_picture h_t_draft h_t_source h_t_formats h_f h_f_bytes : Nat} {r0 : Int32} {zf_size : Int32} {zf_bytes : Nat → Int32} (C : CallFix p m c cX8_feed 2 s args wsX8_feed RX8) (hN : zN s) (hK : va_K D vwCl [(cI, .int)] s) (hA : ∀ q, s.heap.size ≤ q → A q) (hE : zEz p l e rmX8_feed s m args below meth c cX8_feed D A Q (zwX8 h_t h_t_picture h_t_draft h_f h_t_source h_t_formats ++ zwX2 cI h_f h_f_bytes zf_size zf_bytes) r0) {f_size : Int32} {f_bytes : Nat → Int32} {v0 : Int32} {H : Heap} {locs : List Loc} {ls : Array Slot} : fX8_feed f_size f_bytes v0 = some (r0, zf_size, zf_bytes) → va_P D vwCl (zwX8 h_t h_t_picture h_t_draft h_f h_t_source h_t_formats ++ zwX2 cI h_f h_f_bytes f_size f_bytes) H → va_D A (zwX8 h_t h_t_picture h_t_draft h_f h_t_source h_t_formats ++ zwX2 cI h_f h_f_bytes f_size f_bytes) → va_S A s.heap H locs → lv_has ls 2 [(0, .ref h_t), (1, .int v0)] → W p l e rmX8_feed s m args below meth c H locs 0 0 Q (F0 m 0 ls []) := by
  intro hf hP hD hS hl
  obtain ⟨hx, hb, hml, hown, hts⟩ := id C
  unfold fX8_feed at hf
  refine lv_iload_n hx hb dX8_feed_0 rfl (lv_at hl 1 rfl) ?_
  obtain ⟨r1, hc2, hf⟩ := zb1_in hf
  refine zc_i (va_runS (As := [.int v0]) (rest := []) C (mX8_isByte l D cI H.size v0 r1 hc2) (qX8_feed_X8_isByte_99 hts) ⟨zP_blind, zpre hK hN hP hD [] rfl rfl⟩ rfl rfl hl.1 rfl (lv_room (Nat.le_of_ble_eq_true rfl)) dX8_feed_1 ⟨Nat.zero_le _, Nat.zero_le _⟩) hP hD hS hA [] [0, 1, 2] [0, 1, 2] (ws' := zwX8 h_t h_t_picture h_t_draft h_f h_t_source h_t_formats ++ zwX2 cI h_f h_f_bytes f_size f_bytes) rfl rfl rfl rfl rfl rfl (fun H locs hP hD hS => ?_)
  refine lv_if_eq (tgt := 22) hx hb dX8_feed_4 (by decide) (fun c3 => ?_) (fun c3 => ?_)
  · replace hf := zif_t hf c3
    refine lv_iconst (v := 0) hx hb dX8_feed_22 (by decide) ?_
    cases hf
    exact hE _ _ _ _ dX8_feed_23 rfl hP hD hS
  · replace hf := zif_f hf c3
    refine lv_aload_n hx hb dX8_feed_7 rfl (lv_at hl 0 rfl) ?_
    refine va_get (D := D) (ci := 7) (v := .ref h_f) (C := RX8) (T := TX8) (N := 5) hx hb hts iX8_feed_X8 hown hK hP 0 rfl rfl 2 (by decide) (kX8_feed_22 hts) (fun _ h9 => h9) rfl dX8_feed_8 ?_
    refine lv_iload_n hx hb dX8_feed_11 rfl (lv_at hl 1 rfl) ?_
    obtain ⟨r4, u5, u6, hc7, hf⟩ := zb3_in hf
    refine zc_i (va_runV (As := [.int v0]) (rest := []) C (mX2_append l D cI H.size h_f h_f_bytes f_size f_bytes v0 r4 u5 u6 hc7) (qX8_feed_X2_append_102 hts) ⟨zP_blind, va_recv hK hP (ci := 2) (q0 := 1) rfl rfl, zpre hK hN hP hD [1, 2] rfl rfl⟩ rfl rfl hl.1 rfl (lv_room (Nat.le_of_ble_eq_true rfl)) dX8_feed_12 ⟨Nat.zero_le _, Nat.zero_le _⟩) hP hD hS hA [1, 2] [0] [0, 1, 2] (ws' := zwX8 h_t h_t_picture h_t_draft h_f h_t_source h_t_formats ++ zwX2 cI h_f h_f_bytes u5 u6) rfl rfl rfl rfl rfl rfl (fun H locs hP hD hS => ?_)
    refine lv_if_eq (tgt := 22) hx hb dX8_feed_15 (by decide) (fun c8 => ?_) (fun c8 => ?_)
    · replace hf := zif_t hf c8
      refine lv_iconst (v := 0) hx hb dX8_feed_22 (by decide) ?_
      cases hf
      exact hE _ _ _ _ dX8_feed_23 rfl hP hD hS
    · replace hf := zif_f hf c8
      refine lv_iconst (v := 1) hx hb dX8_feed_18 (by decide) ?_
      refine lv_goto (tgt := 23) hx hb dX8_feed_19 (by decide) ?_
      cases hf
      exact hE _ _ _ _ dX8_feed_23 rfl hP hD hS
set_option maxHeartbeats 4000000 in
set_option maxRecDepth 100000 in
theorem mX8_feed (l : Launch) (D : va_G) (cI : ClassId) (sz : Nat) (h_t h_t_picture h_t_draft h_t_source h_t_formats h_f h_f_bytes : Nat) (f_size : Int32) (f_bytes : Nat → Int32) (v0 : Int32) (r0 : Int32) (zf_size : Int32) (zf_bytes : Nat → Int32) (hf : fX8_feed f_size f_bytes v0 = some (r0, zf_size, zf_bytes)) : Met l yX8_feed wsX8_feed rmX8_feed (va_Pc [.ref h_t, .int v0] (zP D [(cI, .int)] (zwX8 h_t h_t_picture h_t_draft h_f h_t_source h_t_formats ++ zwX2 cI h_f h_f_bytes f_size f_bytes) sz)) (zQi D (zwX8 h_t h_t_picture h_t_draft h_f h_t_source h_t_formats ++ zwX2 cI h_f h_f_bytes f_size f_bytes) sz r0 (zwX8 h_t h_t_picture h_t_draft h_f h_t_source h_t_formats ++ zwX2 cI h_f h_f_bytes zf_size zf_bytes)) 0 0 (va_A (zwX8 h_t h_t_picture h_t_draft h_f h_t_source h_t_formats ++ zwX2 cI h_f h_f_bytes f_size f_bytes) sz) := by
  refine Met.ofW (cc := cX8_feed) (maxL := 2) (ret := (some .boolean)) (by decide) rfl ?_
  intro p e s m args below meth c s₁ B hml hv
  obtain ⟨rfl, hsz, hP, hK, hD0, hN⟩ := hv
  subst hsz
  have C : CallFix p m c cX8_feed 2 s [.ref h_t, .int v0].toArray wsX8_feed RX8 := ⟨B.exec, B.bytes, hml, findClass_of_methodNamed B.named, atoms_spec (ws := wsX8_feed) B.pre⟩
  have hl := lv_entry ([.ref h_t, .int v0]) (n := 2) (Nat.le_of_ble_eq_true rfl)
  rw [lg_entry_eq]
  exact wX8_feed_0 (A := va_A (zwX8 h_t h_t_picture h_t_draft h_f h_t_source h_t_formats ++ zwX2 cI h_f h_f_bytes f_size f_bytes) s.heap.size) C hN hK (fun q h => Or.inr h) (fun H locs pc ls d hn hP hD hS => zend_z C.1 C.2.1 B.returns B.notSynchronized d hn hP hD hS) hf hP hD0.self va_S.rf hl
def rmX8_cut : Room := { frames := 0, cells := 0, slots := 0, locals := 0 }
theorem kX8_cut_22 {args : Array Value} {s : State} (h : ∀ w ∈ wsX8_cut, w.before args s = true) : (Cond.fieldLink RX8 22 "FourPictureFiles" "file" "LFourPictureFiles$FileRow;").before args s = true := h _ (by decide +kernel)
theorem iX8_cut_X2 : ∀ w ∈ u_ws RX2 TX2 2, w ∈ wsX8_cut := by decide +kernel
theorem iX8_cut_X8 : ∀ w ∈ u_ws RX8 TX8 5, w ∈ wsX8_cut := by decide +kernel
set_option maxHeartbeats 4000000 in
set_option maxRecDepth 100000 in
theorem wX8_cut_0 {p : Program} {l : Launch} {e : Env} {s : State} {m : MethodId} {args : Array Value} {below : List Frame} {meth : Method} {c : Code} {D : va_G} {A : Nat → Prop} {Q : State → Prop} {cI : ClassId} {h_t h_t_picture h_t_draft h_t_source h_t_formats h_f h_f_bytes : Nat} {f_bytes : Nat → Int32} {r0 : Int32} {zf_size : Int32} (C : CallFix p m c cX8_cut 2 s args wsX8_cut RX8) (hN : zN s) (hK : va_K D vwCl [(cI, .int)] s) (hA : ∀ q, s.heap.size ≤ q → A q) (hE : zEz p l e rmX8_cut s m args below meth c cX8_cut D A Q (zwX8 h_t h_t_picture h_t_draft h_f h_t_source h_t_formats ++ zwX2 cI h_f h_f_bytes zf_size f_bytes) r0) {f_size : Int32} {v0 : Int32} {H : Heap} {locs : List Loc} {ls : Array Slot} : fX8_cut f_size v0 = some (r0, zf_size) → va_P D vwCl (zwX8 h_t h_t_picture h_t_draft h_f h_t_source h_t_formats ++ zwX2 cI h_f h_f_bytes f_size f_bytes) H → va_D A (zwX8 h_t h_t_picture h_t_draft h_f h_t_source h_t_formats ++ zwX2 cI h_f h_f_bytes f_size f_bytes) → va_S A s.heap H locs → lv_has ls 2 [(0, .ref h_t), (1, .int v0)] → W p l e rmX8_cut s m args below meth c H locs 0 0 Q (F0 m 0 ls []) := by
  intro hf hP hD hS hl
  obtain ⟨hx, hb, hml, hown, hts⟩ := id C
  unfold fX8_cut at hf
  refine lv_iload_n hx hb dX8_cut_0 rfl (lv_at hl 1 rfl) ?_
  refine lv_if_lt (tgt := 15) hx hb dX8_cut_1 (by decide) (fun c1 => ?_) (fun c1 => ?_)
  · replace hf := zif_t hf c1
    refine lv_iconst (v := 0) hx hb dX8_cut_15 (by decide) ?_
    cases hf
    exact hE _ _ _ _ dX8_cut_16 rfl hP hD hS
  · replace hf := zif_f hf c1
    refine lv_iload_n hx hb dX8_cut_4 rfl (lv_at hl 1 rfl) ?_
    refine lv_aload_n hx hb dX8_cut_5 rfl (lv_at hl 0 rfl) ?_
    refine va_get (D := D) (ci := 7) (v := .ref h_f) (C := RX8) (T := TX8) (N := 5) hx hb hts iX8_cut_X8 hown hK hP 0 rfl rfl 2 (by decide) (kX8_cut_22 hts) (fun _ h9 => h9) rfl dX8_cut_6 ?_
    refine va_getN (D := D) (ci := 2) (v := .int f_size) (C := RX2) (T := TX2) (N := 2) hx hb hts iX8_cut_X2 hown hK hP 1 rfl rfl 1 (by decide) (hN.at 19 rfl) (fun _ h9 => h9) rfl dX8_cut_9 ?_
    refine lv_icmp_le (tgt := 17) hx hb dX8_cut_12 (by decide) (fun c2 => ?_) (fun c2 => ?_)
    · replace hf := zif_t hf c2
      refine lv_aload_n hx hb dX8_cut_17 rfl (lv_at hl 0 rfl) ?_
      refine va_get (D := D) (ci := 7) (v := .ref h_f) (C := RX8) (T := TX8) (N := 5) hx hb hts iX8_cut_X8 hown hK hP 0 rfl rfl 2 (by decide) (kX8_cut_22 hts) (fun _ h9 => h9) rfl dX8_cut_18 ?_
      refine lv_iload_n hx hb dX8_cut_21 rfl (lv_at hl 1 rfl) ?_
      refine va_putN (D := D) (ci := 2) (v := .int v0) (ty := .int) (C := RX2) (T := TX2) (N := 2) hx hb hts iX8_cut_X2 tyX2 tyX2_ok nmX2 hown hK hP hD hS 1 rfl rfl 1 (by decide) (hN.at 19 rfl) (fun _ h9 => h9) rfl (by decide +kernel) rfl rfl (Nat.le_of_ble_eq_true rfl) dX8_cut_22 (fun H locs hP hD hS => ?_)
      replace hP : va_P D vwCl (zwX8 h_t h_t_picture h_t_draft h_f h_t_source h_t_formats ++ zwX2 cI h_f h_f_bytes v0 f_bytes) H := hP
      replace hD : va_D A (zwX8 h_t h_t_picture h_t_draft h_f h_t_source h_t_formats ++ zwX2 cI h_f h_f_bytes v0 f_bytes) := hD
      refine lv_iconst (v := 1) hx hb dX8_cut_25 (by decide) ?_
      cases hf
      exact hE _ _ _ _ dX8_cut_26 rfl hP hD hS
    · replace hf := zif_f hf c2
      refine lv_iconst (v := 0) hx hb dX8_cut_15 (by decide) ?_
      cases hf
      exact hE _ _ _ _ dX8_cut_16 rfl hP hD hS
set_option maxHeartbeats 4000000 in
set_option maxRecDepth 100000 in
theorem mX8_cut (l : Launch) (D : va_G) (cI : ClassId) (sz : Nat) (h_t h_t_picture h_t_draft h_t_source h_t_formats h_f h_f_bytes : Nat) (f_size : Int32) (f_bytes : Nat → Int32) (v0 : Int32) (r0 : Int32) (zf_size : Int32) (hf : fX8_cut f_size v0 = some (r0, zf_size)) : Met l yX8_cut wsX8_cut rmX8_cut (va_Pc [.ref h_t, .int v0] (zP D [(cI, .int)] (zwX8 h_t h_t_picture h_t_draft h_f h_t_source h_t_formats ++ zwX2 cI h_f h_f_bytes f_size f_bytes) sz)) (zQi D (zwX8 h_t h_t_picture h_t_draft h_f h_t_source h_t_formats ++ zwX2 cI h_f h_f_bytes f_size f_bytes) sz r0 (zwX8 h_t h_t_picture h_t_draft h_f h_t_source h_t_formats ++ zwX2 cI h_f h_f_bytes zf_size f_bytes)) 0 0 (va_A (zwX8 h_t h_t_picture h_t_draft h_f h_t_source h_t_formats ++ zwX2 cI h_f h_f_bytes f_size f_bytes) sz) := by
  refine Met.ofW (cc := cX8_cut) (maxL := 2) (ret := (some .boolean)) (by decide) rfl ?_
  intro p e s m args below meth c s₁ B hml hv
  obtain ⟨rfl, hsz, hP, hK, hD0, hN⟩ := hv
  subst hsz
  have C : CallFix p m c cX8_cut 2 s [.ref h_t, .int v0].toArray wsX8_cut RX8 := ⟨B.exec, B.bytes, hml, findClass_of_methodNamed B.named, atoms_spec (ws := wsX8_cut) B.pre⟩
  have hl := lv_entry ([.ref h_t, .int v0]) (n := 2) (Nat.le_of_ble_eq_true rfl)
  rw [lg_entry_eq]
  exact wX8_cut_0 (A := va_A (zwX8 h_t h_t_picture h_t_draft h_f h_t_source h_t_formats ++ zwX2 cI h_f h_f_bytes f_size f_bytes) s.heap.size) C hN hK (fun q h => Or.inr h) (fun H locs pc ls d hn hP hD hS => zend_z C.1 C.2.1 B.returns B.notSynchronized d hn hP hD hS) hf hP hD0.self va_S.rf hl
def rmX8_alter : Room := { frames := 1, cells := 0, slots := 0, locals := 20 }
theorem kX8_alter_22 {args : Array Value} {s : State} (h : ∀ w ∈ wsX8_alter, w.before args s = true) : (Cond.fieldLink RX8 22 "FourPictureFiles" "file" "LFourPictureFiles$FileRow;").before args s = true := h _ (by decide +kernel)
theorem iX8_alter_X2 : ∀ w ∈ u_ws RX2 TX2 2, w ∈ wsX8_alter := by decide +kernel
theorem iX8_alter_X8 : ∀ w ∈ u_ws RX8 TX8 5, w ∈ wsX8_alter := by decide +kernel
theorem qX8_alter_X8_isByte_99 {args : Array Value} {s : State} (hts : ∀ w ∈ wsX8_alter, w.before args s = true) : CallB rmX8_alter s args RX8 99 yX8_isByte cX8_isByte 1 (some .boolean) wsX8_isByte rmX8_isByte 0 0 1 ∧ (Cond.static yX8_isByte).before args s = true := va_cwS 1 hts gX8_alter_X8_isByte rfl rfl rfl (by decide +kernel) ⟨Nat.le_of_ble_eq_true rfl, Nat.le_of_ble_eq_true rfl⟩
set_option maxHeartbeats 4000000 in
set_option maxRecDepth 100000 in
theorem wX8_alter_0 {p : Program} {l : Launch} {e : Env} {s : State} {m : MethodId} {args : Array Value} {below : List Frame} {meth : Method} {c : Code} {D : va_G} {A : Nat → Prop} {Q : State → Prop} {cI : ClassId} {h_t h_t_picture h_t_draft h_t_source h_t_formats h_f h_f_bytes : Nat} {f_size : Int32} {r0 : Int32} {zf_bytes : Nat → Int32} (C : CallFix p m c cX8_alter 3 s args wsX8_alter RX8) (hN : zN s) (hK : va_K D vwCl [(cI, .int)] s) (hA : ∀ q, s.heap.size ≤ q → A q) (hE : zEz p l e rmX8_alter s m args below meth c cX8_alter D A Q (zwX8 h_t h_t_picture h_t_draft h_f h_t_source h_t_formats ++ zwX2 cI h_f h_f_bytes f_size zf_bytes) r0) {f_bytes : Nat → Int32} {v0 : Int32} {v1 : Int32} {H : Heap} {locs : List Loc} {ls : Array Slot} : fX8_alter f_size f_bytes v0 v1 = some (r0, zf_bytes) → va_P D vwCl (zwX8 h_t h_t_picture h_t_draft h_f h_t_source h_t_formats ++ zwX2 cI h_f h_f_bytes f_size f_bytes) H → va_D A (zwX8 h_t h_t_picture h_t_draft h_f h_t_source h_t_formats ++ zwX2 cI h_f h_f_bytes f_size f_bytes) → va_S A s.heap H locs → lv_has ls 3 [(0, .ref h_t), (1, .int v0), (2, .int v1)] → W p l e rmX8_alter s m args below meth c H locs 0 0 Q (F0 m 0 ls []) := by
  intro hf hP hD hS hl
  obtain ⟨hx, hb, hml, hown, hts⟩ := id C
  unfold fX8_alter at hf
  refine lv_iload_n hx hb dX8_alter_0 rfl (lv_at hl 2 rfl) ?_
  obtain ⟨r1, hc2, hf⟩ := zb1_in hf
  refine zc_i (va_runS (As := [.int v1]) (rest := []) C (mX8_isByte l D cI H.size v1 r1 hc2) (qX8_alter_X8_isByte_99 hts) ⟨zP_blind, zpre hK hN hP hD [] rfl rfl⟩ rfl rfl hl.1 rfl (lv_room (Nat.le_of_ble_eq_true rfl)) dX8_alter_1 ⟨Nat.zero_le _, Nat.zero_le _⟩) hP hD hS hA [] [0, 1, 2] [0, 1, 2] (ws' := zwX8 h_t h_t_picture h_t_draft h_f h_t_source h_t_formats ++ zwX2 cI h_f h_f_bytes f_size f_bytes) rfl rfl rfl rfl rfl rfl (fun H locs hP hD hS => ?_)
  refine lv_if_eq (tgt := 22) hx hb dX8_alter_4 (by decide) (fun c3 => ?_) (fun c3 => ?_)
  · replace hf := zif_t hf c3
    refine lv_iconst (v := 0) hx hb dX8_alter_22 (by decide) ?_
    cases hf
    exact hE _ _ _ _ dX8_alter_23 rfl hP hD hS
  · replace hf := zif_f hf c3
    refine lv_iload_n hx hb dX8_alter_7 rfl (lv_at hl 1 rfl) ?_
    refine lv_if_lt (tgt := 22) hx hb dX8_alter_8 (by decide) (fun c4 => ?_) (fun c4 => ?_)
    · replace hf := zif_t hf c4
      refine lv_iconst (v := 0) hx hb dX8_alter_22 (by decide) ?_
      cases hf
      exact hE _ _ _ _ dX8_alter_23 rfl hP hD hS
    · replace hf := zif_f hf c4
      refine lv_iload_n hx hb dX8_alter_11 rfl (lv_at hl 1 rfl) ?_
      refine lv_aload_n hx hb dX8_alter_12 rfl (lv_at hl 0 rfl) ?_
      refine va_get (D := D) (ci := 7) (v := .ref h_f) (C := RX8) (T := TX8) (N := 5) hx hb hts iX8_alter_X8 hown hK hP 0 rfl rfl 2 (by decide) (kX8_alter_22 hts) (fun _ h9 => h9) rfl dX8_alter_13 ?_
      refine va_getN (D := D) (ci := 2) (v := .int f_size) (C := RX2) (T := TX2) (N := 2) hx hb hts iX8_alter_X2 hown hK hP 1 rfl rfl 1 (by decide) (hN.at 19 rfl) (fun _ h9 => h9) rfl dX8_alter_16 ?_
      refine lv_icmp_lt (tgt := 24) hx hb dX8_alter_19 (by decide) (fun c5 => ?_) (fun c5 => ?_)
      · replace hf := zif_t hf c5
        refine lv_aload_n hx hb dX8_alter_24 rfl (lv_at hl 0 rfl) ?_
        refine va_get (D := D) (ci := 7) (v := .ref h_f) (C := RX8) (T := TX8) (N := 5) hx hb hts iX8_alter_X8 hown hK hP 0 rfl rfl 2 (by decide) (kX8_alter_22 hts) (fun _ h9 => h9) rfl dX8_alter_25 ?_
        refine va_getN (D := D) (ci := 2) (v := .ref h_f_bytes) (C := RX2) (T := TX2) (N := 2) hx hb hts iX8_alter_X2 hown hK hP 1 rfl rfl 0 (by decide) (hN.at 15 rfl) (fun _ h9 => h9) rfl dX8_alter_28 ?_
        refine lv_iload_n hx hb dX8_alter_31 rfl (lv_at hl 1 rfl) ?_
        refine lv_iload_n hx hb dX8_alter_32 rfl (lv_at hl 2 rfl) ?_
        obtain ⟨hg7, g6, eg6, hf⟩ := zwr_in hf
        refine va_iast hx hb hK hP hD hS 2 0 rfl rfl hg7 dX8_alter_33 (fun H locs hP hD hS => ?_)
        replace hP : va_P D vwCl (zwX8 h_t h_t_picture h_t_draft h_f h_t_source h_t_formats ++ zwX2 cI h_f h_f_bytes f_size g6) H := by rw [← eg6]; exact hP
        replace hD : va_D A (zwX8 h_t h_t_picture h_t_draft h_f h_t_source h_t_formats ++ zwX2 cI h_f h_f_bytes f_size g6) := by rw [← eg6]; exact hD
        clear eg6
        refine lv_iconst (v := 1) hx hb dX8_alter_34 (by decide) ?_
        cases hf
        exact hE _ _ _ _ dX8_alter_35 rfl hP hD hS
      · replace hf := zif_f hf c5
        refine lv_iconst (v := 0) hx hb dX8_alter_22 (by decide) ?_
        cases hf
        exact hE _ _ _ _ dX8_alter_23 rfl hP hD hS
set_option maxHeartbeats 4000000 in
set_option maxRecDepth 100000 in
theorem mX8_alter (l : Launch) (D : va_G) (cI : ClassId) (sz : Nat) (h_t h_t_picture h_t_draft h_t_source h_t_formats h_f h_f_bytes : Nat) (f_size : Int32) (f_bytes : Nat → Int32) (v0 v1 : Int32) (r0 : Int32) (zf_bytes : Nat → Int32) (hf : fX8_alter f_size f_bytes v0 v1 = some (r0, zf_bytes)) : Met l yX8_alter wsX8_alter rmX8_alter (va_Pc [.ref h_t, .int v0, .int v1] (zP D [(cI, .int)] (zwX8 h_t h_t_picture h_t_draft h_f h_t_source h_t_formats ++ zwX2 cI h_f h_f_bytes f_size f_bytes) sz)) (zQi D (zwX8 h_t h_t_picture h_t_draft h_f h_t_source h_t_formats ++ zwX2 cI h_f h_f_bytes f_size f_bytes) sz r0 (zwX8 h_t h_t_picture h_t_draft h_f h_t_source h_t_formats ++ zwX2 cI h_f h_f_bytes f_size zf_bytes)) 0 0 (va_A (zwX8 h_t h_t_picture h_t_draft h_f h_t_source h_t_formats ++ zwX2 cI h_f h_f_bytes f_size f_bytes) sz) := by
  refine Met.ofW (cc := cX8_alter) (maxL := 3) (ret := (some .boolean)) (by decide) rfl ?_
  intro p e s m args below meth c s₁ B hml hv
  obtain ⟨rfl, hsz, hP, hK, hD0, hN⟩ := hv
  subst hsz
  have C : CallFix p m c cX8_alter 3 s [.ref h_t, .int v0, .int v1].toArray wsX8_alter RX8 := ⟨B.exec, B.bytes, hml, findClass_of_methodNamed B.named, atoms_spec (ws := wsX8_alter) B.pre⟩
  have hl := lv_entry ([.ref h_t, .int v0, .int v1]) (n := 3) (Nat.le_of_ble_eq_true rfl)
  rw [lg_entry_eq]
  exact wX8_alter_0 (A := va_A (zwX8 h_t h_t_picture h_t_draft h_f h_t_source h_t_formats ++ zwX2 cI h_f h_f_bytes f_size f_bytes) s.heap.size) C hN hK (fun q h => Or.inr h) (fun H locs pc ls d hn hP hD hS => zend_z C.1 C.2.1 B.returns B.notSynchronized d hn hP hD hS) hf hP hD0.self va_S.rf hl
def rmX8_length : Room := { frames := 0, cells := 0, slots := 0, locals := 0 }
theorem kX8_length_22 {args : Array Value} {s : State} (h : ∀ w ∈ wsX8_length, w.before args s = true) : (Cond.fieldLink RX8 22 "FourPictureFiles" "file" "LFourPictureFiles$FileRow;").before args s = true := h _ (by decide +kernel)
theorem iX8_length_X2 : ∀ w ∈ u_ws RX2 TX2 2, w ∈ wsX8_length := by decide +kernel
theorem iX8_length_X8 : ∀ w ∈ u_ws RX8 TX8 5, w ∈ wsX8_length := by decide +kernel
set_option maxHeartbeats 4000000 in
set_option maxRecDepth 100000 in
theorem wX8_length_0 {p : Program} {l : Launch} {e : Env} {s : State} {m : MethodId} {args : Array Value} {below : List Frame} {meth : Method} {c : Code} {D : va_G} {A : Nat → Prop} {Q : State → Prop} {cI : ClassId} {h_t h_t_picture h_t_draft h_t_source h_t_formats h_f h_f_bytes : Nat} {f_size : Int32} {f_bytes : Nat → Int32} {r0 : Int32} (C : CallFix p m c cX8_length 1 s args wsX8_length RX8) (hN : zN s) (hK : va_K D vwCl [(cI, .int)] s) (hA : ∀ q, s.heap.size ≤ q → A q) (hE : zEi p l e rmX8_length s m args below meth c cX8_length D A Q (zwX8 h_t h_t_picture h_t_draft h_f h_t_source h_t_formats ++ zwX2 cI h_f h_f_bytes f_size f_bytes) r0) {H : Heap} {locs : List Loc} {ls : Array Slot} : fX8_length f_size = some r0 → va_P D vwCl (zwX8 h_t h_t_picture h_t_draft h_f h_t_source h_t_formats ++ zwX2 cI h_f h_f_bytes f_size f_bytes) H → va_D A (zwX8 h_t h_t_picture h_t_draft h_f h_t_source h_t_formats ++ zwX2 cI h_f h_f_bytes f_size f_bytes) → va_S A s.heap H locs → lv_has ls 1 [(0, .ref h_t)] → W p l e rmX8_length s m args below meth c H locs 0 0 Q (F0 m 0 ls []) := by
  intro hf hP hD hS hl
  obtain ⟨hx, hb, hml, hown, hts⟩ := id C
  unfold fX8_length at hf
  refine lv_aload_n hx hb dX8_length_0 rfl (lv_at hl 0 rfl) ?_
  refine va_get (D := D) (ci := 7) (v := .ref h_f) (C := RX8) (T := TX8) (N := 5) hx hb hts iX8_length_X8 hown hK hP 0 rfl rfl 2 (by decide) (kX8_length_22 hts) (fun _ h9 => h9) rfl dX8_length_1 ?_
  refine va_getN (D := D) (ci := 2) (v := .int f_size) (C := RX2) (T := TX2) (N := 2) hx hb hts iX8_length_X2 hown hK hP 1 rfl rfl 1 (by decide) (hN.at 19 rfl) (fun _ h9 => h9) rfl dX8_length_4 ?_
  cases hf
  exact hE _ _ _ _ dX8_length_7 hP hD hS
set_option maxHeartbeats 4000000 in
set_option maxRecDepth 100000 in
theorem mX8_length (l : Launch) (D : va_G) (cI : ClassId) (sz : Nat) (h_t h_t_picture h_t_draft h_t_source h_t_formats h_f h_f_bytes : Nat) (f_size : Int32) (f_bytes : Nat → Int32) (r0 : Int32) (hf : fX8_length f_size = some r0) : Met l yX8_length wsX8_length rmX8_length (va_Pc [.ref h_t] (zP D [(cI, .int)] (zwX8 h_t h_t_picture h_t_draft h_f h_t_source h_t_formats ++ zwX2 cI h_f h_f_bytes f_size f_bytes) sz)) (zQi D (zwX8 h_t h_t_picture h_t_draft h_f h_t_source h_t_formats ++ zwX2 cI h_f h_f_bytes f_size f_bytes) sz r0 (zwX8 h_t h_t_picture h_t_draft h_f h_t_source h_t_formats ++ zwX2 cI h_f h_f_bytes f_size f_bytes)) 0 0 (va_A (zwX8 h_t h_t_picture h_t_draft h_f h_t_source h_t_formats ++ zwX2 cI h_f h_f_bytes f_size f_bytes) sz) := by
  refine Met.ofW (cc := cX8_length) (maxL := 1) (ret := (some .int)) (by decide) rfl ?_
  intro p e s m args below meth c s₁ B hml hv
  obtain ⟨rfl, hsz, hP, hK, hD0, hN⟩ := hv
  subst hsz
  have C : CallFix p m c cX8_length 1 s [.ref h_t].toArray wsX8_length RX8 := ⟨B.exec, B.bytes, hml, findClass_of_methodNamed B.named, atoms_spec (ws := wsX8_length) B.pre⟩
  have hl := lv_entry ([.ref h_t]) (n := 1) (Nat.le_of_ble_eq_true rfl)
  rw [lg_entry_eq]
  exact wX8_length_0 (A := va_A (zwX8 h_t h_t_picture h_t_draft h_f h_t_source h_t_formats ++ zwX2 cI h_f h_f_bytes f_size f_bytes) s.heap.size) C hN hK (fun q h => Or.inr h) (fun H locs pc ls d hP hD hS => zend_i C.1 C.2.1 B.returns B.notSynchronized d hP hD hS) hf hP hD0.self va_S.rf hl
def rmX8_byteAt : Room := { frames := 1, cells := 0, slots := 0, locals := 21 }
theorem kX8_byteAt_22 {args : Array Value} {s : State} (h : ∀ w ∈ wsX8_byteAt, w.before args s = true) : (Cond.fieldLink RX8 22 "FourPictureFiles" "file" "LFourPictureFiles$FileRow;").before args s = true := h _ (by decide +kernel)
theorem iX8_byteAt_X8 : ∀ w ∈ u_ws RX8 TX8 5, w ∈ wsX8_byteAt := by decide +kernel
theorem qX8_byteAt_X2_at_112 {args : Array Value} {s : State} (hts : ∀ w ∈ wsX8_byteAt, w.before args s = true) : CallW rmX8_byteAt s args RX8 RX2 112 yX2_at cX2_at 2 (some .int) wsX2_at rmX2_at 0 0 1 := cwV 1 hts gX8_byteAt_X2_at rfl rfl rfl (by decide +kernel) ⟨Nat.le_of_ble_eq_true rfl, Nat.le_of_ble_eq_true rfl⟩
set_option maxHeartbeats 4000000 in
set_option maxRecDepth 100000 in
theorem wX8_byteAt_0 {p : Program} {l : Launch} {e : Env} {s : State} {m : MethodId} {args : Array Value} {below : List Frame} {meth : Method} {c : Code} {D : va_G} {A : Nat → Prop} {Q : State → Prop} {cI : ClassId} {h_t h_t_picture h_t_draft h_t_source h_t_formats h_f h_f_bytes : Nat} {f_size : Int32} {f_bytes : Nat → Int32} {r0 : Int32} (C : CallFix p m c cX8_byteAt 2 s args wsX8_byteAt RX8) (hN : zN s) (hK : va_K D vwCl [(cI, .int)] s) (hA : ∀ q, s.heap.size ≤ q → A q) (hE : zEi p l e rmX8_byteAt s m args below meth c cX8_byteAt D A Q (zwX8 h_t h_t_picture h_t_draft h_f h_t_source h_t_formats ++ zwX2 cI h_f h_f_bytes f_size f_bytes) r0) {v0 : Int32} {H : Heap} {locs : List Loc} {ls : Array Slot} : fX8_byteAt f_size f_bytes v0 = some r0 → va_P D vwCl (zwX8 h_t h_t_picture h_t_draft h_f h_t_source h_t_formats ++ zwX2 cI h_f h_f_bytes f_size f_bytes) H → va_D A (zwX8 h_t h_t_picture h_t_draft h_f h_t_source h_t_formats ++ zwX2 cI h_f h_f_bytes f_size f_bytes) → va_S A s.heap H locs → lv_has ls 2 [(0, .ref h_t), (1, .int v0)] → W p l e rmX8_byteAt s m args below meth c H locs 0 0 Q (F0 m 0 ls []) := by
  intro hf hP hD hS hl
  obtain ⟨hx, hb, hml, hown, hts⟩ := id C
  unfold fX8_byteAt at hf
  refine lv_aload_n hx hb dX8_byteAt_0 rfl (lv_at hl 0 rfl) ?_
  refine va_get (D := D) (ci := 7) (v := .ref h_f) (C := RX8) (T := TX8) (N := 5) hx hb hts iX8_byteAt_X8 hown hK hP 0 rfl rfl 2 (by decide) (kX8_byteAt_22 hts) (fun _ h9 => h9) rfl dX8_byteAt_1 ?_
  refine lv_iload_n hx hb dX8_byteAt_4 rfl (lv_at hl 1 rfl) ?_
  obtain ⟨r1, hc2, hf⟩ := zb1_in hf
  refine zc_i (va_runV (As := [.int v0]) (rest := []) C (mX2_at l D cI H.size h_f h_f_bytes f_size f_bytes v0 r1 hc2) (qX8_byteAt_X2_at_112 hts) ⟨zP_blind, va_recv hK hP (ci := 2) (q0 := 1) rfl rfl, zpre hK hN hP hD [1, 2] rfl rfl⟩ rfl rfl hl.1 rfl (lv_room (Nat.le_of_ble_eq_true rfl)) dX8_byteAt_5 ⟨Nat.zero_le _, Nat.zero_le _⟩) hP hD hS hA [1, 2] [0] [0, 1, 2] (ws' := zwX8 h_t h_t_picture h_t_draft h_f h_t_source h_t_formats ++ zwX2 cI h_f h_f_bytes f_size f_bytes) rfl rfl rfl rfl rfl rfl (fun H locs hP hD hS => ?_)
  cases hf
  exact hE _ _ _ _ dX8_byteAt_8 hP hD hS
set_option maxHeartbeats 4000000 in
set_option maxRecDepth 100000 in
theorem mX8_byteAt (l : Launch) (D : va_G) (cI : ClassId) (sz : Nat) (h_t h_t_picture h_t_draft h_t_source h_t_formats h_f h_f_bytes : Nat) (f_size : Int32) (f_bytes : Nat → Int32) (v0 : Int32) (r0 : Int32) (hf : fX8_byteAt f_size f_bytes v0 = some r0) : Met l yX8_byteAt wsX8_byteAt rmX8_byteAt (va_Pc [.ref h_t, .int v0] (zP D [(cI, .int)] (zwX8 h_t h_t_picture h_t_draft h_f h_t_source h_t_formats ++ zwX2 cI h_f h_f_bytes f_size f_bytes) sz)) (zQi D (zwX8 h_t h_t_picture h_t_draft h_f h_t_source h_t_formats ++ zwX2 cI h_f h_f_bytes f_size f_bytes) sz r0 (zwX8 h_t h_t_picture h_t_draft h_f h_t_source h_t_formats ++ zwX2 cI h_f h_f_bytes f_size f_bytes)) 0 0 (va_A (zwX8 h_t h_t_picture h_t_draft h_f h_t_source h_t_formats ++ zwX2 cI h_f h_f_bytes f_size f_bytes) sz) := by
  refine Met.ofW (cc := cX8_byteAt) (maxL := 2) (ret := (some .int)) (by decide) rfl ?_
  intro p e s m args below meth c s₁ B hml hv
  obtain ⟨rfl, hsz, hP, hK, hD0, hN⟩ := hv
  subst hsz
  have C : CallFix p m c cX8_byteAt 2 s [.ref h_t, .int v0].toArray wsX8_byteAt RX8 := ⟨B.exec, B.bytes, hml, findClass_of_methodNamed B.named, atoms_spec (ws := wsX8_byteAt) B.pre⟩
  have hl := lv_entry ([.ref h_t, .int v0]) (n := 2) (Nat.le_of_ble_eq_true rfl)
  rw [lg_entry_eq]
  exact wX8_byteAt_0 (A := va_A (zwX8 h_t h_t_picture h_t_draft h_f h_t_source h_t_formats ++ zwX2 cI h_f h_f_bytes f_size f_bytes) s.heap.size) C hN hK (fun q h => Or.inr h) (fun H locs pc ls d hP hD hS => zend_i C.1 C.2.1 B.returns B.notSynchronized d hP hD hS) hf hP hD0.self va_S.rf hl
