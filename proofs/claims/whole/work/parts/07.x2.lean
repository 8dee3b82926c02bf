def fX2_at (t_size : Int32) (t_bytes : Nat → Int32) (v0 : Int32) : Option (Int32) :=
  if v0 < 0 then
    some (-1)
  else
    if t_size ≤ v0 then
      some (-1)
    else
      zrd t_bytes 800 v0 fun x3 =>
      some x3
def fX2_append (t_size : Int32) (t_bytes : Nat → Int32) (v0 : Int32) : Option (Int32 × Int32 × (Nat → Int32)) :=
  if t_size < 800 then
    zwr t_bytes 800 t_size v0 fun g2 =>
    zlet (t_size + 1) fun x4 =>
    some (1, x4, g2)
  else
    some (0, t_size, t_bytes)
def fX2_appendZeros_2 : Nat → Int32 → (Nat → Int32) → Int32 → Int32 → Option (Int32 × (Nat → Int32))
  | 0, _, _, _, _ => none
  | n + 1, t_size, t_bytes, l1, l2 =>
    if l1 ≤ l2 then
      some (t_size, t_bytes)
    else
      zb3 (fX2_append t_size t_bytes 0) fun r2 u3 u4 =>
      zlet (l2 + 1) fun x6 =>
      (fX2_appendZeros_2 n) u3 u4 l1 x6
theorem fX2_appendZeros_2_s (n : Nat) (t_size : Int32) (t_bytes : Nat → Int32) (l1 : Int32) (l2 : Int32) : fX2_appendZeros_2 (n + 1) t_size t_bytes l1 l2 =
    if l1 ≤ l2 then
      some (t_size, t_bytes)
    else
      zb3 (fX2_append t_size t_bytes 0) fun r2 u3 u4 =>
      zlet (l2 + 1) fun x6 =>
      (fX2_appendZeros_2 n) u3 u4 l1 x6 := rfl
def fX2_appendZeros (t_size : Int32) (t_bytes : Nat → Int32) (v0 : Int32) : Option (Int32 × (Nat → Int32)) :=
  fX2_appendZeros_2 1000 t_size t_bytes v0 0
def fX2_appendLittle_2 : Nat → Int32 → (Nat → Int32) → Int32 → Int32 → Int32 → Option (Int32 × (Nat → Int32))
  | 0, _, _, _, _, _ => none
  | n + 1, t_size, t_bytes, l1, l2, l3 =>
    if l1 ≤ l3 then
      some (t_size, t_bytes)
    else
      zb3 (fX2_append t_size t_bytes ((zushr l2 (8 * l3)) &&& 255)) fun r2 u3 u4 =>
      zlet (l3 + 1) fun x6 =>
      (fX2_appendLittle_2 n) u3 u4 l1 l2 x6
theorem fX2_appendLittle_2_s (n : Nat) (t_size : Int32) (t_bytes : Nat → Int32) (l1 : Int32) (l2 : Int32) (l3 : Int32) : fX2_appendLittle_2 (n + 1) t_size t_bytes l1 l2 l3 =
    if l1 ≤ l3 then
      some (t_size, t_bytes)
    else
      zb3 (fX2_append t_size t_bytes ((zushr l2 (8 * l3)) &&& 255)) fun r2 u3 u4 =>
      zlet (l3 + 1) fun x6 =>
      (fX2_appendLittle_2 n) u3 u4 l1 l2 x6 := rfl
def fX2_appendLittle (t_size : Int32) (t_bytes : Nat → Int32) (v0 : Int32) (v1 : Int32) : Option (Int32 × (Nat → Int32)) :=
  fX2_appendLittle_2 1000 t_size t_bytes v0 v1 0
def fX2_appendBig_4 : Nat → Int32 → (Nat → Int32) → Int32 → Int32 → Option (Int32 × (Nat → Int32))
  | 0, _, _, _, _ => none
  | n + 1, t_size, t_bytes, l2, l3 =>
    if l3 < 0 then
      some (t_size, t_bytes)
    else
      zb3 (fX2_append t_size t_bytes ((zushr l2 (8 * l3)) &&& 255)) fun r2 u3 u4 =>
      zlet (l3 + (-1)) fun x6 =>
      (fX2_appendBig_4 n) u3 u4 l2 x6
theorem fX2_appendBig_4_s (n : Nat) (t_size : Int32) (t_bytes : Nat → Int32) (l2 : Int32) (l3 : Int32) : fX2_appendBig_4 (n + 1) t_size t_bytes l2 l3 =
    if l3 < 0 then
      some (t_size, t_bytes)
    else
      zb3 (fX2_append t_size t_bytes ((zushr l2 (8 * l3)) &&& 255)) fun r2 u3 u4 =>
      zlet (l3 + (-1)) fun x6 =>
      (fX2_appendBig_4 n) u3 u4 l2 x6 := rfl
def fX2_appendBig (t_size : Int32) (t_bytes : Nat → Int32) (v0 : Int32) (v1 : Int32) : Option (Int32 × (Nat → Int32)) :=
  zlet (v0 - 1) fun x1 =>
  fX2_appendBig_4 1000 t_size t_bytes v1 x1
def fX2_appendDigits_42 (t_size : Int32) (t_bytes : Nat → Int32) (l1 : Int32) : Option (Int32 × (Nat → Int32)) :=
  zb3 (fX2_append t_size t_bytes (48 + (zrem l1 10))) fun r1 u2 u3 =>
  some (u2, u3)
def fX2_appendDigits_21 (t_size : Int32) (t_bytes : Nat → Int32) (l1 : Int32) : Option (Int32 × (Nat → Int32)) :=
  if l1 < 10 then
    fX2_appendDigits_42 t_size t_bytes l1
  else
    zb3 (fX2_append t_size t_bytes (48 + (zrem (l1 / 10) 10))) fun r2 u3 u4 =>
    fX2_appendDigits_42 u3 u4 l1
def fX2_appendDigits (t_size : Int32) (t_bytes : Nat → Int32) (v0 : Int32) : Option (Int32 × (Nat → Int32)) :=
  if v0 < 100 then
    fX2_appendDigits_21 t_size t_bytes v0
  else
    zb3 (fX2_append t_size t_bytes (48 + (zrem (v0 / 100) 10))) fun r2 u3 u4 =>
    fX2_appendDigits_21 u3 u4 v0
def fX2_appendBlueGreenRed (t_size : Int32) (t_bytes : Nat → Int32) (v0 : Int32) : Option (Int32 × (Nat → Int32)) :=
  zb1 (fX8_blue v0) fun r1 =>
  zb3 (fX2_append t_size t_bytes r1) fun r3 u4 u5 =>
  zb1 (fX8_green v0) fun r7 =>
  zb3 (fX2_append u4 u5 r7) fun r9 u10 u11 =>
  zb1 (fX8_red v0) fun r13 =>
  zb3 (fX2_append u10 u11 r13) fun r15 u16 u17 =>
  some (u16, u17)
def rmX2_at : Room := { frames := 0, cells := 0, slots := 0, locals := 0 }
theorem kX2_at_9 {args : Array Value} {s : State} (h : ∀ w ∈ wsX2_at, w.before args s = true) : (Cond.fieldLink RX2 9 "FourPictureFiles$FileRow" "bytes" "[I").before args s = true := h _ (by decide +kernel)
theorem kX2_at_15 {args : Array Value} {s : State} (h : ∀ w ∈ wsX2_at, w.before args s = true) : (Cond.fieldLink RX2 15 "FourPictureFiles$FileRow" "size" "I").before args s = true := h _ (by decide +kernel)
theorem iX2_at_X2 : ∀ w ∈ u_ws RX2 TX2 2, w ∈ wsX2_at := by decide +kernel
set_option maxHeartbeats 4000000 in
set_option maxRecDepth 100000 in
theorem wX2_at_0 {p : Program} {l : Launch} {e : Env} {s : State} {m : MethodId} {args : Array Value} {below : List Frame} {meth : Method} {c : Code} {D : va_G} {A : Nat → Prop} {Q : State → Prop} {cI : ClassId} {h_t h_t_bytes : Nat} {t_size : Int32} {t_bytes : Nat → Int32} {r0 : Int32} (C : CallFix p m c cX2_at 2 s args wsX2_at RX2) (hN : zN s) (hK : va_K D vwCl [(cI, .int)] s) (hA : ∀ q, s.heap.size ≤ q → A q) (hE : zEi p l e rmX2_at s m args below meth c cX2_at D A Q (zwX2 cI h_t h_t_bytes t_size t_bytes) r0) {v0 : Int32} {H : Heap} {locs : List Loc} {ls : Array Slot} : fX2_at t_size t_bytes v0 = some r0 → va_P D vwCl (zwX2 cI h_t h_t_bytes t_size t_bytes) H → va_D A (zwX2 cI h_t h_t_bytes t_size t_bytes) → va_S A s.heap H locs → lv_has ls 2 [(0, .ref h_t), (1, .int v0)] → W p l e rmX2_at s m args below meth c H locs 0 0 Q (F0 m 0 ls []) := by
  intro hf hP hD hS hl
  obtain ⟨hx, hb, hml, hown, hts⟩ := id C
  unfold fX2_at at hf
  refine lv_iload_n hx hb dX2_at_0 rfl (lv_at hl 1 rfl) ?_
  refine lv_if_lt (tgt := 21) hx hb dX2_at_1 (by decide) (fun c1 => ?_) (fun c1 => ?_)
  · replace hf := zif_t hf c1
    refine lv_iconst (v := (-1)) hx hb dX2_at_21 (by decide) ?_
    cases hf
    exact hE _ _ _ _ dX2_at_22 hP hD hS
  · replace hf := zif_f hf c1
    refine lv_iload_n hx hb dX2_at_4 rfl (lv_at hl 1 rfl) ?_
    refine lv_aload_n hx hb dX2_at_5 rfl (lv_at hl 0 rfl) ?_
    refine va_get (D := D) (ci := 2) (v := .int t_size) (C := RX2) (T := TX2) (N := 2) hx hb hts iX2_at_X2 hown hK hP 0 rfl rfl 1 (by decide) (kX2_at_15 hts) (fun _ h9 => h9) rfl dX2_at_6 ?_
    refine lv_icmp_ge (tgt := 21) hx hb dX2_at_9 (by decide) (fun c2 => ?_) (fun c2 => ?_)
    · replace hf := zif_t hf c2
      refine lv_iconst (v := (-1)) hx hb dX2_at_21 (by decide) ?_
      cases hf
      exact hE _ _ _ _ dX2_at_22 hP hD hS
    · replace hf := zif_f hf c2
      refine lv_aload_n hx hb dX2_at_12 rfl (lv_at hl 0 rfl) ?_
      refine va_get (D := D) (ci := 2) (v := .ref h_t_bytes) (C := RX2) (T := TX2) (N := 2) hx hb hts iX2_at_X2 hown hK hP 0 rfl rfl 0 (by decide) (kX2_at_9 hts) (fun _ h9 => h9) rfl dX2_at_13 ?_
      refine lv_iload_n hx hb dX2_at_16 rfl (lv_at hl 1 rfl) ?_
      obtain ⟨hg4, hf⟩ := zrd_in hf
      refine va_iald hx hb hK hP 1 0 rfl rfl hg4 dX2_at_17 ?_
      refine lv_topi (fun x3 ex3 => ?_)
      replace hf := hf x3 ex3
      clear ex3
      refine lv_goto (tgt := 22) hx hb dX2_at_18 (by decide) ?_
      cases hf
      exact hE _ _ _ _ dX2_at_22 hP hD hS
set_option maxHeartbeats 4000000 in
set_option maxRecDepth 100000 in
theorem mX2_at (l : Launch) (D : va_G) (cI : ClassId) (sz : Nat) (h_t h_t_bytes : Nat) (t_size : Int32) (t_bytes : Nat → Int32) (v0 : Int32) (r0 : Int32) (hf : fX2_at t_size t_bytes v0 = some r0) : Met l yX2_at wsX2_at rmX2_at (va_Pc [.ref h_t, .int v0] (zP D [(cI, .int)] (zwX2 cI h_t h_t_bytes t_size t_bytes) sz)) (zQi D (zwX2 cI h_t h_t_bytes t_size t_bytes) sz r0 (zwX2 cI h_t h_t_bytes t_size t_bytes)) 0 0 (va_A (zwX2 cI h_t h_t_bytes t_size t_bytes) sz) := by
  refine Met.ofW (cc := cX2_at) (maxL := 2) (ret := (some .int)) (by decide) rfl ?_
  intro p e s m args below meth c s₁ B hml hv
  obtain ⟨rfl, hsz, hP, hK, hD0, hN⟩ := hv
  subst hsz
  have C : CallFix p m c cX2_at 2 s [.ref h_t, .int v0].toArray wsX2_at RX2 := ⟨B.exec, B.bytes, hml, findClass_of_methodNamed B.named, atoms_spec (ws := wsX2_at) B.pre⟩
  have hl := lv_entry ([.ref h_t, .int v0]) (n := 2) (Nat.le_of_ble_eq_true rfl)
  rw [lg_entry_eq]
  exact wX2_at_0 (A := va_A (zwX2 cI h_t h_t_bytes t_size t_bytes) s.heap.size) C hN hK (fun q h => Or.inr h) (fun H locs pc ls d hP hD hS => zend_i C.1 C.2.1 B.returns B.notSynchronized d hP hD hS) hf hP hD0.self va_S.rf hl
def rmX2_append : Room := { frames := 0, cells := 0, slots := 0, locals := 0 }
theorem kX2_append_9 {args : Array Value} {s : State} (h : ∀ w ∈ wsX2_append, w.before args s = true) : (Cond.fieldLink RX2 9 "FourPictureFiles$FileRow" "bytes" "[I").before args s = true := h _ (by decide +kernel)
theorem kX2_append_15 {args : Array Value} {s : State} (h : ∀ w ∈ wsX2_append, w.before args s = true) : (Cond.fieldLink RX2 15 "FourPictureFiles$FileRow" "size" "I").before args s = true := h _ (by decide +kernel)
theorem iX2_append_X2 : ∀ w ∈ u_ws RX2 TX2 2, w ∈ wsX2_append := by decide +kernel
set_option maxHeartbeats 4000000 in
set_option maxRecDepth 100000 in
theorem wX2_append_0 {p : Program} {l : Launch} {e : Env} {s : State} {m : MethodId} {args : Array Value} {below : List Frame} {meth : Method} {c : Code} {D : va_G} {A : Nat → Prop} {Q : State → Prop} {cI : ClassId} {h_t h_t_bytes : Nat} {r0 : Int32} {zt_size : Int32} {zt_bytes : Nat → Int32} (C : CallFix p m c cX2_append 2 s args wsX2_append RX2) (hN : zN s) (hK : va_K D vwCl [(cI, .int)] s) (hA : ∀ q, s.heap.size ≤ q → A q) (hE : zEz p l e rmX2_append s m args below meth c cX2_append D A Q (zwX2 cI h_t h_t_bytes zt_size zt_bytes) r0) {t_size : Int32} {t_bytes : Nat → Int32} {v0 : Int32} {H : Heap} {locs : List Loc} {ls : Array Slot} : fX2_append t_size t_bytes v0 = some (r0, zt_size, zt_bytes) → va_P D vwCl (zwX2 cI h_t h_t_bytes t_size t_bytes) H → va_D A (zwX2 cI h_t h_t_bytes t_size t_bytes) → va_S A s.heap H locs → lv_has ls 2 [(0, .ref h_t), (1, .int v0)] → W p l e rmX2_append s m args below meth c H locs 0 0 Q (F0 m 0 ls []) := by
  intro hf hP hD hS hl
  obtain ⟨hx, hb, hml, hown, hts⟩ := id C
  unfold fX2_append at hf
  refine lv_aload_n hx hb dX2_append_0 rfl (lv_at hl 0 rfl) ?_
  refine va_get (D := D) (ci := 2) (v := .int t_size) (C := RX2) (T := TX2) (N := 2) hx hb hts iX2_append_X2 hown hK hP 0 rfl rfl 1 (by decide) (kX2_append_15 hts) (fun _ h9 => h9) rfl dX2_append_1 ?_
  refine lv_sipush (v := 800) hx hb dX2_append_4 (by decide) ?_
  refine lv_icmp_lt (tgt := 12) hx hb dX2_append_7 (by decide) (fun c1 => ?_) (fun c1 => ?_)
  · replace hf := zif_t hf c1
    refine lv_aload_n hx hb dX2_append_12 rfl (lv_at hl 0 rfl) ?_
    refine va_get (D := D) (ci := 2) (v := .ref h_t_bytes) (C := RX2) (T := TX2) (N := 2) hx hb hts iX2_append_X2 hown hK hP 0 rfl rfl 0 (by decide) (kX2_append_9 hts) (fun _ h9 => h9) rfl dX2_append_13 ?_
    refine lv_aload_n hx hb dX2_append_16 rfl (lv_at hl 0 rfl) ?_
    refine va_get (D := D) (ci := 2) (v := .int t_size) (C := RX2) (T := TX2) (N := 2) hx hb hts iX2_append_X2 hown hK hP 0 rfl rfl 1 (by decide) (kX2_append_15 hts) (fun _ h9 => h9) rfl dX2_append_17 ?_
    refine lv_iload_n hx hb dX2_append_20 rfl (lv_at hl 1 rfl) ?_
    obtain ⟨hg3, g2, eg2, hf⟩ := zwr_in hf
    refine va_iast hx hb hK hP hD hS 1 0 rfl rfl hg3 dX2_append_21 (fun H locs hP hD hS => ?_)
    replace hP : va_P D vwCl (zwX2 cI h_t h_t_bytes t_size g2) H := by rw [← eg2]; exact hP
    replace hD : va_D A (zwX2 cI h_t h_t_bytes t_size g2) := by rw [← eg2]; exact hD
    clear eg2
    refine lv_aload_n hx hb dX2_append_22 rfl (lv_at hl 0 rfl) ?_
    refine lv_dup hx hb dX2_append_23 rfl ?_
    refine va_get (D := D) (ci := 2) (v := .int t_size) (C := RX2) (T := TX2) (N := 2) hx hb hts iX2_append_X2 hown hK hP 0 rfl rfl 1 (by decide) (kX2_append_15 hts) (fun _ h9 => h9) rfl dX2_append_24 ?_
    refine lv_iconst (v := 1) hx hb dX2_append_27 (by decide) ?_
    refine lv_iadd hx hb dX2_append_28 ?_
    refine lv_topi (fun x4 ex4 => ?_)
    replace hf := zlet_in hf ex4
    clear ex4
    refine va_put (D := D) (ci := 2) (v := .int x4) (ty := .int) (C := RX2) (T := TX2) (N := 2) hx hb hts iX2_append_X2 tyX2 tyX2_ok nmX2 hown hK hP hD hS 0 rfl rfl 1 (by decide) (kX2_append_15 hts) (fun _ h9 => h9) rfl (by decide +kernel) rfl rfl (Nat.le_of_ble_eq_true rfl) dX2_append_29 (fun H locs hP hD hS => ?_)
    replace hP : va_P D vwCl (zwX2 cI h_t h_t_bytes x4 g2) H := hP
    replace hD : va_D A (zwX2 cI h_t h_t_bytes x4 g2) := hD
    refine lv_iconst (v := 1) hx hb dX2_append_32 (by decide) ?_
    cases hf
    exact hE _ _ _ _ dX2_append_33 rfl hP hD hS
  · replace hf := zif_f hf c1
    refine lv_iconst (v := 0) hx hb dX2_append_10 (by decide) ?_
    cases hf
    exact hE _ _ _ _ dX2_append_11 rfl hP hD hS
set_option maxHeartbeats 4000000 in
set_option maxRecDepth 100000 in
theorem mX2_append (l : Launch) (D : va_G) (cI : ClassId) (sz : Nat) (h_t h_t_bytes : Nat) (t_size : Int32) (t_bytes : Nat → Int32) (v0 : Int32) (r0 : Int32) (zt_size : Int32) (zt_bytes : Nat → Int32) (hf : fX2_append t_size t_bytes v0 = some (r0, zt_size, zt_bytes)) : Met l yX2_append wsX2_append rmX2_append (va_Pc [.ref h_t, .int v0] (zP D [(cI, .int)] (zwX2 cI h_t h_t_bytes t_size t_bytes) sz)) (zQi D (zwX2 cI h_t h_t_bytes t_size t_bytes) sz r0 (zwX2 cI h_t h_t_bytes zt_size zt_bytes)) 0 0 (va_A (zwX2 cI h_t h_t_bytes t_size t_bytes) sz) := by
  refine Met.ofW (cc := cX2_append) (maxL := 2) (ret := (some .boolean)) (by decide) rfl ?_
  intro p e s m args below meth c s₁ B hml hv
  obtain ⟨rfl, hsz, hP, hK, hD0, hN⟩ := hv
  subst hsz
  have C : CallFix p m c cX2_append 2 s [.ref h_t, .int v0].toArray wsX2_append RX2 := ⟨B.exec, B.bytes, hml, findClass_of_methodNamed B.named, atoms_spec (ws := wsX2_append) B.pre⟩
  have hl := lv_entry ([.ref h_t, .int v0]) (n := 2) (Nat.le_of_ble_eq_true rfl)
  rw [lg_entry_eq]
  exact wX2_append_0 (A := va_A (zwX2 cI h_t h_t_bytes t_size t_bytes) s.heap.size) C hN hK (fun q h => Or.inr h) (fun H locs pc ls d hn hP hD hS => zend_z C.1 C.2.1 B.returns B.notSynchronized d hn hP hD hS) hf hP hD0.self va_S.rf hl
def rmX2_appendZeros : Room := { frames := 1, cells := 0, slots := 0, locals := 21 }
theorem qX2_appendZeros_X2_append_19 {args : Array Value} {s : State} (hts : ∀ w ∈ wsX2_appendZeros, w.before args s = true) : CallW rmX2_appendZeros s args RX2 RX2 19 yX2_append cX2_append 2 (some .boolean) wsX2_append rmX2_append 0 0 1 := cwV 1 hts gX2_appendZeros_X2_append rfl rfl rfl (by decide +kernel) ⟨Nat.le_of_ble_eq_true rfl, Nat.le_of_ble_eq_true rfl⟩
set_option maxHeartbeats 4000000 in
set_option maxRecDepth 100000 in
theorem wX2_appendZeros_2 {p : Program} {l : Launch} {e : Env} {s : State} {m : MethodId} {args : Array Value} {below : List Frame} {meth : Method} {c : Code} {D : va_G} {A : Nat → Prop} {Q : State → Prop} {cI : ClassId} {h_t h_t_bytes : Nat} {zt_size : Int32} {zt_bytes : Nat → Int32} (C : CallFix p m c cX2_appendZeros 3 s args wsX2_appendZeros RX2) (hN : zN s) (hK : va_K D vwCl [(cI, .int)] s) (hA : ∀ q, s.heap.size ≤ q → A q) (hE : zEv p l e rmX2_appendZeros s m args below meth c cX2_appendZeros D A Q (zwX2 cI h_t h_t_bytes zt_size zt_bytes)) (n : Nat) : ∀ {t_size : Int32} {t_bytes : Nat → Int32} {l1 : Int32} {l2 : Int32} {H : Heap} {locs : List Loc} {ls : Array Slot}, fX2_appendZeros_2 n t_size t_bytes l1 l2 = some (zt_size, zt_bytes) → va_P D vwCl (zwX2 cI h_t h_t_bytes t_size t_bytes) H → va_D A (zwX2 cI h_t h_t_bytes t_size t_bytes) → va_S A s.heap H locs → lv_has ls 3 [(0, .ref h_t), (1, .int l1), (2, .int l2)] → W p l e rmX2_appendZeros s m args below meth c H locs 0 0 Q (F0 m 2 ls []) := by
  obtain ⟨hx, hb, hml, hown, hts⟩ := id C
  induction n with
  | zero =>
    intro t_size t_bytes l1 l2 H locs ls hf
    cases hf
  | succ n hr_2 =>
    intro t_size t_bytes l1 l2 H locs ls hf hP hD hS hl
    rw [fX2_appendZeros_2_s] at hf
    refine lv_iload_n hx hb dX2_appendZeros_2 rfl (lv_at hl 2 rfl) ?_
    refine lv_iload_n hx hb dX2_appendZeros_3 rfl (lv_at hl 1 rfl) ?_
    refine lv_icmp_ge (tgt := 19) hx hb dX2_appendZeros_4 (by decide) (fun c1 => ?_) (fun c1 => ?_)
    · replace hf := zif_t hf c1
      cases hf
      exact hE _ _ _ _ dX2_appendZeros_19 hP hD hS
    · replace hf := zif_f hf c1
      refine lv_aload_n hx hb dX2_appendZeros_7 rfl (lv_at hl 0 rfl) ?_
      refine lv_iconst (v := 0) hx hb dX2_appendZeros_8 (by decide) ?_
      obtain ⟨r2, u3, u4, hc5, hf⟩ := zb3_in hf
      refine zc_i (va_runV (As := [.int 0]) (rest := []) C (mX2_append l D cI H.size h_t h_t_bytes t_size t_bytes 0 r2 u3 u4 hc5) (qX2_appendZeros_X2_append_19 hts) ⟨zP_blind, va_recv hK hP (ci := 2) (q0 := 0) rfl rfl, zpre hK hN hP hD [0, 1] rfl rfl⟩ rfl rfl hl.1 rfl (lv_room (Nat.le_of_ble_eq_true rfl)) dX2_appendZeros_9 ⟨Nat.zero_le _, Nat.zero_le _⟩) hP hD hS hA [0, 1] [] [0, 1] (ws' := zwX2 cI h_t h_t_bytes u3 u4) rfl rfl rfl rfl rfl rfl (fun H locs hP hD hS => ?_)
      refine lv_pop hx hb dX2_appendZeros_12 rfl ?_
      obtain ⟨x6, ex6⟩ : ∃ y : Int32, y = l2 + 1 := ⟨_, rfl⟩
      replace hf := zlet_in hf ex6
      refine lv_iinc (v := x6) (lv' := [(2, .int x6), (0, .ref h_t), (1, .int l1)]) hx hb dX2_appendZeros_13 hl (k := 2) rfl (by rw [ex6]; rfl) (by decide) rfl (fun ls hl => ?_)
      clear ex6
      refine lv_goto (tgt := 2) hx hb dX2_appendZeros_16 (by decide) ?_
      exact hr_2 hf hP hD hS (lv_sub hl [1, 2, 0] rfl)
set_option maxHeartbeats 4000000 in
set_option maxRecDepth 100000 in
theorem wX2_appendZeros_0 {p : Program} {l : Launch} {e : Env} {s : State} {m : MethodId} {args : Array Value} {below : List Frame} {meth : Method} {c : Code} {D : va_G} {A : Nat → Prop} {Q : State → Prop} {cI : ClassId} {h_t h_t_bytes : Nat} {zt_size : Int32} {zt_bytes : Nat → Int32} (C : CallFix p m c cX2_appendZeros 3 s args wsX2_appendZeros RX2) (hN : zN s) (hK : va_K D vwCl [(cI, .int)] s) (hA : ∀ q, s.heap.size ≤ q → A q) (hE : zEv p l e rmX2_appendZeros s m args below meth c cX2_appendZeros D A Q (zwX2 cI h_t h_t_bytes zt_size zt_bytes)) {t_size : Int32} {t_bytes : Nat → Int32} {v0 : Int32} {H : Heap} {locs : List Loc} {ls : Array Slot} : fX2_appendZeros t_size t_bytes v0 = some (zt_size, zt_bytes) → va_P D vwCl (zwX2 cI h_t h_t_bytes t_size t_bytes) H → va_D A (zwX2 cI h_t h_t_bytes t_size t_bytes) → va_S A s.heap H locs → lv_has ls 3 [(0, .ref h_t), (1, .int v0)] → W p l e rmX2_appendZeros s m args below meth c H locs 0 0 Q (F0 m 0 ls []) := by
  intro hf hP hD hS hl
  obtain ⟨hx, hb, hml, hown, hts⟩ := id C
  unfold fX2_appendZeros at hf
  refine lv_iconst (v := 0) hx hb dX2_appendZeros_0 (by decide) ?_
  refine lv_istore_n (lv' := [(2, .int 0), (0, .ref h_t), (1, .int v0)]) hx hb dX2_appendZeros_1 rfl hl (by decide) rfl (fun ls hl => ?_)
  exact wX2_appendZeros_2 C hN hK hA hE 1000 hf hP hD hS (lv_sub hl [1, 2, 0] rfl)
set_option maxHeartbeats 4000000 in
set_option maxRecDepth 100000 in
theorem mX2_appendZeros (l : Launch) (D : va_G) (cI : ClassId) (sz : Nat) (h_t h_t_bytes : Nat) (t_size : Int32) (t_bytes : Nat → Int32) (v0 : Int32) (zt_size : Int32) (zt_bytes : Nat → Int32) (hf : fX2_appendZeros t_size t_bytes v0 = some (zt_size, zt_bytes)) : Met l yX2_appendZeros wsX2_appendZeros rmX2_appendZeros (va_Pc [.ref h_t, .int v0] (zP D [(cI, .int)] (zwX2 cI h_t h_t_bytes t_size t_bytes) sz)) (zQv D (zwX2 cI h_t h_t_bytes t_size t_bytes) sz (zwX2 cI h_t h_t_bytes zt_size zt_bytes)) 0 0 (va_A (zwX2 cI h_t h_t_bytes t_size t_bytes) sz) := by
  refine Met.ofW (cc := cX2_appendZeros) (maxL := 3) (ret := none) (by decide) rfl ?_
  intro p e s m args below meth c s₁ B hml hv
  obtain ⟨rfl, hsz, hP, hK, hD0, hN⟩ := hv
  subst hsz
  have C : CallFix p m c cX2_appendZeros 3 s [.ref h_t, .int v0].toArray wsX2_appendZeros RX2 := ⟨B.exec, B.bytes, hml, findClass_of_methodNamed B.named, atoms_spec (ws := wsX2_appendZeros) B.pre⟩
  have hl := lv_entry ([.ref h_t, .int v0]) (n := 3) (Nat.le_of_ble_eq_true rfl)
  rw [lg_entry_eq]
  exact wX2_appendZeros_0 (A := va_A (zwX2 cI h_t h_t_bytes t_size t_bytes) s.heap.size) C hN hK (fun q h => Or.inr h) (fun H locs pc ls d hP hD hS => zend_v C.1 C.2.1 B.returns B.notSynchronized d hP hD hS) hf hP hD0.self va_S.rf hl
def rmX2_appendLittle : Room := { frames := 1, cells := 0, slots := 0, locals := 21 }
theorem qX2_appendLittle_X2_append_19 {args : Array Value} {s : State} (hts : ∀ w ∈ wsX2_appendLittle, w.before args s = true) : CallW rmX2_appendLittle s args RX2 RX2 19 yX2_append cX2_append 2 (some .boolean) wsX2_append rmX2_append 0 0 1 := cwV 1 hts gX2_appendLittle_X2_append rfl rfl rfl (by decide +kernel) ⟨Nat.le_of_ble_eq_true rfl, Nat.le_of_ble_eq_true rfl⟩
set_option maxHeartbeats 4000000 in
set_option maxRecDepth 100000 in
theorem wX2_appendLittle_2 {p : Program} {l : Launch} {e : Env} {s : State} {m : MethodId} {args : Array Value} {below : List Frame} {meth : Method} {c : Code} {D : va_G} {A : Nat → Prop} {Q : State → Prop} {cI : ClassId} {h_t h_t_bytes : Nat} {zt_size : Int32} {zt_bytes : Nat → Int32} (C : CallFix p m c cX2_appendLittle 4 s args wsX2_appendLittle RX2) (hN : zN s) (hK : va_K D vwCl [(cI, .int)] s) (hA : ∀ q, s.heap.size ≤ q → A q) (hE : zEv p l e rmX2_appendLittle s m args below meth c cX2_appendLittle D A Q (zwX2 cI h_t h_t_bytes zt_size zt_bytes)) (n : Nat) : ∀ {t_size : Int32} {t_bytes : Nat → Int32} {l1 : Int32} {l2 : Int32} {l3 : Int32} {H : Heap} {locs : List Loc} {ls : Array Slot}, fX2_appendLittle_2 n t_size t_bytes l1 l2 l3 = some (zt_size, zt_bytes) → va_P D vwCl (zwX2 cI h_t h_t_bytes t_size t_bytes) H → va_D A (zwX2 cI h_t h_t_bytes t_size t_bytes) → va_S A s.heap H locs → lv_has ls 4 [(0, .ref h_t), (1, .int l1), (2, .int l2), (3, .int l3)] → W p l e rmX2_appendLittle s m args below meth c H locs 0 0 Q (F0 m 2 ls []) := by
  obtain ⟨hx, hb, hml, hown, hts⟩ := id C
  induction n with
  | zero =>
    intro t_size t_bytes l1 l2 l3 H locs ls hf
    cases hf
  | succ n hr_2 =>
    intro t_size t_bytes l1 l2 l3 H locs ls hf hP hD hS hl
    rw [fX2_appendLittle_2_s] at hf
    refine lv_iload_n hx hb dX2_appendLittle_2 rfl (lv_at hl 3 rfl) ?_
    refine lv_iload_n hx hb dX2_appendLittle_3 rfl (lv_at hl 1 rfl) ?_
    refine lv_icmp_ge (tgt := 28) hx hb dX2_appendLittle_4 (by decide) (fun c1 => ?_) (fun c1 => ?_)
    · replace hf := zif_t hf c1
      cases hf
      exact hE _ _ _ _ dX2_appendLittle_28 hP hD hS
    · replace hf := zif_f hf c1
      refine lv_aload_n hx hb dX2_appendLittle_7 rfl (lv_at hl 0 rfl) ?_
      refine lv_iload_n hx hb dX2_appendLittle_8 rfl (lv_at hl 2 rfl) ?_
      refine lv_bipush (v := 8) hx hb dX2_appendLittle_9 (by decide) ?_
      refine lv_iload_n hx hb dX2_appendLittle_11 rfl (lv_at hl 3 rfl) ?_
      refine lv_imul hx hb dX2_appendLittle_12 ?_
      refine lv_iushr (v := zushr l2 (8 * l3)) hx hb dX2_appendLittle_13 rfl ?_
      refine lv_sipush (v := 255) hx hb dX2_appendLittle_14 (by decide) ?_
      refine lv_iand hx hb dX2_appendLittle_17 ?_
      obtain ⟨r2, u3, u4, hc5, hf⟩ := zb3_in hf
      refine zc_i (va_runV (As := [.int ((zushr l2 (8 * l3)) &&& 255)]) (rest := []) C (mX2_append l D cI H.size h_t h_t_bytes t_size t_bytes ((zushr l2 (8 * l3)) &&& 255) r2 u3 u4 hc5) (qX2_appendLittle_X2_append_19 hts) ⟨zP_blind, va_recv hK hP (ci := 2) (q0 := 0) rfl rfl, zpre hK hN hP hD [0, 1] rfl rfl⟩ rfl rfl hl.1 rfl (lv_room (Nat.le_of_ble_eq_true rfl)) dX2_appendLittle_18 ⟨Nat.zero_le _, Nat.zero_le _⟩) hP hD hS hA [0, 1] [] [0, 1] (ws' := zwX2 cI h_t h_t_bytes u3 u4) rfl rfl rfl rfl rfl rfl (fun H locs hP hD hS => ?_)
      refine lv_pop hx hb dX2_appendLittle_21 rfl ?_
      obtain ⟨x6, ex6⟩ : ∃ y : Int32, y = l3 + 1 := ⟨_, rfl⟩
      replace hf := zlet_in hf ex6
      refine lv_iinc (v := x6) (lv' := [(3, .int x6), (0, .ref h_t), (1, .int l1), (2, .int l2)]) hx hb dX2_appendLittle_22 hl (k := 3) rfl (by rw [ex6]; rfl) (by decide) rfl (fun ls hl => ?_)
      clear ex6
      refine lv_goto (tgt := 2) hx hb dX2_appendLittle_25 (by decide) ?_
      exact hr_2 hf hP hD hS (lv_sub hl [1, 2, 3, 0] rfl)
set_option maxHeartbeats 4000000 in
set_option maxRecDepth 100000 in
theorem wX2_appendLittle_0 {p : Program} {l : Launch} {e : Env} {s : State} {m : MethodId} {args : Array Value} {below : List Frame} {meth : Method} {c : Code} {D : va_G} {A : Nat → Prop} {Q : State → Prop} {cI : ClassId} {h_t h_t_bytes : Nat} {zt_size : Int32} {zt_bytes : Nat → Int32} (C : CallFix p m c cX2_appendLittle 4 s args wsX2_appendLittle RX2) (hN : zN s) (hK : va_K D vwCl [(cI, .int)] s) (hA : ∀ q, s.heap.size ≤ q → A q) (hE : zEv p l e rmX2_appendLittle s m args below meth c cX2_appendLittle D A Q (zwX2 cI h_t h_t_bytes zt_size zt_bytes)) {t_size : Int32} {t_bytes : Nat → Int32} {v0 : Int32} {v1 : Int32} {H : Heap} {locs : List Loc} {ls : Array Slot} : fX2_appendLittle t_size t_bytes v0 v1 = some (zt_size, zt_bytes) → va_P D vwCl (zwX2 cI h_t h_t_bytes t_size t_bytes) H → va_D A (zwX2 cI h_t h_t_bytes t_size t_bytes) → va_S A s.heap H locs → lv_has ls 4 [(0, .ref h_t), (1, .int v0), (2, .int v1)] → W p l e rmX2_appendLittle s m args below meth c H locs 0 0 Q (F0 m 0 ls []) := by
  intro hf hP hD hS hl
  obtain ⟨hx, hb, hml, hown, hts⟩ := id C
  unfold fX2_appendLittle at hf
  refine lv_iconst (v := 0) hx hb dX2_appendLittle_0 (by decide) ?_
  refine lv_istore_n (lv' := [(3, .int 0), (0, .ref h_t), (1, .int v0), (2, .int v1)]) hx hb dX2_appendLittle_1 rfl hl (by decide) rfl (fun ls hl => ?_)
  exact wX2_appendLittle_2 C hN hK hA hE 1000 hf hP hD hS (lv_sub hl [1, 2, 3, 0] rfl)
set_option maxHeartbeats 4000000 in
set_option maxRecDepth 100000 in
theorem mX2_appendLittle (l : Launch) (D : va_G) (cI : ClassId) (sz : Nat) (h_t h_t_bytes : Nat) (t_size : Int32) (t_bytes : Nat → Int32) (v0 v1 : Int32) (zt_size : Int32) (zt_bytes : Nat → Int32) (hf : fX2_appendLittle t_size t_bytes v0 v1 = some (zt_size, zt_bytes)) : Met l yX2_appendLittle wsX2_appendLittle rmX2_appendLittle (va_Pc [.ref h_t, .int v0, .int v1] (zP D [(cI, .int)] (zwX2 cI h_t h_t_bytes t_size t_bytes) sz)) (zQv D (zwX2 cI h_t h_t_bytes t_size t_bytes) sz (zwX2 cI h_t h_t_bytes zt_size zt_bytes)) 0 0 (va_A (zwX2 cI h_t h_t_bytes t_size t_bytes) sz) := by
  refine Met.ofW (cc := cX2_appendLittle) (maxL := 4) (ret := none) (by decide) rfl ?_
  intro p e s m args below meth c s₁ B hml hv
  obtain ⟨rfl, hsz, hP, hK, hD0, hN⟩ := hv
  subst hsz
  have C : CallFix p m c cX2_appendLittle 4 s [.ref h_t, .int v0, .int v1].toArray wsX2_appendLittle RX2 := ⟨B.exec, B.bytes, hml, findClass_of_methodNamed B.named, atoms_spec (ws := wsX2_appendLittle) B.pre⟩
  have hl := lv_entry ([.ref h_t, .int v0, .int v1]) (n := 4) (Nat.le_of_ble_eq_true rfl)
  rw [lg_entry_eq]
  exact wX2_appendLittle_0 (A := va_A (zwX2 cI h_t h_t_bytes t_size t_bytes) s.heap.size) C hN hK (fun q h => Or.inr h) (fun H locs pc ls d hP hD hS => zend_v C.1 C.2.1 B.returns B.notSynchronized d hP hD hS) hf hP hD0.self va_S.rf hl
def rmX2_appendBig : Room := { frames := 1, cells := 0, slots := 0, locals := 21 }
theorem qX2_appendBig_X2_append_19 {args : Array Value} {s : State} (hts : ∀ w ∈ wsX2_appendBig, w.before args s = true) : CallW rmX2_appendBig s args RX2 RX2 19 yX2_append cX2_append 2 (some .boolean) wsX2_append rmX2_append 0 0 1 := cwV 1 hts gX2_appendBig_X2_append rfl rfl rfl (by decide +kernel) ⟨Nat.le_of_ble_eq_true rfl, Nat.le_of_ble_eq_true rfl⟩
set_option maxHeartbeats 4000000 in
set_option maxRecDepth 100000 in
theorem wX2_appendBig_4 {p : Program} {l : Launch} {e : Env} {s : State} {m : MethodId} {args : Array Value} {below : List Frame} {meth : Method} {c : Code} {D : va_G} {A : Nat → Prop} {Q : State → Prop} {cI : ClassId} {h_t h_t_bytes : Nat} {zt_size : Int32} {zt_bytes : Nat → Int32} (C : CallFix p m c cX2_appendBig 4 s args wsX2_appendBig RX2) (hN : zN s) (hK : va_K D vwCl [(cI, .int)] s) (hA : ∀ q, s.heap.size ≤ q → A q) (hE : zEv p l e rmX2_appendBig s m args below meth c cX2_appendBig D A Q (zwX2 cI h_t h_t_bytes zt_size zt_bytes)) (n : Nat) : ∀ {t_size : Int32} {t_bytes : Nat → Int32} {l1 : Int32} {l2 : Int32} {l3 : Int32} {H : Heap} {locs : List Loc} {ls : Array Slot}, fX2_appendBig_4 n t_size t_bytes l2 l3 = some (zt_size, zt_bytes) → va_P D vwCl (zwX2 cI h_t h_t_bytes t_size t_bytes) H → va_D A (zwX2 cI h_t h_t_bytes t_size t_bytes) → va_S A s.heap H locs → lv_has ls 4 [(0, .ref h_t), (1, .int l1), (2, .int l2), (3, .int l3)] → W p l e rmX2_appendBig s m args below meth c H locs 0 0 Q (F0 m 4 ls []) := by
  obtain ⟨hx, hb, hml, hown, hts⟩ := id C
  induction n with
  | zero =>
    intro t_size t_bytes l1 l2 l3 H locs ls hf
    cases hf
  | succ n hr_4 =>
    intro t_size t_bytes l1 l2 l3 H locs ls hf hP hD hS hl
    rw [fX2_appendBig_4_s] at hf
    refine lv_iload_n hx hb dX2_appendBig_4 rfl (lv_at hl 3 rfl) ?_
    refine lv_if_lt (tgt := 29) hx hb dX2_appendBig_5 (by decide) (fun c1 => ?_) (fun c1 => ?_)
    · replace hf := zif_t hf c1
      cases hf
      exact hE _ _ _ _ dX2_appendBig_29 hP hD hS
    · replace hf := zif_f hf c1
      refine lv_aload_n hx hb dX2_appendBig_8 rfl (lv_at hl 0 rfl) ?_
      refine lv_iload_n hx hb dX2_appendBig_9 rfl (lv_at hl 2 rfl) ?_
      refine lv_bipush (v := 8) hx hb dX2_appendBig_10 (by decide) ?_
      refine lv_iload_n hx hb dX2_appendBig_12 rfl (lv_at hl 3 rfl) ?_
      refine lv_imul hx hb dX2_appendBig_13 ?_
      refine lv_iushr (v := zushr l2 (8 * l3)) hx hb dX2_appendBig_14 rfl ?_
      refine lv_sipush (v := 255) hx hb dX2_appendBig_15 (by decide) ?_
      refine lv_iand hx hb dX2_appendBig_18 ?_
      obtain ⟨r2, u3, u4, hc5, hf⟩ := zb3_in hf
      refine zc_i (va_runV (As := [.int ((zushr l2 (8 * l3)) &&& 255)]) (rest := []) C (mX2_append l D cI H.size h_t h_t_bytes t_size t_bytes ((zushr l2 (8 * l3)) &&& 255) r2 u3 u4 hc5) (qX2_appendBig_X2_append_19 hts) ⟨zP_blind, va_recv hK hP (ci := 2) (q0 := 0) rfl rfl, zpre hK hN hP hD [0, 1] rfl rfl⟩ rfl rfl hl.1 rfl (lv_room (Nat.le_of_ble_eq_true rfl)) dX2_appendBig_19 ⟨Nat.zero_le _, Nat.zero_le _⟩) hP hD hS hA [0, 1] [] [0, 1] (ws' := zwX2 cI h_t h_t_bytes u3 u4) rfl rfl rfl rfl rfl rfl (fun H locs hP hD hS => ?_)
      refine lv_pop hx hb dX2_appendBig_22 rfl ?_
      obtain ⟨x6, ex6⟩ : ∃ y : Int32, y = l3 + (-1) := ⟨_, rfl⟩
      replace hf := zlet_in hf ex6
      refine lv_iinc (v := x6) (lv' := [(3, .int x6), (0, .ref h_t), (1, .int l1), (2, .int l2)]) hx hb dX2_appendBig_23 hl (k := 3) rfl (by rw [ex6]; rfl) (by decide) rfl (fun ls hl => ?_)
      clear ex6
      refine lv_goto (tgt := 4) hx hb dX2_appendBig_26 (by decide) ?_
      exact hr_4 hf hP hD hS (lv_sub hl [1, 2, 3, 0] rfl)
set_option maxHeartbeats 4000000 in
set_option maxRecDepth 100000 in
theorem wX2_appendBig_0 {p : Program} {l : Launch} {e : Env} {s : State} {m : MethodId} {args : Array Value} {below : List Frame} {meth : Method} {c : Code} {D : va_G} {A : Nat → Prop} {Q : State → Prop} {cI : ClassId} {h_t h_t_bytes : Nat} {zt_size : Int32} {zt_bytes : Nat → Int32} (C : CallFix p m c cX2_appendBig 4 s args wsX2_appendBig RX2) (hN : zN s) (hK : va_K D vwCl [(cI, .int)] s) (hA : ∀ q, s.heap.size ≤ q → A q) (hE : zEv p l e rmX2_appendBig s m args below meth c cX2_appendBig D A Q (zwX2 cI h_t h_t_bytes zt_size zt_bytes)) {t_size : Int32} {t_bytes : Nat → Int32} {v0 : Int32} {v1 : Int32} {H : Heap} {locs : List Loc} {ls : Array Slot} : fX2_appendBig t_size t_bytes v0 v1 = some (zt_size, zt_bytes) → va_P D vwCl (zwX2 cI h_t h_t_bytes t_size t_bytes) H → va_D A (zwX2 cI h_t h_t_bytes t_size t_bytes) → va_S A s.heap H locs → lv_has ls 4 [(0, .ref h_t), (1, .int v0), (2, .int v1)] → W p l e rmX2_appendBig s m args below meth c H locs 0 0 Q (F0 m 0 ls []) := by
  intro hf hP hD hS hl
  obtain ⟨hx, hb, hml, hown, hts⟩ := id C
  unfold fX2_appendBig at hf
  refine lv_iload_n hx hb dX2_appendBig_0 rfl (lv_at hl 1 rfl) ?_
  refine lv_iconst (v := 1) hx hb dX2_appendBig_1 (by decide) ?_
  refine lv_isub hx hb dX2_appendBig_2 ?_
  refine lv_topi (fun x1 ex1 => ?_)
  replace hf := zlet_in hf ex1
  clear ex1
  refine lv_istore_n (lv' := [(3, .int x1), (0, .ref h_t), (1, .int v0), (2, .int v1)]) hx hb dX2_appendBig_3 rfl hl (by decide) rfl (fun ls hl => ?_)
  exact wX2_appendBig_4 C hN hK hA hE 1000 hf hP hD hS (lv_sub hl [1, 2, 3, 0] rfl)
set_option maxHeartbeats 4000000 in
set_option maxRecDepth 100000 in
theorem mX2_appendBig (l : Launch) (D : va_G) (cI : ClassId) (sz : Nat) (h_t h_t_bytes : Nat) (t_size : Int32) (t_bytes : Nat → Int32) (v0 v1 : Int32) (zt_size : Int32) (zt_bytes : Nat → Int32) (hf : fX2_appendBig t_size t_bytes v0 v1 = some (zt_size, zt_bytes)) : Met l yX2_appendBig wsX2_appendBig rmX2_appendBig (va_Pc [.ref h_t, .int v0, .int v1] (zP D [(cI, .int)] (zwX2 cI h_t h_t_bytes t_size t_bytes) sz)) (zQv D (zwX2 cI h_t h_t_bytes t_size t_bytes) sz (zwX2 cI h_t h_t_bytes zt_size zt_bytes)) 0 0 (va_A (zwX2 cI h_t h_t_bytes t_size t_bytes) sz) := by
  refine Met.ofW (cc := cX2_appendBig) (maxL := 4) (ret := none) (by decide) rfl ?_
  intro p e s m args below meth c s₁ B hml hv
  obtain ⟨rfl, hsz, hP, hK, hD0, hN⟩ := hv
  subst hsz
  have C : CallFix p m c cX2_appendBig 4 s [.ref h_t, .int v0, .int v1].toArray wsX2_appendBig RX2 := ⟨B.exec, B.bytes, hml, findClass_of_methodNamed B.named, atoms_spec (ws := wsX2_appendBig) B.pre⟩
  have hl := lv_entry ([.ref h_t, .int v0, .int v1]) (n := 4) (Nat.le_of_ble_eq_true rfl)
  rw [lg_entry_eq]
  exact wX2_appendBig_0 (A := va_A (zwX2 cI h_t h_t_bytes t_size t_bytes) s.heap.size) C hN hK (fun q h => Or.inr h) (fun H locs pc ls d hP hD hS => zend_v C.1 C.2.1 B.returns B.notSynchronized d hP hD hS) hf hP hD0.self va_S.rf hl
def rmX2_appendDigits : Room := { frames := 1, cells := 0, slots := 0, locals := 21 }
theorem qX2_appendDigits_X2_append_19 {args : Array Value} {s : State} (hts : ∀ w ∈ wsX2_appendDigits, w.before args s = true) : CallW rmX2_appendDigits s args RX2 RX2 19 yX2_append cX2_append 2 (some .boolean) wsX2_append rmX2_append 0 0 1 := cwV 1 hts gX2_appendDigits_X2_append rfl rfl rfl (by decide +kernel) ⟨Nat.le_of_ble_eq_true rfl, Nat.le_of_ble_eq_true rfl⟩
set_option maxHeartbeats 4000000 in
set_option maxRecDepth 100000 in
theorem wX2_appendDigits_42 {p : Program} {l : Launch} {e : Env} {s : State} {m : MethodId} {args : Array Value} {below : List Frame} {meth : Method} {c : Code} {D : va_G} {A : Nat → Prop} {Q : State → Prop} {cI : ClassId} {h_t h_t_bytes : Nat} {zt_size : Int32} {zt_bytes : Nat → Int32} (C : CallFix p m c cX2_appendDigits 2 s args wsX2_appendDigits RX2) (hN : zN s) (hK : va_K D vwCl [(cI, .int)] s) (hA : ∀ q, s.heap.size ≤ q → A q) (hE : zEv p l e rmX2_appendDigits s m args below meth c cX2_appendDigits D A Q (zwX2 cI h_t h_t_bytes zt_size zt_bytes)) {t_size : Int32} {t_bytes : Nat → Int32} {l1 : Int32} {H : Heap} {locs : List Loc} {ls : Array Slot} : fX2_appendDigits_42 t_size t_bytes l1 = some (zt_size, zt_bytes) → va_P D vwCl (zwX2 cI h_t h_t_bytes t_size t_bytes) H → va_D A (zwX2 cI h_t h_t_bytes t_size t_bytes) → va_S A s.heap H locs → lv_has ls 2 [(0, .ref h_t), (1, .int l1)] → W p l e rmX2_appendDigits s m args below meth c H locs 0 0 Q (F0 m 42 ls []) := by
  intro hf hP hD hS hl
  obtain ⟨hx, hb, hml, hown, hts⟩ := id C
  unfold fX2_appendDigits_42 at hf
  refine lv_aload_n hx hb dX2_appendDigits_42 rfl (lv_at hl 0 rfl) ?_
  refine lv_bipush (v := 48) hx hb dX2_appendDigits_43 (by decide) ?_
  refine lv_iload_n hx hb dX2_appendDigits_45 rfl (lv_at hl 1 rfl) ?_
  refine lv_bipush (v := 10) hx hb dX2_appendDigits_46 (by decide) ?_
  refine lv_irem hx hb dX2_appendDigits_48 (by decide) ?_
  refine lv_iadd hx hb dX2_appendDigits_49 ?_
  obtain ⟨r1, u2, u3, hc4, hf⟩ := zb3_in hf
  refine zc_i (va_runV (As := [.int (48 + (zrem l1 10))]) (rest := []) C (mX2_append l D cI H.size h_t h_t_bytes t_size t_bytes (48 + (zrem l1 10)) r1 u2 u3 hc4) (qX2_appendDigits_X2_append_19 hts) ⟨zP_blind, va_recv hK hP (ci := 2) (q0 := 0) rfl rfl, zpre hK hN hP hD [0, 1] rfl rfl⟩ rfl rfl hl.1 rfl (lv_room (Nat.le_of_ble_eq_true rfl)) dX2_appendDigits_50 ⟨Nat.zero_le _, Nat.zero_le _⟩) hP hD hS hA [0, 1] [] [0, 1] (ws' := zwX2 cI h_t h_t_bytes u2 u3) rfl rfl rfl rfl rfl rfl (fun H locs hP hD hS => ?_)
  refine lv_pop hx hb dX2_appendDigits_53 rfl ?_
  cases hf
  exact hE _ _ _ _ dX2_appendDigits_54 hP hD hS
set_option maxHeartbeats 4000000 in
set_option maxRecDepth 100000 in
theorem wX2_appendDigits_21 {p : Program} {l : Launch} {e : Env} {s : State} {m : MethodId} {args : Array Value} {below : List Frame} {meth : Method} {c : Code} {D : va_G} {A : Nat → Prop} {Q : State → Prop} {cI : ClassId} {h_t h_t_bytes : Nat} {zt_size : Int32} {zt_bytes : Nat → Int32} (C : CallFix p m c cX2_appendDigits 2 s args wsX2_appendDigits RX2) (hN : zN s) (hK : va_K D vwCl [(cI, .int)] s) (hA : ∀ q, s.heap.size ≤ q → A q) (hE : zEv p l e rmX2_appendDigits s m args below meth c cX2_appendDigits D A Q (zwX2 cI h_t h_t_bytes zt_size zt_bytes)) {t_size : Int32} {t_bytes : Nat → Int32} {l1 : Int32} {H : Heap} {locs : List Loc} {ls : Array Slot} : fX2_appendDigits_21 t_size t_bytes l1 = some (zt_size, zt_bytes) → va_P D vwCl (zwX2 cI h_t h_t_bytes t_size t_bytes) H → va_D A (zwX2 cI h_t h_t_bytes t_size t_bytes) → va_S A s.heap H locs → lv_has ls 2 [(0, .ref h_t), (1, .int l1)] → W p l e rmX2_appendDigits s m args below meth c H locs 0 0 Q (F0 m 21 ls []) := by
  intro hf hP hD hS hl
  obtain ⟨hx, hb, hml, hown, hts⟩ := id C
  unfold fX2_appendDigits_21 at hf
  refine lv_iload_n hx hb dX2_appendDigits_21 rfl (lv_at hl 1 rfl) ?_
  refine lv_bipush (v := 10) hx hb dX2_appendDigits_22 (by decide) ?_
  refine lv_icmp_lt (tgt := 42) hx hb dX2_appendDigits_24 (by decide) (fun c1 => ?_) (fun c1 => ?_)
  · replace hf := zif_t hf c1
    exact wX2_appendDigits_42 C hN hK hA hE hf hP hD hS (lv_sub hl [0, 1] rfl)
  · replace hf := zif_f hf c1
    refine lv_aload_n hx hb dX2_appendDigits_27 rfl (lv_at hl 0 rfl) ?_
    refine lv_bipush (v := 48) hx hb dX2_appendDigits_28 (by decide) ?_
    refine lv_iload_n hx hb dX2_appendDigits_30 rfl (lv_at hl 1 rfl) ?_
    refine lv_bipush (v := 10) hx hb dX2_appendDigits_31 (by decide) ?_
    refine lv_idiv hx hb dX2_appendDigits_33 (by decide) ?_
    refine lv_bipush (v := 10) hx hb dX2_appendDigits_34 (by decide) ?_
    refine lv_irem hx hb dX2_appendDigits_36 (by decide) ?_
    refine lv_iadd hx hb dX2_appendDigits_37 ?_
    obtain ⟨r2, u3, u4, hc5, hf⟩ := zb3_in hf
    refine zc_i (va_runV (As := [.int (48 + (zrem (l1 / 10) 10))]) (rest := []) C (mX2_append l D cI H.size h_t h_t_bytes t_size t_bytes (48 + (zrem (l1 / 10) 10)) r2 u3 u4 hc5) (qX2_appendDigits_X2_append_19 hts) ⟨zP_blind, va_recv hK hP (ci := 2) (q0 := 0) rfl rfl, zpre hK hN hP hD [0, 1] rfl rfl⟩ rfl rfl hl.1 rfl (lv_room (Nat.le_of_ble_eq_true rfl)) dX2_appendDigits_38 ⟨Nat.zero_le _, Nat.zero_le _⟩) hP hD hS hA [0, 1] [] [0, 1] (ws' := zwX2 cI h_t h_t_bytes u3 u4) rfl rfl rfl rfl rfl rfl (fun H locs hP hD hS => ?_)
    refine lv_pop hx hb dX2_appendDigits_41 rfl ?_
    exact wX2_appendDigits_42 C hN hK hA hE hf hP hD hS (lv_sub hl [0, 1] rfl)
set_option maxHeartbeats 4000000 in
set_option maxRecDepth 100000 in
theorem wX2_appendDigits_0 {p : Program} {l : Launch} {e : Env} {s : State} {m : MethodId} {args : Array Value} {below : List Frame} {meth : Method} {c : Code} {D : va_G} {A : Nat → Prop} {Q : State → Prop} {cI : ClassId} {h_t h_t_bytes : Nat} {zt_size : Int32} {zt_bytes : Nat → Int32} (C : CallFix p m c cX2_appendDigits 2 s args wsX2_appendDigits RX2) (hN : zN s) (hK : va_K D vwCl [(cI, .int)] s) (hA : ∀ q, s.heap.size ≤ q → A q) (hE : zEv p l e rmX2_appendDigits s m args below meth c cX2_appendDigits D A Q (zwX2 cI h_t h_t_bytes zt_size zt_bytes)) {t_size : Int32} {t_bytes : Nat → Int32} {v0 : Int32} {H : Heap} {locs : List Loc} {ls : Array Slot} : fX2_appendDigits t_size t_bytes v0 = some (zt_size, zt_bytes) → va_P D vwCl (zwX2 cI h_t h_t_bytes t_size t_bytes) H → va_D A (zwX2 cI h_t h_t_bytes t_size t_bytes) → va_S A s.heap H locs → lv_has ls 2 [(0, .ref h_t), (1, .int v0)] → W p l e rmX2_appendDigits s m args below meth c H locs 0 0 Q (F0 m 0 ls []) := by
  intro hf hP hD hS hl
  obtain ⟨hx, hb, hml, hown, hts⟩ := id C
  unfold fX2_appendDigits at hf
  refine lv_iload_n hx hb dX2_appendDigits_0 rfl (lv_at hl 1 rfl) ?_
  refine lv_bipush (v := 100) hx hb dX2_appendDigits_1 (by decide) ?_
  refine lv_icmp_lt (tgt := 21) hx hb dX2_appendDigits_3 (by decide) (fun c1 => ?_) (fun c1 => ?_)
  · replace hf := zif_t hf c1
    exact wX2_appendDigits_21 C hN hK hA hE hf hP hD hS (lv_sub hl [0, 1] rfl)
  · replace hf := zif_f hf c1
    refine lv_aload_n hx hb dX2_appendDigits_6 rfl (lv_at hl 0 rfl) ?_
    refine lv_bipush (v := 48) hx hb dX2_appendDigits_7 (by decide) ?_
    refine lv_iload_n hx hb dX2_appendDigits_9 rfl (lv_at hl 1 rfl) ?_
    refine lv_bipush (v := 100) hx hb dX2_appendDigits_10 (by decide) ?_
    refine lv_idiv hx hb dX2_appendDigits_12 (by decide) ?_
    refine lv_bipush (v := 10) hx hb dX2_appendDigits_13 (by decide) ?_
    refine lv_irem hx hb dX2_appendDigits_15 (by decide) ?_
    refine lv_iadd hx hb dX2_appendDigits_16 ?_
    obtain ⟨r2, u3, u4, hc5, hf⟩ := zb3_in hf
    refine zc_i (va_runV (As := [.int (48 + (zrem (v0 / 100) 10))]) (rest := []) C (mX2_append l D cI H.size h_t h_t_bytes t_size t_bytes (48 + (zrem (v0 / 100) 10)) r2 u3 u4 hc5) (qX2_appendDigits_X2_append_19 hts) ⟨zP_blind, va_recv hK hP (ci := 2) (q0 := 0) rfl rfl, zpre hK hN hP hD [0, 1] rfl rfl⟩ rfl rfl hl.1 rfl (lv_room (Nat.le_of_ble_eq_true rfl)) dX2_appendDigits_17 ⟨Nat.zero_le _, Nat.zero_le _⟩) hP hD hS hA [0, 1] [] [0, 1] (ws' := zwX2 cI h_t h_t_bytes u3 u4) rfl rfl rfl rfl rfl rfl (fun H locs hP hD hS => ?_)
    refine lv_pop hx hb dX2_appendDigits_20 rfl ?_
    exact wX2_appendDigits_21 C hN hK hA hE hf hP hD hS (lv_sub hl [0, 1] rfl)
set_option maxHeartbeats 4000000 in
set_option maxRecDepth 100000 in
theorem mX2_appendDigits (l : Launch) (D : va_G) (cI : ClassId) (sz : Nat) (h_t h_t_bytes : Nat) (t_size : Int32) (t_bytes : Nat → Int32) (v0 : Int32) (zt_size : Int32) (zt_bytes : Nat → Int32) (hf : fX2_appendDigits t_size t_bytes v0 = some (zt_size, zt_bytes)) : Met l yX2_appendDigits wsX2_appendDigits rmX2_appendDigits (va_Pc [.ref h_t, .int v0] (zP D [(cI, .int)] (zwX2 cI h_t h_t_bytes t_size t_bytes) sz)) (zQv D (zwX2 cI h_t h_t_bytes t_size t_bytes) sz (zwX2 cI h_t h_t_bytes zt_size zt_bytes)) 0 0 (va_A (zwX2 cI h_t h_t_bytes t_size t_bytes) sz) := by
  refine Met.ofW (cc := cX2_appendDigits) (maxL := 2) (ret := none) (by decide) rfl ?_
  intro p e s m args below meth c s₁ B hml hv
  obtain ⟨rfl, hsz, hP, hK, hD0, hN⟩ := hv
  subst hsz
  have C : CallFix p m c cX2_appendDigits 2 s [.ref h_t, .int v0].toArray wsX2_appendDigits RX2 := ⟨B.exec, B.bytes, hml, findClass_of_methodNamed B.named, atoms_spec (ws := wsX2_appendDigits) B.pre⟩
  have hl := lv_entry ([.ref h_t, .int v0]) (n := 2) (Nat.le_of_ble_eq_true rfl)
  rw [lg_entry_eq]
  exact wX2_appendDigits_0 (A := va_A (zwX2 cI h_t h_t_bytes t_size t_bytes) s.heap.size) C hN hK (fun q h => Or.inr h) (fun H locs pc ls d hP hD hS => zend_v C.1 C.2.1 B.returns B.notSynchronized d hP hD hS) hf hP hD0.self va_S.rf hl
def rmX2_appendBlueGreenRed : Room := { frames := 1, cells := 0, slots := 0, locals := 21 }
theorem qX2_appendBlueGreenRed_X2_append_19 {args : Array Value} {s : State} (hts : ∀ w ∈ wsX2_appendBlueGreenRed, w.before args s = true) : CallW rmX2_appendBlueGreenRed s args RX2 RX2 19 yX2_append cX2_append 2 (some .boolean) wsX2_append rmX2_append 0 0 1 := cwV 1 hts gX2_appendBlueGreenRed_X2_append rfl rfl rfl (by decide +kernel) ⟨Nat.le_of_ble_eq_true rfl, Nat.le_of_ble_eq_true rfl⟩
theorem qX2_appendBlueGreenRed_X8_blue_23 {args : Array Value} {s : State} (hts : ∀ w ∈ wsX2_appendBlueGreenRed, w.before args s = true) (hN : zN s) : va_CN rmX2_appendBlueGreenRed s args RX2 23 yX8_blue RX8 cX8_blue 1 (some .int) wsX8_blue rmX8_blue 0 0 1 ∧ (Cond.static yX8_blue).before args s = true ∧ True := ⟨va_cnB 1 hts gX2_appendBlueGreenRed_X8_blue_n23 rfl rfl rfl (hN.nw 39 rfl) (hts (.initialized RX8) (by decide +kernel)) (by decide +kernel) ⟨Nat.le_of_ble_eq_true rfl, Nat.le_of_ble_eq_true rfl⟩, hts (.static yX8_blue) (by decide +kernel), trivial⟩
theorem qX2_appendBlueGreenRed_X8_green_27 {args : Array Value} {s : State} (hts : ∀ w ∈ wsX2_appendBlueGreenRed, w.before args s = true) (hN : zN s) : va_CN rmX2_appendBlueGreenRed s args RX2 27 yX8_green RX8 cX8_green 1 (some .int) wsX8_green rmX8_green 0 0 1 ∧ (Cond.static yX8_green).before args s = true ∧ True := ⟨va_cnB 1 hts gX2_appendBlueGreenRed_X8_green_n27 rfl rfl rfl (hN.nw 40 rfl) (hts (.initialized RX8) (by decide +kernel)) (by decide +kernel) ⟨Nat.le_of_ble_eq_true rfl, Nat.le_of_ble_eq_true rfl⟩, hts (.static yX8_green) (by decide +kernel), trivial⟩
theorem qX2_appendBlueGreenRed_X8_red_30 {args : Array Value} {s : State} (hts : ∀ w ∈ wsX2_appendBlueGreenRed, w.before args s = true) (hN : zN s) : va_CN rmX2_appendBlueGreenRed s args RX2 30 yX8_red RX8 cX8_red 1 (some .int) wsX8_red rmX8_red 0 0 1 ∧ (Cond.static yX8_red).before args s = true ∧ True := ⟨va_cnB 1 hts gX2_appendBlueGreenRed_X8_red_n30 rfl rfl rfl (hN.nw 41 rfl) (hts (.initialized RX8) (by decide +kernel)) (by decide +kernel) ⟨Nat.le_of_ble_eq_true rfl, Nat.le_of_ble_eq_true rfl⟩, hts (.static yX8_red) (by decide +kernel), trivial⟩
set_option maxHeartbeats 4000000 in
set_option maxRecDepth 100000 in
theorem wX2_appendBlueGreenRed_0 {p : Program} {l : Launch} {e : Env} {s : State} {m : MethodId} {args : Array Value} {below : List Frame} {meth : Method} {c : Code} {D : va_G} {A : Nat → Prop} {Q : State → Prop} {cI : ClassId} {h_t h_t_bytes : Nat} {zt_size : Int32} {zt_bytes : Nat → Int32} (C : CallFix p m c cX2_appendBlueGreenRed 2 s args wsX2_appendBlueGreenRed RX2) (hN : zN s) (hK : va_K D vwCl [(cI, .int)] s) (hA : ∀ q, s.heap.size ≤ q → A q) (hE : zEv p l e rmX2_appendBlueGreenRed s m args below meth c cX2_appendBlueGreenRed D A Q (zwX2 cI h_t h_t_bytes zt_size zt_bytes)) {t_size : Int32} {t_bytes : Nat → Int32} {v0 : Int32} {H : Heap} {locs : List Loc} {ls : Array Slot} : fX2_appendBlueGreenRed t_size t_bytes v0 = some (zt_size, zt_bytes) → va_P D vwCl (zwX2 cI h_t h_t_bytes t_size t_bytes) H → va_D A (zwX2 cI h_t h_t_bytes t_size t_bytes) → va_S A s.heap H locs → lv_has ls 2 [(0, .ref h_t), (1, .int v0)] → W p l e rmX2_appendBlueGreenRed s m args below meth c H locs 0 0 Q (F0 m 0 ls []) := by
  intro hf hP hD hS hl
  obtain ⟨hx, hb, hml, hown, hts⟩ := id C
  unfold fX2_appendBlueGreenRed at hf
  refine lv_aload_n hx hb dX2_appendBlueGreenRed_0 rfl (lv_at hl 0 rfl) ?_
  refine lv_iload_n hx hb dX2_appendBlueGreenRed_1 rfl (lv_at hl 1 rfl) ?_
  obtain ⟨r1, hc2, hf⟩ := zb1_in hf
  refine zc_i (va_runSN (As := [.int v0]) (rest := [.ref h_t]) C (mX8_blue l D cI H.size v0 r1 hc2) (qX2_appendBlueGreenRed_X8_blue_23 hts hN) ⟨zP_blind, zpre hK hN hP hD [] rfl rfl⟩ rfl rfl hl.1 rfl (lv_room (Nat.le_of_ble_eq_true rfl)) dX2_appendBlueGreenRed_2 ⟨Nat.zero_le _, Nat.zero_le _⟩) hP hD hS hA [] [0, 1] [0, 1] (ws' := zwX2 cI h_t h_t_bytes t_size t_bytes) rfl rfl rfl rfl rfl rfl (fun H locs hP hD hS => ?_)
  obtain ⟨r3, u4, u5, hc6, hf⟩ := zb3_in hf
  refine zc_i (va_runV (As := [.int r1]) (rest := []) C (mX2_append l D cI H.size h_t h_t_bytes t_size t_bytes r1 r3 u4 u5 hc6) (qX2_appendBlueGreenRed_X2_append_19 hts) ⟨zP_blind, va_recv hK hP (ci := 2) (q0 := 0) rfl rfl, zpre hK hN hP hD [0, 1] rfl rfl⟩ rfl rfl hl.1 rfl (lv_room (Nat.le_of_ble_eq_true rfl)) dX2_appendBlueGreenRed_5 ⟨Nat.zero_le _, Nat.zero_le _⟩) hP hD hS hA [0, 1] [] [0, 1] (ws' := zwX2 cI h_t h_t_bytes u4 u5) rfl rfl rfl rfl rfl rfl (fun H locs hP hD hS => ?_)
  refine lv_pop hx hb dX2_appendBlueGreenRed_8 rfl ?_
  refine lv_aload_n hx hb dX2_appendBlueGreenRed_9 rfl (lv_at hl 0 rfl) ?_
  refine lv_iload_n hx hb dX2_appendBlueGreenRed_10 rfl (lv_at hl 1 rfl) ?_
  obtain ⟨r7, hc8, hf⟩ := zb1_in hf
  refine zc_i (va_runSN (As := [.int v0]) (rest := [.ref h_t]) C (mX8_green l D cI H.size v0 r7 hc8) (qX2_appendBlueGreenRed_X8_green_27 hts hN) ⟨zP_blind, zpre hK hN hP hD [] rfl rfl⟩ rfl rfl hl.1 rfl (lv_room (Nat.le_of_ble_eq_true rfl)) dX2_appendBlueGreenRed_11 ⟨Nat.zero_le _, Nat.zero_le _⟩) hP hD hS hA [] [0, 1] [0, 1] (ws' := zwX2 cI h_t h_t_bytes u4 u5) rfl rfl rfl rfl rfl rfl (fun H locs hP hD hS => ?_)
  obtain ⟨r9, u10, u11, hc12, hf⟩ := zb3_in hf
  refine zc_i (va_runV (As := [.int r7]) (rest := []) C (mX2_append l D cI H.size h_t h_t_bytes u4 u5 r7 r9 u10 u11 hc12) (qX2_appendBlueGreenRed_X2_append_19 hts) ⟨zP_blind, va_recv hK hP (ci := 2) (q0 := 0) rfl rfl, zpre hK hN hP hD [0, 1] rfl rfl⟩ rfl rfl hl.1 rfl (lv_room (Nat.le_of_ble_eq_true rfl)) dX2_appendBlueGreenRed_14 ⟨Nat.zero_le _, Nat.zero_le _⟩) hP hD hS hA [0, 1] [] [0, 1] (ws' := zwX2 cI h_t h_t_bytes u10 u11) rfl rfl rfl rfl rfl rfl (fun H locs hP hD hS => ?_)
  refine lv_pop hx hb dX2_appendBlueGreenRed_17 rfl ?_
  refine lv_aload_n hx hb dX2_appendBlueGreenRed_18 rfl (lv_at hl 0 rfl) ?_
  refine lv_iload_n hx hb dX2_appendBlueGreenRed_19 rfl (lv_at hl 1 rfl) ?_
  obtain ⟨r13, hc14, hf⟩ := zb1_in hf
  refine zc_i (va_runSN (As := [.int v0]) (rest := [.ref h_t]) C (mX8_red l D cI H.size v0 r13 hc14) (qX2_appendBlueGreenRed_X8_red_30 hts hN) ⟨zP_blind, zpre hK hN hP hD [] rfl rfl⟩ rfl rfl hl.1 rfl (lv_room (Nat.le_of_ble_eq_true rfl)) dX2_appendBlueGreenRed_20 ⟨Nat.zero_le _, Nat.zero_le _⟩) hP hD hS hA [] [0, 1] [0, 1] (ws' := zwX2 cI h_t h_t_bytes u10 u11) rfl rfl rfl rfl rfl rfl (fun H locs hP hD hS => ?_)
  obtain ⟨r15, u16, u17, hc18, hf⟩ := zb3_in hf
  refine zc_i (va_runV (As := [.int r13]) (rest := []) C (mX2_append l D cI H.size h_t h_t_bytes u10 u11 r13 r15 u16 u17 hc18) (qX2_appendBlueGreenRed_X2_append_19 hts) ⟨zP_blind, va_recv hK hP (ci := 2) (q0 := 0) rfl rfl, zpre hK hN hP hD [0, 1] rfl rfl⟩ rfl rfl hl.1 rfl (lv_room (Nat.le_of_ble_eq_true rfl)) dX2_appendBlueGreenRed_23 ⟨Nat.zero_le _, Nat.zero_le _⟩) hP hD hS hA [0, 1] [] [0, 1] (ws' := zwX2 cI h_t h_t_bytes u16 u17) rfl rfl rfl rfl rfl rfl (fun H locs hP hD hS => ?_)
  refine lv_pop hx hb dX2_appendBlueGreenRed_26 rfl ?_
  cases hf
  exact hE _ _ _ _ dX2_appendBlueGreenRed_27 hP hD hS
set_option maxHeartbeats 4000000 in
set_option maxRecDepth 100000 in
theorem mX2_appendBlueGreenRed (l : Launch) (D : va_G) (cI : ClassId) (sz : Nat) (h_t h_t_bytes : Nat) (t_size : Int32) (t_bytes : Nat → Int32) (v0 : Int32) (zt_size : Int32) (zt_bytes : Nat → Int32) (hf : fX2_appendBlueGreenRed t_size t_bytes v0 = some (zt_size, zt_bytes)) : Met l yX2_appendBlueGreenRed wsX2_appendBlueGreenRed rmX2_appendBlueGreenRed (va_Pc [.ref h_t, .int v0] (zP D [(cI, .int)] (zwX2 cI h_t h_t_bytes t_size t_bytes) sz)) (zQv D (zwX2 cI h_t h_t_bytes t_size t_bytes) sz (zwX2 cI h_t h_t_bytes zt_size zt_bytes)) 0 0 (va_A (zwX2 cI h_t h_t_bytes t_size t_bytes) sz) := by
  refine Met.ofW (cc := cX2_appendBlueGreenRed) (maxL := 2) (ret := none) (by decide) rfl ?_
  intro p e s m args below meth c s₁ B hml hv
  obtain ⟨rfl, hsz, hP, hK, hD0, hN⟩ := hv
  subst hsz
  have C : CallFix p m c cX2_appendBlueGreenRed 2 s [.ref h_t, .int v0].toArray wsX2_appendBlueGreenRed RX2 := ⟨B.exec, B.bytes, hml, findClass_of_methodNamed B.named, atoms_spec (ws := wsX2_appendBlueGreenRed) B.pre⟩
  have hl := lv_entry ([.ref h_t, .int v0]) (n := 2) (Nat.le_of_ble_eq_true rfl)
  rw [lg_entry_eq]
  exact wX2_appendBlueGreenRed_0 (A := va_A (zwX2 cI h_t h_t_bytes t_size t_bytes) s.heap.size) C hN hK (fun q h => Or.inr h) (fun H locs pc ls d hP hD hS => zend_v C.1 C.2.1 B.returns B.notSynchronized d hP hD hS) hf hP hD0.self va_S.rf hl
