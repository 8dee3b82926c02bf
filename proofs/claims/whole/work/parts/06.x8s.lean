def fX8_red (v0 : Int32) : Option (Int32) :=
  some (zushr v0 24)
def fX8_green (v0 : Int32) : Option (Int32) :=
  some ((zushr v0 16) &&& 255)
def fX8_blue (v0 : Int32) : Option (Int32) :=
  some ((zushr v0 8) &&& 255)
def fX8_alpha (v0 : Int32) : Option (Int32) :=
  some (v0 &&& 255)
def fX8_colour (v0 : Int32) (v1 : Int32) (v2 : Int32) (v3 : Int32) : Option (Int32) :=
  some ((((zshl v0 24) ||| (zshl v1 16)) ||| (zshl v2 8)) ||| v3)
def fX8_opaque (v0 : Int32) (v1 : Int32) (v2 : Int32) : Option (Int32) :=
  zb1 (fX8_colour v0 v1 v2 255) fun r1 =>
  some r1
def fX8_isSide (v0 : Int32) : Option (Int32) :=
  if v0 < 1 then
    some 0
  else
    if 8 < v0 then
      some 0
    else
      some 1
def fX8_isByte (v0 : Int32) : Option (Int32) :=
  if v0 < 0 then
    some 0
  else
    if 255 < v0 then
      some 0
    else
      some 1
def fJ7_fill_53178_5 : Nat → (Nat → Int32) → Int32 → Int32 → Int32 → Option ((Nat → Int32))
  | 0, _, _, _, _ => none
  | n + 1, a0, l1, l2, l3 =>
    if l3 ≤ l2 then
      some a0
    else
      zwr a0 64 l2 l1 fun g2 =>
      zlet (l2 + 1) fun x4 =>
      (fJ7_fill_53178_5 n) g2 l1 x4 l3
theorem fJ7_fill_53178_5_s (n : Nat) (a0 : Nat → Int32) (l1 : Int32) (l2 : Int32) (l3 : Int32) : fJ7_fill_53178_5 (n + 1) a0 l1 l2 l3 =
    if l3 ≤ l2 then
      some a0
    else
      zwr a0 64 l2 l1 fun g2 =>
      zlet (l2 + 1) fun x4 =>
      (fJ7_fill_53178_5 n) g2 l1 x4 l3 := rfl
def fJ7_fill_53178 (a0 : Nat → Int32) (v1 : Int32) : Option ((Nat → Int32)) :=
  fJ7_fill_53178_5 1000 a0 v1 0 64
def rmX8_red : Room := { frames := 0, cells := 0, slots := 0, locals := 0 }
set_option maxHeartbeats 4000000 in
set_option maxRecDepth 100000 in
theorem wX8_red_0 {p : Program} {l : Launch} {e : Env} {s : State} {m : MethodId} {args : Array Value} {below : List Frame} {meth : Method} {c : Code} {D : va_G} {A : Nat → Prop} {Q : State → Prop} {cI : ClassId} {r0 : Int32} (C : CallFix p m c cX8_red 1 s args wsX8_red RX8) (hN : zN s) (hK : va_K D vwCl [(cI, .int)] s) (hA : ∀ q, s.heap.size ≤ q → A q) (hE : zEi p l e rmX8_red s m args below meth c cX8_red D A Q (([] : va_W)) r0) {v0 : Int32} {H : Heap} {locs : List Loc} {ls : Array Slot} : fX8_red v0 = some r0 → va_P D vwCl (([] : va_W)) H → va_D A (([] : va_W)) → va_S A s.heap H locs → lv_has ls 1 [(0, .int v0)] → W p l e rmX8_red s m args below meth c H locs 0 0 Q (F0 m 0 ls []) := by
  intro hf hP hD hS hl
  obtain ⟨hx, hb, hml, hown, hts⟩ := id C
  unfold fX8_red at hf
  refine lv_iload_n hx hb dX8_red_0 rfl (lv_at hl 0 rfl) ?_
  refine lv_bipush (v := 24) hx hb dX8_red_1 (by decide) ?_
  refine lv_iushr (v := zushr v0 24) hx hb dX8_red_3 rfl ?_
  cases hf
  exact hE _ _ _ _ dX8_red_4 hP hD hS
set_option maxHeartbeats 4000000 in
set_option maxRecDepth 100000 in
theorem mX8_red (l : Launch) (D : va_G) (cI : ClassId) (sz : Nat) (v0 : Int32) (r0 : Int32) (hf : fX8_red v0 = some r0) : Met l yX8_red wsX8_red rmX8_red (va_Pc [.int v0] (zP D [(cI, .int)] (([] : va_W)) sz)) (zQi D (([] : va_W)) sz r0 (([] : va_W))) 0 0 (va_A (([] : va_W)) sz) := by
  refine Met.ofW (cc := cX8_red) (maxL := 1) (ret := (some .int)) (by decide) rfl ?_
  intro p e s m args below meth c s₁ B hml hv
  obtain ⟨rfl, hsz, hP, hK, hD0, hN⟩ := hv
  subst hsz
  have C : CallFix p m c cX8_red 1 s [.int v0].toArray wsX8_red RX8 := ⟨B.exec, B.bytes, hml, findClass_of_methodNamed B.named, atoms_spec (ws := wsX8_red) B.pre⟩
  have hl := lv_entry ([.int v0]) (n := 1) (Nat.le_of_ble_eq_true rfl)
  rw [lg_entry_eq]
  exact wX8_red_0 (A := va_A (([] : va_W)) s.heap.size) C hN hK (fun q h => Or.inr h) (fun H locs pc ls d hP hD hS => zend_i C.1 C.2.1 B.returns B.notSynchronized d hP hD hS) hf hP hD0.self va_S.rf hl
def rmX8_green : Room := { frames := 0, cells := 0, slots := 0, locals := 0 }
set_option maxHeartbeats 4000000 in
set_option maxRecDepth 100000 in
theorem wX8_green_0 {p : Program} {l : Launch} {e : Env} {s : State} {m : MethodId} {args : Array Value} {below : List Frame} {meth : Method} {c : Code} {D : va_G} {A : Nat → Prop} {Q : State → Prop} {cI : ClassId} {r0 : Int32} (C : CallFix p m c cX8_green 1 s args wsX8_green RX8) (hN : zN s) (hK : va_K D vwCl [(cI, .int)] s) (hA : ∀ q, s.heap.size ≤ q → A q) (hE : zEi p l e rmX8_green s m args below meth c cX8_green D A Q (([] : va_W)) r0) {v0 : Int32} {H : Heap} {locs : List Loc} {ls : Array Slot} : fX8_green v0 = some r0 → va_P D vwCl (([] : va_W)) H → va_D A (([] : va_W)) → va_S A s.heap H locs → lv_has ls 1 [(0, .int v0)] → W p l e rmX8_green s m args below meth c H locs 0 0 Q (F0 m 0 ls []) := by
  intro hf hP hD hS hl
  obtain ⟨hx, hb, hml, hown, hts⟩ := id C
  unfold fX8_green at hf
  refine lv_iload_n hx hb dX8_green_0 rfl (lv_at hl 0 rfl) ?_
  refine lv_bipush (v := 16) hx hb dX8_green_1 (by decide) ?_
  refine lv_iushr (v := zushr v0 16) hx hb dX8_green_3 rfl ?_
  refine lv_sipush (v := 255) hx hb dX8_green_4 (by decide) ?_
  refine lv_iand hx hb dX8_green_7 ?_
  cases hf
  exact hE _ _ _ _ dX8_green_8 hP hD hS
set_option maxHeartbeats 4000000 in
set_option maxRecDepth 100000 in
theorem mX8_green (l : Launch) (D : va_G) (cI : ClassId) (sz : Nat) (v0 : Int32) (r0 : Int32) (hf : fX8_green v0 = some r0) : Met l yX8_green wsX8_green rmX8_green (va_Pc [.int v0] (zP D [(cI, .int)] (([] : va_W)) sz)) (zQi D (([] : va_W)) sz r0 (([] : va_W))) 0 0 (va_A (([] : va_W)) sz) := by
  refine Met.ofW (cc := cX8_green) (maxL := 1) (ret := (some .int)) (by decide) rfl ?_
  intro p e s m args below meth c s₁ B hml hv
  obtain ⟨rfl, hsz, hP, hK, hD0, hN⟩ := hv
  subst hsz
  have C : CallFix p m c cX8_green 1 s [.int v0].toArray wsX8_green RX8 := ⟨B.exec, B.bytes, hml, findClass_of_methodNamed B.named, atoms_spec (ws := wsX8_green) B.pre⟩
  have hl := lv_entry ([.int v0]) (n := 1) (Nat.le_of_ble_eq_true rfl)
  rw [lg_entry_eq]
  exact wX8_green_0 (A := va_A (([] : va_W)) s.heap.size) C hN hK (fun q h => Or.inr h) (fun H locs pc ls d hP hD hS => zend_i C.1 C.2.1 B.returns B.notSynchronized d hP hD hS) hf hP hD0.self va_S.rf hl
def rmX8_blue : Room := { frames := 0, cells := 0, slots := 0, locals := 0 }
set_option maxHeartbeats 4000000 in
set_option maxRecDepth 100000 in
theorem wX8_blue_0 {p : Program} {l : Launch} {e : Env} {s : State} {m : MethodId} {args : Array Value} {below : List Frame} {meth : Method} {c : Code} {D : va_G} {A : Nat → Prop} {Q : State → Prop} {cI : ClassId} {r0 : Int32} (C : CallFix p m c cX8_blue 1 s args wsX8_blue RX8) (hN : zN s) (hK : va_K D vwCl [(cI, .int)] s) (hA : ∀ q, s.heap.size ≤ q → A q) (hE : zEi p l e rmX8_blue s m args below meth c cX8_blue D A Q (([] : va_W)) r0) {v0 : Int32} {H : Heap} {locs : List Loc} {ls : Array Slot} : fX8_blue v0 = some r0 → va_P D vwCl (([] : va_W)) H → va_D A (([] : va_W)) → va_S A s.heap H locs → lv_has ls 1 [(0, .int v0)] → W p l e rmX8_blue s m args below meth c H locs 0 0 Q (F0 m 0 ls []) := by
  intro hf hP hD hS hl
  obtain ⟨hx, hb, hml, hown, hts⟩ := id C
  unfold fX8_blue at hf
  refine lv_iload_n hx hb dX8_blue_0 rfl (lv_at hl 0 rfl) ?_
  refine lv_bipush (v := 8) hx hb dX8_blue_1 (by decide) ?_
  refine lv_iushr (v := zushr v0 8) hx hb dX8_blue_3 rfl ?_
  refine lv_sipush (v := 255) hx hb dX8_blue_4 (by decide) ?_
  refine lv_iand hx hb dX8_blue_7 ?_
  cases hf
  exact hE _ _ _ _ dX8_blue_8 hP hD hS
set_option maxHeartbeats 4000000 in
set_option maxRecDepth 100000 in
theorem mX8_blue (l : Launch) (D : va_G) (cI : ClassId) (sz : Nat) (v0 : Int32) (r0 : Int32) (hf : fX8_blue v0 = some r0) : Met l yX8_blue wsX8_blue rmX8_blue (va_Pc [.int v0] (zP D [(cI, .int)] (([] : va_W)) sz)) (zQi D (([] : va_W)) sz r0 (([] : va_W))) 0 0 (va_A (([] : va_W)) sz) := by
  refine Met.ofW (cc := cX8_blue) (maxL := 1) (ret := (some .int)) (by decide) rfl ?_
  intro p e s m args below meth c s₁ B hml hv
  obtain ⟨rfl, hsz, hP, hK, hD0, hN⟩ := hv
  subst hsz
  have C : CallFix p m c cX8_blue 1 s [.int v0].toArray wsX8_blue RX8 := ⟨B.exec, B.bytes, hml, findClass_of_methodNamed B.named, atoms_spec (ws := wsX8_blue) B.pre⟩
  have hl := lv_entry ([.int v0]) (n := 1) (Nat.le_of_ble_eq_true rfl)
  rw [lg_entry_eq]
  exact wX8_blue_0 (A := va_A (([] : va_W)) s.heap.size) C hN hK (fun q h => Or.inr h) (fun H locs pc ls d hP hD hS => zend_i C.1 C.2.1 B.returns B.notSynchronized d hP hD hS) hf hP hD0.self va_S.rf hl
def rmX8_alpha : Room := { frames := 0, cells := 0, slots := 0, locals := 0 }
set_option maxHeartbeats 4000000 in
set_option maxRecDepth 100000 in
theorem wX8_alpha_0 {p : Program} {l : Launch} {e : Env} {s : State} {m : MethodId} {args : Array Value} {below : List Frame} {meth : Method} {c : Code} {D : va_G} {A : Nat → Prop} {Q : State → Prop} {cI : ClassId} {r0 : Int32} (C : CallFix p m c cX8_alpha 1 s args wsX8_alpha RX8) (hN : zN s) (hK : va_K D vwCl [(cI, .int)] s) (hA : ∀ q, s.heap.size ≤ q → A q) (hE : zEi p l e rmX8_alpha s m args below meth c cX8_alpha D A Q (([] : va_W)) r0) {v0 : Int32} {H : Heap} {locs : List Loc} {ls : Array Slot} : fX8_alpha v0 = some r0 → va_P D vwCl (([] : va_W)) H → va_D A (([] : va_W)) → va_S A s.heap H locs → lv_has ls 1 [(0, .int v0)] → W p l e rmX8_alpha s m args below meth c H locs 0 0 Q (F0 m 0 ls []) := by
  intro hf hP hD hS hl
  obtain ⟨hx, hb, hml, hown, hts⟩ := id C
  unfold fX8_alpha at hf
  refine lv_iload_n hx hb dX8_alpha_0 rfl (lv_at hl 0 rfl) ?_
  refine lv_sipush (v := 255) hx hb dX8_alpha_1 (by decide) ?_
  refine lv_iand hx hb dX8_alpha_4 ?_
  cases hf
  exact hE _ _ _ _ dX8_alpha_5 hP hD hS
set_option maxHeartbeats 4000000 in
set_option maxRecDepth 100000 in
theorem mX8_alpha (l : Launch) (D : va_G) (cI : ClassId) (sz : Nat) (v0 : Int32) (r0 : Int32) (hf : fX8_alpha v0 = some r0) : Met l yX8_alpha wsX8_alpha rmX8_alpha (va_Pc [.int v0] (zP D [(cI, .int)] (([] : va_W)) sz)) (zQi D (([] : va_W)) sz r0 (([] : va_W))) 0 0 (va_A (([] : va_W)) sz) := by
  refine Met.ofW (cc := cX8_alpha) (maxL := 1) (ret := (some .int)) (by decide) rfl ?_
  intro p e s m args below meth c s₁ B hml hv
  obtain ⟨rfl, hsz, hP, hK, hD0, hN⟩ := hv
  subst hsz
  have C : CallFix p m c cX8_alpha 1 s [.int v0].toArray wsX8_alpha RX8 := ⟨B.exec, B.bytes, hml, findClass_of_methodNamed B.named, atoms_spec (ws := wsX8_alpha) B.pre⟩
  have hl := lv_entry ([.int v0]) (n := 1) (Nat.le_of_ble_eq_true rfl)
  rw [lg_entry_eq]
  exact wX8_alpha_0 (A := va_A (([] : va_W)) s.heap.size) C hN hK (fun q h => Or.inr h) (fun H locs pc ls d hP hD hS => zend_i C.1 C.2.1 B.returns B.notSynchronized d hP hD hS) hf hP hD0.self va_S.rf hl
def rmX8_colour : Room := { frames := 0, cells := 0, slots := 0, locals := 0 }
set_option maxHeartbeats 4000000 in
set_option maxRecDepth 100000 in
theorem wX8_colour_0 {p : Program} {l : Launch} {e : Env} {s : State} {m : MethodId} {args : Array Value} {below : List Frame} {meth : Method} {c : Code} {D : va_G} {A : Nat → Prop} {Q : State → Prop} {cI : ClassId} {r0 : Int32} (C : CallFix p m c cX8_colour 4 s args wsX8_colour RX8) (hN : zN s) (hK : va_K D vwCl [(cI, .int)] s) (hA : ∀ q, s.heap.size ≤ q → A q) (hE : zEi p l e rmX8_colour s m args below meth c cX8_colour D A Q (([] : va_W)) r0) {v0 : Int32} {v1 : Int32} {v2 : Int32} {v3 : Int32} {H : Heap} {locs : List Loc} {ls : Array Slot} : fX8_colour v0 v1 v2 v3 = some r0 → va_P D vwCl (([] : va_W)) H → va_D A (([] : va_W)) → va_S A s.heap H locs → lv_has ls 4 [(0, .int v0), (1, .int v1), (2, .int v2), (3, .int v3)] → W p l e rmX8_colour s m args below meth c H locs 0 0 Q (F0 m 0 ls []) := by
  intro hf hP hD hS hl
  obtain ⟨hx, hb, hml, hown, hts⟩ := id C
  unfold fX8_colour at hf
  refine lv_iload_n hx hb dX8_colour_0 rfl (lv_at hl 0 rfl) ?_
  refine lv_bipush (v := 24) hx hb dX8_colour_1 (by decide) ?_
  refine lv_ishl hx hb dX8_colour_3 ?_
  refine lv_iload_n hx hb dX8_colour_4 rfl (lv_at hl 1 rfl) ?_
  refine lv_bipush (v := 16) hx hb dX8_colour_5 (by decide) ?_
  refine lv_ishl hx hb dX8_colour_7 ?_
  refine lv_ior hx hb dX8_colour_8 ?_
  refine lv_iload_n hx hb dX8_colour_9 rfl (lv_at hl 2 rfl) ?_
  refine lv_bipush (v := 8) hx hb dX8_colour_10 (by decide) ?_
  refine lv_ishl hx hb dX8_colour_12 ?_
  refine lv_ior hx hb dX8_colour_13 ?_
  refine lv_iload_n hx hb dX8_colour_14 rfl (lv_at hl 3 rfl) ?_
  refine lv_ior hx hb dX8_colour_15 ?_
  cases hf
  exact hE _ _ _ _ dX8_colour_16 hP hD hS
set_option maxHeartbeats 4000000 in
set_option maxRecDepth 100000 in
theorem mX8_colour (l : Launch) (D : va_G) (cI : ClassId) (sz : Nat) (v0 v1 v2 v3 : Int32) (r0 : Int32) (hf : fX8_colour v0 v1 v2 v3 = some r0) : Met l yX8_colour wsX8_colour rmX8_colour (va_Pc [.int v0, .int v1, .int v2, .int v3] (zP D [(cI, .int)] (([] : va_W)) sz)) (zQi D (([] : va_W)) sz r0 (([] : va_W))) 0 0 (va_A (([] : va_W)) sz) := by
  refine Met.ofW (cc := cX8_colour) (maxL := 4) (ret := (some .int)) (by decide) rfl ?_
  intro p e s m args below meth c s₁ B hml hv
  obtain ⟨rfl, hsz, hP, hK, hD0, hN⟩ := hv
  subst hsz
  have C : CallFix p m c cX8_colour 4 s [.int v0, .int v1, .int v2, .int v3].toArray wsX8_colour RX8 := ⟨B.exec, B.bytes, hml, findClass_of_methodNamed B.named, atoms_spec (ws := wsX8_colour) B.pre⟩
  have hl := lv_entry ([.int v0, .int v1, .int v2, .int v3]) (n := 4) (Nat.le_of_ble_eq_true rfl)
  rw [lg_entry_eq]
  exact wX8_colour_0 (A := va_A (([] : va_W)) s.heap.size) C hN hK (fun q h => Or.inr h) (fun H locs pc ls d hP hD hS => zend_i C.1 C.2.1 B.returns B.notSynchronized d hP hD hS) hf hP hD0.self va_S.rf hl
def rmX8_opaque : Room := { frames := 1, cells := 0, slots := 0, locals := 23 }
theorem qX8_opaque_X8_colour_142 {args : Array Value} {s : State} (hts : ∀ w ∈ wsX8_opaque, w.before args s = true) : CallB rmX8_opaque s args RX8 142 yX8_colour cX8_colour 4 (some .int) wsX8_colour rmX8_colour 0 0 4 ∧ (Cond.static yX8_colour).before args s = true := va_cwS 4 hts gX8_opaque_X8_colour rfl rfl rfl (by decide +kernel) ⟨Nat.le_of_ble_eq_true rfl, Nat.le_of_ble_eq_true rfl⟩
set_option maxHeartbeats 4000000 in
set_option maxRecDepth 100000 in
theorem wX8_opaque_0 {p : Program} {l : Launch} {e : Env} {s : State} {m : MethodId} {args : Array Value} {below : List Frame} {meth : Method} {c : Code} {D : va_G} {A : Nat → Prop} {Q : State → Prop} {cI : ClassId} {r0 : Int32} (C : CallFix p m c cX8_opaque 3 s args wsX8_opaque RX8) (hN : zN s) (hK : va_K D vwCl [(cI, .int)] s) (hA : ∀ q, s.heap.size ≤ q → A q) (hE : zEi p l e rmX8_opaque s m args below meth c cX8_opaque D A Q (([] : va_W)) r0) {v0 : Int32} {v1 : Int32} {v2 : Int32} {H : Heap} {locs : List Loc} {ls : Array Slot} : fX8_opaque v0 v1 v2 = some r0 → va_P D vwCl (([] : va_W)) H → va_D A (([] : va_W)) → va_S A s.heap H locs → lv_has ls 3 [(0, .int v0), (1, .int v1), (2, .int v2)] → W p l e rmX8_opaque s m args below meth c H locs 0 0 Q (F0 m 0 ls []) := by
  intro hf hP hD hS hl
  obtain ⟨hx, hb, hml, hown, hts⟩ := id C
  unfold fX8_opaque at hf
  refine lv_iload_n hx hb dX8_opaque_0 rfl (lv_at hl 0 rfl) ?_
  refine lv_iload_n hx hb dX8_opaque_1 rfl (lv_at hl 1 rfl) ?_
  refine lv_iload_n hx hb dX8_opaque_2 rfl (lv_at hl 2 rfl) ?_
  refine lv_sipush (v := 255) hx hb dX8_opaque_3 (by decide) ?_
  obtain ⟨r1, hc2, hf⟩ := zb1_in hf
  refine zc_i (va_runS (As := [.int v0, .int v1, .int v2, .int 255]) (rest := []) C (mX8_colour l D cI H.size v0 v1 v2 255 r1 hc2) (qX8_opaque_X8_colour_142 hts) ⟨zP_blind, zpre hK hN hP hD [] rfl rfl⟩ rfl rfl hl.1 rfl (lv_room (Nat.le_of_ble_eq_true rfl)) dX8_opaque_6 ⟨Nat.zero_le _, Nat.zero_le _⟩) hP hD hS hA [] [] [] (ws' := ([] : va_W)) rfl rfl rfl rfl rfl rfl (fun H locs hP hD hS => ?_)
  cases hf
  exact hE _ _ _ _ dX8_opaque_9 hP hD hS
set_option maxHeartbeats 4000000 in
set_option maxRecDepth 100000 in
theorem mX8_opaque (l : Launch) (D : va_G) (cI : ClassId) (sz : Nat) (v0 v1 v2 : Int32) (r0 : Int32) (hf : fX8_opaque v0 v1 v2 = some r0) : Met l yX8_opaque wsX8_opaque rmX8_opaque (va_Pc [.int v0, .int v1, .int v2] (zP D [(cI, .int)] (([] : va_W)) sz)) (zQi D (([] : va_W)) sz r0 (([] : va_W))) 0 0 (va_A (([] : va_W)) sz) := by
  refine Met.ofW (cc := cX8_opaque) (maxL := 3) (ret := (some .int)) (by decide) rfl ?_
  intro p e s m args below meth c s₁ B hml hv
  obtain ⟨rfl, hsz, hP, hK, hD0, hN⟩ := hv
  subst hsz
  have C : CallFix p m c cX8_opaque 3 s [.int v0, .int v1, .int v2].toArray wsX8_opaque RX8 := ⟨B.exec, B.bytes, hml, findClass_of_methodNamed B.named, atoms_spec (ws := wsX8_opaque) B.pre⟩
  have hl := lv_entry ([.int v0, .int v1, .int v2]) (n := 3) (Nat.le_of_ble_eq_true rfl)
  rw [lg_entry_eq]
  exact wX8_opaque_0 (A := va_A (([] : va_W)) s.heap.size) C hN hK (fun q h => Or.inr h) (fun H locs pc ls d hP hD hS => zend_i C.1 C.2.1 B.returns B.notSynchronized d hP hD hS) hf hP hD0.self va_S.rf hl
def rmX8_isSide : Room := { frames := 0, cells := 0, slots := 0, locals := 0 }
set_option maxHeartbeats 4000000 in
set_option maxRecDepth 100000 in
theorem wX8_isSide_0 {p : Program} {l : Launch} {e : Env} {s : State} {m : MethodId} {args : Array Value} {below : List Frame} {meth : Method} {c : Code} {D : va_G} {A : Nat → Prop} {Q : State → Prop} {cI : ClassId} {r0 : Int32} (C : CallFix p m c cX8_isSide 1 s args wsX8_isSide RX8) (hN : zN s) (hK : va_K D vwCl [(cI, .int)] s) (hA : ∀ q, s.heap.size ≤ q → A q) (hE : zEz p l e rmX8_isSide s m args below meth c cX8_isSide D A Q (([] : va_W)) r0) {v0 : Int32} {H : Heap} {locs : List Loc} {ls : Array Slot} : fX8_isSide v0 = some r0 → va_P D vwCl (([] : va_W)) H → va_D A (([] : va_W)) → va_S A s.heap H locs → lv_has ls 1 [(0, .int v0)] → W p l e rmX8_isSide s m args below meth c H locs 0 0 Q (F0 m 0 ls []) := by
  intro hf hP hD hS hl
  obtain ⟨hx, hb, hml, hown, hts⟩ := id C
  unfold fX8_isSide at hf
  refine lv_iload_n hx hb dX8_isSide_0 rfl (lv_at hl 0 rfl) ?_
  refine lv_iconst (v := 1) hx hb dX8_isSide_1 (by decide) ?_
  refine lv_icmp_lt (tgt := 15) hx hb dX8_isSide_2 (by decide) (fun c1 => ?_) (fun c1 => ?_)
  · replace hf := zif_t hf c1
    refine lv_iconst (v := 0) hx hb dX8_isSide_15 (by decide) ?_
    cases hf
    exact hE _ _ _ _ dX8_isSide_16 rfl hP hD hS
  · replace hf := zif_f hf c1
    refine lv_iload_n hx hb dX8_isSide_5 rfl (lv_at hl 0 rfl) ?_
    refine lv_bipush (v := 8) hx hb dX8_isSide_6 (by decide) ?_
    refine lv_icmp_gt (tgt := 15) hx hb dX8_isSide_8 (by decide) (fun c2 => ?_) (fun c2 => ?_)
    · replace hf := zif_t hf c2
      refine lv_iconst (v := 0) hx hb dX8_isSide_15 (by decide) ?_
      cases hf
      exact hE _ _ _ _ dX8_isSide_16 rfl hP hD hS
    · replace hf := zif_f hf c2
      refine lv_iconst (v := 1) hx hb dX8_isSide_11 (by decide) ?_
      refine lv_goto (tgt := 16) hx hb dX8_isSide_12 (by decide) ?_
      cases hf
      exact hE _ _ _ _ dX8_isSide_16 rfl hP hD hS
set_option maxHeartbeats 4000000 in
set_option maxRecDepth 100000 in
theorem mX8_isSide (l : Launch) (D : va_G) (cI : ClassId) (sz : Nat) (v0 : Int32) (r0 : Int32) (hf : fX8_isSide v0 = some r0) : Met l yX8_isSide wsX8_isSide rmX8_isSide (va_Pc [.int v0] (zP D [(cI, .int)] (([] : va_W)) sz)) (zQi D (([] : va_W)) sz r0 (([] : va_W))) 0 0 (va_A (([] : va_W)) sz) := by
  refine Met.ofW (cc := cX8_isSide) (maxL := 1) (ret := (some .boolean)) (by decide) rfl ?_
  intro p e s m args below meth c s₁ B hml hv
  obtain ⟨rfl, hsz, hP, hK, hD0, hN⟩ := hv
  subst hsz
  have C : CallFix p m c cX8_isSide 1 s [.int v0].toArray wsX8_isSide RX8 := ⟨B.exec, B.bytes, hml, findClass_of_methodNamed B.named, atoms_spec (ws := wsX8_isSide) B.pre⟩
  have hl := lv_entry ([.int v0]) (n := 1) (Nat.le_of_ble_eq_true rfl)
  rw [lg_entry_eq]
  exact wX8_isSide_0 (A := va_A (([] : va_W)) s.heap.size) C hN hK (fun q h => Or.inr h) (fun H locs pc ls d hn hP hD hS => zend_z C.1 C.2.1 B.returns B.notSynchronized d hn hP hD hS) hf hP hD0.self va_S.rf hl
def rmX8_isByte : Room := { frames := 0, cells := 0, slots := 0, locals := 0 }
set_option maxHeartbeats 4000000 in
set_option maxRecDepth 100000 in
theorem wX8_isByte_0 {p : Program} {l : Launch} {e : Env} {s : State} {m : MethodId} {args : Array Value} {below : List Frame} {meth : Method} {c : Code} {D : va_G} {A : Nat → Prop} {Q : State → Prop} {cI : ClassId} {r0 : Int32} (C : CallFix p m c cX8_isByte 1 s args wsX8_isByte RX8) (hN : zN s) (hK : va_K D vwCl [(cI, .int)] s) (hA : ∀ q, s.heap.size ≤ q → A q) (hE : zEz p l e rmX8_isByte s m args below meth c cX8_isByte D A Q (([] : va_W)) r0) {v0 : Int32} {H : Heap} {locs : List Loc} {ls : Array Slot} : fX8_isByte v0 = some r0 → va_P D vwCl (([] : va_W)) H → va_D A (([] : va_W)) → va_S A s.heap H locs → lv_has ls 1 [(0, .int v0)] → W p l e rmX8_isByte s m args below meth c H locs 0 0 Q (F0 m 0 ls []) := by
  intro hf hP hD hS hl
  obtain ⟨hx, hb, hml, hown, hts⟩ := id C
  unfold fX8_isByte at hf
  refine lv_iload_n hx hb dX8_isByte_0 rfl (lv_at hl 0 rfl) ?_
  refine lv_if_lt (tgt := 15) hx hb dX8_isByte_1 (by decide) (fun c1 => ?_) (fun c1 => ?_)
  · replace hf := zif_t hf c1
    refine lv_iconst (v := 0) hx hb dX8_isByte_15 (by decide) ?_
    cases hf
    exact hE _ _ _ _ dX8_isByte_16 rfl hP hD hS
  · replace hf := zif_f hf c1
    refine lv_iload_n hx hb dX8_isByte_4 rfl (lv_at hl 0 rfl) ?_
    refine lv_sipush (v := 255) hx hb dX8_isByte_5 (by decide) ?_
    refine lv_icmp_gt (tgt := 15) hx hb dX8_isByte_8 (by decide) (fun c2 => ?_) (fun c2 => ?_)
    · replace hf := zif_t hf c2
      refine lv_iconst (v := 0) hx hb dX8_isByte_15 (by decide) ?_
      cases hf
      exact hE _ _ _ _ dX8_isByte_16 rfl hP hD hS
    · replace hf := zif_f hf c2
      refine lv_iconst (v := 1) hx hb dX8_isByte_11 (by decide) ?_
      refine lv_goto (tgt := 16) hx hb dX8_isByte_12 (by decide) ?_
      cases hf
      exact hE _ _ _ _ dX8_isByte_16 rfl hP hD hS
set_option maxHeartbeats 4000000 in
set_option maxRecDepth 100000 in
theorem mX8_isByte (l : Launch) (D : va_G) (cI : ClassId) (sz : Nat) (v0 : Int32) (r0 : Int32) (hf : fX8_isByte v0 = some r0) : Met l yX8_isByte wsX8_isByte rmX8_isByte (va_Pc [.int v0] (zP D [(cI, .int)] (([] : va_W)) sz)) (zQi D (([] : va_W)) sz r0 (([] : va_W))) 0 0 (va_A (([] : va_W)) sz) := by
  refine Met.ofW (cc := cX8_isByte) (maxL := 1) (ret := (some .boolean)) (by decide) rfl ?_
  intro p e s m args below meth c s₁ B hml hv
  obtain ⟨rfl, hsz, hP, hK, hD0, hN⟩ := hv
  subst hsz
  have C : CallFix p m c cX8_isByte 1 s [.int v0].toArray wsX8_isByte RX8 := ⟨B.exec, B.bytes, hml, findClass_of_methodNamed B.named, atoms_spec (ws := wsX8_isByte) B.pre⟩
  have hl := lv_entry ([.int v0]) (n := 1) (Nat.le_of_ble_eq_true rfl)
  rw [lg_entry_eq]
  exact wX8_isByte_0 (A := va_A (([] : va_W)) s.heap.size) C hN hK (fun q h => Or.inr h) (fun H locs pc ls d hn hP hD hS => zend_z C.1 C.2.1 B.returns B.notSynchronized d hn hP hD hS) hf hP hD0.self va_S.rf hl
def rmJ7_fill_53178 : Room := { frames := 0, cells := 0, slots := 0, locals := 0 }
set_option maxHeartbeats 4000000 in
set_option maxRecDepth 100000 in
theorem wJ7_fill_53178_5 {p : Program} {l : Launch} {e : Env} {s : State} {m : MethodId} {args : Array Value} {below : List Frame} {meth : Method} {c : Code} {D : va_G} {A : Nat → Prop} {Q : State → Prop} {cI : ClassId} {h_a0 : Nat} {za0 : Nat → Int32} (C : CallFix p m c cJ7_fill_53178 4 s args wsJ7_fill_53178 RJ7) (hN : zN s) (hK : va_K D vwCl [(cI, .int)] s) (hA : ∀ q, s.heap.size ≤ q → A q) (hE : zEv p l e rmJ7_fill_53178 s m args below meth c cJ7_fill_53178 D A Q (zwA cI h_a0 64 za0)) (n : Nat) : ∀ {a0 : Nat → Int32} {l1 : Int32} {l2 : Int32} {l3 : Int32} {H : Heap} {locs : List Loc} {ls : Array Slot}, fJ7_fill_53178_5 n a0 l1 l2 l3 = some za0 → va_P D vwCl (zwA cI h_a0 64 a0) H → va_D A (zwA cI h_a0 64 a0) → va_S A s.heap H locs → lv_has ls 4 [(0, .ref h_a0), (1, .int l1), (2, .int l2), (3, .int l3)] → W p l e rmJ7_fill_53178 s m args below meth c H locs 0 0 Q (F0 m 5 ls []) := by
  obtain ⟨hx, hb, hml, hown, hts⟩ := id C
  induction n with
  | zero =>
    intro a0 l1 l2 l3 H locs ls hf
    cases hf
  | succ n hr_5 =>
    intro a0 l1 l2 l3 H locs ls hf hP hD hS hl
    rw [fJ7_fill_53178_5_s] at hf
    refine lv_iload_n hx hb dJ7_fill_53178_5 rfl (lv_at hl 2 rfl) ?_
    refine lv_iload_n hx hb dJ7_fill_53178_6 rfl (lv_at hl 3 rfl) ?_
    refine lv_icmp_ge (tgt := 20) hx hb dJ7_fill_53178_7 (by decide) (fun c1 => ?_) (fun c1 => ?_)
    · replace hf := zif_t hf c1
      cases hf
      exact hE _ _ _ _ dJ7_fill_53178_20 hP hD hS
    · replace hf := zif_f hf c1
      refine lv_aload_n hx hb dJ7_fill_53178_10 rfl (lv_at hl 0 rfl) ?_
      refine lv_iload_n hx hb dJ7_fill_53178_11 rfl (lv_at hl 2 rfl) ?_
      refine lv_iload_n hx hb dJ7_fill_53178_12 rfl (lv_at hl 1 rfl) ?_
      obtain ⟨hg3, g2, eg2, hf⟩ := zwr_in hf
      refine va_iast hx hb hK hP hD hS 0 0 rfl rfl hg3 dJ7_fill_53178_13 (fun H locs hP hD hS => ?_)
      replace hP : va_P D vwCl (zwA cI h_a0 64 g2) H := by rw [← eg2]; exact hP
      replace hD : va_D A (zwA cI h_a0 64 g2) := by rw [← eg2]; exact hD
      clear eg2
      obtain ⟨x4, ex4⟩ : ∃ y : Int32, y = l2 + 1 := ⟨_, rfl⟩
      replace hf := zlet_in hf ex4
      refine lv_iinc (v := x4) (lv' := [(2, .int x4), (0, .ref h_a0), (1, .int l1), (3, .int l3)]) hx hb dJ7_fill_53178_14 hl (k := 2) rfl (by rw [ex4]; rfl) (by decide) rfl (fun ls hl => ?_)
      clear ex4
      refine lv_goto (tgt := 5) hx hb dJ7_fill_53178_17 (by decide) ?_
      exact hr_5 hf hP hD hS (lv_sub hl [1, 2, 0, 3] rfl)
set_option maxHeartbeats 4000000 in
set_option maxRecDepth 100000 in
theorem wJ7_fill_53178_0 {p : Program} {l : Launch} {e : Env} {s : State} {m : MethodId} {args : Array Value} {below : List Frame} {meth : Method} {c : Code} {D : va_G} {A : Nat → Prop} {Q : State → Prop} {cI : ClassId} {h_a0 : Nat} {za0 : Nat → Int32} (C : CallFix p m c cJ7_fill_53178 4 s args wsJ7_fill_53178 RJ7) (hN : zN s) (hK : va_K D vwCl [(cI, .int)] s) (hA : ∀ q, s.heap.size ≤ q → A q) (hE : zEv p l e rmJ7_fill_53178 s m args below meth c cJ7_fill_53178 D A Q (zwA cI h_a0 64 za0)) {a0 : Nat → Int32} {v1 : Int32} {H : Heap} {locs : List Loc} {ls : Array Slot} : fJ7_fill_53178 a0 v1 = some za0 → va_P D vwCl (zwA cI h_a0 64 a0) H → va_D A (zwA cI h_a0 64 a0) → va_S A s.heap H locs → lv_has ls 4 [(0, .ref h_a0), (1, .int v1)] → W p l e rmJ7_fill_53178 s m args below meth c H locs 0 0 Q (F0 m 0 ls []) := by
  intro hf hP hD hS hl
  obtain ⟨hx, hb, hml, hown, hts⟩ := id C
  unfold fJ7_fill_53178 at hf
  refine lv_iconst (v := 0) hx hb dJ7_fill_53178_0 (by decide) ?_
  refine lv_istore_n (lv' := [(2, .int 0), (0, .ref h_a0), (1, .int v1)]) hx hb dJ7_fill_53178_1 rfl hl (by decide) rfl (fun ls hl => ?_)
  refine lv_aload_n hx hb dJ7_fill_53178_2 rfl (lv_at hl 1 rfl) ?_
  refine va_alen hx hb hK hP 0 0 rfl rfl (v := 64) rfl dJ7_fill_53178_3 ?_
  refine lv_istore_n (lv' := [(3, .int 64), (2, .int 0), (0, .ref h_a0), (1, .int v1)]) hx hb dJ7_fill_53178_4 rfl hl (by decide) rfl (fun ls hl => ?_)
  exact wJ7_fill_53178_5 C hN hK hA hE 1000 hf hP hD hS (lv_sub hl [2, 3, 1, 0] rfl)
set_option maxHeartbeats 4000000 in
set_option maxRecDepth 100000 in
theorem mJ7_fill_53178 (l : Launch) (D : va_G) (cI : ClassId) (sz : Nat) (h_a0 : Nat) (a0 : Nat → Int32) (v1 : Int32) (za0 : Nat → Int32) (hf : fJ7_fill_53178 a0 v1 = some za0) : Met l yJ7_fill_53178 wsJ7_fill_53178 rmJ7_fill_53178 (va_Pc [.ref h_a0, .int v1] (zP D [(cI, .int)] (zwA cI h_a0 64 a0) sz)) (zQv D (zwA cI h_a0 64 a0) sz (zwA cI h_a0 64 za0)) 0 0 (va_A (zwA cI h_a0 64 a0) sz) := by
  refine Met.ofW (cc := cJ7_fill_53178) (maxL := 4) (ret := none) (by decide) rfl ?_
  intro p e s m args below meth c s₁ B hml hv
  obtain ⟨rfl, hsz, hP, hK, hD0, hN⟩ := hv
  subst hsz
  have C : CallFix p m c cJ7_fill_53178 4 s [.ref h_a0, .int v1].toArray wsJ7_fill_53178 RJ7 := ⟨B.exec, B.bytes, hml, findClass_of_methodNamed B.named, atoms_spec (ws := wsJ7_fill_53178) B.pre⟩
  have hl := lv_entry ([.ref h_a0, .int v1]) (n := 4) (Nat.le_of_ble_eq_true rfl)
  rw [lg_entry_eq]
  exact wJ7_fill_53178_0 (A := va_A (zwA cI h_a0 64 a0) s.heap.size) C hN hK (fun q h => Or.inr h) (fun H locs pc ls d hP hD hS => zend_v C.1 C.2.1 B.returns B.notSynchronized d hP hD hS) hf hP hD0.self va_S.rf hl
