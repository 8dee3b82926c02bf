/-! The constructors. -/
theorem znew0 (n : Nat) (cA : ClassId) : vp_cell cA (n, .inl (fun _ => 0)) = arrV cA n (fun _ => defaultValue .int) := rfl
theorem zsameI {D : va_G} {cI cA : ClassId} {s : State} (h : va_K D vwCl ([(cI, .int)] ++ [(cA, .int)]) s) : cI = cA := by
  have h1 : s.vm.findClass ("[" ++ FieldType.int.toString) = some cI := (h.2 0 (cI, .int) rfl).2
  have h2 : s.vm.findClass ("[" ++ FieldType.int.toString) = some cA := (h.2 1 (cA, .int) rfl).2
  exact Option.some.inj (h1.symm.trans h2)
/-- the start of the class's constructor: it makes an array of formats -/
def zPA (D : va_G) (tys : List (ClassId × FieldType)) (ws : va_W) (sz : Nat) (U : State) : Prop := zP D tys ws sz U ∧ va_AO RX3 U
theorem zPA_blind {D : va_G} {tys : List (ClassId × FieldType)} {ws : va_W} {sz : Nat} {av : List Value} : FrameBlind (va_Pc av (zPA D tys ws sz)) := by
  intro a U g mk q
  obtain ⟨h0, hp, h1⟩ := q
  obtain ⟨-, hp2⟩ := zP_blind a U g mk ⟨h0, hp⟩
  exact ⟨h0, hp2, h1.moved (U := U.calling g mk a) (Vm.Alike.refl U.vm)⟩
theorem zpreA {D : va_G} {tys : List (ClassId × FieldType)} {ws wc : va_W} {A : Nat → Prop} {s : State} {H : Heap} (hO : va_AO RX3 s) (hK : va_K D vwCl tys s) (hN : zN s) (hP : va_P D vwCl ws H) (hD : va_D A ws) (isC : List Nat) (hn : va_nd isC = true) (hC : isC.map (fun i => ws[i]?) = wc.map some) {av : List Value} :
    ∀ U : State, U.heap = H → s.WarmedH U.vm → va_Pc av (zPA D tys wc H.size) av.toArray U := by
  intro U hU hW
  obtain ⟨h0, hp⟩ := zpre (av := av) hK hN hP hD isC hn hC U hU hW
  exact ⟨h0, hp, hO.moved hW.alike⟩
theorem zfm_eq {a b c d : Nat} : va_up (va_up (va_up (va_up (fun _ => none) 0 (some a)) 1 (some b)) 2 (some c)) 3 (some d) = zfm a b c d := by
  funext j
  unfold va_up zfm
  by_cases c0 : j = 0
  · subst c0; rfl
  · by_cases c1 : j = 1
    · subst c1; rfl
    · by_cases c2 : j = 2
      · subst c2; rfl
      · by_cases c3 : j = 3
        · subst c3; rfl
        · simp [c0, c1, c2, c3]

def rmX3_init : Room := { frames := 1, cells := 0, slots := 0, locals := 12 }
set_option maxHeartbeats 4000000 in
set_option maxRecDepth 100000 in
theorem mX3_init (l : Launch) (D : va_G) (cI : ClassId) (sz h_t : Nat) : Met l yX3_init wsX3_init rmX3_init (va_Pc [.ref h_t] (zP D [(cI, .int)] ([] : va_W) sz)) (va_Qv (fun (_ : Nat → Nat) => True) (fun (u : Nat → Nat) t => zB D ([] : va_W) sz ([] : va_W) t) (va_A ([] : va_W) sz)) 0 0 (va_A ([] : va_W) sz) := by
  refine Met.ofW (cc := cX3_init) (maxL := 1) (ret := none) (by decide) rfl ?_
  intro p e s m args below meth c s₁ B hml hv
  obtain ⟨rfl, hsz, hP, hK, hD0, hN⟩ := hv
  subst hsz
  have hx := B.exec
  have hb := B.bytes
  have hr := B.returns
  have hts := atoms_spec (ws := wsX3_init) B.pre
  have hown : s.vm.findClass RX3 = some m.cls := findClass_of_methodNamed B.named
  have hlocks := B.notSynchronized
  have hin : meth.name = "<init>" := (name_of_methodNamed B.named B.method).1
  have hD := hD0.self (sz := s.heap.size)
  generalize hAe : va_A ([] : va_W) s.heap.size = A at hD ⊢
  have hA : ∀ q : Nat, s.heap.size ≤ q → A q := fun q h => by rw [← hAe]; exact Or.inr h
  have hS : va_S A s.heap s.heap [] := va_S.rf
  have hl := lv_entry ([.ref h_t]) (n := 1) (Nat.le_of_ble_eq_true rfl)
  rw [lg_entry_eq]
  generalize (lg_sl ([.ref h_t]) ++ List.replicate (1 - (lg_sl ([.ref h_t])).length) Slot.unset).toArray = ls at hl ⊢
  have hl : lv_has ls 1 [(0, .ref h_t)] := hl
  refine lv_aload_n hx hb dX3_init_0 rfl (lv_at hl 0 rfl) ?_
  refine W.objInit hx hb hown (hts (.methodLink RX3 1 objectInit) (by decide +kernel)) (hts (.instanceMethod objectInit) (by decide +kernel)) (hts (.code objectInit ⟨#[0xb1]⟩ 1 none) (by decide +kernel)) rfl (by rw [hml]; exact hl.1) rfl dX3_init_1 (Nat.le_of_ble_eq_true rfl) (Nat.le_of_ble_eq_true rfl) ?_
  refine W.eq (g2 := F0 m 4 ls []) rfl ?_
  exact W.vret hx hb hr (fun t ht hW => ⟨⟨(fun j => 0), rfl, trivial, by rw [ht]; exact hP, by rw [hAe]; exact hD⟩, hS.F ht⟩) hS.2.2 dX3_init_4
def rmX5_init : Room := { frames := 1, cells := 1, slots := 64, locals := 12 }
theorem iX5_init_X5 : ∀ w ∈ u_ws RX5 TX5 3, w ∈ wsX5_init := by decide +kernel
set_option maxHeartbeats 4000000 in
set_option maxRecDepth 100000 in
theorem mX5_init (l : Launch) (D : va_G) (cI : ClassId) (sz h_t : Nat) : Met l yX5_init wsX5_init rmX5_init (va_Pc [.ref h_t] (zP D [(cI, .int)] [(h_t, .inr (4, [.null, .int 0, .int 0]))] sz)) (va_Qv (fun (_ : Nat → Nat) => True) (fun (u : Nat → Nat) t => zB D [(h_t, .inr (4, [.null, .int 0, .int 0]))] sz [(h_t, .inr (4, [.ref (u 0), .int 1, .int 1])), ((u 0), .inl (cI, 64, .inl (upd (fun _ => 0) 0 255)))] t) (va_A [(h_t, .inr (4, [.null, .int 0, .int 0]))] sz)) 1 64 (va_A [(h_t, .inr (4, [.null, .int 0, .int 0]))] sz) := by
  refine Met.ofW (cc := cX5_init) (maxL := 1) (ret := none) (by decide) rfl ?_
  intro p e s m args below meth c s₁ B hml hv
  obtain ⟨rfl, hsz, hP, hK, hD0, hN⟩ := hv
  subst hsz
  have hx := B.exec
  have hb := B.bytes
  have hr := B.returns
  have hts := atoms_spec (ws := wsX5_init) B.pre
  have hown : s.vm.findClass RX5 = some m.cls := findClass_of_methodNamed B.named
  have hlocks := B.notSynchronized
  have hin : meth.name = "<init>" := (name_of_methodNamed B.named B.method).1
  have hD := hD0.self (sz := s.heap.size)
  generalize hAe : va_A [(h_t, .inr (4, [.null, .int 0, .int 0]))] s.heap.size = A at hD ⊢
  have hA : ∀ q : Nat, s.heap.size ≤ q → A q := fun q h => by rw [← hAe]; exact Or.inr h
  have hS : va_S A s.heap s.heap [] := va_S.rf
  have hl := lv_entry ([.ref h_t]) (n := 1) (Nat.le_of_ble_eq_true rfl)
  rw [lg_entry_eq]
  generalize (lg_sl ([.ref h_t]) ++ List.replicate (1 - (lg_sl ([.ref h_t])).length) Slot.unset).toArray = ls at hl ⊢
  have hl : lv_has ls 1 [(0, .ref h_t)] := hl
  refine lv_aload_n hx hb dX5_init_0 rfl (lv_at hl 0 rfl) ?_
  refine W.objInit hx hb hown (hts (.methodLink RX5 3 objectInit) (by decide +kernel)) (hts (.instanceMethod objectInit) (by decide +kernel)) (hts (.code objectInit ⟨#[0xb1]⟩ 1 none) (by decide +kernel)) rfl (by rw [hml]; exact hl.1) rfl dX5_init_1 (Nat.le_of_ble_eq_true rfl) (Nat.le_of_ble_eq_true rfl) ?_
  refine W.eq (g2 := F0 m 4 ls []) rfl ?_
  refine lv_aload_n hx hb dX5_init_4 rfl (lv_at hl 0 rfl) ?_
  refine lv_bipush (v := 64) hx hb dX5_init_5 (by decide) ?_
  refine va_newa (atype := .int) (n := 64) (a0 := (64, .inl (fun _ => 0))) hx hb (hts (.arrayClass .int) (by decide +kernel)) (ty := .int) rfl hK hP hD hS hA (N' := 64) (znew0 64) (by decide) (by decide) (by decide) (Nat.le_of_ble_eq_true rfl) (Nat.le_of_ble_eq_true rfl) dX5_init_7 (fun q7 cA H hK9 hP hD hS => ?_)
  obtain rfl := zsameI hK9
  clear hK9
  replace hP : va_P D vwCl [(h_t, .inr (4, [.null, .int 0, .int 0])), (q7, .inl (cI, 64, .inl (fun _ => 0)))] H := hP
  replace hD : va_D A [(h_t, .inr (4, [.null, .int 0, .int 0])), (q7, .inl (cI, 64, .inl (fun _ => 0)))] := hD
  refine va_putF (D := D) (ci := 4) (v := .ref q7) (ty := .array .int) (C := RX5) (T := TX5) (N := 3) hx hb hts iX5_init_X5 tyX5 tyX5_ok nmX5 hown hK hP hD hS 0 rfl rfl 0 (by decide) (hts (.fieldLink RX5 9 "FourPictureFiles$Picture" "pixels" "[I") (by decide +kernel)) (fun _ h9 => h9) rfl hin rfl (by decide +kernel) rfl rfl (Nat.le_of_ble_eq_true rfl) dX5_init_9 (fun H locs hP hD hS => ?_)
  replace hP : va_P D vwCl [(h_t, .inr (4, [.ref q7, .int 0, .int 0])), (q7, .inl (cI, 64, .inl (fun _ => 0)))] H := hP
  replace hD : va_D A [(h_t, .inr (4, [.ref q7, .int 0, .int 0])), (q7, .inl (cI, 64, .inl (fun _ => 0)))] := hD
  refine lv_aload_n hx hb dX5_init_12 rfl (lv_at hl 0 rfl) ?_
  refine lv_iconst (v := 1) hx hb dX5_init_13 (by decide) ?_
  refine va_put (D := D) (ci := 4) (v := .int 1) (ty := .int) (C := RX5) (T := TX5) (N := 3) hx hb hts iX5_init_X5 tyX5 tyX5_ok nmX5 hown hK hP hD hS 0 rfl rfl 1 (by decide) (hts (.fieldLink RX5 15 "FourPictureFiles$Picture" "wide" "I") (by decide +kernel)) (fun _ h9 => h9) rfl (by decide +kernel) rfl rfl (Nat.le_of_ble_eq_true rfl) dX5_init_14 (fun H locs hP hD hS => ?_)
  replace hP : va_P D vwCl [(h_t, .inr (4, [.ref q7, .int 1, .int 0])), (q7, .inl (cI, 64, .inl (fun _ => 0)))] H := hP
  replace hD : va_D A [(h_t, .inr (4, [.ref q7, .int 1, .int 0])), (q7, .inl (cI, 64, .inl (fun _ => 0)))] := hD
  refine lv_aload_n hx hb dX5_init_17 rfl (lv_at hl 0 rfl) ?_
  refine lv_iconst (v := 1) hx hb dX5_init_18 (by decide) ?_
  refine va_put (D := D) (ci := 4) (v := .int 1) (ty := .int) (C := RX5) (T := TX5) (N := 3) hx hb hts iX5_init_X5 tyX5 tyX5_ok nmX5 hown hK hP hD hS 0 rfl rfl 2 (by decide) (hts (.fieldLink RX5 19 "FourPictureFiles$Picture" "high" "I") (by decide +kernel)) (fun _ h9 => h9) rfl (by decide +kernel) rfl rfl (Nat.le_of_ble_eq_true rfl) dX5_init_19 (fun H locs hP hD hS => ?_)
  replace hP : va_P D vwCl [(h_t, .inr (4, [.ref q7, .int 1, .int 1])), (q7, .inl (cI, 64, .inl (fun _ => 0)))] H := hP
  replace hD : va_D A [(h_t, .inr (4, [.ref q7, .int 1, .int 1])), (q7, .inl (cI, 64, .inl (fun _ => 0)))] := hD
  refine lv_aload_n hx hb dX5_init_22 rfl (lv_at hl 0 rfl) ?_
  refine va_get (D := D) (ci := 4) (v := .ref q7) (C := RX5) (T := TX5) (N := 3) hx hb hts iX5_init_X5 hown hK hP 0 rfl rfl 0 (by decide) (hts (.fieldLink RX5 9 "FourPictureFiles$Picture" "pixels" "[I") (by decide +kernel)) (fun _ h9 => h9) rfl dX5_init_23 ?_
  refine lv_iconst (v := 0) hx hb dX5_init_26 (by decide) ?_
  refine lv_sipush (v := 255) hx hb dX5_init_27 (by decide) ?_
  refine va_iast hx hb hK hP hD hS 1 0 rfl rfl (zinb_in rfl) dX5_init_30 (fun H locs hP hD hS => ?_)
  replace hP : va_P D vwCl [(h_t, .inr (4, [.ref q7, .int 1, .int 1])), (q7, .inl (cI, 64, .inl (upd (fun _ => 0) 0 255)))] H := hP
  replace hD : va_D A [(h_t, .inr (4, [.ref q7, .int 1, .int 1])), (q7, .inl (cI, 64, .inl (upd (fun _ => 0) 0 255)))] := hD
  exact W.vret hx hb hr (fun t ht hW => ⟨⟨(fun j => if j = 0 then q7 else 0), rfl, trivial, by rw [ht]; exact hP, by rw [hAe]; exact hD⟩, hS.F ht⟩) hS.2.2 dX5_init_31
def rmX2_init : Room := { frames := 1, cells := 1, slots := 800, locals := 12 }
theorem iX2_init_X2 : ∀ w ∈ u_ws RX2 TX2 2, w ∈ wsX2_init := by decide +kernel
set_option maxHeartbeats 4000000 in
set_option maxRecDepth 100000 in
theorem mX2_init (l : Launch) (D : va_G) (cI : ClassId) (sz h_t : Nat) : Met l yX2_init wsX2_init rmX2_init (va_Pc [.ref h_t] (zP D [(cI, .int)] [(h_t, .inr (2, [.null, .int 0]))] sz)) (va_Qv (fun (_ : Nat → Nat) => True) (fun (u : Nat → Nat) t => zB D [(h_t, .inr (2, [.null, .int 0]))] sz [(h_t, .inr (2, [.ref (u 0), .int 0])), ((u 0), .inl (cI, 800, .inl (fun _ => 0)))] t) (va_A [(h_t, .inr (2, [.null, .int 0]))] sz)) 1 800 (va_A [(h_t, .inr (2, [.null, .int 0]))] sz) := by
  refine Met.ofW (cc := cX2_init) (maxL := 1) (ret := none) (by decide) rfl ?_
  intro p e s m args below meth c s₁ B hml hv
  obtain ⟨rfl, hsz, hP, hK, hD0, hN⟩ := hv
  subst hsz
  have hx := B.exec
  have hb := B.bytes
  have hr := B.returns
  have hts := atoms_spec (ws := wsX2_init) B.pre
  have hown : s.vm.findClass RX2 = some m.cls := findClass_of_methodNamed B.named
  have hlocks := B.notSynchronized
  have hin : meth.name = "<init>" := (name_of_methodNamed B.named B.method).1
  have hD := hD0.self (sz := s.heap.size)
  generalize hAe : va_A [(h_t, .inr (2, [.null, .int 0]))] s.heap.size = A at hD ⊢
  have hA : ∀ q : Nat, s.heap.size ≤ q → A q := fun q h => by rw [← hAe]; exact Or.inr h
  have hS : va_S A s.heap s.heap [] := va_S.rf
  have hl := lv_entry ([.ref h_t]) (n := 1) (Nat.le_of_ble_eq_true rfl)
  rw [lg_entry_eq]
  generalize (lg_sl ([.ref h_t]) ++ List.replicate (1 - (lg_sl ([.ref h_t])).length) Slot.unset).toArray = ls at hl ⊢
  have hl : lv_has ls 1 [(0, .ref h_t)] := hl
  refine lv_aload_n hx hb dX2_init_0 rfl (lv_at hl 0 rfl) ?_
  refine W.objInit hx hb hown (hts (.methodLink RX2 3 objectInit) (by decide +kernel)) (hts (.instanceMethod objectInit) (by decide +kernel)) (hts (.code objectInit ⟨#[0xb1]⟩ 1 none) (by decide +kernel)) rfl (by rw [hml]; exact hl.1) rfl dX2_init_1 (Nat.le_of_ble_eq_true rfl) (Nat.le_of_ble_eq_true rfl) ?_
  refine W.eq (g2 := F0 m 4 ls []) rfl ?_
  refine lv_aload_n hx hb dX2_init_4 rfl (lv_at hl 0 rfl) ?_
  refine lv_sipush (v := 800) hx hb dX2_init_5 (by decide) ?_
  refine va_newa (atype := .int) (n := 800) (a0 := (800, .inl (fun _ => 0))) hx hb (hts (.arrayClass .int) (by decide +kernel)) (ty := .int) rfl hK hP hD hS hA (N' := 800) (znew0 800) (by decide) (by decide) (by decide) (Nat.le_of_ble_eq_true rfl) (Nat.le_of_ble_eq_true rfl) dX2_init_8 (fun q8 cA H hK9 hP hD hS => ?_)
  obtain rfl := zsameI hK9
  clear hK9
  replace hP : va_P D vwCl [(h_t, .inr (2, [.null, .int 0])), (q8, .inl (cI, 800, .inl (fun _ => 0)))] H := hP
  replace hD : va_D A [(h_t, .inr (2, [.null, .int 0])), (q8, .inl (cI, 800, .inl (fun _ => 0)))] := hD
  refine va_putF (D := D) (ci := 2) (v := .ref q8) (ty := .array .int) (C := RX2) (T := TX2) (N := 2) hx hb hts iX2_init_X2 tyX2 tyX2_ok nmX2 hown hK hP hD hS 0 rfl rfl 0 (by decide) (hts (.fieldLink RX2 9 "FourPictureFiles$FileRow" "bytes" "[I") (by decide +kernel)) (fun _ h9 => h9) rfl hin rfl (by decide +kernel) rfl rfl (Nat.le_of_ble_eq_true rfl) dX2_init_10 (fun H locs hP hD hS => ?_)
  replace hP : va_P D vwCl [(h_t, .inr (2, [.ref q8, .int 0])), (q8, .inl (cI, 800, .inl (fun _ => 0)))] H := hP
  replace hD : va_D A [(h_t, .inr (2, [.ref q8, .int 0])), (q8, .inl (cI, 800, .inl (fun _ => 0)))] := hD
  exact W.vret hx hb hr (fun t ht hW => ⟨⟨(fun j => if j = 0 then q8 else 0), rfl, trivial, by rw [ht]; exact hP, by rw [hAe]; exact hD⟩, hS.F ht⟩) hS.2.2 dX2_init_13
def rmX7_init : Room := { frames := 1, cells := 0, slots := 0, locals := 12 }
theorem iX7_init_X7 : ∀ w ∈ u_ws RX7 TX7 2, w ∈ wsX7_init := by decide +kernel
set_option maxHeartbeats 4000000 in
set_option maxRecDepth 100000 in
theorem mX7_init (l : Launch) (D : va_G) (cI : ClassId) (sz h_t v0 : Nat) : Met l yX7_init wsX7_init rmX7_init (va_Pc [.ref h_t, .ref v0] (zP D [(cI, .int)] [(h_t, .inr (6, [.null, .int 0]))] sz)) (va_Qv (fun (_ : Nat → Nat) => True) (fun (u : Nat → Nat) t => zB D [(h_t, .inr (6, [.null, .int 0]))] sz [(h_t, .inr (6, [.ref v0, .int 0]))] t) (va_A [(h_t, .inr (6, [.null, .int 0]))] sz)) 0 0 (va_A [(h_t, .inr (6, [.null, .int 0]))] sz) := by
  refine Met.ofW (cc := cX7_init) (maxL := 2) (ret := none) (by decide) rfl ?_
  intro p e s m args below meth c s₁ B hml hv
  obtain ⟨rfl, hsz, hP, hK, hD0, hN⟩ := hv
  subst hsz
  have hx := B.exec
  have hb := B.bytes
  have hr := B.returns
  have hts := atoms_spec (ws := wsX7_init) B.pre
  have hown : s.vm.findClass RX7 = some m.cls := findClass_of_methodNamed B.named
  have hlocks := B.notSynchronized
  have hin : meth.name = "<init>" := (name_of_methodNamed B.named B.method).1
  have hD := hD0.self (sz := s.heap.size)
  generalize hAe : va_A [(h_t, .inr (6, [.null, .int 0]))] s.heap.size = A at hD ⊢
  have hA : ∀ q : Nat, s.heap.size ≤ q → A q := fun q h => by rw [← hAe]; exact Or.inr h
  have hS : va_S A s.heap s.heap [] := va_S.rf
  have hl := lv_entry ([.ref h_t, .ref v0]) (n := 2) (Nat.le_of_ble_eq_true rfl)
  rw [lg_entry_eq]
  generalize (lg_sl ([.ref h_t, .ref v0]) ++ List.replicate (2 - (lg_sl ([.ref h_t, .ref v0])).length) Slot.unset).toArray = ls at hl ⊢
  have hl : lv_has ls 2 [(0, .ref h_t), (1, .ref v0)] := hl
  refine lv_aload_n hx hb dX7_init_0 rfl (lv_at hl 0 rfl) ?_
  refine W.objInit hx hb hown (hts (.methodLink RX7 1 objectInit) (by decide +kernel)) (hts (.instanceMethod objectInit) (by decide +kernel)) (hts (.code objectInit ⟨#[0xb1]⟩ 1 none) (by decide +kernel)) rfl (by rw [hml]; exact hl.1) rfl dX7_init_1 (Nat.le_of_ble_eq_true rfl) (Nat.le_of_ble_eq_true rfl) ?_
  refine W.eq (g2 := F0 m 4 ls []) rfl ?_
  refine lv_aload_n hx hb dX7_init_4 rfl (lv_at hl 0 rfl) ?_
  refine lv_aload_n hx hb dX7_init_5 rfl (lv_at hl 1 rfl) ?_
  refine va_putF (D := D) (ci := 6) (v := .ref v0) (ty := .object "FourPictureFiles$FileRow") (C := RX7) (T := TX7) (N := 2) hx hb hts iX7_init_X7 tyX7 tyX7_ok nmX7 hown hK hP hD hS 0 rfl rfl 0 (by decide) (hts (.fieldLink RX7 7 "FourPictureFiles$Source" "file" "LFourPictureFiles$FileRow;") (by decide +kernel)) (fun _ h9 => h9) rfl hin rfl (by decide +kernel) rfl rfl (Nat.le_of_ble_eq_true rfl) dX7_init_6 (fun H locs hP hD hS => ?_)
  replace hP : va_P D vwCl [(h_t, .inr (6, [.ref v0, .int 0]))] H := hP
  replace hD : va_D A [(h_t, .inr (6, [.ref v0, .int 0]))] := hD
  exact W.vret hx hb hr (fun t ht hW => ⟨⟨(fun j => 0), rfl, trivial, by rw [ht]; exact hP, by rw [hAe]; exact hD⟩, hS.F ht⟩) hS.2.2 dX7_init_9
def rmX1_init : Room := { frames := 2, cells := 1, slots := 64, locals := 32 }
theorem iX1_init_X1 : ∀ w ∈ u_ws RX1 TX1 2, w ∈ wsX1_init := by decide +kernel
set_option maxHeartbeats 4000000 in
set_option maxRecDepth 100000 in
theorem mX1_init (l : Launch) (D : va_G) (cI : ClassId) (sz h_t : Nat) : Met l yX1_init wsX1_init rmX1_init (va_Pc [.ref h_t] (zP D [(cI, .int)] [(h_t, .inr (1, [.null, .int 0]))] sz)) (va_Qv (fun (_ : Nat → Nat) => True) (fun (u : Nat → Nat) t => zB D [(h_t, .inr (1, [.null, .int 0]))] sz [(h_t, .inr (1, [.ref (u 0), .int 0])), ((u 0), .inl (cI, 64, .inl (fun _ => 0)))] t) (va_A [(h_t, .inr (1, [.null, .int 0]))] sz)) 1 64 (va_A [(h_t, .inr (1, [.null, .int 0]))] sz) := by
  refine Met.ofW (cc := cX1_init) (maxL := 1) (ret := none) (by decide) rfl ?_
  intro p e s m args below meth c s₁ B hml hv
  obtain ⟨rfl, hsz, hP, hK, hD0, hN⟩ := hv
  subst hsz
  have hx := B.exec
  have hb := B.bytes
  have hr := B.returns
  have hts := atoms_spec (ws := wsX1_init) B.pre
  have hown : s.vm.findClass RX1 = some m.cls := findClass_of_methodNamed B.named
  have hlocks := B.notSynchronized
  have hin : meth.name = "<init>" := (name_of_methodNamed B.named B.method).1
  have hD := hD0.self (sz := s.heap.size)
  generalize hAe : va_A [(h_t, .inr (1, [.null, .int 0]))] s.heap.size = A at hD ⊢
  have hA : ∀ q : Nat, s.heap.size ≤ q → A q := fun q h => by rw [← hAe]; exact Or.inr h
  have hS : va_S A s.heap s.heap [] := va_S.rf
  have hl := lv_entry ([.ref h_t]) (n := 1) (Nat.le_of_ble_eq_true rfl)
  rw [lg_entry_eq]
  generalize (lg_sl ([.ref h_t]) ++ List.replicate (1 - (lg_sl ([.ref h_t])).length) Slot.unset).toArray = ls at hl ⊢
  have hl : lv_has ls 1 [(0, .ref h_t)] := hl
  refine lv_aload_n hx hb dX1_init_0 rfl (lv_at hl 0 rfl) ?_
  have hF1 := va_free (wc := ([] : va_W)) hD hS hA [] rfl
  refine va_callv (va_runIN (As := []) (rest := []) ⟨hx, hb, hml, hown, hts⟩ (mX3_init l D cI _ h_t) ⟨va_cnB 0 hts gX1_init_X3_init_n1 rfl rfl rfl (hN.nw 27 rfl) (hts (.initialized RX3) (by decide +kernel)) (by decide +kernel) ⟨Nat.le_of_ble_eq_true rfl, Nat.le_of_ble_eq_true rfl⟩, rfl, (hts (.instanceMethod yX3_init) (by decide +kernel))⟩ ⟨zP_blind, zpre hK hN hP hD [] rfl rfl⟩ rfl rfl hl.1 rfl (lv_room (Nat.le_of_ble_eq_true rfl)) dX1_init_1 ⟨Nat.le_of_ble_eq_true rfl, Nat.le_of_ble_eq_true rfl⟩) hS (fun q _ h => hF1 q h) hF1 (fun u1 t H1 locs1 ht hvm hw hB hz1 hk1 hS1 => ?_)
  obtain ⟨hP1, hD1⟩ := hB
  rw [ht] at hP1
  obtain ⟨hP', hD'⟩ := zjoin (ws' := [(h_t, .inr (1, [.null, .int 0]))]) hP hD hS hA [] [0] [0] rfl rfl rfl rfl rfl rfl hk1 hP1 hD1
  replace hP := hP'; replace hD := hD'; replace hS := hS1
  clear hP' hD' hS1 hk1 hP1 hD1 hF1 hw hz1
  clear ht hvm
  generalize H1 = H at hP hS ⊢
  generalize locs1 = locs at hS ⊢
  refine lv_aload_n hx hb dX1_init_4 rfl (lv_at hl 0 rfl) ?_
  refine lv_bipush (v := 64) hx hb dX1_init_5 (by decide) ?_
  refine va_newa (atype := .int) (n := 64) (a0 := (64, .inl (fun _ => 0))) hx hb (hts (.arrayClass .int) (by decide +kernel)) (ty := .int) rfl hK hP hD hS hA (N' := 64) (znew0 64) (by decide) (by decide) (by decide) (Nat.le_of_ble_eq_true rfl) (Nat.le_of_ble_eq_true rfl) dX1_init_7 (fun q7 cA H hK9 hP hD hS => ?_)
  obtain rfl := zsameI hK9
  clear hK9
  replace hP : va_P D vwCl [(h_t, .inr (1, [.null, .int 0])), (q7, .inl (cI, 64, .inl (fun _ => 0)))] H := hP
  replace hD : va_D A [(h_t, .inr (1, [.null, .int 0])), (q7, .inl (cI, 64, .inl (fun _ => 0)))] := hD
  refine va_putF (D := D) (ci := 1) (v := .ref q7) (ty := .array .int) (C := RX1) (T := TX1) (N := 2) hx hb hts iX1_init_X1 tyX1 tyX1_ok nmX1 hown hK hP hD hS 0 rfl rfl 0 (by decide) (hts (.fieldLink RX1 9 "FourPictureFiles$ChunkFormat" "table" "[I") (by decide +kernel)) (fun _ h9 => h9) rfl hin rfl (by decide +kernel) rfl rfl (Nat.le_of_ble_eq_true rfl) dX1_init_9 (fun H locs hP hD hS => ?_)
  replace hP : va_P D vwCl [(h_t, .inr (1, [.ref q7, .int 0])), (q7, .inl (cI, 64, .inl (fun _ => 0)))] H := hP
  replace hD : va_D A [(h_t, .inr (1, [.ref q7, .int 0])), (q7, .inl (cI, 64, .inl (fun _ => 0)))] := hD
  exact W.vret hx hb hr (fun t ht hW => ⟨⟨(fun j => if j = 0 then q7 else 0), rfl, trivial, by rw [ht]; exact hP, by rw [hAe]; exact hD⟩, hS.F ht⟩) hS.2.2 dX1_init_12
def rmX6_init : Room := { frames := 2, cells := 0, slots := 0, locals := 32 }
set_option maxHeartbeats 4000000 in
set_option maxRecDepth 100000 in
theorem mX6_init (l : Launch) (D : va_G) (cI : ClassId) (sz h_t : Nat) : Met l yX6_init wsX6_init rmX6_init (va_Pc [.ref h_t] (zP D [(cI, .int)] [(h_t, .inr (5, [.int 0, .int 0]))] sz)) (va_Qv (fun (_ : Nat → Nat) => True) (fun (u : Nat → Nat) t => zB D [(h_t, .inr (5, [.int 0, .int 0]))] sz [(h_t, .inr (5, [.int 0, .int 0]))] t) (va_A [(h_t, .inr (5, [.int 0, .int 0]))] sz)) 0 0 (va_A [(h_t, .inr (5, [.int 0, .int 0]))] sz) := by
  refine Met.ofW (cc := cX6_init) (maxL := 1) (ret := none) (by decide) rfl ?_
  intro p e s m args below meth c s₁ B hml hv
  obtain ⟨rfl, hsz, hP, hK, hD0, hN⟩ := hv
  subst hsz
  have hx := B.exec
  have hb := B.bytes
  have hr := B.returns
  have hts := atoms_spec (ws := wsX6_init) B.pre
  have hown : s.vm.findClass RX6 = some m.cls := findClass_of_methodNamed B.named
  have hlocks := B.notSynchronized
  have hin : meth.name = "<init>" := (name_of_methodNamed B.named B.method).1
  have hD := hD0.self (sz := s.heap.size)
  generalize hAe : va_A [(h_t, .inr (5, [.int 0, .int 0]))] s.heap.size = A at hD ⊢
  have hA : ∀ q : Nat, s.heap.size ≤ q → A q := fun q h => by rw [← hAe]; exact Or.inr h
  have hS : va_S A s.heap s.heap [] := va_S.rf
  have hl := lv_entry ([.ref h_t]) (n := 1) (Nat.le_of_ble_eq_true rfl)
  rw [lg_entry_eq]
  generalize (lg_sl ([.ref h_t]) ++ List.replicate (1 - (lg_sl ([.ref h_t])).length) Slot.unset).toArray = ls at hl ⊢
  have hl : lv_has ls 1 [(0, .ref h_t)] := hl
  refine lv_aload_n hx hb dX6_init_0 rfl (lv_at hl 0 rfl) ?_
  have hF1 := va_free (wc := ([] : va_W)) hD hS hA [] rfl
  refine va_callv (va_runIN (As := []) (rest := []) ⟨hx, hb, hml, hown, hts⟩ (mX3_init l D cI _ h_t) ⟨va_cnB 0 hts gX6_init_X3_init_n3 rfl rfl rfl (hN.nw 29 rfl) (hts (.initialized RX3) (by decide +kernel)) (by decide +kernel) ⟨Nat.le_of_ble_eq_true rfl, Nat.le_of_ble_eq_true rfl⟩, rfl, (hts (.instanceMethod yX3_init) (by decide +kernel))⟩ ⟨zP_blind, zpre hK hN hP hD [] rfl rfl⟩ rfl rfl hl.1 rfl (lv_room (Nat.le_of_ble_eq_true rfl)) dX6_init_1 ⟨Nat.le_of_ble_eq_true rfl, Nat.le_of_ble_eq_true rfl⟩) hS (fun q _ h => hF1 q h) hF1 (fun u1 t H1 locs1 ht hvm hw hB hz1 hk1 hS1 => ?_)
  obtain ⟨hP1, hD1⟩ := hB
  rw [ht] at hP1
  obtain ⟨hP', hD'⟩ := zjoin (ws' := [(h_t, .inr (5, [.int 0, .int 0]))]) hP hD hS hA [] [0] [0] rfl rfl rfl rfl rfl rfl hk1 hP1 hD1
  replace hP := hP'; replace hD := hD'; replace hS := hS1
  clear hP' hD' hS1 hk1 hP1 hD1 hF1 hw hz1
  clear ht hvm
  generalize H1 = H at hP hS ⊢
  generalize locs1 = locs at hS ⊢
  exact W.vret hx hb hr (fun t ht hW => ⟨⟨(fun j => 0), rfl, trivial, by rw [ht]; exact hP, by rw [hAe]; exact hD⟩, hS.F ht⟩) hS.2.2 dX6_init_4
def rmX0_init : Room := { frames := 2, cells := 1, slots := 64, locals := 32 }
theorem iX0_init_X0 : ∀ w ∈ u_ws RX0 TX0 7, w ∈ wsX0_init := by decide +kernel
set_option maxHeartbeats 4000000 in
set_option maxRecDepth 100000 in
theorem mX0_init (l : Launch) (D : va_G) (cI : ClassId) (sz h_t : Nat) : Met l yX0_init wsX0_init rmX0_init (va_Pc [.ref h_t] (zP D [(cI, .int)] [(h_t, .inr (0, [.null, .int 0, .int 0, .int 0, .int 0, .int 0, .int 0]))] sz)) (va_Qv (fun (_ : Nat → Nat) => True) (fun (u : Nat → Nat) t => zB D [(h_t, .inr (0, [.null, .int 0, .int 0, .int 0, .int 0, .int 0, .int 0]))] sz [(h_t, .inr (0, [.ref (u 0), .int 0, .int 0, .int 0, .int 0, .int 0, .int 0])), ((u 0), .inl (cI, 64, .inl (fun _ => 0)))] t) (va_A [(h_t, .inr (0, [.null, .int 0, .int 0, .int 0, .int 0, .int 0, .int 0]))] sz)) 1 64 (va_A [(h_t, .inr (0, [.null, .int 0, .int 0, .int 0, .int 0, .int 0, .int 0]))] sz) := by
  refine Met.ofW (cc := cX0_init) (maxL := 1) (ret := none) (by decide) rfl ?_
  intro p e s m args below meth c s₁ B hml hv
  obtain ⟨rfl, hsz, hP, hK, hD0, hN⟩ := hv
  subst hsz
  have hx := B.exec
  have hb := B.bytes
  have hr := B.returns
  have hts := atoms_spec (ws := wsX0_init) B.pre
  have hown : s.vm.findClass RX0 = some m.cls := findClass_of_methodNamed B.named
  have hlocks := B.notSynchronized
  have hin : meth.name = "<init>" := (name_of_methodNamed B.named B.method).1
  have hD := hD0.self (sz := s.heap.size)
  generalize hAe : va_A [(h_t, .inr (0, [.null, .int 0, .int 0, .int 0, .int 0, .int 0, .int 0]))] s.heap.size = A at hD ⊢
  have hA : ∀ q : Nat, s.heap.size ≤ q → A q := fun q h => by rw [← hAe]; exact Or.inr h
  have hS : va_S A s.heap s.heap [] := va_S.rf
  have hl := lv_entry ([.ref h_t]) (n := 1) (Nat.le_of_ble_eq_true rfl)
  rw [lg_entry_eq]
  generalize (lg_sl ([.ref h_t]) ++ List.replicate (1 - (lg_sl ([.ref h_t])).length) Slot.unset).toArray = ls at hl ⊢
  have hl : lv_has ls 1 [(0, .ref h_t)] := hl
  refine lv_aload_n hx hb dX0_init_0 rfl (lv_at hl 0 rfl) ?_
  have hF1 := va_free (wc := ([] : va_W)) hD hS hA [] rfl
  refine va_callv (va_runIN (As := []) (rest := []) ⟨hx, hb, hml, hown, hts⟩ (mX3_init l D cI _ h_t) ⟨va_cnB 0 hts gX0_init_X3_init_n3 rfl rfl rfl (hN.nw 31 rfl) (hts (.initialized RX3) (by decide +kernel)) (by decide +kernel) ⟨Nat.le_of_ble_eq_true rfl, Nat.le_of_ble_eq_true rfl⟩, rfl, (hts (.instanceMethod yX3_init) (by decide +kernel))⟩ ⟨zP_blind, zpre hK hN hP hD [] rfl rfl⟩ rfl rfl hl.1 rfl (lv_room (Nat.le_of_ble_eq_true rfl)) dX0_init_1 ⟨Nat.le_of_ble_eq_true rfl, Nat.le_of_ble_eq_true rfl⟩) hS (fun q _ h => hF1 q h) hF1 (fun u1 t H1 locs1 ht hvm hw hB hz1 hk1 hS1 => ?_)
  obtain ⟨hP1, hD1⟩ := hB
  rw [ht] at hP1
  obtain ⟨hP', hD'⟩ := zjoin (ws' := [(h_t, .inr (0, [.null, .int 0, .int 0, .int 0, .int 0, .int 0, .int 0]))]) hP hD hS hA [] [0] [0] rfl rfl rfl rfl rfl rfl hk1 hP1 hD1
  replace hP := hP'; replace hD := hD'; replace hS := hS1
  clear hP' hD' hS1 hk1 hP1 hD1 hF1 hw hz1
  clear ht hvm
  generalize H1 = H at hP hS ⊢
  generalize locs1 = locs at hS ⊢
  refine lv_aload_n hx hb dX0_init_4 rfl (lv_at hl 0 rfl) ?_
  refine lv_bipush (v := 64) hx hb dX0_init_5 (by decide) ?_
  refine va_newa (atype := .int) (n := 64) (a0 := (64, .inl (fun _ => 0))) hx hb (hts (.arrayClass .int) (by decide +kernel)) (ty := .int) rfl hK hP hD hS hA (N' := 64) (znew0 64) (by decide) (by decide) (by decide) (Nat.le_of_ble_eq_true rfl) (Nat.le_of_ble_eq_true rfl) dX0_init_7 (fun q7 cA H hK9 hP hD hS => ?_)
  obtain rfl := zsameI hK9
  clear hK9
  replace hP : va_P D vwCl [(h_t, .inr (0, [.null, .int 0, .int 0, .int 0, .int 0, .int 0, .int 0])), (q7, .inl (cI, 64, .inl (fun _ => 0)))] H := hP
  replace hD : va_D A [(h_t, .inr (0, [.null, .int 0, .int 0, .int 0, .int 0, .int 0, .int 0])), (q7, .inl (cI, 64, .inl (fun _ => 0)))] := hD
  refine va_putF (D := D) (ci := 0) (v := .ref q7) (ty := .array .int) (C := RX0) (T := TX0) (N := 7) hx hb hts iX0_init_X0 tyX0 tyX0_ok nmX0 hown hK hP hD hS 0 rfl rfl 0 (by decide) (hts (.fieldLink RX0 11 "FourPictureFiles$BitmapFormat" "colours" "[I") (by decide +kernel)) (fun _ h9 => h9) rfl hin rfl (by decide +kernel) rfl rfl (Nat.le_of_ble_eq_true rfl) dX0_init_9 (fun H locs hP hD hS => ?_)
  replace hP : va_P D vwCl [(h_t, .inr (0, [.ref q7, .int 0, .int 0, .int 0, .int 0, .int 0, .int 0])), (q7, .inl (cI, 64, .inl (fun _ => 0)))] H := hP
  replace hD : va_D A [(h_t, .inr (0, [.ref q7, .int 0, .int 0, .int 0, .int 0, .int 0, .int 0])), (q7, .inl (cI, 64, .inl (fun _ => 0)))] := hD
  exact W.vret hx hb hr (fun t ht hW => ⟨⟨(fun j => if j = 0 then q7 else 0), rfl, trivial, by rw [ht]; exact hP, by rw [hAe]; exact hD⟩, hS.F ht⟩) hS.2.2 dX0_init_12
def rmX4_init : Room := { frames := 2, cells := 0, slots := 0, locals := 32 }
set_option maxHeartbeats 4000000 in
set_option maxRecDepth 100000 in
theorem mX4_init (l : Launch) (D : va_G) (cI : ClassId) (sz h_t : Nat) : Met l yX4_init wsX4_init rmX4_init (va_Pc [.ref h_t] (zP D [(cI, .int)] [(h_t, .inr (3, [.int 0, .int 0, .int 0, .int 0]))] sz)) (va_Qv (fun (_ : Nat → Nat) => True) (fun (u : Nat → Nat) t => zB D [(h_t, .inr (3, [.int 0, .int 0, .int 0, .int 0]))] sz [(h_t, .inr (3, [.int 0, .int 0, .int 0, .int 0]))] t) (va_A [(h_t, .inr (3, [.int 0, .int 0, .int 0, .int 0]))] sz)) 0 0 (va_A [(h_t, .inr (3, [.int 0, .int 0, .int 0, .int 0]))] sz) := by
  refine Met.ofW (cc := cX4_init) (maxL := 1) (ret := none) (by decide) rfl ?_
  intro p e s m args below meth c s₁ B hml hv
  obtain ⟨rfl, hsz, hP, hK, hD0, hN⟩ := hv
  subst hsz
  have hx := B.exec
  have hb := B.bytes
  have hr := B.returns
  have hts := atoms_spec (ws := wsX4_init) B.pre
  have hown : s.vm.findClass RX4 = some m.cls := findClass_of_methodNamed B.named
  have hlocks := B.notSynchronized
  have hin : meth.name = "<init>" := (name_of_methodNamed B.named B.method).1
  have hD := hD0.self (sz := s.heap.size)
  generalize hAe : va_A [(h_t, .inr (3, [.int 0, .int 0, .int 0, .int 0]))] s.heap.size = A at hD ⊢
  have hA : ∀ q : Nat, s.heap.size ≤ q → A q := fun q h => by rw [← hAe]; exact Or.inr h
  have hS : va_S A s.heap s.heap [] := va_S.rf
  have hl := lv_entry ([.ref h_t]) (n := 1) (Nat.le_of_ble_eq_true rfl)
  rw [lg_entry_eq]
  generalize (lg_sl ([.ref h_t]) ++ List.replicate (1 - (lg_sl ([.ref h_t])).length) Slot.unset).toArray = ls at hl ⊢
  have hl : lv_has ls 1 [(0, .ref h_t)] := hl
  refine lv_aload_n hx hb dX4_init_0 rfl (lv_at hl 0 rfl) ?_
  have hF1 := va_free (wc := ([] : va_W)) hD hS hA [] rfl
  refine va_callv (va_runIN (As := []) (rest := []) ⟨hx, hb, hml, hown, hts⟩ (mX3_init l D cI _ h_t) ⟨va_cnB 0 hts gX4_init_X3_init_n1 rfl rfl rfl (hN.nw 33 rfl) (hts (.initialized RX3) (by decide +kernel)) (by decide +kernel) ⟨Nat.le_of_ble_eq_true rfl, Nat.le_of_ble_eq_true rfl⟩, rfl, (hts (.instanceMethod yX3_init) (by decide +kernel))⟩ ⟨zP_blind, zpre hK hN hP hD [] rfl rfl⟩ rfl rfl hl.1 rfl (lv_room (Nat.le_of_ble_eq_true rfl)) dX4_init_1 ⟨Nat.le_of_ble_eq_true rfl, Nat.le_of_ble_eq_true rfl⟩) hS (fun q _ h => hF1 q h) hF1 (fun u1 t H1 locs1 ht hvm hw hB hz1 hk1 hS1 => ?_)
  obtain ⟨hP1, hD1⟩ := hB
  rw [ht] at hP1
  obtain ⟨hP', hD'⟩ := zjoin (ws' := [(h_t, .inr (3, [.int 0, .int 0, .int 0, .int 0]))]) hP hD hS hA [] [0] [0] rfl rfl rfl rfl rfl rfl hk1 hP1 hD1
  replace hP := hP'; replace hD := hD'; replace hS := hS1
  clear hP' hD' hS1 hk1 hP1 hD1 hF1 hw hz1
  clear ht hvm
  generalize H1 = H at hP hS ⊢
  generalize locs1 = locs at hS ⊢
  exact W.vret hx hb hr (fun t ht hW => ⟨⟨(fun j => 0), rfl, trivial, by rw [ht]; exact hP, by rw [hAe]; exact hD⟩, hS.F ht⟩) hS.2.2 dX4_init_4
def rmX8_init : Room := { frames := 3, cells := 14, slots := 1085, locals := 52 }
theorem iX8_init_X0 : ∀ w ∈ u_ws RX0 TX0 7, w ∈ wsX8_init := by decide +kernel
theorem iX8_init_X1 : ∀ w ∈ u_ws RX1 TX1 2, w ∈ wsX8_init := by decide +kernel
theorem iX8_init_X2 : ∀ w ∈ u_ws RX2 TX2 2, w ∈ wsX8_init := by decide +kernel
theorem iX8_init_X4 : ∀ w ∈ u_ws RX4 TX4 4, w ∈ wsX8_init := by decide +kernel
theorem iX8_init_X5 : ∀ w ∈ u_ws RX5 TX5 3, w ∈ wsX8_init := by decide +kernel
theorem iX8_init_X6 : ∀ w ∈ u_ws RX6 TX6 2, w ∈ wsX8_init := by decide +kernel
theorem iX8_init_X7 : ∀ w ∈ u_ws RX7 TX7 2, w ∈ wsX8_init := by decide +kernel
theorem iX8_init_X8 : ∀ w ∈ u_ws RX8 TX8 5, w ∈ wsX8_init := by decide +kernel
set_option maxHeartbeats 4000000 in
set_option maxRecDepth 100000 in
theorem mX8_init (l : Launch) (D : va_G) (cI : ClassId) (sz h_t : Nat) : Met l yX8_init wsX8_init rmX8_init (va_Pc [.ref h_t] (zPA D [(cI, .int)] [(h_t, .inr (7, [.null, .null, .null, .null, .null]))] sz)) (va_Qv (fun (_ : (Nat → Nat) × ClassId) => True) (fun (u : (Nat → Nat) × ClassId) t => zB D [(h_t, .inr (7, [.null, .null, .null, .null, .null]))] sz [(h_t, .inr (7, [.ref (u.1 0), .ref (u.1 2), .ref (u.1 4), .ref (u.1 6), .ref (u.1 7)])), ((u.1 0), .inr (4, [.ref (u.1 1), .int 1, .int 1])), ((u.1 1), .inl (cI, 64, .inl (upd (fun _ => 0) 0 255))), ((u.1 2), .inr (4, [.ref (u.1 3), .int 1, .int 1])), ((u.1 3), .inl (cI, 64, .inl (upd (fun _ => 0) 0 255))), ((u.1 4), .inr (2, [.ref (u.1 5), .int 0])), ((u.1 5), .inl (cI, 800, .inl (fun _ => 0))), ((u.1 6), .inr (6, [.ref (u.1 4), .int 0])), ((u.1 7), .inl (u.2, 4, .inr (.inr (.inr (.inr (zfm (u.1 8) (u.1 10) (u.1 11) (u.1 13))))))), ((u.1 8), .inr (1, [.ref (u.1 9), .int 0])), ((u.1 9), .inl (cI, 64, .inl (fun _ => 0))), ((u.1 10), .inr (5, [.int 0, .int 0])), ((u.1 11), .inr (0, [.ref (u.1 12), .int 0, .int 0, .int 0, .int 0, .int 0, .int 0])), ((u.1 12), .inl (cI, 64, .inl (fun _ => 0))), ((u.1 13), .inr (3, [.int 0, .int 0, .int 0, .int 0]))] t ∧ va_K D vwCl [(cI, .int), (u.2, .object RX3)] t) (va_A [(h_t, .inr (7, [.null, .null, .null, .null, .null]))] sz)) 14 1085 (va_A [(h_t, .inr (7, [.null, .null, .null, .null, .null]))] sz) := by
  refine Met.ofW (cc := cX8_init) (maxL := 1) (ret := none) (by decide) rfl ?_
  intro p e s m args below meth c s₁ B hml hv
  obtain ⟨rfl, ⟨hsz, hP, hK, hD0, hN⟩, hO⟩ := hv
  subst hsz
  have hx := B.exec
  have hb := B.bytes
  have hr := B.returns
  have hts := atoms_spec (ws := wsX8_init) B.pre
  have hown : s.vm.findClass RX8 = some m.cls := findClass_of_methodNamed B.named
  have hlocks := B.notSynchronized
  have hin : meth.name = "<init>" := (name_of_methodNamed B.named B.method).1
  have hD := hD0.self (sz := s.heap.size)
  generalize hAe : va_A [(h_t, .inr (7, [.null, .null, .null, .null, .null]))] s.heap.size = A at hD ⊢
  have hA : ∀ q : Nat, s.heap.size ≤ q → A q := fun q h => by rw [← hAe]; exact Or.inr h
  have hS : va_S A s.heap s.heap [] := va_S.rf
  have hl := lv_entry ([.ref h_t]) (n := 1) (Nat.le_of_ble_eq_true rfl)
  rw [lg_entry_eq]
  generalize (lg_sl ([.ref h_t]) ++ List.replicate (1 - (lg_sl ([.ref h_t])).length) Slot.unset).toArray = ls at hl ⊢
  have hl : lv_has ls 1 [(0, .ref h_t)] := hl
  refine lv_aload_n hx hb dX8_init_0 rfl (lv_at hl 0 rfl) ?_
  refine W.objInit hx hb hown (hts (.methodLink RX8 1 objectInit) (by decide +kernel)) (hts (.instanceMethod objectInit) (by decide +kernel)) (hts (.code objectInit ⟨#[0xb1]⟩ 1 none) (by decide +kernel)) rfl (by rw [hml]; exact hl.1) rfl dX8_init_1 (Nat.le_of_ble_eq_true rfl) (Nat.le_of_ble_eq_true rfl) ?_
  refine W.eq (g2 := F0 m 4 ls []) rfl ?_
  refine lv_aload_n hx hb dX8_init_4 rfl (lv_at hl 0 rfl) ?_
  refine va_new (ci := 4) (fs := [.null, .int 0, .int 0]) (C := RX5) (T := TX5) (N := 3) hx hb hts iX8_init_X5 tyX5 tyX5_ok hown (hts (.classLink RX8 7 RX5) (by decide +kernel)) (hts (.instantiable RX5 3) (by decide +kernel)) (hts (.initialized RX5) (by decide +kernel)) hK hP hD hS hA rfl (fun j hj => by rcases (show j = 0 ∨ j = 1 ∨ j = 2 by omega) with rfl | rfl | rfl <;> rfl) (Nat.le_of_ble_eq_true rfl) (Nat.le_of_ble_eq_true rfl) dX8_init_5 (fun q5 H hP hD hS => ?_)
  replace hP : va_P D vwCl [(h_t, .inr (7, [.null, .null, .null, .null, .null])), (q5, .inr (4, [.null, .int 0, .int 0]))] H := hP
  replace hD : va_D A [(h_t, .inr (7, [.null, .null, .null, .null, .null])), (q5, .inr (4, [.null, .int 0, .int 0]))] := hD
  refine lv_dup hx hb dX8_init_8 rfl ?_
  have hF9 := va_free (wc := [(q5, .inr (4, [.null, .int 0, .int 0]))]) hD hS hA [1] rfl
  refine va_callv (va_runIN (As := []) (rest := [.ref q5, .ref h_t]) ⟨hx, hb, hml, hown, hts⟩ (mX5_init l D cI _ q5) ⟨va_cnB 0 hts gX8_init_X5_init_n9 rfl rfl rfl (hN.nw 23 rfl) (hts (.initialized RX5) (by decide +kernel)) (by decide +kernel) ⟨Nat.le_of_ble_eq_true rfl, Nat.le_of_ble_eq_true rfl⟩, rfl, (hts (.instanceMethod yX5_init) (by decide +kernel))⟩ ⟨zP_blind, zpre hK hN hP hD [1] rfl rfl⟩ rfl rfl hl.1 rfl (lv_room (Nat.le_of_ble_eq_true rfl)) dX8_init_9 ⟨Nat.le_of_ble_eq_true rfl, Nat.le_of_ble_eq_true rfl⟩) hS (fun q _ h => hF9 q h) hF9 (fun u9 t H1 locs1 ht hvm hw hB hz1 hk1 hS1 => ?_)
  obtain ⟨hP1, hD1⟩ := hB
  rw [ht] at hP1
  obtain ⟨hP', hD'⟩ := zjoin (ws' := [(h_t, .inr (7, [.null, .null, .null, .null, .null])), (q5, .inr (4, [.ref (u9 0), .int 1, .int 1])), ((u9 0), .inl (cI, 64, .inl (upd (fun _ => 0) 0 255)))]) hP hD hS hA [1] [0] [0, 1, 2] rfl rfl rfl rfl rfl rfl hk1 hP1 hD1
  replace hP := hP'; replace hD := hD'; replace hS := hS1
  clear hP' hD' hS1 hk1 hP1 hD1 hF9 hw hz1
  clear ht hvm
  generalize H1 = H at hP hS ⊢
  generalize locs1 = locs at hS ⊢
  refine va_putF (D := D) (ci := 7) (v := .ref q5) (ty := .object "FourPictureFiles$Picture") (C := RX8) (T := TX8) (N := 5) hx hb hts iX8_init_X8 tyX8 tyX8_ok nmX8 hown hK hP hD hS 0 rfl rfl 0 (by decide) (hts (.fieldLink RX8 10 "FourPictureFiles" "picture" "LFourPictureFiles$Picture;") (by decide +kernel)) (fun _ h9 => h9) rfl hin rfl (by decide +kernel) rfl rfl (Nat.le_of_ble_eq_true rfl) dX8_init_12 (fun H locs hP hD hS => ?_)
  replace hP : va_P D vwCl [(h_t, .inr (7, [.ref q5, .null, .null, .null, .null])), (q5, .inr (4, [.ref (u9 0), .int 1, .int 1])), ((u9 0), .inl (cI, 64, .inl (upd (fun _ => 0) 0 255)))] H := hP
  replace hD : va_D A [(h_t, .inr (7, [.ref q5, .null, .null, .null, .null])), (q5, .inr (4, [.ref (u9 0), .int 1, .int 1])), ((u9 0), .inl (cI, 64, .inl (upd (fun _ => 0) 0 255)))] := hD
  refine lv_aload_n hx hb dX8_init_15 rfl (lv_at hl 0 rfl) ?_
  refine va_new (ci := 4) (fs := [.null, .int 0, .int 0]) (C := RX5) (T := TX5) (N := 3) hx hb hts iX8_init_X5 tyX5 tyX5_ok hown (hts (.classLink RX8 7 RX5) (by decide +kernel)) (hts (.instantiable RX5 3) (by decide +kernel)) (hts (.initialized RX5) (by decide +kernel)) hK hP hD hS hA rfl (fun j hj => by rcases (show j = 0 ∨ j = 1 ∨ j = 2 by omega) with rfl | rfl | rfl <;> rfl) (Nat.le_of_ble_eq_true rfl) (Nat.le_of_ble_eq_true rfl) dX8_init_16 (fun q16 H hP hD hS => ?_)
  replace hP : va_P D vwCl [(h_t, .inr (7, [.ref q5, .null, .null, .null, .null])), (q5, .inr (4, [.ref (u9 0), .int 1, .int 1])), ((u9 0), .inl (cI, 64, .inl (upd (fun _ => 0) 0 255))), (q16, .inr (4, [.null, .int 0, .int 0]))] H := hP
  replace hD : va_D A [(h_t, .inr (7, [.ref q5, .null, .null, .null, .null])), (q5, .inr (4, [.ref (u9 0), .int 1, .int 1])), ((u9 0), .inl (cI, 64, .inl (upd (fun _ => 0) 0 255))), (q16, .inr (4, [.null, .int 0, .int 0]))] := hD
  refine lv_dup hx hb dX8_init_19 rfl ?_
  have hF20 := va_free (wc := [(q16, .inr (4, [.null, .int 0, .int 0]))]) hD hS hA [3] rfl
  refine va_callv (va_runIN (As := []) (rest := [.ref q16, .ref h_t]) ⟨hx, hb, hml, hown, hts⟩ (mX5_init l D cI _ q16) ⟨va_cnB 0 hts gX8_init_X5_init_n9 rfl rfl rfl (hN.nw 23 rfl) (hts (.initialized RX5) (by decide +kernel)) (by decide +kernel) ⟨Nat.le_of_ble_eq_true rfl, Nat.le_of_ble_eq_true rfl⟩, rfl, (hts (.instanceMethod yX5_init) (by decide +kernel))⟩ ⟨zP_blind, zpre hK hN hP hD [3] rfl rfl⟩ rfl rfl hl.1 rfl (lv_room (Nat.le_of_ble_eq_true rfl)) dX8_init_20 ⟨Nat.le_of_ble_eq_true rfl, Nat.le_of_ble_eq_true rfl⟩) hS (fun q _ h => hF20 q h) hF20 (fun u20 t H1 locs1 ht hvm hw hB hz1 hk1 hS1 => ?_)
  obtain ⟨hP1, hD1⟩ := hB
  rw [ht] at hP1
  obtain ⟨hP', hD'⟩ := zjoin (ws' := [(h_t, .inr (7, [.ref q5, .null, .null, .null, .null])), (q5, .inr (4, [.ref (u9 0), .int 1, .int 1])), ((u9 0), .inl (cI, 64, .inl (upd (fun _ => 0) 0 255))), (q16, .inr (4, [.ref (u20 0), .int 1, .int 1])), ((u20 0), .inl (cI, 64, .inl (upd (fun _ => 0) 0 255)))]) hP hD hS hA [3] [0, 1, 2] [0, 1, 2, 3, 4] rfl rfl rfl rfl rfl rfl hk1 hP1 hD1
  replace hP := hP'; replace hD := hD'; replace hS := hS1
  clear hP' hD' hS1 hk1 hP1 hD1 hF20 hw hz1
  clear ht hvm
  generalize H1 = H at hP hS ⊢
  generalize locs1 = locs at hS ⊢
  refine va_putF (D := D) (ci := 7) (v := .ref q16) (ty := .object "FourPictureFiles$Picture") (C := RX8) (T := TX8) (N := 5) hx hb hts iX8_init_X8 tyX8 tyX8_ok nmX8 hown hK hP hD hS 0 rfl rfl 1 (by decide) (hts (.fieldLink RX8 16 "FourPictureFiles" "draft" "LFourPictureFiles$Picture;") (by decide +kernel)) (fun _ h9 => h9) rfl hin rfl (by decide +kernel) rfl rfl (Nat.le_of_ble_eq_true rfl) dX8_init_23 (fun H locs hP hD hS => ?_)
  replace hP : va_P D vwCl [(h_t, .inr (7, [.ref q5, .ref q16, .null, .null, .null])), (q5, .inr (4, [.ref (u9 0), .int 1, .int 1])), ((u9 0), .inl (cI, 64, .inl (upd (fun _ => 0) 0 255))), (q16, .inr (4, [.ref (u20 0), .int 1, .int 1])), ((u20 0), .inl (cI, 64, .inl (upd (fun _ => 0) 0 255)))] H := hP
  replace hD : va_D A [(h_t, .inr (7, [.ref q5, .ref q16, .null, .null, .null])), (q5, .inr (4, [.ref (u9 0), .int 1, .int 1])), ((u9 0), .inl (cI, 64, .inl (upd (fun _ => 0) 0 255))), (q16, .inr (4, [.ref (u20 0), .int 1, .int 1])), ((u20 0), .inl (cI, 64, .inl (upd (fun _ => 0) 0 255)))] := hD
  refine lv_aload_n hx hb dX8_init_26 rfl (lv_at hl 0 rfl) ?_
  refine va_new (ci := 2) (fs := [.null, .int 0]) (C := RX2) (T := TX2) (N := 2) hx hb hts iX8_init_X2 tyX2 tyX2_ok hown (hts (.classLink RX8 19 RX2) (by decide +kernel)) (hts (.instantiable RX2 2) (by decide +kernel)) (hts (.initialized RX2) (by decide +kernel)) hK hP hD hS hA rfl (fun j hj => by rcases (show j = 0 ∨ j = 1 by omega) with rfl | rfl <;> rfl) (Nat.le_of_ble_eq_true rfl) (Nat.le_of_ble_eq_true rfl) dX8_init_27 (fun q27 H hP hD hS => ?_)
  replace hP : va_P D vwCl [(h_t, .inr (7, [.ref q5, .ref q16, .null, .null, .null])), (q5, .inr (4, [.ref (u9 0), .int 1, .int 1])), ((u9 0), .inl (cI, 64, .inl (upd (fun _ => 0) 0 255))), (q16, .inr (4, [.ref (u20 0), .int 1, .int 1])), ((u20 0), .inl (cI, 64, .inl (upd (fun _ => 0) 0 255))), (q27, .inr (2, [.null, .int 0]))] H := hP
  replace hD : va_D A [(h_t, .inr (7, [.ref q5, .ref q16, .null, .null, .null])), (q5, .inr (4, [.ref (u9 0), .int 1, .int 1])), ((u9 0), .inl (cI, 64, .inl (upd (fun _ => 0) 0 255))), (q16, .inr (4, [.ref (u20 0), .int 1, .int 1])), ((u20 0), .inl (cI, 64, .inl (upd (fun _ => 0) 0 255))), (q27, .inr (2, [.null, .int 0]))] := hD
  refine lv_dup hx hb dX8_init_30 rfl ?_
  have hF31 := va_free (wc := [(q27, .inr (2, [.null, .int 0]))]) hD hS hA [5] rfl
  refine va_callv (va_runIN (As := []) (rest := [.ref q27, .ref h_t]) ⟨hx, hb, hml, hown, hts⟩ (mX2_init l D cI _ q27) ⟨va_cnB 0 hts gX8_init_X2_init_n21 rfl rfl rfl (hN.nw 24 rfl) (hts (.initialized RX2) (by decide +kernel)) (by decide +kernel) ⟨Nat.le_of_ble_eq_true rfl, Nat.le_of_ble_eq_true rfl⟩, rfl, (hts (.instanceMethod yX2_init) (by decide +kernel))⟩ ⟨zP_blind, zpre hK hN hP hD [5] rfl rfl⟩ rfl rfl hl.1 rfl (lv_room (Nat.le_of_ble_eq_true rfl)) dX8_init_31 ⟨Nat.le_of_ble_eq_true rfl, Nat.le_of_ble_eq_true rfl⟩) hS (fun q _ h => hF31 q h) hF31 (fun u31 t H1 locs1 ht hvm hw hB hz1 hk1 hS1 => ?_)
  obtain ⟨hP1, hD1⟩ := hB
  rw [ht] at hP1
  obtain ⟨hP', hD'⟩ := zjoin (ws' := [(h_t, .inr (7, [.ref q5, .ref q16, .null, .null, .null])), (q5, .inr (4, [.ref (u9 0), .int 1, .int 1])), ((u9 0), .inl (cI, 64, .inl (upd (fun _ => 0) 0 255))), (q16, .inr (4, [.ref (u20 0), .int 1, .int 1])), ((u20 0), .inl (cI, 64, .inl (upd (fun _ => 0) 0 255))), (q27, .inr (2, [.ref (u31 0), .int 0])), ((u31 0), .inl (cI, 800, .inl (fun _ => 0)))]) hP hD hS hA [5] [0, 1, 2, 3, 4] [0, 1, 2, 3, 4, 5, 6] rfl rfl rfl rfl rfl rfl hk1 hP1 hD1
  replace hP := hP'; replace hD := hD'; replace hS := hS1
  clear hP' hD' hS1 hk1 hP1 hD1 hF31 hw hz1
  clear ht hvm
  generalize H1 = H at hP hS ⊢
  generalize locs1 = locs at hS ⊢
  refine va_putF (D := D) (ci := 7) (v := .ref q27) (ty := .object "FourPictureFiles$FileRow") (C := RX8) (T := TX8) (N := 5) hx hb hts iX8_init_X8 tyX8 tyX8_ok nmX8 hown hK hP hD hS 0 rfl rfl 2 (by decide) (hts (.fieldLink RX8 22 "FourPictureFiles" "file" "LFourPictureFiles$FileRow;") (by decide +kernel)) (fun _ h9 => h9) rfl hin rfl (by decide +kernel) rfl rfl (Nat.le_of_ble_eq_true rfl) dX8_init_34 (fun H locs hP hD hS => ?_)
  replace hP : va_P D vwCl [(h_t, .inr (7, [.ref q5, .ref q16, .ref q27, .null, .null])), (q5, .inr (4, [.ref (u9 0), .int 1, .int 1])), ((u9 0), .inl (cI, 64, .inl (upd (fun _ => 0) 0 255))), (q16, .inr (4, [.ref (u20 0), .int 1, .int 1])), ((u20 0), .inl (cI, 64, .inl (upd (fun _ => 0) 0 255))), (q27, .inr (2, [.ref (u31 0), .int 0])), ((u31 0), .inl (cI, 800, .inl (fun _ => 0)))] H := hP
  replace hD : va_D A [(h_t, .inr (7, [.ref q5, .ref q16, .ref q27, .null, .null])), (q5, .inr (4, [.ref (u9 0), .int 1, .int 1])), ((u9 0), .inl (cI, 64, .inl (upd (fun _ => 0) 0 255))), (q16, .inr (4, [.ref (u20 0), .int 1, .int 1])), ((u20 0), .inl (cI, 64, .inl (upd (fun _ => 0) 0 255))), (q27, .inr (2, [.ref (u31 0), .int 0])), ((u31 0), .inl (cI, 800, .inl (fun _ => 0)))] := hD
  refine lv_aload_n hx hb dX8_init_37 rfl (lv_at hl 0 rfl) ?_
  refine va_new (ci := 6) (fs := [.null, .int 0]) (C := RX7) (T := TX7) (N := 2) hx hb hts iX8_init_X7 tyX7 tyX7_ok hown (hts (.classLink RX8 26 RX7) (by decide +kernel)) (hts (.instantiable RX7 2) (by decide +kernel)) (hts (.initialized RX7) (by decide +kernel)) hK hP hD hS hA rfl (fun j hj => by rcases (show j = 0 ∨ j = 1 by omega) with rfl | rfl <;> rfl) (Nat.le_of_ble_eq_true rfl) (Nat.le_of_ble_eq_true rfl) dX8_init_38 (fun q38 H hP hD hS => ?_)
  replace hP : va_P D vwCl [(h_t, .inr (7, [.ref q5, .ref q16, .ref q27, .null, .null])), (q5, .inr (4, [.ref (u9 0), .int 1, .int 1])), ((u9 0), .inl (cI, 64, .inl (upd (fun _ => 0) 0 255))), (q16, .inr (4, [.ref (u20 0), .int 1, .int 1])), ((u20 0), .inl (cI, 64, .inl (upd (fun _ => 0) 0 255))), (q27, .inr (2, [.ref (u31 0), .int 0])), ((u31 0), .inl (cI, 800, .inl (fun _ => 0))), (q38, .inr (6, [.null, .int 0]))] H := hP
  replace hD : va_D A [(h_t, .inr (7, [.ref q5, .ref q16, .ref q27, .null, .null])), (q5, .inr (4, [.ref (u9 0), .int 1, .int 1])), ((u9 0), .inl (cI, 64, .inl (upd (fun _ => 0) 0 255))), (q16, .inr (4, [.ref (u20 0), .int 1, .int 1])), ((u20 0), .inl (cI, 64, .inl (upd (fun _ => 0) 0 255))), (q27, .inr (2, [.ref (u31 0), .int 0])), ((u31 0), .inl (cI, 800, .inl (fun _ => 0))), (q38, .inr (6, [.null, .int 0]))] := hD
  refine lv_dup hx hb dX8_init_41 rfl ?_
  refine lv_aload_n hx hb dX8_init_42 rfl (lv_at hl 0 rfl) ?_
  refine va_get (D := D) (ci := 7) (v := .ref q27) (C := RX8) (T := TX8) (N := 5) hx hb hts iX8_init_X8 hown hK hP 0 rfl rfl 2 (by decide) (hts (.fieldLink RX8 22 "FourPictureFiles" "file" "LFourPictureFiles$FileRow;") (by decide +kernel)) (fun _ h9 => h9) rfl dX8_init_43 ?_
  have hF46 := va_free (wc := [(q38, .inr (6, [.null, .int 0]))]) hD hS hA [7] rfl
  refine va_callv (va_runIN (As := [.ref q27]) (rest := [.ref q38, .ref h_t]) ⟨hx, hb, hml, hown, hts⟩ (mX7_init l D cI _ q38 q27) ⟨va_cnB 1 hts gX8_init_X7_init_n28 rfl rfl rfl (hN.nw 25 rfl) (hts (.initialized RX7) (by decide +kernel)) (by decide +kernel) ⟨Nat.le_of_ble_eq_true rfl, Nat.le_of_ble_eq_true rfl⟩, rfl, (hts (.instanceMethod yX7_init) (by decide +kernel))⟩ ⟨zP_blind, zpre hK hN hP hD [7] rfl rfl⟩ rfl rfl hl.1 rfl (lv_room (Nat.le_of_ble_eq_true rfl)) dX8_init_46 ⟨Nat.le_of_ble_eq_true rfl, Nat.le_of_ble_eq_true rfl⟩) hS (fun q _ h => hF46 q h) hF46 (fun u46 t H1 locs1 ht hvm hw hB hz1 hk1 hS1 => ?_)
  obtain ⟨hP1, hD1⟩ := hB
  rw [ht] at hP1
  obtain ⟨hP', hD'⟩ := zjoin (ws' := [(h_t, .inr (7, [.ref q5, .ref q16, .ref q27, .null, .null])), (q5, .inr (4, [.ref (u9 0), .int 1, .int 1])), ((u9 0), .inl (cI, 64, .inl (upd (fun _ => 0) 0 255))), (q16, .inr (4, [.ref (u20 0), .int 1, .int 1])), ((u20 0), .inl (cI, 64, .inl (upd (fun _ => 0) 0 255))), (q27, .inr (2, [.ref (u31 0), .int 0])), ((u31 0), .inl (cI, 800, .inl (fun _ => 0))), (q38, .inr (6, [.ref q27, .int 0]))]) hP hD hS hA [7] [0, 1, 2, 3, 4, 5, 6] [0, 1, 2, 3, 4, 5, 6, 7] rfl rfl rfl rfl rfl rfl hk1 hP1 hD1
  replace hP := hP'; replace hD := hD'; replace hS := hS1
  clear hP' hD' hS1 hk1 hP1 hD1 hF46 hw hz1
  clear ht hvm
  generalize H1 = H at hP hS ⊢
  generalize locs1 = locs at hS ⊢
  refine va_putF (D := D) (ci := 7) (v := .ref q38) (ty := .object "FourPictureFiles$Source") (C := RX8) (T := TX8) (N := 5) hx hb hts iX8_init_X8 tyX8 tyX8_ok nmX8 hown hK hP hD hS 0 rfl rfl 3 (by decide) (hts (.fieldLink RX8 31 "FourPictureFiles" "source" "LFourPictureFiles$Source;") (by decide +kernel)) (fun _ h9 => h9) rfl hin rfl (by decide +kernel) rfl rfl (Nat.le_of_ble_eq_true rfl) dX8_init_49 (fun H locs hP hD hS => ?_)
  replace hP : va_P D vwCl [(h_t, .inr (7, [.ref q5, .ref q16, .ref q27, .ref q38, .null])), (q5, .inr (4, [.ref (u9 0), .int 1, .int 1])), ((u9 0), .inl (cI, 64, .inl (upd (fun _ => 0) 0 255))), (q16, .inr (4, [.ref (u20 0), .int 1, .int 1])), ((u20 0), .inl (cI, 64, .inl (upd (fun _ => 0) 0 255))), (q27, .inr (2, [.ref (u31 0), .int 0])), ((u31 0), .inl (cI, 800, .inl (fun _ => 0))), (q38, .inr (6, [.ref q27, .int 0]))] H := hP
  replace hD : va_D A [(h_t, .inr (7, [.ref q5, .ref q16, .ref q27, .ref q38, .null])), (q5, .inr (4, [.ref (u9 0), .int 1, .int 1])), ((u9 0), .inl (cI, 64, .inl (upd (fun _ => 0) 0 255))), (q16, .inr (4, [.ref (u20 0), .int 1, .int 1])), ((u20 0), .inl (cI, 64, .inl (upd (fun _ => 0) 0 255))), (q27, .inr (2, [.ref (u31 0), .int 0])), ((u31 0), .inl (cI, 800, .inl (fun _ => 0))), (q38, .inr (6, [.ref q27, .int 0]))] := hD
  refine lv_aload_n hx hb dX8_init_52 rfl (lv_at hl 0 rfl) ?_
  refine lv_iconst (v := 4) hx hb dX8_init_53 (by decide) ?_
  refine va_newq hx hb hown (hts (.classLink RX8 35 RX3) (by decide +kernel)) hO hK hP hD hS hA (N' := 4) (by decide) (by decide) (by decide) (Nat.le_of_ble_eq_true rfl) (Nat.le_of_ble_eq_true rfl) dX8_init_54 (fun q54 cF H hK2 hP hD hS => ?_)
  replace hK2 : va_K D vwCl [(cI, .int), (cF, .object RX3)] s := hK2
  replace hP : va_P D vwCl [(h_t, .inr (7, [.ref q5, .ref q16, .ref q27, .ref q38, .null])), (q5, .inr (4, [.ref (u9 0), .int 1, .int 1])), ((u9 0), .inl (cI, 64, .inl (upd (fun _ => 0) 0 255))), (q16, .inr (4, [.ref (u20 0), .int 1, .int 1])), ((u20 0), .inl (cI, 64, .inl (upd (fun _ => 0) 0 255))), (q27, .inr (2, [.ref (u31 0), .int 0])), ((u31 0), .inl (cI, 800, .inl (fun _ => 0))), (q38, .inr (6, [.ref q27, .int 0])), (q54, .inl (cF, 4, .inr (.inr (.inr (.inr (fun _ => none))))))] H := hP
  replace hD : va_D A [(h_t, .inr (7, [.ref q5, .ref q16, .ref q27, .ref q38, .null])), (q5, .inr (4, [.ref (u9 0), .int 1, .int 1])), ((u9 0), .inl (cI, 64, .inl (upd (fun _ => 0) 0 255))), (q16, .inr (4, [.ref (u20 0), .int 1, .int 1])), ((u20 0), .inl (cI, 64, .inl (upd (fun _ => 0) 0 255))), (q27, .inr (2, [.ref (u31 0), .int 0])), ((u31 0), .inl (cI, 800, .inl (fun _ => 0))), (q38, .inr (6, [.ref q27, .int 0])), (q54, .inl (cF, 4, .inr (.inr (.inr (.inr (fun _ => none))))))] := hD
  refine va_putF (D := D) (ci := 7) (v := .ref q54) (ty := .array (.object "FourPictureFiles$Format")) (C := RX8) (T := TX8) (N := 5) hx hb hts iX8_init_X8 tyX8 tyX8_ok nmX8 hown hK hP hD hS 0 rfl rfl 4 (by decide) (hts (.fieldLink RX8 37 "FourPictureFiles" "formats" "[LFourPictureFiles$Format;") (by decide +kernel)) (fun _ h9 => h9) rfl hin rfl (by decide +kernel) rfl rfl (Nat.le_of_ble_eq_true rfl) dX8_init_57 (fun H locs hP hD hS => ?_)
  replace hP : va_P D vwCl [(h_t, .inr (7, [.ref q5, .ref q16, .ref q27, .ref q38, .ref q54])), (q5, .inr (4, [.ref (u9 0), .int 1, .int 1])), ((u9 0), .inl (cI, 64, .inl (upd (fun _ => 0) 0 255))), (q16, .inr (4, [.ref (u20 0), .int 1, .int 1])), ((u20 0), .inl (cI, 64, .inl (upd (fun _ => 0) 0 255))), (q27, .inr (2, [.ref (u31 0), .int 0])), ((u31 0), .inl (cI, 800, .inl (fun _ => 0))), (q38, .inr (6, [.ref q27, .int 0])), (q54, .inl (cF, 4, .inr (.inr (.inr (.inr (fun _ => none))))))] H := hP
  replace hD : va_D A [(h_t, .inr (7, [.ref q5, .ref q16, .ref q27, .ref q38, .ref q54])), (q5, .inr (4, [.ref (u9 0), .int 1, .int 1])), ((u9 0), .inl (cI, 64, .inl (upd (fun _ => 0) 0 255))), (q16, .inr (4, [.ref (u20 0), .int 1, .int 1])), ((u20 0), .inl (cI, 64, .inl (upd (fun _ => 0) 0 255))), (q27, .inr (2, [.ref (u31 0), .int 0])), ((u31 0), .inl (cI, 800, .inl (fun _ => 0))), (q38, .inr (6, [.ref q27, .int 0])), (q54, .inl (cF, 4, .inr (.inr (.inr (.inr (fun _ => none))))))] := hD
  refine lv_aload_n hx hb dX8_init_60 rfl (lv_at hl 0 rfl) ?_
  refine va_get (D := D) (ci := 7) (v := .ref q54) (C := RX8) (T := TX8) (N := 5) hx hb hts iX8_init_X8 hown hK hP 0 rfl rfl 4 (by decide) (hts (.fieldLink RX8 37 "FourPictureFiles" "formats" "[LFourPictureFiles$Format;") (by decide +kernel)) (fun _ h9 => h9) rfl dX8_init_61 ?_
  refine lv_iconst (v := 0) hx hb dX8_init_64 (by decide) ?_
  refine va_new (ci := 1) (fs := [.null, .int 0]) (C := RX1) (T := TX1) (N := 2) hx hb hts iX8_init_X1 tyX1 tyX1_ok hown (hts (.classLink RX8 41 RX1) (by decide +kernel)) (hts (.instantiable RX1 2) (by decide +kernel)) (hts (.initialized RX1) (by decide +kernel)) hK hP hD hS hA rfl (fun j hj => by rcases (show j = 0 ∨ j = 1 by omega) with rfl | rfl <;> rfl) (Nat.le_of_ble_eq_true rfl) (Nat.le_of_ble_eq_true rfl) dX8_init_65 (fun q65 H hP hD hS => ?_)
  replace hP : va_P D vwCl [(h_t, .inr (7, [.ref q5, .ref q16, .ref q27, .ref q38, .ref q54])), (q5, .inr (4, [.ref (u9 0), .int 1, .int 1])), ((u9 0), .inl (cI, 64, .inl (upd (fun _ => 0) 0 255))), (q16, .inr (4, [.ref (u20 0), .int 1, .int 1])), ((u20 0), .inl (cI, 64, .inl (upd (fun _ => 0) 0 255))), (q27, .inr (2, [.ref (u31 0), .int 0])), ((u31 0), .inl (cI, 800, .inl (fun _ => 0))), (q38, .inr (6, [.ref q27, .int 0])), (q54, .inl (cF, 4, .inr (.inr (.inr (.inr (fun _ => none)))))), (q65, .inr (1, [.null, .int 0]))] H := hP
  replace hD : va_D A [(h_t, .inr (7, [.ref q5, .ref q16, .ref q27, .ref q38, .ref q54])), (q5, .inr (4, [.ref (u9 0), .int 1, .int 1])), ((u9 0), .inl (cI, 64, .inl (upd (fun _ => 0) 0 255))), (q16, .inr (4, [.ref (u20 0), .int 1, .int 1])), ((u20 0), .inl (cI, 64, .inl (upd (fun _ => 0) 0 255))), (q27, .inr (2, [.ref (u31 0), .int 0])), ((u31 0), .inl (cI, 800, .inl (fun _ => 0))), (q38, .inr (6, [.ref q27, .int 0])), (q54, .inl (cF, 4, .inr (.inr (.inr (.inr (fun _ => none)))))), (q65, .inr (1, [.null, .int 0]))] := hD
  refine lv_dup hx hb dX8_init_68 rfl ?_
  have hF69 := va_free (wc := [(q65, .inr (1, [.null, .int 0]))]) hD hS hA [9] rfl
  refine va_callv (va_runIN (As := []) (rest := [.ref q65, .int 0, .ref q54]) ⟨hx, hb, hml, hown, hts⟩ (mX1_init l D cI _ q65) ⟨va_cnB 0 hts gX8_init_X1_init_n43 rfl rfl rfl (hN.nw 26 rfl) (hts (.initialized RX1) (by decide +kernel)) (by decide +kernel) ⟨Nat.le_of_ble_eq_true rfl, Nat.le_of_ble_eq_true rfl⟩, rfl, (hts (.instanceMethod yX1_init) (by decide +kernel))⟩ ⟨zP_blind, zpre hK hN hP hD [9] rfl rfl⟩ rfl rfl hl.1 rfl (lv_room (Nat.le_of_ble_eq_true rfl)) dX8_init_69 ⟨Nat.le_of_ble_eq_true rfl, Nat.le_of_ble_eq_true rfl⟩) hS (fun q _ h => hF69 q h) hF69 (fun u69 t H1 locs1 ht hvm hw hB hz1 hk1 hS1 => ?_)
  obtain ⟨hP1, hD1⟩ := hB
  rw [ht] at hP1
  obtain ⟨hP', hD'⟩ := zjoin (ws' := [(h_t, .inr (7, [.ref q5, .ref q16, .ref q27, .ref q38, .ref q54])), (q5, .inr (4, [.ref (u9 0), .int 1, .int 1])), ((u9 0), .inl (cI, 64, .inl (upd (fun _ => 0) 0 255))), (q16, .inr (4, [.ref (u20 0), .int 1, .int 1])), ((u20 0), .inl (cI, 64, .inl (upd (fun _ => 0) 0 255))), (q27, .inr (2, [.ref (u31 0), .int 0])), ((u31 0), .inl (cI, 800, .inl (fun _ => 0))), (q38, .inr (6, [.ref q27, .int 0])), (q54, .inl (cF, 4, .inr (.inr (.inr (.inr (fun _ => none)))))), (q65, .inr (1, [.ref (u69 0), .int 0])), ((u69 0), .inl (cI, 64, .inl (fun _ => 0)))]) hP hD hS hA [9] [0, 1, 2, 3, 4, 5, 6, 7, 8] [0, 1, 2, 3, 4, 5, 6, 7, 8, 9, 10] rfl rfl rfl rfl rfl rfl hk1 hP1 hD1
  replace hP := hP'; replace hD := hD'; replace hS := hS1
  clear hP' hD' hS1 hk1 hP1 hD1 hF69 hw hz1
  clear ht hvm
  generalize H1 = H at hP hS ⊢
  generalize locs1 = locs at hS ⊢
  refine va_astqO hx hb hK2 hP hD hS 8 1 9 1 (E := RX3) (r := (RX1, TX1, 2)) rfl rfl (hN.nw 61 rfl) rfl rfl (zinb_in rfl) dX8_init_72 (fun H locs hP hD hS => ?_)
  replace hP : va_P D vwCl [(h_t, .inr (7, [.ref q5, .ref q16, .ref q27, .ref q38, .ref q54])), (q5, .inr (4, [.ref (u9 0), .int 1, .int 1])), ((u9 0), .inl (cI, 64, .inl (upd (fun _ => 0) 0 255))), (q16, .inr (4, [.ref (u20 0), .int 1, .int 1])), ((u20 0), .inl (cI, 64, .inl (upd (fun _ => 0) 0 255))), (q27, .inr (2, [.ref (u31 0), .int 0])), ((u31 0), .inl (cI, 800, .inl (fun _ => 0))), (q38, .inr (6, [.ref q27, .int 0])), (q54, .inl (cF, 4, .inr (.inr (.inr (.inr (va_up (fun _ => none) 0 (some q65))))))), (q65, .inr (1, [.ref (u69 0), .int 0])), ((u69 0), .inl (cI, 64, .inl (fun _ => 0)))] H := hP
  replace hD : va_D A [(h_t, .inr (7, [.ref q5, .ref q16, .ref q27, .ref q38, .ref q54])), (q5, .inr (4, [.ref (u9 0), .int 1, .int 1])), ((u9 0), .inl (cI, 64, .inl (upd (fun _ => 0) 0 255))), (q16, .inr (4, [.ref (u20 0), .int 1, .int 1])), ((u20 0), .inl (cI, 64, .inl (upd (fun _ => 0) 0 255))), (q27, .inr (2, [.ref (u31 0), .int 0])), ((u31 0), .inl (cI, 800, .inl (fun _ => 0))), (q38, .inr (6, [.ref q27, .int 0])), (q54, .inl (cF, 4, .inr (.inr (.inr (.inr (va_up (fun _ => none) 0 (some q65))))))), (q65, .inr (1, [.ref (u69 0), .int 0])), ((u69 0), .inl (cI, 64, .inl (fun _ => 0)))] := hD
  refine lv_aload_n hx hb dX8_init_73 rfl (lv_at hl 0 rfl) ?_
  refine va_get (D := D) (ci := 7) (v := .ref q54) (C := RX8) (T := TX8) (N := 5) hx hb hts iX8_init_X8 hown hK hP 0 rfl rfl 4 (by decide) (hts (.fieldLink RX8 37 "FourPictureFiles" "formats" "[LFourPictureFiles$Format;") (by decide +kernel)) (fun _ h9 => h9) rfl dX8_init_74 ?_
  refine lv_iconst (v := 1) hx hb dX8_init_77 (by decide) ?_
  refine va_new (ci := 5) (fs := [.int 0, .int 0]) (C := RX6) (T := TX6) (N := 2) hx hb hts iX8_init_X6 tyX6 tyX6_ok hown (hts (.classLink RX8 44 RX6) (by decide +kernel)) (hts (.instantiable RX6 2) (by decide +kernel)) (hts (.initialized RX6) (by decide +kernel)) hK hP hD hS hA rfl (fun j hj => by rcases (show j = 0 ∨ j = 1 by omega) with rfl | rfl <;> rfl) (Nat.le_of_ble_eq_true rfl) (Nat.le_of_ble_eq_true rfl) dX8_init_78 (fun q78 H hP hD hS => ?_)
  replace hP : va_P D vwCl [(h_t, .inr (7, [.ref q5, .ref q16, .ref q27, .ref q38, .ref q54])), (q5, .inr (4, [.ref (u9 0), .int 1, .int 1])), ((u9 0), .inl (cI, 64, .inl (upd (fun _ => 0) 0 255))), (q16, .inr (4, [.ref (u20 0), .int 1, .int 1])), ((u20 0), .inl (cI, 64, .inl (upd (fun _ => 0) 0 255))), (q27, .inr (2, [.ref (u31 0), .int 0])), ((u31 0), .inl (cI, 800, .inl (fun _ => 0))), (q38, .inr (6, [.ref q27, .int 0])), (q54, .inl (cF, 4, .inr (.inr (.inr (.inr (va_up (fun _ => none) 0 (some q65))))))), (q65, .inr (1, [.ref (u69 0), .int 0])), ((u69 0), .inl (cI, 64, .inl (fun _ => 0))), (q78, .inr (5, [.int 0, .int 0]))] H := hP
  replace hD : va_D A [(h_t, .inr (7, [.ref q5, .ref q16, .ref q27, .ref q38, .ref q54])), (q5, .inr (4, [.ref (u9 0), .int 1, .int 1])), ((u9 0), .inl (cI, 64, .inl (upd (fun _ => 0) 0 255))), (q16, .inr (4, [.ref (u20 0), .int 1, .int 1])), ((u20 0), .inl (cI, 64, .inl (upd (fun _ => 0) 0 255))), (q27, .inr (2, [.ref (u31 0), .int 0])), ((u31 0), .inl (cI, 800, .inl (fun _ => 0))), (q38, .inr (6, [.ref q27, .int 0])), (q54, .inl (cF, 4, .inr (.inr (.inr (.inr (va_up (fun _ => none) 0 (some q65))))))), (q65, .inr (1, [.ref (u69 0), .int 0])), ((u69 0), .inl (cI, 64, .inl (fun _ => 0))), (q78, .inr (5, [.int 0, .int 0]))] := hD
  refine lv_dup hx hb dX8_init_81 rfl ?_
  have hF82 := va_free (wc := [(q78, .inr (5, [.int 0, .int 0]))]) hD hS hA [11] rfl
  refine va_callv (va_runIN (As := []) (rest := [.ref q78, .int 1, .ref q54]) ⟨hx, hb, hml, hown, hts⟩ (mX6_init l D cI _ q78) ⟨va_cnB 0 hts gX8_init_X6_init_n46 rfl rfl rfl (hN.nw 28 rfl) (hts (.initialized RX6) (by decide +kernel)) (by decide +kernel) ⟨Nat.le_of_ble_eq_true rfl, Nat.le_of_ble_eq_true rfl⟩, rfl, (hts (.instanceMethod yX6_init) (by decide +kernel))⟩ ⟨zP_blind, zpre hK hN hP hD [11] rfl rfl⟩ rfl rfl hl.1 rfl (lv_room (Nat.le_of_ble_eq_true rfl)) dX8_init_82 ⟨Nat.le_of_ble_eq_true rfl, Nat.le_of_ble_eq_true rfl⟩) hS (fun q _ h => hF82 q h) hF82 (fun u82 t H1 locs1 ht hvm hw hB hz1 hk1 hS1 => ?_)
  obtain ⟨hP1, hD1⟩ := hB
  rw [ht] at hP1
  obtain ⟨hP', hD'⟩ := zjoin (ws' := [(h_t, .inr (7, [.ref q5, .ref q16, .ref q27, .ref q38, .ref q54])), (q5, .inr (4, [.ref (u9 0), .int 1, .int 1])), ((u9 0), .inl (cI, 64, .inl (upd (fun _ => 0) 0 255))), (q16, .inr (4, [.ref (u20 0), .int 1, .int 1])), ((u20 0), .inl (cI, 64, .inl (upd (fun _ => 0) 0 255))), (q27, .inr (2, [.ref (u31 0), .int 0])), ((u31 0), .inl (cI, 800, .inl (fun _ => 0))), (q38, .inr (6, [.ref q27, .int 0])), (q54, .inl (cF, 4, .inr (.inr (.inr (.inr (va_up (fun _ => none) 0 (some q65))))))), (q65, .inr (1, [.ref (u69 0), .int 0])), ((u69 0), .inl (cI, 64, .inl (fun _ => 0))), (q78, .inr (5, [.int 0, .int 0]))]) hP hD hS hA [11] [0, 1, 2, 3, 4, 5, 6, 7, 8, 9, 10] [0, 1, 2, 3, 4, 5, 6, 7, 8, 9, 10, 11] rfl rfl rfl rfl rfl rfl hk1 hP1 hD1
  replace hP := hP'; replace hD := hD'; replace hS := hS1
  clear hP' hD' hS1 hk1 hP1 hD1 hF82 hw hz1
  clear ht hvm
  generalize H1 = H at hP hS ⊢
  generalize locs1 = locs at hS ⊢
  refine va_astqO hx hb hK2 hP hD hS 8 1 11 5 (E := RX3) (r := (RX6, TX6, 2)) rfl rfl (hN.nw 62 rfl) rfl rfl (zinb_in rfl) dX8_init_85 (fun H locs hP hD hS => ?_)
  replace hP : va_P D vwCl [(h_t, .inr (7, [.ref q5, .ref q16, .ref q27, .ref q38, .ref q54])), (q5, .inr (4, [.ref (u9 0), .int 1, .int 1])), ((u9 0), .inl (cI, 64, .inl (upd (fun _ => 0) 0 255))), (q16, .inr (4, [.ref (u20 0), .int 1, .int 1])), ((u20 0), .inl (cI, 64, .inl (upd (fun _ => 0) 0 255))), (q27, .inr (2, [.ref (u31 0), .int 0])), ((u31 0), .inl (cI, 800, .inl (fun _ => 0))), (q38, .inr (6, [.ref q27, .int 0])), (q54, .inl (cF, 4, .inr (.inr (.inr (.inr (va_up (va_up (fun _ => none) 0 (some q65)) 1 (some q78))))))), (q65, .inr (1, [.ref (u69 0), .int 0])), ((u69 0), .inl (cI, 64, .inl (fun _ => 0))), (q78, .inr (5, [.int 0, .int 0]))] H := hP
  replace hD : va_D A [(h_t, .inr (7, [.ref q5, .ref q16, .ref q27, .ref q38, .ref q54])), (q5, .inr (4, [.ref (u9 0), .int 1, .int 1])), ((u9 0), .inl (cI, 64, .inl (upd (fun _ => 0) 0 255))), (q16, .inr (4, [.ref (u20 0), .int 1, .int 1])), ((u20 0), .inl (cI, 64, .inl (upd (fun _ => 0) 0 255))), (q27, .inr (2, [.ref (u31 0), .int 0])), ((u31 0), .inl (cI, 800, .inl (fun _ => 0))), (q38, .inr (6, [.ref q27, .int 0])), (q54, .inl (cF, 4, .inr (.inr (.inr (.inr (va_up (va_up (fun _ => none) 0 (some q65)) 1 (some q78))))))), (q65, .inr (1, [.ref (u69 0), .int 0])), ((u69 0), .inl (cI, 64, .inl (fun _ => 0))), (q78, .inr (5, [.int 0, .int 0]))] := hD
  refine lv_aload_n hx hb dX8_init_86 rfl (lv_at hl 0 rfl) ?_
  refine va_get (D := D) (ci := 7) (v := .ref q54) (C := RX8) (T := TX8) (N := 5) hx hb hts iX8_init_X8 hown hK hP 0 rfl rfl 4 (by decide) (hts (.fieldLink RX8 37 "FourPictureFiles" "formats" "[LFourPictureFiles$Format;") (by decide +kernel)) (fun _ h9 => h9) rfl dX8_init_87 ?_
  refine lv_iconst (v := 2) hx hb dX8_init_90 (by decide) ?_
  refine va_new (ci := 0) (fs := [.null, .int 0, .int 0, .int 0, .int 0, .int 0, .int 0]) (C := RX0) (T := TX0) (N := 7) hx hb hts iX8_init_X0 tyX0 tyX0_ok hown (hts (.classLink RX8 47 RX0) (by decide +kernel)) (hts (.instantiable RX0 7) (by decide +kernel)) (hts (.initialized RX0) (by decide +kernel)) hK hP hD hS hA rfl (fun j hj => by rcases (show j = 0 ∨ j = 1 ∨ j = 2 ∨ j = 3 ∨ j = 4 ∨ j = 5 ∨ j = 6 by omega) with rfl | rfl | rfl | rfl | rfl | rfl | rfl <;> rfl) (Nat.le_of_ble_eq_true rfl) (Nat.le_of_ble_eq_true rfl) dX8_init_91 (fun q91 H hP hD hS => ?_)
  replace hP : va_P D vwCl [(h_t, .inr (7, [.ref q5, .ref q16, .ref q27, .ref q38, .ref q54])), (q5, .inr (4, [.ref (u9 0), .int 1, .int 1])), ((u9 0), .inl (cI, 64, .inl (upd (fun _ => 0) 0 255))), (q16, .inr (4, [.ref (u20 0), .int 1, .int 1])), ((u20 0), .inl (cI, 64, .inl (upd (fun _ => 0) 0 255))), (q27, .inr (2, [.ref (u31 0), .int 0])), ((u31 0), .inl (cI, 800, .inl (fun _ => 0))), (q38, .inr (6, [.ref q27, .int 0])), (q54, .inl (cF, 4, .inr (.inr (.inr (.inr (va_up (va_up (fun _ => none) 0 (some q65)) 1 (some q78))))))), (q65, .inr (1, [.ref (u69 0), .int 0])), ((u69 0), .inl (cI, 64, .inl (fun _ => 0))), (q78, .inr (5, [.int 0, .int 0])), (q91, .inr (0, [.null, .int 0, .int 0, .int 0, .int 0, .int 0, .int 0]))] H := hP
  replace hD : va_D A [(h_t, .inr (7, [.ref q5, .ref q16, .ref q27, .ref q38, .ref q54])), (q5, .inr (4, [.ref (u9 0), .int 1, .int 1])), ((u9 0), .inl (cI, 64, .inl (upd (fun _ => 0) 0 255))), (q16, .inr (4, [.ref (u20 0), .int 1, .int 1])), ((u20 0), .inl (cI, 64, .inl (upd (fun _ => 0) 0 255))), (q27, .inr (2, [.ref (u31 0), .int 0])), ((u31 0), .inl (cI, 800, .inl (fun _ => 0))), (q38, .inr (6, [.ref q27, .int 0])), (q54, .inl (cF, 4, .inr (.inr (.inr (.inr (va_up (va_up (fun _ => none) 0 (some q65)) 1 (some q78))))))), (q65, .inr (1, [.ref (u69 0), .int 0])), ((u69 0), .inl (cI, 64, .inl (fun _ => 0))), (q78, .inr (5, [.int 0, .int 0])), (q91, .inr (0, [.null, .int 0, .int 0, .int 0, .int 0, .int 0, .int 0]))] := hD
  refine lv_dup hx hb dX8_init_94 rfl ?_
  have hF95 := va_free (wc := [(q91, .inr (0, [.null, .int 0, .int 0, .int 0, .int 0, .int 0, .int 0]))]) hD hS hA [12] rfl
  refine va_callv (va_runIN (As := []) (rest := [.ref q91, .int 2, .ref q54]) ⟨hx, hb, hml, hown, hts⟩ (mX0_init l D cI _ q91) ⟨va_cnB 0 hts gX8_init_X0_init_n49 rfl rfl rfl (hN.nw 30 rfl) (hts (.initialized RX0) (by decide +kernel)) (by decide +kernel) ⟨Nat.le_of_ble_eq_true rfl, Nat.le_of_ble_eq_true rfl⟩, rfl, (hts (.instanceMethod yX0_init) (by decide +kernel))⟩ ⟨zP_blind, zpre hK hN hP hD [12] rfl rfl⟩ rfl rfl hl.1 rfl (lv_room (Nat.le_of_ble_eq_true rfl)) dX8_init_95 ⟨Nat.le_of_ble_eq_true rfl, Nat.le_of_ble_eq_true rfl⟩) hS (fun q _ h => hF95 q h) hF95 (fun u95 t H1 locs1 ht hvm hw hB hz1 hk1 hS1 => ?_)
  obtain ⟨hP1, hD1⟩ := hB
  rw [ht] at hP1
  obtain ⟨hP', hD'⟩ := zjoin (ws' := [(h_t, .inr (7, [.ref q5, .ref q16, .ref q27, .ref q38, .ref q54])), (q5, .inr (4, [.ref (u9 0), .int 1, .int 1])), ((u9 0), .inl (cI, 64, .inl (upd (fun _ => 0) 0 255))), (q16, .inr (4, [.ref (u20 0), .int 1, .int 1])), ((u20 0), .inl (cI, 64, .inl (upd (fun _ => 0) 0 255))), (q27, .inr (2, [.ref (u31 0), .int 0])), ((u31 0), .inl (cI, 800, .inl (fun _ => 0))), (q38, .inr (6, [.ref q27, .int 0])), (q54, .inl (cF, 4, .inr (.inr (.inr (.inr (va_up (va_up (fun _ => none) 0 (some q65)) 1 (some q78))))))), (q65, .inr (1, [.ref (u69 0), .int 0])), ((u69 0), .inl (cI, 64, .inl (fun _ => 0))), (q78, .inr (5, [.int 0, .int 0])), (q91, .inr (0, [.ref (u95 0), .int 0, .int 0, .int 0, .int 0, .int 0, .int 0])), ((u95 0), .inl (cI, 64, .inl (fun _ => 0)))]) hP hD hS hA [12] [0, 1, 2, 3, 4, 5, 6, 7, 8, 9, 10, 11] [0, 1, 2, 3, 4, 5, 6, 7, 8, 9, 10, 11, 12, 13] rfl rfl rfl rfl rfl rfl hk1 hP1 hD1
  replace hP := hP'; replace hD := hD'; replace hS := hS1
  clear hP' hD' hS1 hk1 hP1 hD1 hF95 hw hz1
  clear ht hvm
  generalize H1 = H at hP hS ⊢
  generalize locs1 = locs at hS ⊢
  refine va_astqO hx hb hK2 hP hD hS 8 1 12 0 (E := RX3) (r := (RX0, TX0, 7)) rfl rfl (hN.nw 63 rfl) rfl rfl (zinb_in rfl) dX8_init_98 (fun H locs hP hD hS => ?_)
  replace hP : va_P D vwCl [(h_t, .inr (7, [.ref q5, .ref q16, .ref q27, .ref q38, .ref q54])), (q5, .inr (4, [.ref (u9 0), .int 1, .int 1])), ((u9 0), .inl (cI, 64, .inl (upd (fun _ => 0) 0 255))), (q16, .inr (4, [.ref (u20 0), .int 1, .int 1])), ((u20 0), .inl (cI, 64, .inl (upd (fun _ => 0) 0 255))), (q27, .inr (2, [.ref (u31 0), .int 0])), ((u31 0), .inl (cI, 800, .inl (fun _ => 0))), (q38, .inr (6, [.ref q27, .int 0])), (q54, .inl (cF, 4, .inr (.inr (.inr (.inr (va_up (va_up (va_up (fun _ => none) 0 (some q65)) 1 (some q78)) 2 (some q91))))))), (q65, .inr (1, [.ref (u69 0), .int 0])), ((u69 0), .inl (cI, 64, .inl (fun _ => 0))), (q78, .inr (5, [.int 0, .int 0])), (q91, .inr (0, [.ref (u95 0), .int 0, .int 0, .int 0, .int 0, .int 0, .int 0])), ((u95 0), .inl (cI, 64, .inl (fun _ => 0)))] H := hP
  replace hD : va_D A [(h_t, .inr (7, [.ref q5, .ref q16, .ref q27, .ref q38, .ref q54])), (q5, .inr (4, [.ref (u9 0), .int 1, .int 1])), ((u9 0), .inl (cI, 64, .inl (upd (fun _ => 0) 0 255))), (q16, .inr (4, [.ref (u20 0), .int 1, .int 1])), ((u20 0), .inl (cI, 64, .inl (upd (fun _ => 0) 0 255))), (q27, .inr (2, [.ref (u31 0), .int 0])), ((u31 0), .inl (cI, 800, .inl (fun _ => 0))), (q38, .inr (6, [.ref q27, .int 0])), (q54, .inl (cF, 4, .inr (.inr (.inr (.inr (va_up (va_up (va_up (fun _ => none) 0 (some q65)) 1 (some q78)) 2 (some q91))))))), (q65, .inr (1, [.ref (u69 0), .int 0])), ((u69 0), .inl (cI, 64, .inl (fun _ => 0))), (q78, .inr (5, [.int 0, .int 0])), (q91, .inr (0, [.ref (u95 0), .int 0, .int 0, .int 0, .int 0, .int 0, .int 0])), ((u95 0), .inl (cI, 64, .inl (fun _ => 0)))] := hD
  refine lv_aload_n hx hb dX8_init_99 rfl (lv_at hl 0 rfl) ?_
  refine va_get (D := D) (ci := 7) (v := .ref q54) (C := RX8) (T := TX8) (N := 5) hx hb hts iX8_init_X8 hown hK hP 0 rfl rfl 4 (by decide) (hts (.fieldLink RX8 37 "FourPictureFiles" "formats" "[LFourPictureFiles$Format;") (by decide +kernel)) (fun _ h9 => h9) rfl dX8_init_100 ?_
  refine lv_iconst (v := 3) hx hb dX8_init_103 (by decide) ?_
  refine va_new (ci := 3) (fs := [.int 0, .int 0, .int 0, .int 0]) (C := RX4) (T := TX4) (N := 4) hx hb hts iX8_init_X4 tyX4 tyX4_ok hown (hts (.classLink RX8 50 RX4) (by decide +kernel)) (hts (.instantiable RX4 4) (by decide +kernel)) (hts (.initialized RX4) (by decide +kernel)) hK hP hD hS hA rfl (fun j hj => by rcases (show j = 0 ∨ j = 1 ∨ j = 2 ∨ j = 3 by omega) with rfl | rfl | rfl | rfl <;> rfl) (Nat.le_of_ble_eq_true rfl) (Nat.le_of_ble_eq_true rfl) dX8_init_104 (fun q104 H hP hD hS => ?_)
  replace hP : va_P D vwCl [(h_t, .inr (7, [.ref q5, .ref q16, .ref q27, .ref q38, .ref q54])), (q5, .inr (4, [.ref (u9 0), .int 1, .int 1])), ((u9 0), .inl (cI, 64, .inl (upd (fun _ => 0) 0 255))), (q16, .inr (4, [.ref (u20 0), .int 1, .int 1])), ((u20 0), .inl (cI, 64, .inl (upd (fun _ => 0) 0 255))), (q27, .inr (2, [.ref (u31 0), .int 0])), ((u31 0), .inl (cI, 800, .inl (fun _ => 0))), (q38, .inr (6, [.ref q27, .int 0])), (q54, .inl (cF, 4, .inr (.inr (.inr (.inr (va_up (va_up (va_up (fun _ => none) 0 (some q65)) 1 (some q78)) 2 (some q91))))))), (q65, .inr (1, [.ref (u69 0), .int 0])), ((u69 0), .inl (cI, 64, .inl (fun _ => 0))), (q78, .inr (5, [.int 0, .int 0])), (q91, .inr (0, [.ref (u95 0), .int 0, .int 0, .int 0, .int 0, .int 0, .int 0])), ((u95 0), .inl (cI, 64, .inl (fun _ => 0))), (q104, .inr (3, [.int 0, .int 0, .int 0, .int 0]))] H := hP
  replace hD : va_D A [(h_t, .inr (7, [.ref q5, .ref q16, .ref q27, .ref q38, .ref q54])), (q5, .inr (4, [.ref (u9 0), .int 1, .int 1])), ((u9 0), .inl (cI, 64, .inl (upd (fun _ => 0) 0 255))), (q16, .inr (4, [.ref (u20 0), .int 1, .int 1])), ((u20 0), .inl (cI, 64, .inl (upd (fun _ => 0) 0 255))), (q27, .inr (2, [.ref (u31 0), .int 0])), ((u31 0), .inl (cI, 800, .inl (fun _ => 0))), (q38, .inr (6, [.ref q27, .int 0])), (q54, .inl (cF, 4, .inr (.inr (.inr (.inr (va_up (va_up (va_up (fun _ => none) 0 (some q65)) 1 (some q78)) 2 (some q91))))))), (q65, .inr (1, [.ref (u69 0), .int 0])), ((u69 0), .inl (cI, 64, .inl (fun _ => 0))), (q78, .inr (5, [.int 0, .int 0])), (q91, .inr (0, [.ref (u95 0), .int 0, .int 0, .int 0, .int 0, .int 0, .int 0])), ((u95 0), .inl (cI, 64, .inl (fun _ => 0))), (q104, .inr (3, [.int 0, .int 0, .int 0, .int 0]))] := hD
  refine lv_dup hx hb dX8_init_107 rfl ?_
  have hF108 := va_free (wc := [(q104, .inr (3, [.int 0, .int 0, .int 0, .int 0]))]) hD hS hA [14] rfl
  refine va_callv (va_runIN (As := []) (rest := [.ref q104, .int 3, .ref q54]) ⟨hx, hb, hml, hown, hts⟩ (mX4_init l D cI _ q104) ⟨va_cnB 0 hts gX8_init_X4_init_n52 rfl rfl rfl (hN.nw 32 rfl) (hts (.initialized RX4) (by decide +kernel)) (by decide +kernel) ⟨Nat.le_of_ble_eq_true rfl, Nat.le_of_ble_eq_true rfl⟩, rfl, (hts (.instanceMethod yX4_init) (by decide +kernel))⟩ ⟨zP_blind, zpre hK hN hP hD [14] rfl rfl⟩ rfl rfl hl.1 rfl (lv_room (Nat.le_of_ble_eq_true rfl)) dX8_init_108 ⟨Nat.le_of_ble_eq_true rfl, Nat.le_of_ble_eq_true rfl⟩) hS (fun q _ h => hF108 q h) hF108 (fun u108 t H1 locs1 ht hvm hw hB hz1 hk1 hS1 => ?_)
  obtain ⟨hP1, hD1⟩ := hB
  rw [ht] at hP1
  obtain ⟨hP', hD'⟩ := zjoin (ws' := [(h_t, .inr (7, [.ref q5, .ref q16, .ref q27, .ref q38, .ref q54])), (q5, .inr (4, [.ref (u9 0), .int 1, .int 1])), ((u9 0), .inl (cI, 64, .inl (upd (fun _ => 0) 0 255))), (q16, .inr (4, [.ref (u20 0), .int 1, .int 1])), ((u20 0), .inl (cI, 64, .inl (upd (fun _ => 0) 0 255))), (q27, .inr (2, [.ref (u31 0), .int 0])), ((u31 0), .inl (cI, 800, .inl (fun _ => 0))), (q38, .inr (6, [.ref q27, .int 0])), (q54, .inl (cF, 4, .inr (.inr (.inr (.inr (va_up (va_up (va_up (fun _ => none) 0 (some q65)) 1 (some q78)) 2 (some q91))))))), (q65, .inr (1, [.ref (u69 0), .int 0])), ((u69 0), .inl (cI, 64, .inl (fun _ => 0))), (q78, .inr (5, [.int 0, .int 0])), (q91, .inr (0, [.ref (u95 0), .int 0, .int 0, .int 0, .int 0, .int 0, .int 0])), ((u95 0), .inl (cI, 64, .inl (fun _ => 0))), (q104, .inr (3, [.int 0, .int 0, .int 0, .int 0]))]) hP hD hS hA [14] [0, 1, 2, 3, 4, 5, 6, 7, 8, 9, 10, 11, 12, 13] [0, 1, 2, 3, 4, 5, 6, 7, 8, 9, 10, 11, 12, 13, 14] rfl rfl rfl rfl rfl rfl hk1 hP1 hD1
  replace hP := hP'; replace hD := hD'; replace hS := hS1
  clear hP' hD' hS1 hk1 hP1 hD1 hF108 hw hz1
  clear ht hvm
  generalize H1 = H at hP hS ⊢
  generalize locs1 = locs at hS ⊢
  refine va_astqO hx hb hK2 hP hD hS 8 1 14 3 (E := RX3) (r := (RX4, TX4, 4)) rfl rfl (hN.nw 64 rfl) rfl rfl (zinb_in rfl) dX8_init_111 (fun H locs hP hD hS => ?_)
  replace hP : va_P D vwCl [(h_t, .inr (7, [.ref q5, .ref q16, .ref q27, .ref q38, .ref q54])), (q5, .inr (4, [.ref (u9 0), .int 1, .int 1])), ((u9 0), .inl (cI, 64, .inl (upd (fun _ => 0) 0 255))), (q16, .inr (4, [.ref (u20 0), .int 1, .int 1])), ((u20 0), .inl (cI, 64, .inl (upd (fun _ => 0) 0 255))), (q27, .inr (2, [.ref (u31 0), .int 0])), ((u31 0), .inl (cI, 800, .inl (fun _ => 0))), (q38, .inr (6, [.ref q27, .int 0])), (q54, .inl (cF, 4, .inr (.inr (.inr (.inr (va_up (va_up (va_up (va_up (fun _ => none) 0 (some q65)) 1 (some q78)) 2 (some q91)) 3 (some q104))))))), (q65, .inr (1, [.ref (u69 0), .int 0])), ((u69 0), .inl (cI, 64, .inl (fun _ => 0))), (q78, .inr (5, [.int 0, .int 0])), (q91, .inr (0, [.ref (u95 0), .int 0, .int 0, .int 0, .int 0, .int 0, .int 0])), ((u95 0), .inl (cI, 64, .inl (fun _ => 0))), (q104, .inr (3, [.int 0, .int 0, .int 0, .int 0]))] H := hP
  replace hD : va_D A [(h_t, .inr (7, [.ref q5, .ref q16, .ref q27, .ref q38, .ref q54])), (q5, .inr (4, [.ref (u9 0), .int 1, .int 1])), ((u9 0), .inl (cI, 64, .inl (upd (fun _ => 0) 0 255))), (q16, .inr (4, [.ref (u20 0), .int 1, .int 1])), ((u20 0), .inl (cI, 64, .inl (upd (fun _ => 0) 0 255))), (q27, .inr (2, [.ref (u31 0), .int 0])), ((u31 0), .inl (cI, 800, .inl (fun _ => 0))), (q38, .inr (6, [.ref q27, .int 0])), (q54, .inl (cF, 4, .inr (.inr (.inr (.inr (va_up (va_up (va_up (va_up (fun _ => none) 0 (some q65)) 1 (some q78)) 2 (some q91)) 3 (some q104))))))), (q65, .inr (1, [.ref (u69 0), .int 0])), ((u69 0), .inl (cI, 64, .inl (fun _ => 0))), (q78, .inr (5, [.int 0, .int 0])), (q91, .inr (0, [.ref (u95 0), .int 0, .int 0, .int 0, .int 0, .int 0, .int 0])), ((u95 0), .inl (cI, 64, .inl (fun _ => 0))), (q104, .inr (3, [.int 0, .int 0, .int 0, .int 0]))] := hD
  rw [zfm_eq] at hP hD
  replace hP : va_P D vwCl [(h_t, .inr (7, [.ref q5, .ref q16, .ref q27, .ref q38, .ref q54])), (q5, .inr (4, [.ref (u9 0), .int 1, .int 1])), ((u9 0), .inl (cI, 64, .inl (upd (fun _ => 0) 0 255))), (q16, .inr (4, [.ref (u20 0), .int 1, .int 1])), ((u20 0), .inl (cI, 64, .inl (upd (fun _ => 0) 0 255))), (q27, .inr (2, [.ref (u31 0), .int 0])), ((u31 0), .inl (cI, 800, .inl (fun _ => 0))), (q38, .inr (6, [.ref q27, .int 0])), (q54, .inl (cF, 4, .inr (.inr (.inr (.inr (zfm q65 q78 q91 q104)))))), (q65, .inr (1, [.ref (u69 0), .int 0])), ((u69 0), .inl (cI, 64, .inl (fun _ => 0))), (q78, .inr (5, [.int 0, .int 0])), (q91, .inr (0, [.ref (u95 0), .int 0, .int 0, .int 0, .int 0, .int 0, .int 0])), ((u95 0), .inl (cI, 64, .inl (fun _ => 0))), (q104, .inr (3, [.int 0, .int 0, .int 0, .int 0]))] H := hP
  replace hD : va_D A [(h_t, .inr (7, [.ref q5, .ref q16, .ref q27, .ref q38, .ref q54])), (q5, .inr (4, [.ref (u9 0), .int 1, .int 1])), ((u9 0), .inl (cI, 64, .inl (upd (fun _ => 0) 0 255))), (q16, .inr (4, [.ref (u20 0), .int 1, .int 1])), ((u20 0), .inl (cI, 64, .inl (upd (fun _ => 0) 0 255))), (q27, .inr (2, [.ref (u31 0), .int 0])), ((u31 0), .inl (cI, 800, .inl (fun _ => 0))), (q38, .inr (6, [.ref q27, .int 0])), (q54, .inl (cF, 4, .inr (.inr (.inr (.inr (zfm q65 q78 q91 q104)))))), (q65, .inr (1, [.ref (u69 0), .int 0])), ((u69 0), .inl (cI, 64, .inl (fun _ => 0))), (q78, .inr (5, [.int 0, .int 0])), (q91, .inr (0, [.ref (u95 0), .int 0, .int 0, .int 0, .int 0, .int 0, .int 0])), ((u95 0), .inl (cI, 64, .inl (fun _ => 0))), (q104, .inr (3, [.int 0, .int 0, .int 0, .int 0]))] := hD
  exact W.vret hx hb hr (fun t ht hW => ⟨⟨((fun j => if j = 0 then q5 else if j = 1 then (u9 0) else if j = 2 then q16 else if j = 3 then (u20 0) else if j = 4 then q27 else if j = 5 then (u31 0) else if j = 6 then q38 else if j = 7 then q54 else if j = 8 then q65 else if j = 9 then (u69 0) else if j = 10 then q78 else if j = 11 then q91 else if j = 12 then (u95 0) else if j = 13 then q104 else 0), cF), rfl, trivial, ⟨by rw [ht]; exact hP, by rw [hAe]; exact hD⟩, va_K.moved hW.alike hK2⟩, hS.F ht⟩) hS.2.2 dX8_init_112
def rmX9_init : Room := { frames := 1, cells := 7, slots := 1832, locals := 12 }
theorem iX9_init_X9 : ∀ w ∈ u_ws RX9 TX9 15, w ∈ wsX9_init := by decide +kernel
set_option maxHeartbeats 4000000 in
set_option maxRecDepth 100000 in
theorem mX9_init (l : Launch) (D : va_G) (cI : ClassId) (sz h_t : Nat) : Met l yX9_init wsX9_init rmX9_init (va_Pc [.ref h_t] (zP D [(cI, .int)] [(h_t, .inr (8, [.int 0, .int 0, .null, .int 0, .null, .int 0, .int 0, .int 0, .int 0, .null, .int 0, .null, .null, .null, .null]))] sz)) (va_Qv (fun (_ : Nat → Nat) => True) (fun (u : Nat → Nat) t => zB D [(h_t, .inr (8, [.int 0, .int 0, .null, .int 0, .null, .int 0, .int 0, .int 0, .int 0, .null, .int 0, .null, .null, .null, .null]))] sz [(h_t, .inr (8, [.int 1, .int 1, .ref (u 0), .int 0, .ref (u 1), .int 0, .int 0, .int 0, .int 0, .ref (u 2), .int 0, .ref (u 3), .ref (u 4), .ref (u 5), .ref (u 6)])), ((u 0), .inl (cI, 256, .inl (upd (fun _ => 0) 3 255))), ((u 1), .inl (cI, 800, .inl (fun _ => 0))), ((u 2), .inl (cI, 256, .inl (fun _ => 0))), ((u 3), .inl (cI, 256, .inl (fun _ => 0))), ((u 4), .inl (cI, 256, .inl (fun _ => 0))), ((u 5), .inl (cI, 4, .inl (fun _ => 0))), ((u 6), .inl (cI, 4, .inl (fun _ => 0)))] t) (va_A [(h_t, .inr (8, [.int 0, .int 0, .null, .int 0, .null, .int 0, .int 0, .int 0, .int 0, .null, .int 0, .null, .null, .null, .null]))] sz)) 7 1832 (va_A [(h_t, .inr (8, [.int 0, .int 0, .null, .int 0, .null, .int 0, .int 0, .int 0, .int 0, .null, .int 0, .null, .null, .null, .null]))] sz) := by
  refine Met.ofW (cc := cX9_init) (maxL := 1) (ret := none) (by decide) rfl ?_
  intro p e s m args below meth c s₁ B hml hv
  obtain ⟨rfl, hsz, hP, hK, hD0, hN⟩ := hv
  subst hsz
  have hx := B.exec
  have hb := B.bytes
  have hr := B.returns
  have hts := atoms_spec (ws := wsX9_init) B.pre
  have hown : s.vm.findClass RX9 = some m.cls := findClass_of_methodNamed B.named
  have hlocks := B.notSynchronized
  have hin : meth.name = "<init>" := (name_of_methodNamed B.named B.method).1
  have hD := hD0.self (sz := s.heap.size)
  generalize hAe : va_A [(h_t, .inr (8, [.int 0, .int 0, .null, .int 0, .null, .int 0, .int 0, .int 0, .int 0, .null, .int 0, .null, .null, .null, .null]))] s.heap.size = A at hD ⊢
  have hA : ∀ q : Nat, s.heap.size ≤ q → A q := fun q h => by rw [← hAe]; exact Or.inr h
  have hS : va_S A s.heap s.heap [] := va_S.rf
  have hl := lv_entry ([.ref h_t]) (n := 1) (Nat.le_of_ble_eq_true rfl)
  rw [lg_entry_eq]
  generalize (lg_sl ([.ref h_t]) ++ List.replicate (1 - (lg_sl ([.ref h_t])).length) Slot.unset).toArray = ls at hl ⊢
  have hl : lv_has ls 1 [(0, .ref h_t)] := hl
  refine lv_aload_n hx hb dX9_init_0 rfl (lv_at hl 0 rfl) ?_
  refine W.objInit hx hb hown (hts (.methodLink RX9 1 objectInit) (by decide +kernel)) (hts (.instanceMethod objectInit) (by decide +kernel)) (hts (.code objectInit ⟨#[0xb1]⟩ 1 none) (by decide +kernel)) rfl (by rw [hml]; exact hl.1) rfl dX9_init_1 (Nat.le_of_ble_eq_true rfl) (Nat.le_of_ble_eq_true rfl) ?_
  refine W.eq (g2 := F0 m 4 ls []) rfl ?_
  refine lv_aload_n hx hb dX9_init_4 rfl (lv_at hl 0 rfl) ?_
  refine lv_iconst (v := 1) hx hb dX9_init_5 (by decide) ?_
  refine va_put (D := D) (ci := 8) (v := .int 1) (ty := .int) (C := RX9) (T := TX9) (N := 15) hx hb hts iX9_init_X9 tyX9 tyX9_ok nmX9 hown hK hP hD hS 0 rfl rfl 0 (by decide) (hts (.fieldLink RX9 7 "FourPictureFilesModel" "wide" "I") (by decide +kernel)) (fun _ h9 => h9) rfl (by decide +kernel) rfl rfl (Nat.le_of_ble_eq_true rfl) dX9_init_6 (fun H locs hP hD hS => ?_)
  replace hP : va_P D vwCl [(h_t, .inr (8, [.int 1, .int 0, .null, .int 0, .null, .int 0, .int 0, .int 0, .int 0, .null, .int 0, .null, .null, .null, .null]))] H := hP
  replace hD : va_D A [(h_t, .inr (8, [.int 1, .int 0, .null, .int 0, .null, .int 0, .int 0, .int 0, .int 0, .null, .int 0, .null, .null, .null, .null]))] := hD
  refine lv_aload_n hx hb dX9_init_9 rfl (lv_at hl 0 rfl) ?_
  refine lv_iconst (v := 1) hx hb dX9_init_10 (by decide) ?_
  refine va_put (D := D) (ci := 8) (v := .int 1) (ty := .int) (C := RX9) (T := TX9) (N := 15) hx hb hts iX9_init_X9 tyX9 tyX9_ok nmX9 hown hK hP hD hS 0 rfl rfl 1 (by decide) (hts (.fieldLink RX9 13 "FourPictureFilesModel" "high" "I") (by decide +kernel)) (fun _ h9 => h9) rfl (by decide +kernel) rfl rfl (Nat.le_of_ble_eq_true rfl) dX9_init_11 (fun H locs hP hD hS => ?_)
  replace hP : va_P D vwCl [(h_t, .inr (8, [.int 1, .int 1, .null, .int 0, .null, .int 0, .int 0, .int 0, .int 0, .null, .int 0, .null, .null, .null, .null]))] H := hP
  replace hD : va_D A [(h_t, .inr (8, [.int 1, .int 1, .null, .int 0, .null, .int 0, .int 0, .int 0, .int 0, .null, .int 0, .null, .null, .null, .null]))] := hD
  refine lv_aload_n hx hb dX9_init_14 rfl (lv_at hl 0 rfl) ?_
  refine lv_sipush (v := 256) hx hb dX9_init_15 (by decide) ?_
  refine va_newa (atype := .int) (n := 256) (a0 := (256, .inl (fun _ => 0))) hx hb (hts (.arrayClass .int) (by decide +kernel)) (ty := .int) rfl hK hP hD hS hA (N' := 256) (znew0 256) (by decide) (by decide) (by decide) (Nat.le_of_ble_eq_true rfl) (Nat.le_of_ble_eq_true rfl) dX9_init_18 (fun q18 cA H hK9 hP hD hS => ?_)
  obtain rfl := zsameI hK9
  clear hK9
  replace hP : va_P D vwCl [(h_t, .inr (8, [.int 1, .int 1, .null, .int 0, .null, .int 0, .int 0, .int 0, .int 0, .null, .int 0, .null, .null, .null, .null])), (q18, .inl (cI, 256, .inl (fun _ => 0)))] H := hP
  replace hD : va_D A [(h_t, .inr (8, [.int 1, .int 1, .null, .int 0, .null, .int 0, .int 0, .int 0, .int 0, .null, .int 0, .null, .null, .null, .null])), (q18, .inl (cI, 256, .inl (fun _ => 0)))] := hD
  refine va_put (D := D) (ci := 8) (v := .ref q18) (ty := .array .int) (C := RX9) (T := TX9) (N := 15) hx hb hts iX9_init_X9 tyX9 tyX9_ok nmX9 hown hK hP hD hS 0 rfl rfl 2 (by decide) (hts (.fieldLink RX9 16 "FourPictureFilesModel" "now" "[I") (by decide +kernel)) (fun _ h9 => h9) rfl (by decide +kernel) rfl rfl (Nat.le_of_ble_eq_true rfl) dX9_init_20 (fun H locs hP hD hS => ?_)
  replace hP : va_P D vwCl [(h_t, .inr (8, [.int 1, .int 1, .ref q18, .int 0, .null, .int 0, .int 0, .int 0, .int 0, .null, .int 0, .null, .null, .null, .null])), (q18, .inl (cI, 256, .inl (fun _ => 0)))] H := hP
  replace hD : va_D A [(h_t, .inr (8, [.int 1, .int 1, .ref q18, .int 0, .null, .int 0, .int 0, .int 0, .int 0, .null, .int 0, .null, .null, .null, .null])), (q18, .inl (cI, 256, .inl (fun _ => 0)))] := hD
  refine lv_aload_n hx hb dX9_init_23 rfl (lv_at hl 0 rfl) ?_
  refine lv_sipush (v := 800) hx hb dX9_init_24 (by decide) ?_
  refine va_newa (atype := .int) (n := 800) (a0 := (800, .inl (fun _ => 0))) hx hb (hts (.arrayClass .int) (by decide +kernel)) (ty := .int) rfl hK hP hD hS hA (N' := 800) (znew0 800) (by decide) (by decide) (by decide) (Nat.le_of_ble_eq_true rfl) (Nat.le_of_ble_eq_true rfl) dX9_init_27 (fun q27 cA H hK9 hP hD hS => ?_)
  obtain rfl := zsameI hK9
  clear hK9
  replace hP : va_P D vwCl [(h_t, .inr (8, [.int 1, .int 1, .ref q18, .int 0, .null, .int 0, .int 0, .int 0, .int 0, .null, .int 0, .null, .null, .null, .null])), (q18, .inl (cI, 256, .inl (fun _ => 0))), (q27, .inl (cI, 800, .inl (fun _ => 0)))] H := hP
  replace hD : va_D A [(h_t, .inr (8, [.int 1, .int 1, .ref q18, .int 0, .null, .int 0, .int 0, .int 0, .int 0, .null, .int 0, .null, .null, .null, .null])), (q18, .inl (cI, 256, .inl (fun _ => 0))), (q27, .inl (cI, 800, .inl (fun _ => 0)))] := hD
  refine va_put (D := D) (ci := 8) (v := .ref q27) (ty := .array .int) (C := RX9) (T := TX9) (N := 15) hx hb hts iX9_init_X9 tyX9 tyX9_ok nmX9 hown hK hP hD hS 0 rfl rfl 4 (by decide) (hts (.fieldLink RX9 20 "FourPictureFilesModel" "file" "[I") (by decide +kernel)) (fun _ h9 => h9) rfl (by decide +kernel) rfl rfl (Nat.le_of_ble_eq_true rfl) dX9_init_29 (fun H locs hP hD hS => ?_)
  replace hP : va_P D vwCl [(h_t, .inr (8, [.int 1, .int 1, .ref q18, .int 0, .ref q27, .int 0, .int 0, .int 0, .int 0, .null, .int 0, .null, .null, .null, .null])), (q18, .inl (cI, 256, .inl (fun _ => 0))), (q27, .inl (cI, 800, .inl (fun _ => 0)))] H := hP
  replace hD : va_D A [(h_t, .inr (8, [.int 1, .int 1, .ref q18, .int 0, .ref q27, .int 0, .int 0, .int 0, .int 0, .null, .int 0, .null, .null, .null, .null])), (q18, .inl (cI, 256, .inl (fun _ => 0))), (q27, .inl (cI, 800, .inl (fun _ => 0)))] := hD
  refine lv_aload_n hx hb dX9_init_32 rfl (lv_at hl 0 rfl) ?_
  refine lv_sipush (v := 256) hx hb dX9_init_33 (by decide) ?_
  refine va_newa (atype := .int) (n := 256) (a0 := (256, .inl (fun _ => 0))) hx hb (hts (.arrayClass .int) (by decide +kernel)) (ty := .int) rfl hK hP hD hS hA (N' := 256) (znew0 256) (by decide) (by decide) (by decide) (Nat.le_of_ble_eq_true rfl) (Nat.le_of_ble_eq_true rfl) dX9_init_36 (fun q36 cA H hK9 hP hD hS => ?_)
  obtain rfl := zsameI hK9
  clear hK9
  replace hP : va_P D vwCl [(h_t, .inr (8, [.int 1, .int 1, .ref q18, .int 0, .ref q27, .int 0, .int 0, .int 0, .int 0, .null, .int 0, .null, .null, .null, .null])), (q18, .inl (cI, 256, .inl (fun _ => 0))), (q27, .inl (cI, 800, .inl (fun _ => 0))), (q36, .inl (cI, 256, .inl (fun _ => 0)))] H := hP
  replace hD : va_D A [(h_t, .inr (8, [.int 1, .int 1, .ref q18, .int 0, .ref q27, .int 0, .int 0, .int 0, .int 0, .null, .int 0, .null, .null, .null, .null])), (q18, .inl (cI, 256, .inl (fun _ => 0))), (q27, .inl (cI, 800, .inl (fun _ => 0))), (q36, .inl (cI, 256, .inl (fun _ => 0)))] := hD
  refine va_put (D := D) (ci := 8) (v := .ref q36) (ty := .array .int) (C := RX9) (T := TX9) (N := 15) hx hb hts iX9_init_X9 tyX9 tyX9_ok nmX9 hown hK hP hD hS 0 rfl rfl 9 (by decide) (hts (.fieldLink RX9 23 "FourPictureFilesModel" "fresh" "[I") (by decide +kernel)) (fun _ h9 => h9) rfl (by decide +kernel) rfl rfl (Nat.le_of_ble_eq_true rfl) dX9_init_38 (fun H locs hP hD hS => ?_)
  replace hP : va_P D vwCl [(h_t, .inr (8, [.int 1, .int 1, .ref q18, .int 0, .ref q27, .int 0, .int 0, .int 0, .int 0, .ref q36, .int 0, .null, .null, .null, .null])), (q18, .inl (cI, 256, .inl (fun _ => 0))), (q27, .inl (cI, 800, .inl (fun _ => 0))), (q36, .inl (cI, 256, .inl (fun _ => 0)))] H := hP
  replace hD : va_D A [(h_t, .inr (8, [.int 1, .int 1, .ref q18, .int 0, .ref q27, .int 0, .int 0, .int 0, .int 0, .ref q36, .int 0, .null, .null, .null, .null])), (q18, .inl (cI, 256, .inl (fun _ => 0))), (q27, .inl (cI, 800, .inl (fun _ => 0))), (q36, .inl (cI, 256, .inl (fun _ => 0)))] := hD
  refine lv_aload_n hx hb dX9_init_41 rfl (lv_at hl 0 rfl) ?_
  refine lv_sipush (v := 256) hx hb dX9_init_42 (by decide) ?_
  refine va_newa (atype := .int) (n := 256) (a0 := (256, .inl (fun _ => 0))) hx hb (hts (.arrayClass .int) (by decide +kernel)) (ty := .int) rfl hK hP hD hS hA (N' := 256) (znew0 256) (by decide) (by decide) (by decide) (Nat.le_of_ble_eq_true rfl) (Nat.le_of_ble_eq_true rfl) dX9_init_45 (fun q45 cA H hK9 hP hD hS => ?_)
  obtain rfl := zsameI hK9
  clear hK9
  replace hP : va_P D vwCl [(h_t, .inr (8, [.int 1, .int 1, .ref q18, .int 0, .ref q27, .int 0, .int 0, .int 0, .int 0, .ref q36, .int 0, .null, .null, .null, .null])), (q18, .inl (cI, 256, .inl (fun _ => 0))), (q27, .inl (cI, 800, .inl (fun _ => 0))), (q36, .inl (cI, 256, .inl (fun _ => 0))), (q45, .inl (cI, 256, .inl (fun _ => 0)))] H := hP
  replace hD : va_D A [(h_t, .inr (8, [.int 1, .int 1, .ref q18, .int 0, .ref q27, .int 0, .int 0, .int 0, .int 0, .ref q36, .int 0, .null, .null, .null, .null])), (q18, .inl (cI, 256, .inl (fun _ => 0))), (q27, .inl (cI, 800, .inl (fun _ => 0))), (q36, .inl (cI, 256, .inl (fun _ => 0))), (q45, .inl (cI, 256, .inl (fun _ => 0)))] := hD
  refine va_put (D := D) (ci := 8) (v := .ref q45) (ty := .array .int) (C := RX9) (T := TX9) (N := 15) hx hb hts iX9_init_X9 tyX9 tyX9_ok nmX9 hown hK hP hD hS 0 rfl rfl 11 (by decide) (hts (.fieldLink RX9 26 "FourPictureFilesModel" "colour" "[I") (by decide +kernel)) (fun _ h9 => h9) rfl (by decide +kernel) rfl rfl (Nat.le_of_ble_eq_true rfl) dX9_init_47 (fun H locs hP hD hS => ?_)
  replace hP : va_P D vwCl [(h_t, .inr (8, [.int 1, .int 1, .ref q18, .int 0, .ref q27, .int 0, .int 0, .int 0, .int 0, .ref q36, .int 0, .ref q45, .null, .null, .null])), (q18, .inl (cI, 256, .inl (fun _ => 0))), (q27, .inl (cI, 800, .inl (fun _ => 0))), (q36, .inl (cI, 256, .inl (fun _ => 0))), (q45, .inl (cI, 256, .inl (fun _ => 0)))] H := hP
  replace hD : va_D A [(h_t, .inr (8, [.int 1, .int 1, .ref q18, .int 0, .ref q27, .int 0, .int 0, .int 0, .int 0, .ref q36, .int 0, .ref q45, .null, .null, .null])), (q18, .inl (cI, 256, .inl (fun _ => 0))), (q27, .inl (cI, 800, .inl (fun _ => 0))), (q36, .inl (cI, 256, .inl (fun _ => 0))), (q45, .inl (cI, 256, .inl (fun _ => 0)))] := hD
  refine lv_aload_n hx hb dX9_init_50 rfl (lv_at hl 0 rfl) ?_
  refine lv_sipush (v := 256) hx hb dX9_init_51 (by decide) ?_
  refine va_newa (atype := .int) (n := 256) (a0 := (256, .inl (fun _ => 0))) hx hb (hts (.arrayClass .int) (by decide +kernel)) (ty := .int) rfl hK hP hD hS hA (N' := 256) (znew0 256) (by decide) (by decide) (by decide) (Nat.le_of_ble_eq_true rfl) (Nat.le_of_ble_eq_true rfl) dX9_init_54 (fun q54 cA H hK9 hP hD hS => ?_)
  obtain rfl := zsameI hK9
  clear hK9
  replace hP : va_P D vwCl [(h_t, .inr (8, [.int 1, .int 1, .ref q18, .int 0, .ref q27, .int 0, .int 0, .int 0, .int 0, .ref q36, .int 0, .ref q45, .null, .null, .null])), (q18, .inl (cI, 256, .inl (fun _ => 0))), (q27, .inl (cI, 800, .inl (fun _ => 0))), (q36, .inl (cI, 256, .inl (fun _ => 0))), (q45, .inl (cI, 256, .inl (fun _ => 0))), (q54, .inl (cI, 256, .inl (fun _ => 0)))] H := hP
  replace hD : va_D A [(h_t, .inr (8, [.int 1, .int 1, .ref q18, .int 0, .ref q27, .int 0, .int 0, .int 0, .int 0, .ref q36, .int 0, .ref q45, .null, .null, .null])), (q18, .inl (cI, 256, .inl (fun _ => 0))), (q27, .inl (cI, 800, .inl (fun _ => 0))), (q36, .inl (cI, 256, .inl (fun _ => 0))), (q45, .inl (cI, 256, .inl (fun _ => 0))), (q54, .inl (cI, 256, .inl (fun _ => 0)))] := hD
  refine va_put (D := D) (ci := 8) (v := .ref q54) (ty := .array .int) (C := RX9) (T := TX9) (N := 15) hx hb hts iX9_init_X9 tyX9 tyX9_ok nmX9 hown hK hP hD hS 0 rfl rfl 12 (by decide) (hts (.fieldLink RX9 29 "FourPictureFilesModel" "table" "[I") (by decide +kernel)) (fun _ h9 => h9) rfl (by decide +kernel) rfl rfl (Nat.le_of_ble_eq_true rfl) dX9_init_56 (fun H locs hP hD hS => ?_)
  replace hP : va_P D vwCl [(h_t, .inr (8, [.int 1, .int 1, .ref q18, .int 0, .ref q27, .int 0, .int 0, .int 0, .int 0, .ref q36, .int 0, .ref q45, .ref q54, .null, .null])), (q18, .inl (cI, 256, .inl (fun _ => 0))), (q27, .inl (cI, 800, .inl (fun _ => 0))), (q36, .inl (cI, 256, .inl (fun _ => 0))), (q45, .inl (cI, 256, .inl (fun _ => 0))), (q54, .inl (cI, 256, .inl (fun _ => 0)))] H := hP
  replace hD : va_D A [(h_t, .inr (8, [.int 1, .int 1, .ref q18, .int 0, .ref q27, .int 0, .int 0, .int 0, .int 0, .ref q36, .int 0, .ref q45, .ref q54, .null, .null])), (q18, .inl (cI, 256, .inl (fun _ => 0))), (q27, .inl (cI, 800, .inl (fun _ => 0))), (q36, .inl (cI, 256, .inl (fun _ => 0))), (q45, .inl (cI, 256, .inl (fun _ => 0))), (q54, .inl (cI, 256, .inl (fun _ => 0)))] := hD
  refine lv_aload_n hx hb dX9_init_59 rfl (lv_at hl 0 rfl) ?_
  refine lv_iconst (v := 4) hx hb dX9_init_60 (by decide) ?_
  refine va_newa (atype := .int) (n := 4) (a0 := (4, .inl (fun _ => 0))) hx hb (hts (.arrayClass .int) (by decide +kernel)) (ty := .int) rfl hK hP hD hS hA (N' := 4) (znew0 4) (by decide) (by decide) (by decide) (Nat.le_of_ble_eq_true rfl) (Nat.le_of_ble_eq_true rfl) dX9_init_61 (fun q61 cA H hK9 hP hD hS => ?_)
  obtain rfl := zsameI hK9
  clear hK9
  replace hP : va_P D vwCl [(h_t, .inr (8, [.int 1, .int 1, .ref q18, .int 0, .ref q27, .int 0, .int 0, .int 0, .int 0, .ref q36, .int 0, .ref q45, .ref q54, .null, .null])), (q18, .inl (cI, 256, .inl (fun _ => 0))), (q27, .inl (cI, 800, .inl (fun _ => 0))), (q36, .inl (cI, 256, .inl (fun _ => 0))), (q45, .inl (cI, 256, .inl (fun _ => 0))), (q54, .inl (cI, 256, .inl (fun _ => 0))), (q61, .inl (cI, 4, .inl (fun _ => 0)))] H := hP
  replace hD : va_D A [(h_t, .inr (8, [.int 1, .int 1, .ref q18, .int 0, .ref q27, .int 0, .int 0, .int 0, .int 0, .ref q36, .int 0, .ref q45, .ref q54, .null, .null])), (q18, .inl (cI, 256, .inl (fun _ => 0))), (q27, .inl (cI, 800, .inl (fun _ => 0))), (q36, .inl (cI, 256, .inl (fun _ => 0))), (q45, .inl (cI, 256, .inl (fun _ => 0))), (q54, .inl (cI, 256, .inl (fun _ => 0))), (q61, .inl (cI, 4, .inl (fun _ => 0)))] := hD
  refine va_put (D := D) (ci := 8) (v := .ref q61) (ty := .array .int) (C := RX9) (T := TX9) (N := 15) hx hb hts iX9_init_X9 tyX9 tyX9_ok nmX9 hown hK hP hD hS 0 rfl rfl 13 (by decide) (hts (.fieldLink RX9 32 "FourPictureFilesModel" "last" "[I") (by decide +kernel)) (fun _ h9 => h9) rfl (by decide +kernel) rfl rfl (Nat.le_of_ble_eq_true rfl) dX9_init_63 (fun H locs hP hD hS => ?_)
  replace hP : va_P D vwCl [(h_t, .inr (8, [.int 1, .int 1, .ref q18, .int 0, .ref q27, .int 0, .int 0, .int 0, .int 0, .ref q36, .int 0, .ref q45, .ref q54, .ref q61, .null])), (q18, .inl (cI, 256, .inl (fun _ => 0))), (q27, .inl (cI, 800, .inl (fun _ => 0))), (q36, .inl (cI, 256, .inl (fun _ => 0))), (q45, .inl (cI, 256, .inl (fun _ => 0))), (q54, .inl (cI, 256, .inl (fun _ => 0))), (q61, .inl (cI, 4, .inl (fun _ => 0)))] H := hP
  replace hD : va_D A [(h_t, .inr (8, [.int 1, .int 1, .ref q18, .int 0, .ref q27, .int 0, .int 0, .int 0, .int 0, .ref q36, .int 0, .ref q45, .ref q54, .ref q61, .null])), (q18, .inl (cI, 256, .inl (fun _ => 0))), (q27, .inl (cI, 800, .inl (fun _ => 0))), (q36, .inl (cI, 256, .inl (fun _ => 0))), (q45, .inl (cI, 256, .inl (fun _ => 0))), (q54, .inl (cI, 256, .inl (fun _ => 0))), (q61, .inl (cI, 4, .inl (fun _ => 0)))] := hD
  refine lv_aload_n hx hb dX9_init_66 rfl (lv_at hl 0 rfl) ?_
  refine lv_iconst (v := 4) hx hb dX9_init_67 (by decide) ?_
  refine va_newa (atype := .int) (n := 4) (a0 := (4, .inl (fun _ => 0))) hx hb (hts (.arrayClass .int) (by decide +kernel)) (ty := .int) rfl hK hP hD hS hA (N' := 4) (znew0 4) (by decide) (by decide) (by decide) (Nat.le_of_ble_eq_true rfl) (Nat.le_of_ble_eq_true rfl) dX9_init_68 (fun q68 cA H hK9 hP hD hS => ?_)
  obtain rfl := zsameI hK9
  clear hK9
  replace hP : va_P D vwCl [(h_t, .inr (8, [.int 1, .int 1, .ref q18, .int 0, .ref q27, .int 0, .int 0, .int 0, .int 0, .ref q36, .int 0, .ref q45, .ref q54, .ref q61, .null])), (q18, .inl (cI, 256, .inl (fun _ => 0))), (q27, .inl (cI, 800, .inl (fun _ => 0))), (q36, .inl (cI, 256, .inl (fun _ => 0))), (q45, .inl (cI, 256, .inl (fun _ => 0))), (q54, .inl (cI, 256, .inl (fun _ => 0))), (q61, .inl (cI, 4, .inl (fun _ => 0))), (q68, .inl (cI, 4, .inl (fun _ => 0)))] H := hP
  replace hD : va_D A [(h_t, .inr (8, [.int 1, .int 1, .ref q18, .int 0, .ref q27, .int 0, .int 0, .int 0, .int 0, .ref q36, .int 0, .ref q45, .ref q54, .ref q61, .null])), (q18, .inl (cI, 256, .inl (fun _ => 0))), (q27, .inl (cI, 800, .inl (fun _ => 0))), (q36, .inl (cI, 256, .inl (fun _ => 0))), (q45, .inl (cI, 256, .inl (fun _ => 0))), (q54, .inl (cI, 256, .inl (fun _ => 0))), (q61, .inl (cI, 4, .inl (fun _ => 0))), (q68, .inl (cI, 4, .inl (fun _ => 0)))] := hD
  refine va_put (D := D) (ci := 8) (v := .ref q68) (ty := .array .int) (C := RX9) (T := TX9) (N := 15) hx hb hts iX9_init_X9 tyX9 tyX9_ok nmX9 hown hK hP hD hS 0 rfl rfl 14 (by decide) (hts (.fieldLink RX9 35 "FourPictureFilesModel" "one" "[I") (by decide +kernel)) (fun _ h9 => h9) rfl (by decide +kernel) rfl rfl (Nat.le_of_ble_eq_true rfl) dX9_init_70 (fun H locs hP hD hS => ?_)
  replace hP : va_P D vwCl [(h_t, .inr (8, [.int 1, .int 1, .ref q18, .int 0, .ref q27, .int 0, .int 0, .int 0, .int 0, .ref q36, .int 0, .ref q45, .ref q54, .ref q61, .ref q68])), (q18, .inl (cI, 256, .inl (fun _ => 0))), (q27, .inl (cI, 800, .inl (fun _ => 0))), (q36, .inl (cI, 256, .inl (fun _ => 0))), (q45, .inl (cI, 256, .inl (fun _ => 0))), (q54, .inl (cI, 256, .inl (fun _ => 0))), (q61, .inl (cI, 4, .inl (fun _ => 0))), (q68, .inl (cI, 4, .inl (fun _ => 0)))] H := hP
  replace hD : va_D A [(h_t, .inr (8, [.int 1, .int 1, .ref q18, .int 0, .ref q27, .int 0, .int 0, .int 0, .int 0, .ref q36, .int 0, .ref q45, .ref q54, .ref q61, .ref q68])), (q18, .inl (cI, 256, .inl (fun _ => 0))), (q27, .inl (cI, 800, .inl (fun _ => 0))), (q36, .inl (cI, 256, .inl (fun _ => 0))), (q45, .inl (cI, 256, .inl (fun _ => 0))), (q54, .inl (cI, 256, .inl (fun _ => 0))), (q61, .inl (cI, 4, .inl (fun _ => 0))), (q68, .inl (cI, 4, .inl (fun _ => 0)))] := hD
  refine lv_aload_n hx hb dX9_init_73 rfl (lv_at hl 0 rfl) ?_
  refine va_get (D := D) (ci := 8) (v := .ref q18) (C := RX9) (T := TX9) (N := 15) hx hb hts iX9_init_X9 hown hK hP 0 rfl rfl 2 (by decide) (hts (.fieldLink RX9 16 "FourPictureFilesModel" "now" "[I") (by decide +kernel)) (fun _ h9 => h9) rfl dX9_init_74 ?_
  refine lv_iconst (v := 3) hx hb dX9_init_77 (by decide) ?_
  refine lv_sipush (v := 255) hx hb dX9_init_78 (by decide) ?_
  refine va_iast hx hb hK hP hD hS 1 0 rfl rfl (zinb_in rfl) dX9_init_81 (fun H locs hP hD hS => ?_)
  replace hP : va_P D vwCl [(h_t, .inr (8, [.int 1, .int 1, .ref q18, .int 0, .ref q27, .int 0, .int 0, .int 0, .int 0, .ref q36, .int 0, .ref q45, .ref q54, .ref q61, .ref q68])), (q18, .inl (cI, 256, .inl (upd (fun _ => 0) 3 255))), (q27, .inl (cI, 800, .inl (fun _ => 0))), (q36, .inl (cI, 256, .inl (fun _ => 0))), (q45, .inl (cI, 256, .inl (fun _ => 0))), (q54, .inl (cI, 256, .inl (fun _ => 0))), (q61, .inl (cI, 4, .inl (fun _ => 0))), (q68, .inl (cI, 4, .inl (fun _ => 0)))] H := hP
  replace hD : va_D A [(h_t, .inr (8, [.int 1, .int 1, .ref q18, .int 0, .ref q27, .int 0, .int 0, .int 0, .int 0, .ref q36, .int 0, .ref q45, .ref q54, .ref q61, .ref q68])), (q18, .inl (cI, 256, .inl (upd (fun _ => 0) 3 255))), (q27, .inl (cI, 800, .inl (fun _ => 0))), (q36, .inl (cI, 256, .inl (fun _ => 0))), (q45, .inl (cI, 256, .inl (fun _ => 0))), (q54, .inl (cI, 256, .inl (fun _ => 0))), (q61, .inl (cI, 4, .inl (fun _ => 0))), (q68, .inl (cI, 4, .inl (fun _ => 0)))] := hD
  exact W.vret hx hb hr (fun t ht hW => ⟨⟨(fun j => if j = 0 then q18 else if j = 1 then q27 else if j = 2 then q36 else if j = 3 then q45 else if j = 4 then q54 else if j = 5 then q61 else if j = 6 then q68 else 0), rfl, trivial, by rw [ht]; exact hP, by rw [hAe]; exact hD⟩, hS.F ht⟩) hS.2.2 dX9_init_82
