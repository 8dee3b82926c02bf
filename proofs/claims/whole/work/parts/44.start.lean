/-! From the law's entry to its loop; the frame of it is the kit's skeleton. -/
theorem zexact {args : Array Value} {s : State} {t : Term} {k : String} (h : (Cond.exactly t k).before args s = true) : ∃ a : Addr, t.eval args s none [] s = some (.ref a) := by
  obtain ⟨a, c, cell, k, h1, -⟩ := Cond.exactly_spec h
  exact ⟨a, h1⟩
/-! THE CLAIM OUT OF ONE WALK OF THE LAW'S BODY. Your part is whole_start (and what it stands on); all else here is the same for every law, but numbers. -/
def R_law : String := "FourPictureFilesLaw"
def lw_P (b : Addr) (xs : List Int32) (args : Array Value) (s : State) : Prop := args = #[.ref b] ∧ s.IntsAt b xs ∧ xs.length ≤ 2048 ∧ (Jvm.Cond.and given_1 narrow_1).before args s = true
def lw_Q (_ : Array Value) (s : State) (o : Outcome) (t : State) : Prop := o = .returned (some (.int 1)) ∧ Framed s o t [] 1049 11141
def lw_Z (below : List Frame) (a : Array Value) (s : State) : State → Prop := fun t => ∃ o, t.status = .running ∧ Ended t below o ∧ lw_Q a s o t
/-- the law's own end, with 1 on the stack, nothing written that was there before, its room as the claim has it -/
theorem lw_ret {p : Program} {l : Launch} {e : Env} {s : State} {m : MethodId} {below : List Frame} {meth : Method} {c : Code} {b : Nat} (hx : p.tables.exec = Jvm.exec) (hb : c.code = code) (hr : meth.sig.returnType = ret) (hlocks : meth.locks = false) {pc : Nat} {H : Heap} {ls : Array Slot} (hdg : decode code pc = .ok (.ireturn, 1)) : W p l e room_1 s m #[Value.ref b] below meth c H [] 1049 11141 (lw_Z below #[Value.ref b] s) (F0 m pc ls [.int 1]) := by
  intro T hT X
  obtain ⟨fs, hret, hrun, hended, hW, hframe⟩ := X.leave (v := some (.int 1)) (hlocks := hlocks) (fun h => by rw [hr] at h; cases h)
  have hmeth' : T.vm.method? m = some meth := X.method'
  refine ⟨T.setFrames fs, ?_, .returned (some (.int 1)), hrun, hended, rfl, ⟨_, rfl⟩, hW, hframe⟩
  jvm_step X.here [X.here.top, hx, hb, hdg, hmeth', hr, ret, narrow_b1]
  (try refine ⟨rfl, ?_⟩); (try refine ⟨rfl, ?_⟩)
  first | (intro acts; rw [hret _ acts rfl rfl rfl]) | rw [hret _ _ rfl rfl rfl]
  exact Steps.refl _
/-- what holds at the law's entry: the machine, the code, the tables' words (any of lw_tbl by 'hts w (by decide +kernel)'), the script of L ints xs at the cell b, what the Statement gives of the start (any of its parts by flat_of_before) -/
def lw_At (p : Program) (s : State) (m : MethodId) (meth : Method) (c : Code) (b L : Nat) (xs : Nat → Int32) : Prop :=
  p.tables.exec = Jvm.exec ∧ c.code = code ∧ meth.sig.returnType = ret ∧ c.maxLocals = 4 ∧ s.vm.findClass R_law = some m.cls ∧ (∀ w ∈ lw_tbl, w.before #[Value.ref b] s = true) ∧ va_X b L xs s s.heap ∧ b < s.heap.size ∧ meth.locks = false ∧ (Jvm.Cond.and given_1 narrow_1).before #[Value.ref b] s = true
theorem zmem {big ws : List Cond} (ps : List Nat) (h : ws = ps.filterMap (fun i => big[i]?)) : ∀ w ∈ ws, w ∈ big := by
  intro w hw
  rw [h] at hw
  obtain ⟨i, -, hi⟩ := List.mem_filterMap.mp hw
  exact List.mem_of_getElem? hi
set_option maxRecDepth 100000 in
theorem ziX0 : ∀ w ∈ u_ws RX0 TX0 7, w ∈ lw_tbl := zmem [211, 213, 215, 217, 219, 221, 223] (by decide +kernel)
set_option maxRecDepth 100000 in
theorem ziX1 : ∀ w ∈ u_ws RX1 TX1 2, w ∈ lw_tbl := zmem [180, 182] (by decide +kernel)
set_option maxRecDepth 100000 in
theorem ziX2 : ∀ w ∈ u_ws RX2 TX2 2, w ∈ lw_tbl := zmem [146, 148] (by decide +kernel)
set_option maxRecDepth 100000 in
theorem ziX4 : ∀ w ∈ u_ws RX4 TX4 4, w ∈ lw_tbl := zmem [236, 238, 240, 242] (by decide +kernel)
set_option maxRecDepth 100000 in
theorem ziX5 : ∀ w ∈ u_ws RX5 TX5 3, w ∈ lw_tbl := zmem [123, 125, 127] (by decide +kernel)
set_option maxRecDepth 100000 in
theorem ziX6 : ∀ w ∈ u_ws RX6 TX6 2, w ∈ lw_tbl := zmem [193, 195] (by decide +kernel)
set_option maxRecDepth 100000 in
theorem ziX7 : ∀ w ∈ u_ws RX7 TX7 2, w ∈ lw_tbl := zmem [162, 164] (by decide +kernel)
set_option maxRecDepth 100000 in
theorem ziX8 : ∀ w ∈ u_ws RX8 TX8 5, w ∈ lw_tbl := zmem [250, 252, 254, 256, 258] (by decide +kernel)
set_option maxRecDepth 100000 in
theorem ziX9 : ∀ w ∈ u_ws RX9 TX9 15, w ∈ lw_tbl := zmem [865, 867, 869, 871, 873, 875, 877, 879, 881, 883, 885, 887, 889, 891, 893] (by decide +kernel)
set_option maxRecDepth 100000 in
theorem zNW_in : ∀ w ∈ zNW, w ∈ lw_tbl := zmem [108, 109, 110, 112, 113, 114, 115, 116, 118, 119, 120, 121, 122, 138, 139, 140, 141, 143, 144, 145, 159, 160, 161, 103, 133, 153, 171, 174, 187, 190, 200, 203, 228, 231, 345, 348, 351, 354, 357, 475, 476, 477, 510, 522, 523, 524, 525, 558, 560, 585, 589, 590, 711, 718, 775, 806, 842, 400, 423, 443, 599, 1147, 1149, 1146, 1148, 614, 693, 616, 618, 620] (by decide +kernel)
set_option maxHeartbeats 8000000 in
set_option maxRecDepth 100000 in
theorem whole_open {p : Program} {e : Env} {s : State} {m : MethodId} {below : List Frame} {meth : Method} {c : Code} (l : Launch) (hst : l.stackTraces = false) {b L : Nat} {xs : Nat → Int32} (hpure : fL_law_18 1000 xs L 1 1 (upd (fun _ => 0) 0 255) 1 1 (upd (fun _ => 0) 0 255) 0 0 (fun _ => 0) 0 (fun _ => 0) 0 0 0 0 0 0 0 0 (fun _ => 0) 0 0 0 0 1 1 0 0 0 0 0 0 (upd (fun _ => 0) 3 255) (fun _ => 0) (fun _ => 0) (fun _ => 0) (fun _ => 0) (fun _ => 0) (fun _ => 0) 0 0 = some 1) (C0 : lw_At p s m meth c b L xs) : W p l e room_1 s m #[Value.ref b] below meth c s.heap [] 0 0 (lw_Z below #[Value.ref b] s) (entryFrame m ([Value.ref b] : List Value).toArray 4) := by
  obtain ⟨hx, hb, hr, hml, hown0, hts, hX, hbl, hlocks, hgv⟩ := id C0
  have hown : s.vm.findClass RL = some m.cls := hown0
  have C : CallFix p m c cL_law 4 s #[Value.ref b] lw_tbl RL := ⟨hx, hb, hml, hown, hts⟩
  have hA : ∀ q : Nat, s.heap.size ≤ q → (fun q : Nat => s.heap.size ≤ q) q := fun _ h => h
  have hbA : ¬ (fun q : Nat => s.heap.size ≤ q) b := Nat.not_le.mpr hbl
  have hnA : ∀ a : Nat, a < s.heap.size → ¬ (fun q : Nat => s.heap.size ≤ q) a := fun _ h => Nat.not_le.mpr h
  have hN : zN s := fun w hw => by
    have hk := zNW_k w hw
    have h1 := hts w (zNW_in w hw)
    cases w <;> first | (exact va_Nw.of rfl h1) | (simp [zk] at hk; done)
  have hNc : va_Nc "java/lang/IllegalArgumentException" "java/lang/IllegalStateException" s := va_Nc.of (flat_of_before _ hgv (.not (.castable "java/lang/IllegalArgumentException" "java/lang/IllegalStateException")) (by decide +kernel))
  have hU : vx_Zq Bundle.tN "UNASSIGNED_STACK" Bundle.steD (fun q : Nat => s.heap.size ≤ q) s s.heap := vx_Zqof (hts (.laysStatic "java/lang/Throwable" "UNASSIGNED_STACK" "[Ljava/lang/StackTraceElement;") (List.mem_of_getElem? (i := 639) (by decide +kernel))) (hts (.initialized "java/lang/Throwable") (List.mem_of_getElem? (i := 88) (by decide +kernel))) (flat_of_before _ hgv (.isRef (.static "java/lang/Throwable" "UNASSIGNED_STACK" "[Ljava/lang/StackTraceElement;")) (by decide +kernel)) hnA
  have hV : vx_Zq Bundle.tN "SUPPRESSED_SENTINEL" Bundle.listD (fun q : Nat => s.heap.size ≤ q) s s.heap := vx_Zqof (hts (.laysStatic "java/lang/Throwable" "SUPPRESSED_SENTINEL" "Ljava/util/List;") (List.mem_of_getElem? (i := 641) (by decide +kernel))) (hts (.initialized "java/lang/Throwable") (List.mem_of_getElem? (i := 88) (by decide +kernel))) (flat_of_before _ hgv (.isRef (.static "java/lang/Throwable" "SUPPRESSED_SENTINEL" "Ljava/util/List;")) (by decide +kernel)) hnA
  obtain ⟨sa0, hs0⟩ : ∃ sa, vk_R RX7 24 "a byte is missing" sa s := by
    obtain ⟨a9, h9⟩ := zexact (flat_of_before _ hgv (.exactly (.string RX7 24) "java/lang/String") (by decide +kernel))
    exact ⟨a9, vk_R.of (hts (.stringRef RX7 24 "a byte is missing") (List.mem_of_getElem? (i := 652) (by decide +kernel))) h9⟩
  obtain ⟨sa1, hs1⟩ : ∃ sa, vk_R RX7 35 "not as said" sa s := by
    obtain ⟨a9, h9⟩ := zexact (flat_of_before _ hgv (.exactly (.string RX7 35) "java/lang/String") (by decide +kernel))
    exact ⟨a9, vk_R.of (hts (.stringRef RX7 35 "not as said") (List.mem_of_getElem? (i := 700) (by decide +kernel))) h9⟩
  have hT : zTh (fun q : Nat => s.heap.size ≤ q) s := ⟨hU, hV, ⟨sa0, hs0⟩, ⟨sa1, hs1⟩⟩
  obtain ⟨c0, iS0, hKn0⟩ := u_known (C := RX0) (T := TX0) (N := 7) (n := 7) hts ziX0 (hts (.instantiable RX0 7) (List.mem_of_getElem? (i := 199) (by decide +kernel)))
  obtain ⟨c1, iS1, hKn1⟩ := u_known (C := RX1) (T := TX1) (N := 2) (n := 2) hts ziX1 (hts (.instantiable RX1 2) (List.mem_of_getElem? (i := 170) (by decide +kernel)))
  obtain ⟨c2, iS2, hKn2⟩ := u_known (C := RX2) (T := TX2) (N := 2) (n := 2) hts ziX2 (hts (.instantiable RX2 2) (List.mem_of_getElem? (i := 132) (by decide +kernel)))
  obtain ⟨c3, iS3, hKn3⟩ := u_known (C := RX4) (T := TX4) (N := 4) (n := 4) hts ziX4 (hts (.instantiable RX4 4) (List.mem_of_getElem? (i := 227) (by decide +kernel)))
  obtain ⟨c4, iS4, hKn4⟩ := u_known (C := RX5) (T := TX5) (N := 3) (n := 3) hts ziX5 (hts (.instantiable RX5 3) (List.mem_of_getElem? (i := 102) (by decide +kernel)))
  obtain ⟨c5, iS5, hKn5⟩ := u_known (C := RX6) (T := TX6) (N := 2) (n := 2) hts ziX6 (hts (.instantiable RX6 2) (List.mem_of_getElem? (i := 186) (by decide +kernel)))
  obtain ⟨c6, iS6, hKn6⟩ := u_known (C := RX7) (T := TX7) (N := 2) (n := 2) hts ziX7 (hts (.instantiable RX7 2) (List.mem_of_getElem? (i := 152) (by decide +kernel)))
  obtain ⟨c7, iS7, hKn7⟩ := u_known (C := RX8) (T := TX8) (N := 5) (n := 5) hts ziX8 (hts (.instantiable RX8 5) (List.mem_of_getElem? (i := 94) (by decide +kernel)))
  obtain ⟨c8, iS8, hKn8⟩ := u_known (C := RX9) (T := TX9) (N := 15) (n := 15) hts ziX9 (hts (.instantiable RX9 15) (List.mem_of_getElem? (i := 845) (by decide +kernel)))
  obtain ⟨D, hKc⟩ : ∃ D : va_G, ∀ (k : Nat) (q : vw_C), vwCl[k]? = some q → u_Kn s q.1 q.2.1 q.2.2 (D.1 k) (D.2 k) := by
    refine ⟨(fun k => if k = 0 then c0 else if k = 1 then c1 else if k = 2 then c2 else if k = 3 then c3 else if k = 4 then c4 else if k = 5 then c5 else if k = 6 then c6 else if k = 7 then c7 else c8, fun k => if k = 0 then iS0 else if k = 1 then iS1 else if k = 2 then iS2 else if k = 3 then iS3 else if k = 4 then iS4 else if k = 5 then iS5 else if k = 6 then iS6 else if k = 7 then iS7 else iS8), ?_⟩
    intro k q hq
    match k, hq with
    | 0, hq => cases hq; exact hKn0
    | 1, hq => cases hq; exact hKn1
    | 2, hq => cases hq; exact hKn2
    | 3, hq => cases hq; exact hKn3
    | 4, hq => cases hq; exact hKn4
    | 5, hq => cases hq; exact hKn5
    | 6, hq => cases hq; exact hKn6
    | 7, hq => cases hq; exact hKn7
    | 8, hq => cases hq; exact hKn8
    | k + 9, hq => simp [vwCl] at hq
  obtain ⟨cI, kI, comp, hI1, hI2, hI3⟩ := Cond.arrayClass_spec (hts (.arrayClass .int) (List.mem_of_getElem? (i := 130) (by decide +kernel)))
  have hK : va_K D vwCl [(cI, .int)] s := ⟨hKc, fun k q h => by
    match k, h with
    | 0, h => cases h; exact ⟨fun n z => ⟨fun k h => (by cases h), kI, hI2, comp, hI3⟩, hI1⟩
    | k + 1, h => simp at h⟩
  have hO : va_AO RX3 s := va_AO.of (hts (.arrayOver (.object RX3)) (List.mem_of_getElem? (i := 168) (by decide +kernel)))
  have hS : va_S (fun q : Nat => s.heap.size ≤ q) s.heap s.heap [] := va_S.rf
  have hP : va_P D vwCl [] s.heap := fun k q h => by simp at h
  have hD : va_D (fun q : Nat => s.heap.size ≤ q) [] := ⟨fun i j p q h => by simp at h, fun k q h => by simp at h⟩
  have hl := lv_entry ([.ref b]) (n := 4) (Nat.le_of_ble_eq_true rfl)
  rw [lg_entry_eq]
  generalize (lg_sl ([.ref b]) ++ List.replicate (4 - (lg_sl ([.ref b])).length) Slot.unset).toArray = ls at hl ⊢
  have hl : lv_has ls 4 [(0, .ref b)] := hl
  refine va_new (ci := 7) (fs := [.null, .null, .null, .null, .null]) (C := RX8) (T := TX8) (N := 5) hx hb hts ziX8 tyX8 tyX8_ok hown (hts (.classLink RL 7 RX8) (List.mem_of_getElem? (i := 93) (by decide +kernel))) (hts (.instantiable RX8 5) (List.mem_of_getElem? (i := 94) (by decide +kernel))) (hts (.initialized RX8) (List.mem_of_getElem? (i := 76) (by decide +kernel))) hK hP hD hS hA rfl (fun j hj => by rcases (show j = 0 ∨ j = 1 ∨ j = 2 ∨ j = 3 ∨ j = 4 by omega) with rfl | rfl | rfl | rfl | rfl <;> rfl) (Nat.le_of_ble_eq_true rfl) (Nat.le_of_ble_eq_true rfl) dL_law_0 (fun q0 H hP hD hS => ?_)
  refine lv_dup hx hb dL_law_3 rfl ?_
  have hF4 := va_free (wc := [(q0, .inr (7, [.null, .null, .null, .null, .null]))]) hD hS hA [0] rfl
  refine va_callv (va_runI (As := []) (rest := [.ref q0]) ⟨hx, hb, hml, hown, hts⟩ (mX8_init l D cI H.size q0) (cwI 0 hts zLX8_init rfl rfl rfl (hts (.initialized RX8) (List.mem_of_getElem? (i := 76) (by decide +kernel))) (hts (.methodLink RL 9 yX8_init) (List.mem_of_getElem? (i := 95) (by decide +kernel))) (hts (.instanceMethod yX8_init) (List.mem_of_getElem? (i := 96) (by decide +kernel))) rfl (by decide +kernel) ⟨Nat.le_of_ble_eq_true rfl, Nat.le_of_ble_eq_true rfl⟩) ⟨zPA_blind, zpreA hO hK hN hP hD [0] rfl rfl⟩ rfl rfl hl.1 rfl (lv_room (Nat.le_of_ble_eq_true rfl)) dL_law_4 ⟨Nat.le_of_ble_eq_true rfl, Nat.le_of_ble_eq_true rfl⟩) hS (fun q _ h => hF4 q h) hF4 (fun u8 t H1 locs1 ht hvm hw hB hz1 hk1 hS1 => ?_)
  obtain ⟨u8, cF⟩ := u8
  obtain ⟨⟨hP1, hD1⟩, hK3⟩ := hB
  have hK2 : va_K D vwCl [(cI, .int), (cF, .object RX3)] s := va_K.moved hvm.symm hK3
  rw [ht] at hP1
  obtain ⟨hP', hD'⟩ := zjoin (ws' := [(q0, .inr (7, [.ref (u8 0), .ref (u8 2), .ref (u8 4), .ref (u8 6), .ref (u8 7)])), ((u8 0), .inr (4, [.ref (u8 1), .int 1, .int 1])), ((u8 1), .inl (cI, 64, .inl (upd (fun _ => 0) 0 255))), ((u8 2), .inr (4, [.ref (u8 3), .int 1, .int 1])), ((u8 3), .inl (cI, 64, .inl (upd (fun _ => 0) 0 255))), ((u8 4), .inr (2, [.ref (u8 5), .int 0])), ((u8 5), .inl (cI, 800, .inl (fun _ => 0))), ((u8 6), .inr (6, [.ref (u8 4), .int 0])), ((u8 7), .inl (cF, 4, .inr (.inr (.inr (.inr (zfm (u8 8) (u8 10) (u8 11) (u8 13))))))), ((u8 8), .inr (1, [.ref (u8 9), .int 0])), ((u8 9), .inl (cI, 64, .inl (fun _ => 0))), ((u8 10), .inr (5, [.int 0, .int 0])), ((u8 11), .inr (0, [.ref (u8 12), .int 0, .int 0, .int 0, .int 0, .int 0, .int 0])), ((u8 12), .inl (cI, 64, .inl (fun _ => 0))), ((u8 13), .inr (3, [.int 0, .int 0, .int 0, .int 0]))]) hP hD hS hA [0] [] [0, 1, 2, 3, 4, 5, 6, 7, 8, 9, 10, 11, 12, 13, 14] rfl rfl rfl rfl rfl rfl hk1 hP1 hD1
  replace hP := hP'; replace hD := hD'; replace hS := hS1
  clear hP' hD' hS1 hk1 hP1 hD1 hF4 hw hz1 ht hvm
  generalize H1 = H at hP hS ⊢
  generalize locs1 = locs at hS ⊢
  refine lv_astore_n (lv' := [(1, .ref q0), (0, .ref b)]) hx hb dL_law_7 rfl hl (by decide) rfl (fun ls hl => ?_)
  refine va_new (ci := 8) (fs := [.int 0, .int 0, .null, .int 0, .null, .int 0, .int 0, .int 0, .int 0, .null, .int 0, .null, .null, .null, .null]) (C := RX9) (T := TX9) (N := 15) hx hb hts ziX9 tyX9 tyX9_ok hown (hts (.classLink RL 10 RX9) (List.mem_of_getElem? (i := 844) (by decide +kernel))) (hts (.instantiable RX9 15) (List.mem_of_getElem? (i := 845) (by decide +kernel))) (hts (.initialized RX9) (List.mem_of_getElem? (i := 85) (by decide +kernel))) hK hP hD hS hA rfl (fun j hj => by rcases (show j = 0 ∨ j = 1 ∨ j = 2 ∨ j = 3 ∨ j = 4 ∨ j = 5 ∨ j = 6 ∨ j = 7 ∨ j = 8 ∨ j = 9 ∨ j = 10 ∨ j = 11 ∨ j = 12 ∨ j = 13 ∨ j = 14 by omega) with rfl | rfl | rfl | rfl | rfl | rfl | rfl | rfl | rfl | rfl | rfl | rfl | rfl | rfl | rfl <;> rfl) (Nat.le_of_ble_eq_true rfl) (Nat.le_of_ble_eq_true rfl) dL_law_8 (fun q9 H hP hD hS => ?_)
  refine lv_dup hx hb dL_law_11 rfl ?_
  have hF12 := va_free (wc := [(q9, .inr (8, [.int 0, .int 0, .null, .int 0, .null, .int 0, .int 0, .int 0, .int 0, .null, .int 0, .null, .null, .null, .null]))]) hD hS hA [15] rfl
  refine va_callv (va_runI (As := []) (rest := [.ref q9]) ⟨hx, hb, hml, hown, hts⟩ (mX9_init l D cI H.size q9) (cwI 0 hts zLX9_init rfl rfl rfl (hts (.initialized RX9) (List.mem_of_getElem? (i := 85) (by decide +kernel))) (hts (.methodLink RL 12 yX9_init) (List.mem_of_getElem? (i := 846) (by decide +kernel))) (hts (.instanceMethod yX9_init) (List.mem_of_getElem? (i := 847) (by decide +kernel))) rfl (by decide +kernel) ⟨Nat.le_of_ble_eq_true rfl, Nat.le_of_ble_eq_true rfl⟩) ⟨zP_blind, zpre hK hN hP hD [15] rfl rfl⟩ rfl rfl hl.1 rfl (lv_room (Nat.le_of_ble_eq_true rfl)) dL_law_12 ⟨Nat.le_of_ble_eq_true rfl, Nat.le_of_ble_eq_true rfl⟩) hS (fun q _ h => hF12 q h) hF12 (fun u9 t H1 locs1 ht hvm hw hB hz1 hk1 hS1 => ?_)
  obtain ⟨hP1, hD1⟩ := hB
  rw [ht] at hP1
  obtain ⟨hP', hD'⟩ := zjoin (ws' := [(q0, .inr (7, [.ref (u8 0), .ref (u8 2), .ref (u8 4), .ref (u8 6), .ref (u8 7)])), ((u8 0), .inr (4, [.ref (u8 1), .int 1, .int 1])), ((u8 1), .inl (cI, 64, .inl (upd (fun _ => 0) 0 255))), ((u8 2), .inr (4, [.ref (u8 3), .int 1, .int 1])), ((u8 3), .inl (cI, 64, .inl (upd (fun _ => 0) 0 255))), ((u8 4), .inr (2, [.ref (u8 5), .int 0])), ((u8 5), .inl (cI, 800, .inl (fun _ => 0))), ((u8 6), .inr (6, [.ref (u8 4), .int 0])), ((u8 7), .inl (cF, 4, .inr (.inr (.inr (.inr (zfm (u8 8) (u8 10) (u8 11) (u8 13))))))), ((u8 8), .inr (1, [.ref (u8 9), .int 0])), ((u8 9), .inl (cI, 64, .inl (fun _ => 0))), ((u8 10), .inr (5, [.int 0, .int 0])), ((u8 11), .inr (0, [.ref (u8 12), .int 0, .int 0, .int 0, .int 0, .int 0, .int 0])), ((u8 12), .inl (cI, 64, .inl (fun _ => 0))), ((u8 13), .inr (3, [.int 0, .int 0, .int 0, .int 0])), (q9, .inr (8, [.int 1, .int 1, .ref (u9 0), .int 0, .ref (u9 1), .int 0, .int 0, .int 0, .int 0, .ref (u9 2), .int 0, .ref (u9 3), .ref (u9 4), .ref (u9 5), .ref (u9 6)])), ((u9 0), .inl (cI, 256, .inl (upd (fun _ => 0) 3 255))), ((u9 1), .inl (cI, 800, .inl (fun _ => 0))), ((u9 2), .inl (cI, 256, .inl (fun _ => 0))), ((u9 3), .inl (cI, 256, .inl (fun _ => 0))), ((u9 4), .inl (cI, 256, .inl (fun _ => 0))), ((u9 5), .inl (cI, 4, .inl (fun _ => 0))), ((u9 6), .inl (cI, 4, .inl (fun _ => 0)))]) hP hD hS hA [15] [0, 1, 2, 3, 4, 5, 6, 7, 8, 9, 10, 11, 12, 13, 14] [0, 1, 2, 3, 4, 5, 6, 7, 8, 9, 10, 11, 12, 13, 14, 15, 16, 17, 18, 19, 20, 21, 22] rfl rfl rfl rfl rfl rfl hk1 hP1 hD1
  replace hP := hP'; replace hD := hD'; replace hS := hS1
  clear hP' hD' hS1 hk1 hP1 hD1 hF12 hw hz1 ht hvm
  generalize H1 = H at hP hS ⊢
  generalize locs1 = locs at hS ⊢
  refine lv_astore_n (lv' := [(2, .ref q9), (1, .ref q0), (0, .ref b)]) hx hb dL_law_15 rfl hl (by decide) rfl (fun ls hl => ?_)
  refine lv_iconst (v := 0) hx hb dL_law_16 (by decide) ?_
  refine lv_istore_n (lv' := [(3, .int 0), (2, .ref q9), (1, .ref q0), (0, .ref b)]) hx hb dL_law_17 rfl hl (by decide) rfl (fun ls hl => ?_)
  have hP9 : va_P D vwCl (zwL cI cF q0 (u8 0) (u8 1) (u8 2) (u8 3) (u8 6) (u8 4) (u8 5) (u8 7) (u8 8) (u8 9) (u8 10) (u8 11) (u8 12) (u8 13) q9 (u9 0) (u9 1) (u9 2) (u9 3) (u9 4) (u9 5) (u9 6) 1 1 (upd (fun _ => 0) 0 255) 1 1 (upd (fun _ => 0) 0 255) 0 0 (fun _ => 0) 0 (fun _ => 0) 0 0 0 0 0 0 0 0 (fun _ => 0) 0 0 0 0 1 1 0 0 0 0 0 0 (upd (fun _ => 0) 3 255) (fun _ => 0) (fun _ => 0) (fun _ => 0) (fun _ => 0) (fun _ => 0) (fun _ => 0)) H := hP.sub [0, 1, 2, 3, 4, 7, 5, 6, 8, 9, 10, 11, 12, 13, 14, 15, 16, 17, 18, 19, 20, 21, 22] rfl
  have hD9 : va_D (fun q : Nat => s.heap.size ≤ q) (zwL cI cF q0 (u8 0) (u8 1) (u8 2) (u8 3) (u8 6) (u8 4) (u8 5) (u8 7) (u8 8) (u8 9) (u8 10) (u8 11) (u8 12) (u8 13) q9 (u9 0) (u9 1) (u9 2) (u9 3) (u9 4) (u9 5) (u9 6) 1 1 (upd (fun _ => 0) 0 255) 1 1 (upd (fun _ => 0) 0 255) 0 0 (fun _ => 0) 0 (fun _ => 0) 0 0 0 0 0 0 0 0 (fun _ => 0) 0 0 0 0 1 1 0 0 0 0 0 0 (upd (fun _ => 0) 3 255) (fun _ => 0) (fun _ => 0) (fun _ => 0) (fun _ => 0) (fun _ => 0) (fun _ => 0)) := hD.sub [0, 1, 2, 3, 4, 7, 5, 6, 8, 9, 10, 11, 12, 13, 14, 15, 16, 17, 18, 19, 20, 21, 22] rfl rfl
  exact wL_law_18 C hN hK2 hA hT hst hNc hX hbl hbA (fun H locs pc ls kc d hS hk => va_forget (fun q hq => hS.2.2 q hq) (W.widen (k := 1049) (n := 11141) (by omega) (by omega) (lw_ret hx hb hr hlocks d))) 1000 hpure (by decide) hP9 hD9 hS (lv_sub hl [3, 2, 1, 0] rfl)
