/-! Methods that return or throw one of two exceptions: tag 0 returns, tag 1 is an IllegalStateException, any other an IllegalArgumentException. -/
def zEx (tag : Nat) : String := if tag = 1 then "java/lang/IllegalStateException" else "java/lang/IllegalArgumentException"
def zc (tag : Nat) : Nat := if tag = 0 then 0 else 1
def zs (tag : Nat) : Nat := if tag = 0 then 0 else 6
/-- what a throw needs of the start: two statics of Throwable, two texts -/
def zTh (A : Nat → Prop) (U : State) : Prop := vx_Zq Bundle.tN "UNASSIGNED_STACK" Bundle.steD A U U.heap ∧ vx_Zq Bundle.tN "SUPPRESSED_SENTINEL" Bundle.listD A U U.heap ∧ (∃ sa, vk_R RX7 24 "a byte is missing" sa U) ∧ (∃ sa, vk_R RX7 35 "not as said" sa U)
theorem zTh.to {A B : Nat → Prop} {s U : State} {H : Heap} {locs : List Loc} (h : zTh A s) (hS : va_S A s.heap H locs) (hAB : ∀ q, B q → A q) (hU : U.heap = H) (hW : s.WarmedH U.vm) : zTh B U := by
  obtain ⟨h1, h2, ⟨a, h3⟩, ⟨b, h4⟩⟩ := h
  have hk : ∀ a : Nat, a < s.heap.size → ¬ A a → U.heap[a]? = s.heap[a]? := fun a ha hn => by rw [hU]; exact hS.2.1 a ha hn
  exact ⟨((h1.moved hW.alike).kept hk).narrow hAB, ((h2.moved hW.alike).kept hk).narrow hAB, ⟨a, h3.warm hW⟩, ⟨b, h4.warm hW⟩⟩
def zPT (D : va_G) (tys : List (ClassId × FieldType)) (ws : va_W) (sz : Nat) (U : State) : Prop := zP D tys ws sz U ∧ zTh (va_A ws sz) U
theorem zPT_blind {D : va_G} {tys : List (ClassId × FieldType)} {ws : va_W} {sz : Nat} {av : List Value} : FrameBlind (va_Pc av (zPT D tys ws sz)) := by
  intro a U g mk q
  obtain ⟨h0, hp, h1, h2, ⟨a1, h3⟩, ⟨a2, h4⟩⟩ := q
  obtain ⟨-, hp2⟩ := zP_blind a U g mk ⟨h0, hp⟩
  exact ⟨h0, hp2, (h1.moved (U := U.calling g mk a) (Vm.Alike.refl U.vm)), (h2.moved (U := U.calling g mk a) (Vm.Alike.refl U.vm)), ⟨a1, h3.same rfl⟩, ⟨a2, h4.same rfl⟩⟩
abbrev zQTi (D : va_G) (ws : va_W) (sz tag : Nat) (r : Int32) (w1 : va_W) : Array Value → State → Outcome → State → Prop := va_Qi (fun (r' : Int32) (_ : Unit) => tag = 0 ∧ r' = r) (fun _ t => zB D ws sz w1 t) (va_A ws sz)
abbrev zQTv (D : va_G) (ws : va_W) (sz tag : Nat) (w1 : va_W) : Array Value → State → Outcome → State → Prop := va_Qv (fun (_ : Unit) => tag = 0) (fun _ t => zB D ws sz w1 t) (va_A ws sz)
abbrev zXT (D : va_G) (ws : va_W) (sz tag : Nat) (w1 : va_W) : String → State → State → Prop := vx_X (fun (_ : Unit) => tag ≠ 0) (fun E _ t => E = zEx tag ∧ zB D ws sz w1 t) (va_A ws sz)
theorem zpreT {D : va_G} {tys : List (ClassId × FieldType)} {ws wc : va_W} {A : Nat → Prop} {s : State} {H : Heap} {locs : List Loc} (hK : va_K D vwCl tys s) (hN : zN s) (hT : zTh A s) (hA : ∀ q, s.heap.size ≤ q → A q) (hS : va_S A s.heap H locs) (hP : va_P D vwCl ws H) (hD : va_D A ws) (isC : List Nat) (hn : va_nd isC = true) (hC : isC.map (fun i => ws[i]?) = wc.map some) {av : List Value} :
    ∀ U : State, U.heap = H → s.WarmedH U.vm → va_Pc av (zPT D tys wc H.size) av.toArray U := by
  intro U hU hW
  obtain ⟨-, h2⟩ := zpre hK hN hP hD isC hn hC (av := av) U hU hW
  exact ⟨rfl, h2, hT.to hS (va_free hD hS hA isC hC) hU hW⟩
theorem zT_le {β : Type} {a : Option (Nat × β)} {tg tg0 : Nat} {x y : β} (h : (if tg = 0 then a else some (tg, x)) = some (tg0, y)) : 0 + zc tg ≤ zc tg0 ∧ 0 + zs tg ≤ zs tg0 := by
  by_cases c : tg = 0
  · subst c; exact ⟨Nat.zero_le _, Nat.zero_le _⟩
  · rw [if_neg c] at h
    cases h
    exact ⟨Nat.le_of_eq (Nat.zero_add _), Nat.le_of_eq (Nat.zero_add _)⟩
theorem zT_le1 {a : Option Nat} {tg tg0 : Nat} (h : (if tg = 0 then a else some tg) = some tg0) : 0 + zc tg ≤ zc tg0 ∧ 0 + zs tg ≤ zs tg0 := by
  by_cases c : tg = 0
  · subst c; exact ⟨Nat.zero_le _, Nat.zero_le _⟩
  · rw [if_neg c] at h
    cases h
    exact ⟨Nat.le_of_eq (Nat.zero_add _), Nat.le_of_eq (Nat.zero_add _)⟩
section ZX
variable {p : Program} {l : Launch} {e : Env} {R : Room} {s : State} {m : MethodId} {args : Array Value} {below : List Frame} {meth : Method} {c : Code} {H : Heap} {locs : List Loc} {cells slots : Nat} {Q : State → Prop}
variable {pc : Nat} {ls : Array Slot} {rest st0 : List Value} {a : Array Value} {A : Nat → Prop} {H0 : Heap} {tag : Nat}
theorem zcx_i {D : va_G} {ws wc w1 ws' : va_W} {r : Int32} (hr : vx_Run p l e R s m args below meth c H locs cells slots (zc tag) (zs tag) (F0 m pc ls st0) rest (zQTi D wc H.size tag r w1 a) (zXT D wc H.size tag w1) (va_A wc H.size))
    (hP : va_P D vwCl ws H) (hD : va_D A ws) (hS : va_S A H0 H locs) (hA : ∀ q, H0.size ≤ q → A q) (isC isR perm : List Nat) (hC : isC.map (fun i => ws[i]?) = wc.map some) (hR : isR.all (fun i => decide (i < ws.length)) = true)
    (hn : va_nd isR = true) (hdis : isR.all (fun i => !isC.contains i) = true) (hp : perm.map (fun i => (isR.filterMap (fun i => ws[i]?) ++ w1)[i]?) = ws'.map some) (hnd : va_nd perm = true)
    (kx : ¬ tag = 0 → ∀ (H1 : Heap) (locs1 : List Loc) (q9 : Addr) (ce : Cell), va_P D vwCl ws' H1 → va_D A ws' → va_S A H0 H1 locs1 → H1[q9]? = some ce → ce.vm = .none → s.vm.findClass (zEx tag) = some ce.cls → vx_W p l e R s m args below meth c H1 locs1 (cells + zc tag) (slots + zs tag) Q (F0 m pc ls rest) q9)
    (kk : tag = 0 → ∀ (H1 : Heap) (locs1 : List Loc), va_P D vwCl ws' H1 → va_D A ws' → va_S A H0 H1 locs1 → W p l e R s m args below meth c H1 locs1 cells slots Q (F0 m (pc + 3) ls (.int r :: rest))) : W p l e R s m args below meth c H locs cells slots Q (F0 m pc ls st0) := by
  have hF := va_free hD hS hA isC hC
  refine vx_calli hr hS (fun q _ h => hF q h) hF (fun q _ h => hF q h) (fun E ce q9 u t H1 locs1 ht hvm hw hB hz1 hk1 hS1 hq hv hcl => ?_) (fun r' u t H1 locs1 ht hvm hw hB hz1 hk1 hS1 => ?_)
  · obtain ⟨hE, hP1, hD1⟩ := hB
    rw [ht] at hP1
    obtain ⟨q1, q2⟩ := zjoin hP hD hS hA isC isR perm hC hR hn hdis hp hnd hk1 hP1 hD1
    rw [hE] at hcl
    exact kx hw H1 locs1 q9 ce q1 q2 hS1 hq hv hcl
  · obtain ⟨h0, hw⟩ := hw
    subst hw
    obtain ⟨hP1, hD1⟩ := hB
    rw [ht] at hP1
    obtain ⟨q1, q2⟩ := zjoin hP hD hS hA isC isR perm hC hR hn hdis hp hnd hk1 hP1 hD1
    have hk := kk h0 H1 locs1 q1 q2 hS1
    subst h0
    exact hk
theorem zcx_v {D : va_G} {ws wc w1 ws' : va_W} (hr : vx_Run p l e R s m args below meth c H locs cells slots (zc tag) (zs tag) (F0 m pc ls st0) rest (zQTv D wc H.size tag w1 a) (zXT D wc H.size tag w1) (va_A wc H.size))
    (hP : va_P D vwCl ws H) (hD : va_D A ws) (hS : va_S A H0 H locs) (hA : ∀ q, H0.size ≤ q → A q) (isC isR perm : List Nat) (hC : isC.map (fun i => ws[i]?) = wc.map some) (hR : isR.all (fun i => decide (i < ws.length)) = true)
    (hn : va_nd isR = true) (hdis : isR.all (fun i => !isC.contains i) = true) (hp : perm.map (fun i => (isR.filterMap (fun i => ws[i]?) ++ w1)[i]?) = ws'.map some) (hnd : va_nd perm = true)
    (kx : ¬ tag = 0 → ∀ (H1 : Heap) (locs1 : List Loc) (q9 : Addr) (ce : Cell), va_P D vwCl ws' H1 → va_D A ws' → va_S A H0 H1 locs1 → H1[q9]? = some ce → ce.vm = .none → s.vm.findClass (zEx tag) = some ce.cls → vx_W p l e R s m args below meth c H1 locs1 (cells + zc tag) (slots + zs tag) Q (F0 m pc ls rest) q9)
    (kk : tag = 0 → ∀ (H1 : Heap) (locs1 : List Loc), va_P D vwCl ws' H1 → va_D A ws' → va_S A H0 H1 locs1 → W p l e R s m args below meth c H1 locs1 cells slots Q (F0 m (pc + 3) ls rest)) : W p l e R s m args below meth c H locs cells slots Q (F0 m pc ls st0) := by
  have hF := va_free hD hS hA isC hC
  refine vx_callv hr hS (fun q _ h => hF q h) hF (fun q _ h => hF q h) (fun E ce q9 u t H1 locs1 ht hvm hw hB hz1 hk1 hS1 hq hv hcl => ?_) (fun u t H1 locs1 ht hvm hw hB hz1 hk1 hS1 => ?_)
  · obtain ⟨hE, hP1, hD1⟩ := hB
    rw [ht] at hP1
    obtain ⟨q1, q2⟩ := zjoin hP hD hS hA isC isR perm hC hR hn hdis hp hnd hk1 hP1 hD1
    rw [hE] at hcl
    exact kx hw H1 locs1 q9 ce q1 q2 hS1 hq hv hcl
  · obtain ⟨hP1, hD1⟩ := hB
    rw [ht] at hP1
    obtain ⟨q1, q2⟩ := zjoin hP hD hS hA isC isR perm hC hR hn hdis hp hnd hk1 hP1 hD1
    have hk := kk hw H1 locs1 q1 q2 hS1
    subst hw
    exact hk
/-- the ends of a method that may throw -/
theorem zendT_i {D : va_G} {w0 w1 : va_W} {r : Int32} {cc : ByteArray} (hx : p.tables.exec = Jvm.exec) (hb : c.code = cc) (hr : meth.sig.returnType = some .int) (hlocks : meth.locks = false) (h0 : tag = 0) {H : Heap} {locs : List Loc} {pc : Nat} {ls : Array Slot} (d : decode cc pc = .ok (.ireturn, 1)) (hP : va_P D vwCl w1 H) (hD : va_D (va_A w0 s.heap.size) w1) (hS : va_S (va_A w0 s.heap.size) s.heap H locs) :
    W p l e R s m args below meth c H locs 0 0 (vx_MQ below (zQTi D w0 s.heap.size tag r w1) (zXT D w0 s.heap.size tag w1) args s (zc tag) (zs tag) (va_A w0 s.heap.size)) (F0 m pc ls [.int r]) := by
  subst h0
  exact vx_ret (W.iret (v := r) hx hb hr (fun t ht hW => ⟨⟨r, (), rfl, ⟨rfl, rfl⟩, by rw [ht]; exact hP, hD⟩, hS.F ht⟩) hS.2.2 d)
theorem zendT_z {D : va_G} {w0 w1 : va_W} {r : Int32} {cc : ByteArray} (hx : p.tables.exec = Jvm.exec) (hb : c.code = cc) (hr : meth.sig.returnType = some .boolean) (hlocks : meth.locks = false) (h0 : tag = 0) {H : Heap} {locs : List Loc} {pc : Nat} {ls : Array Slot} (d : decode cc pc = .ok (.ireturn, 1)) (hn : narrow .boolean (.int r) = .int r) (hP : va_P D vwCl w1 H) (hD : va_D (va_A w0 s.heap.size) w1) (hS : va_S (va_A w0 s.heap.size) s.heap H locs) :
    W p l e R s m args below meth c H locs 0 0 (vx_MQ below (zQTi D w0 s.heap.size tag r w1) (zXT D w0 s.heap.size tag w1) args s (zc tag) (zs tag) (va_A w0 s.heap.size)) (F0 m pc ls [.int r]) := by
  subst h0
  exact vx_ret (W.zret (v := r) hx hb hr hn (fun t ht hW => ⟨⟨r, (), rfl, ⟨rfl, rfl⟩, by rw [ht]; exact hP, hD⟩, hS.F ht⟩) hS.2.2 d)
theorem zendT_v {D : va_G} {w0 w1 : va_W} {cc : ByteArray} (hx : p.tables.exec = Jvm.exec) (hb : c.code = cc) (hr : meth.sig.returnType = none) (hlocks : meth.locks = false) (h0 : tag = 0) {H : Heap} {locs : List Loc} {pc : Nat} {ls : Array Slot} (d : decode cc pc = .ok (.return_, 1)) (hP : va_P D vwCl w1 H) (hD : va_D (va_A w0 s.heap.size) w1) (hS : va_S (va_A w0 s.heap.size) s.heap H locs) :
    W p l e R s m args below meth c H locs 0 0 (vx_MQ below (zQTv D w0 s.heap.size tag w1) (zXT D w0 s.heap.size tag w1) args s (zc tag) (zs tag) (va_A w0 s.heap.size)) (F0 m pc ls []) := by
  subst h0
  exact vx_ret (W.vret hx hb hr (fun t ht hW => ⟨⟨(), rfl, rfl, by rw [ht]; exact hP, hD⟩, hS.F ht⟩) hS.2.2 d)
/-- a callee's exception goes on to the caller -/
theorem zoutT {D : va_G} {w0 w1 : va_W} {Qc : Array Value → State → Outcome → State → Prop} (htab : ∀ x ∈ c.exceptionTable.toList, False) (hlocks : meth.locks = false) (h0 : ¬ tag = 0) {H : Heap} {locs : List Loc} {pc : Nat} {ls : Array Slot} {rest : List Value} {q9 : Addr} {ce : Cell} (hP : va_P D vwCl w1 H) (hD : va_D (va_A w0 s.heap.size) w1) (hS : va_S (va_A w0 s.heap.size) s.heap H locs) (hq : H[q9]? = some ce) (hv : ce.vm = .none) (hcl : s.vm.findClass (zEx tag) = some ce.cls) :
    vx_W p l e R s m args below meth c H locs (0 + zc tag) (0 + zs tag) (vx_MQ below Qc (zXT D w0 s.heap.size tag w1) args s (zc tag) (zs tag) (va_A w0 s.heap.size)) (F0 m pc ls rest) q9 :=
  vx_out (fun x hx => (htab x hx).elim) hlocks hq hv hcl (fun t ht hvm => ⟨(), h0, ⟨rfl, by rw [ht]; exact hP, hD⟩, hS.F ht⟩) hS.2.2 (Nat.le_of_eq (Nat.zero_add _)) (Nat.le_of_eq (Nat.zero_add _))
end ZX
/-- what a walk of a method that may throw owes -/
def zTEi (tag : Nat) (p : Program) (l : Launch) (e : Env) (R : Room) (s : State) (m : MethodId) (args : Array Value) (below : List Frame) (meth : Method) (c : Code) (cc : ByteArray) (D : va_G) (A : Nat → Prop) (Q : State → Prop) (w1 : va_W) (r : Int32) : Prop := tag = 0 → zEi p l e R s m args below meth c cc D A Q w1 r
def zTEz (tag : Nat) (p : Program) (l : Launch) (e : Env) (R : Room) (s : State) (m : MethodId) (args : Array Value) (below : List Frame) (meth : Method) (c : Code) (cc : ByteArray) (D : va_G) (A : Nat → Prop) (Q : State → Prop) (w1 : va_W) (r : Int32) : Prop := tag = 0 → zEz p l e R s m args below meth c cc D A Q w1 r
def zTEv (tag : Nat) (p : Program) (l : Launch) (e : Env) (R : Room) (s : State) (m : MethodId) (args : Array Value) (below : List Frame) (meth : Method) (c : Code) (cc : ByteArray) (D : va_G) (A : Nat → Prop) (Q : State → Prop) (w1 : va_W) : Prop := tag = 0 → zEv p l e R s m args below meth c cc D A Q w1
def zTX (tag : Nat) (p : Program) (l : Launch) (e : Env) (R : Room) (s : State) (m : MethodId) (args : Array Value) (below : List Frame) (meth : Method) (c : Code) (D : va_G) (A : Nat → Prop) (Q : State → Prop) (w1 : va_W) : Prop :=
  ∀ (H : Heap) (locs : List Loc) (pc : Nat) (ls : Array Slot) (rest : List Value) (q9 : Addr) (ce : Cell), ¬ tag = 0 → va_P D vwCl w1 H → va_D A w1 → va_S A s.heap H locs → H[q9]? = some ce → ce.vm = .none → s.vm.findClass (zEx tag) = some ce.cls → vx_W p l e R s m args below meth c H locs (0 + zc tag) (0 + zs tag) Q (F0 m pc ls rest) q9
/-- a method's own throw of a new exception with a written text -/
theorem zthr {p : Program} {l : Launch} {e : Env} {R : Room} {s : State} {m : MethodId} {args : Array Value} {below : List Frame} {meth : Method} {c : Code} {H : Heap} {locs : List Loc} {D : va_G} {w0 w1 : va_W} {Qc : Array Value → State → Outcome → State → Prop} {cc : ByteArray} {nL : Nat} {Ts : List Cond} {own cls text : String} {names : List String} {ik is ic sa pc tag : Nat} {ls : Array Slot}
    (hst : l.stackTraces = false) (C : CallFix p m c cc nL s args Ts own) (hts : ∀ w ∈ Ts, w.before args s = true) (hstr : vk_R own is text sa s)
    (hU : vx_Zq Bundle.tN "UNASSIGNED_STACK" Bundle.steD (va_A w0 s.heap.size) s s.heap) (hN : vx_Zq Bundle.tN "SUPPRESSED_SENTINEL" Bundle.listD (va_A w0 s.heap.size) s s.heap)
    (hk : (Cond.classLink own ik cls).before args s = true) (hini : (Cond.initialized cls).before args s = true) (hat : ∀ w ∈ vx_atS own ic cls names, w.before args s = true)
    (hgood : ∀ w ∈ Cond.classLink own ik cls :: Cond.initialized cls :: vx_atS own ic cls names, vx_ot w = true) (hcls : Bundle.fit cls = true) (hnames : ∀ n ∈ names, Bundle.fit n = true)
    (hP : va_P D vwCl w1 H) (hD : va_D (va_A w0 s.heap.size) w1) (hS : va_S (va_A w0 s.heap.size) s.heap H locs) (hsz : ls.size = nL)
    (d0 : decode cc pc = .ok (.new ik, 3)) (d3 : decode cc (pc + 3) = .ok (.dup, 1)) (d4 : decode cc (pc + 4) = .ok (.ldc is, 2)) (d6 : decode cc (pc + 6) = .ok (.invokespecial ic, 3)) (d9 : decode cc (pc + 9) = .ok (.athrow, 1))
    (htab : ∀ x ∈ c.exceptionTable.toList, False) (hlocks : meth.locks = false) (hRf : names.length + 3 < R.frames) (hRl : (([] : List Value).map fun v => v.category).sum + (13 * (names.length + 1) + 43) ≤ R.locals)
    (hc : R.cells = 1) (hs : R.slots = 6) (hzx : zEx tag = cls) (htag : ¬ tag = 0) :
    W p l e R s m args below meth c H locs 0 0 (vx_MQ below Qc (zXT D w0 s.heap.size tag w1) args s (zc tag) (zs tag) (va_A w0 s.heap.size)) (F0 m pc ls []) := by
  have h1 : 0 + 1 ≤ zc tag := by unfold zc; rw [if_neg htag]; exact Nat.le_refl 1
  have h6 : 0 + 6 ≤ zs tag := by unfold zs; rw [if_neg htag]; exact Nat.le_refl 6
  exact vx_throwS C.1 C.2.1 hst (A := va_A w0 s.heap.size) C.2.2.2.1 hcls hnames hk hini hstr hat hgood hU hN hS (hsz.trans C.2.2.1.symm) d0 d3 d4 d6 d9 (fun x hx => (htab x hx).elim) hRf hRl (by rw [hc]; exact Nat.le_refl 1) (by rw [hs]; exact Nat.le_refl 6) hlocks
    (fun t hvm hz hk9 => ⟨(), htag, ⟨hzx.symm, hP.kept (fun k q hq => hk9 q.1 (hP k q hq).lt), hD⟩, ⟨Nat.le_trans hS.1 hz, fun q g1 g2 => (hk9 q (Nat.lt_of_lt_of_le g1 hS.1)).trans (hS.2.1 q g1 g2)⟩⟩) hS.2.2 h1 h6
/-- a switch's default -/
theorem ztab {x : Int32} (k : Nat) (h : ∀ j : Nat, j ≤ k → ¬ x = nI j) : x.toInt < 0 ∨ (k : Int) < x.toInt := by
  by_cases c : x.toInt < 0
  · exact Or.inl c
  · by_cases c2 : (k : Int) < x.toInt
    · exact Or.inr c2
    · exfalso
      have hx : ¬ x < 0 := fun q => c (by have := Int32.lt_iff_toInt_lt.mp q; simpa using this)
      obtain ⟨j, hj, e⟩ := nI_of hx
      refine h j ?_ e
      rw [e, nI_toInt hj] at c2
      omega
theorem zall4 {x : Int32} (h0 : ¬ x = 0) (h1 : ¬ x = 1) (h2 : ¬ x = 2) (h3 : ¬ x = 3) (h4 : ¬ x = 4) : ∀ j : Nat, j ≤ 4 → ¬ x = nI j := by
  intro j hj
  rcases (show j = 0 ∨ j = 1 ∨ j = 2 ∨ j = 3 ∨ j = 4 by omega) with rfl | rfl | rfl | rfl | rfl
  · exact h0
  · exact h1
  · exact h2
  · exact h3
  · exact h4
