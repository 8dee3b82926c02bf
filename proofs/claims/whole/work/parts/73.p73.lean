/-! The third format's packed rows. -/
theorem zhneg {h : Nat} (h1 : 1 ≤ h) (h2 : h ≤ 8) : nI h - nI 1 - nI h = -(nI 1) := by
  rw [pk_sub h1]
  apply Int32.toInt_inj.mp
  rw [pk_sub_toInt (by omega) (by omega)]
  have : (-(nI 1) : Int32).toInt = -1 := by decide
  rw [this]
  omega
theorem zpaintY {w h K x u v : Nat} {tc dp : Nat → Int32} (hw : w ≤ 8) (hh : h ≤ 8) (hK : K ≤ 64) (hx : x < w) (hu : u < h) (hv : v < K) : fX0_paint (nI K) (nI x) (nI u) tc (nI w) (nI h) dp (nI v) = some (0, nI (x + 1), upd dp ((h - 1 - u) * w + x) (tc v)) := by
  have hs := zmul64 hw hh
  have hi := zyx_lt hx (show h - 1 - u < h by omega)
  unfold fX0_paint
  simp only [zlit]
  rw [pk_sub (show 1 ≤ h by omega), pk_sub (show u ≤ h - 1 by omega), zlet_eq]
  have e : fX5_has (nI w) (nI h) (nI x) (nI (h - 1 - u)) = some (nI 1) := by
    unfold fX5_has
    simp (disch := omega) only [zlit, nI_lt_nI, nI_le_nI, nI_eq_nI, nI_add, pk_mul, pk_sub, pk_div, zrem_nI, zrd_nI, zwr_nI, zb1_some, zb2_some, zb3_some, zb4_some, zb5_some, zb6_some, zb7_some, zb8_some, zlet_eq, if_pos, if_neg, pk_us, pk_un, true_and, and_true, true_or, or_true, ↓reduceIte]
  unfold fX5_set
  rw [zb1_of e, zb1_of zneed1, if_pos rfl, zb2_of (zcofY hK hv), if_pos rfl, pk_mul, nI_add, zwr_nI (by omega) (by decide), zb1_some, zlet_eq, nI_add]
theorem zpaintN {w h K x u v : Nat} {tc dp : Nat → Int32} (hw : w ≤ 8) (hh1 : 1 ≤ h) (hh : h ≤ 8) (hK : K ≤ 64) (hx : x ≤ w) (hu : u ≤ h) (hv : v < 256) (hN : ¬ (x < w ∧ u < h ∧ v < K)) : fX0_paint (nI K) (nI x) (nI u) tc (nI w) (nI h) dp (nI v) = some (2, nI x, dp) := by
  unfold fX0_paint
  simp only [zlit]
  by_cases c : u < h
  · rw [pk_sub (show 1 ≤ h by omega), pk_sub (show u ≤ h - 1 by omega), zlet_eq]
    by_cases d : x < w
    · have e : fX5_has (nI w) (nI h) (nI x) (nI (h - 1 - u)) = some (nI 1) := by
        unfold fX5_has
        simp (disch := omega) only [zlit, nI_lt_nI, nI_le_nI, nI_eq_nI, nI_add, pk_mul, pk_sub, pk_div, zrem_nI, zrd_nI, zwr_nI, zb1_some, zb2_some, zb3_some, zb4_some, zb5_some, zb6_some, zb7_some, zb8_some, zlet_eq, if_pos, if_neg, pk_us, pk_un, true_and, and_true, true_or, or_true, ↓reduceIte]
      rw [zb1_of e, zb1_of zneed1, if_pos rfl, zb2_of (zcofN hK hv (by omega)), if_neg (by decide)]
    · have e : fX5_has (nI w) (nI h) (nI x) (nI (h - 1 - u)) = some (nI 0) := by
        unfold fX5_has
        simp (disch := omega) only [zlit, nI_lt_nI, nI_le_nI, nI_eq_nI, nI_add, pk_mul, pk_sub, pk_div, zrem_nI, zrd_nI, zwr_nI, zb1_some, zb2_some, zb3_some, zb4_some, zb5_some, zb6_some, zb7_some, zb8_some, zlet_eq, if_pos, if_neg, pk_us, pk_un, true_and, and_true, true_or, or_true, ↓reduceIte]
      rw [zb1_of e, zb1_of zneed0, if_neg (by decide)]
  · have e : u = h := by omega
    subst e
    rw [zhneg hh1 hh, zlet_eq]
    have e : fX5_has (nI w) (nI u) (nI x) (-(nI 1)) = some (nI 0) := by
      rcases zhas hw hh (nI x) (-(nI 1)) with ⟨z, _⟩ | ⟨x', y', _, z2, _, z4, _⟩
      · exact z
      · exact absurd z4 (zneg1_ne (by omega))
    rw [zb1_of e, zb1_of zneed0, if_neg (by decide)]
theorem zdabY {w h K x u v : Nat} {tc fr col one : Nat → Int32} (hw : w ≤ 8) (hh : h ≤ 8) (hK : K ≤ 64) (hC : zCt K tc col) (hx : x < w) (hu : u < h) (hv : v < K) : ∃ fr' one', fX9_dab (nI 0) (nI w) (nI h) (nI K) fr col one (nI x) (nI u) (nI v) = some (nI 0, fr', one') ∧ ∀ (D : Nat → Prop) (dp : Nat → Int32), zPd w D dp fr → zPd w (fun j => D j ∨ j = (h - 1 - u) * w + x) (upd dp ((h - 1 - u) * w + x) (tc v)) fr' := by
  have hs := zmul64 hw hh
  have hi := zyx_lt hx (show h - 1 - u < h by omega)
  obtain ⟨one', t1, t2⟩ := zctone (one := one) hK hv hC
  obtain ⟨fr', g1, g2⟩ := zPd_set (fr := fr) hw hh hi t2
  refine ⟨fr', one', ?_, g2⟩
  rw [Nat.mul_comm] at g1
  unfold fX9_dab fX9_dab_22
  simp only [zlit]
  rw [if_neg (by rw [nI_le_nI (by omega) (by omega)]; omega), if_pos (by rw [nI_lt_nI (by omega) (by omega)]; omega), zb1_of zbrok0, zb2_of t1, if_pos rfl, pk_sub (show 1 ≤ h by omega), pk_sub (show u ≤ h - 1 by omega), pk_mul, nI_add, zb1_of g1]
theorem zdabN {w h K x u v : Nat} {fr col one : Nat → Int32} (hw : w ≤ 8) (hh : h ≤ 8) (hK : K ≤ 64) (hx : x < 1000) (hu : u < 1000) (hv : v < 256) (hN : ¬ (x < w ∧ u < h ∧ v < K)) : fX9_dab (nI 0) (nI w) (nI h) (nI K) fr col one (nI x) (nI u) (nI v) = some (-(nI 3), fr, one) := by
  unfold fX9_dab fX9_dab_17 fX9_dab_22
  simp only [zlit]
  rw [zb1_of zbrok0, zb1_of zbrok1, zb2_of (zctoneF zn3)]
  simp only [zn3, ↓reduceIte]
  by_cases c : x < w
  · rw [if_neg (show ¬ nI w ≤ nI x by rw [nI_le_nI (by omega) (by omega)]; omega)]
    by_cases d : u < h
    · rw [if_pos (by rw [nI_lt_nI (by omega) (by omega)]; omega), zb2_of (zctoneN hK hv (by omega))]
      simp only [zn3, ↓reduceIte]
    · rw [if_neg (by rw [nI_lt_nI (by omega) (by omega)]; omega)]
  · rw [if_pos (by rw [nI_le_nI (by omega) (by omega)]; omega)]
theorem zdabF {F w h K x u v : Int32} {fr col one : Nat → Int32} (hF : (F = nI 0) = False) : fX9_dab F w h K fr col one x u v = some (F, fr, one) := by
  unfold fX9_dab fX9_dab_17 fX9_dab_22
  simp only [zlit]
  rw [zb1_of (zbrokF hF), zb1_of (zbrokF hF), zb2_of (zctoneF hF)]
  simp only [hF, ↓reduceIte, ite_self]
theorem zF52 {F s a nw nh c l1 l2 l3 : Int32} {rf fr col one : Nat → Int32} {n : Nat} (hF : (F = nI 0) = False) : zS F (fX9_pieces_52 (n + 1) s a F nw nh c rf fr col one l1 l2 l3) := by
  rw [fX9_pieces_52_s]
  simp only [zlit, hF, ↓reduceIte, ite_self]
  exact zS_mk
theorem zF272 {F s a nw nh c l1 l2 l3 : Int32} {rf fr col one : Nat → Int32} {n : Nat} (hF : (F = nI 0) = False) : zS F (fX9_pieces_272 (fX9_pieces_52 (n + 1)) s a F nw nh c rf fr col one l1 l2 l3) := by
  unfold fX9_pieces_272 fX9_pieces_289 fX9_pieces_294
  rw [zb1_of (zbrokF hF), zb1_of (zbrokF hF)]
  exact zS_ite (zF52 hF) (zS_ite (zF52 hF) (zF52 hF))
theorem zF121 {F s a nw nh c l1 l2 l3 l4 l5 l6 : Int32} {rf fr col one : Nat → Int32} {n f : Nat} (hF : (F = nI 0) = False) : zS F (fX9_pieces_121 (fX9_pieces_52 (n + 1)) (f + 1) s a F nw nh c rf fr col one l1 l2 l3 l4 l5 l6) := by
  rw [fX9_pieces_121_s]
  unfold fX9_pieces_152
  simp only [zlit, hF, ↓reduceIte, ite_self]
  rw [zlet_eq]
  exact zF272 hF
theorem zF222p {F s a nw nh c l1 l2 l3 l5 l6 : Int32} {rf fr col one : Nat → Int32} {n f : Nat} (hF : (F = nI 0) = False) : zS F (fX9_pieces_222 (fX9_pieces_52 (n + 1)) (f + 1) s a F nw nh c rf fr col one l1 l2 l3 l5 l6) := by
  rw [fX9_pieces_222_s]
  unfold fX9_pieces_259
  simp only [zlit, hF, ↓reduceIte, ite_self]
  rw [zlet_eq, zb2_of (zskipF hF)]
  exact zF272 hF
theorem zF97p {F s a nw nh c l1 l2 l3 l4 l5 k : Int32} {rf fr col one : Nat → Int32} {n : Nat} (hF : (F = nI 0) = False) : zS F (fX9_pieces_97 (fX9_pieces_52 (n + 1)) s a F nw nh c rf fr col one l1 l2 l3 l4 l5 k) := by
  unfold fX9_pieces_97 fX9_pieces_115
  rw [zb1_of (zbrokF hF), zb1_of (zbrokF hF), zb1_of (zbrokF hF)]
  exact zS_ite (zF121 hF) (zF121 hF)
theorem z272Y {w h x u : Nat} {s a c l3 : Int32} {rf fr col one : Nat → Int32} {rc : Int32 → Int32 → Int32 → Int32 → Int32 → Int32 → (Nat → Int32) → (Nat → Int32) → (Nat → Int32) → (Nat → Int32) → Int32 → Int32 → Int32 → Option (Int32 × Int32 × (Nat → Int32) × (Nat → Int32))} (hw : w ≤ 8) (hh : h ≤ 8) (hx : x ≤ w) (hu : u ≤ h) : fX9_pieces_272 rc s a (nI 0) (nI w) (nI h) c rf fr col one (nI x) (nI u) l3 = rc s a (nI 0) (nI w) (nI h) c rf fr col one (nI x) (nI u) l3 := by
  unfold fX9_pieces_272 fX9_pieces_289 fX9_pieces_294
  simp (disch := omega) only [zlit, nI_lt_nI, nI_le_nI, nI_eq_nI, nI_add, pk_mul, pk_sub, pk_div, zrem_nI, zrd_nI, zwr_nI, zb1_some, zb2_some, zb3_some, zb4_some, zb5_some, zb6_some, zb7_some, zb8_some, zlet_eq, if_pos, if_neg, pk_us, pk_un, true_and, and_true, true_or, or_true, ↓reduceIte, zbrok0]
theorem z272N {w h x u n : Nat} {s a c l3 : Int32} {rf fr col one : Nat → Int32} (hw : w ≤ 8) (hh : h ≤ 8) (hx : x < 1000) (hu : u < 1000) (hN : ¬ (x ≤ w ∧ u ≤ h)) : zS (-(nI 3)) (fX9_pieces_272 (fX9_pieces_52 (n + 1)) s a (nI 0) (nI w) (nI h) c rf fr col one (nI x) (nI u) l3) := by
  unfold fX9_pieces_272 fX9_pieces_289 fX9_pieces_294
  by_cases c1 : w < x
  · simp (disch := omega) only [zlit, nI_lt_nI, nI_le_nI, nI_eq_nI, nI_add, pk_mul, pk_sub, pk_div, zrem_nI, zrd_nI, zwr_nI, zb1_some, zb2_some, zb3_some, zb4_some, zb5_some, zb6_some, zb7_some, zb8_some, zlet_eq, if_pos, if_neg, pk_us, pk_un, true_and, and_true, true_or, or_true, ↓reduceIte, zbrok1]
    exact zF52 zn3
  · simp (disch := omega) only [zlit, nI_lt_nI, nI_le_nI, nI_eq_nI, nI_add, pk_mul, pk_sub, pk_div, zrem_nI, zrd_nI, zwr_nI, zb1_some, zb2_some, zb3_some, zb4_some, zb5_some, zb6_some, zb7_some, zb8_some, zlet_eq, if_pos, if_neg, pk_us, pk_un, true_and, and_true, true_or, or_true, ↓reduceIte, zbrok1]
    exact zF52 zn3
theorem zgoY {w h x u : Nat} {c0 u0 : Int32} (hw : w ≤ 8) (hh : h ≤ 8) (hx : x ≤ w) (hu : u ≤ h) : fX0_goTo c0 u0 (nI w) (nI h) (nI x) (nI u) = some (0, nI x, nI u) := by
  unfold fX0_goTo fX0_goTo_24
  simp (disch := omega) only [zlit, nI_lt_nI, nI_le_nI, nI_eq_nI, nI_add, pk_mul, pk_sub, pk_div, zrem_nI, zrd_nI, zwr_nI, zb1_some, zb2_some, zb3_some, zb4_some, zb5_some, zb6_some, zb7_some, zb8_some, zlet_eq, if_pos, if_neg, pk_us, pk_un, true_and, and_true, true_or, or_true, ↓reduceIte, zneed1]
theorem zgoN {w h x u : Nat} {c0 u0 : Int32} (hw : w ≤ 8) (hh : h ≤ 8) (hx : x < 1000) (hu : u < 1000) (hN : ¬ (x ≤ w ∧ u ≤ h)) : fX0_goTo c0 u0 (nI w) (nI h) (nI x) (nI u) = some (2, c0, u0) := by
  unfold fX0_goTo fX0_goTo_23 fX0_goTo_24
  by_cases c1 : w < x
  · simp (disch := omega) only [zlit, nI_lt_nI, nI_le_nI, nI_eq_nI, nI_add, pk_mul, pk_sub, pk_div, zrem_nI, zrd_nI, zwr_nI, zb1_some, zb2_some, zb3_some, zb4_some, zb5_some, zb6_some, zb7_some, zb8_some, zlet_eq, if_pos, if_neg, pk_us, pk_un, true_and, and_true, true_or, or_true, ↓reduceIte, zneed0]
  · simp (disch := omega) only [zlit, nI_lt_nI, nI_le_nI, nI_eq_nI, nI_add, pk_mul, pk_sub, pk_div, zrem_nI, zrd_nI, zwr_nI, zb1_some, zb2_some, zb3_some, zb4_some, zb5_some, zb6_some, zb7_some, zb8_some, zlet_eq, if_pos, if_neg, pk_us, pk_un, true_and, and_true, true_or, or_true, ↓reduceIte, zneed0]
theorem zall_d {w h k : Nat} {dp fr : Nat → Int32} (hk : k < w * h) (H : zPd w (fun j => j < w * h ∨ j = k) dp fr) : zPd w (fun j => j < w * h) dp fr := zPd_mono H (fun j hj => Or.inl hj)
theorem zrunY {w h K u v m x0 : Nat} {tc col fb rf : Nat → Int32} {pl sz s a l3 l3' : Int32} (hw : w ≤ 8) (hh : h ≤ 8) (hK : K ≤ 64) (hC : zCt K tc col) (hu : u < h) (hv : v < K) (hm : m < 256) (rc : Int32 → Int32 → Int32 → (Nat → Int32) → Int32 → Int32 → (Nat → Int32) → Int32 → Int32 → (Nat → Int32) → Int32 → Option (Nat × Int32 × Int32 × Int32 × (Nat → Int32))) (rd : Int32 → Int32 → Int32 → Int32 → Int32 → Int32 → (Nat → Int32) → (Nat → Int32) → (Nat → Int32) → (Nat → Int32) → Int32 → Int32 → Int32 → Option (Int32 × Int32 × (Nat → Int32) × (Nat → Int32))) : ∀ (f8 f9 j : Nat) (dp fr one : Nat → Int32), j ≤ m → m - j < f8 → m - j < f9 → x0 + m ≤ w → zPd w (fun j => j < w * h) dp fr →
    ∃ dp' fr' one', fX0_readPacked_72 rc f8 (nI K) (nI (x0 + j)) (nI u) tc pl sz fb (nI w) (nI h) dp l3 (nI m) (nI v) (nI j) = fX0_readPacked_93 rc (nI K) (nI (x0 + m)) (nI u) tc pl sz fb (nI w) (nI h) dp' l3 ∧ fX9_pieces_121 rd f9 s a (nI 0) (nI w) (nI h) (nI K) rf fr col one (nI x0) (nI u) l3' (nI m) (nI v) (nI j) = fX9_pieces_152 rd s a (nI 0) (nI w) (nI h) (nI K) rf fr' col one' (nI x0) (nI u) l3' (nI m) ∧ zPd w (fun j => j < w * h) dp' fr' := by
  intro f8
  induction f8 with
  | zero => intro f9 j dp fr one h1 h2; omega
  | succ f8 ih =>
    intro f9 j dp fr one h1 h2 h3 h4 hD
    obtain ⟨f9, rfl⟩ : ∃ m, f9 = m + 1 := ⟨f9 - 1, by omega⟩
    rw [fX0_readPacked_72_s, fX9_pieces_121_s]
    by_cases q : m ≤ j
    · have e : j = m := by omega
      subst e
      refine ⟨dp, fr, one, ?_, ?_, hD⟩
      · simp (disch := omega) only [zlit, nI_lt_nI, nI_le_nI, nI_eq_nI, nI_add, pk_mul, pk_sub, pk_div, zrem_nI, zrd_nI, zwr_nI, zb1_some, zb2_some, zb3_some, zb4_some, zb5_some, zb6_some, zb7_some, zb8_some, zlet_eq, if_pos, if_neg, pk_us, pk_un, true_and, and_true, true_or, or_true, ↓reduceIte]
      · simp (disch := omega) only [zlit, nI_lt_nI, nI_le_nI, nI_eq_nI, nI_add, pk_mul, pk_sub, pk_div, zrem_nI, zrd_nI, zwr_nI, zb1_some, zb2_some, zb3_some, zb4_some, zb5_some, zb6_some, zb7_some, zb8_some, zlet_eq, if_pos, if_neg, pk_us, pk_un, true_and, and_true, true_or, or_true, ↓reduceIte]
    · obtain ⟨fr', one', g1, g2⟩ := zdabY (fr := fr) (one := one) hw hh hK hC (show x0 + j < w by omega) hu hv
      have hD' := zall_d (zyx_lt (show x0 + j < w by omega) (show h - 1 - u < h by omega)) (g2 _ dp hD)
      obtain ⟨dp2, fr2, one2, i1, i2, i3⟩ := ih f9 (j + 1) _ fr' one' (by omega) (by omega) (by omega) h4 hD'
      refine ⟨dp2, fr2, one2, ?_, ?_, i3⟩
      · rw [if_neg (by rw [nI_le_nI (by omega) (by omega)]; exact q), zb3_of (zpaintY hw hh hK (show x0 + j < w by omega) hu hv), if_pos rfl, zlet_eq, zlit, nI_add, Nat.add_assoc]
        exact i1
      · simp only [zlit]
        rw [if_neg (by rw [nI_le_nI (by omega) (by omega)]; exact q), if_pos trivial, nI_add, zb3_of g1, zlet_eq, nI_add]
        exact i2
theorem zrunN {w h K u v m : Nat} {tc fb : Nat → Int32} {pl sz l3 : Int32} (hw : w ≤ 8) (hh1 : 1 ≤ h) (hh : h ≤ 8) (hK : K ≤ 64) (hu : u ≤ h) (hv : v < 256) (hm : m < 256) (rc : Int32 → Int32 → Int32 → (Nat → Int32) → Int32 → Int32 → (Nat → Int32) → Int32 → Int32 → (Nat → Int32) → Int32 → Option (Nat × Int32 × Int32 × Int32 × (Nat → Int32))) : ∀ (f8 j x : Nat) (dp : Nat → Int32), j < m → m - j < f8 → x ≤ w → ¬ (x + (m - j) ≤ w ∧ u < h ∧ v < K) →
    ∃ z, fX0_readPacked_72 rc f8 (nI K) (nI x) (nI u) tc pl sz fb (nI w) (nI h) dp l3 (nI m) (nI v) (nI j) = some (2, z) := by
  intro f8
  induction f8 with
  | zero => intro j x dp h1 h2; omega
  | succ f8 ih =>
    intro j x dp h1 h2 h3 hN
    rw [fX0_readPacked_72_s, if_neg (by rw [nI_le_nI (by omega) (by omega)]; omega)]
    by_cases c : x < w ∧ u < h ∧ v < K
    · rw [zb3_of (zpaintY hw hh hK c.1 c.2.1 c.2.2), if_pos rfl, zlet_eq, zlit, nI_add]
      exact ih (j + 1) (x + 1) _ (by omega) (by omega) (by omega) (by omega)
    · rw [zb3_of (zpaintN hw hh1 hh hK h3 hu hv c), if_neg (by decide)]
      exact ⟨_, rfl⟩
theorem zabs {n w h K u m x0 g : Nat} {tc col fb rf : Nat → Int32} {B : Nat → Nat} (hw : w ≤ 8) (hh1 : 1 ≤ h) (hh : h ≤ 8) (hn : n ≤ 800) (hB : zByt n fb B) (hB' : zByt n rf B) (hK : K ≤ 64) (hC : zCt K tc col) (hu : u ≤ h) (hm : m < 256) : ∀ (f8 f9 j a : Nat) (dp fr one : Nat → Int32), j ≤ m → m - j < f8 → m - j + 1 < f9 → x0 + j ≤ w → a ≤ n → zPd w (fun j => j < w * h) dp fr →
    (∃ (t : Nat) (z : Int32 × Int32 × Int32 × (Nat → Int32)), (t = 1 ∨ t = 2) ∧ fX0_obey_63 f8 (nI K) (nI (x0 + j)) (nI u) tc (nI a) (nI n) fb (nI w) (nI h) dp (nI m) (nI j) = some (t, z) ∧ zS (zft t) (fX9_pieces_222 (fX9_pieces_52 (g + 1)) f9 (nI n) (nI a) (nI 0) (nI w) (nI h) (nI K) rf fr col one (nI x0) (nI u) (nI 1) (nI m) (nI j))) ∨
    (∃ (a' : Nat) (dp' fr' one' : Nat → Int32), fX0_obey_63 f8 (nI K) (nI (x0 + j)) (nI u) tc (nI a) (nI n) fb (nI w) (nI h) dp (nI m) (nI j) = some (0, nI (x0 + m), nI u, nI a', dp') ∧ fX9_pieces_222 (fX9_pieces_52 (g + 1)) f9 (nI n) (nI a) (nI 0) (nI w) (nI h) (nI K) rf fr col one (nI x0) (nI u) (nI 1) (nI m) (nI j) = fX9_pieces_52 (g + 1) (nI n) (nI a') (nI 0) (nI w) (nI h) (nI K) rf fr' col one' (nI (x0 + m)) (nI u) (nI 1) ∧ a ≤ a' ∧ a' ≤ n ∧ x0 + m ≤ w ∧ zPd w (fun j => j < w * h) dp' fr') := by
  intro f8
  induction f8 with
  | zero => intro f9 j a dp fr one h1 h2; omega
  | succ f8 ih =>
    intro f9 j a dp fr one h1 h2 h3 h4 h5 hD
    obtain ⟨f9, rfl⟩ : ∃ m, f9 = m + 2 := ⟨f9 - 2, by omega⟩
    rw [fX0_obey_63_s, fX9_pieces_222_s]
    simp only [zlit]
    by_cases q : m ≤ j
    · have e : j = m := by omega
      subst e
      unfold fX9_pieces_259
      simp only [zlit]
      rw [if_pos (by rw [nI_le_nI (by omega) (by omega)]; exact q), if_pos (by rw [nI_le_nI (by omega) (by omega)]; exact q), zlet_eq, zrem_nI (by omega) (by decide) (by decide), nI_add]
      by_cases c : a + j % 2 ≤ n
      · refine Or.inr ⟨a + j % 2, dp, fr, one, ?_, ?_, by omega, c, h4, hD⟩
        · rw [zb2_of (zpass hn hB c), if_pos rfl]
        · rw [zb2_of (zskip hn hB' c)]
          exact z272Y hw hh h4 hu
      · refine Or.inl ⟨1, (nI (x0 + j), nI u, nI n, dp), Or.inl rfl, ?_, ?_⟩
        · rw [zb2_of (zpassE hn (by omega) hB h5 (by omega)), if_neg (by decide)]
        · rw [zb2_of (zskipE hn (by omega) hB' h5 (by omega))]
          exact zF272 zn2
    · rw [if_neg (by rw [nI_le_nI (by omega) (by omega)]; exact q), if_neg (by rw [nI_le_nI (by omega) (by omega)]; exact q), if_pos trivial]
      by_cases c : a < n
      · have bv := hB.1 a
        rw [zb3_of (znext8 hn hB c), if_pos rfl, zb3_of (znext9 hn hB' c), nI_add, nI_add]
        by_cases d : x0 + j < w ∧ u < h ∧ B a < K
        · obtain ⟨fr', one', g1, g2⟩ := zdabY (fr := fr) (one := one) hw hh hK hC d.1 d.2.1 d.2.2
          have hD' := zall_d (zyx_lt d.1 (show h - 1 - u < h by omega)) (g2 _ dp hD)
          have i := ih (f9 + 1) (j + 1) (a + 1) _ fr' one' (by omega) (by omega) (by omega) (by omega) (by omega) hD'
          rw [zb3_of (zpaintY hw hh hK d.1 d.2.1 d.2.2), if_pos rfl, zlet_eq, zb3_of g1, zlet_eq, Nat.add_assoc]
          rcases i with i | ⟨a', dp', fr', one', i1, i2, i3, i4, i5, i6⟩
          · exact Or.inl i
          · exact Or.inr ⟨a', dp', fr', one', i1, i2, by omega, i4, i5, i6⟩
        · refine Or.inl ⟨2, (nI (x0 + j), nI u, nI (a + 1), dp), Or.inr rfl, ?_, ?_⟩
          · rw [zb3_of (zpaintN hw hh1 hh hK h4 hu bv d), if_neg (by decide)]
          · rw [zb3_of (zdabN hw hh hK (by omega) (by omega) bv d), zlet_eq]
            exact zF222p zn3
      · have e : n = a := by omega
        refine Or.inl ⟨1, (nI (x0 + j), nI u, nI a, dp), Or.inl rfl, ?_, ?_⟩
        · rw [zb3_of (znext8e hn e), if_neg (by decide)]
        · rw [zb3_of (znext9e hn e), zb3_of (zdabF zn2), zlet_eq]
          exact zF222p zn2
theorem zpcs {n w h K : Nat} {tc col fb rf : Nat → Int32} {B : Nat → Nat} (hw : w ≤ 8) (hh1 : 1 ≤ h) (hh : h ≤ 8) (hn : n ≤ 800) (hB : zByt n fb B) (hB' : zByt n rf B) (hK : K ≤ 64) (hC : zCt K tc col) : ∀ (d f8 f9 i a x u : Nat) (dp fr one : Nat → Int32), n - a ≤ d → d < f8 → d + 1 < f9 → 2 * i ≤ a → a ≤ n → x ≤ w → u ≤ h → zPd w (fun j => j < w * h) dp fr →
    (∃ (t : Nat) (z : Int32 × Int32 × Int32 × (Nat → Int32)), (t = 1 ∨ t = 2) ∧ fX0_readPacked_22 f8 (nI K) (nI x) (nI u) tc (nI a) (nI n) fb (nI w) (nI h) dp (nI i) = some (t, z) ∧ zS (zft t) (fX9_pieces_52 f9 (nI n) (nI a) (nI 0) (nI w) (nI h) (nI K) rf fr col one (nI x) (nI u) (nI 1))) ∨
    (∃ (z1 z2 z3 b : Int32) (dp' fr' one' : Nat → Int32), fX0_readPacked_22 f8 (nI K) (nI x) (nI u) tc (nI a) (nI n) fb (nI w) (nI h) dp (nI i) = some (0, z1, z2, z3, dp') ∧ fX9_pieces_52 f9 (nI n) (nI a) (nI 0) (nI w) (nI h) (nI K) rf fr col one (nI x) (nI u) (nI 1) = some (b, nI 0, fr', one') ∧ zPd w (fun j => j < w * h) dp' fr') := by
  intro d
  induction d with
  | zero =>
    intro f8 f9 i a x u dp fr one h1 h2 h3 h4 h5 hx hu hD
    obtain ⟨f8, rfl⟩ : ∃ m, f8 = m + 1 := ⟨f8 - 1, by omega⟩
    obtain ⟨f9, rfl⟩ : ∃ m, f9 = m + 2 := ⟨f9 - 2, by omega⟩
    have e : n = a := by omega
    rw [fX0_readPacked_22_s, fX9_pieces_52_s]
    simp only [zlit]
    refine Or.inl ⟨1, (nI x, nI u, nI a, dp), Or.inl rfl, ?_, ?_⟩
    · rw [if_neg (by rw [nI_le_nI (by decide) (by omega)]; omega), zb3_of (znext8e hn e), if_neg (by decide)]
    · rw [if_neg (by decide), if_pos trivial, zb3_of (znext9e hn e), zb3_of (znextF zn2), if_pos (by decide), if_pos rfl, zlet_eq]
      exact zF272 zn2
  | succ d ih =>
    intro f8 f9 i a x u dp fr one h1 h2 h3 h4 h5 hx hu hD
    obtain ⟨f8, rfl⟩ : ∃ m, f8 = m + 1 := ⟨f8 - 1, by omega⟩
    obtain ⟨f9, rfl⟩ : ∃ m, f9 = m + 2 := ⟨f9 - 2, by omega⟩
    rw [fX0_readPacked_22_s, fX9_pieces_52_s]
    simp only [zlit]
    rw [if_neg (show ¬ nI 800 ≤ nI i by rw [nI_le_nI (by decide) (by omega)]; omega), if_neg (show ¬ nI 1 = nI 0 by decide), if_pos trivial]
    by_cases c0 : a < n
    · have b0 := hB.1 a
      rw [zb3_of (znext8 hn hB c0), if_pos rfl, zb3_of (znext9 hn hB' c0)]
      by_cases c1 : a + 1 < n
      · have b1 := hB.1 (a + 1)
        rw [zb3_of (znext8 hn hB c1), if_pos rfl, zb3_of (znext9 hn hB' c1), show a + 1 + 1 = a + 2 from rfl]
        unfold fX0_readPacked_53
        simp only [zlit]
        have E0 : (nI (B a) = nI 0) = (B a = 0) := nI_eq_nI (by omega) (by decide)
        have E1 : (nI (B a) ≤ nI 0) = (B a ≤ 0) := nI_le_nI (by omega) (by decide)
        have E2 : (nI (B (a + 1)) = nI 1) = (B (a + 1) = 1) := nI_eq_nI (by omega) (by decide)
        have E3 : (nI (B (a + 1)) = nI 0) = (B (a + 1) = 0) := nI_eq_nI (by omega) (by decide)
        have E4 : (nI (B (a + 1)) = nI 2) = (B (a + 1) = 2) := nI_eq_nI (by omega) (by decide)
        unfold fX0_obey
        simp only [zlit, E0, E1, E2, E3, E4]
        have go : ∀ (a' x' u' : Nat) (dp' fr' one' : Nat → Int32), a + 2 ≤ a' → a' ≤ n → x' ≤ w → u' ≤ h → zPd w (fun j => j < w * h) dp' fr' →
            ((∃ (t : Nat) (z : Int32 × Int32 × Int32 × (Nat → Int32)), (t = 1 ∨ t = 2) ∧ fX0_readPacked_93 (fX0_readPacked_22 f8) (nI K) (nI x') (nI u') tc (nI a') (nI n) fb (nI w) (nI h) dp' (nI i) = some (t, z) ∧ zS (zft t) (fX9_pieces_52 (f9 + 1) (nI n) (nI a') (nI 0) (nI w) (nI h) (nI K) rf fr' col one' (nI x') (nI u') (nI 1))) ∨
            (∃ (z1 z2 z3 b : Int32) (dp2 fr2 one2 : Nat → Int32), fX0_readPacked_93 (fX0_readPacked_22 f8) (nI K) (nI x') (nI u') tc (nI a') (nI n) fb (nI w) (nI h) dp' (nI i) = some (0, z1, z2, z3, dp2) ∧ fX9_pieces_52 (f9 + 1) (nI n) (nI a') (nI 0) (nI w) (nI h) (nI K) rf fr' col one' (nI x') (nI u') (nI 1) = some (b, nI 0, fr2, one2) ∧ zPd w (fun j => j < w * h) dp2 fr2)) := by
          intro a' x' u' dp' fr' one' q1 q2 q3 q4 q5
          unfold fX0_readPacked_93
          rw [zlet_eq, zlit, nI_add]
          exact ih f8 (f9 + 1) (i + 1) a' x' u' dp' fr' one' (by omega) (by omega) (by omega) (by omega) q2 q3 q4 q5
        by_cases d0 : B a = 0
        · rw [if_pos d0, if_pos d0, if_pos (show B a ≤ 0 by omega)]
          by_cases d1 : B (a + 1) = 1
          · rw [if_pos d1, if_neg (show ¬ B (a + 1) = 0 by omega), if_pos d1, if_pos trivial]
            refine Or.inr ⟨nI x, nI u, nI (a + 2), nI (a + 2), dp, fr, one, rfl, ?_, hD⟩
            unfold fX9_pieces_192
            rw [z272Y hw hh hx hu, fX9_pieces_52_s]
            simp only [zlit, ↓reduceIte]
          · rw [if_neg d1]
            by_cases d2 : B (a + 1) = 0
            · rw [if_pos d2, if_pos d2, zlet_eq, nI_add]
              by_cases c3 : u + 1 ≤ h
              · rw [zb3_of (zgoY hw hh (Nat.zero_le w) c3), if_pos rfl, zb5_some, if_pos rfl, z272Y hw hh (Nat.zero_le w) c3]
                exact go (a + 2) 0 (u + 1) dp fr one (by omega) (by omega) (by omega) c3 hD
              · refine Or.inl ⟨2, (nI x, nI u, nI (a + 2), dp), Or.inr rfl, ?_, ?_⟩
                · rw [zb3_of (zgoN hw hh (by omega) (by omega) (by omega)), if_neg (by decide), zb5_some, if_neg (by decide)]
                · exact z272N hw hh (by omega) (by omega) (by omega)
            · rw [if_neg d2, if_neg d2, if_neg d1]
              by_cases d3 : B (a + 1) = 2
              · rw [if_pos d3, if_pos d3]
                by_cases e0 : a + 2 < n
                · have b2 := hB.1 (a + 2)
                  rw [zb3_of (znext8 hn hB e0), if_pos rfl, zb3_of (znext9 hn hB' e0), zlet_eq, nI_add]
                  by_cases e1 : a + 2 + 1 < n
                  · have b3 := hB.1 (a + 2 + 1)
                    rw [zb3_of (znext8 hn hB e1), if_pos rfl, zb3_of (znext9 hn hB' e1), zlet_eq, nI_add]
                    by_cases e2 : x + B (a + 2) ≤ w ∧ u + B (a + 2 + 1) ≤ h
                    · rw [zb3_of (zgoY hw hh e2.1 e2.2), if_pos rfl, zb5_some, if_pos rfl, z272Y hw hh e2.1 e2.2]
                      exact go (a + 2 + 1 + 1) _ _ dp fr one (by omega) (by omega) e2.1 e2.2 hD
                    · refine Or.inl ⟨2, (nI x, nI u, nI (a + 2 + 1 + 1), dp), Or.inr rfl, ?_, ?_⟩
                      · rw [zb3_of (zgoN hw hh (by omega) (by omega) e2), if_neg (by decide), zb5_some, if_neg (by decide)]
                      · exact z272N hw hh (by omega) (by omega) e2
                  · have e : n = a + 2 + 1 := by omega
                    refine Or.inl ⟨1, (nI x, nI u, nI (a + 2 + 1), dp), Or.inl rfl, ?_, ?_⟩
                    · rw [zb3_of (znext8e hn e), if_neg (by decide), zb5_some, if_neg (by decide)]
                    · rw [zb3_of (znext9e hn e), zlet_eq]
                      exact zF272 zn2
                · have e : n = a + 2 := by omega
                  refine Or.inl ⟨1, (nI x, nI u, nI (a + 2), dp), Or.inl rfl, ?_, ?_⟩
                  · rw [zb3_of (znext8e hn e), if_neg (by decide), zb5_some, if_neg (by decide)]
                  · rw [zb3_of (znext9e hn e), zlet_eq, zb3_of (znextF zn2), zlet_eq]
                    exact zF272 zn2
              · rw [if_neg d3, if_neg d3]
                rcases zabs (g := f9) (x0 := x) (m := B (a + 1)) hw hh1 hh hn hB hB' hK hC hu b1 1000 1000 0 (a + 2) dp fr one (by omega) (by omega) (by omega) (by omega) (by omega) hD with ⟨t, z, t1, t2, t3⟩ | ⟨a', dp', fr', one', t1, t2, t3, t4, t5, t6⟩
                · obtain ⟨z1, z2, z3, z4⟩ := z
                  refine Or.inl ⟨t, (z1, z2, z3, z4), t1, ?_, t3⟩
                  have ht : ¬ t = 0 := by omega
                  rw [Nat.add_zero] at t2
                  rw [zb5_of t2, if_neg ht]
                · rw [Nat.add_zero] at t1
                  rw [zb5_of t1, if_pos rfl, t2]
                  exact go a' _ u dp' fr' one' t3 t4 t5 hu t6
        · rw [if_neg d0, if_neg d0, if_neg (show ¬ B a ≤ 0 by omega)]
          unfold fX9_pieces_97 fX9_pieces_115
          simp only [zlit]
          have E5 : (nI x + nI (B a) ≤ nI w) = (x + B a ≤ w) := by rw [nI_add]; exact nI_le_nI (by omega) (by omega)
          have E6 : (nI (B (a + 1)) < nI K) = (B (a + 1) < K) := nI_lt_nI (by omega) (by omega)
          simp only [E5, E6]
          rw [zb1_of zbrok0, zb1_of zbrok0, zb1_of zbrok1]
          by_cases e2 : x + B a ≤ w ∧ u < h ∧ B (a + 1) < K
          · rw [if_pos e2.1, if_pos e2.2.2]
            obtain ⟨dp', fr', one', g1, g2, g3⟩ := zrunY (x0 := x) (m := B a) (fb := fb) (rf := rf) (pl := nI (a + 2)) (sz := nI n) (s := nI n) (a := nI (a + 2)) (l3 := nI i) (l3' := nI 1) hw hh hK hC e2.2.1 e2.2.2 b0 (fX0_readPacked_22 f8) (fX9_pieces_52 (f9 + 1)) 1000 1000 0 dp fr one (by omega) (by omega) (by omega) e2.1 hD
            rw [Nat.add_zero] at g1
            rw [g1, g2]
            unfold fX9_pieces_152
            rw [zlet_eq, nI_add, z272Y hw hh e2.1 hu]
            exact go (a + 2) _ u dp' fr' one' (by omega) (by omega) e2.1 hu g3
          · obtain ⟨z, g1⟩ := zrunN (K := K) (tc := tc) (fb := fb) (pl := nI (a + 2)) (sz := nI n) (l3 := nI i) hw hh1 hh hK hu b1 b0 (fX0_readPacked_22 f8) 1000 0 x dp (by omega) (by omega) hx (by omega)
            refine Or.inl ⟨2, z, Or.inr rfl, g1, ?_⟩
            by_cases e3 : x + B a ≤ w
            · rw [if_pos e3]
              by_cases e4 : B (a + 1) < K
              · rw [if_pos e4, fX9_pieces_121_s]
                simp only [zlit]
                rw [if_neg (by rw [nI_le_nI (by omega) (by decide)]; omega), if_pos trivial, nI_add, zb3_of (zdabN hw hh hK (by omega) (by omega) b1 (by omega)), zlet_eq]
                exact zF121 zn3
              · rw [if_neg e4]
                exact zF121 zn3
            · rw [if_neg e3, zb1_of zbrok1, zb1_of (zbrokF zn3), zb1_of (zbrokF zn3)]
              exact zS_ite (zF121 zn3) (zF121 zn3)
      · have e : n = a + 1 := by omega
        refine Or.inl ⟨1, (nI x, nI u, nI (a + 1), dp), Or.inl rfl, ?_, ?_⟩
        · rw [zb3_of (znext8e hn e), if_neg (by decide)]
        · rw [zb3_of (znext9e hn e), if_pos (show nI 0 = nI 0 from rfl), zlet_eq]
          exact zS_ite (zF272 zn2) (zS_ite (zF97p zn2) (zF97p zn2))
    · have e : n = a := by omega
      refine Or.inl ⟨1, (nI x, nI u, nI a, dp), Or.inl rfl, ?_, ?_⟩
      · rw [zb3_of (znext8e hn e), if_neg (by decide)]
      · rw [zb3_of (znext9e hn e), zb3_of (znextF zn2), if_pos (by decide), if_pos rfl, zlet_eq]
        exact zF272 zn2
