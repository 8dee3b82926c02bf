/-! The second format's pixels and header. -/
theorem zF294 {F s a nw nh : Int32} {fr one : Nat → Int32} (hF : (F = nI 0) = False) : zS F (fX9_readSecond_294 s a F nw nh fr one) := by
  unfold fX9_readSecond_294 fX9_readSecond_311
  rw [zb1_of (zbrokF hF), zb1_of (zbrokF hF)]
  exact zS_ite zS_mk zS_mk
theorem zF285 {F s a nw nh l3 : Int32} {rf fr one : Nat → Int32} (hF : (F = nI 0) = False) : zS F (fX9_readSecond_285 s a F nw nh rf fr one l3) := by
  unfold fX9_readSecond_285
  rw [zb3_of (zgapsF hF)]
  exact zS_ite (zF294 hF) (zF294 hF)
theorem zF119 {F s a nw nh l2 l3 l4 l5 : Int32} {rf fr one : Nat → Int32} {n : Nat} (hF : (F = nI 0) = False) : zS F (fX9_readSecond_119 (n + 1) s a F nw nh rf fr one l2 l3 l4 l5) := by
  rw [fX9_readSecond_119_s]
  simp only [zlit, hF, ↓reduceIte]
  exact zF285 hF
theorem zF97 {F s a nw nh l1 l2 l3 : Int32} {rf fr one : Nat → Int32} (hF : (F = nI 0) = False) : zS F (fX9_readSecond_97 s a F nw nh rf fr one l1 l2 l3) := by
  unfold fX9_readSecond_97 fX9_readSecond_109 fX9_readSecond_114
  exact zS_ite (zF119 hF) (zS_ite (zF119 hF) (zF119 hF))
theorem zF73 {F s a nw nh l1 l2 k0 : Int32} {rf fr one : Nat → Int32} (hF : (F = nI 0) = False) : zS F (fX9_readSecond_73 s a F nw nh rf fr one l1 l2 k0) := by
  have s0 : fX9_space (nI 0) = some (nI 0) := zspN9 (by decide) (by unfold zsp; decide)
  unfold fX9_readSecond_73 fX9_readSecond_94
  rw [zb3_of (znextF hF), zb1_of s0, zb1_of (zbrokF hF), zb1_of (zbrokF hF)]
  exact zS_ite (zS_ite (zF97 hF) (zF97 hF)) (zF97 hF)
theorem zF59 {F s a nw nh l1 l2 k1 : Int32} {rf fr one : Nat → Int32} (hF : (F = nI 0) = False) : zS F (fX9_readSecond_59 s a F nw nh rf fr one l1 l2 k1) := by
  unfold fX9_readSecond_59
  rw [zb1_of (zbrokF hF)]
  exact zS_ite (zF73 hF) (zF73 hF)
theorem ztoneT {one : Nat → Int32} {a b c d : Int32} : ∃ one', fX9_tone one a b c d = some one' := by
  refine ⟨upd (upd (upd (upd one 0 a) 1 b) 2 c) 3 d, ?_⟩
  unfold fX9_tone
  simp (disch := omega) only [zlit, nI_lt_nI, nI_le_nI, nI_eq_nI, nI_add, pk_mul, pk_sub, pk_div, zrem_nI, zrd_nI, zwr_nI, zb1_some, zb2_some, zb3_some, zb4_some, zb5_some, zb6_some, zb7_some, zb8_some, zlet_eq, if_pos, if_neg, pk_us, pk_un, true_and, and_true, true_or, or_true, ↓reduceIte]
theorem zF246 {F s a nw nh l2 l3 l4 l5 k1 k2 : Int32} {rf fr one : Nat → Int32} {rc : Int32 → Int32 → Int32 → Int32 → Int32 → (Nat → Int32) → (Nat → Int32) → (Nat → Int32) → Int32 → Int32 → Int32 → Int32 → Option (Int32 × Int32 × Int32 × Int32 × (Nat → Int32) × (Nat → Int32))} (hF : (F = nI 0) = False) (hrc : ∀ fr one l5, zS F (rc s a F nw nh rf fr one l2 l3 l4 l5)) : zS F (fX9_readSecond_246 rc s a F nw nh rf fr one l2 l3 l4 l5 k1 k2) := by
  unfold fX9_readSecond_246 fX9_readSecond_267
  simp only [zlit]
  rw [zrd_nI (by decide) (by decide), zrd_nI (by decide) (by decide)]
  obtain ⟨o1, e1⟩ := @ztoneT one k1 k2 (one 0) (nI 255)
  obtain ⟨o2, e2⟩ := @ztoneT one k1 k2 (one 2) (nI 255)
  rw [zb1_of e1, zb1_of e2, zb1_of (zsetF hF), zb1_of (zsetF hF), zlet_eq, zlet_eq]
  exact zS_ite (hrc _ _ _) (hrc _ _ _)
theorem zF165 {F s a nw nh l2 l3 l4 l5 k0 : Int32} {i : Nat} {rf fr one : Nat → Int32} {rc : Int32 → Int32 → Int32 → Int32 → Int32 → (Nat → Int32) → (Nat → Int32) → (Nat → Int32) → Int32 → Int32 → Int32 → Int32 → Option (Int32 × Int32 × Int32 × Int32 × (Nat → Int32) × (Nat → Int32))} {rd : Int32 → Int32 → Int32 → Int32 → Int32 → (Nat → Int32) → (Nat → Int32) → (Nat → Int32) → Int32 → Int32 → Int32 → Int32 → Int32 → Option (Int32 × Int32 × Int32 × Int32 × (Nat → Int32) × (Nat → Int32))} (hF : (F = nI 0) = False) (hi : i < 4) (hrd : zS F (rd s a F nw nh rf fr (upd one i (nI 0)) l2 l3 l4 l5 (nI (i + 1)))) : zS F (fX9_readSecond_165 rc rd s a F nw nh rf fr one l2 l3 l4 l5 (nI i) k0) := by
  unfold fX9_readSecond_165 fX9_readSecond_179 fX9_readSecond_211
  simp only [zlit]
  rw [zb1_of (zbrokF hF), zb1_of (zbrokF hF)]
  simp only [hF, ↓reduceIte]
  rw [zwr_nI (by omega) (by decide), zlet_eq, nI_add]
  exact zS_ite hrd hrd
theorem zF143 {F s a nw nh l2 l3 l5 : Int32} {c : Nat} {rf fr : Nat → Int32} {rc : Int32 → Int32 → Int32 → Int32 → Int32 → (Nat → Int32) → (Nat → Int32) → (Nat → Int32) → Int32 → Int32 → Int32 → Int32 → Option (Int32 × Int32 × Int32 × Int32 × (Nat → Int32) × (Nat → Int32))} (hF : (F = nI 0) = False) (hc : c ≤ 3) (hrc : ∀ fr one l5, zS F (rc s a F nw nh rf fr one l2 l3 (nI c) l5)) : ∀ (n i : Nat) (one : Nat → Int32), i ≤ c → c - i < n → zS F (fX9_readSecond_143 rc n s a F nw nh rf fr one l2 l3 (nI c) l5 (nI i)) := by
  intro n
  induction n with
  | zero => intro i one h1 h2; omega
  | succ n ih =>
    intro i one h1 h2
    rw [fX9_readSecond_143_s]
    simp only [zlit]
    by_cases q : c ≤ i
    · rw [if_pos (by rw [nI_le_nI (by omega) (by omega)]; exact q), zrd_nI (by decide) (by decide), zrd_nI (by decide) (by decide)]
      exact zS_ite (zF246 hF hrc) (zF246 hF hrc)
    · rw [if_neg (by rw [nI_le_nI (by omega) (by omega)]; exact q), zb3_of (znextF hF), zb3_of (zdecF hF)]
      have g := ih (i + 1) (upd one i (nI 0)) (by omega) (by omega)
      exact zS_ite (zF165 hF (by omega) g) (zF165 hF (by omega) g)
/-- one sample, read alike -/
theorem zval2 {n a v g i : Nat} (hn : n ≤ 800) (ha : a ≤ n) (hv : v < 10000) (hg1 : 1 ≤ g) (hg : g ≤ 255) (hi : i < 4) :
    (∃ s, s < 256 ∧ fX6_sample_18 (nI g) (nI a) (nI v) = some (0, nI s, nI a) ∧ ∀ (rc : Int32 → Int32 → Int32 → Int32 → Int32 → (Nat → Int32) → (Nat → Int32) → (Nat → Int32) → Int32 → Int32 → Int32 → Int32 → Option (Int32 × Int32 × Int32 × Int32 × (Nat → Int32) × (Nat → Int32))) (rd : Int32 → Int32 → Int32 → Int32 → Int32 → (Nat → Int32) → (Nat → Int32) → (Nat → Int32) → Int32 → Int32 → Int32 → Int32 → Int32 → Option (Int32 × Int32 × Int32 × Int32 × (Nat → Int32) × (Nat → Int32))) (sz nw nh l3 l4 l5 : Int32) (rf fr one : Nat → Int32), fX9_readSecond_165 rc rd sz (nI a) (nI 0) nw nh rf fr one (nI g) l3 l4 l5 (nI i) (nI v) = rd sz (nI a) (nI 0) nw nh rf fr (upd one i (nI s)) (nI g) l3 l4 l5 (nI (i + 1))) ∨
    (fX6_sample_18 (nI g) (nI a) (nI v) = some (2, nI 0, nI a) ∧ ∀ (rc : Int32 → Int32 → Int32 → Int32 → Int32 → (Nat → Int32) → (Nat → Int32) → (Nat → Int32) → Int32 → Int32 → Int32 → Int32 → Option (Int32 × Int32 × Int32 × Int32 × (Nat → Int32) × (Nat → Int32))) (rd : Int32 → Int32 → Int32 → Int32 → Int32 → (Nat → Int32) → (Nat → Int32) → (Nat → Int32) → Int32 → Int32 → Int32 → Int32 → Int32 → Option (Int32 × Int32 × Int32 × Int32 × (Nat → Int32) × (Nat → Int32))) (sz nw nh l3 l4 l5 : Int32) (rf fr one : Nat → Int32), fX9_readSecond_165 rc rd sz (nI a) (nI 0) nw nh rf fr one (nI g) l3 l4 l5 (nI i) (nI v) = rd sz (nI a) (-(nI 3)) nw nh rf fr (upd one i (nI 0)) (nI g) l3 l4 l5 (nI (i + 1))) := by
  by_cases c : v ≤ g
  · have hs : (v * 255 + g / 2) / g < 256 := by
      apply Nat.div_lt_of_lt_mul
      have := Nat.mul_le_mul_right 255 c
      omega
    refine Or.inl ⟨(v * 255 + g / 2) / g, hs, ?_, fun rc rd sz nw nh l3 l4 l5 rf fr one => ?_⟩
    · unfold fX6_sample_18 fX6_sample_33
      simp (disch := omega) only [zlit, nI_lt_nI, nI_le_nI, nI_eq_nI, nI_add, pk_mul, pk_sub, pk_div, zrem_nI, zrd_nI, zwr_nI, zb1_some, zb2_some, zb3_some, zb4_some, zb5_some, zb6_some, zb7_some, zb8_some, zlet_eq, if_pos, if_neg, pk_us, pk_un, true_and, and_true, true_or, or_true, ↓reduceIte, zneed1, znz_w]
    · unfold fX9_readSecond_165 fX9_readSecond_179 fX9_readSecond_211
      simp (disch := omega) only [zlit, nI_lt_nI, nI_le_nI, nI_eq_nI, nI_add, pk_mul, pk_sub, pk_div, zrem_nI, zrd_nI, zwr_nI, zb1_some, zb2_some, zb3_some, zb4_some, zb5_some, zb6_some, zb7_some, zb8_some, zlet_eq, if_pos, if_neg, pk_us, pk_un, true_and, and_true, true_or, or_true, ↓reduceIte, zbrok0, znz_w]
  · refine Or.inr ⟨?_, fun rc rd sz nw nh l3 l4 l5 rf fr one => ?_⟩
    · unfold fX6_sample_18 fX6_sample_33
      simp (disch := omega) only [zlit, nI_lt_nI, nI_le_nI, nI_eq_nI, nI_add, pk_mul, pk_sub, pk_div, zrem_nI, zrd_nI, zwr_nI, zb1_some, zb2_some, zb3_some, zb4_some, zb5_some, zb6_some, zb7_some, zb8_some, zlet_eq, if_pos, if_neg, pk_us, pk_un, true_and, and_true, true_or, or_true, ↓reduceIte, zneed0]
    · unfold fX9_readSecond_165 fX9_readSecond_179 fX9_readSecond_211
      simp (disch := omega) only [zlit, nI_lt_nI, nI_le_nI, nI_eq_nI, nI_add, pk_mul, pk_sub, pk_div, zrem_nI, zrd_nI, zwr_nI, zb1_some, zb2_some, zb3_some, zb4_some, zb5_some, zb6_some, zb7_some, zb8_some, zlet_eq, if_pos, if_neg, pk_us, pk_un, true_and, and_true, true_or, or_true, ↓reduceIte, zbrok1, zn3]
/-- one sample, read alike or refused alike -/
def zSm (n a d g c i : Nat) (fb rf : Nat → Int32) : Prop :=
    (∃ s a', s < 256 ∧ a ≤ a' ∧ a' ≤ n ∧ fX6_sample (nI d) (nI g) (nI a) (nI n) fb = some (0, nI s, nI a') ∧ ∀ (rc : Int32 → Int32 → Int32 → Int32 → Int32 → (Nat → Int32) → (Nat → Int32) → (Nat → Int32) → Int32 → Int32 → Int32 → Int32 → Option (Int32 × Int32 × Int32 × Int32 × (Nat → Int32) × (Nat → Int32))) (f : Nat) (nw nh l5 : Int32) (fr one : Nat → Int32), fX9_readSecond_143 rc (f + 1) (nI n) (nI a) (nI 0) nw nh rf fr one (nI g) (nI d) (nI c) l5 (nI i) = fX9_readSecond_143 rc f (nI n) (nI a') (nI 0) nw nh rf fr (upd one i (nI s)) (nI g) (nI d) (nI c) l5 (nI (i + 1))) ∨
    (∃ (t : Nat) (x : Int32 × Int32), (t = 1 ∨ t = 2) ∧ fX6_sample (nI d) (nI g) (nI a) (nI n) fb = some (t, x) ∧ ∀ (rc : Int32 → Int32 → Int32 → Int32 → Int32 → (Nat → Int32) → (Nat → Int32) → (Nat → Int32) → Int32 → Int32 → Int32 → Int32 → Option (Int32 × Int32 × Int32 × Int32 × (Nat → Int32) × (Nat → Int32))) (f : Nat) (nw nh l5 : Int32) (fr one : Nat → Int32), c - i < f + 1 → (∀ b fr one l5, zS (zft t) (rc (nI n) b (zft t) nw nh rf fr one (nI g) (nI d) (nI c) l5)) → zS (zft t) (fX9_readSecond_143 rc (f + 1) (nI n) (nI a) (nI 0) nw nh rf fr one (nI g) (nI d) (nI c) l5 (nI i)))
theorem zsam {n a d g c i : Nat} {fb rf : Nat → Int32} {B : Nat → Nat} (hn : n ≤ 800) (hB : zByt n fb B) (hB' : zByt n rf B) (hd : d ≤ 1) (hg1 : 1 ≤ g) (hg : g ≤ 255) (hc : c ≤ 3) (hi : i < c) (h0 : 1 ≤ a) (ha : a ≤ n) : zSm n a d g c i fb rf := by
  have key : ∀ (v a' : Nat), a ≤ a' → a' ≤ n → v < 10000 → fX6_sample (nI d) (nI g) (nI a) (nI n) fb = fX6_sample_18 (nI g) (nI a') (nI v) → (∀ (rc : Int32 → Int32 → Int32 → Int32 → Int32 → (Nat → Int32) → (Nat → Int32) → (Nat → Int32) → Int32 → Int32 → Int32 → Int32 → Option (Int32 × Int32 × Int32 × Int32 × (Nat → Int32) × (Nat → Int32))) (f : Nat) (nw nh l5 : Int32) (fr one : Nat → Int32), fX9_readSecond_143 rc (f + 1) (nI n) (nI a) (nI 0) nw nh rf fr one (nI g) (nI d) (nI c) l5 (nI i) = fX9_readSecond_165 rc (fX9_readSecond_143 rc f) (nI n) (nI a') (nI 0) nw nh rf fr one (nI g) (nI d) (nI c) l5 (nI i) (nI v)) → zSm n a d g c i fb rf := by
    intro v a' q1 q2 q3 q4 q5
    rcases zval2 (i := i) hn q2 q3 hg1 hg (by omega) with ⟨s, s1, s2, s3⟩ | ⟨s2, s3⟩
    · exact Or.inl ⟨s, a', s1, q1, q2, q4.trans s2, fun rc f nw nh l5 fr one => (q5 rc f nw nh l5 fr one).trans (s3 _ _ _ _ _ _ _ _ _ _ _)⟩
    · refine Or.inr ⟨2, (nI 0, nI a'), Or.inr rfl, q4.trans s2, fun rc f nw nh l5 fr one hf hrc => ?_⟩
      rw [q5, s3]
      exact zF143 zn3 hc (fun fr one l5 => hrc _ fr one l5) f (i + 1) _ (by omega) (by omega)
  rcases (show d = 0 ∨ d = 1 by omega) with e | e
  · subst e
    by_cases q : a < n
    · have bv := hB.1 a
      refine key (B a) (a + 1) (by omega) (by omega) (by omega) ?_ ?_
      · unfold fX6_sample
        simp (disch := omega) only [zlit, nI_lt_nI, nI_le_nI, nI_eq_nI, nI_add, pk_mul, pk_sub, pk_div, zrem_nI, zrd_nI, zwr_nI, zb1_some, zb2_some, zb3_some, zb4_some, zb5_some, zb6_some, zb7_some, zb8_some, zlet_eq, if_pos, if_neg, pk_us, pk_un, true_and, and_true, true_or, or_true, ↓reduceIte, znext8 hn hB]
      · intro rc f nw nh l5 fr one
        rw [fX9_readSecond_143_s]
        simp (disch := omega) only [zlit, nI_lt_nI, nI_le_nI, nI_eq_nI, nI_add, pk_mul, pk_sub, pk_div, zrem_nI, zrd_nI, zwr_nI, zb1_some, zb2_some, zb3_some, zb4_some, zb5_some, zb6_some, zb7_some, zb8_some, zlet_eq, if_pos, if_neg, pk_us, pk_un, true_and, and_true, true_or, or_true, ↓reduceIte, znext9 hn hB']
    · have e : n = a := by omega
      refine Or.inr ⟨1, (nI 0, nI a), Or.inl rfl, ?_, fun rc f nw nh l5 fr one hf hrc => ?_⟩
      · unfold fX6_sample
        simp (disch := omega) only [zlit, nI_lt_nI, nI_le_nI, nI_eq_nI, nI_add, pk_mul, pk_sub, pk_div, zrem_nI, zrd_nI, zwr_nI, zb1_some, zb2_some, zb3_some, zb4_some, zb5_some, zb6_some, zb7_some, zb8_some, zlet_eq, if_pos, if_neg, pk_us, pk_un, true_and, and_true, true_or, or_true, ↓reduceIte, znext8e hn e]
      · rw [fX9_readSecond_143_s]
        simp (disch := omega) only [zlit, nI_lt_nI, nI_le_nI, nI_eq_nI, nI_add, pk_mul, pk_sub, pk_div, zrem_nI, zrd_nI, zwr_nI, zb1_some, zb2_some, zb3_some, zb4_some, zb5_some, zb6_some, zb7_some, zb8_some, zlet_eq, if_pos, if_neg, pk_us, pk_un, true_and, and_true, true_or, or_true, ↓reduceIte, znext9e hn e]
        exact zF165 zn2 (by omega) (zF143 zn2 hc (fun fr one l5 => hrc _ fr one l5) f (i + 1) _ (by omega) (by omega))
  · subst e
    rcases zdec hn h0 ha hB hB' with ⟨a', v, q1, q2, q3, q4, q5⟩ | ⟨t, x, y, r, b, q1, q2, q3⟩
    · refine key v a' q1 q2 q3 ?_ ?_
      · unfold fX6_sample
        simp (disch := omega) only [zlit, nI_lt_nI, nI_le_nI, nI_eq_nI, nI_add, pk_mul, pk_sub, pk_div, zrem_nI, zrd_nI, zwr_nI, zb1_some, zb2_some, zb3_some, zb4_some, zb5_some, zb6_some, zb7_some, zb8_some, zlet_eq, if_pos, if_neg, pk_us, pk_un, true_and, and_true, true_or, or_true, ↓reduceIte, q4]
      · intro rc f nw nh l5 fr one
        rw [fX9_readSecond_143_s]
        simp (disch := omega) only [zlit, nI_lt_nI, nI_le_nI, nI_eq_nI, nI_add, pk_mul, pk_sub, pk_div, zrem_nI, zrd_nI, zwr_nI, zb1_some, zb2_some, zb3_some, zb4_some, zb5_some, zb6_some, zb7_some, zb8_some, zlet_eq, if_pos, if_neg, pk_us, pk_un, true_and, and_true, true_or, or_true, ↓reduceIte, q5]
    · refine Or.inr ⟨t, (nI 0, y), q1, ?_, fun rc f nw nh l5 fr one hf hrc => ?_⟩
      · unfold fX6_sample
        simp (disch := omega) only [zlit, nI_lt_nI, nI_le_nI, nI_eq_nI, nI_add, pk_mul, pk_sub, pk_div, zrem_nI, zrd_nI, zwr_nI, zb1_some, zb2_some, zb3_some, zb4_some, zb5_some, zb6_some, zb7_some, zb8_some, zlet_eq, if_pos, if_neg, pk_us, pk_un, true_and, and_true, true_or, or_true, ↓reduceIte, q2]
      · rw [fX9_readSecond_143_s]
        simp (disch := omega) only [zlit, nI_lt_nI, nI_le_nI, nI_eq_nI, nI_add, pk_mul, pk_sub, pk_div, zrem_nI, zrd_nI, zwr_nI, zb1_some, zb2_some, zb3_some, zb4_some, zb5_some, zb6_some, zb7_some, zb8_some, zlet_eq, if_pos, if_neg, pk_us, pk_un, true_and, and_true, true_or, or_true, ↓reduceIte, q3]
        exact zF165 (zft_ne t) (by omega) (zF143 (zft_ne t) hc (fun fr one l5 => hrc _ fr one l5) f (i + 1) _ (by omega) (by omega))
theorem z143x {w h k s0 s1 s2 c f : Nat} {s a l2 l3 : Int32} {rf fr one : Nat → Int32} (hw : w ≤ 8) (hh : h ≤ 8) (hk : k < w * h) (h0 : s0 < 256) (h1 : s1 < 256) (h2 : s2 < 256) (e0 : one 0 = nI s0) (hc : (c = 1 ∧ s1 = s0 ∧ s2 = s0) ∨ (c = 3 ∧ one 1 = nI s1 ∧ one 2 = nI s2)) (rc : Int32 → Int32 → Int32 → Int32 → Int32 → (Nat → Int32) → (Nat → Int32) → (Nat → Int32) → Int32 → Int32 → Int32 → Int32 → Option (Int32 × Int32 × Int32 × Int32 × (Nat → Int32) × (Nat → Int32))) :
    ∃ fr' one', fX9_readSecond_143 rc (f + 1) s a (nI 0) (nI w) (nI h) rf fr one l2 l3 (nI c) (nI k) (nI c) = rc s a (nI 0) (nI w) (nI h) rf fr' one' l2 l3 (nI c) (nI (k + 1)) ∧ ∀ dp, zPd w (fun j => j < k) dp fr → zPd w (fun j => j < k + 1) (upd dp k (nI (zpk s0 s1 s2 255))) fr' := by
  have hs := zmul64 hw hh
  obtain ⟨one', t1, t2⟩ := @ztone one s0 s1 s2 255 h0 h1 h2 (by decide)
  obtain ⟨fr', g1, g2⟩ := zPd_set (fr := fr) hw hh hk t2
  refine ⟨fr', one', ?_, fun dp H => zPd_mono (g2 _ dp H) (fun j hj => by
    rcases (show j < k ∨ j = k by omega) with q | q
    · exact Or.inl q
    · exact Or.inr q)⟩
  rw [fX9_readSecond_143_s]
  unfold fX9_readSecond_246 fX9_readSecond_267
  rcases hc with ⟨q1, q2, q3⟩ | ⟨q1, q2, q3⟩
  · subst q1 q2 q3
    simp (disch := omega) only [zlit, nI_lt_nI, nI_le_nI, nI_eq_nI, nI_add, pk_mul, pk_sub, pk_div, zrem_nI, zrd_nI, zwr_nI, zb1_some, zb2_some, zb3_some, zb4_some, zb5_some, zb6_some, zb7_some, zb8_some, zlet_eq, if_pos, if_neg, pk_us, pk_un, true_and, and_true, true_or, or_true, ↓reduceIte, e0, t1, g1]
  · subst q1
    simp (disch := omega) only [zlit, nI_lt_nI, nI_le_nI, nI_eq_nI, nI_add, pk_mul, pk_sub, pk_div, zrem_nI, zrd_nI, zwr_nI, zb1_some, zb2_some, zb3_some, zb4_some, zb5_some, zb6_some, zb7_some, zb8_some, zlet_eq, if_pos, if_neg, pk_us, pk_un, true_and, and_true, true_or, or_true, ↓reduceIte, e0, q2, q3, t1, g1]
theorem zpx2 {w h n d g c col : Nat} {fb rf : Nat → Int32} {B : Nat → Nat} (hw : w ≤ 8) (hh : h ≤ 8) (hn : n ≤ 800) (hB : zByt n fb B) (hB' : zByt n rf B) (hd : d ≤ 1) (hg1 : 1 ≤ g) (hg : g ≤ 255) (hc : (c = 1 ∧ col = 0) ∨ (c = 3 ∧ col = 1)) : ∀ (f8 f9 k a : Nat) (dp fr one : Nat → Int32), k ≤ w * h → w * h - k < f8 → w * h - k + 1 < f9 → 1 ≤ a → a ≤ n → zPd w (fun j => j < k) dp fr →
    (∃ (t : Nat) (x : Int32 × (Nat → Int32)), (t = 1 ∨ t = 2) ∧ fX6_readSamples_3 f8 (nI d) (nI g) (nI a) (nI n) fb (nI w) (nI h) dp (nI col) (nI k) = some (t, x) ∧ zS (zft t) (fX9_readSecond_119 f9 (nI n) (nI a) (nI 0) (nI w) (nI h) rf fr one (nI g) (nI d) (nI c) (nI k))) ∨
    (∃ (dp' fr' one' : Nat → Int32) (a' : Nat), fX6_readSamples_3 f8 (nI d) (nI g) (nI a) (nI n) fb (nI w) (nI h) dp (nI col) (nI k) = some (0, nI a', dp') ∧ fX9_readSecond_119 f9 (nI n) (nI a) (nI 0) (nI w) (nI h) rf fr one (nI g) (nI d) (nI c) (nI k) = fX9_readSecond_285 (nI n) (nI a') (nI 0) (nI w) (nI h) rf fr' one' (nI d) ∧ 1 ≤ a' ∧ a' ≤ n ∧ zPd w (fun j => j < w * h) dp' fr') := by
  have hs := zmul64 hw hh
  have hc3 : c ≤ 3 := by omega
  intro f8
  induction f8 with
  | zero => intro f9 k a dp fr one h1 h2; omega
  | succ f8 ih =>
    intro f9 k a dp fr one h1 h2 h3 h4 h5 hD
    obtain ⟨f9, rfl⟩ : ∃ m, f9 = m + 1 := ⟨f9 - 1, by omega⟩
    rw [fX6_readSamples_3_s, fX9_readSecond_119_s]
    by_cases q : w * h ≤ k
    · right
      have e : k = w * h := by omega
      subst e
      refine ⟨dp, fr, one, a, ?_, ?_, h4, h5, hD⟩
      · simp (disch := omega) only [zlit, nI_lt_nI, nI_le_nI, nI_eq_nI, nI_add, pk_mul, pk_sub, pk_div, zrem_nI, zrd_nI, zwr_nI, zb1_some, zb2_some, zb3_some, zb4_some, zb5_some, zb6_some, zb7_some, zb8_some, zlet_eq, if_pos, if_neg, pk_us, pk_un, true_and, and_true, true_or, or_true, ↓reduceIte, zcount]
      · simp (disch := omega) only [zlit, nI_lt_nI, nI_le_nI, nI_eq_nI, nI_add, pk_mul, pk_sub, pk_div, zrem_nI, zrd_nI, zwr_nI, zb1_some, zb2_some, zb3_some, zb4_some, zb5_some, zb6_some, zb7_some, zb8_some, zlet_eq, if_pos, if_neg, pk_us, pk_un, true_and, and_true, true_or, or_true, ↓reduceIte]
    · have hk : k < w * h := by omega
      obtain ⟨f9, rfl⟩ : ∃ m, f9 = m + 1 := ⟨f9 - 1, by omega⟩
      have stuck : ∀ (t : Nat) (b : Int32) (fr one : Nat → Int32) (l5 : Int32), zS (zft t) (fX9_readSecond_119 (f9 + 1) (nI n) b (zft t) (nI w) (nI h) rf fr one (nI g) (nI d) (nI c) l5) := fun t b fr one l5 => zF119 (zft_ne t)
      have R : (if nI 0 = 0 then if nI w * nI h ≤ nI k then fX9_readSecond_285 (nI n) (nI a) (nI 0) (nI w) (nI h) rf fr one (nI d) else fX9_readSecond_143 (fX9_readSecond_119 (f9 + 1)) 1000 (nI n) (nI a) (nI 0) (nI w) (nI h) rf fr one (nI g) (nI d) (nI c) (nI k) 0 else fX9_readSecond_285 (nI n) (nI a) (nI 0) (nI w) (nI h) rf fr one (nI d)) = fX9_readSecond_143 (fX9_readSecond_119 (f9 + 1)) 1000 (nI n) (nI a) (nI 0) (nI w) (nI h) rf fr one (nI g) (nI d) (nI c) (nI k) (nI 0) := by
        simp (disch := omega) only [zlit, nI_lt_nI, nI_le_nI, nI_eq_nI, nI_add, pk_mul, pk_sub, pk_div, zrem_nI, zrd_nI, zwr_nI, zb1_some, zb2_some, zb3_some, zb4_some, zb5_some, zb6_some, zb7_some, zb8_some, zlet_eq, if_pos, if_neg, pk_us, pk_un, true_and, and_true, true_or, or_true, ↓reduceIte]
      rw [R, zb1_of zcount, if_neg (by rw [nI_le_nI (by omega) (by omega)]; exact q)]
      rcases zsam (i := 0) hn hB hB' hd hg1 hg hc3 (by omega) h4 h5 with ⟨s0, a0, u1, u2, u3, u4, u5⟩ | ⟨t, x, u1, u2, u3⟩
      · rw [zb3_of u4, if_pos rfl, u5]
        rcases hc with ⟨c1, c2⟩ | ⟨c1, c2⟩
        · subst c1 c2
          obtain ⟨fr', one', v1, v2⟩ := z143x (s := nI n) (a := nI a0) (l2 := nI g) (l3 := nI d) (rf := rf) (fr := fr) (one := upd one 0 (nI s0)) (f := 998) hw hh hk u1 u1 u1 (pk_us) (Or.inl ⟨rfl, rfl, rfl⟩) (fX9_readSecond_119 (f9 + 1))
          have g := ih (f9 + 1) (k + 1) a0 _ fr' one' (by omega) (by omega) (by omega) (by omega) u3 (v2 dp hD)
          have col := @zcolour s0 s0 s0 255 u1 u1 u1 (by decide)
          rw [v1]
          unfold fX6_readSamples_33 fX6_readSamples_49 fX8_opaque
          simp (disch := omega) only [zlit, nI_lt_nI, nI_le_nI, nI_eq_nI, nI_add, pk_mul, pk_sub, pk_div, zrem_nI, zrd_nI, zwr_nI, zb1_some, zb2_some, zb3_some, zb4_some, zb5_some, zb6_some, zb7_some, zb8_some, zlet_eq, if_pos, if_neg, pk_us, pk_un, true_and, and_true, true_or, or_true, ↓reduceIte, col]
          exact g
        · subst c1 c2
          rw [if_neg (by decide)]
          rcases zsam (i := 1) hn hB hB' hd hg1 hg (Nat.le_refl 3) (by omega) (by omega) u3 with ⟨s1, a1, x1, x2, x3, x4, x5⟩ | ⟨t, x, x1, x2, x3⟩
          · rw [zb3_of x4, if_pos rfl, x5]
            unfold fX6_readSamples_33
            rw [if_neg (by decide)]
            rcases zsam (i := 2) hn hB hB' hd hg1 hg (Nat.le_refl 3) (by omega) (by omega) x3 with ⟨s2, a2, y1, y2, y3, y4, y5⟩ | ⟨t, x, y1, y2, y3⟩
            · rw [zb3_of y4, if_pos rfl, y5]
              obtain ⟨fr', one', v1, v2⟩ := z143x (s := nI n) (a := nI a2) (l2 := nI g) (l3 := nI d) (rf := rf) (fr := fr) (one := upd (upd (upd one 0 (nI s0)) 1 (nI s1)) 2 (nI s2)) (f := 996) hw hh hk u1 x1 y1 (by simp (disch := omega) only [zlit, nI_lt_nI, nI_le_nI, nI_eq_nI, nI_add, pk_mul, pk_sub, pk_div, zrem_nI, zrd_nI, zwr_nI, zb1_some, zb2_some, zb3_some, zb4_some, zb5_some, zb6_some, zb7_some, zb8_some, zlet_eq, if_pos, if_neg, pk_us, pk_un, true_and, and_true, true_or, or_true, ↓reduceIte]) (Or.inr ⟨rfl, by simp (disch := omega) only [zlit, nI_lt_nI, nI_le_nI, nI_eq_nI, nI_add, pk_mul, pk_sub, pk_div, zrem_nI, zrd_nI, zwr_nI, zb1_some, zb2_some, zb3_some, zb4_some, zb5_some, zb6_some, zb7_some, zb8_some, zlet_eq, if_pos, if_neg, pk_us, pk_un, true_and, and_true, true_or, or_true, ↓reduceIte], by simp (disch := omega) only [zlit, nI_lt_nI, nI_le_nI, nI_eq_nI, nI_add, pk_mul, pk_sub, pk_div, zrem_nI, zrd_nI, zwr_nI, zb1_some, zb2_some, zb3_some, zb4_some, zb5_some, zb6_some, zb7_some, zb8_some, zlet_eq, if_pos, if_neg, pk_us, pk_un, true_and, and_true, true_or, or_true, ↓reduceIte]⟩) (fX9_readSecond_119 (f9 + 1))
              have g := ih (f9 + 1) (k + 1) a2 _ fr' one' (by omega) (by omega) (by omega) (by omega) y3 (v2 dp hD)
              have col := @zcolour s0 s1 s2 255 u1 x1 y1 (by decide)
              rw [v1]
              unfold fX6_readSamples_49 fX8_opaque
              simp (disch := omega) only [zlit, nI_lt_nI, nI_le_nI, nI_eq_nI, nI_add, pk_mul, pk_sub, pk_div, zrem_nI, zrd_nI, zwr_nI, zb1_some, zb2_some, zb3_some, zb4_some, zb5_some, zb6_some, zb7_some, zb8_some, zlet_eq, if_pos, if_neg, pk_us, pk_un, true_and, and_true, true_or, or_true, ↓reduceIte, col]
              exact g
            · left
              obtain ⟨z1, z2⟩ := x
              refine ⟨t, (z2, dp), y1, ?_, y3 _ _ _ _ _ _ _ (by omega) (stuck t)⟩
              rw [zb3_of y2, if_neg (by omega)]
          · left
            obtain ⟨z1, z2⟩ := x
            refine ⟨t, (z2, dp), x1, ?_, x3 _ _ _ _ _ _ _ (by omega) (stuck t)⟩
            rw [zb3_of x2, if_neg (by omega)]
      · left
        obtain ⟨z1, z2⟩ := x
        refine ⟨t, (z2, dp), u1, ?_, u3 _ _ _ _ _ _ _ (by omega) (stuck t)⟩
        rw [zb3_of u2, if_neg (by omega)]
