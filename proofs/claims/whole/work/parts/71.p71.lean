/-! The third format's readers: stuck rows, the colours, the plain rows. -/
theorem zplainF {F s a nw nh c v0 v1 : Int32} {rf fr col one : Nat → Int32} (hF : (F = nI 0) = False) : fX9_plain s a F nw nh c rf fr col one v0 v1 = some (a, F, fr, one) := by
  unfold fX9_plain
  rw [fX9_plain_2_s]
  simp only [zlit, hF, ↓reduceIte, ite_self]
theorem zpiecesF {F s a nw nh c : Int32} {rf fr col one : Nat → Int32} (hF : (F = nI 0) = False) : fX9_pieces s a F nw nh c rf fr col one = some (a, F, fr, one) := by
  unfold fX9_pieces
  rw [fX9_pieces_2_s]
  unfold fX9_pieces_46
  rw [fX9_pieces_52_s]
  simp only [zlit, hF, ↓reduceIte, ite_self]
theorem zF310 {F s a nw nh c l2 l3 l4 : Int32} {rf fr col one : Nat → Int32} (hF : (F = nI 0) = False) : zS F (fX9_readThird_310 s a F nw nh c rf fr col one l2 l3 l4) := by
  unfold fX9_readThird_310 fX9_readThird_334
  rw [zb4_of (zpiecesF hF), zb4_of (zplainF hF), zb4_of (zplainF hF)]
  exact zS_ite zS_mk (zS_ite zS_mk zS_mk)
theorem zF290 {F s a nw nh c l1 l2 l3 l4 k : Int32} {rf fr col one : Nat → Int32} (hF : (F = nI 0) = False) : zS F (fX9_readThird_290 s a F nw nh c rf fr col one l1 l2 l3 l4 k) := by
  unfold fX9_readThird_290
  rw [zb1_of (zbrokF hF)]
  simp only [zlit, hF, ↓reduceIte]
  exact zF310 hF
theorem zF269 {F s a nw nh c l1 l2 l3 l4 : Int32} {rf fr col one : Nat → Int32} (hF : (F = nI 0) = False) : zS F (fX9_readThird_269 s a F nw nh c rf fr col one l1 l2 l3 l4) := by
  unfold fX9_readThird_269 fX9_readThird_285
  exact zS_ite (zF290 hF) (zS_ite (zF290 hF) (zF290 hF))
theorem zF212 {F s a nw nh c l1 l2 l3 l4 l5 : Int32} {rf fr col one : Nat → Int32} {n : Nat} (hF : (F = nI 0) = False) : zS F (fX9_readThird_212 (n + 1) s a F nw nh c rf fr col one l1 l2 l3 l4 l5) := by
  rw [fX9_readThird_212_s]
  simp only [zlit, hF, ↓reduceIte]
  exact zF269 hF
theorem zF201 {F s a nw nh c l1 l2 l3 l4 k : Int32} {rf fr col one : Nat → Int32} (hF : (F = nI 0) = False) : zS F (fX9_readThird_201 s a F nw nh c rf fr col one l1 l2 l3 l4 k) := by
  unfold fX9_readThird_201
  rw [zb1_of (zbrokF hF), zb2_of (zskipF hF)]
  exact zF212 hF
theorem zF138 {F s a nw nh l1 l2 l3 l4 k : Int32} {rf fr col one : Nat → Int32} (hF : (F = nI 0) = False) : zS F (fX9_readThird_138 s a F nw nh rf fr col one l1 l2 l3 l4 k) := by
  unfold fX9_readThird_138 fX9_readThird_181
  simp only [zlit]
  rw [zb1_of (zbrokF hF), zb2_of (zskipF hF), zb3_of (znumF hF (by decide))]
  exact zS_ite (zS_ite (zF201 hF) (zS_ite (zF201 hF) (zF201 hF))) (zS_ite (zF201 hF) (zF201 hF))
theorem zF100 {F s a nw nh l1 l2 l3 k : Int32} {rf fr col one : Nat → Int32} (hF : (F = nI 0) = False) : zS F (fX9_readThird_100 s a F nw nh rf fr col one l1 l2 l3 k) := by
  unfold fX9_readThird_100 fX9_readThird_137 fX9_readThird_133
  simp only [zlit]
  rw [zb1_of (zbrokF hF), zb3_of (znumF hF (by decide))]
  exact zS_ite (zF138 hF) (zS_ite (zS_ite (zS_ite (zF138 hF) (zF138 hF)) (zF138 hF)) (zF138 hF))
theorem zF58 {F s a nw l1 l2 k : Int32} {rf fr col one : Nat → Int32} (hF : (F = nI 0) = False) : zS F (fX9_readThird_58 s a F nw rf fr col one l1 l2 k) := by
  unfold fX9_readThird_58 fX9_readThird_99
  simp only [zlit]
  rw [zb2_of (zsideF hF), zb3_of (znumF hF (by decide)), zb1_of (zmustF hF), zb3_of (znumF hF (by decide))]
  exact zS_ite (zF100 hF) (zS_ite (zF100 hF) (zF100 hF))
/-- the colour table, class and reference -/
def zCt (K : Nat) (tc col : Nat → Int32) : Prop := ∀ m, m < K → zch (tc m) 3 = 255 ∧ ∀ c, c < 3 → col (4 * m + c) = nI (zch (tc m) c)
theorem zF231 {F s a nw nh K l1 l2 l3 l4 : Int32} {m n : Nat} {rf fr one : Nat → Int32} (hF : (F = nI 0) = False) (hm : m < 64) : ∀ (f i : Nat) (col : Nat → Int32), i ≤ 3 → i < f → zS F (fX9_readThird_231 (fX9_readThird_212 (n + 1)) f s a F nw nh K rf fr col one l1 l2 l3 l4 (nI m) (zm1 i)) := by
  intro f
  induction f with
  | zero => intro i col h1 h2; omega
  | succ f ih =>
    intro i col h1 h2
    rw [fX9_readThird_231_s]
    simp only [zlit]
    rw [zb3_of (znextF hF), zb3_of (znextF hF)]
    cases i with
    | zero =>
      rw [if_pos (by rw [zm1_0]; trivial), zlet_eq]
      exact zF212 hF
    | succ i =>
      rw [zm1_s, if_neg (by rw [nI_lt_nI (by omega) (by decide)]; omega), pk_mul, nI_add, zwr_nI (by omega) (by decide), zlet_eq, zm1_dec]
      exact ih i _ (by omega) (by omega)
theorem zpal {n K : Nat} {fb rf fr one : Nat → Int32} {B : Nat → Nat} {w h off l2 l3 l4 dd pk iu cc uu : Int32} {dp : Nat → Int32} (hn : n ≤ 800) (hB : zByt n fb B) (hB' : zByt n rf B) (hK : K ≤ 64) : ∀ (f8 f9 i a : Nat) (tc col : Nat → Int32), i ≤ K → K - i < f8 → K - i + 1 < f9 → a ≤ n → zCt i tc col →
    (∃ (t : Nat) (z : Int32 × Int32 × Int32 × Int32 × Int32 × Int32 × (Nat → Int32) × Int32 × Int32 × Int32 × (Nat → Int32)), (t = 1 ∨ t = 2) ∧ fX0_read_21 f8 (nI K) dd pk iu cc uu tc (nI a) (nI n) fb w h dp off (nI i) = some (t, z) ∧ zS (zft t) (fX9_readThird_212 f9 (nI n) (nI a) (nI 0) w h (nI K) rf fr col one off l2 l3 l4 (nI i))) ∨
    (∃ (a' f' : Nat) (tc' col' : Nat → Int32), fX0_read_21 f8 (nI K) dd pk iu cc uu tc (nI a) (nI n) fb w h dp off (nI i) = fX0_read_21 (f' + 1) (nI K) dd pk iu cc uu tc' (nI a') (nI n) fb w h dp off (nI K) ∧ fX9_readThird_212 f9 (nI n) (nI a) (nI 0) w h (nI K) rf fr col one off l2 l3 l4 (nI i) = fX9_readThird_269 (nI n) (nI a') (nI 0) w h (nI K) rf fr col' one off l2 l3 l4 ∧ a' ≤ n ∧ zCt K tc' col') := by
  intro f8
  induction f8 with
  | zero => intro f9 i a tc col h1 h2; omega
  | succ f8 ih =>
    intro f9 i a tc col h1 h2 h3 h4 hC
    obtain ⟨f9, rfl⟩ : ∃ m, f9 = m + 1 := ⟨f9 - 1, by omega⟩
    by_cases q : K ≤ i
    · have e : i = K := by omega
      subst e
      refine Or.inr ⟨a, f8, tc, col, rfl, ?_, h4, hC⟩
      rw [fX9_readThird_212_s]
      simp (disch := omega) only [zlit, nI_lt_nI, nI_le_nI, nI_eq_nI, nI_add, pk_mul, pk_sub, pk_div, zrem_nI, zrd_nI, zwr_nI, zb1_some, zb2_some, zb3_some, zb4_some, zb5_some, zb6_some, zb7_some, zb8_some, zlet_eq, if_pos, if_neg, pk_us, pk_un, true_and, and_true, true_or, or_true, ↓reduceIte]
    · obtain ⟨f9, rfl⟩ : ∃ m, f9 = m + 1 := ⟨f9 - 1, by omega⟩
      rw [fX0_read_21_s, fX9_readThird_212_s]
      simp only [zlit]
      rw [if_neg (show ¬ nI K ≤ nI i by rw [nI_le_nI (by omega) (by omega)]; exact q), if_pos trivial, if_neg (show ¬ nI K ≤ nI i by rw [nI_le_nI (by omega) (by omega)]; exact q)]
      have m2 : (nI 2 : Int32) = zm1 3 := by decide
      have z1 : zm1 1 = nI 0 := by decide
      have z2 : zm1 2 = nI 1 := by decide
      have z3 : zm1 3 = nI 2 := by decide
      have st : ∀ (b : Int32) (j : Nat) (f : Nat) (col : Nat → Int32), j ≤ 3 → j < f → zS (-(nI 2)) (fX9_readThird_231 (fX9_readThird_212 (f9 + 1)) f (nI n) b (-(nI 2)) w h (nI K) rf fr col one off l2 l3 l4 (nI i) (zm1 j)) := fun b j f col h1 h2 => zF231 zn2 (by omega) f j col h1 h2
      have step : ∀ (j f a : Nat) (col : Nat → Int32), j < 3 → a < n → fX9_readThird_231 (fX9_readThird_212 (f9 + 1)) (f + 1) (nI n) (nI a) (nI 0) w h (nI K) rf fr col one off l2 l3 l4 (nI i) (zm1 (j + 1)) = fX9_readThird_231 (fX9_readThird_212 (f9 + 1)) f (nI n) (nI (a + 1)) (nI 0) w h (nI K) rf fr (upd col (4 * i + j) (nI (B a))) one off l2 l3 l4 (nI i) (zm1 j) := by
        intro j f a col hj ha
        rw [fX9_readThird_231_s]
        simp only [zlit]
        rw [zm1_s, if_neg (by rw [nI_lt_nI (by omega) (by decide)]; omega), zb3_of (znext9 hn hB' ha), pk_mul, nI_add, zwr_nI (by omega) (by decide), zlet_eq, zm1_dec]
      have stepE : ∀ (j f a : Nat) (col : Nat → Int32), j ≤ 3 → j < f + 1 → n = a → zS (-(nI 2)) (fX9_readThird_231 (fX9_readThird_212 (f9 + 1)) (f + 1) (nI n) (nI a) (nI 0) w h (nI K) rf fr col one off l2 l3 l4 (nI i) (zm1 j)) := by
        intro j f a col hj hf ha
        rw [fX9_readThird_231_s]
        simp only [zlit]
        cases j with
        | zero =>
          rw [if_pos (by rw [zm1_0]; trivial), zb3_of (znext9e hn ha), zlet_eq]
          exact zF212 zn2
        | succ j =>
          rw [zm1_s, if_neg (by rw [nI_lt_nI (by omega) (by decide)]; omega), zb3_of (znext9e hn ha), pk_mul, nI_add, zwr_nI (by omega) (by decide), zlet_eq, zm1_dec]
          exact st _ j f _ (by omega) (by omega)
      by_cases c : a + 4 ≤ n
      · have b0 := hB.1 a
        have b1 := hB.1 (a + 1)
        have b2 := hB.1 (a + 2)
        rw [zb3_of (zbgr hn hB (show a + 3 ≤ n by omega)), if_pos rfl, zwr_nI (by omega) (by decide), zb2_of (zpass (k := 1) hn hB (show a + 3 + 1 ≤ n by omega)), if_pos rfl, zlet_eq, nI_add]
        rw [show (1000 : Nat) = 996 + 1 + 1 + 1 + 1 from rfl, m2, step 2 _ a col (by decide) (by omega), step 1 _ (a + 1) _ (by decide) (by omega), step 0 _ (a + 1 + 1) _ (by decide) (by omega), fX9_readThird_231_s]
        simp only [zlit]
        rw [if_pos (by rw [zm1_0]; trivial), zb3_of (znext9 hn hB' (show a + 1 + 1 + 1 < n by omega)), zlet_eq, nI_add]
        refine ih (f9 + 1) (i + 1) (a + 3 + 1) _ _ (by omega) (by omega) (by omega) (by omega) ?_
        intro m hm
        by_cases r : m = i
        · subst r
          rw [pk_us]
          refine ⟨zch3 b2 b1 b0 (by decide), fun c hc => ?_⟩
          rcases (show c = 0 ∨ c = 1 ∨ c = 2 by omega) with e | e | e
          · subst e; rw [zch0 b2 b1 b0 (by decide), pk_us]
          · subst e; rw [zch1 b2 b1 b0 (by decide), pk_un (by omega), pk_us]
          · subst e; rw [zch2 b2 b1 b0 (by decide), pk_un (by omega), pk_un (by omega), pk_us]
        · rw [pk_un r]
          obtain ⟨g1, g2⟩ := hC m (by omega)
          refine ⟨g1, fun c hc => ?_⟩
          rw [pk_un (by omega), pk_un (by omega), pk_un (by omega)]
          exact g2 c hc
      · left
        by_cases c3 : a + 3 ≤ n
        · have e : n = a + 3 := by omega
          refine ⟨1, (nI K, dd, pk, iu, cc, uu, upd tc i (nI (zpk (B (a + 2)) (B (a + 1)) (B a) 255)), nI n, w, h, dp), Or.inl rfl, ?_, ?_⟩
          · rw [zb3_of (zbgr hn hB c3), if_pos rfl, zwr_nI (by omega) (by decide), zb2_of (zpassE (k := 1) hn (by decide) hB (show a + 3 ≤ n by omega) (by omega)), if_neg (by decide)]
          · rw [show (1000 : Nat) = 996 + 1 + 1 + 1 + 1 from rfl, m2, step 2 _ a col (by decide) (by omega), step 1 _ (a + 1) _ (by decide) (by omega), step 0 _ (a + 1 + 1) _ (by decide) (by omega)]
            exact stepE 0 _ (a + 1 + 1 + 1) _ (by decide) (by decide) (by omega)
        · obtain ⟨x, ex⟩ := zbgrE hn hB h4 (show n < a + 3 by omega)
          refine ⟨1, (nI K, dd, pk, iu, cc, uu, tc, x, w, h, dp), Or.inl rfl, ?_, ?_⟩
          · rw [zb3_of ex, if_neg (by decide)]
          · rw [show (1000 : Nat) = 996 + 1 + 1 + 1 + 1 from rfl, m2]
            rcases (show n = a ∨ n = a + 1 ∨ n = a + 2 by omega) with e | e | e
            · exact stepE 3 _ a _ (by decide) (by decide) e
            · rw [step 2 _ a col (by decide) (by omega)]
              exact stepE 2 _ (a + 1) _ (by decide) (by decide) e
            · rw [step 2 _ a col (by decide) (by omega), step 1 _ (a + 1) _ (by decide) (by omega)]
              exact stepE 1 _ (a + 1 + 1) _ (by decide) (by decide) e
