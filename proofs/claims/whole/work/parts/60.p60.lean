/-! Reading: the small calls. -/
def zft (t : Nat) : Int32 := if t = 1 then -(nI 2) else -(nI 3)
theorem zn2 : (-(nI 2) = nI 0) = False := eq_false (by decide)
theorem zn3 : (-(nI 3) = nI 0) = False := eq_false (by decide)
theorem zft_ne (t : Nat) : (zft t = nI 0) = False := by
  unfold zft
  split
  · exact zn2
  · exact zn3
theorem zbrokF {F k : Int32} (hF : (F = nI 0) = False) : fX9_broken F k = some F := by
  unfold fX9_broken fX9_broken_17 fX9_broken_21
  simp only [zlit, hF, ↓reduceIte]
theorem znextF {s a F : Int32} {fl : Nat → Int32} (hF : (F = nI 0) = False) : fX9_next s a F fl = some (nI 0, a, F) := by
  unfold fX9_next fX9_next_24
  simp only [zlit, hF, ↓reduceIte]
theorem zskipF {s a F v : Int32} {fl : Nat → Int32} (hF : (F = nI 0) = False) : fX9_skip s a F fl v = some (a, F) := by
  unfold fX9_skip
  rw [fX9_skip_2_s]
  simp only [zlit, hF, ↓reduceIte, ite_self]
theorem zshl0 {k : Nat} (hk : k < 32) : zshl (nI 0) (nI k) = nI 0 := by
  rw [zshl_n k hk (by rw [Nat.zero_mul]; decide), Nat.zero_mul]
theorem zor0 : nI 0 ||| nI 0 = nI 0 := by decide
theorem znum5F0 {s a F d : Int32} {fl : Nat → Int32} (hF : (F = nI 0) = False) : ∀ (n i k : Nat), i ≤ k → k ≤ 4 → k - i < n → fX9_number_5 n s a F fl (nI k) d (nI 0) (nI i) = some (nI 0, a, F) := by
  intro n
  induction n with
  | zero => intro i k h1 h2 h3; omega
  | succ n ih =>
    intro i k h1 h2 h3
    rw [fX9_number_5_s]
    by_cases q : k ≤ i
    · simp (disch := omega) only [zlit, nI_lt_nI, nI_le_nI, nI_eq_nI, nI_add, pk_mul, pk_sub, pk_div, zrem_nI, zrd_nI, zwr_nI, zb1_some, zb2_some, zb3_some, zb4_some, zb5_some, zb6_some, zb7_some, zb8_some, zlet_eq, if_pos, if_neg, pk_us, pk_un, true_and, and_true, true_or, or_true, ↓reduceIte]
    · have g := ih (i + 1) k (by omega) h2 (by omega)
      unfold fX9_number_41
      simp (disch := omega) only [zlit, nI_lt_nI, nI_le_nI, nI_eq_nI, nI_add, pk_mul, pk_sub, pk_div, zrem_nI, zrd_nI, zwr_nI, zb1_some, zb2_some, zb3_some, zb4_some, zb5_some, zb6_some, zb7_some, zb8_some, zlet_eq, if_pos, if_neg, pk_us, pk_un, true_and, and_true, true_or, or_true, ↓reduceIte, znextF hF, zshl0, zor0, ite_self]
      exact g
theorem znumF {s a F d : Int32} {fl : Nat → Int32} {k : Nat} (hF : (F = nI 0) = False) (hk : k ≤ 4) : fX9_number s a F fl (nI k) d = some (nI 0, a, F) := znum5F0 hF 1000 0 k (by omega) hk (by omega)
theorem znum5F {s a F d : Int32} {fl : Nat → Int32} (hF : (F = nI 0) = False) : ∀ (n i k : Nat) (v : Int32), i ≤ k → k ≤ 4 → k - i < n → ∃ r, fX9_number_5 n s a F fl (nI k) d v (nI i) = some (r, a, F) := by
  intro n
  induction n with
  | zero => intro i k v h1 h2 h3; omega
  | succ n ih =>
    intro i k v h1 h2 h3
    rw [fX9_number_5_s]
    by_cases q : k ≤ i
    · exact ⟨v, by simp (disch := omega) only [zlit, nI_lt_nI, nI_le_nI, nI_eq_nI, nI_add, pk_mul, pk_sub, pk_div, zrem_nI, zrd_nI, zwr_nI, zb1_some, zb2_some, zb3_some, zb4_some, zb5_some, zb6_some, zb7_some, zb8_some, zlet_eq, if_pos, if_neg, pk_us, pk_un, true_and, and_true, true_or, or_true, ↓reduceIte]⟩
    · unfold fX9_number_41
      by_cases c : d = nI 0
      · obtain ⟨r, g⟩ := ih (i + 1) k (v ||| zshl (nI 0) (nI (8 * i))) (by omega) h2 (by omega)
        refine ⟨r, ?_⟩
        simp (disch := omega) only [zlit, nI_lt_nI, nI_le_nI, nI_eq_nI, nI_add, pk_mul, pk_sub, pk_div, zrem_nI, zrd_nI, zwr_nI, zb1_some, zb2_some, zb3_some, zb4_some, zb5_some, zb6_some, zb7_some, zb8_some, zlet_eq, if_pos, if_neg, pk_us, pk_un, true_and, and_true, true_or, or_true, ↓reduceIte, znextF hF, c]
        rw [c] at g
        exact g
      · obtain ⟨r, g⟩ := ih (i + 1) k (zshl v (nI 8) ||| nI 0) (by omega) h2 (by omega)
        refine ⟨r, ?_⟩
        simp (disch := omega) only [zlit, nI_lt_nI, nI_le_nI, nI_eq_nI, nI_add, pk_mul, pk_sub, pk_div, zrem_nI, zrd_nI, zwr_nI, zb1_some, zb2_some, zb3_some, zb4_some, zb5_some, zb6_some, zb7_some, zb8_some, zlet_eq, if_pos, if_neg, pk_us, pk_un, true_and, and_true, true_or, or_true, ↓reduceIte, znextF hF, c]
        exact g
theorem zsideF {F v : Int32} (hF : (F = nI 0) = False) : fX9_sideOf F v = some (v, F) := by
  unfold fX9_sideOf fX9_sideOf_13
  rcases zside v with ⟨_, e, _⟩ | ⟨j, _, _, _, _, e⟩
  · simp (disch := omega) only [zlit, nI_lt_nI, nI_le_nI, nI_eq_nI, nI_add, pk_mul, pk_sub, pk_div, zrem_nI, zrd_nI, zwr_nI, zb1_some, zb2_some, zb3_some, zb4_some, zb5_some, zb6_some, zb7_some, zb8_some, zlet_eq, if_pos, if_neg, pk_us, pk_un, true_and, and_true, true_or, or_true, ↓reduceIte, e, zbrokF hF]
  · simp (disch := omega) only [zlit, nI_lt_nI, nI_le_nI, nI_eq_nI, nI_add, pk_mul, pk_sub, pk_div, zrem_nI, zrd_nI, zwr_nI, zb1_some, zb2_some, zb3_some, zb4_some, zb5_some, zb6_some, zb7_some, zb8_some, zlet_eq, if_pos, if_neg, pk_us, pk_un, true_and, and_true, true_or, or_true, ↓reduceIte, e, zbrokF hF]
theorem zmustF {F u v : Int32} (hF : (F = nI 0) = False) : fX9_must F u v = some F := by
  unfold fX9_must fX9_must_11
  simp (disch := omega) only [zlit, nI_lt_nI, nI_le_nI, nI_eq_nI, nI_add, pk_mul, pk_sub, pk_div, zrem_nI, zrd_nI, zwr_nI, zb1_some, zb2_some, zb3_some, zb4_some, zb5_some, zb6_some, zb7_some, zb8_some, zlet_eq, if_pos, if_neg, pk_us, pk_un, true_and, and_true, true_or, or_true, ↓reduceIte, zbrokF hF, ite_self]
theorem zsetF {F w v : Int32} {fr one : Nat → Int32} (hF : (F = nI 0) = False) : fX9_set F w fr one v = some fr := by
  unfold fX9_set
  simp only [zlit, hF, ↓reduceIte]
theorem znext9 {n a : Nat} {fl : Nat → Int32} {B : Nat → Nat} (hn : n ≤ 800) (hB : zByt n fl B) (h : a < n) : fX9_next (nI n) (nI a) (nI 0) fl = some (nI (B a), nI (a + 1), nI 0) := by
  unfold fX9_next fX9_next_24
  simp (disch := omega) only [zlit, nI_lt_nI, nI_le_nI, nI_eq_nI, nI_add, pk_mul, pk_sub, pk_div, zrem_nI, zrd_nI, zwr_nI, zb1_some, zb2_some, zb3_some, zb4_some, zb5_some, zb6_some, zb7_some, zb8_some, zlet_eq, if_pos, if_neg, pk_us, pk_un, true_and, and_true, true_or, or_true, ↓reduceIte, zrdB hB hn, Nat.add_sub_cancel]
theorem znext9e {n a : Nat} {fl : Nat → Int32} (hn : n ≤ 800) (h : n = a) : fX9_next (nI n) (nI a) (nI 0) fl = some (nI 0, nI a, -(nI 2)) := by
  subst h
  unfold fX9_next fX9_next_24
  simp (disch := omega) only [zlit, nI_lt_nI, nI_le_nI, nI_eq_nI, nI_add, pk_mul, pk_sub, pk_div, zrem_nI, zrd_nI, zwr_nI, zb1_some, zb2_some, zb3_some, zb4_some, zb5_some, zb6_some, zb7_some, zb8_some, zlet_eq, if_pos, if_neg, pk_us, pk_un, true_and, and_true, true_or, or_true, ↓reduceIte, zn2]
theorem znext8 {n a : Nat} {fl : Nat → Int32} {B : Nat → Nat} (hn : n ≤ 800) (hB : zByt n fl B) (h : a < n) : fX7_next (nI a) (nI n) fl = some (0, nI (B a), nI (a + 1)) := by
  unfold fX7_next
  simp (disch := omega) only [zlit, nI_lt_nI, nI_le_nI, nI_eq_nI, nI_add, pk_mul, pk_sub, pk_div, zrem_nI, zrd_nI, zwr_nI, zb1_some, zb2_some, zb3_some, zb4_some, zb5_some, zb6_some, zb7_some, zb8_some, zlet_eq, if_pos, if_neg, pk_us, pk_un, true_and, and_true, true_or, or_true, ↓reduceIte, zrdB hB hn]
theorem znext8e {n a : Nat} {fl : Nat → Int32} (hn : n ≤ 800) (h : n = a) : fX7_next (nI a) (nI n) fl = some (1, nI 0, nI a) := by
  subst h
  unfold fX7_next
  simp (disch := omega) only [zlit, nI_lt_nI, nI_le_nI, nI_eq_nI, nI_add, pk_mul, pk_sub, pk_div, zrem_nI, zrd_nI, zwr_nI, zb1_some, zb2_some, zb3_some, zb4_some, zb5_some, zb6_some, zb7_some, zb8_some, zlet_eq, if_pos, if_neg, pk_us, pk_un, true_and, and_true, true_or, or_true, ↓reduceIte]
theorem zneed0 : fX7_need (nI 0) = some 2 := by
  unfold fX7_need
  simp (disch := omega) only [zlit, nI_lt_nI, nI_le_nI, nI_eq_nI, nI_add, pk_mul, pk_sub, pk_div, zrem_nI, zrd_nI, zwr_nI, zb1_some, zb2_some, zb3_some, zb4_some, zb5_some, zb6_some, zb7_some, zb8_some, zlet_eq, if_pos, if_neg, pk_us, pk_un, true_and, and_true, true_or, or_true, ↓reduceIte]
theorem zneed1 : fX7_need (nI 1) = some 0 := by
  unfold fX7_need
  simp (disch := omega) only [zlit, nI_lt_nI, nI_le_nI, nI_eq_nI, nI_add, pk_mul, pk_sub, pk_div, zrem_nI, zrd_nI, zwr_nI, zb1_some, zb2_some, zb3_some, zb4_some, zb5_some, zb6_some, zb7_some, zb8_some, zlet_eq, if_pos, if_neg, pk_us, pk_un, true_and, and_true, true_or, or_true, ↓reduceIte]
theorem zbrok0 : fX9_broken (nI 0) (nI 0) = some (nI 0) := by
  unfold fX9_broken fX9_broken_17 fX9_broken_21
  simp (disch := omega) only [zlit, nI_lt_nI, nI_le_nI, nI_eq_nI, nI_add, pk_mul, pk_sub, pk_div, zrem_nI, zrd_nI, zwr_nI, zb1_some, zb2_some, zb3_some, zb4_some, zb5_some, zb6_some, zb7_some, zb8_some, zlet_eq, if_pos, if_neg, pk_us, pk_un, true_and, and_true, true_or, or_true, ↓reduceIte]
theorem zbrok1 : fX9_broken (nI 0) (nI 1) = some (-(nI 3)) := by
  unfold fX9_broken fX9_broken_17 fX9_broken_21
  simp (disch := omega) only [zlit, nI_lt_nI, nI_le_nI, nI_eq_nI, nI_add, pk_mul, pk_sub, pk_div, zrem_nI, zrd_nI, zwr_nI, zb1_some, zb2_some, zb3_some, zb4_some, zb5_some, zb6_some, zb7_some, zb8_some, zlet_eq, if_pos, if_neg, pk_us, pk_un, true_and, and_true, true_or, or_true, ↓reduceIte]
theorem zmust0 {v : Int32} : fX9_must (nI 0) v v = some (nI 0) := by
  unfold fX9_must fX9_must_11
  simp only [↓reduceIte, zlit, zbrok0, zb1_some]
theorem zmust1 {u v : Int32} (h : ¬ u = v) : fX9_must (nI 0) u v = some (-(nI 3)) := by
  unfold fX9_must fX9_must_11
  simp only [if_neg h, zlit, zbrok1, zb1_some]
theorem zsd (v : Int32) : (fX7_needSide v = some (2, nI 0) ∧ fX9_sideOf (nI 0) v = some (v, -(nI 3))) ∨ (∃ j : Nat, 1 ≤ j ∧ j ≤ 8 ∧ v = nI j ∧ fX7_needSide v = some (0, nI j) ∧ fX9_sideOf (nI 0) v = some (nI j, nI 0)) := by
  unfold fX7_needSide fX9_sideOf fX9_sideOf_13
  rcases zside v with ⟨e1, e2, _⟩ | ⟨j, j1, j2, j3, e1, e2⟩
  · refine Or.inl ⟨?_, ?_⟩
    · simp (disch := omega) only [zlit, nI_lt_nI, nI_le_nI, nI_eq_nI, nI_add, pk_mul, pk_sub, pk_div, zrem_nI, zrd_nI, zwr_nI, zb1_some, zb2_some, zb3_some, zb4_some, zb5_some, zb6_some, zb7_some, zb8_some, zlet_eq, if_pos, if_neg, pk_us, pk_un, true_and, and_true, true_or, or_true, ↓reduceIte, e1, zneed0]
    · simp (disch := omega) only [zlit, nI_lt_nI, nI_le_nI, nI_eq_nI, nI_add, pk_mul, pk_sub, pk_div, zrem_nI, zrd_nI, zwr_nI, zb1_some, zb2_some, zb3_some, zb4_some, zb5_some, zb6_some, zb7_some, zb8_some, zlet_eq, if_pos, if_neg, pk_us, pk_un, true_and, and_true, true_or, or_true, ↓reduceIte, e2, zbrok1]
  · subst j3
    refine Or.inr ⟨j, j1, j2, rfl, ?_, ?_⟩
    · simp (disch := omega) only [zlit, nI_lt_nI, nI_le_nI, nI_eq_nI, nI_add, pk_mul, pk_sub, pk_div, zrem_nI, zrd_nI, zwr_nI, zb1_some, zb2_some, zb3_some, zb4_some, zb5_some, zb6_some, zb7_some, zb8_some, zlet_eq, if_pos, if_neg, pk_us, pk_un, true_and, and_true, true_or, or_true, ↓reduceIte, e1, zneed1]
    · simp (disch := omega) only [zlit, nI_lt_nI, nI_le_nI, nI_eq_nI, nI_add, pk_mul, pk_sub, pk_div, zrem_nI, zrd_nI, zwr_nI, zb1_some, zb2_some, zb3_some, zb4_some, zb5_some, zb6_some, zb7_some, zb8_some, zlet_eq, if_pos, if_neg, pk_us, pk_un, true_and, and_true, true_or, or_true, ↓reduceIte, e2, zbrok0]
theorem zpass_l {n k : Nat} {fl : Nat → Int32} {B : Nat → Nat} (hn : n ≤ 800) (hk : k ≤ 800) (hB : zByt n fl B) : ∀ (m i a : Nat), i ≤ k → k - i < m → a ≤ n → fX7_pass_2 m (nI a) (nI n) fl (nI k) (nI i) = if a + (k - i) ≤ n then some (0, nI (a + (k - i))) else some (1, nI n) := by
  intro m
  induction m with
  | zero => intro i a h1 h2; omega
  | succ m ih =>
    intro i a h1 h2 h3
    rw [fX7_pass_2_s]
    by_cases q : k ≤ i
    · rw [show a + (k - i) = a by omega]
      simp (disch := omega) only [zlit, nI_lt_nI, nI_le_nI, nI_eq_nI, nI_add, pk_mul, pk_sub, pk_div, zrem_nI, zrd_nI, zwr_nI, zb1_some, zb2_some, zb3_some, zb4_some, zb5_some, zb6_some, zb7_some, zb8_some, zlet_eq, if_pos, if_neg, pk_us, pk_un, true_and, and_true, true_or, or_true, ↓reduceIte]
    · by_cases c : a < n
      · have g := ih (i + 1) (a + 1) (by omega) (by omega) (by omega)
        rw [show a + 1 + (k - (i + 1)) = a + (k - i) by omega] at g
        simp (disch := omega) only [zlit, nI_lt_nI, nI_le_nI, nI_eq_nI, nI_add, pk_mul, pk_sub, pk_div, zrem_nI, zrd_nI, zwr_nI, zb1_some, zb2_some, zb3_some, zb4_some, zb5_some, zb6_some, zb7_some, zb8_some, zlet_eq, if_pos, if_neg, pk_us, pk_un, true_and, and_true, true_or, or_true, ↓reduceIte, znext8 hn hB]
        exact g
      · have : n = a := by omega
        simp (disch := omega) only [zlit, nI_lt_nI, nI_le_nI, nI_eq_nI, nI_add, pk_mul, pk_sub, pk_div, zrem_nI, zrd_nI, zwr_nI, zb1_some, zb2_some, zb3_some, zb4_some, zb5_some, zb6_some, zb7_some, zb8_some, zlet_eq, if_pos, if_neg, pk_us, pk_un, true_and, and_true, true_or, or_true, ↓reduceIte, znext8e hn this]
        rw [this]
theorem zskip_l {n k : Nat} {fl : Nat → Int32} {B : Nat → Nat} (hn : n ≤ 800) (hk : k ≤ 800) (hB : zByt n fl B) : ∀ (m i a : Nat), i ≤ k → k - i < m → a ≤ n → fX9_skip_2 m (nI n) (nI a) (nI 0) fl (nI k) (nI i) = if a + (k - i) ≤ n then some (nI (a + (k - i)), nI 0) else some (nI n, -(nI 2)) := by
  intro m
  induction m with
  | zero => intro i a h1 h2; omega
  | succ m ih =>
    intro i a h1 h2 h3
    rw [fX9_skip_2_s]
    by_cases q : k ≤ i
    · rw [show a + (k - i) = a by omega]
      simp (disch := omega) only [zlit, nI_lt_nI, nI_le_nI, nI_eq_nI, nI_add, pk_mul, pk_sub, pk_div, zrem_nI, zrd_nI, zwr_nI, zb1_some, zb2_some, zb3_some, zb4_some, zb5_some, zb6_some, zb7_some, zb8_some, zlet_eq, if_pos, if_neg, pk_us, pk_un, true_and, and_true, true_or, or_true, ↓reduceIte]
    · by_cases c : a < n
      · have g := ih (i + 1) (a + 1) (by omega) (by omega) (by omega)
        rw [show a + 1 + (k - (i + 1)) = a + (k - i) by omega] at g
        simp (disch := omega) only [zlit, nI_lt_nI, nI_le_nI, nI_eq_nI, nI_add, pk_mul, pk_sub, pk_div, zrem_nI, zrd_nI, zwr_nI, zb1_some, zb2_some, zb3_some, zb4_some, zb5_some, zb6_some, zb7_some, zb8_some, zlet_eq, if_pos, if_neg, pk_us, pk_un, true_and, and_true, true_or, or_true, ↓reduceIte, znext9 hn hB]
        exact g
      · have : n = a := by omega
        simp (disch := omega) only [zlit, nI_lt_nI, nI_le_nI, nI_eq_nI, nI_add, pk_mul, pk_sub, pk_div, zrem_nI, zrd_nI, zwr_nI, zb1_some, zb2_some, zb3_some, zb4_some, zb5_some, zb6_some, zb7_some, zb8_some, zlet_eq, if_pos, if_neg, pk_us, pk_un, true_and, and_true, true_or, or_true, ↓reduceIte, znext9e hn this]
        cases m with
        | zero => omega
        | succ m =>
          rw [fX9_skip_2_s]
          simp (disch := omega) only [zlit, nI_lt_nI, nI_le_nI, nI_eq_nI, nI_add, pk_mul, pk_sub, pk_div, zrem_nI, zrd_nI, zwr_nI, zb1_some, zb2_some, zb3_some, zb4_some, zb5_some, zb6_some, zb7_some, zb8_some, zlet_eq, if_pos, if_neg, pk_us, pk_un, true_and, and_true, true_or, or_true, ↓reduceIte, zn2, ite_self]
          rw [this]
theorem zpass {n k a : Nat} {fl : Nat → Int32} {B : Nat → Nat} (hn : n ≤ 800) (hB : zByt n fl B) (h : a + k ≤ n) : fX7_pass (nI a) (nI n) fl (nI k) = some (0, nI (a + k)) := by
  have g := zpass_l (k := k) hn (by omega) hB 1000 0 a (by omega) (by omega) (by omega)
  rw [Nat.sub_zero, if_pos h] at g
  exact g
theorem zpassE {n k a : Nat} {fl : Nat → Int32} {B : Nat → Nat} (hn : n ≤ 800) (hk : k ≤ 800) (hB : zByt n fl B) (ha : a ≤ n) (h : n < a + k) : fX7_pass (nI a) (nI n) fl (nI k) = some (1, nI n) := by
  have g := zpass_l (k := k) hn hk hB 1000 0 a (by omega) (by omega) ha
  rw [Nat.sub_zero, if_neg (by omega)] at g
  exact g
theorem zskip {n k a : Nat} {fl : Nat → Int32} {B : Nat → Nat} (hn : n ≤ 800) (hB : zByt n fl B) (h : a + k ≤ n) : fX9_skip (nI n) (nI a) (nI 0) fl (nI k) = some (nI (a + k), nI 0) := by
  have g := zskip_l (k := k) hn (by omega) hB 1000 0 a (by omega) (by omega) (by omega)
  rw [Nat.sub_zero, if_pos h] at g
  exact g
theorem zskipE {n k a : Nat} {fl : Nat → Int32} {B : Nat → Nat} (hn : n ≤ 800) (hk : k ≤ 800) (hB : zByt n fl B) (ha : a ≤ n) (h : n < a + k) : fX9_skip (nI n) (nI a) (nI 0) fl (nI k) = some (nI n, -(nI 2)) := by
  have g := zskip_l (k := k) hn hk hB 1000 0 a (by omega) (by omega) ha
  rw [Nat.sub_zero, if_neg (by omega)] at g
  exact g
theorem zlil_l {n k : Nat} {fb rf : Nat → Int32} {B : Nat → Nat} (hn : n ≤ 800) (hk : k ≤ 4) (hB : zByt n fb B) (hB' : zByt n rf B) : ∀ (m i a : Nat) (v : Int32), i ≤ k → k - i < m → a ≤ n →
    (∃ u, fX7_little_4 m (nI a) (nI n) fb (nI k) v (nI i) = some (0, u, nI (a + (k - i))) ∧ fX9_number_5 m (nI n) (nI a) (nI 0) rf (nI k) (nI 0) v (nI i) = some (u, nI (a + (k - i)), nI 0) ∧ a + (k - i) ≤ n) ∨
    (fX7_little_4 m (nI a) (nI n) fb (nI k) v (nI i) = some (1, nI 0, nI n) ∧ ∃ r, fX9_number_5 m (nI n) (nI a) (nI 0) rf (nI k) (nI 0) v (nI i) = some (r, nI n, -(nI 2))) := by
  intro m
  induction m with
  | zero => intro i a v h1 h2; omega
  | succ m ih =>
    intro i a v h1 h2 h3
    rw [fX7_little_4_s, fX9_number_5_s]
    unfold fX9_number_41
    by_cases q : k ≤ i
    · refine Or.inl ⟨v, ?_, ?_, by omega⟩
      · rw [show a + (k - i) = a by omega]
        simp (disch := omega) only [zlit, nI_lt_nI, nI_le_nI, nI_eq_nI, nI_add, pk_mul, pk_sub, pk_div, zrem_nI, zrd_nI, zwr_nI, zb1_some, zb2_some, zb3_some, zb4_some, zb5_some, zb6_some, zb7_some, zb8_some, zlet_eq, if_pos, if_neg, pk_us, pk_un, true_and, and_true, true_or, or_true, ↓reduceIte]
      · rw [show a + (k - i) = a by omega]
        simp (disch := omega) only [zlit, nI_lt_nI, nI_le_nI, nI_eq_nI, nI_add, pk_mul, pk_sub, pk_div, zrem_nI, zrd_nI, zwr_nI, zb1_some, zb2_some, zb3_some, zb4_some, zb5_some, zb6_some, zb7_some, zb8_some, zlet_eq, if_pos, if_neg, pk_us, pk_un, true_and, and_true, true_or, or_true, ↓reduceIte]
    · by_cases c : a < n
      · have g := ih (i + 1) (a + 1) (v ||| zshl (nI (B a)) (nI (8 * i))) (by omega) (by omega) (by omega)
        rw [show a + 1 + (k - (i + 1)) = a + (k - i) by omega] at g
        simp (disch := omega) only [zlit, nI_lt_nI, nI_le_nI, nI_eq_nI, nI_add, pk_mul, pk_sub, pk_div, zrem_nI, zrd_nI, zwr_nI, zb1_some, zb2_some, zb3_some, zb4_some, zb5_some, zb6_some, zb7_some, zb8_some, zlet_eq, if_pos, if_neg, pk_us, pk_un, true_and, and_true, true_or, or_true, ↓reduceIte, znext8 hn hB, znext9 hn hB']
        exact g
      · have e : n = a := by omega
        obtain ⟨r, g⟩ := znum5F (s := nI n) (a := nI a) (d := nI 0) (fl := rf) zn2 m (i + 1) k (v ||| zshl (nI 0) (nI (8 * i))) (by omega) hk (by omega)
        refine Or.inr ⟨?_, r, ?_⟩
        · simp (disch := omega) only [zlit, nI_lt_nI, nI_le_nI, nI_eq_nI, nI_add, pk_mul, pk_sub, pk_div, zrem_nI, zrd_nI, zwr_nI, zb1_some, zb2_some, zb3_some, zb4_some, zb5_some, zb6_some, zb7_some, zb8_some, zlet_eq, if_pos, if_neg, pk_us, pk_un, true_and, and_true, true_or, or_true, ↓reduceIte, znext8e hn e]
          rw [e]
        · simp (disch := omega) only [zlit, nI_lt_nI, nI_le_nI, nI_eq_nI, nI_add, pk_mul, pk_sub, pk_div, zrem_nI, zrd_nI, zwr_nI, zb1_some, zb2_some, zb3_some, zb4_some, zb5_some, zb6_some, zb7_some, zb8_some, zlet_eq, if_pos, if_neg, pk_us, pk_un, true_and, and_true, true_or, or_true, ↓reduceIte, znext9e hn e]
          rw [e]
          rw [e] at g
          exact g
theorem zlil {n k a : Nat} {fb rf : Nat → Int32} {B : Nat → Nat} (hn : n ≤ 800) (hk : k ≤ 4) (hB : zByt n fb B) (hB' : zByt n rf B) (ha : a ≤ n) :
    (∃ u, fX7_little (nI a) (nI n) fb (nI k) = some (0, u, nI (a + k)) ∧ fX9_number (nI n) (nI a) (nI 0) rf (nI k) (nI 0) = some (u, nI (a + k), nI 0) ∧ a + k ≤ n) ∨
    (fX7_little (nI a) (nI n) fb (nI k) = some (1, nI 0, nI n) ∧ ∃ r, fX9_number (nI n) (nI a) (nI 0) rf (nI k) (nI 0) = some (r, nI n, -(nI 2))) := by
  have g := zlil_l hn hk hB hB' 1000 0 a (nI 0) (by omega) (by omega) ha
  rw [Nat.sub_zero] at g
  exact g
theorem zbig_l {n k : Nat} {fb rf : Nat → Int32} {B : Nat → Nat} (hn : n ≤ 800) (hk : k ≤ 4) (hB : zByt n fb B) (hB' : zByt n rf B) : ∀ (m i a : Nat) (v : Int32), i ≤ k → k - i < m → a ≤ n →
    (∃ u, fX7_big_4 m (nI a) (nI n) fb (nI k) v (nI i) = some (0, u, nI (a + (k - i))) ∧ fX9_number_5 m (nI n) (nI a) (nI 0) rf (nI k) (nI 1) v (nI i) = some (u, nI (a + (k - i)), nI 0) ∧ a + (k - i) ≤ n) ∨
    (fX7_big_4 m (nI a) (nI n) fb (nI k) v (nI i) = some (1, nI 0, nI n) ∧ ∃ r, fX9_number_5 m (nI n) (nI a) (nI 0) rf (nI k) (nI 1) v (nI i) = some (r, nI n, -(nI 2))) := by
  intro m
  induction m with
  | zero => intro i a v h1 h2; omega
  | succ m ih =>
    intro i a v h1 h2 h3
    rw [fX7_big_4_s, fX9_number_5_s]
    unfold fX9_number_41
    by_cases q : k ≤ i
    · refine Or.inl ⟨v, ?_, ?_, by omega⟩
      · rw [show a + (k - i) = a by omega]
        simp (disch := omega) only [zlit, nI_lt_nI, nI_le_nI, nI_eq_nI, nI_add, pk_mul, pk_sub, pk_div, zrem_nI, zrd_nI, zwr_nI, zb1_some, zb2_some, zb3_some, zb4_some, zb5_some, zb6_some, zb7_some, zb8_some, zlet_eq, if_pos, if_neg, pk_us, pk_un, true_and, and_true, true_or, or_true, ↓reduceIte]
      · rw [show a + (k - i) = a by omega]
        simp (disch := omega) only [zlit, nI_lt_nI, nI_le_nI, nI_eq_nI, nI_add, pk_mul, pk_sub, pk_div, zrem_nI, zrd_nI, zwr_nI, zb1_some, zb2_some, zb3_some, zb4_some, zb5_some, zb6_some, zb7_some, zb8_some, zlet_eq, if_pos, if_neg, pk_us, pk_un, true_and, and_true, true_or, or_true, ↓reduceIte]
    · by_cases c : a < n
      · have g := ih (i + 1) (a + 1) (zshl v (nI 8) ||| nI (B a)) (by omega) (by omega) (by omega)
        rw [show a + 1 + (k - (i + 1)) = a + (k - i) by omega] at g
        simp (disch := omega) only [zlit, nI_lt_nI, nI_le_nI, nI_eq_nI, nI_add, pk_mul, pk_sub, pk_div, zrem_nI, zrd_nI, zwr_nI, zb1_some, zb2_some, zb3_some, zb4_some, zb5_some, zb6_some, zb7_some, zb8_some, zlet_eq, if_pos, if_neg, pk_us, pk_un, true_and, and_true, true_or, or_true, ↓reduceIte, znext8 hn hB, znext9 hn hB']
        exact g
      · have e : n = a := by omega
        obtain ⟨r, g⟩ := znum5F (s := nI n) (a := nI a) (d := nI 1) (fl := rf) zn2 m (i + 1) k (zshl v (nI 8) ||| nI 0) (by omega) hk (by omega)
        refine Or.inr ⟨?_, r, ?_⟩
        · simp (disch := omega) only [zlit, nI_lt_nI, nI_le_nI, nI_eq_nI, nI_add, pk_mul, pk_sub, pk_div, zrem_nI, zrd_nI, zwr_nI, zb1_some, zb2_some, zb3_some, zb4_some, zb5_some, zb6_some, zb7_some, zb8_some, zlet_eq, if_pos, if_neg, pk_us, pk_un, true_and, and_true, true_or, or_true, ↓reduceIte, znext8e hn e]
          rw [e]
        · simp (disch := omega) only [zlit, nI_lt_nI, nI_le_nI, nI_eq_nI, nI_add, pk_mul, pk_sub, pk_div, zrem_nI, zrd_nI, zwr_nI, zb1_some, zb2_some, zb3_some, zb4_some, zb5_some, zb6_some, zb7_some, zb8_some, zlet_eq, if_pos, if_neg, pk_us, pk_un, true_and, and_true, true_or, or_true, ↓reduceIte, znext9e hn e]
          rw [e]
          rw [e] at g
          exact g
theorem zbig {n k a : Nat} {fb rf : Nat → Int32} {B : Nat → Nat} (hn : n ≤ 800) (hk : k ≤ 4) (hB : zByt n fb B) (hB' : zByt n rf B) (ha : a ≤ n) :
    (∃ u, fX7_big (nI a) (nI n) fb (nI k) = some (0, u, nI (a + k)) ∧ fX9_number (nI n) (nI a) (nI 0) rf (nI k) (nI 1) = some (u, nI (a + k), nI 0) ∧ a + k ≤ n) ∨
    (fX7_big (nI a) (nI n) fb (nI k) = some (1, nI 0, nI n) ∧ ∃ r, fX9_number (nI n) (nI a) (nI 0) rf (nI k) (nI 1) = some (r, nI n, -(nI 2))) := by
  have g := zbig_l hn hk hB hB' 1000 0 a (nI 0) (by omega) (by omega) ha
  rw [Nat.sub_zero] at g
  exact g
theorem znz_w {α : Type} {w : Nat} {a : Option α} (h1 : 1 ≤ w) (h2 : w < 2 ^ 31) : znz (nI w) a = a := by
  unfold znz
  simp (disch := omega) only [zlit, nI_lt_nI, nI_le_nI, nI_eq_nI, nI_add, pk_mul, pk_sub, pk_div, zrem_nI, zrd_nI, zwr_nI, zb1_some, zb2_some, zb3_some, zb4_some, zb5_some, zb6_some, zb7_some, zb8_some, zlet_eq, if_pos, if_neg, pk_us, pk_un, true_and, and_true, true_or, or_true, ↓reduceIte]
/-- the pixels of a set, class and reference -/
def zPd (w : Nat) (D : Nat → Prop) (dp fr : Nat → Int32) : Prop := ∀ j c, D j → c < 4 → fr (4 * (8 * (j / w) + j % w) + c) = nI (zch (dp j) c)
theorem zset9 {w h k : Nat} {one : Nat → Int32} (hw : w ≤ 8) (hh : h ≤ 8) (hk : k < w * h) : ∀ (n c : Nat) (fr : Nat → Int32), c ≤ 4 → 4 - c < n → ∃ fr', fX9_set_9 n (nI w) fr one (nI k) (nI c) = some fr' ∧ ∀ j, fr' j = if 4 * (8 * (k / w) + k % w) + c ≤ j ∧ j < 4 * (8 * (k / w) + k % w) + 4 then one (j - 4 * (8 * (k / w) + k % w)) else fr j := by
  obtain ⟨d1, d2, d3, d4⟩ := zdm hk
  have hs := zmul64 hw hh
  intro n
  induction n with
  | zero => intro c fr h1 h2; omega
  | succ n ih =>
    intro c fr h1 h2
    rw [fX9_set_9_s]
    by_cases q : 4 ≤ c
    · refine ⟨fr, by simp (disch := omega) only [zlit, nI_lt_nI, nI_le_nI, nI_eq_nI, nI_add, pk_mul, pk_sub, pk_div, zrem_nI, zrd_nI, zwr_nI, zb1_some, zb2_some, zb3_some, zb4_some, zb5_some, zb6_some, zb7_some, zb8_some, zlet_eq, if_pos, if_neg, pk_us, pk_un, true_and, and_true, true_or, or_true, ↓reduceIte], fun j => ?_⟩
      rw [if_neg (by omega)]
    · obtain ⟨fr', e1, e2⟩ := ih (c + 1) (upd fr (4 * (8 * (k / w) + k % w) + c) (one c)) (by omega) (by omega)
      refine ⟨fr', ?_, fun j => ?_⟩
      · simp (disch := omega) only [zlit, nI_lt_nI, nI_le_nI, nI_eq_nI, nI_add, pk_mul, pk_sub, pk_div, zrem_nI, zrd_nI, zwr_nI, zb1_some, zb2_some, zb3_some, zb4_some, zb5_some, zb6_some, zb7_some, zb8_some, zlet_eq, if_pos, if_neg, pk_us, pk_un, true_and, and_true, true_or, or_true, ↓reduceIte, znz_w]
        exact e1
      · rw [e2 j]
        by_cases r : j = 4 * (8 * (k / w) + k % w) + c
        · subst r
          rw [if_neg (by omega), if_pos (by omega), pk_us]
          exact congrArg one (by omega)
        · rw [pk_un r]
          by_cases s : 4 * (8 * (k / w) + k % w) + c ≤ j ∧ j < 4 * (8 * (k / w) + k % w) + 4
          · rw [if_pos (by omega), if_pos s]
          · rw [if_neg (by omega), if_neg s]
theorem zPd_set {w h k : Nat} {one fr : Nat → Int32} {p : Int32} (hw : w ≤ 8) (hh : h ≤ 8) (hk : k < w * h) (ho : zLa p one) : ∃ fr', fX9_set (nI 0) (nI w) fr one (nI k) = some fr' ∧ ∀ (D : Nat → Prop) (dp : Nat → Int32), zPd w D dp fr → zPd w (fun j => D j ∨ j = k) (upd dp k p) fr' := by
  obtain ⟨d1, d2, d3, d4⟩ := zdm hk
  obtain ⟨fr', e1, e2⟩ := zset9 (one := one) hw hh hk 1000 0 fr (by omega) (by omega)
  refine ⟨fr', ?_, fun D dp H j c hj hc => ?_⟩
  · unfold fX9_set
    simp (disch := omega) only [zlit, nI_lt_nI, nI_le_nI, nI_eq_nI, nI_add, pk_mul, pk_sub, pk_div, zrem_nI, zrd_nI, zwr_nI, zb1_some, zb2_some, zb3_some, zb4_some, zb5_some, zb6_some, zb7_some, zb8_some, zlet_eq, if_pos, if_neg, pk_us, pk_un, true_and, and_true, true_or, or_true, ↓reduceIte]
    exact e1
  · rw [e2]
    have hjm : j % w < w := Nat.mod_lt _ d1
    by_cases r : j = k
    · subst r
      rw [if_pos (by omega), pk_us, show 4 * (8 * (j / w) + j % w) + c - 4 * (8 * (j / w) + j % w) = c by omega]
      exact ho c hc
    · have hne : ¬ (8 * (j / w) + j % w = 8 * (k / w) + k % w) := by
        intro z
        have z1 : j / w = k / w := by omega
        have z2 : j % w = k % w := by omega
        apply r
        rw [← Nat.div_add_mod j w, ← Nat.div_add_mod k w, z1, z2]
      rw [if_neg (by omega), pk_un r]
      rcases hj with hj | hj
      · exact H j c hj hc
      · exact absurd hj r
theorem zPd_pic {w h : Nat} {dp fr : Nat → Int32} (H : zPd w (fun j => j < w * h) dp fr) : zPic w h dp fr := by
  intro x y c hx hy hc
  have hj : y * w + x < w * h := by
    have : y * w + w ≤ h * w := by
      rw [← Nat.succ_mul]
      exact Nat.mul_le_mul_right w hy
    rw [Nat.mul_comm w h]
    omega
  have e1 : (y * w + x) / w = y := by
    rw [Nat.mul_comm y w, Nat.mul_add_div (by omega), Nat.div_eq_of_lt hx, Nat.add_zero]
  have e2 : (y * w + x) % w = x := by
    rw [Nat.mul_comm y w, Nat.mul_add_mod, Nat.mod_eq_of_lt hx]
  have := H (y * w + x) c hj hc
  rw [e1, e2] at this
  exact this
theorem zPd_mono {w : Nat} {D E : Nat → Prop} {dp fr : Nat → Int32} (H : zPd w D dp fr) (h : ∀ j, E j → D j) : zPd w E dp fr := fun j c hj hc => H j c (h j hj) hc
/-- the reference has stopped with this fault -/
def zS {α : Type} (F : Int32) (o : Option (Int32 × Int32 × α)) : Prop := ∃ a x, o = some (a, F, x)
theorem zS_mk {α : Type} {F a : Int32} {x : α} : zS F (some (a, F, x)) := ⟨a, x, rfl⟩
theorem zS_ite {α : Type} {F : Int32} {c : Prop} [Decidable c] {A B : Option (Int32 × Int32 × α)} (h1 : zS F A) (h2 : zS F B) : zS F (if c then A else B) := by
  split
  · exact h1
  · exact h2
/-- class and reference have read alike -/
def zJ {γ α : Type} (g : γ → Int32 × Int32 × (Nat → Int32)) (q : α → (Nat → Int32)) (A : Option (Nat × γ)) (B : Option (Int32 × Int32 × Int32 × Int32 × α)) : Prop :=
  (∃ (t : Nat) (x : γ), (t = 1 ∨ t = 2) ∧ A = some (t, x) ∧ zS (zft t) B) ∨ (∃ (x : γ) (a : Int32) (y : α) (w h : Nat) (dp : Nat → Int32), 1 ≤ w ∧ w ≤ 8 ∧ 1 ≤ h ∧ h ≤ 8 ∧ A = some (0, x) ∧ B = some (a, nI 0, nI w, nI h, y) ∧ g x = (nI w, nI h, dp) ∧ zPic w h dp (q y))
theorem zJ1 {γ α : Type} {g : γ → Int32 × Int32 × (Nat → Int32)} {q : α → (Nat → Int32)} {x : γ} {B : Option (Int32 × Int32 × Int32 × Int32 × α)} (h : zS (-(nI 2)) B) : zJ g q (some (1, x)) B := Or.inl ⟨1, x, Or.inl rfl, rfl, h⟩
theorem zJ2 {γ α : Type} {g : γ → Int32 × Int32 × (Nat → Int32)} {q : α → (Nat → Int32)} {x : γ} {B : Option (Int32 × Int32 × Int32 × Int32 × α)} (h : zS (-(nI 3)) B) : zJ g q (some (2, x)) B := Or.inl ⟨2, x, Or.inr rfl, rfl, h⟩
