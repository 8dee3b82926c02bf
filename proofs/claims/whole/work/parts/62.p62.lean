/-! The second format's readers. -/
theorem zgapsF {s a F : Int32} {fl : Nat → Int32} (hF : (F = nI 0) = False) : fX9_gaps s a F fl = some (nI 0, a, F) := by
  unfold fX9_gaps
  rw [fX9_gaps_2_s]
  simp only [zlit, hF, ↓reduceIte]
theorem zdecF {s a F : Int32} {fl : Nat → Int32} (hF : (F = nI 0) = False) : fX9_decimal s a F fl = some (nI 0, a, F) := by
  unfold fX9_decimal
  simp (disch := omega) only [zlit, nI_lt_nI, nI_le_nI, nI_eq_nI, nI_add, pk_mul, pk_sub, pk_div, zrem_nI, zrd_nI, zwr_nI, zb1_some, zb2_some, zb3_some, zb4_some, zb5_some, zb6_some, zb7_some, zb8_some, zlet_eq, if_pos, if_neg, pk_us, pk_un, true_and, and_true, true_or, or_true, ↓reduceIte, zgapsF hF]
  rw [fX9_decimal_9_s]
  unfold fX9_decimal_51 fX9_decimal_79 fX9_decimal_96 fX9_decimal_101
  simp (disch := omega) only [zlit, nI_lt_nI, nI_le_nI, nI_eq_nI, nI_add, pk_mul, pk_sub, pk_div, zrem_nI, zrd_nI, zwr_nI, zb1_some, zb2_some, zb3_some, zb4_some, zb5_some, zb6_some, zb7_some, zb8_some, zlet_eq, if_pos, if_neg, pk_us, pk_un, true_and, and_true, true_or, or_true, ↓reduceIte, hF, zbrokF hF]
theorem zpeek {n a : Nat} {fb : Nat → Int32} {B : Nat → Nat} (hn : n ≤ 800) (hB : zByt n fb B) (h : a < n) : fX7_peek (nI a) (nI n) fb = some (nI (B a)) := by
  unfold fX7_peek
  simp (disch := omega) only [zlit, nI_lt_nI, nI_le_nI, nI_eq_nI, nI_add, pk_mul, pk_sub, pk_div, zrem_nI, zrd_nI, zwr_nI, zb1_some, zb2_some, zb3_some, zb4_some, zb5_some, zb6_some, zb7_some, zb8_some, zlet_eq, if_pos, if_neg, pk_us, pk_un, true_and, and_true, true_or, or_true, ↓reduceIte, zrdB hB hn]
theorem zpeekE {n a : Nat} {fb : Nat → Int32} (hn : n ≤ 800) (h : n = a) : fX7_peek (nI a) (nI n) fb = some (-(nI 1)) := by
  subst h
  unfold fX7_peek
  simp (disch := omega) only [zlit, nI_lt_nI, nI_le_nI, nI_eq_nI, nI_add, pk_mul, pk_sub, pk_div, zrem_nI, zrd_nI, zwr_nI, zb1_some, zb2_some, zb3_some, zb4_some, zb5_some, zb6_some, zb7_some, zb8_some, zlet_eq, if_pos, if_neg, pk_us, pk_un, true_and, and_true, true_or, or_true, ↓reduceIte]
/-- a blank -/
def zsp (v : Nat) : Prop := v = 9 ∨ v = 10 ∨ v = 13 ∨ v = 32
theorem zspY8 {v : Nat} (hv : v < 256) (h : zsp v) : fX6_isSpace (nI v) = some (nI 1) := by
  unfold zsp at h
  unfold fX6_isSpace fX6_isSpace_24
  rcases h with h | h | h | h
  · simp (disch := omega) only [zlit, nI_lt_nI, nI_le_nI, nI_eq_nI, nI_add, pk_mul, pk_sub, pk_div, zrem_nI, zrd_nI, zwr_nI, zb1_some, zb2_some, zb3_some, zb4_some, zb5_some, zb6_some, zb7_some, zb8_some, zlet_eq, if_pos, if_neg, pk_us, pk_un, true_and, and_true, true_or, or_true, ↓reduceIte]
  · simp (disch := omega) only [zlit, nI_lt_nI, nI_le_nI, nI_eq_nI, nI_add, pk_mul, pk_sub, pk_div, zrem_nI, zrd_nI, zwr_nI, zb1_some, zb2_some, zb3_some, zb4_some, zb5_some, zb6_some, zb7_some, zb8_some, zlet_eq, if_pos, if_neg, pk_us, pk_un, true_and, and_true, true_or, or_true, ↓reduceIte]
  · simp (disch := omega) only [zlit, nI_lt_nI, nI_le_nI, nI_eq_nI, nI_add, pk_mul, pk_sub, pk_div, zrem_nI, zrd_nI, zwr_nI, zb1_some, zb2_some, zb3_some, zb4_some, zb5_some, zb6_some, zb7_some, zb8_some, zlet_eq, if_pos, if_neg, pk_us, pk_un, true_and, and_true, true_or, or_true, ↓reduceIte]
  · simp (disch := omega) only [zlit, nI_lt_nI, nI_le_nI, nI_eq_nI, nI_add, pk_mul, pk_sub, pk_div, zrem_nI, zrd_nI, zwr_nI, zb1_some, zb2_some, zb3_some, zb4_some, zb5_some, zb6_some, zb7_some, zb8_some, zlet_eq, if_pos, if_neg, pk_us, pk_un, true_and, and_true, true_or, or_true, ↓reduceIte]
theorem zspN8 {v : Nat} (hv : v < 256) (h : ¬ zsp v) : fX6_isSpace (nI v) = some (nI 0) := by
  unfold zsp at h
  unfold fX6_isSpace fX6_isSpace_24
  simp (disch := omega) only [zlit, nI_lt_nI, nI_le_nI, nI_eq_nI, nI_add, pk_mul, pk_sub, pk_div, zrem_nI, zrd_nI, zwr_nI, zb1_some, zb2_some, zb3_some, zb4_some, zb5_some, zb6_some, zb7_some, zb8_some, zlet_eq, if_pos, if_neg, pk_us, pk_un, true_and, and_true, true_or, or_true, ↓reduceIte]
theorem zspE8 : fX6_isSpace (-(nI 1)) = some (nI 0) := by
  unfold fX6_isSpace fX6_isSpace_24
  simp only [zlit, if_neg (zneg1_ne (show 9 < 2 ^ 31 by decide)), if_neg (zneg1_ne (show 10 < 2 ^ 31 by decide)), if_neg (zneg1_ne (show 13 < 2 ^ 31 by decide)), if_neg (zneg1_ne (show 32 < 2 ^ 31 by decide))]
theorem zspY9 {v : Nat} (hv : v < 256) (h : zsp v) : fX9_space (nI v) = some (nI 1) := by
  unfold zsp at h
  unfold fX9_space fX9_space_24
  rcases h with h | h | h | h
  · simp (disch := omega) only [zlit, nI_lt_nI, nI_le_nI, nI_eq_nI, nI_add, pk_mul, pk_sub, pk_div, zrem_nI, zrd_nI, zwr_nI, zb1_some, zb2_some, zb3_some, zb4_some, zb5_some, zb6_some, zb7_some, zb8_some, zlet_eq, if_pos, if_neg, pk_us, pk_un, true_and, and_true, true_or, or_true, ↓reduceIte]
  · simp (disch := omega) only [zlit, nI_lt_nI, nI_le_nI, nI_eq_nI, nI_add, pk_mul, pk_sub, pk_div, zrem_nI, zrd_nI, zwr_nI, zb1_some, zb2_some, zb3_some, zb4_some, zb5_some, zb6_some, zb7_some, zb8_some, zlet_eq, if_pos, if_neg, pk_us, pk_un, true_and, and_true, true_or, or_true, ↓reduceIte]
  · simp (disch := omega) only [zlit, nI_lt_nI, nI_le_nI, nI_eq_nI, nI_add, pk_mul, pk_sub, pk_div, zrem_nI, zrd_nI, zwr_nI, zb1_some, zb2_some, zb3_some, zb4_some, zb5_some, zb6_some, zb7_some, zb8_some, zlet_eq, if_pos, if_neg, pk_us, pk_un, true_and, and_true, true_or, or_true, ↓reduceIte]
  · simp (disch := omega) only [zlit, nI_lt_nI, nI_le_nI, nI_eq_nI, nI_add, pk_mul, pk_sub, pk_div, zrem_nI, zrd_nI, zwr_nI, zb1_some, zb2_some, zb3_some, zb4_some, zb5_some, zb6_some, zb7_some, zb8_some, zlet_eq, if_pos, if_neg, pk_us, pk_un, true_and, and_true, true_or, or_true, ↓reduceIte]
theorem zspN9 {v : Nat} (hv : v < 256) (h : ¬ zsp v) : fX9_space (nI v) = some (nI 0) := by
  unfold zsp at h
  unfold fX9_space fX9_space_24
  simp (disch := omega) only [zlit, nI_lt_nI, nI_le_nI, nI_eq_nI, nI_add, pk_mul, pk_sub, pk_div, zrem_nI, zrd_nI, zwr_nI, zb1_some, zb2_some, zb3_some, zb4_some, zb5_some, zb6_some, zb7_some, zb8_some, zlet_eq, if_pos, if_neg, pk_us, pk_un, true_and, and_true, true_or, or_true, ↓reduceIte]
theorem zdgY8 {v : Nat} (h : 48 ≤ v ∧ v ≤ 57) : fX6_isDigit (nI v) = some (nI 1) := by
  unfold fX6_isDigit
  simp (disch := omega) only [zlit, nI_lt_nI, nI_le_nI, nI_eq_nI, nI_add, pk_mul, pk_sub, pk_div, zrem_nI, zrd_nI, zwr_nI, zb1_some, zb2_some, zb3_some, zb4_some, zb5_some, zb6_some, zb7_some, zb8_some, zlet_eq, if_pos, if_neg, pk_us, pk_un, true_and, and_true, true_or, or_true, ↓reduceIte]
theorem zdgN8 {v : Nat} (hv : v < 256) (h : ¬ (48 ≤ v ∧ v ≤ 57)) : fX6_isDigit (nI v) = some (nI 0) := by
  unfold fX6_isDigit
  by_cases c : v < 48
  · simp (disch := omega) only [zlit, nI_lt_nI, nI_le_nI, nI_eq_nI, nI_add, pk_mul, pk_sub, pk_div, zrem_nI, zrd_nI, zwr_nI, zb1_some, zb2_some, zb3_some, zb4_some, zb5_some, zb6_some, zb7_some, zb8_some, zlet_eq, if_pos, if_neg, pk_us, pk_un, true_and, and_true, true_or, or_true, ↓reduceIte]
  · simp (disch := omega) only [zlit, nI_lt_nI, nI_le_nI, nI_eq_nI, nI_add, pk_mul, pk_sub, pk_div, zrem_nI, zrd_nI, zwr_nI, zb1_some, zb2_some, zb3_some, zb4_some, zb5_some, zb6_some, zb7_some, zb8_some, zlet_eq, if_pos, if_neg, pk_us, pk_un, true_and, and_true, true_or, or_true, ↓reduceIte]
theorem zdgE8 : fX6_isDigit (-(nI 1)) = some (nI 0) := by
  unfold fX6_isDigit
  rw [if_pos (by decide)]
  rfl
theorem zdgY9 {n a : Nat} {rf : Nat → Int32} {B : Nat → Nat} (hn : n ≤ 800) (hB : zByt n rf B) (h : a < n) (hd : 48 ≤ B a ∧ B a ≤ 57) : fX9_digit (nI n) (nI a) rf = some (nI 1) := by
  unfold fX9_digit
  simp (disch := omega) only [zlit, nI_lt_nI, nI_le_nI, nI_eq_nI, nI_add, pk_mul, pk_sub, pk_div, zrem_nI, zrd_nI, zwr_nI, zb1_some, zb2_some, zb3_some, zb4_some, zb5_some, zb6_some, zb7_some, zb8_some, zlet_eq, if_pos, if_neg, pk_us, pk_un, true_and, and_true, true_or, or_true, ↓reduceIte, zrdB hB hn]
theorem zdgN9 {n a : Nat} {rf : Nat → Int32} {B : Nat → Nat} (hn : n ≤ 800) (hB : zByt n rf B) (h : a < n) (hd : ¬ (48 ≤ B a ∧ B a ≤ 57)) : fX9_digit (nI n) (nI a) rf = some (nI 0) := by
  have bv := hB.1 a
  unfold fX9_digit
  by_cases c : B a < 48
  · simp (disch := omega) only [zlit, nI_lt_nI, nI_le_nI, nI_eq_nI, nI_add, pk_mul, pk_sub, pk_div, zrem_nI, zrd_nI, zwr_nI, zb1_some, zb2_some, zb3_some, zb4_some, zb5_some, zb6_some, zb7_some, zb8_some, zlet_eq, if_pos, if_neg, pk_us, pk_un, true_and, and_true, true_or, or_true, ↓reduceIte, zrdB hB hn]
  · simp (disch := omega) only [zlit, nI_lt_nI, nI_le_nI, nI_eq_nI, nI_add, pk_mul, pk_sub, pk_div, zrem_nI, zrd_nI, zwr_nI, zb1_some, zb2_some, zb3_some, zb4_some, zb5_some, zb6_some, zb7_some, zb8_some, zlet_eq, if_pos, if_neg, pk_us, pk_un, true_and, and_true, true_or, or_true, ↓reduceIte, zrdB hB hn]
theorem zdgE9 {n a : Nat} {rf : Nat → Int32} (hn : n ≤ 800) (h : n = a) : fX9_digit (nI n) (nI a) rf = some (nI 0) := by
  subst h
  unfold fX9_digit
  simp (disch := omega) only [zlit, nI_lt_nI, nI_le_nI, nI_eq_nI, nI_add, pk_mul, pk_sub, pk_div, zrem_nI, zrd_nI, zwr_nI, zb1_some, zb2_some, zb3_some, zb4_some, zb5_some, zb6_some, zb7_some, zb8_some, zlet_eq, if_pos, if_neg, pk_us, pk_un, true_and, and_true, true_or, or_true, ↓reduceIte]
/-- blanks passed alike, from here -/
def zBl (n a0 : Nat) (A B : Option (Nat × Int32 × Int32)) (C : Option (Int32 × Int32 × Int32)) : Prop :=
  (∃ a' c' : Nat, a0 ≤ a' ∧ a' ≤ n ∧ c' ≤ a' - a0 ∧ (a0 < a' → 0 < c') ∧ A = some (0, (if a' ≤ a0 then nI 0 else nI 1), nI a') ∧ C = some (nI c', nI a', nI 0)) ∨ (∃ x y r b, A = some (1, x, y) ∧ C = some (r, b, -(nI 2)))
theorem zbl_l {n a0 : Nat} {fb rf : Nat → Int32} {B : Nat → Nat} (hn : n ≤ 800) (h0 : 1 ≤ a0) (hB : zByt n fb B) (hB' : zByt n rf B) : ∀ (d a : Nat), n - a = d → a0 ≤ a → a ≤ n →
    (∀ f8 f9 c : Nat, d < f8 → d < f9 → c ≤ a - a0 → (a0 < a → 0 < c) → zBl n a0 (fX6_passBlanks_9 f8 (nI a) (nI n) fb (nI a0) (nI 0) (nI (a - a0))) none (fX9_gaps_2 f9 (nI n) (nI a) (nI 0) rf (nI c))) ∧
    (∀ f8 f9 f6 c : Nat, d < f8 → d < f9 → d + 1 < f6 → c ≤ a - a0 → 0 < c → zBl n a0 (fX6_passBlanks_9 f8 (nI a) (nI n) fb (nI a0) (nI 1) (nI (a - a0))) none (fX9_gaps_61 (fX9_gaps_2 f9) f6 (nI n) (nI a) (nI 0) rf (nI c))) := by
  intro d
  induction d with
  | zero =>
    intro a hd h1 h2
    have e : n = a := by omega
    constructor
    · intro f8 f9 c h3 h4 h5 h6
      obtain ⟨f8, rfl⟩ : ∃ m, f8 = m + 1 := ⟨f8 - 1, by omega⟩
      obtain ⟨f9, rfl⟩ : ∃ m, f9 = m + 1 := ⟨f9 - 1, by omega⟩
      rw [fX6_passBlanks_9_s, fX9_gaps_2_s]
      unfold fX6_passBlanks_87
      refine Or.inl ⟨a, c, h1, h2, h5, h6, ?_, ?_⟩
      · have z35 : (-(nI 1) = nI 35) = False := eq_false (zneg1_ne (by decide))
        by_cases q : a ≤ a0
        · simp (disch := omega) only [zlit, nI_lt_nI, nI_le_nI, nI_eq_nI, nI_add, pk_mul, pk_sub, pk_div, zrem_nI, zrd_nI, zwr_nI, zb1_some, zb2_some, zb3_some, zb4_some, zb5_some, zb6_some, zb7_some, zb8_some, zlet_eq, if_pos, if_neg, pk_us, pk_un, true_and, and_true, true_or, or_true, ↓reduceIte, zpeekE hn e, z35, zspE8]
        · simp (disch := omega) only [zlit, nI_lt_nI, nI_le_nI, nI_eq_nI, nI_add, pk_mul, pk_sub, pk_div, zrem_nI, zrd_nI, zwr_nI, zb1_some, zb2_some, zb3_some, zb4_some, zb5_some, zb6_some, zb7_some, zb8_some, zlet_eq, if_pos, if_neg, pk_us, pk_un, true_and, and_true, true_or, or_true, ↓reduceIte, zpeekE hn e, z35, zspE8]
      · simp (disch := omega) only [zlit, nI_lt_nI, nI_le_nI, nI_eq_nI, nI_add, pk_mul, pk_sub, pk_div, zrem_nI, zrd_nI, zwr_nI, zb1_some, zb2_some, zb3_some, zb4_some, zb5_some, zb6_some, zb7_some, zb8_some, zlet_eq, if_pos, if_neg, pk_us, pk_un, true_and, and_true, true_or, or_true, ↓reduceIte]
    · intro f8 f9 f6 c h3 h4 h5 h6 h7
      obtain ⟨f8, rfl⟩ : ∃ m, f8 = m + 1 := ⟨f8 - 1, by omega⟩
      obtain ⟨f9, rfl⟩ : ∃ m, f9 = m + 1 := ⟨f9 - 1, by omega⟩
      obtain ⟨f6, rfl⟩ : ∃ m, f6 = m + 2 := ⟨f6 - 2, by omega⟩
      rw [fX6_passBlanks_9_s, fX9_gaps_61_s]
      unfold fX6_passBlanks_44
      refine Or.inr ⟨nI 0, nI a, nI (c + 1), nI a, ?_, ?_⟩
      · simp (disch := omega) only [zlit, nI_lt_nI, nI_le_nI, nI_eq_nI, nI_add, pk_mul, pk_sub, pk_div, zrem_nI, zrd_nI, zwr_nI, zb1_some, zb2_some, zb3_some, zb4_some, zb5_some, zb6_some, zb7_some, zb8_some, zlet_eq, if_pos, if_neg, pk_us, pk_un, true_and, and_true, true_or, or_true, ↓reduceIte, zpeekE hn e, znext8e hn e]
      · simp (disch := omega) only [zlit, nI_lt_nI, nI_le_nI, nI_eq_nI, nI_add, pk_mul, pk_sub, pk_div, zrem_nI, zrd_nI, zwr_nI, zb1_some, zb2_some, zb3_some, zb4_some, zb5_some, zb6_some, zb7_some, zb8_some, zlet_eq, if_pos, if_neg, pk_us, pk_un, true_and, and_true, true_or, or_true, ↓reduceIte, znext9e hn e]
        rw [fX9_gaps_61_s, fX9_gaps_2_s]
        simp (disch := omega) only [zlit, nI_lt_nI, nI_le_nI, nI_eq_nI, nI_add, pk_mul, pk_sub, pk_div, zrem_nI, zrd_nI, zwr_nI, zb1_some, zb2_some, zb3_some, zb4_some, zb5_some, zb6_some, zb7_some, zb8_some, zlet_eq, if_pos, if_neg, pk_us, pk_un, true_and, and_true, true_or, or_true, ↓reduceIte, zn2]
  | succ d ih =>
    intro a hd h1 h2
    have hlt : a < n := by omega
    have bv := hB.1 a
    obtain ⟨i1, i2⟩ := ih (a + 1) (by omega) (by omega) (by omega)
    constructor
    · intro f8 f9 c h3 h4 h5 h6
      obtain ⟨f8, rfl⟩ : ∃ m, f8 = m + 1 := ⟨f8 - 1, by omega⟩
      obtain ⟨f9, rfl⟩ : ∃ m, f9 = m + 1 := ⟨f9 - 1, by omega⟩
      rw [fX6_passBlanks_9_s, fX9_gaps_2_s]
      unfold fX6_passBlanks_87 fX6_passBlanks_44 fX6_passBlanks_80 fX9_gaps_49
      by_cases c1 : B a = 35
      · have g := i2 f8 f9 1000 (c + 1) (by omega) (by omega) (by omega) (by omega) (by omega)
        rw [show a + 1 - a0 = a - a0 + 1 by omega] at g
        have ns : ¬ zsp 35 := by unfold zsp; decide
        have s9 := zspN9 (show 35 < 256 by decide) ns
        simp (disch := omega) only [zlit, nI_lt_nI, nI_le_nI, nI_eq_nI, nI_add, pk_mul, pk_sub, pk_div, zrem_nI, zrd_nI, zwr_nI, zb1_some, zb2_some, zb3_some, zb4_some, zb5_some, zb6_some, zb7_some, zb8_some, zlet_eq, if_pos, if_neg, pk_us, pk_un, true_and, and_true, true_or, or_true, ↓reduceIte, zpeek hn hB, c1, znext8 hn hB, zrdB hB' hn, s9, znext9 hn hB']
        exact g
      · by_cases c2 : zsp (B a)
        · have g := i1 f8 f9 (c + 1) (by omega) (by omega) (by omega) (by omega)
          rw [show a + 1 - a0 = a - a0 + 1 by omega] at g
          simp (disch := omega) only [zlit, nI_lt_nI, nI_le_nI, nI_eq_nI, nI_add, pk_mul, pk_sub, pk_div, zrem_nI, zrd_nI, zwr_nI, zb1_some, zb2_some, zb3_some, zb4_some, zb5_some, zb6_some, zb7_some, zb8_some, zlet_eq, if_pos, if_neg, pk_us, pk_un, true_and, and_true, true_or, or_true, ↓reduceIte, zpeek hn hB, zspY8 bv c2, znext8 hn hB, zrdB hB' hn, zspY9 bv c2, znext9 hn hB']
          exact g
        · refine Or.inl ⟨a, c, h1, h2, h5, h6, ?_, ?_⟩
          · by_cases q : a ≤ a0
            · simp (disch := omega) only [zlit, nI_lt_nI, nI_le_nI, nI_eq_nI, nI_add, pk_mul, pk_sub, pk_div, zrem_nI, zrd_nI, zwr_nI, zb1_some, zb2_some, zb3_some, zb4_some, zb5_some, zb6_some, zb7_some, zb8_some, zlet_eq, if_pos, if_neg, pk_us, pk_un, true_and, and_true, true_or, or_true, ↓reduceIte, zpeek hn hB, zspN8 bv c2]
            · simp (disch := omega) only [zlit, nI_lt_nI, nI_le_nI, nI_eq_nI, nI_add, pk_mul, pk_sub, pk_div, zrem_nI, zrd_nI, zwr_nI, zb1_some, zb2_some, zb3_some, zb4_some, zb5_some, zb6_some, zb7_some, zb8_some, zlet_eq, if_pos, if_neg, pk_us, pk_un, true_and, and_true, true_or, or_true, ↓reduceIte, zpeek hn hB, zspN8 bv c2]
          · simp (disch := omega) only [zlit, nI_lt_nI, nI_le_nI, nI_eq_nI, nI_add, pk_mul, pk_sub, pk_div, zrem_nI, zrd_nI, zwr_nI, zb1_some, zb2_some, zb3_some, zb4_some, zb5_some, zb6_some, zb7_some, zb8_some, zlet_eq, if_pos, if_neg, pk_us, pk_un, true_and, and_true, true_or, or_true, ↓reduceIte, zrdB hB' hn, zspN9 bv c2]
    · intro f8 f9 f6 c h3 h4 h5 h6 h7
      obtain ⟨f8, rfl⟩ : ∃ m, f8 = m + 1 := ⟨f8 - 1, by omega⟩
      obtain ⟨f6, rfl⟩ : ∃ m, f6 = m + 1 := ⟨f6 - 1, by omega⟩
      rw [fX6_passBlanks_9_s, fX9_gaps_61_s]
      unfold fX6_passBlanks_44 fX6_passBlanks_80
      by_cases c1 : B a = 10
      · have g := i1 f8 f9 c (by omega) (by omega) (by omega) (by omega)
        rw [show a + 1 - a0 = a - a0 + 1 by omega] at g
        simp (disch := omega) only [zlit, nI_lt_nI, nI_le_nI, nI_eq_nI, nI_add, pk_mul, pk_sub, pk_div, zrem_nI, zrd_nI, zwr_nI, zb1_some, zb2_some, zb3_some, zb4_some, zb5_some, zb6_some, zb7_some, zb8_some, zlet_eq, if_pos, if_neg, pk_us, pk_un, true_and, and_true, true_or, or_true, ↓reduceIte, zpeek hn hB, c1, znext8 hn hB, znext9 hn hB']
        exact g
      · have g := i2 f8 f9 f6 (c + 1) (by omega) (by omega) (by omega) (by omega) (by omega)
        rw [show a + 1 - a0 = a - a0 + 1 by omega] at g
        simp (disch := omega) only [zlit, nI_lt_nI, nI_le_nI, nI_eq_nI, nI_add, pk_mul, pk_sub, pk_div, zrem_nI, zrd_nI, zwr_nI, zb1_some, zb2_some, zb3_some, zb4_some, zb5_some, zb6_some, zb7_some, zb8_some, zlet_eq, if_pos, if_neg, pk_us, pk_un, true_and, and_true, true_or, or_true, ↓reduceIte, zpeek hn hB, znext8 hn hB, znext9 hn hB']
        exact g
theorem zbl {n a : Nat} {fb rf : Nat → Int32} {B : Nat → Nat} (hn : n ≤ 800) (h0 : 1 ≤ a) (ha : a ≤ n) (hB : zByt n fb B) (hB' : zByt n rf B) :
    (∃ a' c' : Nat, a ≤ a' ∧ a' ≤ n ∧ c' ≤ a' - a ∧ (a < a' → 0 < c') ∧ fX6_passBlanks (nI a) (nI n) fb = some (0, (if a' ≤ a then nI 0 else nI 1), nI a') ∧ fX9_gaps (nI n) (nI a) (nI 0) rf = some (nI c', nI a', nI 0)) ∨ (∃ x y r b, fX6_passBlanks (nI a) (nI n) fb = some (1, x, y) ∧ fX9_gaps (nI n) (nI a) (nI 0) rf = some (r, b, -(nI 2))) := by
  have g := (zbl_l hn h0 hB hB' (n - a) a rfl (Nat.le_refl a) ha).1 1000 1000 0 (by omega) (by omega) (by omega) (by omega)
  rw [Nat.sub_self] at g
  exact g
/-- digits read alike -/
theorem zdgs {n l : Nat} {fb rf : Nat → Int32} {B : Nat → Nat} (hn : n ≤ 800) (hl : 0 < l) (hl2 : l ≤ 800) (hB : zByt n fb B) (hB' : zByt n rf B) : ∀ (f8 f9 a v c : Nat), 1 ≤ c → c ≤ 4 → 4 - c < f8 → 4 - c < f9 → a ≤ n → v < 10 ^ c →
    (∃ a' v' : Nat, a ≤ a' ∧ a' ≤ n ∧ v' < 10000 ∧ fX6_number_38 f8 (nI a) (nI n) fb (nI v) (nI c) = some (0, nI v', nI a') ∧ fX9_decimal_9 f9 (nI n) (nI a) (nI 0) rf (nI l) (nI v) (nI c) = some (nI v', nI a', nI 0)) ∨
    (∃ x y r b, fX6_number_38 f8 (nI a) (nI n) fb (nI v) (nI c) = some (2, x, y) ∧ fX9_decimal_9 f9 (nI n) (nI a) (nI 0) rf (nI l) (nI v) (nI c) = some (r, b, -(nI 3))) := by
  intro f8
  induction f8 with
  | zero => intro f9 a v c h1 h2 h3; omega
  | succ f8 ih =>
    intro f9 a v c h1 h2 h3 h4 h5 h6
    obtain ⟨f9, rfl⟩ : ∃ m, f9 = m + 1 := ⟨f9 - 1, by omega⟩
    have hv : v < 10000 := Nat.lt_of_lt_of_le h6 (Nat.pow_le_pow_right (by decide) h2)
    rw [fX6_number_38_s, fX9_decimal_9_s]
    unfold fX6_number_73 fX6_number_89 fX9_decimal_51 fX9_decimal_79 fX9_decimal_96 fX9_decimal_100 fX9_decimal_101
    by_cases c1 : a < n
    · have bv := hB.1 a
      by_cases c2 : 48 ≤ B a ∧ B a ≤ 57
      · by_cases c3 : 4 ≤ c
        · have e4 : c = 4 := by omega
          subst e4
          refine Or.inr ⟨nI 0, nI a, nI v, nI a, ?_, ?_⟩
          · simp (disch := omega) only [zlit, nI_lt_nI, nI_le_nI, nI_eq_nI, nI_add, pk_mul, pk_sub, pk_div, zrem_nI, zrd_nI, zwr_nI, zb1_some, zb2_some, zb3_some, zb4_some, zb5_some, zb6_some, zb7_some, zb8_some, zlet_eq, if_pos, if_neg, pk_us, pk_un, true_and, and_true, true_or, or_true, ↓reduceIte, zpeek hn hB, zdgY8 c2, zneed0]
          · simp (disch := omega) only [zlit, nI_lt_nI, nI_le_nI, nI_eq_nI, nI_add, pk_mul, pk_sub, pk_div, zrem_nI, zrd_nI, zwr_nI, zb1_some, zb2_some, zb3_some, zb4_some, zb5_some, zb6_some, zb7_some, zb8_some, zlet_eq, if_pos, if_neg, pk_us, pk_un, true_and, and_true, true_or, or_true, ↓reduceIte, zdgY9 hn hB' c1 c2, zbrok1]
        · have hv2 : v * 10 + B a - 48 < 10 ^ (c + 1) := by
            rw [Nat.pow_succ]
            omega
          have hv3 : v < 1000 := Nat.lt_of_lt_of_le h6 (Nat.pow_le_pow_right (by decide) (show c ≤ 3 by omega))
          have g := ih f9 (a + 1) (v * 10 + B a - 48) (c + 1) (by omega) (by omega) (by omega) (by omega) (by omega) hv2
          simp (disch := omega) only [zlit, nI_lt_nI, nI_le_nI, nI_eq_nI, nI_add, pk_mul, pk_sub, pk_div, zrem_nI, zrd_nI, zwr_nI, zb1_some, zb2_some, zb3_some, zb4_some, zb5_some, zb6_some, zb7_some, zb8_some, zlet_eq, if_pos, if_neg, pk_us, pk_un, true_and, and_true, true_or, or_true, ↓reduceIte, zpeek hn hB, zdgY8 c2, znext8 hn hB, zdgY9 hn hB' c1 c2, znext9 hn hB', Nat.mul_comm 10 v]
          rcases g with ⟨a', v', g1, g2, g3, g4, g5⟩ | g
          · exact Or.inl ⟨a', v', by omega, g2, g3, g4, g5⟩
          · exact Or.inr g
      · refine Or.inl ⟨a, v, Nat.le_refl a, h5, hv, ?_, ?_⟩
        · simp (disch := omega) only [zlit, nI_lt_nI, nI_le_nI, nI_eq_nI, nI_add, pk_mul, pk_sub, pk_div, zrem_nI, zrd_nI, zwr_nI, zb1_some, zb2_some, zb3_some, zb4_some, zb5_some, zb6_some, zb7_some, zb8_some, zlet_eq, if_pos, if_neg, pk_us, pk_un, true_and, and_true, true_or, or_true, ↓reduceIte, zpeek hn hB, zdgN8 bv c2, zneed1, ite_self]
        · simp (disch := omega) only [zlit, nI_lt_nI, nI_le_nI, nI_eq_nI, nI_add, pk_mul, pk_sub, pk_div, zrem_nI, zrd_nI, zwr_nI, zb1_some, zb2_some, zb3_some, zb4_some, zb5_some, zb6_some, zb7_some, zb8_some, zlet_eq, if_pos, if_neg, pk_us, pk_un, true_and, and_true, true_or, or_true, ↓reduceIte, zdgN9 hn hB' c1 c2, zbrok0, ite_self]
    · have e : n = a := by omega
      refine Or.inl ⟨a, v, Nat.le_refl a, h5, hv, ?_, ?_⟩
      · simp (disch := omega) only [zlit, nI_lt_nI, nI_le_nI, nI_eq_nI, nI_add, pk_mul, pk_sub, pk_div, zrem_nI, zrd_nI, zwr_nI, zb1_some, zb2_some, zb3_some, zb4_some, zb5_some, zb6_some, zb7_some, zb8_some, zlet_eq, if_pos, if_neg, pk_us, pk_un, true_and, and_true, true_or, or_true, ↓reduceIte, zpeekE hn e, zdgE8, zneed1, ite_self]
      · simp (disch := omega) only [zlit, nI_lt_nI, nI_le_nI, nI_eq_nI, nI_add, pk_mul, pk_sub, pk_div, zrem_nI, zrd_nI, zwr_nI, zb1_some, zb2_some, zb3_some, zb4_some, zb5_some, zb6_some, zb7_some, zb8_some, zlet_eq, if_pos, if_neg, pk_us, pk_un, true_and, and_true, true_or, or_true, ↓reduceIte, zdgE9 hn e, zbrok0, ite_self]
theorem zdec {n a : Nat} {fb rf : Nat → Int32} {B : Nat → Nat} (hn : n ≤ 800) (h0 : 1 ≤ a) (ha : a ≤ n) (hB : zByt n fb B) (hB' : zByt n rf B) :
    (∃ a' v : Nat, a ≤ a' ∧ a' ≤ n ∧ v < 10000 ∧ fX6_number (nI a) (nI n) fb = some (0, nI v, nI a') ∧ fX9_decimal (nI n) (nI a) (nI 0) rf = some (nI v, nI a', nI 0)) ∨
    (∃ (t : Nat) (x y r b : Int32), (t = 1 ∨ t = 2) ∧ fX6_number (nI a) (nI n) fb = some (t, x, y) ∧ fX9_decimal (nI n) (nI a) (nI 0) rf = some (r, b, zft t)) := by
  unfold fX6_number fX9_decimal
  rcases zbl hn h0 ha hB hB' with ⟨a1, c1, q1, q2, q3, q4, e1, e2⟩ | ⟨x, y, r, b, e1, e2⟩
  · by_cases d : a1 < n
    · have bv := hB.1 a1
      have bad : ∀ z : Int32, (¬ (48 ≤ B a1 ∧ B a1 ≤ 57) ∨ c1 = 0) → ∃ r b, fX9_decimal_9 1000 (nI n) (nI a1) (nI 0) rf (nI c1) (nI 0) (nI 0) = some (r, b, -(nI 3)) := by
        intro z hz
        refine ⟨nI 0, nI a1, ?_⟩
        rw [fX9_decimal_9_s]
        unfold fX9_decimal_51 fX9_decimal_79 fX9_decimal_96 fX9_decimal_101
        by_cases c2 : 48 ≤ B a1 ∧ B a1 ≤ 57
        · have z0 : c1 = 0 := by omega
          simp (disch := omega) only [zlit, nI_lt_nI, nI_le_nI, nI_eq_nI, nI_add, pk_mul, pk_sub, pk_div, zrem_nI, zrd_nI, zwr_nI, zb1_some, zb2_some, zb3_some, zb4_some, zb5_some, zb6_some, zb7_some, zb8_some, zlet_eq, if_pos, if_neg, pk_us, pk_un, true_and, and_true, true_or, or_true, ↓reduceIte, zdgY9 hn hB' d c2, zbrok1, z0]
        · simp (disch := omega) only [zlit, nI_lt_nI, nI_le_nI, nI_eq_nI, nI_add, pk_mul, pk_sub, pk_div, zrem_nI, zrd_nI, zwr_nI, zb1_some, zb2_some, zb3_some, zb4_some, zb5_some, zb6_some, zb7_some, zb8_some, zlet_eq, if_pos, if_neg, pk_us, pk_un, true_and, and_true, true_or, or_true, ↓reduceIte, zdgN9 hn hB' d c2, zbrok1]
      by_cases z : a1 ≤ a
      · obtain ⟨r, b, e3⟩ := bad 0 (Or.inr (by omega))
        refine Or.inr ⟨2, nI 0, nI (a1 + 1), r, b, Or.inr rfl, ?_, ?_⟩
        · rw [if_pos z] at e1
          unfold fX6_number_26 fX6_number_27
          simp (disch := omega) only [zlit, nI_lt_nI, nI_le_nI, nI_eq_nI, nI_add, pk_mul, pk_sub, pk_div, zrem_nI, zrd_nI, zwr_nI, zb1_some, zb2_some, zb3_some, zb4_some, zb5_some, zb6_some, zb7_some, zb8_some, zlet_eq, if_pos, if_neg, pk_us, pk_un, true_and, and_true, true_or, or_true, ↓reduceIte, e1, znext8 hn hB, zneed0]
        · simp (disch := omega) only [zlit, nI_lt_nI, nI_le_nI, nI_eq_nI, nI_add, pk_mul, pk_sub, pk_div, zrem_nI, zrd_nI, zwr_nI, zb1_some, zb2_some, zb3_some, zb4_some, zb5_some, zb6_some, zb7_some, zb8_some, zlet_eq, if_pos, if_neg, pk_us, pk_un, true_and, and_true, true_or, or_true, ↓reduceIte, e2]
          exact e3
      · rw [if_neg z] at e1
        by_cases c2 : 48 ≤ B a1 ∧ B a1 ≤ 57
        · have hc : 0 < c1 := q4 (by omega)
          have g := zdgs (l := c1) hn hc (by omega) hB hB' 1000 999 (a1 + 1) (B a1 - 48) 1 (by omega) (by omega) (by omega) (by omega) (by omega) (by omega)
          have step : fX9_decimal_9 1000 (nI n) (nI a1) (nI 0) rf (nI c1) (nI 0) (nI 0) = fX9_decimal_9 999 (nI n) (nI (a1 + 1)) (nI 0) rf (nI c1) (nI (B a1 - 48)) (nI 1) := by
            rw [fX9_decimal_9_s]
            simp (disch := omega) only [zlit, nI_lt_nI, nI_le_nI, nI_eq_nI, nI_add, pk_mul, pk_sub, pk_div, zrem_nI, zrd_nI, zwr_nI, zb1_some, zb2_some, zb3_some, zb4_some, zb5_some, zb6_some, zb7_some, zb8_some, zlet_eq, if_pos, if_neg, pk_us, pk_un, true_and, and_true, true_or, or_true, ↓reduceIte, zdgY9 hn hB' d c2, znext9 hn hB', Nat.mul_zero, Nat.zero_add]
          rw [← step] at g
          unfold fX6_number_27
          simp (disch := omega) only [zlit, nI_lt_nI, nI_le_nI, nI_eq_nI, nI_add, pk_mul, pk_sub, pk_div, zrem_nI, zrd_nI, zwr_nI, zb1_some, zb2_some, zb3_some, zb4_some, zb5_some, zb6_some, zb7_some, zb8_some, zlet_eq, if_pos, if_neg, pk_us, pk_un, true_and, and_true, true_or, or_true, ↓reduceIte, e1, e2, znext8 hn hB, zdgY8 c2, zneed1]
          rcases g with ⟨a', v', g1, g2, g3, g4, g5⟩ | ⟨x, y, r, b, g4, g5⟩
          · exact Or.inl ⟨a', v', by omega, g2, g3, g4, g5⟩
          · exact Or.inr ⟨2, x, y, r, b, Or.inr rfl, g4, g5⟩
        · obtain ⟨r, b, e3⟩ := bad 0 (Or.inl c2)
          refine Or.inr ⟨2, nI 0, nI (a1 + 1), r, b, Or.inr rfl, ?_, ?_⟩
          · unfold fX6_number_26 fX6_number_27
            simp (disch := omega) only [zlit, nI_lt_nI, nI_le_nI, nI_eq_nI, nI_add, pk_mul, pk_sub, pk_div, zrem_nI, zrd_nI, zwr_nI, zb1_some, zb2_some, zb3_some, zb4_some, zb5_some, zb6_some, zb7_some, zb8_some, zlet_eq, if_pos, if_neg, pk_us, pk_un, true_and, and_true, true_or, or_true, ↓reduceIte, e1, znext8 hn hB, zdgN8 bv c2, zneed0]
          · simp (disch := omega) only [zlit, nI_lt_nI, nI_le_nI, nI_eq_nI, nI_add, pk_mul, pk_sub, pk_div, zrem_nI, zrd_nI, zwr_nI, zb1_some, zb2_some, zb3_some, zb4_some, zb5_some, zb6_some, zb7_some, zb8_some, zlet_eq, if_pos, if_neg, pk_us, pk_un, true_and, and_true, true_or, or_true, ↓reduceIte, e2]
            exact e3
    · have e : n = a1 := by omega
      refine Or.inr ⟨1, nI 0, nI a1, nI 0, nI a1, Or.inl rfl, ?_, ?_⟩
      · simp (disch := omega) only [zlit, nI_lt_nI, nI_le_nI, nI_eq_nI, nI_add, pk_mul, pk_sub, pk_div, zrem_nI, zrd_nI, zwr_nI, zb1_some, zb2_some, zb3_some, zb4_some, zb5_some, zb6_some, zb7_some, zb8_some, zlet_eq, if_pos, if_neg, pk_us, pk_un, true_and, and_true, true_or, or_true, ↓reduceIte, e1, znext8e hn e]
      · simp (disch := omega) only [zlit, nI_lt_nI, nI_le_nI, nI_eq_nI, nI_add, pk_mul, pk_sub, pk_div, zrem_nI, zrd_nI, zwr_nI, zb1_some, zb2_some, zb3_some, zb4_some, zb5_some, zb6_some, zb7_some, zb8_some, zlet_eq, if_pos, if_neg, pk_us, pk_un, true_and, and_true, true_or, or_true, ↓reduceIte, e2]
        rw [fX9_decimal_9_s]
        unfold fX9_decimal_51 fX9_decimal_79 fX9_decimal_96 fX9_decimal_101
        simp (disch := omega) only [zlit, nI_lt_nI, nI_le_nI, nI_eq_nI, nI_add, pk_mul, pk_sub, pk_div, zrem_nI, zrd_nI, zwr_nI, zb1_some, zb2_some, zb3_some, zb4_some, zb5_some, zb6_some, zb7_some, zb8_some, zlet_eq, if_pos, if_neg, pk_us, pk_un, true_and, and_true, true_or, or_true, ↓reduceIte, zdgE9 hn e, zbrokF zn2]
        rfl
  · refine Or.inr ⟨1, nI 0, y, nI 0, b, Or.inl rfl, ?_, ?_⟩
    · simp (disch := omega) only [zlit, nI_lt_nI, nI_le_nI, nI_eq_nI, nI_add, pk_mul, pk_sub, pk_div, zrem_nI, zrd_nI, zwr_nI, zb1_some, zb2_some, zb3_some, zb4_some, zb5_some, zb6_some, zb7_some, zb8_some, zlet_eq, if_pos, if_neg, pk_us, pk_un, true_and, and_true, true_or, or_true, ↓reduceIte, e1]
    · simp (disch := omega) only [zlit, nI_lt_nI, nI_le_nI, nI_eq_nI, nI_add, pk_mul, pk_sub, pk_div, zrem_nI, zrd_nI, zwr_nI, zb1_some, zb2_some, zb3_some, zb4_some, zb5_some, zb6_some, zb7_some, zb8_some, zlet_eq, if_pos, if_neg, pk_us, pk_un, true_and, and_true, true_or, or_true, ↓reduceIte, e2]
      rw [fX9_decimal_9_s]
      unfold fX9_decimal_51 fX9_decimal_79 fX9_decimal_96 fX9_decimal_101
      simp (disch := omega) only [zlit, nI_lt_nI, nI_le_nI, nI_eq_nI, nI_add, pk_mul, pk_sub, pk_div, zrem_nI, zrd_nI, zwr_nI, zb1_some, zb2_some, zb3_some, zb4_some, zb5_some, zb6_some, zb7_some, zb8_some, zlet_eq, if_pos, if_neg, pk_us, pk_un, true_and, and_true, true_or, or_true, ↓reduceIte, zn2, zbrokF zn2]
      rfl
