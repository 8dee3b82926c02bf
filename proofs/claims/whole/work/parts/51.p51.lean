/-! More numbers; sniff. -/
theorem zneg1_ne {k : Nat} (hk : k < 2 ^ 31) : ¬ -(nI 1) = nI k := by
  intro h
  have h1 := congrArg Int32.toInt h
  rw [nI_toInt hk] at h1
  have : (-(nI 1)).toInt = -1 := rfl
  omega
/-- the file's bytes as numbers -/
def zByt (n : Nat) (fb : Nat → Int32) (B : Nat → Nat) : Prop := (∀ i, B i < 256) ∧ ∀ i, i < n → fb i = nI (B i)
theorem zFil_byt {n : Nat} {fb rf : Nat → Int32} (h : zFil n fb rf) : ∃ B : Nat → Nat, zByt n fb B ∧ zByt n rf B := by
  have h1 : ∀ i : Nat, ∃ v : Nat, v < 256 ∧ (i < n → fb i = nI v ∧ rf i = nI v) := by
    intro i
    by_cases hi : i < n
    · obtain ⟨v, hv, e1, e2⟩ := h i hi
      exact ⟨v, hv, fun _ => ⟨e1, e2⟩⟩
    · exact ⟨0, by decide, fun q => absurd q hi⟩
  refine ⟨fun i => (h1 i).choose, ⟨fun i => (h1 i).choose_spec.1, fun i hi => ((h1 i).choose_spec.2 hi).1⟩, ⟨fun i => (h1 i).choose_spec.1, fun i hi => ((h1 i).choose_spec.2 hi).2⟩⟩
theorem zByt_fil {n : Nat} {fb rf : Nat → Int32} {B : Nat → Nat} (h1 : zByt n fb B) (h2 : zByt n rf B) : zFil n fb rf := fun i hi => ⟨B i, h1.1 i, h1.2 i hi, h2.2 i hi⟩
theorem zat {n : Nat} {fb : Nat → Int32} {B : Nat → Nat} (hn : n ≤ 800) (hB : zByt n fb B) (i : Nat) (hi : i < 800) : fX2_at (nI n) fb (nI i) = some (if i < n then nI (B i) else -(nI 1)) := by
  unfold fX2_at
  by_cases h : i < n
  · simp (disch := omega) only [zlit, nI_lt_nI, nI_le_nI, nI_eq_nI, nI_add, pk_mul, pk_sub, pk_div, zrem_nI, zrd_nI, zwr_nI, zb1_some, zb2_some, zb3_some, zb4_some, zb5_some, zb6_some, zb7_some, zb8_some, zlet_eq, if_pos, if_neg, pk_us, pk_un, true_and, and_true, true_or, or_true, ↓reduceIte, hB.2 i h]
  · simp (disch := omega) only [zlit, nI_lt_nI, nI_le_nI, nI_eq_nI, nI_add, pk_mul, pk_sub, pk_div, zrem_nI, zrd_nI, zwr_nI, zb1_some, zb2_some, zb3_some, zb4_some, zb5_some, zb6_some, zb7_some, zb8_some, zlet_eq, if_pos, if_neg, pk_us, pk_un, true_and, and_true, true_or, or_true, ↓reduceIte]
theorem zat_eq {n i k : Nat} {B : Nat → Nat} (hB : ∀ i, B i < 256) (hk : k < 2 ^ 31) : ((if i < n then nI (B i) else -(nI 1)) = nI k) = (i < n ∧ B i = k) := by
  have hb := hB i
  by_cases h : i < n
  · rw [if_pos h, nI_eq_nI (by omega) hk]
    exact propext ⟨fun q => ⟨h, q⟩, fun q => q.2⟩
  · rw [if_neg h]
    exact propext ⟨fun q => absurd q (zneg1_ne hk), fun q => absurd q.1 h⟩
theorem zBeq {B : Nat → Nat} (hB : ∀ i, B i < 256) {i k : Nat} (hk : k < 2 ^ 31) : (nI (B i) = nI k) = (B i = k) := by
  have := hB i
  exact nI_eq_nI (by omega) hk
/-- the format that a file has -/
def zfmt (n : Nat) (B : Nat → Nat) : Int32 :=
  if 4 ≤ n ∧ B 0 = 113 ∧ B 1 = 111 ∧ B 2 = 105 ∧ B 3 = 102 then nI 0
  else if 2 ≤ n ∧ B 0 = 80 ∧ (B 1 = 50 ∨ B 1 = 51 ∨ B 1 = 53 ∨ B 1 = 54) then nI 1
  else if 2 ≤ n ∧ B 0 = 66 ∧ B 1 = 77 then nI 2
  else if 18 ≤ n ∧ B 1 = 0 ∧ (((B 2 = 2 ∨ B 2 = 10) ∧ (B 16 = 24 ∨ B 16 = 32)) ∨ ((B 2 = 3 ∨ B 2 = 11) ∧ B 16 = 8)) then nI 3
  else -(nI 1)
theorem zis1 {n : Nat} {fb : Nat → Int32} {B : Nat → Nat} (hn : n ≤ 800) (hB : zByt n fb B) : fX1_isThatOf (nI n) fb = some (if 4 ≤ n ∧ B 0 = 113 ∧ B 1 = 111 ∧ B 2 = 105 ∧ B 3 = 102 then nI 1 else nI 0) := by
  unfold fX1_isThatOf
  simp (disch := omega) only [zlit, nI_lt_nI, nI_le_nI, nI_eq_nI, nI_add, pk_mul, pk_sub, pk_div, zrem_nI, zrd_nI, zwr_nI, zb1_some, zb2_some, zb3_some, zb4_some, zb5_some, zb6_some, zb7_some, zb8_some, zlet_eq, if_pos, if_neg, pk_us, pk_un, true_and, and_true, true_or, or_true, ↓reduceIte, zat hn hB, zat_eq hB.1]
  repeat' split
  all_goals first | rfl | (exfalso; omega)
theorem zis6 {n : Nat} {fb : Nat → Int32} {B : Nat → Nat} (hn : n ≤ 800) (hB : zByt n fb B) : fX6_isThatOf (nI n) fb = some (if 2 ≤ n ∧ B 0 = 80 ∧ (B 1 = 50 ∨ B 1 = 51 ∨ B 1 = 53 ∨ B 1 = 54) then nI 1 else nI 0) := by
  unfold fX6_isThatOf fX6_isThatOf_40
  simp (disch := omega) only [zlit, nI_lt_nI, nI_le_nI, nI_eq_nI, nI_add, pk_mul, pk_sub, pk_div, zrem_nI, zrd_nI, zwr_nI, zb1_some, zb2_some, zb3_some, zb4_some, zb5_some, zb6_some, zb7_some, zb8_some, zlet_eq, if_pos, if_neg, pk_us, pk_un, true_and, and_true, true_or, or_true, ↓reduceIte, zat hn hB, zat_eq hB.1]
  repeat' split
  all_goals first | rfl | (exfalso; omega)
theorem zis0 {n : Nat} {fb : Nat → Int32} {B : Nat → Nat} (hn : n ≤ 800) (hB : zByt n fb B) : fX0_isThatOf (nI n) fb = some (if 2 ≤ n ∧ B 0 = 66 ∧ B 1 = 77 then nI 1 else nI 0) := by
  unfold fX0_isThatOf
  simp (disch := omega) only [zlit, nI_lt_nI, nI_le_nI, nI_eq_nI, nI_add, pk_mul, pk_sub, pk_div, zrem_nI, zrd_nI, zwr_nI, zb1_some, zb2_some, zb3_some, zb4_some, zb5_some, zb6_some, zb7_some, zb8_some, zlet_eq, if_pos, if_neg, pk_us, pk_un, true_and, and_true, true_or, or_true, ↓reduceIte, zat hn hB, zat_eq hB.1]
  repeat' split
  all_goals first | rfl | (exfalso; omega)
theorem zis4 {n : Nat} {fb : Nat → Int32} {B : Nat → Nat} (hn : n ≤ 800) (hB : zByt n fb B) : fX4_isThatOf (nI n) fb = some (if 18 ≤ n ∧ B 1 = 0 ∧ (((B 2 = 2 ∨ B 2 = 10) ∧ (B 16 = 24 ∨ B 16 = 32)) ∨ ((B 2 = 3 ∨ B 2 = 11) ∧ B 16 = 8)) then nI 1 else nI 0) := by
  unfold fX4_isThatOf fX4_isThatOf_43 fX4_isThatOf_72 fX4_isThatOf_55
  by_cases h : n < 18
  · simp (disch := omega) only [zlit, nI_lt_nI, nI_le_nI, nI_eq_nI, nI_add, pk_mul, pk_sub, pk_div, zrem_nI, zrd_nI, zwr_nI, zb1_some, zb2_some, zb3_some, zb4_some, zb5_some, zb6_some, zb7_some, zb8_some, zlet_eq, if_pos, if_neg, pk_us, pk_un, true_and, and_true, true_or, or_true, ↓reduceIte]
  · simp (disch := omega) only [zlit, nI_lt_nI, nI_le_nI, nI_eq_nI, nI_add, pk_mul, pk_sub, pk_div, zrem_nI, zrd_nI, zwr_nI, zb1_some, zb2_some, zb3_some, zb4_some, zb5_some, zb6_some, zb7_some, zb8_some, zlet_eq, if_pos, if_neg, pk_us, pk_un, true_and, and_true, true_or, or_true, ↓reduceIte, zat hn hB, zat_eq hB.1, zBeq hB.1]
    repeat' split
    all_goals first | rfl | (exfalso; omega)
theorem zb_ite {c : Prop} [Decidable c] {α : Type} {a b : Option α} : (if (if c then nI 1 else nI 0) = nI 0 then a else b) = if c then b else a := by
  by_cases h : c
  · rw [if_pos h, if_pos h, if_neg (by decide)]
  · rw [if_neg h, if_neg h, if_pos rfl]
theorem zsniff8 {n : Nat} {fb : Nat → Int32} {B : Nat → Nat} (hn : n ≤ 800) (hB : zByt n fb B) : fX8_sniff (nI n) fb = some (zfmt n B) := by
  unfold fX8_sniff zfmt
  rw [fX8_sniff_2_s, zis1 hn hB]
  by_cases h1 : 4 ≤ n ∧ B 0 = 113 ∧ B 1 = 111 ∧ B 2 = 105 ∧ B 3 = 102
  · rw [if_pos h1]; simp (disch := omega) only [zlit, nI_lt_nI, nI_le_nI, nI_eq_nI, nI_add, pk_mul, pk_sub, pk_div, zrem_nI, zrd_nI, zwr_nI, zb1_some, zb2_some, zb3_some, zb4_some, zb5_some, zb6_some, zb7_some, zb8_some, zlet_eq, if_pos, if_neg, pk_us, pk_un, true_and, and_true, true_or, or_true, ↓reduceIte, zis1 hn hB, zis6 hn hB, zis0 hn hB, zis4 hn hB]
  · rw [if_neg h1]
    simp (disch := omega) only [zlit, nI_lt_nI, nI_le_nI, nI_eq_nI, nI_add, pk_mul, pk_sub, pk_div, zrem_nI, zrd_nI, zwr_nI, zb1_some, zb2_some, zb3_some, zb4_some, zb5_some, zb6_some, zb7_some, zb8_some, zlet_eq, if_pos, if_neg, pk_us, pk_un, true_and, and_true, true_or, or_true, ↓reduceIte]
    rw [fX8_sniff_2_s, zis1 hn hB, zis6 hn hB]
    by_cases h2 : 2 ≤ n ∧ B 0 = 80 ∧ (B 1 = 50 ∨ B 1 = 51 ∨ B 1 = 53 ∨ B 1 = 54)
    · rw [if_pos h2]; simp (disch := omega) only [zlit, nI_lt_nI, nI_le_nI, nI_eq_nI, nI_add, pk_mul, pk_sub, pk_div, zrem_nI, zrd_nI, zwr_nI, zb1_some, zb2_some, zb3_some, zb4_some, zb5_some, zb6_some, zb7_some, zb8_some, zlet_eq, if_pos, if_neg, pk_us, pk_un, true_and, and_true, true_or, or_true, ↓reduceIte, zis1 hn hB, zis6 hn hB, zis0 hn hB, zis4 hn hB]
    · rw [if_neg h2]
      simp (disch := omega) only [zlit, nI_lt_nI, nI_le_nI, nI_eq_nI, nI_add, pk_mul, pk_sub, pk_div, zrem_nI, zrd_nI, zwr_nI, zb1_some, zb2_some, zb3_some, zb4_some, zb5_some, zb6_some, zb7_some, zb8_some, zlet_eq, if_pos, if_neg, pk_us, pk_un, true_and, and_true, true_or, or_true, ↓reduceIte]
      rw [fX8_sniff_2_s, zis1 hn hB, zis6 hn hB, zis0 hn hB]
      by_cases h3 : 2 ≤ n ∧ B 0 = 66 ∧ B 1 = 77
      · rw [if_pos h3]; simp (disch := omega) only [zlit, nI_lt_nI, nI_le_nI, nI_eq_nI, nI_add, pk_mul, pk_sub, pk_div, zrem_nI, zrd_nI, zwr_nI, zb1_some, zb2_some, zb3_some, zb4_some, zb5_some, zb6_some, zb7_some, zb8_some, zlet_eq, if_pos, if_neg, pk_us, pk_un, true_and, and_true, true_or, or_true, ↓reduceIte, zis1 hn hB, zis6 hn hB, zis0 hn hB, zis4 hn hB]
      · rw [if_neg h3]
        simp (disch := omega) only [zlit, nI_lt_nI, nI_le_nI, nI_eq_nI, nI_add, pk_mul, pk_sub, pk_div, zrem_nI, zrd_nI, zwr_nI, zb1_some, zb2_some, zb3_some, zb4_some, zb5_some, zb6_some, zb7_some, zb8_some, zlet_eq, if_pos, if_neg, pk_us, pk_un, true_and, and_true, true_or, or_true, ↓reduceIte]
        rw [fX8_sniff_2_s, zis1 hn hB, zis6 hn hB, zis0 hn hB, zis4 hn hB]
        by_cases h4 : 18 ≤ n ∧ B 1 = 0 ∧ (((B 2 = 2 ∨ B 2 = 10) ∧ (B 16 = 24 ∨ B 16 = 32)) ∨ ((B 2 = 3 ∨ B 2 = 11) ∧ B 16 = 8))
        · rw [if_pos h4]; simp (disch := omega) only [zlit, nI_lt_nI, nI_le_nI, nI_eq_nI, nI_add, pk_mul, pk_sub, pk_div, zrem_nI, zrd_nI, zwr_nI, zb1_some, zb2_some, zb3_some, zb4_some, zb5_some, zb6_some, zb7_some, zb8_some, zlet_eq, if_pos, if_neg, pk_us, pk_un, true_and, and_true, true_or, or_true, ↓reduceIte, zis1 hn hB, zis6 hn hB, zis0 hn hB, zis4 hn hB]
        · rw [if_neg h4]
          simp (disch := omega) only [zlit, nI_lt_nI, nI_le_nI, nI_eq_nI, nI_add, pk_mul, pk_sub, pk_div, zrem_nI, zrd_nI, zwr_nI, zb1_some, zb2_some, zb3_some, zb4_some, zb5_some, zb6_some, zb7_some, zb8_some, zlet_eq, if_pos, if_neg, pk_us, pk_un, true_and, and_true, true_or, or_true, ↓reduceIte]
          rw [fX8_sniff_2_s]
          simp (disch := omega) only [zlit, nI_lt_nI, nI_le_nI, nI_eq_nI, nI_add, pk_mul, pk_sub, pk_div, zrem_nI, zrd_nI, zwr_nI, zb1_some, zb2_some, zb3_some, zb4_some, zb5_some, zb6_some, zb7_some, zb8_some, zlet_eq, if_pos, if_neg, pk_us, pk_un, true_and, and_true, true_or, or_true, ↓reduceIte]
theorem zrdB {α : Type} {n : Nat} {fb : Nat → Int32} {B : Nat → Nat} {k : Int32 → Option α} (hB : zByt n fb B) (hn : n ≤ 800) (i : Nat) (hi : i < n) : zrd fb 800 (nI i) k = k (nI (B i)) := by
  rw [zrd_nI (by omega) (by decide), hB.2 i hi]
theorem zbegins {n : Nat} {fb : Nat → Int32} {B : Nat → Nat} (hn : n ≤ 800) (hB : zByt n fb B) (a b : Nat) (ha : a < 256) (hb : b < 256) : fX9_begins (nI n) fb (nI a) (nI b) = some (if 2 ≤ n ∧ B 0 = a ∧ B 1 = b then nI 1 else nI 0) := by
  unfold fX9_begins
  by_cases h : n ≤ 1
  · simp (disch := omega) only [zlit, nI_lt_nI, nI_le_nI, nI_eq_nI, nI_add, pk_mul, pk_sub, pk_div, zrem_nI, zrd_nI, zwr_nI, zb1_some, zb2_some, zb3_some, zb4_some, zb5_some, zb6_some, zb7_some, zb8_some, zlet_eq, if_pos, if_neg, pk_us, pk_un, true_and, and_true, true_or, or_true, ↓reduceIte]
  · simp (disch := omega) only [zlit, nI_lt_nI, nI_le_nI, nI_eq_nI, nI_add, pk_mul, pk_sub, pk_div, zrem_nI, zrd_nI, zwr_nI, zb1_some, zb2_some, zb3_some, zb4_some, zb5_some, zb6_some, zb7_some, zb8_some, zlet_eq, if_pos, if_neg, pk_us, pk_un, true_and, and_true, true_or, or_true, ↓reduceIte, hB.2, zBeq hB.1]
    repeat' split
    all_goals first | rfl | (exfalso; omega)
theorem zsniff9_43 {n : Nat} {fb : Nat → Int32} {B : Nat → Nat} (hn : n ≤ 800) (hB : zByt n fb B) : fX9_sniff_43 (nI n) fb = some (if 2 ≤ n ∧ B 0 = 80 ∧ (B 1 = 50 ∨ B 1 = 51 ∨ B 1 = 53 ∨ B 1 = 54) then nI 1
  else if 2 ≤ n ∧ B 0 = 66 ∧ B 1 = 77 then nI 2
  else if 18 ≤ n ∧ B 1 = 0 ∧ (((B 2 = 2 ∨ B 2 = 10) ∧ (B 16 = 24 ∨ B 16 = 32)) ∨ ((B 2 = 3 ∨ B 2 = 11) ∧ B 16 = 8)) then nI 3
  else -(nI 1)) := by
  unfold fX9_sniff_43
  by_cases h : n < 18
  · simp (disch := omega) only [zlit, nI_lt_nI, nI_le_nI, nI_eq_nI, nI_add, pk_mul, pk_sub, pk_div, zrem_nI, zrd_nI, zwr_nI, zb1_some, zb2_some, zb3_some, zb4_some, zb5_some, zb6_some, zb7_some, zb8_some, zlet_eq, if_pos, if_neg, pk_us, pk_un, true_and, and_true, true_or, or_true, ↓reduceIte, zbegins hn hB, zb_ite]
    repeat' split
    all_goals first | rfl | (exfalso; omega)
  · have e43 : fX9_sniff_143 fb = if B 16 = 24 ∨ B 16 = 32 then fX9_sniff_167 fb else fX9_sniff_171 fb := by
      unfold fX9_sniff_143
      simp (disch := omega) only [zlit, nI_lt_nI, nI_le_nI, nI_eq_nI, nI_add, pk_mul, pk_sub, pk_div, zrem_nI, zrd_nI, zwr_nI, zb1_some, zb2_some, zb3_some, zb4_some, zb5_some, zb6_some, zb7_some, zb8_some, zlet_eq, if_pos, if_neg, pk_us, pk_un, true_and, and_true, true_or, or_true, ↓reduceIte, hB.2, zBeq hB.1]
      repeat' split
      all_goals first | rfl | (exfalso; omega)
    have e72 : ∀ k : Int32, fX9_sniff_172 fb k = if (B 2 = 3 ∨ B 2 = 11) ∧ B 16 = 8 then fX9_sniff_211 k 1 else fX9_sniff_211 k 0 := by
      intro k
      unfold fX9_sniff_172 fX9_sniff_194 fX9_sniff_210
      simp (disch := omega) only [zlit, nI_lt_nI, nI_le_nI, nI_eq_nI, nI_add, pk_mul, pk_sub, pk_div, zrem_nI, zrd_nI, zwr_nI, zb1_some, zb2_some, zb3_some, zb4_some, zb5_some, zb6_some, zb7_some, zb8_some, zlet_eq, if_pos, if_neg, pk_us, pk_un, true_and, and_true, true_or, or_true, ↓reduceIte, hB.2, zBeq hB.1]
      repeat' split
      all_goals first | rfl | (exfalso; omega)
    have e211a : fX9_sniff_211 1 1 = some (nI 3) := rfl
    have e211b : fX9_sniff_211 1 0 = some (nI 3) := rfl
    have e211c : fX9_sniff_211 0 1 = some (nI 3) := rfl
    have e211d : fX9_sniff_211 0 0 = some (-(nI 1)) := rfl
    have tail : (zrd fb 800 1 fun x17 => if x17 = 0 then zrd fb 800 2 fun x20 => if x20 = 2 then fX9_sniff_143 fb else zrd fb 800 2 fun x23 => if x23 = 10 then fX9_sniff_143 fb else fX9_sniff_171 fb else some (-1)) = some (if B 1 = 0 ∧ (((B 2 = 2 ∨ B 2 = 10) ∧ (B 16 = 24 ∨ B 16 = 32)) ∨ ((B 2 = 3 ∨ B 2 = 11) ∧ B 16 = 8)) then nI 3 else -(nI 1)) := by
      rw [e43]
      unfold fX9_sniff_167 fX9_sniff_171
      rw [e72, e72, e211a, e211b, e211c, e211d]
      simp (disch := omega) only [zlit, nI_lt_nI, nI_le_nI, nI_eq_nI, nI_add, pk_mul, pk_sub, pk_div, zrem_nI, zrd_nI, zwr_nI, zb1_some, zb2_some, zb3_some, zb4_some, zb5_some, zb6_some, zb7_some, zb8_some, zlet_eq, if_pos, if_neg, pk_us, pk_un, true_and, and_true, true_or, or_true, ↓reduceIte, hB.2, zBeq hB.1]
      repeat' split
      all_goals first | rfl | (exfalso; omega)
    rw [tail]
    simp only [zlit, nI_lt_nI (show n < 2 ^ 31 by omega) (show 18 < 2 ^ 31 by decide), if_neg h, zbegins hn hB 80 50 (by decide) (by decide), zbegins hn hB 80 51 (by decide) (by decide), zbegins hn hB 80 53 (by decide) (by decide), zbegins hn hB 80 54 (by decide) (by decide), zbegins hn hB 66 77 (by decide) (by decide), zb1_some, zb_ite]
    repeat' split
    all_goals first | rfl | (exfalso; omega)
theorem zsniff9 {n : Nat} {fb : Nat → Int32} {B : Nat → Nat} (hn : n ≤ 800) (hB : zByt n fb B) : fX9_sniff (nI n) fb = some (zfmt n B) := by
  unfold fX9_sniff zfmt
  rw [zsniff9_43 hn hB]
  by_cases h : n ≤ 3
  · simp (disch := omega) only [zlit, nI_lt_nI, nI_le_nI, nI_eq_nI, nI_add, pk_mul, pk_sub, pk_div, zrem_nI, zrd_nI, zwr_nI, zb1_some, zb2_some, zb3_some, zb4_some, zb5_some, zb6_some, zb7_some, zb8_some, zlet_eq, if_pos, if_neg, pk_us, pk_un, true_and, and_true, true_or, or_true, ↓reduceIte]
  · simp (disch := omega) only [zlit, nI_lt_nI, nI_le_nI, nI_eq_nI, nI_add, pk_mul, pk_sub, pk_div, zrem_nI, zrd_nI, zwr_nI, zb1_some, zb2_some, zb3_some, zb4_some, zb5_some, zb6_some, zb7_some, zb8_some, zlet_eq, if_pos, if_neg, pk_us, pk_un, true_and, and_true, true_or, or_true, ↓reduceIte, zbegins hn hB, zb_ite, hB.2, zBeq hB.1]
    repeat' split
    all_goals first | rfl | (exfalso; omega)
