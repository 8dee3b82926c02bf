/-! The fourth format's readers. -/
theorem zhi {N : Nat} (hN : N < 2 ^ 32) : nI N &&& -(nI 256) = nI (N / 256 * 256) := by
  apply Int32.toBitVec_inj.mp
  show (nI N).toBitVec &&& (-(nI 256)).toBitVec = (nI (N / 256 * 256)).toBitVec
  have h1 : (-(nI 256)).toBitVec = BitVec.ofNat 32 ((2 ^ 24 - 1) <<< 8) := by decide
  rw [h1]
  apply BitVec.eq_of_toNat_eq
  rw [BitVec.toNat_and, BitVec.toNat_ofNat]
  have h2 : (nI N).toBitVec.toNat = N := ztn hN
  have h3 : (nI (N / 256 * 256)).toBitVec.toNat = N / 256 * 256 := ztn (by omega)
  rw [h2, h3, Nat.mod_eq_of_lt (by decide)]
  apply Nat.eq_of_testBit_eq
  intro i
  rw [Nat.testBit_and, Nat.testBit_shiftLeft, Nat.testBit_two_pow_sub_one]
  rw [show N / 256 * 256 = (N / 2 ^ 8) <<< 8 by rw [Nat.shiftLeft_eq], Nat.testBit_shiftLeft, Nat.testBit_div_two_pow]
  by_cases c : 8 ≤ i
  · rw [decide_eq_true (show i ≥ 8 from c), Bool.true_and, Bool.true_and, show i - 8 + 8 = i by omega]
    by_cases d : i - 8 < 24
    · rw [decide_eq_true d, Bool.and_true]
    · rw [decide_eq_false d, Bool.and_false]
      exact (Nat.testBit_lt_two_pow (Nat.lt_of_lt_of_le hN (Nat.pow_le_pow_right (by decide) (by omega)))).symm
  · rw [decide_eq_false (show ¬ i ≥ 8 from c), Bool.false_and, Bool.and_false, Bool.false_and]
theorem zand15 {v : Nat} (hv : v < 256) : nI v &&& nI 15 = nI (v % 16) := pk_andN (by omega) 4 rfl
theorem zb32 : ∀ v : Fin 64, (nI v.val &&& nI 32 = nI 0) = (v.val / 32 % 2 = 0) := by
  intro v
  apply propext
  revert v
  decide
theorem zb16 : ∀ v : Fin 64, (nI v.val &&& nI 16 = nI 0) = (v.val / 16 % 2 = 0) := by
  intro v
  apply propext
  revert v
  decide
theorem zbgr {n a : Nat} {fb : Nat → Int32} {B : Nat → Nat} (hn : n ≤ 800) (hB : zByt n fb B) (h : a + 3 ≤ n) : fX7_blueGreenRed (nI a) (nI n) fb = some (0, nI (zpk (B (a + 2)) (B (a + 1)) (B a) 255), nI (a + 3)) := by
  have c := zcolour (hB.1 (a + 2)) (hB.1 (a + 1)) (hB.1 a) (show 255 < 256 by decide)
  unfold fX7_blueGreenRed
  simp only [zlit]
  rw [zb3_of (znext8 hn hB (show a < n by omega)), if_pos rfl, zb3_of (znext8 hn hB (show a + 1 < n by omega)), if_pos rfl, zb3_of (znext8 hn hB (show a + 2 < n by omega)), if_pos rfl, zb1_of c]
theorem zbgrE {n a : Nat} {fb : Nat → Int32} {B : Nat → Nat} (hn : n ≤ 800) (hB : zByt n fb B) (ha : a ≤ n) (h : n < a + 3) : ∃ x, fX7_blueGreenRed (nI a) (nI n) fb = some (1, nI 0, x) := by
  unfold fX7_blueGreenRed
  simp only [zlit]
  rcases (show n = a ∨ n = a + 1 ∨ n = a + 2 by omega) with e | e | e
  · exact ⟨_, by rw [zb3_of (znext8e hn e), if_neg (by decide)]⟩
  · exact ⟨_, by rw [zb3_of (znext8 hn hB (show a < n by omega)), if_pos rfl, zb3_of (znext8e hn e), if_neg (by decide)]⟩
  · exact ⟨_, by rw [zb3_of (znext8 hn hB (show a < n by omega)), if_pos rfl, zb3_of (znext8 hn hB (show a + 1 < n by omega)), if_pos rfl, zb3_of (znext8e hn e), if_neg (by decide)]⟩
/-- one pixel of the fourth format, read alike -/
theorem zsmp {n a N : Nat} {fb rf one : Nat → Int32} {B : Nat → Nat} (hn : n ≤ 800) (hB : zByt n fb B) (hB' : zByt n rf B) (ha : a ≤ n) (hN : N = 1 ∨ N = 3 ∨ N = 4) :
    (∃ (p : Int32) (a' : Nat) (one' : Nat → Int32), fX4_readPixel (nI (8 * N)) (nI a) (nI n) fb = some (0, p, nI a') ∧ fX9_sample (nI n) (nI a) (nI 0) rf one (nI N) = some (nI a', nI 0, one') ∧ a' ≤ n ∧ zLa p one') ∨
    (∃ (x : Int32 × Int32) (b : Int32) (one' : Nat → Int32), fX4_readPixel (nI (8 * N)) (nI a) (nI n) fb = some (1, x) ∧ fX9_sample (nI n) (nI a) (nI 0) rf one (nI N) = some (b, -(nI 2), one')) := by
  have b0 := hB.1 a
  have b1 := hB.1 (a + 1)
  have b2 := hB.1 (a + 2)
  have b3 := hB.1 (a + 3)
  have hz : 0 < 256 := by decide
  have hf : 255 < 256 := by decide
  unfold fX4_readPixel fX9_sample fX9_sample_18 fX9_sample_32 fX9_sample_54
  simp only [zlit]
  rcases hN with e | e | e
  · subst e
    rw [show 8 * 1 = 8 from rfl, if_pos rfl]
    by_cases c : a < n
    · obtain ⟨one', t1, t2⟩ := @ztone one _ _ _ _ b0 b0 b0 hf
      have col := zcolour b0 b0 b0 hf
      refine Or.inl ⟨nI (zpk (B a) (B a) (B a) 255), a + 1, one', ?_, ?_, by omega, t2⟩
      · unfold fX8_opaque
        simp (disch := omega) only [zlit, nI_lt_nI, nI_le_nI, nI_eq_nI, nI_add, pk_mul, pk_sub, pk_div, zrem_nI, zrd_nI, zwr_nI, zb1_some, zb2_some, zb3_some, zb4_some, zb5_some, zb6_some, zb7_some, zb8_some, zlet_eq, if_pos, if_neg, pk_us, pk_un, true_and, and_true, true_or, or_true, ↓reduceIte, znext8 hn hB, col]
      · simp (disch := omega) only [zlit, nI_lt_nI, nI_le_nI, nI_eq_nI, nI_add, pk_mul, pk_sub, pk_div, zrem_nI, zrd_nI, zwr_nI, zb1_some, zb2_some, zb3_some, zb4_some, zb5_some, zb6_some, zb7_some, zb8_some, zlet_eq, if_pos, if_neg, pk_us, pk_un, true_and, and_true, true_or, or_true, ↓reduceIte, znext9 hn hB', t1]
    · have e : n = a := by omega
      obtain ⟨one', t1, t2⟩ := @ztone one _ _ _ _ hz hz hz hf
      refine Or.inr ⟨(nI 0, nI a), nI a, one', ?_, ?_⟩
      · simp (disch := omega) only [zlit, nI_lt_nI, nI_le_nI, nI_eq_nI, nI_add, pk_mul, pk_sub, pk_div, zrem_nI, zrd_nI, zwr_nI, zb1_some, zb2_some, zb3_some, zb4_some, zb5_some, zb6_some, zb7_some, zb8_some, zlet_eq, if_pos, if_neg, pk_us, pk_un, true_and, and_true, true_or, or_true, ↓reduceIte, znext8e hn e]
      · simp (disch := omega) only [zlit, nI_lt_nI, nI_le_nI, nI_eq_nI, nI_add, pk_mul, pk_sub, pk_div, zrem_nI, zrd_nI, zwr_nI, zb1_some, zb2_some, zb3_some, zb4_some, zb5_some, zb6_some, zb7_some, zb8_some, zlet_eq, if_pos, if_neg, pk_us, pk_un, true_and, and_true, true_or, or_true, ↓reduceIte, znext9e hn e, t1]
  · subst e
    rw [if_neg (by decide)]
    by_cases c : a + 3 ≤ n
    · obtain ⟨one', t1, t2⟩ := @ztone one _ _ _ _ b2 b1 b0 hf
      refine Or.inl ⟨nI (zpk (B (a + 2)) (B (a + 1)) (B a) 255), a + 3, one', ?_, ?_, c, t2⟩
      · rw [zb3_of (zbgr hn hB c), if_pos rfl, if_neg (by decide)]
      · simp (disch := omega) only [zlit, nI_lt_nI, nI_le_nI, nI_eq_nI, nI_add, pk_mul, pk_sub, pk_div, zrem_nI, zrd_nI, zwr_nI, zb1_some, zb2_some, zb3_some, zb4_some, zb5_some, zb6_some, zb7_some, zb8_some, zlet_eq, if_pos, if_neg, pk_us, pk_un, true_and, and_true, true_or, or_true, ↓reduceIte, znext9 hn hB', t1]
    · obtain ⟨x, ex⟩ := zbgrE hn hB ha (show n < a + 3 by omega)
      rcases (show n = a ∨ n = a + 1 ∨ n = a + 2 by omega) with e | e | e
      · obtain ⟨one', t1, t2⟩ := @ztone one _ _ _ _ hz hz hz hf
        refine Or.inr ⟨(nI 0, x), nI a, one', ?_, ?_⟩
        · rw [zb3_of ex, if_neg (by decide)]
        · simp (disch := omega) only [zlit, nI_lt_nI, nI_le_nI, nI_eq_nI, nI_add, pk_mul, pk_sub, pk_div, zrem_nI, zrd_nI, zwr_nI, zb1_some, zb2_some, zb3_some, zb4_some, zb5_some, zb6_some, zb7_some, zb8_some, zlet_eq, if_pos, if_neg, pk_us, pk_un, true_and, and_true, true_or, or_true, ↓reduceIte, znext9e hn e, znextF zn2, t1]
      · obtain ⟨one', t1, t2⟩ := @ztone one _ _ _ _ hz hz b0 hf
        refine Or.inr ⟨(nI 0, x), nI (a + 1), one', ?_, ?_⟩
        · rw [zb3_of ex, if_neg (by decide)]
        · simp (disch := omega) only [zlit, nI_lt_nI, nI_le_nI, nI_eq_nI, nI_add, pk_mul, pk_sub, pk_div, zrem_nI, zrd_nI, zwr_nI, zb1_some, zb2_some, zb3_some, zb4_some, zb5_some, zb6_some, zb7_some, zb8_some, zlet_eq, if_pos, if_neg, pk_us, pk_un, true_and, and_true, true_or, or_true, ↓reduceIte, znext9 hn hB', znext9e hn e, znextF zn2, t1]
      · obtain ⟨one', t1, t2⟩ := @ztone one _ _ _ _ hz b1 b0 hf
        refine Or.inr ⟨(nI 0, x), nI (a + 2), one', ?_, ?_⟩
        · rw [zb3_of ex, if_neg (by decide)]
        · simp (disch := omega) only [zlit, nI_lt_nI, nI_le_nI, nI_eq_nI, nI_add, pk_mul, pk_sub, pk_div, zrem_nI, zrd_nI, zwr_nI, zb1_some, zb2_some, zb3_some, zb4_some, zb5_some, zb6_some, zb7_some, zb8_some, zlet_eq, if_pos, if_neg, pk_us, pk_un, true_and, and_true, true_or, or_true, ↓reduceIte, znext9 hn hB', znext9e hn e, znextF zn2, t1]
  · subst e
    rw [if_neg (by decide)]
    by_cases c : a + 4 ≤ n
    · obtain ⟨one', t1, t2⟩ := @ztone one _ _ _ _ b2 b1 b0 b3
      refine Or.inl ⟨nI (zpk (B (a + 2)) (B (a + 1)) (B a) (B (a + 3))), a + 4, one', ?_, ?_, c, t2⟩
      · have e1 : zpk (B (a + 2)) (B (a + 1)) (B a) 255 < 2 ^ 32 := by unfold zpk; omega
        have e2 : zpk (B (a + 2)) (B (a + 1)) (B a) 255 / 256 = 256 * (256 * B (a + 2) + B (a + 1)) + B a := by unfold zpk; omega
        have e3 : zpk (B (a + 2)) (B (a + 1)) (B a) (B (a + 3)) = (256 * (256 * B (a + 2) + B (a + 1)) + B a) * 256 + B (a + 3) := by unfold zpk; omega
        rw [zb3_of (zbgr hn hB (show a + 3 ≤ n by omega)), if_pos rfl, if_pos rfl, zb3_of (znext8 hn hB (show a + 3 < n by omega)), if_pos rfl, zlet_eq, zhi e1, e2, e3, zor8 (by omega) b3]
      · simp (disch := omega) only [zlit, nI_lt_nI, nI_le_nI, nI_eq_nI, nI_add, pk_mul, pk_sub, pk_div, zrem_nI, zrd_nI, zwr_nI, zb1_some, zb2_some, zb3_some, zb4_some, zb5_some, zb6_some, zb7_some, zb8_some, zlet_eq, if_pos, if_neg, pk_us, pk_un, true_and, and_true, true_or, or_true, ↓reduceIte, znext9 hn hB', t1]
    · by_cases c3 : a + 3 ≤ n
      · have e : n = a + 3 := by omega
        obtain ⟨one', t1, t2⟩ := @ztone one _ _ _ _ b2 b1 b0 hz
        refine Or.inr ⟨(nI 0, nI (a + 3)), nI (a + 3), one', ?_, ?_⟩
        · rw [zb3_of (zbgr hn hB c3), if_pos rfl, if_pos rfl, zb3_of (znext8e hn e), if_neg (by decide)]
        · simp (disch := omega) only [zlit, nI_lt_nI, nI_le_nI, nI_eq_nI, nI_add, pk_mul, pk_sub, pk_div, zrem_nI, zrd_nI, zwr_nI, zb1_some, zb2_some, zb3_some, zb4_some, zb5_some, zb6_some, zb7_some, zb8_some, zlet_eq, if_pos, if_neg, pk_us, pk_un, true_and, and_true, true_or, or_true, ↓reduceIte, znext9 hn hB', znext9e hn e, t1]
      · obtain ⟨x, ex⟩ := zbgrE hn hB ha (show n < a + 3 by omega)
        rcases (show n = a ∨ n = a + 1 ∨ n = a + 2 by omega) with e | e | e
        · obtain ⟨one', t1, t2⟩ := @ztone one _ _ _ _ hz hz hz hz
          refine Or.inr ⟨(nI 0, x), nI a, one', ?_, ?_⟩
          · rw [zb3_of ex, if_neg (by decide)]
          · simp (disch := omega) only [zlit, nI_lt_nI, nI_le_nI, nI_eq_nI, nI_add, pk_mul, pk_sub, pk_div, zrem_nI, zrd_nI, zwr_nI, zb1_some, zb2_some, zb3_some, zb4_some, zb5_some, zb6_some, zb7_some, zb8_some, zlet_eq, if_pos, if_neg, pk_us, pk_un, true_and, and_true, true_or, or_true, ↓reduceIte, znext9e hn e, znextF zn2, t1]
        · obtain ⟨one', t1, t2⟩ := @ztone one _ _ _ _ hz hz b0 hz
          refine Or.inr ⟨(nI 0, x), nI (a + 1), one', ?_, ?_⟩
          · rw [zb3_of ex, if_neg (by decide)]
          · simp (disch := omega) only [zlit, nI_lt_nI, nI_le_nI, nI_eq_nI, nI_add, pk_mul, pk_sub, pk_div, zrem_nI, zrd_nI, zwr_nI, zb1_some, zb2_some, zb3_some, zb4_some, zb5_some, zb6_some, zb7_some, zb8_some, zlet_eq, if_pos, if_neg, pk_us, pk_un, true_and, and_true, true_or, or_true, ↓reduceIte, znext9 hn hB', znext9e hn e, znextF zn2, t1]
        · obtain ⟨one', t1, t2⟩ := @ztone one _ _ _ _ hz b1 b0 hz
          refine Or.inr ⟨(nI 0, x), nI (a + 2), one', ?_, ?_⟩
          · rw [zb3_of ex, if_neg (by decide)]
          · simp (disch := omega) only [zlit, nI_lt_nI, nI_le_nI, nI_eq_nI, nI_add, pk_mul, pk_sub, pk_div, zrem_nI, zrd_nI, zwr_nI, zb1_some, zb2_some, zb3_some, zb4_some, zb5_some, zb6_some, zb7_some, zb8_some, zlet_eq, if_pos, if_neg, pk_us, pk_un, true_and, and_true, true_or, or_true, ↓reduceIte, znext9 hn hB', znext9e hn e, znextF zn2, t1]
