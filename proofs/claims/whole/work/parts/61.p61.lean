/-! The first format's readers. -/
def zlo (x : Int32) : Nat := x.toBitVec.toNat % 256
theorem zlo_lt (x : Int32) : zlo x < 256 := Nat.mod_lt _ (by decide)
theorem zlo_eq (x : Int32) : x &&& nI 255 = nI (zlo x) := by
  unfold zlo
  have hx := zp_nI x
  have hlt := x.toBitVec.isLt
  generalize x.toBitVec.toNat = u at hx hlt
  rw [hx, zand255 (by omega)]
theorem zLa_pk {r g b a : Nat} {one : Nat → Int32} (hr : r < 256) (hg : g < 256) (hb : b < 256) (ha : a < 256) (h0 : one 0 = nI r) (h1 : one 1 = nI g) (h2 : one 2 = nI b) (h3 : one 3 = nI a) : zLa (nI (zpk r g b a)) one := by
  intro c hc
  rcases (show c = 0 ∨ c = 1 ∨ c = 2 ∨ c = 3 by omega) with e | e | e | e
  · subst e; rw [zch0 hr hg hb ha]; exact h0
  · subst e; rw [zch1 hr hg hb ha]; exact h1
  · subst e; rw [zch2 hr hg hb ha]; exact h2
  · subst e; rw [zch3 hr hg hb ha]; exact h3
theorem ztone {one : Nat → Int32} {r g b a : Nat} (hr : r < 256) (hg : g < 256) (hb : b < 256) (ha : a < 256) : ∃ one', fX9_tone one (nI r) (nI g) (nI b) (nI a) = some one' ∧ zLa (nI (zpk r g b a)) one' := by
  refine ⟨upd (upd (upd (upd one 0 (nI r)) 1 (nI g)) 2 (nI b)) 3 (nI a), ?_, zLa_pk hr hg hb ha ?_ ?_ ?_ ?_⟩
  · unfold fX9_tone
    simp (disch := omega) only [zlit, nI_lt_nI, nI_le_nI, nI_eq_nI, nI_add, pk_mul, pk_sub, pk_div, zrem_nI, zrd_nI, zwr_nI, zb1_some, zb2_some, zb3_some, zb4_some, zb5_some, zb6_some, zb7_some, zb8_some, zlet_eq, if_pos, if_neg, pk_us, pk_un, true_and, and_true, true_or, or_true, ↓reduceIte]
  · simp (disch := omega) only [zlit, nI_lt_nI, nI_le_nI, nI_eq_nI, nI_add, pk_mul, pk_sub, pk_div, zrem_nI, zrd_nI, zwr_nI, zb1_some, zb2_some, zb3_some, zb4_some, zb5_some, zb6_some, zb7_some, zb8_some, zlet_eq, if_pos, if_neg, pk_us, pk_un, true_and, and_true, true_or, or_true, ↓reduceIte]
  · simp (disch := omega) only [zlit, nI_lt_nI, nI_le_nI, nI_eq_nI, nI_add, pk_mul, pk_sub, pk_div, zrem_nI, zrd_nI, zwr_nI, zb1_some, zb2_some, zb3_some, zb4_some, zb5_some, zb6_some, zb7_some, zb8_some, zlet_eq, if_pos, if_neg, pk_us, pk_un, true_and, and_true, true_or, or_true, ↓reduceIte]
  · simp (disch := omega) only [zlit, nI_lt_nI, nI_le_nI, nI_eq_nI, nI_add, pk_mul, pk_sub, pk_div, zrem_nI, zrd_nI, zwr_nI, zb1_some, zb2_some, zb3_some, zb4_some, zb5_some, zb6_some, zb7_some, zb8_some, zlet_eq, if_pos, if_neg, pk_us, pk_un, true_and, and_true, true_or, or_true, ↓reduceIte]
  · simp (disch := omega) only [zlit, nI_lt_nI, nI_le_nI, nI_eq_nI, nI_add, pk_mul, pk_sub, pk_div, zrem_nI, zrd_nI, zwr_nI, zb1_some, zb2_some, zb3_some, zb4_some, zb5_some, zb6_some, zb7_some, zb8_some, zlet_eq, if_pos, if_neg, pk_us, pk_un, true_and, and_true, true_or, or_true, ↓reduceIte]
/-- the last one plus differences -/
def zLp (L u v w : Int32) : Int32 := nI (zpk (zlo (nI (zch L 0) + u)) (zlo (nI (zch L 1) + v)) (zlo (nI (zch L 2) + w)) (zch L 3))
theorem zlp8 {L u v w : Int32} : fX1_lastPlus L u v w = some (zLp L u v w) := by
  unfold fX1_lastPlus
  have c := zcolour (zlo_lt (nI (zch L 0) + u)) (zlo_lt (nI (zch L 1) + v)) (zlo_lt (nI (zch L 2) + w)) (zch_lt L 3)
  simp (disch := omega) only [zlit, nI_lt_nI, nI_le_nI, nI_eq_nI, nI_add, pk_mul, pk_sub, pk_div, zrem_nI, zrd_nI, zwr_nI, zb1_some, zb2_some, zb3_some, zb4_some, zb5_some, zb6_some, zb7_some, zb8_some, zlet_eq, if_pos, if_neg, pk_us, pk_un, true_and, and_true, true_or, or_true, ↓reduceIte, zred, zgreen, zblue, zalpha, zlo_eq, c]
  rfl
theorem zlp9 {L u v w : Int32} {la one : Nat → Int32} (hL : zLa L la) : ∃ one', fX9_reds la one u v w = some one' ∧ zLa (zLp L u v w) one' := by
  obtain ⟨one', e1, e2⟩ := @ztone one _ _ _ _ (zlo_lt (nI (zch L 0) + u)) (zlo_lt (nI (zch L 1) + v)) (zlo_lt (nI (zch L 2) + w)) (zch_lt L 3)
  refine ⟨one', ?_, e2⟩
  unfold fX9_reds
  have l0 := hL 0 (by decide)
  have l1 := hL 1 (by decide)
  have l2 := hL 2 (by decide)
  have l3 := hL 3 (by decide)
  simp (disch := omega) only [zlit, nI_lt_nI, nI_le_nI, nI_eq_nI, nI_add, pk_mul, pk_sub, pk_div, zrem_nI, zrd_nI, zwr_nI, zb1_some, zb2_some, zb3_some, zb4_some, zb5_some, zb6_some, zb7_some, zb8_some, zlet_eq, if_pos, if_neg, pk_us, pk_un, true_and, and_true, true_or, or_true, ↓reduceIte, l0, l1, l2, l3, zlo_eq, e1]
theorem z205 {a f : Int32} {one : Nat → Int32} {P : Nat} (hP : P + 4 ≤ 256) : ∀ (n c : Nat) (tr la : Nat → Int32), c ≤ 4 → 4 - c < n → ∃ tr' la', fX9_chunk_205 n a f tr la one (nI P) (nI c) = some (a, f, tr', la', one) ∧ (∀ j, tr' j = if P + c ≤ j ∧ j < P + 4 then one (j - P) else tr j) ∧ (∀ j, la' j = if c ≤ j ∧ j < 4 then one j else la j) := by
  intro n
  induction n with
  | zero => intro c tr la h1 h2; omega
  | succ n ih =>
    intro c tr la h1 h2
    rw [fX9_chunk_205_s]
    by_cases q : 4 ≤ c
    · refine ⟨tr, la, by simp (disch := omega) only [zlit, nI_lt_nI, nI_le_nI, nI_eq_nI, nI_add, pk_mul, pk_sub, pk_div, zrem_nI, zrd_nI, zwr_nI, zb1_some, zb2_some, zb3_some, zb4_some, zb5_some, zb6_some, zb7_some, zb8_some, zlet_eq, if_pos, if_neg, pk_us, pk_un, true_and, and_true, true_or, or_true, ↓reduceIte], fun j => ?_, fun j => ?_⟩
      · rw [if_neg (by omega)]
      · rw [if_neg (by omega)]
    · obtain ⟨tr', la', e1, e2, e3⟩ := ih (c + 1) (upd tr (P + c) (one c)) (upd la c (one c)) (by omega) (by omega)
      refine ⟨tr', la', ?_, fun j => ?_, fun j => ?_⟩
      · simp (disch := omega) only [zlit, nI_lt_nI, nI_le_nI, nI_eq_nI, nI_add, pk_mul, pk_sub, pk_div, zrem_nI, zrd_nI, zwr_nI, zb1_some, zb2_some, zb3_some, zb4_some, zb5_some, zb6_some, zb7_some, zb8_some, zlet_eq, if_pos, if_neg, pk_us, pk_un, true_and, and_true, true_or, or_true, ↓reduceIte]
        exact e1
      · rw [e2 j]
        by_cases r : j = P + c
        · subst r
          rw [if_neg (by omega), if_pos (by omega), pk_us, show P + c - P = c by omega]
        · rw [pk_un r]
          by_cases s : P + c ≤ j ∧ j < P + 4
          · rw [if_pos (by omega), if_pos (by omega)]
          · rw [if_neg (by omega), if_neg (by omega)]
      · rw [e3 j]
        by_cases r : j = c
        · subst r
          rw [if_neg (by omega), if_pos (by omega), pk_us]
        · rw [pk_un r]
          by_cases s : c ≤ j ∧ j < 4
          · rw [if_pos (by omega), if_pos s]
          · rw [if_neg (by omega), if_neg s]
theorem z173 {a f p : Int32} {tr la one : Nat → Int32} (ho : zLa p one) : ∃ tr' la', fX9_chunk_173 a f tr la one = some (a, f, tr', la', one) ∧ zLa p la' ∧ ∀ tb, zTa tb tr → zTa (upd tb (zpl p) p) tr' := by
  have hp := zpl_lt p
  obtain ⟨tr', la', e1, e2, e3⟩ := @z205 a f one (4 * zpl p) (by omega) 1000 0 tr la (by omega) (by omega)
  refine ⟨tr', la', ?_, fun c hc => ?_, fun tb hT m c hm hc => ?_⟩
  · unfold fX9_chunk_173
    have l0 := ho 0 (by decide)
    have l1 := ho 1 (by decide)
    have l2 := ho 2 (by decide)
    have l3 := ho 3 (by decide)
    simp (disch := omega) only [zlit, nI_lt_nI, nI_le_nI, nI_eq_nI, nI_add, pk_mul, pk_sub, pk_div, zrem_nI, zrd_nI, zwr_nI, zb1_some, zb2_some, zb3_some, zb4_some, zb5_some, zb6_some, zb7_some, zb8_some, zlet_eq, if_pos, if_neg, pk_us, pk_un, true_and, and_true, true_or, or_true, ↓reduceIte, l0, l1, l2, l3, zpl9]
    exact e1
  · rw [e3 c, if_pos (by omega)]
    exact ho c hc
  · rw [e2]
    by_cases q : m = zpl p
    · subst q
      rw [if_pos (by omega), pk_us, show 4 * zpl p + c - 4 * zpl p = c by omega]
      exact ho c hc
    · rw [if_neg (by omega), pk_un q]
      exact hT m c hm hc
theorem zshl8 {n : Nat} (h : n < 2 ^ 24) : zshl (nI n) (nI 8) = nI (n * 256) := zshl_n 8 (by decide) (by omega)
theorem zor8 {a b : Nat} (ha : a < 2 ^ 24) (hb : b < 256) : nI (a * 256) ||| nI b = nI (a * 256 + b) := zor 8 hb (by omega)
theorem zbg3 {n a : Nat} {fb : Nat → Int32} {B : Nat → Nat} (hn : n ≤ 800) (hB : zByt n fb B) (h : a + 3 ≤ n) : fX7_big (nI a) (nI n) fb (nI 3) = some (0, nI (((0 * 256 + B a) * 256 + B (a + 1)) * 256 + B (a + 2)), nI (a + 3)) := by
  have b0 := hB.1 a
  have b1 := hB.1 (a + 1)
  have b2 := hB.1 (a + 2)
  unfold fX7_big
  rw [fX7_big_4_s]
  simp (disch := omega) only [zlit, nI_lt_nI, nI_le_nI, nI_eq_nI, nI_add, pk_mul, pk_sub, pk_div, zrem_nI, zrd_nI, zwr_nI, zb1_some, zb2_some, zb3_some, zb4_some, zb5_some, zb6_some, zb7_some, zb8_some, zlet_eq, if_pos, if_neg, pk_us, pk_un, true_and, and_true, true_or, or_true, ↓reduceIte, znext8 hn hB, zshl8, zor8]
  rw [fX7_big_4_s]
  simp (disch := omega) only [zlit, nI_lt_nI, nI_le_nI, nI_eq_nI, nI_add, pk_mul, pk_sub, pk_div, zrem_nI, zrd_nI, zwr_nI, zb1_some, zb2_some, zb3_some, zb4_some, zb5_some, zb6_some, zb7_some, zb8_some, zlet_eq, if_pos, if_neg, pk_us, pk_un, true_and, and_true, true_or, or_true, ↓reduceIte, znext8 hn hB, zshl8, zor8]
  rw [fX7_big_4_s]
  simp (disch := omega) only [zlit, nI_lt_nI, nI_le_nI, nI_eq_nI, nI_add, pk_mul, pk_sub, pk_div, zrem_nI, zrd_nI, zwr_nI, zb1_some, zb2_some, zb3_some, zb4_some, zb5_some, zb6_some, zb7_some, zb8_some, zlet_eq, if_pos, if_neg, pk_us, pk_un, true_and, and_true, true_or, or_true, ↓reduceIte, znext8 hn hB, zshl8, zor8]
  rw [fX7_big_4_s]
  simp (disch := omega) only [zlit, nI_lt_nI, nI_le_nI, nI_eq_nI, nI_add, pk_mul, pk_sub, pk_div, zrem_nI, zrd_nI, zwr_nI, zb1_some, zb2_some, zb3_some, zb4_some, zb5_some, zb6_some, zb7_some, zb8_some, zlet_eq, if_pos, if_neg, pk_us, pk_un, true_and, and_true, true_or, or_true, ↓reduceIte]
theorem zbg4 {n a : Nat} {fb : Nat → Int32} {B : Nat → Nat} (hn : n ≤ 800) (hB : zByt n fb B) (h : a + 4 ≤ n) : fX7_big (nI a) (nI n) fb (nI 4) = some (0, nI (zpk (B a) (B (a + 1)) (B (a + 2)) (B (a + 3))), nI (a + 4)) := by
  have b0 := hB.1 a
  have b1 := hB.1 (a + 1)
  have b2 := hB.1 (a + 2)
  have b3 := hB.1 (a + 3)
  have e : zpk (B a) (B (a + 1)) (B (a + 2)) (B (a + 3)) = (((0 * 256 + B a) * 256 + B (a + 1)) * 256 + B (a + 2)) * 256 + B (a + 3) := by
    unfold zpk
    omega
  rw [e]
  unfold fX7_big
  rw [fX7_big_4_s]
  simp (disch := omega) only [zlit, nI_lt_nI, nI_le_nI, nI_eq_nI, nI_add, pk_mul, pk_sub, pk_div, zrem_nI, zrd_nI, zwr_nI, zb1_some, zb2_some, zb3_some, zb4_some, zb5_some, zb6_some, zb7_some, zb8_some, zlet_eq, if_pos, if_neg, pk_us, pk_un, true_and, and_true, true_or, or_true, ↓reduceIte, znext8 hn hB, zshl8, zor8, Nat.add_assoc, Nat.reduceAdd]
  rw [fX7_big_4_s]
  simp (disch := omega) only [zlit, nI_lt_nI, nI_le_nI, nI_eq_nI, nI_add, pk_mul, pk_sub, pk_div, zrem_nI, zrd_nI, zwr_nI, zb1_some, zb2_some, zb3_some, zb4_some, zb5_some, zb6_some, zb7_some, zb8_some, zlet_eq, if_pos, if_neg, pk_us, pk_un, true_and, and_true, true_or, or_true, ↓reduceIte, znext8 hn hB, zshl8, zor8, Nat.add_assoc, Nat.reduceAdd]
  rw [fX7_big_4_s]
  simp (disch := omega) only [zlit, nI_lt_nI, nI_le_nI, nI_eq_nI, nI_add, pk_mul, pk_sub, pk_div, zrem_nI, zrd_nI, zwr_nI, zb1_some, zb2_some, zb3_some, zb4_some, zb5_some, zb6_some, zb7_some, zb8_some, zlet_eq, if_pos, if_neg, pk_us, pk_un, true_and, and_true, true_or, or_true, ↓reduceIte, znext8 hn hB, zshl8, zor8, Nat.add_assoc, Nat.reduceAdd]
  rw [fX7_big_4_s]
  simp (disch := omega) only [zlit, nI_lt_nI, nI_le_nI, nI_eq_nI, nI_add, pk_mul, pk_sub, pk_div, zrem_nI, zrd_nI, zwr_nI, zb1_some, zb2_some, zb3_some, zb4_some, zb5_some, zb6_some, zb7_some, zb8_some, zlet_eq, if_pos, if_neg, pk_us, pk_un, true_and, and_true, true_or, or_true, ↓reduceIte, znext8 hn hB, zshl8, zor8, Nat.add_assoc, Nat.reduceAdd]
  rw [fX7_big_4_s]
  simp (disch := omega) only [zlit, nI_lt_nI, nI_le_nI, nI_eq_nI, nI_add, pk_mul, pk_sub, pk_div, zrem_nI, zrd_nI, zwr_nI, zb1_some, zb2_some, zb3_some, zb4_some, zb5_some, zb6_some, zb7_some, zb8_some, zlet_eq, if_pos, if_neg, pk_us, pk_un, true_and, and_true, true_or, or_true, ↓reduceIte]
theorem zbgE {n k a : Nat} {fb : Nat → Int32} {B : Nat → Nat} (hn : n ≤ 800) (hk : k ≤ 4) (hB : zByt n fb B) (ha : a ≤ n) (h : n < a + k) : fX7_big (nI a) (nI n) fb (nI k) = some (1, nI 0, nI n) := by
  rcases zbig hn hk hB hB ha with ⟨u, e1, e2, e3⟩ | ⟨e1, e2⟩
  · omega
  · exact e1
theorem zcp {n a v : Nat} {fb rf tb tr la one : Nat → Int32} {B : Nat → Nat} {L : Int32} (hn : n ≤ 800) (hB : zByt n fb B) (hB' : zByt n rf B) (ha : a ≤ n) (hv : v < 192 ∨ (254 ≤ v ∧ v < 256)) (hL : zLa L la) (hT : zTa tb tr) :
    (∃ (p : Int32) (a' : Nat) (tr' la' one' : Nat → Int32), fX1_readChunk_45 L tb (nI a) (nI n) fb (nI v) = some (0, nI 0, p, upd tb (zpl p) p, nI a') ∧ fX9_chunk (nI n) (nI a) (nI 0) rf tr la one (nI v) = some (nI a', nI 0, tr', la', one') ∧ a' ≤ n ∧ zLa p la' ∧ zTa (upd tb (zpl p) p) tr' ∧ zLa p one') ∨
    (∃ x y tr' la' one', fX1_readChunk_45 L tb (nI a) (nI n) fb (nI v) = some (1, x) ∧ fX9_chunk (nI n) (nI a) (nI 0) rf tr la one (nI v) = some (y, -(nI 2), tr', la', one')) := by
  have b0 := hB.1 a
  have b1 := hB.1 (a + 1)
  have b2 := hB.1 (a + 2)
  have b3 := hB.1 (a + 3)
  have hz : 0 < 256 := by decide
  have ok : ∀ (p : Int32) (a' : Nat), a' ≤ n → fX1_chunkPixel L tb (nI a) (nI n) fb (nI v) = some (0, p, nI a') → (∃ one', zLa p one' ∧ fX9_chunk (nI n) (nI a) (nI 0) rf tr la one (nI v) = fX9_chunk_173 (nI a') (nI 0) tr la one') →
      ∃ (p : Int32) (a' : Nat) (tr' la' one' : Nat → Int32), fX1_readChunk_45 L tb (nI a) (nI n) fb (nI v) = some (0, nI 0, p, upd tb (zpl p) p, nI a') ∧ fX9_chunk (nI n) (nI a) (nI 0) rf tr la one (nI v) = some (nI a', nI 0, tr', la', one') ∧ a' ≤ n ∧ zLa p la' ∧ zTa (upd tb (zpl p) p) tr' ∧ zLa p one' := by
    intro p a' ha' e1 ⟨one', e2, e3⟩
    have hp := zpl_lt p
    obtain ⟨tr', la', e4, e5, e6⟩ := @z173 (nI a') (nI 0) p tr la one' e2
    refine ⟨p, a', tr', la', one', ?_, e3.trans e4, ha', e5, e6 tb hT, e2⟩
    unfold fX1_readChunk_45
    simp (disch := omega) only [zlit, nI_lt_nI, nI_le_nI, nI_eq_nI, nI_add, pk_mul, pk_sub, pk_div, zrem_nI, zrd_nI, zwr_nI, zb1_some, zb2_some, zb3_some, zb4_some, zb5_some, zb6_some, zb7_some, zb8_some, zlet_eq, if_pos, if_neg, pk_us, pk_un, true_and, and_true, true_or, or_true, ↓reduceIte, e1, zpl8]
  have no : ∀ (x y : Int32), fX1_chunkPixel L tb (nI a) (nI n) fb (nI v) = some (1, x, y) → (∃ p one' y', zLa p one' ∧ fX9_chunk (nI n) (nI a) (nI 0) rf tr la one (nI v) = fX9_chunk_173 y' (-(nI 2)) tr la one') →
      ∃ x y tr' la' one', fX1_readChunk_45 L tb (nI a) (nI n) fb (nI v) = some (1, x) ∧ fX9_chunk (nI n) (nI a) (nI 0) rf tr la one (nI v) = some (y, -(nI 2), tr', la', one') := by
    intro x y e1 ⟨p, one', y', e2, e3⟩
    obtain ⟨tr', la', e4, e5, e6⟩ := @z173 y' (-(nI 2)) p tr la one' e2
    refine ⟨(nI 0, L, tb, y), y', tr', la', one', ?_, e3.trans e4⟩
    unfold fX1_readChunk_45
    simp (disch := omega) only [zlit, nI_lt_nI, nI_le_nI, nI_eq_nI, nI_add, pk_mul, pk_sub, pk_div, zrem_nI, zrd_nI, zwr_nI, zb1_some, zb2_some, zb3_some, zb4_some, zb5_some, zb6_some, zb7_some, zb8_some, zlet_eq, if_pos, if_neg, pk_us, pk_un, true_and, and_true, true_or, or_true, ↓reduceIte, e1]
  by_cases c1 : v < 64
  · left
    refine ok (tb v) a ha ?_ ?_
    · unfold fX1_chunkPixel
      simp (disch := omega) only [zlit, nI_lt_nI, nI_le_nI, nI_eq_nI, nI_add, pk_mul, pk_sub, pk_div, zrem_nI, zrd_nI, zwr_nI, zb1_some, zb2_some, zb3_some, zb4_some, zb5_some, zb6_some, zb7_some, zb8_some, zlet_eq, if_pos, if_neg, pk_us, pk_un, true_and, and_true, true_or, or_true, ↓reduceIte]
    · obtain ⟨one', e1, e2⟩ := @ztone one _ _ _ _ (zch_lt (tb v) 0) (zch_lt (tb v) 1) (zch_lt (tb v) 2) (zch_lt (tb v) 3)
      rw [← zch_zpk] at e2
      refine ⟨one', e2, ?_⟩
      have t0 := hT v 0 c1 (by decide)
      have t1 := hT v 1 c1 (by decide)
      have t2 := hT v 2 c1 (by decide)
      have t3 := hT v 3 c1 (by decide)
      rw [Nat.add_zero] at t0
      unfold fX9_chunk
      simp (disch := omega) only [zlit, nI_lt_nI, nI_le_nI, nI_eq_nI, nI_add, pk_mul, pk_sub, pk_div, zrem_nI, zrd_nI, zwr_nI, zb1_some, zb2_some, zb3_some, zb4_some, zb5_some, zb6_some, zb7_some, zb8_some, zlet_eq, if_pos, if_neg, pk_us, pk_un, true_and, and_true, true_or, or_true, ↓reduceIte, t0, t1, t2, t3, e1]
  · by_cases c2 : v < 128
    · left
      refine ok (zLp L (nI (v / 16 % 4) - nI 2) (nI (v / 4 % 4) - nI 2) (nI (v % 4) - nI 2)) a ha ?_ ?_
      · unfold fX1_chunkPixel
        simp (disch := omega) only [zlit, nI_lt_nI, nI_le_nI, nI_eq_nI, nI_add, pk_mul, pk_sub, pk_div, zrem_nI, zrd_nI, zwr_nI, zb1_some, zb2_some, zb3_some, zb4_some, zb5_some, zb6_some, zb7_some, zb8_some, zlet_eq, if_pos, if_neg, pk_us, pk_un, true_and, and_true, true_or, or_true, ↓reduceIte, zlp8]
      · obtain ⟨one', e1, e2⟩ := @zlp9 L (nI (v / 16 % 4) - nI 2) (nI (v / 4 % 4) - nI 2) (nI (v % 4) - nI 2) la one hL
        refine ⟨one', e2, ?_⟩
        unfold fX9_chunk
        simp (disch := omega) only [zlit, nI_lt_nI, nI_le_nI, nI_eq_nI, nI_add, pk_mul, pk_sub, pk_div, zrem_nI, zrd_nI, zwr_nI, zb1_some, zb2_some, zb3_some, zb4_some, zb5_some, zb6_some, zb7_some, zb8_some, zlet_eq, if_pos, if_neg, pk_us, pk_un, true_and, and_true, true_or, or_true, ↓reduceIte, e1]
    · by_cases c3 : v < 192
      · by_cases d : a < n
        · left
          refine ok (zLp L (nI v - nI 160 + nI (B a / 16) - nI 8) (nI v - nI 160) (nI v - nI 160 + nI (B a % 16) - nI 8)) (a + 1) (by omega) ?_ ?_
          · unfold fX1_chunkPixel
            simp (disch := omega) only [zlit, nI_lt_nI, nI_le_nI, nI_eq_nI, nI_add, pk_mul, pk_sub, pk_div, zrem_nI, zrd_nI, zwr_nI, zb1_some, zb2_some, zb3_some, zb4_some, zb5_some, zb6_some, zb7_some, zb8_some, zlet_eq, if_pos, if_neg, pk_us, pk_un, true_and, and_true, true_or, or_true, ↓reduceIte, znext8 hn hB, zlp8]
          · obtain ⟨one', e1, e2⟩ := @zlp9 L (nI v - nI 160 + nI (B a / 16) - nI 8) (nI v - nI 160) (nI v - nI 160 + nI (B a % 16) - nI 8) la one hL
            refine ⟨one', e2, ?_⟩
            unfold fX9_chunk
            simp (disch := omega) only [zlit, nI_lt_nI, nI_le_nI, nI_eq_nI, nI_add, pk_mul, pk_sub, pk_div, zrem_nI, zrd_nI, zwr_nI, zb1_some, zb2_some, zb3_some, zb4_some, zb5_some, zb6_some, zb7_some, zb8_some, zlet_eq, if_pos, if_neg, pk_us, pk_un, true_and, and_true, true_or, or_true, ↓reduceIte, znext9 hn hB', e1]
        · right
          have e : n = a := by omega
          refine no (nI 0) (nI a) ?_ ?_
          · unfold fX1_chunkPixel
            simp (disch := omega) only [zlit, nI_lt_nI, nI_le_nI, nI_eq_nI, nI_add, pk_mul, pk_sub, pk_div, zrem_nI, zrd_nI, zwr_nI, zb1_some, zb2_some, zb3_some, zb4_some, zb5_some, zb6_some, zb7_some, zb8_some, zlet_eq, if_pos, if_neg, pk_us, pk_un, true_and, and_true, true_or, or_true, ↓reduceIte, znext8e hn e]
          · obtain ⟨one', e1, e2⟩ := @zlp9 L (nI v - nI 160 + nI (0 / 16) - nI 8) (nI v - nI 160) (nI v - nI 160 + nI (0 % 16) - nI 8) la one hL
            refine ⟨_, one', nI a, e2, ?_⟩
            unfold fX9_chunk
            simp (disch := omega) only [zlit, nI_lt_nI, nI_le_nI, nI_eq_nI, nI_add, pk_mul, pk_sub, pk_div, zrem_nI, zrd_nI, zwr_nI, zb1_some, zb2_some, zb3_some, zb4_some, zb5_some, zb6_some, zb7_some, zb8_some, zlet_eq, if_pos, if_neg, pk_us, pk_un, true_and, and_true, true_or, or_true, ↓reduceIte, znext9e hn e, e1]
      · have l3 := hL 3 (by decide)
        by_cases c4 : v = 254
        · subst c4
          by_cases d : a + 3 ≤ n
          · left
            have hz3 := zch_lt L 3
            refine ok (nI (zpk (B a) (B (a + 1)) (B (a + 2)) (zch L 3))) (a + 3) d ?_ ?_
            · have e : zpk (B a) (B (a + 1)) (B (a + 2)) (zch L 3) = (((0 * 256 + B a) * 256 + B (a + 1)) * 256 + B (a + 2)) * 256 + zch L 3 := by
                unfold zpk
                omega
              rw [e]
              unfold fX1_chunkPixel
              simp (disch := omega) only [zlit, nI_lt_nI, nI_le_nI, nI_eq_nI, nI_add, pk_mul, pk_sub, pk_div, zrem_nI, zrd_nI, zwr_nI, zb1_some, zb2_some, zb3_some, zb4_some, zb5_some, zb6_some, zb7_some, zb8_some, zlet_eq, if_pos, if_neg, pk_us, pk_un, true_and, and_true, true_or, or_true, ↓reduceIte, zbg3 hn hB, zalpha, zshl8, zor8]
            · obtain ⟨one', e1, e2⟩ := @ztone one _ _ _ _ b0 b1 b2 (zch_lt L 3)
              refine ⟨one', e2, ?_⟩
              unfold fX9_chunk fX9_chunk_48
              simp (disch := omega) only [zlit, nI_lt_nI, nI_le_nI, nI_eq_nI, nI_add, pk_mul, pk_sub, pk_div, zrem_nI, zrd_nI, zwr_nI, zb1_some, zb2_some, zb3_some, zb4_some, zb5_some, zb6_some, zb7_some, zb8_some, zlet_eq, if_pos, if_neg, pk_us, pk_un, true_and, and_true, true_or, or_true, ↓reduceIte, znext9 hn hB', l3, e1]
          · right
            refine no (nI 0) (nI n) ?_ ?_
            · unfold fX1_chunkPixel
              simp (disch := omega) only [zlit, nI_lt_nI, nI_le_nI, nI_eq_nI, nI_add, pk_mul, pk_sub, pk_div, zrem_nI, zrd_nI, zwr_nI, zb1_some, zb2_some, zb3_some, zb4_some, zb5_some, zb6_some, zb7_some, zb8_some, zlet_eq, if_pos, if_neg, pk_us, pk_un, true_and, and_true, true_or, or_true, ↓reduceIte, zbgE hn (by decide) hB ha (show n < a + 3 by omega)]
            · rcases (show n = a ∨ n = a + 1 ∨ n = a + 2 by omega) with e | e | e
              · obtain ⟨one', e1, e2⟩ := @ztone one _ _ _ _ hz hz hz (zch_lt L 3)
                refine ⟨_, one', nI a, e2, ?_⟩
                unfold fX9_chunk fX9_chunk_48
                simp (disch := omega) only [zlit, nI_lt_nI, nI_le_nI, nI_eq_nI, nI_add, pk_mul, pk_sub, pk_div, zrem_nI, zrd_nI, zwr_nI, zb1_some, zb2_some, zb3_some, zb4_some, zb5_some, zb6_some, zb7_some, zb8_some, zlet_eq, if_pos, if_neg, pk_us, pk_un, true_and, and_true, true_or, or_true, ↓reduceIte, znext9e hn e, znextF zn2, l3, e1]
              · obtain ⟨one', e1, e2⟩ := @ztone one _ _ _ _ b0 hz hz (zch_lt L 3)
                refine ⟨_, one', nI (a + 1), e2, ?_⟩
                unfold fX9_chunk fX9_chunk_48
                simp (disch := omega) only [zlit, nI_lt_nI, nI_le_nI, nI_eq_nI, nI_add, pk_mul, pk_sub, pk_div, zrem_nI, zrd_nI, zwr_nI, zb1_some, zb2_some, zb3_some, zb4_some, zb5_some, zb6_some, zb7_some, zb8_some, zlet_eq, if_pos, if_neg, pk_us, pk_un, true_and, and_true, true_or, or_true, ↓reduceIte, znext9 hn hB', znext9e hn e, znextF zn2, l3, e1]
              · obtain ⟨one', e1, e2⟩ := @ztone one _ _ _ _ b0 b1 hz (zch_lt L 3)
                refine ⟨_, one', nI (a + 2), e2, ?_⟩
                unfold fX9_chunk fX9_chunk_48
                simp (disch := omega) only [zlit, nI_lt_nI, nI_le_nI, nI_eq_nI, nI_add, pk_mul, pk_sub, pk_div, zrem_nI, zrd_nI, zwr_nI, zb1_some, zb2_some, zb3_some, zb4_some, zb5_some, zb6_some, zb7_some, zb8_some, zlet_eq, if_pos, if_neg, pk_us, pk_un, true_and, and_true, true_or, or_true, ↓reduceIte, znext9 hn hB', znext9e hn e, znextF zn2, l3, e1]
        · have c5 : v = 255 := by omega
          subst c5
          by_cases d : a + 4 ≤ n
          · left
            refine ok (nI (zpk (B a) (B (a + 1)) (B (a + 2)) (B (a + 3)))) (a + 4) d ?_ ?_
            · unfold fX1_chunkPixel
              simp (disch := omega) only [zlit, nI_lt_nI, nI_le_nI, nI_eq_nI, nI_add, pk_mul, pk_sub, pk_div, zrem_nI, zrd_nI, zwr_nI, zb1_some, zb2_some, zb3_some, zb4_some, zb5_some, zb6_some, zb7_some, zb8_some, zlet_eq, if_pos, if_neg, pk_us, pk_un, true_and, and_true, true_or, or_true, ↓reduceIte, zbg4 hn hB]
            · obtain ⟨one', e1, e2⟩ := @ztone one _ _ _ _ b0 b1 b2 b3
              refine ⟨one', e2, ?_⟩
              unfold fX9_chunk fX9_chunk_48
              simp (disch := omega) only [zlit, nI_lt_nI, nI_le_nI, nI_eq_nI, nI_add, pk_mul, pk_sub, pk_div, zrem_nI, zrd_nI, zwr_nI, zb1_some, zb2_some, zb3_some, zb4_some, zb5_some, zb6_some, zb7_some, zb8_some, zlet_eq, if_pos, if_neg, pk_us, pk_un, true_and, and_true, true_or, or_true, ↓reduceIte, znext9 hn hB', e1]
          · right
            refine no (nI 0) (nI n) ?_ ?_
            · unfold fX1_chunkPixel
              simp (disch := omega) only [zlit, nI_lt_nI, nI_le_nI, nI_eq_nI, nI_add, pk_mul, pk_sub, pk_div, zrem_nI, zrd_nI, zwr_nI, zb1_some, zb2_some, zb3_some, zb4_some, zb5_some, zb6_some, zb7_some, zb8_some, zlet_eq, if_pos, if_neg, pk_us, pk_un, true_and, and_true, true_or, or_true, ↓reduceIte, zbgE hn (by decide) hB ha (show n < a + 4 by omega)]
            · rcases (show n = a ∨ n = a + 1 ∨ n = a + 2 ∨ n = a + 3 by omega) with e | e | e | e
              · obtain ⟨one', e1, e2⟩ := @ztone one _ _ _ _ hz hz hz hz
                refine ⟨_, one', nI a, e2, ?_⟩
                unfold fX9_chunk fX9_chunk_48
                simp (disch := omega) only [zlit, nI_lt_nI, nI_le_nI, nI_eq_nI, nI_add, pk_mul, pk_sub, pk_div, zrem_nI, zrd_nI, zwr_nI, zb1_some, zb2_some, zb3_some, zb4_some, zb5_some, zb6_some, zb7_some, zb8_some, zlet_eq, if_pos, if_neg, pk_us, pk_un, true_and, and_true, true_or, or_true, ↓reduceIte, znext9e hn e, znextF zn2, e1]
              · obtain ⟨one', e1, e2⟩ := @ztone one _ _ _ _ b0 hz hz hz
                refine ⟨_, one', nI (a + 1), e2, ?_⟩
                unfold fX9_chunk fX9_chunk_48
                simp (disch := omega) only [zlit, nI_lt_nI, nI_le_nI, nI_eq_nI, nI_add, pk_mul, pk_sub, pk_div, zrem_nI, zrd_nI, zwr_nI, zb1_some, zb2_some, zb3_some, zb4_some, zb5_some, zb6_some, zb7_some, zb8_some, zlet_eq, if_pos, if_neg, pk_us, pk_un, true_and, and_true, true_or, or_true, ↓reduceIte, znext9 hn hB', znext9e hn e, znextF zn2, e1]
              · obtain ⟨one', e1, e2⟩ := @ztone one _ _ _ _ b0 b1 hz hz
                refine ⟨_, one', nI (a + 2), e2, ?_⟩
                unfold fX9_chunk fX9_chunk_48
                simp (disch := omega) only [zlit, nI_lt_nI, nI_le_nI, nI_eq_nI, nI_add, pk_mul, pk_sub, pk_div, zrem_nI, zrd_nI, zwr_nI, zb1_some, zb2_some, zb3_some, zb4_some, zb5_some, zb6_some, zb7_some, zb8_some, zlet_eq, if_pos, if_neg, pk_us, pk_un, true_and, and_true, true_or, or_true, ↓reduceIte, znext9 hn hB', znext9e hn e, znextF zn2, e1]
              · obtain ⟨one', e1, e2⟩ := @ztone one _ _ _ _ b0 b1 b2 hz
                refine ⟨_, one', nI (a + 3), e2, ?_⟩
                unfold fX9_chunk fX9_chunk_48
                simp (disch := omega) only [zlit, nI_lt_nI, nI_le_nI, nI_eq_nI, nI_add, pk_mul, pk_sub, pk_div, zrem_nI, zrd_nI, zwr_nI, zb1_some, zb2_some, zb3_some, zb4_some, zb5_some, zb6_some, zb7_some, zb8_some, zlet_eq, if_pos, if_neg, pk_us, pk_un, true_and, and_true, true_or, or_true, ↓reduceIte, znext9 hn hB', znext9e hn e, znextF zn2, e1]
/-! the reference once it has a fault -/
theorem zF303 {F a nw nh k : Int32} {fr tr la one : Nat → Int32} (hF : (F = nI 0) = False) : zS F (fX9_readFirst_303 a F nw nh fr tr la one k) := by
  unfold fX9_readFirst_303
  simp (disch := omega) only [zlit, nI_lt_nI, nI_le_nI, nI_eq_nI, nI_add, pk_mul, pk_sub, pk_div, zrem_nI, zrd_nI, zwr_nI, zb1_some, zb2_some, zb3_some, zb4_some, zb5_some, zb6_some, zb7_some, zb8_some, zlet_eq, if_pos, if_neg, pk_us, pk_un, true_and, and_true, true_or, or_true, ↓reduceIte, zbrokF hF]
  exact zS_mk
theorem zF255 {F s a nw nh : Int32} {rf fr tr la one : Nat → Int32} (hF : (F = nI 0) = False) : ∀ (n i : Nat), i ≤ 8 → 8 - i < n → zS F (fX9_readFirst_255 n s a F nw nh rf fr tr la one (nI i)) := by
  intro n
  induction n with
  | zero => intro i h1 h2; omega
  | succ n ih =>
    intro i h1 h2
    rw [fX9_readFirst_255_s]
    by_cases q : 8 ≤ i
    · simp (disch := omega) only [zlit, nI_lt_nI, nI_le_nI, nI_eq_nI, nI_add, pk_mul, pk_sub, pk_div, zrem_nI, zrd_nI, zwr_nI, zb1_some, zb2_some, zb3_some, zb4_some, zb5_some, zb6_some, zb7_some, zb8_some, zlet_eq, if_pos, if_neg, pk_us, pk_un, true_and, and_true, true_or, or_true, ↓reduceIte]
      exact zS_ite (zF303 hF) (zF303 hF)
    · have g := ih (i + 1) (by omega) (by omega)
      unfold fX9_readFirst_277
      simp (disch := omega) only [zlit, nI_lt_nI, nI_le_nI, nI_eq_nI, nI_add, pk_mul, pk_sub, pk_div, zrem_nI, zrd_nI, zwr_nI, zb1_some, zb2_some, zb3_some, zb4_some, zb5_some, zb6_some, zb7_some, zb8_some, zlet_eq, if_pos, if_neg, pk_us, pk_un, true_and, and_true, true_or, or_true, ↓reduceIte, znextF hF, zmustF hF, ite_self]
      exact g
theorem zF80 {F s a nw nh l2 : Int32} {rf fr tr la one : Nat → Int32} {n : Nat} (hF : (F = nI 0) = False) : zS F (fX9_readFirst_80 (n + 1) s a F nw nh rf fr tr la one l2) := by
  have g := zF255 (s := s) (a := a) (nw := nw) (nh := nh) (rf := rf) (fr := fr) (tr := tr) (la := la) (one := one) hF 1000 0 (by omega) (by omega)
  rw [fX9_readFirst_80_s]
  unfold fX9_readFirst_253
  simp only [zlit, hF, ↓reduceIte]
  exact g
theorem zF54 {F s a nw nh k : Int32} {rf fr tr la one : Nat → Int32} (hF : (F = nI 0) = False) : zS F (fX9_readFirst_54 s a F nw nh rf fr tr la one k) := by
  obtain ⟨tr', la', e1, e2, e3⟩ := @zclear tr la tr
  have g := zF80 (s := s) (a := a) (nw := nw) (nh := nh) (l2 := nI 0) (rf := rf) (fr := fr) (tr := tr') (la := la') (one := one) (n := 999) hF
  unfold fX9_readFirst_54 fX9_readFirst_71
  simp (disch := omega) only [zlit, nI_lt_nI, nI_le_nI, nI_eq_nI, nI_add, pk_mul, pk_sub, pk_div, zrem_nI, zrd_nI, zwr_nI, zb1_some, zb2_some, zb3_some, zb4_some, zb5_some, zb6_some, zb7_some, zb8_some, zlet_eq, if_pos, if_neg, pk_us, pk_un, true_and, and_true, true_or, or_true, ↓reduceIte, zbrokF hF, znextF hF, e1]
  exact g
/-! the pixels -/
theorem zrun8 {cnt : Nat} {L pl sz : Int32} {tb fb : Nat → Int32} (hc : cnt ≤ 64) : ∀ (m f k : Nat) (dp : Nat → Int32), k + m ≤ cnt → fX1_readChunks_15 (f + m) L tb pl sz fb dp (nI m) (nI cnt) (nI k) = fX1_readChunks_15 f L tb pl sz fb (fun j => if k ≤ j ∧ j < k + m then L else dp j) (nI 0) (nI cnt) (nI (k + m)) := by
  intro m
  induction m with
  | zero =>
    intro f k dp h
    have e : (fun j => if k ≤ j ∧ j < k + 0 then L else dp j) = dp := by
      funext j
      rw [if_neg (by omega)]
    rw [e]
    rfl
  | succ m ih =>
    intro f k dp h
    have g := ih f (k + 1) (upd dp k L) (by omega)
    have e : (fun j => if k + 1 ≤ j ∧ j < k + 1 + m then L else upd dp k L j) = (fun j => if k ≤ j ∧ j < k + (m + 1) then L else dp j) := by
      funext j
      by_cases r : j = k
      · subst r
        rw [if_neg (by omega), if_pos (by omega), pk_us]
      · rw [pk_un r]
        by_cases s : k ≤ j ∧ j < k + (m + 1)
        · rw [if_pos (by omega), if_pos s]
        · rw [if_neg (by omega), if_neg s]
    rw [e, show k + 1 + m = k + (m + 1) by omega] at g
    rw [← Nat.add_assoc, fX1_readChunks_15_s]
    unfold fX1_readChunks_43
    simp (disch := omega) only [zlit, nI_lt_nI, nI_le_nI, nI_eq_nI, nI_add, pk_mul, pk_sub, pk_div, zrem_nI, zrd_nI, zwr_nI, zb1_some, zb2_some, zb3_some, zb4_some, zb5_some, zb6_some, zb7_some, zb8_some, zlet_eq, if_pos, if_neg, pk_us, pk_un, true_and, and_true, true_or, or_true, ↓reduceIte, zm1_dec, zm1_s]
    exact g
theorem zPd_cong {w : Nat} {D : Nat → Prop} {dp dp' fr : Nat → Int32} (H : zPd w D dp fr) (h : ∀ j, D j → dp j = dp' j) : zPd w D dp' fr := fun j c hj hc => by rw [H j c hj hc, h j hj]
theorem zrun9 {w h m : Nat} {p s a : Int32} {rf tr la one : Nat → Int32} (hw : w ≤ 8) (hh : h ≤ 8) (ho : zLa p one) (rc : Int32 → Int32 → Int32 → Int32 → Int32 → (Nat → Int32) → (Nat → Int32) → (Nat → Int32) → (Nat → Int32) → (Nat → Int32) → Int32 → Option (Int32 × Int32 × Int32 × Int32 × (Nat → Int32) × (Nat → Int32) × (Nat → Int32) × (Nat → Int32))) : ∀ (n c k : Nat) (fr : Nat → Int32), c ≤ m → m - c < n → m < 1000 → k + (m - c) ≤ w * h →
    ∃ fr', fX9_readFirst_222 rc n s a (nI 0) (nI w) (nI h) rf fr tr la one (nI k) (nI m) (nI c) = rc s a (nI 0) (nI w) (nI h) rf fr' tr la one (nI (k + (m - c))) ∧ ∀ dp, zPd w (fun j => j < k) dp fr → zPd w (fun j => j < k + (m - c)) (fun j => if k ≤ j ∧ j < k + (m - c) then p else dp j) fr' := by
  have hs := zmul64 hw hh
  intro n
  induction n with
  | zero => intro c k fr h1 h2; omega
  | succ n ih =>
    intro c k fr h1 h2 h3 h4
    rw [fX9_readFirst_222_s]
    unfold fX9_readFirst_250
    by_cases q : m ≤ c
    · rw [show k + (m - c) = k by omega]
      refine ⟨fr, by simp (disch := omega) only [zlit, nI_lt_nI, nI_le_nI, nI_eq_nI, nI_add, pk_mul, pk_sub, pk_div, zrem_nI, zrd_nI, zwr_nI, zb1_some, zb2_some, zb3_some, zb4_some, zb5_some, zb6_some, zb7_some, zb8_some, zlet_eq, if_pos, if_neg, pk_us, pk_un, true_and, and_true, true_or, or_true, ↓reduceIte], fun dp H => ?_⟩
      exact zPd_cong H (fun j hj => by rw [if_neg (by omega)])
    · obtain ⟨fr1, e1, e2⟩ := zPd_set (fr := fr) hw hh (show k < w * h by omega) ho
      obtain ⟨fr', g1, g2⟩ := ih (c + 1) (k + 1) fr1 (by omega) (by omega) h3 (by omega)
      rw [show k + 1 + (m - (c + 1)) = k + (m - c) by omega] at g1 g2
      refine ⟨fr', ?_, fun dp H => ?_⟩
      · simp (disch := omega) only [zlit, nI_lt_nI, nI_le_nI, nI_eq_nI, nI_add, pk_mul, pk_sub, pk_div, zrem_nI, zrd_nI, zwr_nI, zb1_some, zb2_some, zb3_some, zb4_some, zb5_some, zb6_some, zb7_some, zb8_some, zlet_eq, if_pos, if_neg, pk_us, pk_un, true_and, and_true, true_or, or_true, ↓reduceIte, e1]
        exact g1
      · have t1 := zPd_mono (e2 _ dp H) (E := fun j => j < k + 1) (fun j hj => by
          rcases (show j < k ∨ j = k by omega) with q | q
          · exact Or.inl q
          · exact Or.inr q)
        refine zPd_cong (g2 _ t1) (fun j hj => ?_)
        by_cases r : j = k
        · subst r
          rw [if_neg (by omega), if_pos (by omega), pk_us]
        · rw [pk_un r]
          by_cases s : k ≤ j ∧ j < k + (m - c)
          · rw [if_pos (by omega), if_pos s]
          · rw [if_neg (by omega), if_neg s]
theorem zF222 {F s a nw nh l2 m : Int32} {rf fr tr la one : Nat → Int32} {n n' : Nat} (hF : (F = nI 0) = False) : zS F (fX9_readFirst_219 (fX9_readFirst_80 (n + 1)) s a F nw nh rf fr tr la one l2 m) := by
  unfold fX9_readFirst_219
  rw [fX9_readFirst_222_s]
  unfold fX9_readFirst_250
  simp only [zlit, hF, ↓reduceIte, ite_self]
  exact zF80 hF
theorem zrf {w h n : Nat} {fb rf : Nat → Int32} {B : Nat → Nat} (hw : w ≤ 8) (hh : h ≤ 8) (hn : n ≤ 800) (hB : zByt n fb B) (hB' : zByt n rf B) : ∀ (f9 f8 k a : Nat) (L : Int32) (tb dp tr la one fr : Nat → Int32), k ≤ w * h → w * h - k + 1 < f9 → w * h - k < f8 → a ≤ n → zLa L la → zTa tb tr → zPd w (fun j => j < k) dp fr →
    (∃ (t : Nat) (x : Int32 × (Nat → Int32) × Int32 × (Nat → Int32)), (t = 1 ∨ t = 2) ∧ fX1_readChunks_15 f8 L tb (nI a) (nI n) fb dp (nI 0) (nI (w * h)) (nI k) = some (t, x) ∧ zS (zft t) (fX9_readFirst_80 f9 (nI n) (nI a) (nI 0) (nI w) (nI h) rf fr tr la one (nI k))) ∨
    (∃ (L' : Int32) (tb' dp' tr' la' one' fr' : Nat → Int32) (a' : Nat), fX1_readChunks_15 f8 L tb (nI a) (nI n) fb dp (nI 0) (nI (w * h)) (nI k) = some (0, L', tb', nI a', dp') ∧ fX9_readFirst_80 f9 (nI n) (nI a) (nI 0) (nI w) (nI h) rf fr tr la one (nI k) = fX9_readFirst_253 (nI n) (nI a') (nI 0) (nI w) (nI h) rf fr' tr' la' one' ∧ a' ≤ n ∧ zPd w (fun j => j < w * h) dp' fr') := by
  have hs := zmul64 hw hh
  intro f9
  induction f9 with
  | zero => intro f8 k a L tb dp tr la one fr h1 h2; omega
  | succ f9 ih =>
    intro f8 k a L tb dp tr la one fr h1 h2 h3 h4 hL hT hD
    obtain ⟨f8, rfl⟩ : ∃ m, f8 = m + 1 := ⟨f8 - 1, by omega⟩
    by_cases q : w * h ≤ k
    · right
      have e : k = w * h := by omega
      subst e
      refine ⟨L, tb, dp, tr, la, one, fr, a, ?_, ?_, h4, hD⟩
      · rw [fX1_readChunks_15_s]
        simp (disch := omega) only [zlit, nI_lt_nI, nI_le_nI, nI_eq_nI, nI_add, pk_mul, pk_sub, pk_div, zrem_nI, zrd_nI, zwr_nI, zb1_some, zb2_some, zb3_some, zb4_some, zb5_some, zb6_some, zb7_some, zb8_some, zlet_eq, if_pos, if_neg, pk_us, pk_un, true_and, and_true, true_or, or_true, ↓reduceIte]
      · rw [fX9_readFirst_80_s]
        simp (disch := omega) only [zlit, nI_lt_nI, nI_le_nI, nI_eq_nI, nI_add, pk_mul, pk_sub, pk_div, zrem_nI, zrd_nI, zwr_nI, zb1_some, zb2_some, zb3_some, zb4_some, zb5_some, zb6_some, zb7_some, zb8_some, zlet_eq, if_pos, if_neg, pk_us, pk_un, true_and, and_true, true_or, or_true, ↓reduceIte]
    · have hk : k < w * h := by omega
      obtain ⟨f9, rfl⟩ : ∃ m, f9 = m + 1 := ⟨f9 - 1, by omega⟩
      rw [fX1_readChunks_15_s, fX9_readFirst_80_s]
      by_cases c : a < n
      · have bv := hB.1 a
        by_cases d : 192 ≤ B a ∧ B a ≤ 253
        · by_cases r : B a - 191 ≤ w * h - k
          · obtain ⟨one', o1, o2⟩ := @ztone one _ _ _ _ (zch_lt L 0) (zch_lt L 1) (zch_lt L 2) (zch_lt L 3)
            rw [← zch_zpk] at o2
            obtain ⟨fr', g1, g2⟩ := zrun9 (m := B a - 191) (s := nI n) (a := nI (a + 1)) (rf := rf) (tr := tr) (la := la) hw hh o2 (fX9_readFirst_80 (f9 + 1)) 1000 0 k fr (by omega) (by omega) (by omega) (by omega)
            have g3 := g2 dp hD
            rw [Nat.sub_zero] at g1 g3
            have t8 := zrun8 (L := L) (pl := nI (a + 1)) (sz := nI n) (tb := tb) (fb := fb) hs (B a - 191 - 1) (f8 - (B a - 191 - 1)) (k + 1) (upd dp k L) (by omega)
            rw [show f8 - (B a - 191 - 1) + (B a - 191 - 1) = f8 by omega, show k + 1 + (B a - 191 - 1) = k + (B a - 191) by omega] at t8
            have e : (fun j => if k + 1 ≤ j ∧ j < k + (B a - 191) then L else upd dp k L j) = (fun j => if k ≤ j ∧ j < k + (B a - 191) then L else dp j) := by
              funext j
              by_cases r : j = k
              · subst r
                rw [if_neg (by omega), if_pos (by omega), pk_us]
              · rw [pk_un r]
                by_cases s : k ≤ j ∧ j < k + (B a - 191)
                · rw [if_pos (by omega), if_pos s]
                · rw [if_neg (by omega), if_neg s]
            rw [e] at t8
            have g := ih (f8 - (B a - 191 - 1)) (k + (B a - 191)) (a + 1) L tb _ tr la one' fr' (by omega) (by omega) (by omega) (by omega) hL hT g3
            have l0 := hL 0 (by decide)
            have l1 := hL 1 (by decide)
            have l2 := hL 2 (by decide)
            have l3 := hL 3 (by decide)
            have A : (if nI (w * h) ≤ nI k then some (0, L, tb, nI a, dp) else if nI 0 ≤ (0 : Int32) then zb5 (fX1_readChunk L tb (nI a) (nI n) fb (nI (w * h) - nI k)) fun tg3 r4 u5 u6 u7 => if tg3 = 0 then fX1_readChunks_43 (fX1_readChunks_15 f8) u5 u6 u7 (nI n) fb dp r4 (nI (w * h)) (nI k) else some (tg3, u5, u6, u7, dp) else zlet (nI 0 + (-1)) fun x9 => fX1_readChunks_43 (fX1_readChunks_15 f8) L tb (nI a) (nI n) fb dp x9 (nI (w * h)) (nI k)) = fX1_readChunks_15 f8 L tb (nI (a + 1)) (nI n) fb (upd dp k L) (nI (B a - 191 - 1)) (nI (w * h)) (nI (k + 1)) := by
              unfold fX1_readChunk fX1_readChunk_34 fX1_readChunks_43
              simp (disch := omega) only [zlit, nI_lt_nI, nI_le_nI, nI_eq_nI, nI_add, pk_mul, pk_sub, pk_div, zrem_nI, zrd_nI, zwr_nI, zb1_some, zb2_some, zb3_some, zb4_some, zb5_some, zb6_some, zb7_some, zb8_some, zlet_eq, if_pos, if_neg, pk_us, pk_un, true_and, and_true, true_or, or_true, ↓reduceIte, znext8 hn hB, zneed1]
            rw [A, t8]
            unfold fX9_readFirst_128 fX9_readFirst_152 fX9_readFirst_219
            simp (disch := omega) only [zlit, nI_lt_nI, nI_le_nI, nI_eq_nI, nI_add, pk_mul, pk_sub, pk_div, zrem_nI, zrd_nI, zwr_nI, zb1_some, zb2_some, zb3_some, zb4_some, zb5_some, zb6_some, zb7_some, zb8_some, zlet_eq, if_pos, if_neg, pk_us, pk_un, true_and, and_true, true_or, or_true, ↓reduceIte, znext9 hn hB', zbrok0, l0, l1, l2, l3, o1, g1]
            exact g
          · left
            refine ⟨2, (L, tb, nI (a + 1), dp), Or.inr rfl, ?_, ?_⟩
            · unfold fX1_readChunk fX1_readChunk_34
              simp (disch := omega) only [zlit, nI_lt_nI, nI_le_nI, nI_eq_nI, nI_add, pk_mul, pk_sub, pk_div, zrem_nI, zrd_nI, zwr_nI, zb1_some, zb2_some, zb3_some, zb4_some, zb5_some, zb6_some, zb7_some, zb8_some, zlet_eq, if_pos, if_neg, pk_us, pk_un, true_and, and_true, true_or, or_true, ↓reduceIte, znext8 hn hB, zneed0]
            · unfold fX9_readFirst_128 fX9_readFirst_152 fX9_readFirst_207
              simp (disch := omega) only [zlit, nI_lt_nI, nI_le_nI, nI_eq_nI, nI_add, pk_mul, pk_sub, pk_div, zrem_nI, zrd_nI, zwr_nI, zb1_some, zb2_some, zb3_some, zb4_some, zb5_some, zb6_some, zb7_some, zb8_some, zlet_eq, if_pos, if_neg, pk_us, pk_un, true_and, and_true, true_or, or_true, ↓reduceIte, znext9 hn hB', zbrok1, zn3]
              exact zF222 (n' := 0) zn3
        · rcases zcp (one := one) (v := B a) hn hB hB' (show a + 1 ≤ n by omega) (by omega) hL hT with ⟨p, a', tr', la', one', e1, e2, e3, e4, e5, e6⟩ | ⟨x, y, tr', la', one', e1, e2⟩
          · obtain ⟨fr', g1, g2⟩ := zrun9 (m := 1) (s := nI n) (a := nI a') (rf := rf) (tr := tr') (la := la') hw hh e6 (fX9_readFirst_80 (f9 + 1)) 1000 0 k fr (by omega) (by omega) (by omega) (by omega)
            have g3 := zPd_cong (g2 dp hD) (dp' := upd dp k p) (fun j hj => by
              by_cases r : j = k
              · subst r
                rw [if_pos (by omega), pk_us]
              · rw [if_neg (by omega), pk_un r])
            rw [Nat.sub_zero] at g1 g3
            have g := ih f8 (k + 1) a' p (upd tb (zpl p) p) (upd dp k p) tr' la' one' fr' (by omega) (by omega) (by omega) e3 e4 e5 g3
            rcases (show B a < 192 ∨ 254 ≤ B a by omega) with z | z
            · unfold fX1_readChunk fX1_readChunks_43 fX9_readFirst_127 fX9_readFirst_128 fX9_readFirst_152 fX9_readFirst_207 fX9_readFirst_219
              simp (disch := omega) only [zlit, nI_lt_nI, nI_le_nI, nI_eq_nI, nI_add, pk_mul, pk_sub, pk_div, zrem_nI, zrd_nI, zwr_nI, zb1_some, zb2_some, zb3_some, zb4_some, zb5_some, zb6_some, zb7_some, zb8_some, zlet_eq, if_pos, if_neg, pk_us, pk_un, true_and, and_true, true_or, or_true, ↓reduceIte, znext8 hn hB, e1, znext9 hn hB', zbrok0, e2, g1]
              exact g
            · unfold fX1_readChunk fX1_readChunks_43 fX9_readFirst_127 fX9_readFirst_128 fX9_readFirst_152 fX9_readFirst_207 fX9_readFirst_219
              simp (disch := omega) only [zlit, nI_lt_nI, nI_le_nI, nI_eq_nI, nI_add, pk_mul, pk_sub, pk_div, zrem_nI, zrd_nI, zwr_nI, zb1_some, zb2_some, zb3_some, zb4_some, zb5_some, zb6_some, zb7_some, zb8_some, zlet_eq, if_pos, if_neg, pk_us, pk_un, true_and, and_true, true_or, or_true, ↓reduceIte, znext8 hn hB, e1, znext9 hn hB', zbrok0, e2, g1]
              exact g
          · left
            obtain ⟨x1, x2, x3, x4⟩ := x
            refine ⟨1, (x2, x3, x4, dp), Or.inl rfl, ?_, ?_⟩
            · rcases (show B a < 192 ∨ 254 ≤ B a by omega) with z | z
              · unfold fX1_readChunk
                simp (disch := omega) only [zlit, nI_lt_nI, nI_le_nI, nI_eq_nI, nI_add, pk_mul, pk_sub, pk_div, zrem_nI, zrd_nI, zwr_nI, zb1_some, zb2_some, zb3_some, zb4_some, zb5_some, zb6_some, zb7_some, zb8_some, zlet_eq, if_pos, if_neg, pk_us, pk_un, true_and, and_true, true_or, or_true, ↓reduceIte, znext8 hn hB, e1]
              · unfold fX1_readChunk
                simp (disch := omega) only [zlit, nI_lt_nI, nI_le_nI, nI_eq_nI, nI_add, pk_mul, pk_sub, pk_div, zrem_nI, zrd_nI, zwr_nI, zb1_some, zb2_some, zb3_some, zb4_some, zb5_some, zb6_some, zb7_some, zb8_some, zlet_eq, if_pos, if_neg, pk_us, pk_un, true_and, and_true, true_or, or_true, ↓reduceIte, znext8 hn hB, e1]
            · rcases (show B a < 192 ∨ 254 ≤ B a by omega) with z | z
              · unfold fX9_readFirst_127 fX9_readFirst_128 fX9_readFirst_152 fX9_readFirst_207
                simp (disch := omega) only [zlit, nI_lt_nI, nI_le_nI, nI_eq_nI, nI_add, pk_mul, pk_sub, pk_div, zrem_nI, zrd_nI, zwr_nI, zb1_some, zb2_some, zb3_some, zb4_some, zb5_some, zb6_some, zb7_some, zb8_some, zlet_eq, if_pos, if_neg, pk_us, pk_un, true_and, and_true, true_or, or_true, ↓reduceIte, znext9 hn hB', zbrok0, e2]
                exact zF222 (n' := 0) zn2
              · unfold fX9_readFirst_127 fX9_readFirst_128 fX9_readFirst_152 fX9_readFirst_207
                simp (disch := omega) only [zlit, nI_lt_nI, nI_le_nI, nI_eq_nI, nI_add, pk_mul, pk_sub, pk_div, zrem_nI, zrd_nI, zwr_nI, zb1_some, zb2_some, zb3_some, zb4_some, zb5_some, zb6_some, zb7_some, zb8_some, zlet_eq, if_pos, if_neg, pk_us, pk_un, true_and, and_true, true_or, or_true, ↓reduceIte, znext9 hn hB', zbrok0, e2]
                exact zF222 (n' := 0) zn2
      · have e : n = a := by omega
        left
        refine ⟨1, (L, tb, nI a, dp), Or.inl rfl, ?_, ?_⟩
        · unfold fX1_readChunk
          simp (disch := omega) only [zlit, nI_lt_nI, nI_le_nI, nI_eq_nI, nI_add, pk_mul, pk_sub, pk_div, zrem_nI, zrd_nI, zwr_nI, zb1_some, zb2_some, zb3_some, zb4_some, zb5_some, zb6_some, zb7_some, zb8_some, zlet_eq, if_pos, if_neg, pk_us, pk_un, true_and, and_true, true_or, or_true, ↓reduceIte, znext8e hn e]
        · unfold fX9_readFirst_127 fX9_readFirst_128 fX9_readFirst_152 fX9_readFirst_207
          simp (disch := omega) only [zlit, nI_lt_nI, nI_le_nI, nI_eq_nI, nI_add, pk_mul, pk_sub, pk_div, zrem_nI, zrd_nI, zwr_nI, zb1_some, zb2_some, zb3_some, zb4_some, zb5_some, zb6_some, zb7_some, zb8_some, zlet_eq, if_pos, if_neg, pk_us, pk_un, true_and, and_true, true_or, or_true, ↓reduceIte, znext9e hn e, zbrokF zn2, zn2]
          exact zF222 (n' := 0) zn2
/-- the reader's picture -/
def zg1 (x : Int32 × (Nat → Int32) × Int32 × Int32 × Int32 × (Nat → Int32)) : Int32 × Int32 × (Nat → Int32) := (x.2.2.2.1, x.2.2.2.2.1, x.2.2.2.2.2)
def zq1 (y : (Nat → Int32) × (Nat → Int32) × (Nat → Int32) × (Nat → Int32)) : Nat → Int32 := y.1
theorem zend1 {w h n : Nat} {fb rf dp fr tb tr la one : Nat → Int32} {B : Nat → Nat} {L : Int32} (hw1 : 1 ≤ w) (hw : w ≤ 8) (hh1 : 1 ≤ h) (hh : h ≤ 8) (hn : n ≤ 800) (hB : zByt n fb B) (hB' : zByt n rf B) (hP : zPic w h dp fr) : ∀ (f8 f9 i a : Nat), i ≤ 7 → 7 - i < f8 → 8 - i < f9 → a ≤ n →
    zJ zg1 zq1 (fX1_read_86 f8 L tb (nI a) (nI n) fb (nI w) (nI h) dp (nI i)) (fX9_readFirst_255 f9 (nI n) (nI a) (nI 0) (nI w) (nI h) rf fr tr la one (nI i)) := by
  intro f8
  induction f8 with
  | zero => intro f9 i a h1 h2; omega
  | succ f8 ih =>
    intro f9 i a h1 h2 h3 h4
    obtain ⟨f9, rfl⟩ : ∃ m, f9 = m + 1 := ⟨f9 - 1, by omega⟩
    rw [fX1_read_86_s, fX9_readFirst_255_s]
    unfold fX1_read_129 fX1_read_106 fX9_readFirst_277
    have bv := hB.1 a
    by_cases c : a < n
    · by_cases q : 7 ≤ i
      · have e7 : i = 7 := by omega
        subst e7
        obtain ⟨f9, rfl⟩ : ∃ m, f9 = m + 1 := ⟨f9 - 1, by omega⟩
        by_cases z : B a = 1
        · have mm : fX9_must (nI 0) (nI (B a)) (nI 1) = some (nI 0) := by rw [z]; exact zmust0
          unfold fX7_isAtEnd
          by_cases s : a + 1 < n
          · simp (disch := omega) only [zlit, nI_lt_nI, nI_le_nI, nI_eq_nI, nI_add, pk_mul, pk_sub, pk_div, zrem_nI, zrd_nI, zwr_nI, zb1_some, zb2_some, zb3_some, zb4_some, zb5_some, zb6_some, zb7_some, zb8_some, zlet_eq, if_pos, if_neg, pk_us, pk_un, true_and, and_true, true_or, or_true, ↓reduceIte, znext8 hn hB, zneed1, zneed0, znext9 hn hB', mm]
            refine zJ2 ?_
            rw [fX9_readFirst_255_s]
            unfold fX9_readFirst_303
            simp (disch := omega) only [zlit, nI_lt_nI, nI_le_nI, nI_eq_nI, nI_add, pk_mul, pk_sub, pk_div, zrem_nI, zrd_nI, zwr_nI, zb1_some, zb2_some, zb3_some, zb4_some, zb5_some, zb6_some, zb7_some, zb8_some, zlet_eq, if_pos, if_neg, pk_us, pk_un, true_and, and_true, true_or, or_true, ↓reduceIte, zbrok1]
            exact zS_mk
          · simp (disch := omega) only [zlit, nI_lt_nI, nI_le_nI, nI_eq_nI, nI_add, pk_mul, pk_sub, pk_div, zrem_nI, zrd_nI, zwr_nI, zb1_some, zb2_some, zb3_some, zb4_some, zb5_some, zb6_some, zb7_some, zb8_some, zlet_eq, if_pos, if_neg, pk_us, pk_un, true_and, and_true, true_or, or_true, ↓reduceIte, znext8 hn hB, zneed1, znext9 hn hB', mm]
            rw [fX9_readFirst_255_s]
            unfold fX9_readFirst_303
            simp (disch := omega) only [zlit, nI_lt_nI, nI_le_nI, nI_eq_nI, nI_add, pk_mul, pk_sub, pk_div, zrem_nI, zrd_nI, zwr_nI, zb1_some, zb2_some, zb3_some, zb4_some, zb5_some, zb6_some, zb7_some, zb8_some, zlet_eq, if_pos, if_neg, pk_us, pk_un, true_and, and_true, true_or, or_true, ↓reduceIte, zbrok0]
            exact Or.inr ⟨_, _, _, w, h, dp, hw1, hw, hh1, hh, rfl, rfl, rfl, hP⟩
        · have mm : fX9_must (nI 0) (nI (B a)) (nI 1) = some (-(nI 3)) := zmust1 (by simp (disch := omega) only [zlit, nI_lt_nI, nI_le_nI, nI_eq_nI, nI_add, pk_mul, pk_sub, pk_div, zrem_nI, zrd_nI, zwr_nI, zb1_some, zb2_some, zb3_some, zb4_some, zb5_some, zb6_some, zb7_some, zb8_some, zlet_eq, if_pos, if_neg, pk_us, pk_un, true_and, and_true, true_or, or_true, ↓reduceIte, z]; exact not_false)
          simp (disch := omega) only [zlit, nI_lt_nI, nI_le_nI, nI_eq_nI, nI_add, pk_mul, pk_sub, pk_div, zrem_nI, zrd_nI, zwr_nI, zb1_some, zb2_some, zb3_some, zb4_some, zb5_some, zb6_some, zb7_some, zb8_some, zlet_eq, if_pos, if_neg, pk_us, pk_un, true_and, and_true, true_or, or_true, ↓reduceIte, znext8 hn hB, zneed0, znext9 hn hB', mm]
          exact zJ2 (zF255 zn3 _ 8 (by omega) (by omega))
      · by_cases z : B a = 0
        · have mm : fX9_must (nI 0) (nI (B a)) (nI 0) = some (nI 0) := by rw [z]; exact zmust0
          have g := ih f9 (i + 1) (a + 1) (by omega) (by omega) (by omega) (by omega)
          simp (disch := omega) only [zlit, nI_lt_nI, nI_le_nI, nI_eq_nI, nI_add, pk_mul, pk_sub, pk_div, zrem_nI, zrd_nI, zwr_nI, zb1_some, zb2_some, zb3_some, zb4_some, zb5_some, zb6_some, zb7_some, zb8_some, zlet_eq, if_pos, if_neg, pk_us, pk_un, true_and, and_true, true_or, or_true, ↓reduceIte, znext8 hn hB, zneed1, znext9 hn hB', mm]
          exact g
        · have mm : fX9_must (nI 0) (nI (B a)) (nI 0) = some (-(nI 3)) := zmust1 (by simp (disch := omega) only [zlit, nI_lt_nI, nI_le_nI, nI_eq_nI, nI_add, pk_mul, pk_sub, pk_div, zrem_nI, zrd_nI, zwr_nI, zb1_some, zb2_some, zb3_some, zb4_some, zb5_some, zb6_some, zb7_some, zb8_some, zlet_eq, if_pos, if_neg, pk_us, pk_un, true_and, and_true, true_or, or_true, ↓reduceIte, z]; exact not_false)
          simp (disch := omega) only [zlit, nI_lt_nI, nI_le_nI, nI_eq_nI, nI_add, pk_mul, pk_sub, pk_div, zrem_nI, zrd_nI, zwr_nI, zb1_some, zb2_some, zb3_some, zb4_some, zb5_some, zb6_some, zb7_some, zb8_some, zlet_eq, if_pos, if_neg, pk_us, pk_un, true_and, and_true, true_or, or_true, ↓reduceIte, znext8 hn hB, zneed0, znext9 hn hB', mm]
          exact zJ2 (zF255 zn3 _ (i + 1) (by omega) (by omega))
    · have e : n = a := by omega
      by_cases q : 7 ≤ i
      · have e7 : i = 7 := by omega
        subst e7
        simp (disch := omega) only [zlit, nI_lt_nI, nI_le_nI, nI_eq_nI, nI_add, pk_mul, pk_sub, pk_div, zrem_nI, zrd_nI, zwr_nI, zb1_some, zb2_some, zb3_some, zb4_some, zb5_some, zb6_some, zb7_some, zb8_some, zlet_eq, if_pos, if_neg, pk_us, pk_un, true_and, and_true, true_or, or_true, ↓reduceIte, znext8e hn e, znext9e hn e, zmustF zn2]
        exact zJ1 (zF255 zn2 _ 8 (by omega) (by omega))
      · simp (disch := omega) only [zlit, nI_lt_nI, nI_le_nI, nI_eq_nI, nI_add, pk_mul, pk_sub, pk_div, zrem_nI, zrd_nI, zwr_nI, zb1_some, zb2_some, zb3_some, zb4_some, zb5_some, zb6_some, zb7_some, zb8_some, zlet_eq, if_pos, if_neg, pk_us, pk_un, true_and, and_true, true_or, or_true, ↓reduceIte, znext8e hn e, znext9e hn e, zmustF zn2]
        exact zJ1 (zF255 zn2 _ (i + 1) (by omega) (by omega))
