/-! The third format's plain rows. -/
theorem zrow_set {w h y x : Nat} {up : Bool} {dp : Nat → Int32} {p : Int32} (hw : w ≤ 8) (hh : h ≤ 8) (hx : x < w) (hy : y < h) : fX5_set (nI w) dp (nI x) (nI (if up = true then y else h - 1 - y)) p = some (upd dp (zix4 up false w h (y * w + x)) p) := by
  have hs := zmul64 hw hh
  have hi := zix4_lt (up := up) (mir := false) (zyx_lt hx hy)
  rw [zix4_eq hx] at hi ⊢
  simp only [Bool.false_eq_true, ↓reduceIte] at hi ⊢
  generalize (if up = true then y else h - 1 - y) = row at hi ⊢
  unfold fX5_set
  rw [pk_mul, nI_add, zwr_nI (by omega) (by decide)]
theorem zrow_98 {w h y x : Nat} {up : Bool} {s a c l1 l2 l3 p : Int32} {rf fr col one : Nat → Int32} (hw : w ≤ 8) (hh : h ≤ 8) (hx : x < w) (hy : y < h) (ho : zLa p one) (rc : Int32 → Int32 → Int32 → Int32 → Int32 → Int32 → (Nat → Int32) → (Nat → Int32) → (Nat → Int32) → (Nat → Int32) → Int32 → Int32 → Int32 → Option (Int32 × Int32 × (Nat → Int32) × (Nat → Int32))) (rd : Int32 → Int32 → Int32 → Int32 → Int32 → Int32 → (Nat → Int32) → (Nat → Int32) → (Nat → Int32) → (Nat → Int32) → Int32 → Int32 → Int32 → Int32 → Int32 → Option (Int32 × Int32 × (Nat → Int32) × (Nat → Int32))) :
    ∃ fr', fX9_plain_98 rc rd s a (nI 0) (nI w) (nI h) c rf fr col one l1 l2 l3 (nI (if up = true then y else h - 1 - y)) (nI x) = rd s a (nI 0) (nI w) (nI h) c rf fr' col one l1 l2 l3 (nI (if up = true then y else h - 1 - y)) (nI (x + 1)) ∧ ∀ dp, zPd w (zD4 up false w h (y * w + x)) dp fr → zPd w (zD4 up false w h (y * w + (x + 1))) (upd dp (zix4 up false w h (y * w + x)) p) fr' := by
  have hs := zmul64 hw hh
  have hi := zix4_lt (up := up) (mir := false) (zyx_lt hx hy)
  obtain ⟨fr', g1, g2⟩ := zPd_set (fr := fr) hw hh hi ho
  refine ⟨fr', ?_, fun dp H => ?_⟩
  · rw [zix4_eq hx] at g1
    simp only [Bool.false_eq_true, ↓reduceIte] at g1
    generalize (if up = true then y else h - 1 - y) = row at g1 ⊢
    unfold fX9_plain_98
    rw [Nat.mul_comm row w] at g1
    rw [pk_mul, nI_add, zb1_of g1, zlet_eq, zlit, nI_add]
  · refine zPd_mono (g2 _ dp H) (fun j hj => ?_)
    obtain ⟨i, i1, i2⟩ := hj
    rcases (show i < y * w + x ∨ i = y * w + x by omega) with q | q
    · exact Or.inl ⟨i, q, i2⟩
    · subst q
      exact Or.inr i2
theorem zF38 {F s a nw nh c l1 l2 l3 l4 l5 : Int32} {rf fr col one : Nat → Int32} {n f : Nat} (hF : (F = nI 0) = False) : zS F (fX9_plain_38 (fX9_plain_2 (n + 1)) (f + 1) s a F nw nh c rf fr col one l1 l2 l3 l4 l5) := by
  rw [fX9_plain_38_s]
  unfold fX9_plain_118 fX9_plain_143
  simp only [zlit, hF, ↓reduceIte, ite_self]
  rw [zb2_of (zskipF hF), zb2_of (zskipF hF), zlet_eq, ite_self, fX9_plain_2_s]
  simp only [zlit, hF, ↓reduceIte, ite_self]
  exact zS_mk
theorem zF98 {F s a nw nh c l1 l2 l3 l4 l5 : Int32} {rf fr col one : Nat → Int32} {n f : Nat} (hF : (F = nI 0) = False) : zS F (fX9_plain_98 (fX9_plain_2 (n + 1)) (fX9_plain_38 (fX9_plain_2 (n + 1)) (f + 1)) s a F nw nh c rf fr col one l1 l2 l3 l4 l5) := by
  unfold fX9_plain_98
  rw [zb1_of (zsetF hF), zlet_eq]
  exact zF38 hF
theorem zctone {K v : Nat} {tc col one : Nat → Int32} (hK : K ≤ 64) (hv : v < K) (hC : zCt K tc col) : ∃ one', fX9_colourTone (nI 0) (nI K) col one (nI v) = some (nI 0, one') ∧ zLa (tc v) one' := by
  obtain ⟨g1, g2⟩ := hC v hv
  obtain ⟨one', t1, t2⟩ := @ztone one _ _ _ 255 (zch_lt (tc v) 0) (zch_lt (tc v) 1) (zch_lt (tc v) 2) (by decide)
  have e : tc v = nI (zpk (zch (tc v) 0) (zch (tc v) 1) (zch (tc v) 2) 255) := by
    have := zch_zpk (tc v)
    rw [g1] at this
    exact this
  refine ⟨one', ?_, ?_⟩
  · have c0 := g2 0 (by decide)
    have c1 := g2 1 (by decide)
    have c2 := g2 2 (by decide)
    rw [Nat.add_zero] at c0
    unfold fX9_colourTone fX9_colourTone_14
    simp (disch := omega) only [zlit, nI_lt_nI, nI_le_nI, nI_eq_nI, nI_add, pk_mul, pk_sub, pk_div, zrem_nI, zrd_nI, zwr_nI, zb1_some, zb2_some, zb3_some, zb4_some, zb5_some, zb6_some, zb7_some, zb8_some, zlet_eq, if_pos, if_neg, pk_us, pk_un, true_and, and_true, true_or, or_true, ↓reduceIte, zbrok0, c0, c1, c2, t1]
  · rw [e]
    exact t2
theorem zctoneN {K v : Nat} {col one : Nat → Int32} (hK : K ≤ 64) (hv2 : v < 256) (hv : ¬ v < K) : fX9_colourTone (nI 0) (nI K) col one (nI v) = some (-(nI 3), one) := by
  unfold fX9_colourTone fX9_colourTone_14
  simp (disch := omega) only [zlit, nI_lt_nI, nI_le_nI, nI_eq_nI, nI_add, pk_mul, pk_sub, pk_div, zrem_nI, zrd_nI, zwr_nI, zb1_some, zb2_some, zb3_some, zb4_some, zb5_some, zb6_some, zb7_some, zb8_some, zlet_eq, if_pos, if_neg, pk_us, pk_un, true_and, and_true, true_or, or_true, ↓reduceIte, zbrok1, zn3]
theorem zctoneF {F K v : Int32} {col one : Nat → Int32} (hF : (F = nI 0) = False) : fX9_colourTone F K col one v = some (F, one) := by
  unfold fX9_colourTone fX9_colourTone_14
  simp (disch := omega) only [zlit, nI_lt_nI, nI_le_nI, nI_eq_nI, nI_add, pk_mul, pk_sub, pk_div, zrem_nI, zrd_nI, zwr_nI, zb1_some, zb2_some, zb3_some, zb4_some, zb5_some, zb6_some, zb7_some, zb8_some, zlet_eq, if_pos, if_neg, pk_us, pk_un, true_and, and_true, true_or, or_true, ↓reduceIte, zbrokF hF, hF, ite_self]
theorem zcofY {K v : Nat} {tc : Nat → Int32} (hK : K ≤ 64) (hv : v < K) : fX0_colourOf (nI K) tc (nI v) = some (0, tc v) := by
  unfold fX0_colourOf fX0_colourOf_14
  simp (disch := omega) only [zlit, nI_lt_nI, nI_le_nI, nI_eq_nI, nI_add, pk_mul, pk_sub, pk_div, zrem_nI, zrd_nI, zwr_nI, zb1_some, zb2_some, zb3_some, zb4_some, zb5_some, zb6_some, zb7_some, zb8_some, zlet_eq, if_pos, if_neg, pk_us, pk_un, true_and, and_true, true_or, or_true, ↓reduceIte, zneed1]
theorem zcofN {K v : Nat} {tc : Nat → Int32} (hK : K ≤ 64) (hv2 : v < 256) (hv : ¬ v < K) : fX0_colourOf (nI K) tc (nI v) = some (2, nI 0) := by
  unfold fX0_colourOf fX0_colourOf_14
  simp (disch := omega) only [zlit, nI_lt_nI, nI_le_nI, nI_eq_nI, nI_add, pk_mul, pk_sub, pk_div, zrem_nI, zrd_nI, zwr_nI, zb1_some, zb2_some, zb3_some, zb4_some, zb5_some, zb6_some, zb7_some, zb8_some, zlet_eq, if_pos, if_neg, pk_us, pk_un, true_and, and_true, true_or, or_true, ↓reduceIte, zneed0]
/-- a row's pad -/
def zpd3 (dd w : Nat) : Nat := if dd = 8 then (8 - w) % 4 else w % 4
theorem zrow3 {n w h K dd y : Nat} {up : Bool} {fb rf tc col : Nat → Int32} {B : Nat → Nat} {iu ld : Int32} (hw : w ≤ 8) (hh : h ≤ 8) (hn : n ≤ 800) (hB : zByt n fb B) (hB' : zByt n rf B) (hd : dd = 8 ∨ dd = 24) (hK : K ≤ 64) (hC : zCt K tc col) (hy : y < h) (rc : Int32 → Int32 → Int32 → (Nat → Int32) → Int32 → Int32 → (Nat → Int32) → Int32 → Int32 → (Nat → Int32) → Int32 → Int32 → Option (Nat × Int32 × (Nat → Int32))) (f2 : Nat) : ∀ (f8 f9 x a : Nat) (dp fr one : Nat → Int32), x ≤ w → w - x < f8 → w - x + 1 < f9 → a ≤ n → zPd w (zD4 up false w h (y * w + x)) dp fr →
    (∃ (t : Nat) (z : Int32 × (Nat → Int32)), (t = 1 ∨ t = 2) ∧ fX0_readRows_54 rc f8 (nI K) (nI dd) iu tc (nI a) (nI n) fb (nI w) (nI h) dp (nI (zpd3 dd w)) (nI y) (nI (if up = true then y else h - 1 - y)) (nI x) = some (t, z) ∧ zS (zft t) (fX9_plain_38 (fX9_plain_2 (f2 + 1)) f9 (nI n) (nI a) (nI 0) (nI w) (nI h) (nI K) rf fr col one (nI dd) ld (nI y) (nI (if up = true then y else h - 1 - y)) (nI x))) ∨
    (∃ (a' : Nat) (dp' fr' one' : Nat → Int32), fX0_readRows_54 rc f8 (nI K) (nI dd) iu tc (nI a) (nI n) fb (nI w) (nI h) dp (nI (zpd3 dd w)) (nI y) (nI (if up = true then y else h - 1 - y)) (nI x) = rc (nI K) (nI dd) iu tc (nI a') (nI n) fb (nI w) (nI h) dp' (nI (zpd3 dd w)) (nI (y + 1)) ∧ fX9_plain_38 (fX9_plain_2 (f2 + 1)) f9 (nI n) (nI a) (nI 0) (nI w) (nI h) (nI K) rf fr col one (nI dd) ld (nI y) (nI (if up = true then y else h - 1 - y)) (nI x) = fX9_plain_2 (f2 + 1) (nI n) (nI a') (nI 0) (nI w) (nI h) (nI K) rf fr' col one' (nI dd) ld (nI (y + 1)) ∧ a' ≤ n ∧ zPd w (zD4 up false w h ((y + 1) * w + 0)) dp' fr') := by
  have hs := zmul64 hw hh
  intro f8
  induction f8 with
  | zero => intro f9 x a dp fr one h1 h2; omega
  | succ f8 ih =>
    intro f9 x a dp fr one h1 h2 h3 h4 hD
    obtain ⟨f9, rfl⟩ : ∃ m, f9 = m + 1 := ⟨f9 - 1, by omega⟩
    rw [fX0_readRows_54_s, fX9_plain_38_s]
    by_cases q : w ≤ x
    · have e : x = w := by omega
      subst e
      have e2 : (y + 1) * x + 0 = y * x + x := by rw [Nat.succ_mul]; rfl
      rw [if_pos (by rw [nI_le_nI (by omega) (by omega)]; exact q), if_pos (by rw [nI_le_nI (by omega) (by omega)]; exact q)]
      have hp : zpd3 dd x ≤ 3 := by unfold zpd3; split <;> omega
      have P : fX9_plain_118 (fX9_plain_2 (f2 + 1)) (nI n) (nI a) (nI 0) (nI x) (nI h) (nI K) rf fr col one (nI dd) ld (nI y) = fX9_plain_143 (fX9_plain_2 (f2 + 1)) (nI n) (nI a) (nI 0) (nI x) (nI h) (nI K) rf fr col one (nI dd) ld (nI y) (nI (zpd3 dd x)) := by
        unfold fX9_plain_118 zpd3
        rcases hd with e | e
        · subst e
          simp (disch := omega) only [zlit, nI_lt_nI, nI_le_nI, nI_eq_nI, nI_add, pk_mul, pk_sub, pk_div, zrem_nI, zrd_nI, zwr_nI, zb1_some, zb2_some, zb3_some, zb4_some, zb5_some, zb6_some, zb7_some, zb8_some, zlet_eq, if_pos, if_neg, pk_us, pk_un, true_and, and_true, true_or, or_true, ↓reduceIte]
        · subst e
          simp (disch := omega) only [zlit, nI_lt_nI, nI_le_nI, nI_eq_nI, nI_add, pk_mul, pk_sub, pk_div, zrem_nI, zrd_nI, zwr_nI, zb1_some, zb2_some, zb3_some, zb4_some, zb5_some, zb6_some, zb7_some, zb8_some, zlet_eq, if_pos, if_neg, pk_us, pk_un, true_and, and_true, true_or, or_true, ↓reduceIte]
      rw [P]
      unfold fX9_plain_143
      by_cases c : a + zpd3 dd x ≤ n
      · refine Or.inr ⟨a + zpd3 dd x, dp, fr, one, ?_, ?_, c, ?_⟩
        · rw [zb2_of (zpass hn hB c), if_pos rfl, zlet_eq, zlit, nI_add]
        · rw [zb2_of (zskip hn hB' c), zlet_eq, zlit, nI_add]
        · rw [e2]; exact hD
      · refine Or.inl ⟨1, (nI n, dp), Or.inl rfl, ?_, ?_⟩
        · rw [zb2_of (zpassE hn (by omega) hB h4 (by omega)), if_neg (by decide)]
        · rw [zb2_of (zskipE hn (by omega) hB' h4 (by omega)), zlet_eq, fX9_plain_2_s]
          show zS (-(nI 2)) _
          simp only [zlit, zn2, ↓reduceIte, ite_self]
          exact zS_mk
    · obtain ⟨f9, rfl⟩ : ∃ m, f9 = m + 1 := ⟨f9 - 1, by omega⟩
      have hx : x < w := by omega
      simp only [zlit]
      rw [if_neg (show ¬ nI w ≤ nI x by rw [nI_le_nI (by omega) (by omega)]; exact q), if_neg (show ¬ nI w ≤ nI x by rw [nI_le_nI (by omega) (by omega)]; exact q), if_pos trivial]
      rcases hd with e | e
      · subst e
        rw [if_neg (by decide), if_pos rfl]
        by_cases c : a < n
        · have bv := hB.1 a
          rw [zb3_of (znext8 hn hB c), if_pos rfl, zb3_of (znext9 hn hB' c)]
          by_cases c2 : B a < K
          · obtain ⟨one', t1, t2⟩ := zctone (one := one) hK c2 hC
            rw [zb2_of (zcofY hK c2), if_pos rfl, zb2_of t1]
            obtain ⟨fr', g1, g2⟩ := zrow_98 (up := up) (s := nI n) (a := nI (a + 1)) (c := nI K) (l1 := nI 8) (l2 := ld) (l3 := nI y) (rf := rf) (fr := fr) (col := col) hw hh hx hy t2 (fX9_plain_2 (f2 + 1)) (fX9_plain_38 (fX9_plain_2 (f2 + 1)) (f9 + 1))
            unfold fX0_readRows_93
            rw [g1, zb1_of (zrow_set hw hh hx hy), zlet_eq, zlit, nI_add]
            exact ih (f9 + 1) (x + 1) (a + 1) _ fr' one' (by omega) (by omega) (by omega) (by omega) (g2 dp hD)
          · refine Or.inl ⟨2, (nI (a + 1), dp), Or.inr rfl, ?_, ?_⟩
            · rw [zb2_of (zcofN hK bv c2), if_neg (by decide)]
            · rw [zb2_of (zctoneN hK bv c2)]
              exact zF98 zn3
        · have e : n = a := by omega
          refine Or.inl ⟨1, (nI a, dp), Or.inl rfl, ?_, ?_⟩
          · rw [zb3_of (znext8e hn e), if_neg (by decide)]
          · rw [zb3_of (znext9e hn e), zb2_of (zctoneF zn2)]
            exact zF98 zn2
      · subst e
        rw [if_pos rfl, if_neg (show ¬ nI 24 = nI 8 by decide)]
        by_cases c : a + 3 ≤ n
        · obtain ⟨one', t1, t2⟩ := @ztone one _ _ _ 255 (hB.1 (a + 2)) (hB.1 (a + 1)) (hB.1 a) (by decide)
          rw [zb3_of (zbgr hn hB c), if_pos rfl, zb3_of (znext9 hn hB' (show a < n by omega)), zb3_of (znext9 hn hB' (show a + 1 < n by omega)), zb3_of (znext9 hn hB' (show a + 1 + 1 < n by omega)), zb1_of t1]
          obtain ⟨fr', g1, g2⟩ := zrow_98 (up := up) (s := nI n) (a := nI (a + 3)) (c := nI K) (l1 := nI 24) (l2 := ld) (l3 := nI y) (rf := rf) (fr := fr) (col := col) hw hh hx hy t2 (fX9_plain_2 (f2 + 1)) (fX9_plain_38 (fX9_plain_2 (f2 + 1)) (f9 + 1))
          unfold fX0_readRows_93
          rw [g1, zb1_of (zrow_set hw hh hx hy), zlet_eq, zlit, nI_add]
          exact ih (f9 + 1) (x + 1) (a + 3) _ fr' one' (by omega) (by omega) (by omega) (by omega) (g2 dp hD)
        · obtain ⟨z, ez⟩ := zbgrE hn hB h4 (show n < a + 3 by omega)
          refine Or.inl ⟨1, (z, dp), Or.inl rfl, ?_, ?_⟩
          · rw [zb3_of ez, if_neg (by decide)]
          · rcases (show n = a ∨ n = a + 1 ∨ n = a + 2 by omega) with e | e | e
            · rw [zb3_of (znext9e hn e), zb3_of (znextF zn2), zb3_of (znextF zn2)]
              obtain ⟨o, eo⟩ := @ztoneT one (nI 0) (nI 0) (nI 0) (nI 255)
              rw [zb1_of eo]
              exact zF98 zn2
            · rw [zb3_of (znext9 hn hB' (show a < n by omega)), zb3_of (znext9e hn e), zb3_of (znextF zn2)]
              obtain ⟨o, eo⟩ := @ztoneT one (nI 0) (nI 0) (nI (B a)) (nI 255)
              rw [zb1_of eo]
              exact zF98 zn2
            · rw [zb3_of (znext9 hn hB' (show a < n by omega)), zb3_of (znext9 hn hB' (show a + 1 < n by omega)), zb3_of (znext9e hn e)]
              obtain ⟨o, eo⟩ := @ztoneT one (nI 0) (nI (B (a + 1))) (nI (B a)) (nI 255)
              rw [zb1_of eo]
              exact zF98 zn2
theorem zrows3 {n w h K dd ld : Nat} {fb rf tc col : Nat → Int32} {B : Nat → Nat} (hw : w ≤ 8) (hh : h ≤ 8) (hn : n ≤ 800) (hB : zByt n fb B) (hB' : zByt n rf B) (hd : dd = 8 ∨ dd = 24) (hK : K ≤ 64) (hC : zCt K tc col) (hl : ld ≤ 1) : ∀ (f8 f9 y a : Nat) (dp fr one : Nat → Int32), y ≤ h → h - y < f8 → h - y + 1 < f9 → a ≤ n → zPd w (zD4 (decide (ld = 0)) false w h (y * w + 0)) dp fr →
    (∃ (t : Nat) (z : Int32 × (Nat → Int32)), (t = 1 ∨ t = 2) ∧ fX0_readRows_19 f8 (nI K) (nI dd) (nI ld) tc (nI a) (nI n) fb (nI w) (nI h) dp (nI (zpd3 dd w)) (nI y) = some (t, z) ∧ zS (zft t) (fX9_plain_2 f9 (nI n) (nI a) (nI 0) (nI w) (nI h) (nI K) rf fr col one (nI dd) (nI ld) (nI y))) ∨
    (∃ (a' : Nat) (dp' fr' one' : Nat → Int32), fX0_readRows_19 f8 (nI K) (nI dd) (nI ld) tc (nI a) (nI n) fb (nI w) (nI h) dp (nI (zpd3 dd w)) (nI y) = some (0, nI a', dp') ∧ fX9_plain_2 f9 (nI n) (nI a) (nI 0) (nI w) (nI h) (nI K) rf fr col one (nI dd) (nI ld) (nI y) = some (nI a', nI 0, fr', one') ∧ zPic w h dp' fr') := by
  have hs := zmul64 hw hh
  intro f8
  induction f8 with
  | zero => intro f9 y a dp fr one h1 h2; omega
  | succ f8 ih =>
    intro f9 y a dp fr one h1 h2 h3 h4 hD
    obtain ⟨f9, rfl⟩ : ∃ m, f9 = m + 1 := ⟨f9 - 1, by omega⟩
    rw [fX0_readRows_19_s, fX9_plain_2_s]
    by_cases q : h ≤ y
    · have e : y = h := by omega
      subst e
      refine Or.inr ⟨a, dp, fr, one, ?_, ?_, ?_⟩
      · simp (disch := omega) only [zlit, nI_lt_nI, nI_le_nI, nI_eq_nI, nI_add, pk_mul, pk_sub, pk_div, zrem_nI, zrd_nI, zwr_nI, zb1_some, zb2_some, zb3_some, zb4_some, zb5_some, zb6_some, zb7_some, zb8_some, zlet_eq, if_pos, if_neg, pk_us, pk_un, true_and, and_true, true_or, or_true, ↓reduceIte]
      · simp (disch := omega) only [zlit, nI_lt_nI, nI_le_nI, nI_eq_nI, nI_add, pk_mul, pk_sub, pk_div, zrem_nI, zrd_nI, zwr_nI, zb1_some, zb2_some, zb3_some, zb4_some, zb5_some, zb6_some, zb7_some, zb8_some, zlet_eq, if_pos, if_neg, pk_us, pk_un, true_and, and_true, true_or, or_true, ↓reduceIte]
      · refine zPd_pic (zPd_mono hD (fun j hj => ?_))
        refine ⟨_, ?_, (zix4_inv hj).symm⟩
        rw [Nat.add_zero, Nat.mul_comm]
        exact zix4_lt hj
    · obtain ⟨f9, rfl⟩ : ∃ m, f9 = m + 1 := ⟨f9 - 1, by omega⟩
      have hy : y < h := by omega
      have g := zrow3 (iu := nI ld) (ld := nI ld) (up := decide (ld = 0)) hw hh hn hB hB' hd hK hC hy (fX0_readRows_19 f8) f9 1000 1000 0 a dp fr one (by omega) (by omega) (by omega) h4 hD
      simp only [decide_eq_true_eq] at g
      unfold fX0_readRows_49 fX9_plain_33
      have fin : ∀ row : Nat, row < 8 → ((∃ (t : Nat) (z : Int32 × (Nat → Int32)), (t = 1 ∨ t = 2) ∧ fX0_readRows_54 (fX0_readRows_19 f8) 1000 (nI K) (nI dd) (nI ld) tc (nI a) (nI n) fb (nI w) (nI h) dp (nI (zpd3 dd w)) (nI y) (nI row) (nI 0) = some (t, z) ∧ zS (zft t) (fX9_plain_38 (fX9_plain_2 (f9 + 1)) 1000 (nI n) (nI a) (nI 0) (nI w) (nI h) (nI K) rf fr col one (nI dd) (nI ld) (nI y) (nI row) (nI 0))) ∨
    (∃ (a' : Nat) (dp' fr' one' : Nat → Int32), fX0_readRows_54 (fX0_readRows_19 f8) 1000 (nI K) (nI dd) (nI ld) tc (nI a) (nI n) fb (nI w) (nI h) dp (nI (zpd3 dd w)) (nI y) (nI row) (nI 0) = (fX0_readRows_19 f8) (nI K) (nI dd) (nI ld) tc (nI a') (nI n) fb (nI w) (nI h) dp' (nI (zpd3 dd w)) (nI (y + 1)) ∧ fX9_plain_38 (fX9_plain_2 (f9 + 1)) 1000 (nI n) (nI a) (nI 0) (nI w) (nI h) (nI K) rf fr col one (nI dd) (nI ld) (nI y) (nI row) (nI 0) = fX9_plain_2 (f9 + 1) (nI n) (nI a') (nI 0) (nI w) (nI h) (nI K) rf fr' col one' (nI dd) (nI ld) (nI (y + 1)) ∧ a' ≤ n ∧ zPd w (zD4 (decide (ld = 0)) false w h ((y + 1) * w + 0)) dp' fr')) → ((∃ (t : Nat) (z : Int32 × (Nat → Int32)), (t = 1 ∨ t = 2) ∧ fX0_readRows_54 (fX0_readRows_19 f8) 1000 (nI K) (nI dd) (nI ld) tc (nI a) (nI n) fb (nI w) (nI h) dp (nI (zpd3 dd w)) (nI y) (nI row) (nI 0) = some (t, z) ∧ zS (zft t) (fX9_plain_38 (fX9_plain_2 (f9 + 1)) 1000 (nI n) (nI a) (nI 0) (nI w) (nI h) (nI K) rf fr col one (nI dd) (nI ld) (nI y) (nI row) (nI 0))) ∨
    (∃ (a' : Nat) (dp' fr' one' : Nat → Int32), fX0_readRows_54 (fX0_readRows_19 f8) 1000 (nI K) (nI dd) (nI ld) tc (nI a) (nI n) fb (nI w) (nI h) dp (nI (zpd3 dd w)) (nI y) (nI row) (nI 0) = some (0, nI a', dp') ∧ fX9_plain_38 (fX9_plain_2 (f9 + 1)) 1000 (nI n) (nI a) (nI 0) (nI w) (nI h) (nI K) rf fr col one (nI dd) (nI ld) (nI y) (nI row) (nI 0) = some (nI a', nI 0, fr', one') ∧ zPic w h dp' fr')) := by
        intro row hrow hg
        rcases hg with hg | ⟨a', dp', fr', one', t1, t2, t3, t4⟩
        · exact Or.inl hg
        · rw [t1, t2]
          exact ih (f9 + 1) (y + 1) a' dp' fr' one' (by omega) (by omega) (by omega) t3 t4
      rcases (show ld = 0 ∨ ld = 1 by omega) with e | e
      · subst e
        simp only [↓reduceIte] at g
        simp (disch := omega) only [zlit, nI_lt_nI, nI_le_nI, nI_eq_nI, nI_add, pk_mul, pk_sub, pk_div, zrem_nI, zrd_nI, zwr_nI, zb1_some, zb2_some, zb3_some, zb4_some, zb5_some, zb6_some, zb7_some, zb8_some, zlet_eq, if_pos, if_neg, pk_us, pk_un, true_and, and_true, true_or, or_true, ↓reduceIte]
        exact fin y (by omega) g
      · subst e
        rw [if_neg (by decide)] at g
        simp (disch := omega) only [zlit, nI_lt_nI, nI_le_nI, nI_eq_nI, nI_add, pk_mul, pk_sub, pk_div, zrem_nI, zrd_nI, zwr_nI, zb1_some, zb2_some, zb3_some, zb4_some, zb5_some, zb6_some, zb7_some, zb8_some, zlet_eq, if_pos, if_neg, pk_us, pk_un, true_and, and_true, true_or, or_true, ↓reduceIte]
        exact fin (h - 1 - y) (by omega) g
