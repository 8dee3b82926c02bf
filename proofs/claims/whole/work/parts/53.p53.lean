/-! change: the reference's side, and both. -/
theorem zcopyBack {fr : Nat → Int32} : ∀ (n i : Nat) (a : Nat → Int32), i ≤ 256 → 256 - i < n → fX9_copyBack_2 n a fr (nI i) = some (fun j => if i ≤ j ∧ j < 256 then fr j else a j) := by
  intro n
  induction n with
  | zero => intro i a h1 h2; omega
  | succ n ih =>
    intro i a h1 h2
    rw [fX9_copyBack_2_s]
    by_cases c : 256 ≤ i
    · simp (disch := omega) only [zlit, nI_lt_nI, nI_le_nI, nI_eq_nI, nI_add, pk_mul, pk_sub, pk_div, zrem_nI, zrd_nI, zwr_nI, zb1_some, zb2_some, zb3_some, zb4_some, zb5_some, zb6_some, zb7_some, zb8_some, zlet_eq, if_pos, if_neg, pk_us, pk_un, true_and, and_true, true_or, or_true, ↓reduceIte]
    · simp (disch := omega) only [zlit, nI_lt_nI, nI_le_nI, nI_eq_nI, nI_add, pk_mul, pk_sub, pk_div, zrem_nI, zrd_nI, zwr_nI, zb1_some, zb2_some, zb3_some, zb4_some, zb5_some, zb6_some, zb7_some, zb8_some, zlet_eq, if_pos, if_neg, pk_us, pk_un, true_and, and_true, true_or, or_true, ↓reduceIte]
      rw [ih (i + 1) (upd a i (fr i)) (by omega) (by omega)]
      congr 1
      funext j
      by_cases hij : j = i
      · subst hij
        rw [if_neg (by omega), if_pos (by omega), pk_us]
      · by_cases hj : i ≤ j ∧ j < 256
        · rw [if_pos (by omega), if_pos hj]
        · rw [if_neg (by omega), if_neg hj, pk_un hij]
/-- where a pixel of the picture goes -/
def zto (w h how x y : Nat) : Nat := if how = 0 then 8 * y + (w - 1 - x) else if how = 1 then 8 * (h - 1 - y) + x else if how = 2 then 8 * x + y else 8 * y + x
/-- what a channel of it becomes -/
def zval (how c : Nat) (grey : Int32) (v : Int32) : Int32 := if how = 3 ∧ c < 3 then grey else if how = 4 ∧ c = 3 then nI 255 else v
theorem zch150 {w h how y x T F : Nat} {grey : Int32} {now : Nat → Int32} (hT : T < 64) (hF : F + 4 ≤ 256) (hhow : how ≤ 4) (rc13 : Int32 → Int32 → (Nat → Int32) → (Nat → Int32) → Int32 → Int32 → Option (Int32 × Int32 × Int32 × (Nat → Int32) × (Nat → Int32))) (rc23 : Int32 → Int32 → (Nat → Int32) → (Nat → Int32) → Int32 → Int32 → Int32 → Option (Int32 × Int32 × Int32 × (Nat → Int32) × (Nat → Int32))) : ∀ (n k : Nat) (fr : Nat → Int32), k ≤ 4 → 4 - k < n →
    ∃ fr', fX9_change_150 rc13 rc23 n (nI w) (nI h) now fr (nI how) (nI y) (nI x) (nI T) (nI F) grey (nI k) = rc23 (nI w) (nI h) now fr' (nI how) (nI y) (nI (x + 1)) ∧ ∀ j, fr' j = if 4 * T + k ≤ j ∧ j < 4 * T + 4 then zval how (j - 4 * T) grey (now (F + (j - 4 * T))) else fr j := by
  intro n
  induction n with
  | zero => intro k fr h1 h2; omega
  | succ n ih =>
    intro k fr h1 h2
    rw [fX9_change_150_s]
    by_cases c : 4 ≤ k
    · refine ⟨fr, by simp (disch := omega) only [zlit, nI_lt_nI, nI_le_nI, nI_eq_nI, nI_add, pk_mul, pk_sub, pk_div, zrem_nI, zrd_nI, zwr_nI, zb1_some, zb2_some, zb3_some, zb4_some, zb5_some, zb6_some, zb7_some, zb8_some, zlet_eq, if_pos, if_neg, pk_us, pk_un, true_and, and_true, true_or, or_true, ↓reduceIte], fun j => by rw [if_neg (by omega)]⟩
    · obtain ⟨fr', e1, e2⟩ := ih (k + 1) (upd fr (4 * T + k) (zval how k grey (now (F + k)))) (by omega) (by omega)
      refine ⟨fr', ?_, fun j => ?_⟩
      · unfold fX9_change_195 fX9_change_212 fX9_change_214
        unfold zval at e1
        by_cases c3 : how = 3
        · by_cases k3 : k < 3
          · rw [if_pos ⟨c3, k3⟩] at e1
            simp (disch := omega) only [zlit, nI_lt_nI, nI_le_nI, nI_eq_nI, nI_add, pk_mul, pk_sub, pk_div, zrem_nI, zrd_nI, zwr_nI, zb1_some, zb2_some, zb3_some, zb4_some, zb5_some, zb6_some, zb7_some, zb8_some, zlet_eq, if_pos, if_neg, pk_us, pk_un, true_and, and_true, true_or, or_true, ↓reduceIte]
            exact e1
          · rw [if_neg (by omega), if_neg (by omega)] at e1
            simp (disch := omega) only [zlit, nI_lt_nI, nI_le_nI, nI_eq_nI, nI_add, pk_mul, pk_sub, pk_div, zrem_nI, zrd_nI, zwr_nI, zb1_some, zb2_some, zb3_some, zb4_some, zb5_some, zb6_some, zb7_some, zb8_some, zlet_eq, if_pos, if_neg, pk_us, pk_un, true_and, and_true, true_or, or_true, ↓reduceIte]
            exact e1
        · by_cases c4 : how = 4 ∧ k = 3
          · rw [if_neg (by omega), if_pos c4] at e1
            simp (disch := omega) only [zlit, nI_lt_nI, nI_le_nI, nI_eq_nI, nI_add, pk_mul, pk_sub, pk_div, zrem_nI, zrd_nI, zwr_nI, zb1_some, zb2_some, zb3_some, zb4_some, zb5_some, zb6_some, zb7_some, zb8_some, zlet_eq, if_pos, if_neg, pk_us, pk_un, true_and, and_true, true_or, or_true, ↓reduceIte]
            exact e1
          · rw [if_neg (by omega), if_neg c4] at e1
            by_cases d4 : how = 4
            · simp (disch := omega) only [zlit, nI_lt_nI, nI_le_nI, nI_eq_nI, nI_add, pk_mul, pk_sub, pk_div, zrem_nI, zrd_nI, zwr_nI, zb1_some, zb2_some, zb3_some, zb4_some, zb5_some, zb6_some, zb7_some, zb8_some, zlet_eq, if_pos, if_neg, pk_us, pk_un, true_and, and_true, true_or, or_true, ↓reduceIte]
              exact e1
            · simp (disch := omega) only [zlit, nI_lt_nI, nI_le_nI, nI_eq_nI, nI_add, pk_mul, pk_sub, pk_div, zrem_nI, zrd_nI, zwr_nI, zb1_some, zb2_some, zb3_some, zb4_some, zb5_some, zb6_some, zb7_some, zb8_some, zlet_eq, if_pos, if_neg, pk_us, pk_un, true_and, and_true, true_or, or_true, ↓reduceIte]
              exact e1
      · rw [e2 j]
        by_cases hj : j = 4 * T + k
        · subst hj
          rw [if_neg (by omega), if_pos (by omega), pk_us, show 4 * T + k - 4 * T = k by omega]
        · rw [pk_un hj]
          by_cases d : 4 * T + k ≤ j ∧ j < 4 * T + 4
          · rw [if_pos (by omega), if_pos d]
          · rw [if_neg (by omega), if_neg d]
theorem zto_lt {w h how x y : Nat} (hw : w ≤ 8) (hh : h ≤ 8) (hx : x < w) (hy : y < h) : zto w h how x y < 64 := by
  unfold zto
  repeat' split
  all_goals omega
theorem zto_inj {w h how x y x' y' : Nat} (hw : w ≤ 8) (hh : h ≤ 8) (hx : x < w) (hy : y < h) (hx' : x' < w) (hy' : y' < h) (e : zto w h how x y = zto w h how x' y') : x = x' ∧ y = y' := by
  unfold zto at e
  by_cases h0 : how = 0
  · rw [if_pos h0, if_pos h0] at e; omega
  · rw [if_neg h0, if_neg h0] at e
    by_cases h1 : how = 1
    · rw [if_pos h1, if_pos h1] at e; omega
    · rw [if_neg h1, if_neg h1] at e
      by_cases h2 : how = 2
      · rw [if_pos h2, if_pos h2] at e; omega
      · rw [if_neg h2, if_neg h2] at e; omega
/-- the value that the reference lays for channel c of pixel x y -/
def zvv (how : Nat) (now : Nat → Int32) (x y c : Nat) : Int32 := zval how c ((nI 77 * now (4 * (8 * y + x)) + nI 150 * now (4 * (8 * y + x) + 1) + nI 29 * now (4 * (8 * y + x) + 2)) / nI 256) (now (4 * (8 * y + x) + c))
theorem zch23 {w h how y : Nat} {now : Nat → Int32} (hw : w ≤ 8) (hh : h ≤ 8) (hy : y < h) (hhow : how ≤ 4) (rc13 : Int32 → Int32 → (Nat → Int32) → (Nat → Int32) → Int32 → Int32 → Option (Int32 × Int32 × Int32 × (Nat → Int32) × (Nat → Int32))) : ∀ (n x : Nat) (fr : Nat → Int32), x ≤ w → w - x < n → (∀ x' y' c, x' < w → y' < h → c < 4 → (y' < y ∨ (y' = y ∧ x' < x)) → fr (4 * zto w h how x' y' + c) = zvv how now x' y' c) →
    ∃ fr', fX9_change_23 rc13 n (nI w) (nI h) now fr (nI how) (nI y) (nI x) = rc13 (nI w) (nI h) now fr' (nI how) (nI (y + 1)) ∧ ∀ x' y' c, x' < w → y' < h → c < 4 → y' < y + 1 → fr' (4 * zto w h how x' y' + c) = zvv how now x' y' c := by
  intro n
  induction n with
  | zero => intro x fr h1 h2; omega
  | succ n ih =>
    intro x fr h1 h2 H
    rw [fX9_change_23_s]
    by_cases c : w ≤ x
    · refine ⟨fr, by simp (disch := omega) only [zlit, nI_lt_nI, nI_le_nI, nI_eq_nI, nI_add, pk_mul, pk_sub, pk_div, zrem_nI, zrd_nI, zwr_nI, zb1_some, zb2_some, zb3_some, zb4_some, zb5_some, zb6_some, zb7_some, zb8_some, zlet_eq, if_pos, if_neg, pk_us, pk_un, true_and, and_true, true_or, or_true, ↓reduceIte], fun x' y' c hx' hy' hc hp => H x' y' c hx' hy' hc (by omega)⟩
    · have hT : zto w h how x y < 64 := zto_lt hw hh (show x < w by omega) hy
      obtain ⟨fr1, e1, e2⟩ := @zch150 w h how y x (zto w h how x y) (4 * (8 * y + x)) ((nI 77 * now (4 * (8 * y + x)) + nI 150 * now (4 * (8 * y + x) + 1) + nI 29 * now (4 * (8 * y + x) + 2)) / nI 256) now hT (by omega) hhow rc13 (fX9_change_23 rc13 n) 1000 0 fr (by omega) (by omega)
      obtain ⟨fr2, e3, e4⟩ := ih (x + 1) fr1 (by omega) (by omega) (by
        intro x' y' c' hx' hy' hc hp
        rw [e2]
        by_cases d : x' = x ∧ y' = y
        · obtain ⟨rfl, rfl⟩ := d
          rw [if_pos (by omega), show 4 * zto w h how x' y' + c' - 4 * zto w h how x' y' = c' by omega]
          rfl
        · have hne : zto w h how x' y' ≠ zto w h how x y := fun q => d (zto_inj hw hh hx' hy' (show x < w by omega) hy q)
          rw [if_neg (by omega)]
          exact H x' y' c' hx' hy' hc (by omega))
      refine ⟨fr2, ?_, e4⟩
      have key : ∀ k : Int32, k = nI (zto w h how x y) → fX9_change_92 rc13 (fX9_change_23 rc13 n) (nI w) (nI h) now fr (nI how) (nI y) (nI x) k = rc13 (nI w) (nI h) now fr2 (nI how) (nI (y + 1)) := by
        intro k hk
        unfold fX9_change_92
        rw [hk]
        simp (disch := omega) only [zlit, nI_lt_nI, nI_le_nI, nI_eq_nI, nI_add, pk_mul, pk_sub, pk_div, zrem_nI, zrd_nI, zwr_nI, zb1_some, zb2_some, zb3_some, zb4_some, zb5_some, zb6_some, zb7_some, zb8_some, zlet_eq, if_pos, if_neg, pk_us, pk_un, true_and, and_true, true_or, or_true, ↓reduceIte]
        rw [e1, e3]
      have hz := key _ rfl
      by_cases c0 : how = 0
      · have ek : nI 8 * nI y + nI w - nI 1 - nI x = nI (zto w h how x y) := by unfold zto; rw [if_pos c0]; simp (disch := omega) only [zlit, nI_lt_nI, nI_le_nI, nI_eq_nI, nI_add, pk_mul, pk_sub, pk_div, zrem_nI, zrd_nI, zwr_nI, zb1_some, zb2_some, zb3_some, zb4_some, zb5_some, zb6_some, zb7_some, zb8_some, zlet_eq, if_pos, if_neg, pk_us, pk_un, true_and, and_true, true_or, or_true, ↓reduceIte]; congr 1; omega
        have := key _ ek
        rw [if_neg (by simp (disch := omega) only [zlit, nI_lt_nI, nI_le_nI, nI_eq_nI, nI_add, pk_mul, pk_sub, pk_div, zrem_nI, zrd_nI, zwr_nI, zb1_some, zb2_some, zb3_some, zb4_some, zb5_some, zb6_some, zb7_some, zb8_some, zlet_eq, if_pos, if_neg, pk_us, pk_un, true_and, and_true, true_or, or_true, ↓reduceIte]; exact c)]
        rw [if_pos (by rw [c0]; rfl)]
        exact this
      · by_cases c1 : how = 1
        · have ek : nI 8 * (nI h - nI 1 - nI y) + nI x = nI (zto w h how x y) := by unfold zto; rw [if_neg c0, if_pos c1]; simp (disch := omega) only [zlit, nI_lt_nI, nI_le_nI, nI_eq_nI, nI_add, pk_mul, pk_sub, pk_div, zrem_nI, zrd_nI, zwr_nI, zb1_some, zb2_some, zb3_some, zb4_some, zb5_some, zb6_some, zb7_some, zb8_some, zlet_eq, if_pos, if_neg, pk_us, pk_un, true_and, and_true, true_or, or_true, ↓reduceIte]
          have := key _ ek
          rw [if_neg (by simp (disch := omega) only [zlit, nI_lt_nI, nI_le_nI, nI_eq_nI, nI_add, pk_mul, pk_sub, pk_div, zrem_nI, zrd_nI, zwr_nI, zb1_some, zb2_some, zb3_some, zb4_some, zb5_some, zb6_some, zb7_some, zb8_some, zlet_eq, if_pos, if_neg, pk_us, pk_un, true_and, and_true, true_or, or_true, ↓reduceIte]; exact c), if_neg (by rw [c1]; decide), if_pos (by rw [c1]; rfl)]
          exact this
        · by_cases c2 : how = 2
          · have ek : nI 8 * nI x + nI y = nI (zto w h how x y) := by unfold zto; rw [if_neg c0, if_neg c1, if_pos c2]; simp (disch := omega) only [zlit, nI_lt_nI, nI_le_nI, nI_eq_nI, nI_add, pk_mul, pk_sub, pk_div, zrem_nI, zrd_nI, zwr_nI, zb1_some, zb2_some, zb3_some, zb4_some, zb5_some, zb6_some, zb7_some, zb8_some, zlet_eq, if_pos, if_neg, pk_us, pk_un, true_and, and_true, true_or, or_true, ↓reduceIte]
            have := key _ ek
            rw [if_neg (by simp (disch := omega) only [zlit, nI_lt_nI, nI_le_nI, nI_eq_nI, nI_add, pk_mul, pk_sub, pk_div, zrem_nI, zrd_nI, zwr_nI, zb1_some, zb2_some, zb3_some, zb4_some, zb5_some, zb6_some, zb7_some, zb8_some, zlet_eq, if_pos, if_neg, pk_us, pk_un, true_and, and_true, true_or, or_true, ↓reduceIte]; exact c), if_neg (by rw [c2]; decide), if_neg (by rw [c2]; decide), if_pos (by rw [c2]; rfl)]
            exact this
          · have ek : nI 8 * nI y + nI x = nI (zto w h how x y) := by unfold zto; rw [if_neg c0, if_neg c1, if_neg c2]; simp (disch := omega) only [zlit, nI_lt_nI, nI_le_nI, nI_eq_nI, nI_add, pk_mul, pk_sub, pk_div, zrem_nI, zrd_nI, zwr_nI, zb1_some, zb2_some, zb3_some, zb4_some, zb5_some, zb6_some, zb7_some, zb8_some, zlet_eq, if_pos, if_neg, pk_us, pk_un, true_and, and_true, true_or, or_true, ↓reduceIte]
            have := key _ ek
            rw [if_neg (by simp (disch := omega) only [zlit, nI_lt_nI, nI_le_nI, nI_eq_nI, nI_add, pk_mul, pk_sub, pk_div, zrem_nI, zrd_nI, zwr_nI, zb1_some, zb2_some, zb3_some, zb4_some, zb5_some, zb6_some, zb7_some, zb8_some, zlet_eq, if_pos, if_neg, pk_us, pk_un, true_and, and_true, true_or, or_true, ↓reduceIte]; exact c), if_neg (by simp (disch := omega) only [zlit, nI_lt_nI, nI_le_nI, nI_eq_nI, nI_add, pk_mul, pk_sub, pk_div, zrem_nI, zrd_nI, zwr_nI, zb1_some, zb2_some, zb3_some, zb4_some, zb5_some, zb6_some, zb7_some, zb8_some, zlet_eq, if_pos, if_neg, pk_us, pk_un, true_and, and_true, true_or, or_true, ↓reduceIte]; exact c0), if_neg (by simp (disch := omega) only [zlit, nI_lt_nI, nI_le_nI, nI_eq_nI, nI_add, pk_mul, pk_sub, pk_div, zrem_nI, zrd_nI, zwr_nI, zb1_some, zb2_some, zb3_some, zb4_some, zb5_some, zb6_some, zb7_some, zb8_some, zlet_eq, if_pos, if_neg, pk_us, pk_un, true_and, and_true, true_or, or_true, ↓reduceIte]; exact c1), if_neg (by simp (disch := omega) only [zlit, nI_lt_nI, nI_le_nI, nI_eq_nI, nI_add, pk_mul, pk_sub, pk_div, zrem_nI, zrd_nI, zwr_nI, zb1_some, zb2_some, zb3_some, zb4_some, zb5_some, zb6_some, zb7_some, zb8_some, zlet_eq, if_pos, if_neg, pk_us, pk_un, true_and, and_true, true_or, or_true, ↓reduceIte]; exact c2)]
            exact this
theorem zch13 {w h how : Nat} {now : Nat → Int32} (hw : w ≤ 8) (hh : h ≤ 8) (hhow : how ≤ 4) : ∀ (n y : Nat) (fr : Nat → Int32), y ≤ h → h - y < n → (∀ x' y' c, x' < w → y' < h → c < 4 → y' < y → fr (4 * zto w h how x' y' + c) = zvv how now x' y' c) →
    ∃ fr' now', fX9_change_13 n (nI w) (nI h) now fr (nI how) (nI y) = some (nI 1, nI (if how = 2 then h else w), nI (if how = 2 then w else h), now', fr') ∧ ∀ x' y' c, x' < w → y' < h → c < 4 → now' (4 * zto w h how x' y' + c) = zvv how now x' y' c := by
  intro n
  induction n with
  | zero => intro y fr h1 h2; omega
  | succ n ih =>
    intro y fr h1 h2 H
    rw [fX9_change_13_s]
    by_cases c : h ≤ y
    · have hcb := @zcopyBack fr 1000 0 now (by decide) (by decide)
      refine ⟨fr, (fun j => if 0 ≤ j ∧ j < 256 then fr j else now j), ?_, fun x' y' c' hx' hy' hc => ?_⟩
      · unfold fX9_copyBack
        by_cases c2 : how = 2
        · simp (disch := omega) only [zlit, nI_lt_nI, nI_le_nI, nI_eq_nI, nI_add, pk_mul, pk_sub, pk_div, zrem_nI, zrd_nI, zwr_nI, zb1_some, zb2_some, zb3_some, zb4_some, zb5_some, zb6_some, zb7_some, zb8_some, zlet_eq, if_pos, if_neg, pk_us, pk_un, true_and, and_true, true_or, or_true, ↓reduceIte, hcb]
        · simp (disch := omega) only [zlit, nI_lt_nI, nI_le_nI, nI_eq_nI, nI_add, pk_mul, pk_sub, pk_div, zrem_nI, zrd_nI, zwr_nI, zb1_some, zb2_some, zb3_some, zb4_some, zb5_some, zb6_some, zb7_some, zb8_some, zlet_eq, if_pos, if_neg, pk_us, pk_un, true_and, and_true, true_or, or_true, ↓reduceIte, hcb]
      · have := zto_lt (how := how) hw hh hx' hy'
        show (if 0 ≤ 4 * zto w h how x' y' + c' ∧ 4 * zto w h how x' y' + c' < 256 then fr (4 * zto w h how x' y' + c') else now (4 * zto w h how x' y' + c')) = _
        rw [if_pos (by omega)]
        exact H x' y' c' hx' hy' hc (by omega)
    · obtain ⟨fr1, e1, e2⟩ := zch23 (now := now) hw hh (show y < h by omega) hhow (fX9_change_13 n) 1000 0 fr (by omega) (by omega) (fun x' y' c' hx' hy' hc hp => H x' y' c' hx' hy' hc (by omega))
      obtain ⟨fr2, now2, e3, e4⟩ := ih (y + 1) fr1 (by omega) (by omega) (fun x' y' c' hx' hy' hc hp => e2 x' y' c' hx' hy' hc hp)
      refine ⟨fr2, now2, ?_, e4⟩
      simp (disch := omega) only [zlit, nI_lt_nI, nI_le_nI, nI_eq_nI, nI_add, pk_mul, pk_sub, pk_div, zrem_nI, zrd_nI, zwr_nI, zb1_some, zb2_some, zb3_some, zb4_some, zb5_some, zb6_some, zb7_some, zb8_some, zlet_eq, if_pos, if_neg, pk_us, pk_un, true_and, and_true, true_or, or_true, ↓reduceIte]
      rw [e1, e3]
theorem zbecome {tp pp : Nat → Int32} {a b : Int32} : fX5_become tp a b pp = some (a, b, fun j => if j < 64 then pp j else tp j) := by
  unfold fX5_become
  rw [zlet_eq]
  congr 3
  funext j
  by_cases h : j < 64
  · rw [if_pos h, pk_cpy_in (Nat.zero_le _) (by omega)]
    congr 1
    omega
  · rw [if_neg h, pk_cpy_out (by omega)]
theorem zmul64 {w h : Nat} (hw : w ≤ 8) (hh : h ≤ 8) : w * h ≤ 64 := Nat.mul_le_mul hw hh
theorem zvv_pic {w h x y c how : Nat} {px rn : Nat → Int32} (hP : zPic w h px rn) (hx : x < w) (hy : y < h) (hc : c < 4) : zvv how rn x y c = if how = 3 ∧ c < 3 then nI (zgr (px (y * w + x))) else if how = 4 ∧ c = 3 then nI 255 else nI (zch (px (y * w + x)) c) := by
  unfold zvv zval
  have h0 := hP x y 0 hx hy (by decide)
  have h1 := hP x y 1 hx hy (by decide)
  have h2 := hP x y 2 hx hy (by decide)
  have b0 := zch_lt (px (y * w + x)) 0
  have b1 := zch_lt (px (y * w + x)) 1
  have b2 := zch_lt (px (y * w + x)) 2
  rw [Nat.add_zero] at h0
  rw [h0, h1, h2, hP x y c hx hy hc]
  unfold zgr
  simp (disch := omega) only [pk_mul, nI_add, pk_div]
theorem zo_change {w h : Nat} {px rn dp fr : Nat → Int32} {dw dh : Int32} (hP : zPic w h px rn) (hw : 1 ≤ w ∧ w ≤ 8) (hh : 1 ≤ h ∧ h ≤ 8) (v : Int32) :
    ∃ (r : Int32) (w' h' : Nat) (px' rn' dp' fr' : Nat → Int32) (dw' dh' : Int32), fX8_change (nI w) (nI h) px dw dh dp v = some (r, nI w', nI h', px', dw', dh', dp') ∧ fX9_change (nI w) (nI h) rn fr v = some (r, nI w', nI h', rn', fr') ∧ (1 ≤ w' ∧ w' ≤ 8) ∧ (1 ≤ h' ∧ h' ≤ 8) ∧ zPic w' h' px' rn' := by
  unfold fX8_change fX9_change
  rcases zcase v with hv | ⟨how, hj, rfl⟩
  · have hne : ∀ k : Nat, k < 2 ^ 31 → (v = nI k) = False := fun k hk => eq_false (fun e => by rw [e] at hv; exact nI_pos hk hv)
    exact ⟨nI 0, w, h, px, rn, dp, fr, dw, dh, by simp (disch := omega) only [zlit, nI_lt_nI, nI_le_nI, nI_eq_nI, nI_add, pk_mul, pk_sub, pk_div, zrem_nI, zrd_nI, zwr_nI, zb1_some, zb2_some, zb3_some, zb4_some, zb5_some, zb6_some, zb7_some, zb8_some, zlet_eq, if_pos, if_neg, pk_us, pk_un, true_and, and_true, true_or, or_true, ↓reduceIte, hne], by simp (disch := omega) only [zlit, nI_lt_nI, nI_le_nI, nI_eq_nI, nI_add, pk_mul, pk_sub, pk_div, zrem_nI, zrd_nI, zwr_nI, zb1_some, zb2_some, zb3_some, zb4_some, zb5_some, zb6_some, zb7_some, zb8_some, zlet_eq, if_pos, if_neg, pk_us, pk_un, true_and, and_true, true_or, or_true, ↓reduceIte, zneg0 hv], hw, hh, hP⟩
  · by_cases h4 : 4 < how
    · exact ⟨nI 0, w, h, px, rn, dp, fr, dw, dh, by simp (disch := omega) only [zlit, nI_lt_nI, nI_le_nI, nI_eq_nI, nI_add, pk_mul, pk_sub, pk_div, zrem_nI, zrd_nI, zwr_nI, zb1_some, zb2_some, zb3_some, zb4_some, zb5_some, zb6_some, zb7_some, zb8_some, zlet_eq, if_pos, if_neg, pk_us, pk_un, true_and, and_true, true_or, or_true, ↓reduceIte], by simp (disch := omega) only [zlit, nI_lt_nI, nI_le_nI, nI_eq_nI, nI_add, pk_mul, pk_sub, pk_div, zrem_nI, zrd_nI, zwr_nI, zb1_some, zb2_some, zb3_some, zb4_some, zb5_some, zb6_some, zb7_some, zb8_some, zlet_eq, if_pos, if_neg, pk_us, pk_un, true_and, and_true, true_or, or_true, ↓reduceIte], hw, hh, hP⟩
    · obtain ⟨fr', now', e1, e2⟩ := @zch13 w h how rn hw.2 hh.2 (by omega) 1000 0 fr (by omega) (by omega) (fun _ _ _ _ _ _ q => absurd q (by omega))
      have e9 : ∀ x y c : Nat, x < w → y < h → c < 4 → now' (4 * zto w h how x y + c) = if how = 3 ∧ c < 3 then nI (zgr (px (y * w + x))) else if how = 4 ∧ c = 3 then nI 255 else nI (zch (px (y * w + x)) c) := fun x y c hx hy hc => (e2 x y c hx hy hc).trans (zvv_pic hP hx hy hc)
      clear e2
      have hs := zmul64 hw.2 hh.2
      rcases (show how = 0 ∨ how = 1 ∨ how = 2 ∨ how = 3 ∨ how = 4 by omega) with rfl | rfl | rfl | rfl | rfl
      · obtain ⟨f', g1, g2⟩ := zcols hw.2 hh.2 1000 0 px _ (by omega) (by omega) (@zR_self w h px)
        refine ⟨nI 1, w, h, f', now', dp, fr', dw, dh, by unfold fX5_exchangeColumns; simp (disch := omega) only [zlit, nI_lt_nI, nI_le_nI, nI_eq_nI, nI_add, pk_mul, pk_sub, pk_div, zrem_nI, zrd_nI, zwr_nI, zb1_some, zb2_some, zb3_some, zb4_some, zb5_some, zb6_some, zb7_some, zb8_some, zlet_eq, if_pos, if_neg, pk_us, pk_un, true_and, and_true, true_or, or_true, ↓reduceIte, g1], by simp (disch := omega) only [zlit, nI_lt_nI, nI_le_nI, nI_eq_nI, nI_add, pk_mul, pk_sub, pk_div, zrem_nI, zrd_nI, zwr_nI, zb1_some, zb2_some, zb3_some, zb4_some, zb5_some, zb6_some, zb7_some, zb8_some, zlet_eq, if_pos, if_neg, pk_us, pk_un, true_and, and_true, true_or, or_true, ↓reduceIte]; exact e1, hw, hh, fun x y c hx hy hc => ?_⟩
        have := e9 (w - 1 - x) y c (by omega) hy hc
        unfold zto at this
        rw [if_pos rfl, show w - 1 - (w - 1 - x) = x by omega, if_neg (by omega), if_neg (by omega)] at this
        rw [this, g2 x y hx hy]
        rfl
      · obtain ⟨f', g1, g2⟩ := zrows hw.2 hh.2 1000 0 px _ (by omega) (by omega) (@zR_self w h px)
        refine ⟨nI 1, w, h, f', now', dp, fr', dw, dh, by unfold fX5_exchangeRows; simp (disch := omega) only [zlit, nI_lt_nI, nI_le_nI, nI_eq_nI, nI_add, pk_mul, pk_sub, pk_div, zrem_nI, zrd_nI, zwr_nI, zb1_some, zb2_some, zb3_some, zb4_some, zb5_some, zb6_some, zb7_some, zb8_some, zlet_eq, if_pos, if_neg, pk_us, pk_un, true_and, and_true, true_or, or_true, ↓reduceIte, g1], by simp (disch := omega) only [zlit, nI_lt_nI, nI_le_nI, nI_eq_nI, nI_add, pk_mul, pk_sub, pk_div, zrem_nI, zrd_nI, zwr_nI, zb1_some, zb2_some, zb3_some, zb4_some, zb5_some, zb6_some, zb7_some, zb8_some, zlet_eq, if_pos, if_neg, pk_us, pk_un, true_and, and_true, true_or, or_true, ↓reduceIte]; exact e1, hw, hh, fun x y c hx hy hc => ?_⟩
        have := e9 x (h - 1 - y) c hx (by omega) hc
        unfold zto at this
        rw [if_neg (by decide), if_pos rfl, show h - 1 - (h - 1 - y) = y by omega, if_neg (by omega), if_neg (by omega)] at this
        rw [this, g2 x y hx hy]
        rfl
      · obtain ⟨f', g1, g2⟩ := @zturn h w px hh.2 hw.2 1000 0 (fun j => if j < 64 then nI 255 else dp j) _ (by omega) (by omega) (@zR_self h w _)
        refine ⟨nI 1, h, w, (fun j => if j < 64 then f' j else px j), now', f', fr', nI h, nI w, by unfold fX5_becomeTurned; simp (disch := omega) only [zlit, nI_lt_nI, nI_le_nI, nI_eq_nI, nI_add, pk_mul, pk_sub, pk_div, zrem_nI, zrd_nI, zwr_nI, zb1_some, zb2_some, zb3_some, zb4_some, zb5_some, zb6_some, zb7_some, zb8_some, zlet_eq, if_pos, if_neg, pk_us, pk_un, true_and, and_true, true_or, or_true, ↓reduceIte, zbegin, g1, zbecome], by simp (disch := omega) only [zlit, nI_lt_nI, nI_le_nI, nI_eq_nI, nI_add, pk_mul, pk_sub, pk_div, zrem_nI, zrd_nI, zwr_nI, zb1_some, zb2_some, zb3_some, zb4_some, zb5_some, zb6_some, zb7_some, zb8_some, zlet_eq, if_pos, if_neg, pk_us, pk_un, true_and, and_true, true_or, or_true, ↓reduceIte]; exact e1, hh, hw, fun x y c hx hy hc => ?_⟩
        have := e9 y x c hy hx hc
        unfold zto at this
        rw [if_neg (by decide), if_neg (by decide), if_pos rfl, if_neg (by omega), if_neg (by omega)] at this
        have hi := zidx hh.2 hw.2 hx hy
        show now' (4 * (8 * y + x) + c) = nI (zch (if y * h + x < 64 then f' (y * h + x) else px (y * h + x)) c)
        rw [this, if_pos hi, g2 x y hx hy]
        rfl
      · obtain ⟨f', g1, g2⟩ := zlose hs 1000 0 px (by omega) (by omega)
        refine ⟨nI 1, w, h, f', now', dp, fr', dw, dh, by unfold fX5_loseColour; simp (disch := omega) only [zlit, nI_lt_nI, nI_le_nI, nI_eq_nI, nI_add, pk_mul, pk_sub, pk_div, zrem_nI, zrd_nI, zwr_nI, zb1_some, zb2_some, zb3_some, zb4_some, zb5_some, zb6_some, zb7_some, zb8_some, zlet_eq, if_pos, if_neg, pk_us, pk_un, true_and, and_true, true_or, or_true, ↓reduceIte, g1], by simp (disch := omega) only [zlit, nI_lt_nI, nI_le_nI, nI_eq_nI, nI_add, pk_mul, pk_sub, pk_div, zrem_nI, zrd_nI, zwr_nI, zb1_some, zb2_some, zb3_some, zb4_some, zb5_some, zb6_some, zb7_some, zb8_some, zlet_eq, if_pos, if_neg, pk_us, pk_un, true_and, and_true, true_or, or_true, ↓reduceIte]; exact e1, hw, hh, fun x y c hx hy hc => ?_⟩
        have := e9 x y c hx hy hc
        unfold zto at this
        rw [if_neg (by decide), if_neg (by decide), if_neg (by decide)] at this
        have hi : y * w + x < w * h := by
          have : (y + 1) * w ≤ h * w := Nat.mul_le_mul_right _ hy
          rw [Nat.add_mul, Nat.one_mul, Nat.mul_comm h w] at this
          omega
        have b := zgr_lt (px (y * w + x))
        have b3 := zch_lt (px (y * w + x)) 3
        rw [g2, if_pos (show 0 ≤ y * w + x ∧ y * w + x < w * h from ⟨Nat.zero_le _, hi⟩), this]
        rcases (show c = 0 ∨ c = 1 ∨ c = 2 ∨ c = 3 by omega) with rfl | rfl | rfl | rfl
        · rw [if_pos (by decide), zch0 b b b b3]
        · rw [if_pos (by decide), zch1 b b b b3]
        · rw [if_pos (by decide), zch2 b b b b3]
        · rw [if_neg (by decide), if_neg (by decide), zch3 b b b b3]
      · obtain ⟨f', g1, g2⟩ := zopq hs 1000 0 px (by omega) (by omega)
        refine ⟨nI 1, w, h, f', now', dp, fr', dw, dh, by unfold fX5_becomeOpaque; simp (disch := omega) only [zlit, nI_lt_nI, nI_le_nI, nI_eq_nI, nI_add, pk_mul, pk_sub, pk_div, zrem_nI, zrd_nI, zwr_nI, zb1_some, zb2_some, zb3_some, zb4_some, zb5_some, zb6_some, zb7_some, zb8_some, zlet_eq, if_pos, if_neg, pk_us, pk_un, true_and, and_true, true_or, or_true, ↓reduceIte, g1], by simp (disch := omega) only [zlit, nI_lt_nI, nI_le_nI, nI_eq_nI, nI_add, pk_mul, pk_sub, pk_div, zrem_nI, zrd_nI, zwr_nI, zb1_some, zb2_some, zb3_some, zb4_some, zb5_some, zb6_some, zb7_some, zb8_some, zlet_eq, if_pos, if_neg, pk_us, pk_un, true_and, and_true, true_or, or_true, ↓reduceIte]; exact e1, hw, hh, fun x y c hx hy hc => ?_⟩
        have := e9 x y c hx hy hc
        unfold zto at this
        rw [if_neg (by decide), if_neg (by decide), if_neg (by decide)] at this
        have hi : y * w + x < w * h := by
          have : (y + 1) * w ≤ h * w := Nat.mul_le_mul_right _ hy
          rw [Nat.add_mul, Nat.one_mul, Nat.mul_comm h w] at this
          omega
        have b0 := zch_lt (px (y * w + x)) 0
        have b1 := zch_lt (px (y * w + x)) 1
        have b2 := zch_lt (px (y * w + x)) 2
        rw [g2, if_pos (show 0 ≤ y * w + x ∧ y * w + x < w * h from ⟨Nat.zero_le _, hi⟩), this, if_neg (by omega)]
        rcases (show c = 0 ∨ c = 1 ∨ c = 2 ∨ c = 3 by omega) with rfl | rfl | rfl | rfl
        · rw [if_neg (by decide), zch0 b0 b1 b2 (by decide)]
        · rw [if_neg (by decide), zch1 b0 b1 b2 (by decide)]
        · rw [if_neg (by decide), zch2 b0 b1 b2 (by decide)]
        · rw [if_pos (by decide), zch3 b0 b1 b2 (by decide)]
