/-! Small writers; the fourth format's writers. -/
theorem zadd' {f : Nat → Int32} {l : List Nat} {v : Nat} (h : l.length < 800) (hv : v < 2 ^ 32) : fX9_add (nI l.length) (zw f l) (nI v) = some (nI (l ++ [v % 256]).length, zw f (l ++ [v % 256])) := by
  unfold fX9_add
  simp (disch := omega) only [zlit, nI_lt_nI, nI_le_nI, nI_eq_nI, nI_add, pk_mul, pk_sub, pk_div, zrem_nI, zrd_nI, zwr_nI, zb1_some, zb2_some, zb3_some, zb4_some, zb5_some, zb6_some, zb7_some, zb8_some, zlet_eq, if_pos, if_neg, pk_us, pk_un, true_and, and_true, true_or, or_true, ↓reduceIte, zand255]
  rw [zw_upd, List.length_append]
  rfl
theorem zzeros {f : Nat → Int32} {m : Nat} (hm : m ≤ 800) : ∀ (n i : Nat) (l : List Nat), i ≤ m → m - i < n → l.length + (m - i) ≤ 800 → fX2_appendZeros_2 n (nI l.length) (zw f l) (nI m) (nI i) = some (nI (l ++ List.replicate (m - i) 0).length, zw f (l ++ List.replicate (m - i) 0)) := by
  intro n
  induction n with
  | zero => intro i l h1 h2; omega
  | succ n ih =>
    intro i l h1 h2 h3
    rw [fX2_appendZeros_2_s]
    by_cases c : m ≤ i
    · rw [show m - i = 0 by omega, List.replicate_zero, List.append_nil]
      simp (disch := omega) only [zlit, nI_lt_nI, nI_le_nI, nI_eq_nI, nI_add, pk_mul, pk_sub, pk_div, zrem_nI, zrd_nI, zwr_nI, zb1_some, zb2_some, zb3_some, zb4_some, zb5_some, zb6_some, zb7_some, zb8_some, zlet_eq, if_pos, if_neg, pk_us, pk_un, true_and, and_true, true_or, or_true, ↓reduceIte]
    · rw [show m - i = (m - (i + 1)) + 1 by omega, List.replicate_succ, show l ++ 0 :: List.replicate (m - (i + 1)) 0 = (l ++ [0]) ++ List.replicate (m - (i + 1)) 0 by simp, ← ih (i + 1) (l ++ [0]) (by omega) (by omega) (by rw [List.length_append]; simp; omega)]
      simp (disch := first | omega | (simp only [List.length_append, List.length_cons, List.length_nil] <;> omega)) only [zlit, nI_lt_nI, nI_le_nI, nI_eq_nI, nI_add, pk_mul, pk_sub, pk_div, zrem_nI, zrd_nI, zwr_nI, zb1_some, zb2_some, zb3_some, zb4_some, zb5_some, zb6_some, zb7_some, zb8_some, zlet_eq, if_pos, if_neg, pk_us, pk_un, true_and, and_true, true_or, or_true, ↓reduceIte, List.append_assoc, List.cons_append, List.nil_append, zap]
theorem zzeros8 {f : Nat → Int32} {m : Nat} {l : List Nat} (h : l.length + m ≤ 800) : fX2_appendZeros (nI l.length) (zw f l) (nI m) = some (nI (l ++ List.replicate m 0).length, zw f (l ++ List.replicate m 0)) := by
  unfold fX2_appendZeros
  exact zzeros (by omega) 1000 0 l (by omega) (by omega) (by omega)
theorem zshr_n {n : Nat} (k : Nat) (hk : k < 32) (h : n < 2 ^ 31) : zshr (nI n) (nI k) = nI (n / 2 ^ k) := by
  unfold zshr
  refine pk_shrN h _ k ?_
  have hh : ∀ k : Fin 32, (((nI k.val) &&& 31).toBitVec.smod 32).toNat = k.val := by decide
  exact hh ⟨k, hk⟩
theorem zzeros_9 {f : Nat → Int32} {m : Nat} (hm : m ≤ 800) : ∀ (n i : Nat) (l : List Nat), i ≤ m → m - i < n → l.length + (m - i) ≤ 800 → fX9_little_2 n (nI l.length) (zw f l) (nI 0) (nI m) (nI i) = some (nI (l ++ List.replicate (m - i) 0).length, zw f (l ++ List.replicate (m - i) 0)) := by
  have hz : ∀ s : Int32, zshr (nI 0) s = nI 0 := by
    intro s
    unfold zshr
    apply Int32.toInt_inj.mp
    simp [nI]
  intro n
  induction n with
  | zero => intro i l h1 h2; omega
  | succ n ih =>
    intro i l h1 h2 h3
    rw [fX9_little_2_s]
    by_cases c : m ≤ i
    · rw [show m - i = 0 by omega, List.replicate_zero, List.append_nil]
      simp (disch := omega) only [zlit, nI_lt_nI, nI_le_nI, nI_eq_nI, nI_add, pk_mul, pk_sub, pk_div, zrem_nI, zrd_nI, zwr_nI, zb1_some, zb2_some, zb3_some, zb4_some, zb5_some, zb6_some, zb7_some, zb8_some, zlet_eq, if_pos, if_neg, pk_us, pk_un, true_and, and_true, true_or, or_true, ↓reduceIte]
    · rw [show m - i = (m - (i + 1)) + 1 by omega, List.replicate_succ, show l ++ 0 :: List.replicate (m - (i + 1)) 0 = (l ++ [0]) ++ List.replicate (m - (i + 1)) 0 by simp, ← ih (i + 1) (l ++ [0]) (by omega) (by omega) (by rw [List.length_append]; simp; omega)]
      simp (disch := first | omega | (simp only [List.length_append, List.length_cons, List.length_nil] <;> omega)) only [zlit, nI_lt_nI, nI_le_nI, nI_eq_nI, nI_add, pk_mul, pk_sub, pk_div, zrem_nI, zrd_nI, zwr_nI, zb1_some, zb2_some, zb3_some, zb4_some, zb5_some, zb6_some, zb7_some, zb8_some, zlet_eq, if_pos, if_neg, pk_us, pk_un, true_and, and_true, true_or, or_true, ↓reduceIte, List.append_assoc, List.cons_append, List.nil_append, hz, zadd]
theorem zzeros9 {f : Nat → Int32} {m : Nat} {l : List Nat} (h : l.length + m ≤ 800) : fX9_little (nI l.length) (zw f l) (nI 0) (nI m) = some (nI (l ++ List.replicate m 0).length, zw f (l ++ List.replicate m 0)) := by
  unfold fX9_little
  exact zzeros_9 (by omega) 1000 0 l (by omega) (by omega) (by omega)
theorem zush_n {v : Nat} (hv : v < 2 ^ 32) (k : Nat) (hk : k < 32) : zushr (nI v) (nI k) = nI (v / 2 ^ k) := by
  rw [zushr_n _ k hk, ztn hv]
theorem zlit2_8 {f : Nat → Int32} {v : Nat} {l : List Nat} (h : l.length + 2 ≤ 800) (hv : v < 2 ^ 31) : fX2_appendLittle (nI l.length) (zw f l) (nI 2) (nI v) = some (nI (l ++ [v % 256, v / 256 % 256]).length, zw f (l ++ [v % 256, v / 256 % 256])) := by
  unfold fX2_appendLittle
  rw [fX2_appendLittle_2_s]
  simp (disch := first | omega | (simp only [List.length_append, List.length_cons, List.length_nil] <;> omega)) only [zlit, nI_lt_nI, nI_le_nI, nI_eq_nI, nI_add, pk_mul, pk_sub, pk_div, zrem_nI, zrd_nI, zwr_nI, zb1_some, zb2_some, zb3_some, zb4_some, zb5_some, zb6_some, zb7_some, zb8_some, zlet_eq, if_pos, if_neg, pk_us, pk_un, true_and, and_true, true_or, or_true, ↓reduceIte, List.append_assoc, List.cons_append, List.nil_append, zush_n, zand255, zap]
  rw [fX2_appendLittle_2_s]
  simp (disch := first | omega | (simp only [List.length_append, List.length_cons, List.length_nil] <;> omega)) only [zlit, nI_lt_nI, nI_le_nI, nI_eq_nI, nI_add, pk_mul, pk_sub, pk_div, zrem_nI, zrd_nI, zwr_nI, zb1_some, zb2_some, zb3_some, zb4_some, zb5_some, zb6_some, zb7_some, zb8_some, zlet_eq, if_pos, if_neg, pk_us, pk_un, true_and, and_true, true_or, or_true, ↓reduceIte, List.append_assoc, List.cons_append, List.nil_append, zush_n, zand255, zap]
  rw [fX2_appendLittle_2_s]
  simp (disch := first | omega | (simp only [List.length_append, List.length_cons, List.length_nil] <;> omega)) only [zlit, nI_lt_nI, nI_le_nI, nI_eq_nI, nI_add, pk_mul, pk_sub, pk_div, zrem_nI, zrd_nI, zwr_nI, zb1_some, zb2_some, zb3_some, zb4_some, zb5_some, zb6_some, zb7_some, zb8_some, zlet_eq, if_pos, if_neg, pk_us, pk_un, true_and, and_true, true_or, or_true, ↓reduceIte, List.append_assoc, List.cons_append, List.nil_append, zush_n, zand255, zap]
  simp only [Nat.reduceMul, Nat.reducePow, Nat.div_one]
theorem zlit2_9 {f : Nat → Int32} {v : Nat} {l : List Nat} (h : l.length + 2 ≤ 800) (hv : v < 2 ^ 31) : fX9_little (nI l.length) (zw f l) (nI v) (nI 2) = some (nI (l ++ [v % 256, v / 256 % 256]).length, zw f (l ++ [v % 256, v / 256 % 256])) := by
  unfold fX9_little
  rw [fX9_little_2_s]
  simp (disch := first | omega | (simp only [List.length_append, List.length_cons, List.length_nil] <;> omega)) only [zlit, nI_lt_nI, nI_le_nI, nI_eq_nI, nI_add, pk_mul, pk_sub, pk_div, zrem_nI, zrd_nI, zwr_nI, zb1_some, zb2_some, zb3_some, zb4_some, zb5_some, zb6_some, zb7_some, zb8_some, zlet_eq, if_pos, if_neg, pk_us, pk_un, true_and, and_true, true_or, or_true, ↓reduceIte, List.append_assoc, List.cons_append, List.nil_append, zshr_n, zadd']
  rw [fX9_little_2_s]
  simp (disch := first | omega | (simp only [List.length_append, List.length_cons, List.length_nil] <;> omega)) only [zlit, nI_lt_nI, nI_le_nI, nI_eq_nI, nI_add, pk_mul, pk_sub, pk_div, zrem_nI, zrd_nI, zwr_nI, zb1_some, zb2_some, zb3_some, zb4_some, zb5_some, zb6_some, zb7_some, zb8_some, zlet_eq, if_pos, if_neg, pk_us, pk_un, true_and, and_true, true_or, or_true, ↓reduceIte, List.append_assoc, List.cons_append, List.nil_append, zshr_n, zadd']
  rw [fX9_little_2_s]
  simp (disch := first | omega | (simp only [List.length_append, List.length_cons, List.length_nil] <;> omega)) only [zlit, nI_lt_nI, nI_le_nI, nI_eq_nI, nI_add, pk_mul, pk_sub, pk_div, zrem_nI, zrd_nI, zwr_nI, zb1_some, zb2_some, zb3_some, zb4_some, zb5_some, zb6_some, zb7_some, zb8_some, zlet_eq, if_pos, if_neg, pk_us, pk_un, true_and, and_true, true_or, or_true, ↓reduceIte, List.append_assoc, List.cons_append, List.nil_append]
  simp only [Nat.reduceMul, Nat.reducePow, Nat.div_one]
theorem zlit4_8 {f : Nat → Int32} {v : Nat} {l : List Nat} (h : l.length + 4 ≤ 800) (hv : v < 2 ^ 31) : fX2_appendLittle (nI l.length) (zw f l) (nI 4) (nI v) = some (nI (l ++ [v % 256, v / 256 % 256, v / 65536 % 256, v / 16777216 % 256]).length, zw f (l ++ [v % 256, v / 256 % 256, v / 65536 % 256, v / 16777216 % 256])) := by
  unfold fX2_appendLittle
  rw [fX2_appendLittle_2_s]
  simp (disch := first | omega | (simp only [List.length_append, List.length_cons, List.length_nil] <;> omega)) only [zlit, nI_lt_nI, nI_le_nI, nI_eq_nI, nI_add, pk_mul, pk_sub, pk_div, zrem_nI, zrd_nI, zwr_nI, zb1_some, zb2_some, zb3_some, zb4_some, zb5_some, zb6_some, zb7_some, zb8_some, zlet_eq, if_pos, if_neg, pk_us, pk_un, true_and, and_true, true_or, or_true, ↓reduceIte, List.append_assoc, List.cons_append, List.nil_append, zush_n, zand255, zap]
  rw [fX2_appendLittle_2_s]
  simp (disch := first | omega | (simp only [List.length_append, List.length_cons, List.length_nil] <;> omega)) only [zlit, nI_lt_nI, nI_le_nI, nI_eq_nI, nI_add, pk_mul, pk_sub, pk_div, zrem_nI, zrd_nI, zwr_nI, zb1_some, zb2_some, zb3_some, zb4_some, zb5_some, zb6_some, zb7_some, zb8_some, zlet_eq, if_pos, if_neg, pk_us, pk_un, true_and, and_true, true_or, or_true, ↓reduceIte, List.append_assoc, List.cons_append, List.nil_append, zush_n, zand255, zap]
  rw [fX2_appendLittle_2_s]
  simp (disch := first | omega | (simp only [List.length_append, List.length_cons, List.length_nil] <;> omega)) only [zlit, nI_lt_nI, nI_le_nI, nI_eq_nI, nI_add, pk_mul, pk_sub, pk_div, zrem_nI, zrd_nI, zwr_nI, zb1_some, zb2_some, zb3_some, zb4_some, zb5_some, zb6_some, zb7_some, zb8_some, zlet_eq, if_pos, if_neg, pk_us, pk_un, true_and, and_true, true_or, or_true, ↓reduceIte, List.append_assoc, List.cons_append, List.nil_append, zush_n, zand255, zap]
  rw [fX2_appendLittle_2_s]
  simp (disch := first | omega | (simp only [List.length_append, List.length_cons, List.length_nil] <;> omega)) only [zlit, nI_lt_nI, nI_le_nI, nI_eq_nI, nI_add, pk_mul, pk_sub, pk_div, zrem_nI, zrd_nI, zwr_nI, zb1_some, zb2_some, zb3_some, zb4_some, zb5_some, zb6_some, zb7_some, zb8_some, zlet_eq, if_pos, if_neg, pk_us, pk_un, true_and, and_true, true_or, or_true, ↓reduceIte, List.append_assoc, List.cons_append, List.nil_append, zush_n, zand255, zap]
  rw [fX2_appendLittle_2_s]
  simp (disch := first | omega | (simp only [List.length_append, List.length_cons, List.length_nil] <;> omega)) only [zlit, nI_lt_nI, nI_le_nI, nI_eq_nI, nI_add, pk_mul, pk_sub, pk_div, zrem_nI, zrd_nI, zwr_nI, zb1_some, zb2_some, zb3_some, zb4_some, zb5_some, zb6_some, zb7_some, zb8_some, zlet_eq, if_pos, if_neg, pk_us, pk_un, true_and, and_true, true_or, or_true, ↓reduceIte, List.append_assoc, List.cons_append, List.nil_append, zush_n, zand255, zap]
  simp only [Nat.reduceMul, Nat.reducePow, Nat.div_one]
theorem zlit4_9 {f : Nat → Int32} {v : Nat} {l : List Nat} (h : l.length + 4 ≤ 800) (hv : v < 2 ^ 31) : fX9_little (nI l.length) (zw f l) (nI v) (nI 4) = some (nI (l ++ [v % 256, v / 256 % 256, v / 65536 % 256, v / 16777216 % 256]).length, zw f (l ++ [v % 256, v / 256 % 256, v / 65536 % 256, v / 16777216 % 256])) := by
  unfold fX9_little
  rw [fX9_little_2_s]
  simp (disch := first | omega | (simp only [List.length_append, List.length_cons, List.length_nil] <;> omega)) only [zlit, nI_lt_nI, nI_le_nI, nI_eq_nI, nI_add, pk_mul, pk_sub, pk_div, zrem_nI, zrd_nI, zwr_nI, zb1_some, zb2_some, zb3_some, zb4_some, zb5_some, zb6_some, zb7_some, zb8_some, zlet_eq, if_pos, if_neg, pk_us, pk_un, true_and, and_true, true_or, or_true, ↓reduceIte, List.append_assoc, List.cons_append, List.nil_append, zshr_n, zadd']
  rw [fX9_little_2_s]
  simp (disch := first | omega | (simp only [List.length_append, List.length_cons, List.length_nil] <;> omega)) only [zlit, nI_lt_nI, nI_le_nI, nI_eq_nI, nI_add, pk_mul, pk_sub, pk_div, zrem_nI, zrd_nI, zwr_nI, zb1_some, zb2_some, zb3_some, zb4_some, zb5_some, zb6_some, zb7_some, zb8_some, zlet_eq, if_pos, if_neg, pk_us, pk_un, true_and, and_true, true_or, or_true, ↓reduceIte, List.append_assoc, List.cons_append, List.nil_append, zshr_n, zadd']
  rw [fX9_little_2_s]
  simp (disch := first | omega | (simp only [List.length_append, List.length_cons, List.length_nil] <;> omega)) only [zlit, nI_lt_nI, nI_le_nI, nI_eq_nI, nI_add, pk_mul, pk_sub, pk_div, zrem_nI, zrd_nI, zwr_nI, zb1_some, zb2_some, zb3_some, zb4_some, zb5_some, zb6_some, zb7_some, zb8_some, zlet_eq, if_pos, if_neg, pk_us, pk_un, true_and, and_true, true_or, or_true, ↓reduceIte, List.append_assoc, List.cons_append, List.nil_append, zshr_n, zadd']
  rw [fX9_little_2_s]
  simp (disch := first | omega | (simp only [List.length_append, List.length_cons, List.length_nil] <;> omega)) only [zlit, nI_lt_nI, nI_le_nI, nI_eq_nI, nI_add, pk_mul, pk_sub, pk_div, zrem_nI, zrd_nI, zwr_nI, zb1_some, zb2_some, zb3_some, zb4_some, zb5_some, zb6_some, zb7_some, zb8_some, zlet_eq, if_pos, if_neg, pk_us, pk_un, true_and, and_true, true_or, or_true, ↓reduceIte, List.append_assoc, List.cons_append, List.nil_append, zshr_n, zadd']
  rw [fX9_little_2_s]
  simp (disch := first | omega | (simp only [List.length_append, List.length_cons, List.length_nil] <;> omega)) only [zlit, nI_lt_nI, nI_le_nI, nI_eq_nI, nI_add, pk_mul, pk_sub, pk_div, zrem_nI, zrd_nI, zwr_nI, zb1_some, zb2_some, zb3_some, zb4_some, zb5_some, zb6_some, zb7_some, zb8_some, zlet_eq, if_pos, if_neg, pk_us, pk_un, true_and, and_true, true_or, or_true, ↓reduceIte, List.append_assoc, List.cons_append, List.nil_append]
  simp only [Nat.reduceMul, Nat.reducePow, Nat.div_one]
theorem zbgr8 {f : Nat → Int32} {p : Int32} {l : List Nat} (h : l.length + 3 ≤ 800) : fX2_appendBlueGreenRed (nI l.length) (zw f l) p = some (nI (l ++ [zch p 2, zch p 1, zch p 0]).length, zw f (l ++ [zch p 2, zch p 1, zch p 0])) := by
  unfold fX2_appendBlueGreenRed
  simp (disch := first | omega | (simp only [List.length_append, List.length_cons, List.length_nil] <;> omega)) only [zlit, nI_lt_nI, nI_le_nI, nI_eq_nI, nI_add, pk_mul, pk_sub, pk_div, zrem_nI, zrd_nI, zwr_nI, zb1_some, zb2_some, zb3_some, zb4_some, zb5_some, zb6_some, zb7_some, zb8_some, zlet_eq, if_pos, if_neg, pk_us, pk_un, true_and, and_true, true_or, or_true, ↓reduceIte, List.append_assoc, List.cons_append, List.nil_append, zblue, zgreen, zred, zap]
theorem zbgr9 {w h k : Nat} {px rn f : Nat → Int32} {l : List Nat} (hw : w ≤ 8) (hh : h ≤ 8) (hP : zPic w h px rn) (hk : k < w * h) (hl : l.length + 3 ≤ 800) : fX9_backwards (nI w) (nI l.length) rn (zw f l) (nI k) = some (nI (l ++ [zch (px k) 2, zch (px k) 1, zch (px k) 0]).length, zw f (l ++ [zch (px k) 2, zch (px k) 1, zch (px k) 0])) := by
  have b0 := zch_lt (px k) 0
  have b1 := zch_lt (px k) 1
  have b2 := zch_lt (px k) 2
  unfold fX9_backwards
  simp (disch := first | omega | (simp only [List.length_append, List.length_cons, List.length_nil] <;> omega)) only [zlit, nI_lt_nI, nI_le_nI, nI_eq_nI, nI_add, pk_mul, pk_sub, pk_div, zrem_nI, zrd_nI, zwr_nI, zb1_some, zb2_some, zb3_some, zb4_some, zb5_some, zb6_some, zb7_some, zb8_some, zlet_eq, if_pos, if_neg, pk_us, pk_un, true_and, and_true, true_or, or_true, ↓reduceIte, List.append_assoc, List.cons_append, List.nil_append, zchan hw hh hP, zadd]
/-- the bytes of a pixel -/
def zL3 (px : Nat → Int32) (N k : Nat) : List Nat := if N = 1 then [zch (px k) 0] else if N = 4 then [zch (px k) 2, zch (px k) 1, zch (px k) 0, zch (px k) 3] else [zch (px k) 2, zch (px k) 1, zch (px k) 0]
theorem zL3_len (px : Nat → Int32) (N k : Nat) : (zL3 px N k).length ≤ 4 := by
  unfold zL3
  split
  · exact Nat.le_of_ble_eq_true rfl
  · split
    · exact Nat.le_of_ble_eq_true rfl
    · exact Nat.le_of_ble_eq_true rfl
theorem zL3_all (px : Nat → Int32) (N k : Nat) : ∀ u ∈ zL3 px N k, u < 256 := by
  have b0 := zch_lt (px k) 0
  have b1 := zch_lt (px k) 1
  have b2 := zch_lt (px k) 2
  have b3 := zch_lt (px k) 3
  intro u hu
  unfold zL3 at hu
  split at hu
  · simp at hu; omega
  · split at hu
    · simp at hu; omega
    · simp at hu; omega
theorem ztones {w h k N : Nat} {px rn f : Nat → Int32} {l : List Nat} (hw : w ≤ 8) (hh : h ≤ 8) (hP : zPic w h px rn) (hk : k < w * h) (hN : N = 1 ∨ N = 3 ∨ N = 4) (hl : l.length + 4 ≤ 800) : fX9_tones (nI w) (nI l.length) rn (zw f l) (nI k) (nI N) = some (nI (l ++ zL3 px N k).length, zw f (l ++ zL3 px N k)) := by
  have b0 := zch_lt (px k) 0
  have b3 := zch_lt (px k) 3
  unfold fX9_tones zL3
  rcases hN with rfl | rfl | rfl
  · simp (disch := first | omega | (simp only [List.length_append, List.length_cons, List.length_nil] <;> omega)) only [zlit, nI_lt_nI, nI_le_nI, nI_eq_nI, nI_add, pk_mul, pk_sub, pk_div, zrem_nI, zrd_nI, zwr_nI, zb1_some, zb2_some, zb3_some, zb4_some, zb5_some, zb6_some, zb7_some, zb8_some, zlet_eq, if_pos, if_neg, pk_us, pk_un, true_and, and_true, true_or, or_true, ↓reduceIte, List.append_assoc, List.cons_append, List.nil_append, zchan hw hh hP, zadd, zbgr9 hw hh hP]
  · simp (disch := first | omega | (simp only [List.length_append, List.length_cons, List.length_nil] <;> omega)) only [zlit, nI_lt_nI, nI_le_nI, nI_eq_nI, nI_add, pk_mul, pk_sub, pk_div, zrem_nI, zrd_nI, zwr_nI, zb1_some, zb2_some, zb3_some, zb4_some, zb5_some, zb6_some, zb7_some, zb8_some, zlet_eq, if_pos, if_neg, pk_us, pk_un, true_and, and_true, true_or, or_true, ↓reduceIte, List.append_assoc, List.cons_append, List.nil_append, zchan hw hh hP, zadd, zbgr9 hw hh hP]
  · simp (disch := first | omega | (simp only [List.length_append, List.length_cons, List.length_nil] <;> omega)) only [zlit, nI_lt_nI, nI_le_nI, nI_eq_nI, nI_add, pk_mul, pk_sub, pk_div, zrem_nI, zrd_nI, zwr_nI, zb1_some, zb2_some, zb3_some, zb4_some, zb5_some, zb6_some, zb7_some, zb8_some, zlet_eq, if_pos, if_neg, pk_us, pk_un, true_and, and_true, true_or, or_true, ↓reduceIte, List.append_assoc, List.cons_append, List.nil_append, zchan hw hh hP, zadd, zbgr9 hw hh hP]
theorem zwpx {w h y t N : Nat} {px f : Nat → Int32} (hw : w ≤ 8) (hh : h ≤ 8) (hy : y < h) (ht : t ≤ w) (hN : N = 1 ∨ N = 3 ∨ N = 4) : ∀ (n x : Nat) (l : List Nat), x ≤ t → t - x < n → l.length + 4 * (t - x) ≤ 800 →
    fX4_writePixels_3 n (nI (8 * N)) (nI w) px (nI l.length) (zw f l) (nI y) (nI t) (nI x) = some (nI (l ++ zfl (zL3 px N) (y * w + x) (t - x)).length, zw f (l ++ zfl (zL3 px N) (y * w + x) (t - x))) := by
  intro n
  induction n with
  | zero => intro x l h1 h2; omega
  | succ n ih =>
    intro x l h1 h2 h3
    rw [fX4_writePixels_3_s]
    by_cases c : t ≤ x
    · rw [show t - x = 0 by omega, zfl_0, List.append_nil]
      simp (disch := omega) only [zlit, nI_lt_nI, nI_le_nI, nI_eq_nI, nI_add, pk_mul, pk_sub, pk_div, zrem_nI, zrd_nI, zwr_nI, zb1_some, zb2_some, zb3_some, zb4_some, zb5_some, zb6_some, zb7_some, zb8_some, zlet_eq, if_pos, if_neg, pk_us, pk_un, true_and, and_true, true_or, or_true, ↓reduceIte]
    · have hi := zidx hw hh (show x < w by omega) hy
      have hl := zL3_len px N (y * w + x)
      have := ih (x + 1) (l ++ zL3 px N (y * w + x)) (by omega) (by omega) (by rw [List.length_append]; omega)
      rw [show t - x = (t - (x + 1)) + 1 by omega, zfl_s, ← List.append_assoc, show y * w + x + 1 = y * w + (x + 1) by omega, ← this]
      unfold fX5_at fX4_writePixels_49 fX4_writePixels_69 zL3
      rcases hN with rfl | rfl | rfl
      · simp (disch := first | omega | (simp only [List.length_append, List.length_cons, List.length_nil] <;> omega)) only [zlit, nI_lt_nI, nI_le_nI, nI_eq_nI, nI_add, pk_mul, pk_sub, pk_div, zrem_nI, zrd_nI, zwr_nI, zb1_some, zb2_some, zb3_some, zb4_some, zb5_some, zb6_some, zb7_some, zb8_some, zlet_eq, if_pos, if_neg, pk_us, pk_un, true_and, and_true, true_or, or_true, ↓reduceIte, List.append_assoc, List.cons_append, List.nil_append, zred, zap, zbgr8, zalpha]
      · simp (disch := first | omega | (simp only [List.length_append, List.length_cons, List.length_nil] <;> omega)) only [zlit, nI_lt_nI, nI_le_nI, nI_eq_nI, nI_add, pk_mul, pk_sub, pk_div, zrem_nI, zrd_nI, zwr_nI, zb1_some, zb2_some, zb3_some, zb4_some, zb5_some, zb6_some, zb7_some, zb8_some, zlet_eq, if_pos, if_neg, pk_us, pk_un, true_and, and_true, true_or, or_true, ↓reduceIte, List.append_assoc, List.cons_append, List.nil_append, zred, zap, zbgr8, zalpha]
      · simp (disch := first | omega | (simp only [List.length_append, List.length_cons, List.length_nil] <;> omega)) only [zlit, nI_lt_nI, nI_le_nI, nI_eq_nI, nI_add, pk_mul, pk_sub, pk_div, zrem_nI, zrd_nI, zwr_nI, zb1_some, zb2_some, zb3_some, zb4_some, zb5_some, zb6_some, zb7_some, zb8_some, zlet_eq, if_pos, if_neg, pk_us, pk_un, true_and, and_true, true_or, or_true, ↓reduceIte, List.append_assoc, List.cons_append, List.nil_append, zred, zap, zbgr8, zalpha]
theorem zwpx8 {w h y x t N : Nat} {px f : Nat → Int32} {l : List Nat} (hw : w ≤ 8) (hh : h ≤ 8) (hy : y < h) (ht : t ≤ w) (hN : N = 1 ∨ N = 3 ∨ N = 4) (hx : x ≤ t) (hl : l.length + 4 * (t - x) ≤ 800) :
    fX4_writePixels (nI (8 * N)) (nI w) px (nI l.length) (zw f l) (nI y) (nI x) (nI t) = some (nI (l ++ zfl (zL3 px N) (y * w + x) (t - x)).length, zw f (l ++ zfl (zL3 px N) (y * w + x) (t - x))) := by
  unfold fX4_writePixels
  exact zwpx hw hh hy ht hN 1000 x l hx (by omega) hl
/-- the pixel and the next one of the row are there and the same -/
def zsn (px : Nat → Int32) (e i : Nat) : Bool := decide (i + 1 < e ∧ px i = px (i + 1))
/-- the packet that begins at k ends with pixel i, though the row goes on -/
def zends (px : Nat → Int32) (e k i : Nat) : Bool := if zsn px e k then !zsn px e i else zsn px e (i + 1)
/-- a packet of the pixels k .. i -/
def zpE (px : Nat → Int32) (N e k i : Nat) : List Nat := if zsn px e k then (127 + (i + 1 - k)) :: zL3 px N k else (i - k) :: zfl (zL3 px N) k (i + 1 - k)
/-- the packets of a row: k where the open one begins, i the next pixel, m how many are left -/
def zPk (px : Nat → Int32) (N e : Nat) : Nat → Nat → Nat → List Nat
  | 0, _, _ => []
  | m + 1, k, i => if i + 1 = e ∨ zends px e k i = true then zpE px N e k i ++ zPk px N e m (i + 1) (i + 1) else zPk px N e m k (i + 1)
theorem zPk_s (px : Nat → Int32) (N e m k i : Nat) : zPk px N e (m + 1) k i = if i + 1 = e ∨ zends px e k i = true then zpE px N e k i ++ zPk px N e m (i + 1) (i + 1) else zPk px N e m k (i + 1) := rfl
theorem zpE_len (px : Nat → Int32) (N e k i : Nat) (h : k ≤ i) : (zpE px N e k i).length ≤ 5 * (i + 1 - k) := by
  have h1 := zL3_len px N k
  have h2 := zfl_len (zL3_len px N) (i + 1 - k) k
  unfold zpE
  split
  · rw [List.length_cons]; omega
  · rw [List.length_cons]; omega
theorem zPk_len (px : Nat → Int32) (N e : Nat) : ∀ (m k i : Nat), k ≤ i → (zPk px N e m k i).length ≤ 5 * (i + m - k) := by
  intro m
  induction m with
  | zero => intro k i h; exact Nat.zero_le _
  | succ m ih =>
    intro k i h
    rw [zPk_s]
    split
    · have h1 := zpE_len px N e k i h
      have h2 := ih (i + 1) (i + 1) (Nat.le_refl _)
      rw [List.length_append]
      omega
    · have h2 := ih k (i + 1) (by omega)
      omega
theorem zPk_all (px : Nat → Int32) (N e : Nat) : ∀ (m k i : Nat), i < 64 → i + m ≤ 64 → ∀ u ∈ zPk px N e m k i, u < 256 := by
  intro m
  induction m with
  | zero => intro k i h1 h2 u hu; cases hu
  | succ m ih =>
    intro k i h1 h2 u hu
    rw [zPk_s] at hu
    have hE : ∀ u ∈ zpE px N e k i, u < 256 := by
      intro u hu
      unfold zpE at hu
      split at hu
      · rcases List.mem_cons.mp hu with q | q
        · omega
        · exact zL3_all px N k u q
      · rcases List.mem_cons.mp hu with q | q
        · omega
        · exact zfl_all (zL3_all px N) _ _ u q
    by_cases hm : m = 0
    · subst hm
      split at hu
      · rcases List.mem_append.mp hu with q | q
        · exact hE u q
        · cases q
      · cases hu
    · split at hu
      · rcases List.mem_append.mp hu with q | q
        · exact hE u q
        · exact ih _ _ (by omega) (by omega) u q
      · exact ih _ _ (by omega) (by omega) u hu
theorem zhas1 {w h x y : Nat} (hw : w ≤ 8) (hh : h ≤ 8) (hx : x ≤ 100) (hy : y < h) : fX5_has (nI w) (nI h) (nI x) (nI y) = some (zI (decide (x < w))) := by
  unfold fX5_has
  by_cases c : x < w
  · rw [decide_eq_true c]; simp (disch := omega) only [zlit, nI_lt_nI, nI_le_nI, nI_eq_nI, nI_add, pk_mul, pk_sub, pk_div, zrem_nI, zrd_nI, zwr_nI, zb1_some, zb2_some, zb3_some, zb4_some, zb5_some, zb6_some, zb7_some, zb8_some, zlet_eq, if_pos, if_neg, pk_us, pk_un, true_and, and_true, true_or, or_true, ↓reduceIte]; rfl
  · rw [decide_eq_false c]; simp (disch := omega) only [zlit, nI_lt_nI, nI_le_nI, nI_eq_nI, nI_add, pk_mul, pk_sub, pk_div, zrem_nI, zrd_nI, zwr_nI, zb1_some, zb2_some, zb3_some, zb4_some, zb5_some, zb6_some, zb7_some, zb8_some, zlet_eq, if_pos, if_neg, pk_us, pk_un, true_and, and_true, true_or, or_true, ↓reduceIte]; rfl
theorem zsame8 {w h x y : Nat} {px : Nat → Int32} (hw : w ≤ 8) (hh : h ≤ 8) (hx : x ≤ 20) (hy : y < h) : fX4_isSameAsNext (nI w) (nI h) px (nI x) (nI y) = some (zI (zsn px (y * w + w) (y * w + x))) := by
  unfold fX4_isSameAsNext zsn
  by_cases c : x + 1 < w
  · have hi := zidx hw hh (show x < w by omega) hy
    have hj := zidx hw hh c hy
    by_cases e : px (y * w + x) = px (y * w + x + 1)
    · rw [decide_eq_true ⟨by omega, e⟩]
      unfold fX5_at
      simp (disch := omega) only [zlit, nI_lt_nI, nI_le_nI, nI_eq_nI, nI_add, pk_mul, pk_sub, pk_div, zrem_nI, zrd_nI, zwr_nI, zb1_some, zb2_some, zb3_some, zb4_some, zb5_some, zb6_some, zb7_some, zb8_some, zlet_eq, if_pos, if_neg, pk_us, pk_un, true_and, and_true, true_or, or_true, ↓reduceIte, zhas1 hw hh, zI_eq0, decide_eq_true c, Bool.true_eq_false]
      rfl
    · rw [decide_eq_false (fun q => e q.2)]
      unfold fX5_at
      simp (disch := omega) only [zlit, nI_lt_nI, nI_le_nI, nI_eq_nI, nI_add, pk_mul, pk_sub, pk_div, zrem_nI, zrd_nI, zwr_nI, zb1_some, zb2_some, zb3_some, zb4_some, zb5_some, zb6_some, zb7_some, zb8_some, zlet_eq, if_pos, if_neg, pk_us, pk_un, true_and, and_true, true_or, or_true, ↓reduceIte, zhas1 hw hh, zI_eq0, decide_eq_true c, Bool.true_eq_false]
      rfl
  · rw [decide_eq_false (fun q => by omega)]
    simp (disch := omega) only [zlit, nI_lt_nI, nI_le_nI, nI_eq_nI, nI_add, pk_mul, pk_sub, pk_div, zrem_nI, zrd_nI, zwr_nI, zb1_some, zb2_some, zb3_some, zb4_some, zb5_some, zb6_some, zb7_some, zb8_some, zlet_eq, if_pos, if_neg, pk_us, pk_un, true_and, and_true, true_or, or_true, ↓reduceIte, zhas1 hw hh, zI_eq0, decide_eq_false c]
    rfl
theorem zends8 {w h x k y : Nat} {px : Nat → Int32} (hw : w ≤ 8) (hh : h ≤ 8) (hx : x ≤ 10) (hy : y < h) : fX4_endsPacket (nI w) (nI h) px (nI x) (nI y) (zI (zsn px (y * w + w) (y * w + k))) = some (zI (zends px (y * w + w) (y * w + k) (y * w + x))) := by
  unfold fX4_endsPacket zends
  cases hr : zsn px (y * w + w) (y * w + k)
  · rw [show zI false = nI 0 from rfl]
    simp (disch := omega) only [zlit, nI_lt_nI, nI_le_nI, nI_eq_nI, nI_add, pk_mul, pk_sub, pk_div, zrem_nI, zrd_nI, zwr_nI, zb1_some, zb2_some, zb3_some, zb4_some, zb5_some, zb6_some, zb7_some, zb8_some, zlet_eq, if_pos, if_neg, pk_us, pk_un, true_and, and_true, true_or, or_true, ↓reduceIte, zsame8 hw hh, zbo_I, Bool.false_eq_true]
    rfl
  · rw [show zI true = nI 1 from rfl]
    simp (disch := omega) only [zlit, nI_lt_nI, nI_le_nI, nI_eq_nI, nI_add, pk_mul, pk_sub, pk_div, zrem_nI, zrd_nI, zwr_nI, zb1_some, zb2_some, zb3_some, zb4_some, zb5_some, zb6_some, zb7_some, zb8_some, zlet_eq, if_pos, if_neg, pk_us, pk_un, true_and, and_true, true_or, or_true, ↓reduceIte, zsame8 hw hh, zI_eq0]
    cases zsn px (y * w + w) (y * w + x)
    · rfl
    · rfl
theorem zpk8 {w h y N : Nat} {px f : Nat → Int32} (hw : w ≤ 8) (hh : h ≤ 8) (hy : y < h) (hN : N = 1 ∨ N = 3 ∨ N = 4) : ∀ (n k x : Nat) (l : List Nat), k ≤ x → x ≤ w → w - x < n → l.length + 5 * (w - k) ≤ 800 →
    fX4_writePackets_6 n (nI (8 * N)) (nI w) (nI h) px (nI l.length) (zw f l) (nI y) (nI k) (nI x) = some (nI (l ++ zPk px N (y * w + w) (w - x) (y * w + k) (y * w + x)).length, zw f (l ++ zPk px N (y * w + w) (w - x) (y * w + k) (y * w + x))) := by
  intro n
  induction n with
  | zero => intro k x l h1 h2 h3; omega
  | succ n ih =>
    intro k x l h1 h2 h3 h4
    rw [fX4_writePackets_6_s]
    by_cases c : w ≤ x
    · rw [show w - x = 0 by omega]
      unfold zPk
      rw [List.append_nil]
      simp (disch := omega) only [zlit, nI_lt_nI, nI_le_nI, nI_eq_nI, nI_add, pk_mul, pk_sub, pk_div, zrem_nI, zrd_nI, zwr_nI, zb1_some, zb2_some, zb3_some, zb4_some, zb5_some, zb6_some, zb7_some, zb8_some, zlet_eq, if_pos, if_neg, pk_us, pk_un, true_and, and_true, true_or, or_true, ↓reduceIte]
    · rw [show w - x = (w - (x + 1)) + 1 by omega, zPk_s, zsame8 hw hh (by omega) hy, zb1_some]
      have hE := zpE_len px N (y * w + w) (y * w + k) (y * w + x) (by omega)
      have emit : fX4_writePackets_47 (fX4_writePackets_6 n) (nI (8 * N)) (nI w) (nI h) px (nI l.length) (zw f l) (nI y) (nI k) (nI x) (zI (zsn px (y * w + w) (y * w + k))) = some (nI (l ++ (zpE px N (y * w + w) (y * w + k) (y * w + x) ++ zPk px N (y * w + w) (w - (x + 1)) (y * w + x + 1) (y * w + x + 1))).length, zw f (l ++ (zpE px N (y * w + w) (y * w + k) (y * w + x) ++ zPk px N (y * w + w) (w - (x + 1)) (y * w + x + 1) (y * w + x + 1)))) := by
        have g := ih (x + 1) (x + 1) (l ++ zpE px N (y * w + w) (y * w + k) (y * w + x)) (Nat.le_refl _) (by omega) (by omega) (by rw [List.length_append]; omega)
        rw [← Nat.add_assoc] at g
        rw [← List.append_assoc, ← g]
        unfold fX4_writePackets_47 fX4_writePackets_74 fX4_writePackets_99 fX4_writePackets_109
        unfold zpE
        cases hr : zsn px (y * w + w) (y * w + k)
        · rw [show zI false = nI 0 from rfl]
          have q := @zwpx8 w h y k (x + 1) N px f (l ++ [x - k]) hw hh hy (by omega) hN (by omega) (by simp; omega)
          have e1 : y * w + x - (y * w + k) = x - k := by omega
          have e2 : y * w + x + 1 - (y * w + k) = x + 1 - k := by omega
          have e3 : x + 1 - k - 1 = x - k := by omega
          rw [e1, e2]
          simp (disch := omega) only [zlit, nI_lt_nI, nI_le_nI, nI_eq_nI, nI_add, pk_mul, pk_sub, pk_div, zrem_nI, zrd_nI, zwr_nI, zb1_some, zb2_some, zb3_some, zb4_some, zb5_some, zb6_some, zb7_some, zb8_some, zlet_eq, if_pos, if_neg, pk_us, pk_un, true_and, and_true, true_or, or_true, ↓reduceIte, Bool.false_eq_true]
          rw [e3]
          simp (disch := omega) only [zlit, nI_lt_nI, nI_le_nI, nI_eq_nI, nI_add, pk_mul, pk_sub, pk_div, zrem_nI, zrd_nI, zwr_nI, zb1_some, zb2_some, zb3_some, zb4_some, zb5_some, zb6_some, zb7_some, zb8_some, zlet_eq, if_pos, if_neg, pk_us, pk_un, true_and, and_true, true_or, or_true, ↓reduceIte, zap]
          rw [q]
          simp only [List.append_assoc, List.cons_append, List.nil_append]
          rfl
        · rw [show zI true = nI 1 from rfl]
          have q := @zwpx8 w h y k (k + 1) N px f (l ++ [127 + (x + 1 - k)]) hw hh hy (by omega) hN (by omega) (by simp; omega)
          have e2 : y * w + x + 1 - (y * w + k) = x + 1 - k := by omega
          rw [e2]
          rw [show k + 1 - k = 1 by omega, zfl_s, zfl_0, List.append_nil] at q
          simp (disch := omega) only [zlit, nI_lt_nI, nI_le_nI, nI_eq_nI, nI_add, pk_mul, pk_sub, pk_div, zrem_nI, zrd_nI, zwr_nI, zb1_some, zb2_some, zb3_some, zb4_some, zb5_some, zb6_some, zb7_some, zb8_some, zlet_eq, if_pos, if_neg, pk_us, pk_un, true_and, and_true, true_or, or_true, ↓reduceIte, zap]
          rw [q]
          simp only [List.append_assoc, List.cons_append, List.nil_append]
          rfl
      by_cases c2 : x + 1 = w
      · rw [if_pos (show (y * w + x + 1 = y * w + w ∨ zends px (y * w + w) (y * w + k) (y * w + x) = true) from Or.inl (by omega))]
        simp (disch := omega) only [zlit, nI_lt_nI, nI_le_nI, nI_eq_nI, nI_add, pk_mul, pk_sub, pk_div, zrem_nI, zrd_nI, zwr_nI, zb1_some, zb2_some, zb3_some, zb4_some, zb5_some, zb6_some, zb7_some, zb8_some, zlet_eq, if_pos, if_neg, pk_us, pk_un, true_and, and_true, true_or, or_true, ↓reduceIte]
        exact emit
      · rw [zends8 hw hh (by omega) hy, zb1_some]
        cases hr : zends px (y * w + w) (y * w + k) (y * w + x)
        · rw [if_neg (show ¬ (y * w + x + 1 = y * w + w ∨ false = true) from fun q => q.elim (fun q => by omega) (fun q => by cases q)), show zI false = nI 0 from rfl]
          have g := ih k (x + 1) l (by omega) (by omega) (by omega) h4
          rw [← Nat.add_assoc] at g
          rw [← g]
          unfold fX4_writePackets_109
          simp (disch := omega) only [zlit, nI_lt_nI, nI_le_nI, nI_eq_nI, nI_add, pk_mul, pk_sub, pk_div, zrem_nI, zrd_nI, zwr_nI, zb1_some, zb2_some, zb3_some, zb4_some, zb5_some, zb6_some, zb7_some, zb8_some, zlet_eq, if_pos, if_neg, pk_us, pk_un, true_and, and_true, true_or, or_true, ↓reduceIte]
        · rw [if_pos (show (y * w + x + 1 = y * w + w ∨ true = true) from Or.inr rfl), show zI true = nI 1 from rfl]
          simp (disch := omega) only [zlit, nI_lt_nI, nI_le_nI, nI_eq_nI, nI_add, pk_mul, pk_sub, pk_div, zrem_nI, zrd_nI, zwr_nI, zb1_some, zb2_some, zb3_some, zb4_some, zb5_some, zb6_some, zb7_some, zb8_some, zlet_eq, if_pos, if_neg, pk_us, pk_un, true_and, and_true, true_or, or_true, ↓reduceIte]
          exact emit
theorem zpk32 {w h e k N : Nat} {px rn f : Nat → Int32} (hw : w ≤ 8) (hh : h ≤ 8) (hP : zPic w h px rn) (he : e ≤ w * h) (hN : N = 1 ∨ N = 3 ∨ N = 4) (hr : zsn px e k = true) (rc : Int32 → Int32 → (Nat → Int32) → (Nat → Int32) → Int32 → Int32 → Int32 → Option (Int32 × (Nat → Int32))) : ∀ (n j : Nat) (l : List Nat), k < j → j ≤ e → e - j < n → px k = px (j - 1) → l.length + 5 ≤ 800 →
    ∃ j' E, j ≤ j' ∧ j' ≤ e ∧ E.length ≤ 5 * (j' - k) ∧ fX9_packets_32 rc n (nI w) (nI l.length) rn (zw f l) (nI e) (nI N) (nI k) (nI j) = rc (nI w) (nI (l ++ E).length) rn (zw f (l ++ E)) (nI e) (nI N) (nI j') ∧ zPk px N e (e - (j - 1)) k (j - 1) = E ++ zPk px N e (e - j') j' j' := by
  have hs := zmul64 hw hh
  intro n
  induction n with
  | zero => intro j l h1 h2 h3; omega
  | succ n ih =>
    intro j l h1 h2 h3 h4 h5
    rw [fX9_packets_32_s]
    have e1 : e - (j - 1) = (e - j) + 1 := by omega
    have e2 : j - 1 + 1 = j := by omega
    have t := @ztones w h k N px rn f (l ++ [127 + (j - k)]) hw hh hP (by omega) hN (by simp; omega)
    have emit : fX9_packets_55 rc (nI w) (nI l.length) rn (zw f l) (nI e) (nI N) (nI k) (nI j) = rc (nI w) (nI (l ++ zpE px N e k (j - 1)).length) rn (zw f (l ++ zpE px N e k (j - 1))) (nI e) (nI N) (nI j) := by
      unfold fX9_packets_55 fX9_packets_145 zpE
      rw [hr, e2]
      have e4 : 127 + j - k = 127 + (j - k) := by omega
      simp (disch := omega) only [zlit, nI_lt_nI, nI_le_nI, nI_eq_nI, nI_add, pk_mul, pk_sub, pk_div, zrem_nI, zrd_nI, zwr_nI, zb1_some, zb2_some, zb3_some, zb4_some, zb5_some, zb6_some, zb7_some, zb8_some, zlet_eq, if_pos, if_neg, pk_us, pk_un, true_and, and_true, true_or, or_true, ↓reduceIte]
      rw [e4]
      simp (disch := omega) only [zlit, nI_lt_nI, nI_le_nI, nI_eq_nI, nI_add, pk_mul, pk_sub, pk_div, zrem_nI, zrd_nI, zwr_nI, zb1_some, zb2_some, zb3_some, zb4_some, zb5_some, zb6_some, zb7_some, zb8_some, zlet_eq, if_pos, if_neg, pk_us, pk_un, true_and, and_true, true_or, or_true, ↓reduceIte, zadd, t]
      simp only [List.append_assoc, List.cons_append, List.nil_append]
    by_cases c : e ≤ j
    · refine ⟨j, zpE px N e k (j - 1), Nat.le_refl _, h2, by have := zpE_len px N e k (j - 1) (by omega); omega, ?_, ?_⟩
      · simp (disch := omega) only [zlit, nI_lt_nI, nI_le_nI, nI_eq_nI, nI_add, pk_mul, pk_sub, pk_div, zrem_nI, zrd_nI, zwr_nI, zb1_some, zb2_some, zb3_some, zb4_some, zb5_some, zb6_some, zb7_some, zb8_some, zlet_eq, if_pos, if_neg, pk_us, pk_un, true_and, and_true, true_or, or_true, ↓reduceIte]
        exact emit
      · rw [e1, zPk_s, e2, if_pos (Or.inl (by omega))]
    · have hal := @zalike w h k j px rn hw hh hP (by omega) (by omega)
      have hsn : zsn px e (j - 1) = decide (px k = px j) := by
        unfold zsn
        rw [e2, ← h4]
        by_cases q : px k = px j
        · rw [decide_eq_true q, decide_eq_true ⟨by omega, q⟩]
        · rw [decide_eq_false q, decide_eq_false (fun r => q r.2)]
      by_cases q : px k = px j
      · obtain ⟨j', E, g1, g2, g5, g3, g4⟩ := ih (j + 1) l (by omega) (by omega) (by omega) (by rw [show j + 1 - 1 = j by omega]; exact q) h5
        refine ⟨j', E, by omega, g2, g5, ?_, ?_⟩
        · rw [decide_eq_true q, show zI true = nI 1 from rfl] at hal
          simp (disch := omega) only [zlit, nI_lt_nI, nI_le_nI, nI_eq_nI, nI_add, pk_mul, pk_sub, pk_div, zrem_nI, zrd_nI, zwr_nI, zb1_some, zb2_some, zb3_some, zb4_some, zb5_some, zb6_some, zb7_some, zb8_some, zlet_eq, if_pos, if_neg, pk_us, pk_un, true_and, and_true, true_or, or_true, ↓reduceIte, hal]
          exact g3
        · rw [e1, zPk_s, e2]
          unfold zends
          rw [hr, hsn, decide_eq_true q]
          rw [show j + 1 - 1 = j by omega] at g4
          rw [if_neg (fun r => r.elim (fun r => by omega) (fun r => by cases r))]
          exact g4
      · refine ⟨j, zpE px N e k (j - 1), Nat.le_refl _, h2, by have := zpE_len px N e k (j - 1) (by omega); omega, ?_, ?_⟩
        · rw [decide_eq_false q, show zI false = nI 0 from rfl] at hal
          simp (disch := omega) only [zlit, nI_lt_nI, nI_le_nI, nI_eq_nI, nI_add, pk_mul, pk_sub, pk_div, zrem_nI, zrd_nI, zwr_nI, zb1_some, zb2_some, zb3_some, zb4_some, zb5_some, zb6_some, zb7_some, zb8_some, zlet_eq, if_pos, if_neg, pk_us, pk_un, true_and, and_true, true_or, or_true, ↓reduceIte, hal]
          exact emit
        · rw [e1, zPk_s, e2]
          unfold zends
          rw [hr, hsn, decide_eq_false q]
          exact if_pos (Or.inr rfl)
theorem ztl {w h e N : Nat} {px rn f : Nat → Int32} (hw : w ≤ 8) (hh : h ≤ 8) (hP : zPic w h px rn) (hN : N = 1 ∨ N = 3 ∨ N = 4) (rc : Int32 → Int32 → (Nat → Int32) → (Nat → Int32) → Int32 → Int32 → Int32 → Option (Int32 × (Nat → Int32))) {j : Nat} (hj : j ≤ w * h) : ∀ (n i : Nat) (l : List Nat), i ≤ j → j - i < n → l.length + 4 * (j - i) ≤ 800 →
    fX9_packets_125 rc n (nI w) (nI l.length) rn (zw f l) (nI e) (nI N) (nI j) (nI i) = rc (nI w) (nI (l ++ zfl (zL3 px N) i (j - i)).length) rn (zw f (l ++ zfl (zL3 px N) i (j - i))) (nI e) (nI N) (nI j) := by
  have hs := zmul64 hw hh
  intro n
  induction n with
  | zero => intro i l h1 h2; omega
  | succ n ih =>
    intro i l h1 h2 h3
    rw [fX9_packets_125_s]
    by_cases c : j ≤ i
    · rw [show j - i = 0 by omega, zfl_0, List.append_nil]
      unfold fX9_packets_145
      simp (disch := omega) only [zlit, nI_lt_nI, nI_le_nI, nI_eq_nI, nI_add, pk_mul, pk_sub, pk_div, zrem_nI, zrd_nI, zwr_nI, zb1_some, zb2_some, zb3_some, zb4_some, zb5_some, zb6_some, zb7_some, zb8_some, zlet_eq, if_pos, if_neg, pk_us, pk_un, true_and, and_true, true_or, or_true, ↓reduceIte]
    · have hl := zL3_len px N i
      rw [show j - i = (j - (i + 1)) + 1 by omega, zfl_s, ← List.append_assoc, ← ih (i + 1) (l ++ zL3 px N i) (by omega) (by omega) (by rw [List.length_append]; omega)]
      have t := @ztones w h i N px rn f l hw hh hP (by omega) hN (by omega)
      simp (disch := omega) only [zlit, nI_lt_nI, nI_le_nI, nI_eq_nI, nI_add, pk_mul, pk_sub, pk_div, zrem_nI, zrd_nI, zwr_nI, zb1_some, zb2_some, zb3_some, zb4_some, zb5_some, zb6_some, zb7_some, zb8_some, zlet_eq, if_pos, if_neg, pk_us, pk_un, true_and, and_true, true_or, or_true, ↓reduceIte, t]
theorem zpk77 {w h e k N : Nat} {px rn f : Nat → Int32} (hw : w ≤ 8) (hh : h ≤ 8) (hP : zPic w h px rn) (he : e ≤ w * h) (hN : N = 1 ∨ N = 3 ∨ N = 4) (hr : zsn px e k = false) (rc : Int32 → Int32 → (Nat → Int32) → (Nat → Int32) → Int32 → Int32 → Int32 → Option (Int32 × (Nat → Int32))) : ∀ (n j : Nat) (l : List Nat), k < j → j ≤ e → e - j < n → l.length + 5 * (e - k) ≤ 800 →
    ∃ j' E, j ≤ j' ∧ j' ≤ e ∧ E.length ≤ 5 * (j' - k) ∧ fX9_packets_77 rc n (nI w) (nI l.length) rn (zw f l) (nI e) (nI N) (nI k) (nI j) = rc (nI w) (nI (l ++ E).length) rn (zw f (l ++ E)) (nI e) (nI N) (nI j') ∧ zPk px N e (e - (j - 1)) k (j - 1) = E ++ zPk px N e (e - j') j' j' := by
  have hs := zmul64 hw hh
  intro n
  induction n with
  | zero => intro j l h1 h2 h3; omega
  | succ n ih =>
    intro j l h1 h2 h3 h5
    rw [fX9_packets_77_s]
    have e1 : e - (j - 1) = (e - j) + 1 := by omega
    have e2 : j - 1 + 1 = j := by omega
    have t := @ztl w h e N px rn f hw hh hP hN rc j (by omega) 1000 k (l ++ [j - 1 - k]) (by omega) (by omega) (by simp; omega)
    have emit : fX9_packets_110 rc (nI w) (nI l.length) rn (zw f l) (nI e) (nI N) (nI k) (nI j) = rc (nI w) (nI (l ++ zpE px N e k (j - 1)).length) rn (zw f (l ++ zpE px N e k (j - 1))) (nI e) (nI N) (nI j) := by
      unfold fX9_packets_110 zpE
      rw [hr, e2]
      have e4 : j - k - 1 = j - 1 - k := by omega
      simp (disch := omega) only [zlit, nI_lt_nI, nI_le_nI, nI_eq_nI, nI_add, pk_mul, pk_sub, pk_div, zrem_nI, zrd_nI, zwr_nI, zb1_some, zb2_some, zb3_some, zb4_some, zb5_some, zb6_some, zb7_some, zb8_some, zlet_eq, if_pos, if_neg, pk_us, pk_un, true_and, and_true, true_or, or_true, ↓reduceIte, Bool.false_eq_true]
      rw [e4]
      simp (disch := omega) only [zlit, nI_lt_nI, nI_le_nI, nI_eq_nI, nI_add, pk_mul, pk_sub, pk_div, zrem_nI, zrd_nI, zwr_nI, zb1_some, zb2_some, zb3_some, zb4_some, zb5_some, zb6_some, zb7_some, zb8_some, zlet_eq, if_pos, if_neg, pk_us, pk_un, true_and, and_true, true_or, or_true, ↓reduceIte, zadd]
      rw [t]
      simp only [List.append_assoc, List.cons_append, List.nil_append]
    by_cases c : e ≤ j
    · refine ⟨j, zpE px N e k (j - 1), Nat.le_refl _, h2, by have := zpE_len px N e k (j - 1) (by omega); omega, ?_, ?_⟩
      · simp (disch := omega) only [zlit, nI_lt_nI, nI_le_nI, nI_eq_nI, nI_add, pk_mul, pk_sub, pk_div, zrem_nI, zrd_nI, zwr_nI, zb1_some, zb2_some, zb3_some, zb4_some, zb5_some, zb6_some, zb7_some, zb8_some, zlet_eq, if_pos, if_neg, pk_us, pk_un, true_and, and_true, true_or, or_true, ↓reduceIte]
        exact emit
      · rw [e1, zPk_s, e2, if_pos (Or.inl (by omega))]
    · cases q : zsn px e j
      · obtain ⟨j', E, g1, g2, g5, g3, g4⟩ := ih (j + 1) l (by omega) (by omega) (by omega) h5
        refine ⟨j', E, by omega, g2, g5, ?_, ?_⟩
        · unfold fX9_packets_104
          by_cases c2 : e ≤ j + 1
          · simp (disch := omega) only [zlit, nI_lt_nI, nI_le_nI, nI_eq_nI, nI_add, pk_mul, pk_sub, pk_div, zrem_nI, zrd_nI, zwr_nI, zb1_some, zb2_some, zb3_some, zb4_some, zb5_some, zb6_some, zb7_some, zb8_some, zlet_eq, if_pos, if_neg, pk_us, pk_un, true_and, and_true, true_or, or_true, ↓reduceIte]
            exact g3
          · have hal := @zalike w h j (j + 1) px rn hw hh hP (by omega) (by omega)
            unfold zsn at q
            have q2 : ¬ px j = px (j + 1) := fun r => of_decide_eq_false q ⟨by omega, r⟩
            rw [decide_eq_false q2, show zI false = nI 0 from rfl] at hal
            simp (disch := omega) only [zlit, nI_lt_nI, nI_le_nI, nI_eq_nI, nI_add, pk_mul, pk_sub, pk_div, zrem_nI, zrd_nI, zwr_nI, zb1_some, zb2_some, zb3_some, zb4_some, zb5_some, zb6_some, zb7_some, zb8_some, zlet_eq, if_pos, if_neg, pk_us, pk_un, true_and, and_true, true_or, or_true, ↓reduceIte, hal]
            exact g3
        · rw [e1, zPk_s, e2]
          unfold zends
          rw [hr, e2, q]
          rw [show j + 1 - 1 = j by omega] at g4
          rw [if_neg (fun r => r.elim (fun r => by omega) (fun r => by cases r))]
          exact g4
      · have q' := q
        unfold zsn at q'
        have q2 := of_decide_eq_true q'
        have hal := @zalike w h j (j + 1) px rn hw hh hP (by omega) (by omega)
        rw [decide_eq_true q2.2, show zI true = nI 1 from rfl] at hal
        refine ⟨j, zpE px N e k (j - 1), Nat.le_refl _, h2, by have := zpE_len px N e k (j - 1) (by omega); omega, ?_, ?_⟩
        · simp (disch := omega) only [zlit, nI_lt_nI, nI_le_nI, nI_eq_nI, nI_add, pk_mul, pk_sub, pk_div, zrem_nI, zrd_nI, zwr_nI, zb1_some, zb2_some, zb3_some, zb4_some, zb5_some, zb6_some, zb7_some, zb8_some, zlet_eq, if_pos, if_neg, pk_us, pk_un, true_and, and_true, true_or, or_true, ↓reduceIte, hal]
          exact emit
        · rw [e1, zPk_s, e2]
          unfold zends
          rw [hr, e2, q]
          exact if_pos (Or.inr rfl)
theorem zpk9 {w h e N : Nat} {px rn f : Nat → Int32} (hw : w ≤ 8) (hh : h ≤ 8) (hP : zPic w h px rn) (he : e ≤ w * h) (hN : N = 1 ∨ N = 3 ∨ N = 4) : ∀ (n k : Nat) (l : List Nat), k ≤ e → e - k < n → l.length + 5 * (e - k) ≤ 800 →
    fX9_packets_3 n (nI w) (nI l.length) rn (zw f l) (nI e) (nI N) (nI k) = some (nI (l ++ zPk px N e (e - k) k k).length, zw f (l ++ zPk px N e (e - k) k k)) := by
  have hs := zmul64 hw hh
  intro n
  induction n with
  | zero => intro k l h1 h2; omega
  | succ n ih =>
    intro k l h1 h2 h3
    rw [fX9_packets_3_s]
    by_cases c : e ≤ k
    · rw [show e - k = 0 by omega]
      unfold zPk
      rw [List.append_nil]
      simp (disch := omega) only [zlit, nI_lt_nI, nI_le_nI, nI_eq_nI, nI_add, pk_mul, pk_sub, pk_div, zrem_nI, zrd_nI, zwr_nI, zb1_some, zb2_some, zb3_some, zb4_some, zb5_some, zb6_some, zb7_some, zb8_some, zlet_eq, if_pos, if_neg, pk_us, pk_un, true_and, and_true, true_or, or_true, ↓reduceIte]
    · have fin : ∀ (j' : Nat) (E : List Nat), k + 1 ≤ j' → j' ≤ e → E.length ≤ 5 * (j' - k) → zPk px N e (e - k) k k = E ++ zPk px N e (e - j') j' j' → fX9_packets_3 n (nI w) (nI (l ++ E).length) rn (zw f (l ++ E)) (nI e) (nI N) (nI j') = some (nI (l ++ zPk px N e (e - k) k k).length, zw f (l ++ zPk px N e (e - k) k k)) := by
        intro j' E g1 g2 g5 g4
        rw [ih j' (l ++ E) g2 (by omega) (by rw [List.length_append]; omega), g4, List.append_assoc]
      cases q : zsn px e k
      · obtain ⟨j', E, g1, g2, g5, g3, g4⟩ := zpk77 (f := f) hw hh hP he hN q (fX9_packets_3 n) 1000 (k + 1) l (by omega) (by omega) (by omega) h3
        rw [show k + 1 - 1 = k by omega] at g4
        rw [← fin j' E g1 g2 g5 g4, ← g3]
        by_cases c2 : e ≤ k + 1
        · simp (disch := omega) only [zlit, nI_lt_nI, nI_le_nI, nI_eq_nI, nI_add, pk_mul, pk_sub, pk_div, zrem_nI, zrd_nI, zwr_nI, zb1_some, zb2_some, zb3_some, zb4_some, zb5_some, zb6_some, zb7_some, zb8_some, zlet_eq, if_pos, if_neg, pk_us, pk_un, true_and, and_true, true_or, or_true, ↓reduceIte]
        · have hal := @zalike w h k (k + 1) px rn hw hh hP (by omega) (by omega)
          unfold zsn at q
          have q2 : ¬ px k = px (k + 1) := fun r => of_decide_eq_false q ⟨by omega, r⟩
          rw [decide_eq_false q2, show zI false = nI 0 from rfl] at hal
          simp (disch := omega) only [zlit, nI_lt_nI, nI_le_nI, nI_eq_nI, nI_add, pk_mul, pk_sub, pk_div, zrem_nI, zrd_nI, zwr_nI, zb1_some, zb2_some, zb3_some, zb4_some, zb5_some, zb6_some, zb7_some, zb8_some, zlet_eq, if_pos, if_neg, pk_us, pk_un, true_and, and_true, true_or, or_true, ↓reduceIte, hal]
      · have q' := q
        unfold zsn at q'
        have q2 := of_decide_eq_true q'
        have hal := @zalike w h k (k + 1) px rn hw hh hP (by omega) (by omega)
        rw [decide_eq_true q2.2, show zI true = nI 1 from rfl] at hal
        obtain ⟨j', E, g1, g2, g5, g3, g4⟩ := zpk32 (f := f) hw hh hP he hN q (fX9_packets_3 n) 1000 (k + 1) l (by omega) (by omega) (by omega) (by rw [show k + 1 - 1 = k by omega]) (by omega)
        rw [show k + 1 - 1 = k by omega] at g4
        rw [← fin j' E g1 g2 g5 g4, ← g3]
        simp (disch := omega) only [zlit, nI_lt_nI, nI_le_nI, nI_eq_nI, nI_add, pk_mul, pk_sub, pk_div, zrem_nI, zrd_nI, zwr_nI, zb1_some, zb2_some, zb3_some, zb4_some, zb5_some, zb6_some, zb7_some, zb8_some, zlet_eq, if_pos, if_neg, pk_us, pk_un, true_and, and_true, true_or, or_true, ↓reduceIte, hal]
/-- a row of the fourth format -/
def zR3 (px : Nat → Int32) (w N how y : Nat) : List Nat := if how = 0 then zfl (zL3 px N) (y * w) w else zPk px N (y * w + w) w (y * w) (y * w)
theorem zR3_len (px : Nat → Int32) (w N how y : Nat) : (zR3 px w N how y).length ≤ 5 * w := by
  have h1 := zfl_len (zL3_len px N) w (y * w)
  have h2 := zPk_len px N (y * w + w) w (y * w) (y * w) (Nat.le_refl _)
  unfold zR3
  split
  · omega
  · omega
theorem zrow8 {w h N how : Nat} {px f : Nat → Int32} (hw : w ≤ 8) (hh : h ≤ 8) (hN : N = 1 ∨ N = 3 ∨ N = 4) (hho : how ≤ 1) : ∀ (n y : Nat) (l : List Nat), y ≤ h → h - y < n → l.length + 40 * (h - y) ≤ 800 →
    fX4_write_113 n (nI (8 * N)) (nI w) (nI h) px (nI l.length) (zw f l) (nI how) (nI y) = some (nI (8 * N), nI (l ++ zfl (zR3 px w N how) y (h - y)).length, zw f (l ++ zfl (zR3 px w N how) y (h - y))) := by
  intro n
  induction n with
  | zero => intro y l h1 h2; omega
  | succ n ih =>
    intro y l h1 h2 h3
    rw [fX4_write_113_s]
    by_cases c : h ≤ y
    · rw [show h - y = 0 by omega, zfl_0, List.append_nil]
      simp (disch := omega) only [zlit, nI_lt_nI, nI_le_nI, nI_eq_nI, nI_add, pk_mul, pk_sub, pk_div, zrem_nI, zrd_nI, zwr_nI, zb1_some, zb2_some, zb3_some, zb4_some, zb5_some, zb6_some, zb7_some, zb8_some, zlet_eq, if_pos, if_neg, pk_us, pk_un, true_and, and_true, true_or, or_true, ↓reduceIte]
    · have hl := zR3_len px w N how y
      rw [show h - y = (h - (y + 1)) + 1 by omega, zfl_s, ← List.append_assoc, ← ih (y + 1) (l ++ zR3 px w N how y) (by omega) (by omega) (by rw [List.length_append]; omega)]
      unfold fX4_write_150 zR3
      by_cases q : how = 0
      · have t := @zwpx8 w h y 0 w N px f l hw hh (by omega) (Nat.le_refl _) hN (by omega) (by omega)
        rw [Nat.add_zero, Nat.sub_zero] at t
        simp (disch := omega) only [zlit, nI_lt_nI, nI_le_nI, nI_eq_nI, nI_add, pk_mul, pk_sub, pk_div, zrem_nI, zrd_nI, zwr_nI, zb1_some, zb2_some, zb3_some, zb4_some, zb5_some, zb6_some, zb7_some, zb8_some, zlet_eq, if_pos, if_neg, pk_us, pk_un, true_and, and_true, true_or, or_true, ↓reduceIte, t]
      · have t := @zpk8 w h y N px f hw hh (by omega) hN 1000 0 0 l (by omega) (by omega) (by omega) (by omega)
        rw [Nat.add_zero, Nat.sub_zero] at t
        unfold fX4_writePackets
        simp (disch := omega) only [zlit, nI_lt_nI, nI_le_nI, nI_eq_nI, nI_add, pk_mul, pk_sub, pk_div, zrem_nI, zrd_nI, zwr_nI, zb1_some, zb2_some, zb3_some, zb4_some, zb5_some, zb6_some, zb7_some, zb8_some, zlet_eq, if_pos, if_neg, pk_us, pk_un, true_and, and_true, true_or, or_true, ↓reduceIte, t]
theorem zrow9p {w h N how : Nat} {px rn f : Nat → Int32} (hw : w ≤ 8) (hh : h ≤ 8) (hP : zPic w h px rn) (hN : N = 1 ∨ N = 3 ∨ N = 4) (hho : how = 1) : ∀ (n y : Nat) (l : List Nat), y ≤ h → h - y < n → l.length + 40 * (h - y) ≤ 800 →
    fX9_writeFourth_133 n (nI w) (nI h) (nI l.length) rn (zw f l) (nI how) (nI N) (nI y) = some (nI (l ++ zfl (zR3 px w N how) y (h - y)).length, zw f (l ++ zfl (zR3 px w N how) y (h - y))) := by
  intro n
  induction n with
  | zero => intro y l h1 h2; omega
  | succ n ih =>
    intro y l h1 h2 h3
    rw [fX9_writeFourth_133_s]
    by_cases c : h ≤ y
    · rw [show h - y = 0 by omega, zfl_0, List.append_nil]
      simp (disch := omega) only [zlit, nI_lt_nI, nI_le_nI, nI_eq_nI, nI_add, pk_mul, pk_sub, pk_div, zrem_nI, zrd_nI, zwr_nI, zb1_some, zb2_some, zb3_some, zb4_some, zb5_some, zb6_some, zb7_some, zb8_some, zlet_eq, if_pos, if_neg, pk_us, pk_un, true_and, and_true, true_or, or_true, ↓reduceIte]
    · have hl := zR3_len px w N how y
      have he : w * y + w ≤ w * h := by
        have : w * (y + 1) ≤ w * h := Nat.mul_le_mul_left _ (by omega)
        rw [Nat.mul_add, Nat.mul_one] at this
        exact this
      have hs := zmul64 hw hh
      rw [show h - y = (h - (y + 1)) + 1 by omega, zfl_s, ← List.append_assoc, ← ih (y + 1) (l ++ zR3 px w N how y) (by omega) (by omega) (by rw [List.length_append]; omega)]
      unfold zR3
      have t := @zpk9 w h (w * y + w) N px rn f hw hh hP he hN 1000 (w * y) l (by omega) (by omega) (by omega)
      rw [show w * y + w - w * y = w by omega] at t
      unfold fX9_packets
      simp (disch := omega) only [zlit, nI_lt_nI, nI_le_nI, nI_eq_nI, nI_add, pk_mul, pk_sub, pk_div, zrem_nI, zrd_nI, zwr_nI, zb1_some, zb2_some, zb3_some, zb4_some, zb5_some, zb6_some, zb7_some, zb8_some, zlet_eq, if_pos, if_neg, pk_us, pk_un, true_and, and_true, true_or, or_true, ↓reduceIte, t]
      rw [Nat.mul_comm y w]
theorem zrow9n {w h N : Nat} {px rn f : Nat → Int32} (hw : w ≤ 8) (hh : h ≤ 8) (hP : zPic w h px rn) (hN : N = 1 ∨ N = 3 ∨ N = 4) (hh1 : 1 ≤ h) : ∀ (n k : Nat) (l : List Nat), k ≤ w * h → w * h - k < n → l.length + 4 * (w * h - k) ≤ 800 →
    fX9_writeFourth_102 n (nI w) (nI h) (nI l.length) rn (zw f l) (nI 0) (nI N) (nI k) = some (nI (l ++ zfl (zL3 px N) k (w * h - k)).length, zw f (l ++ zfl (zL3 px N) k (w * h - k))) := by
  have hs := zmul64 hw hh
  intro n
  induction n with
  | zero => intro k l h1 h2; omega
  | succ n ih =>
    intro k l h1 h2 h3
    rw [fX9_writeFourth_102_s]
    by_cases c : w * h ≤ k
    · rw [show w * h - k = 0 by omega, zfl_0, List.append_nil, fX9_writeFourth_133_s]
      simp (disch := omega) only [zlit, nI_lt_nI, nI_le_nI, nI_eq_nI, nI_add, pk_mul, pk_sub, pk_div, zrem_nI, zrd_nI, zwr_nI, zb1_some, zb2_some, zb3_some, zb4_some, zb5_some, zb6_some, zb7_some, zb8_some, zlet_eq, if_pos, if_neg, pk_us, pk_un, true_and, and_true, true_or, or_true, ↓reduceIte]
    · have hl := zL3_len px N k
      rw [show w * h - k = (w * h - (k + 1)) + 1 by omega, zfl_s, ← List.append_assoc, ← ih (k + 1) (l ++ zL3 px N k) (by omega) (by omega) (by rw [List.length_append]; omega)]
      have t := @ztones w h k N px rn f l hw hh hP (by omega) hN (by omega)
      unfold fX9_writeFourth_125
      simp (disch := omega) only [zlit, nI_lt_nI, nI_le_nI, nI_eq_nI, nI_add, pk_mul, pk_sub, pk_div, zrem_nI, zrd_nI, zwr_nI, zb1_some, zb2_some, zb3_some, zb4_some, zb5_some, zb6_some, zb7_some, zb8_some, zlet_eq, if_pos, if_neg, pk_us, pk_un, true_and, and_true, true_or, or_true, ↓reduceIte, t]
theorem zrow9q {w h N how : Nat} {rn g : Nat → Int32} {L : Int32} (hw : w ≤ 8) (hh : h ≤ 8) (hho : how = 1) : ∀ (n k : Nat), k ≤ w * h → w * h - k < n →
    fX9_writeFourth_102 n (nI w) (nI h) L rn g (nI how) (nI N) (nI k) = fX9_writeFourth_133 1000 (nI w) (nI h) L rn g (nI how) (nI N) (nI 0) := by
  have hs := zmul64 hw hh
  intro n
  induction n with
  | zero => intro k h1 h2; omega
  | succ n ih =>
    intro k h1 h2
    rw [fX9_writeFourth_102_s]
    by_cases c : w * h ≤ k
    · simp (disch := omega) only [zlit, nI_lt_nI, nI_le_nI, nI_eq_nI, nI_add, pk_mul, pk_sub, pk_div, zrem_nI, zrd_nI, zwr_nI, zb1_some, zb2_some, zb3_some, zb4_some, zb5_some, zb6_some, zb7_some, zb8_some, zlet_eq, if_pos, if_neg, pk_us, pk_un, true_and, and_true, true_or, or_true, ↓reduceIte]
    · have := ih (k + 1) (by omega) (by omega)
      unfold fX9_writeFourth_125
      simp (disch := omega) only [zlit, nI_lt_nI, nI_le_nI, nI_eq_nI, nI_add, pk_mul, pk_sub, pk_div, zrem_nI, zrd_nI, zwr_nI, zb1_some, zb2_some, zb3_some, zb4_some, zb5_some, zb6_some, zb7_some, zb8_some, zlet_eq, if_pos, if_neg, pk_us, pk_un, true_and, and_true, true_or, or_true, ↓reduceIte]
      exact this
theorem zfl_rows (L : Nat → List Nat) (w : Nat) : ∀ (n i : Nat), zfl (fun y => zfl L (y * w) w) i n = zfl L (i * w) (n * w) := by
  intro n
  induction n with
  | zero => intro i; rw [Nat.zero_mul]; rfl
  | succ n ih =>
    intro i
    rw [zfl_s, ih, show (n + 1) * w = w + n * w by rw [Nat.add_mul, Nat.one_mul, Nat.add_comm], zfl_add, show i * w + w = (i + 1) * w by rw [Nat.add_mul, Nat.one_mul]]
/-- what the fourth format writes -/
def zW3 (px : Nat → Int32) (w h how N : Nat) : List Nat := [0, 0, (if N = 1 then 3 else 2) + (if how = 0 then 0 else 8), 0, 0, 0, 0, 0, 0, 0, 0, 0, w % 256, w / 256 % 256, h % 256, h / 256 % 256, 8 * N, if N = 4 then 40 else 32] ++ zfl (zR3 px w N how) 0 h
theorem zW3_len {px : Nat → Int32} {w h how N : Nat} (hw : w ≤ 8) (hh : h ≤ 8) : (zW3 px w h how N).length ≤ 800 := by
  have h1 := zfl_len (fun y => Nat.le_trans (zR3_len px w N how y) (show 5 * w ≤ 40 by omega)) h 0
  unfold zW3
  rw [List.length_append]
  simp only [List.length_cons, List.length_nil]
  omega
theorem zfl_allp {L : Nat → List Nat} {b : Nat} (h : ∀ i, i < b → ∀ v ∈ L i, v < 256) : ∀ (n i : Nat), i + n ≤ b → ∀ v ∈ zfl L i n, v < 256 := by
  intro n
  induction n with
  | zero => intro i _ v hv; cases hv
  | succ n ih =>
    intro i hb v hv
    rw [zfl_s] at hv
    rcases List.mem_append.mp hv with q | q
    · exact h i (by omega) v q
    · exact ih (i + 1) (by omega) v q
theorem zW3_all {px : Nat → Int32} {w h how N : Nat} (hw : w ≤ 8) (hh : h ≤ 8) (hN : N = 1 ∨ N = 3 ∨ N = 4) : ∀ u ∈ zW3 px w h how N, u < 256 := by
  have a : ∀ y, y < h → ∀ u ∈ zR3 px w N how y, u < 256 := by
    intro y hy u hu
    unfold zR3 at hu
    split at hu
    · exact zfl_all (zL3_all px N) _ _ u hu
    · by_cases hw0 : w = 0
      · subst hw0
        cases hu
      · have := zidx hw hh (show w - 1 < w by omega) hy
        exact zPk_all px N _ _ _ _ (by omega) (by omega) u hu
  have a2 := zfl_allp a h 0 (by omega)
  intro u hu
  unfold zW3 at hu
  rcases List.mem_append.mp hu with q | q
  · simp only [List.mem_cons, List.not_mem_nil, or_false] at q
    have e1 : (if N = 1 then 3 else 2) + (if how = 0 then 0 else 8) < 256 := by split <;> split <;> decide
    have e2 : (if N = 4 then 40 else 32) < 256 := by split <;> decide
    omega
  · exact a2 u q
theorem zwrite3_8 {w h how : Nat} {px f : Nat → Int32} (hw : w ≤ 8) (hh : h ≤ 8) (hho : how ≤ 1) : ∃ N : Nat, (N = 1 ∨ N = 3 ∨ N = 4) ∧ N = (if zgreyB px (w * h) then 1 else if zall (zop px) 0 (w * h) then 3 else 4) ∧ fX4_write (nI w) (nI h) px (nI 0) f (nI how) = some (nI (8 * N), nI (zW3 px w h how N).length, zw f (zW3 px w h how N)) := by
  have hs := zmul64 hw hh
  have hH : ∀ N : Nat, (N = 1 ∨ N = 3 ∨ N = 4) → ∀ g : Bool, (g = decide (N = 1)) → fX4_write_31 (nI w) (nI h) px (nI ([] : List Nat).length) (zw f []) (nI how) (zI g) (nI (8 * N)) = some (nI (8 * N), nI (zW3 px w h how N).length, zw f (zW3 px w h how N)) := by
    intro N hN g hg
    have r := fun l : List Nat => @zrow8 w h N how px f hw hh hN hho 1000 0 l (by omega) (by omega)
    simp only [Nat.sub_zero] at r
    unfold fX4_write_31 fX4_write_50 fX4_write_60 fX4_alphaBits zW3
    by_cases q : how = 0
    · rcases hN with rfl | rfl | rfl
      · subst hg
        rw [show zI (decide (1 = 1)) = nI 1 from rfl]
        simp (disch := first | omega | (simp only [List.length_append, List.length_cons, List.length_nil] <;> omega)) only [zlit, nI_lt_nI, nI_le_nI, nI_eq_nI, nI_add, pk_mul, pk_sub, pk_div, zrem_nI, zrd_nI, zwr_nI, zb1_some, zb2_some, zb3_some, zb4_some, zb5_some, zb6_some, zb7_some, zb8_some, zlet_eq, if_pos, if_neg, pk_us, pk_un, true_and, and_true, true_or, or_true, ↓reduceIte, List.append_assoc, List.cons_append, List.nil_append, zzeros8, zap, zlit2_8, List.replicate]
        rw [r _ (by simp only [List.length_append, List.length_cons, List.length_nil]; omega)]
        simp only [List.append_assoc, List.cons_append, List.nil_append]
      · subst hg
        rw [show zI (decide (3 = 1)) = nI 0 from rfl]
        simp (disch := first | omega | (simp only [List.length_append, List.length_cons, List.length_nil] <;> omega)) only [zlit, nI_lt_nI, nI_le_nI, nI_eq_nI, nI_add, pk_mul, pk_sub, pk_div, zrem_nI, zrd_nI, zwr_nI, zb1_some, zb2_some, zb3_some, zb4_some, zb5_some, zb6_some, zb7_some, zb8_some, zlet_eq, if_pos, if_neg, pk_us, pk_un, true_and, and_true, true_or, or_true, ↓reduceIte, List.append_assoc, List.cons_append, List.nil_append, zzeros8, zap, zlit2_8, List.replicate]
        rw [r _ (by simp only [List.length_append, List.length_cons, List.length_nil]; omega)]
        simp only [List.append_assoc, List.cons_append, List.nil_append]
      · subst hg
        rw [show zI (decide (4 = 1)) = nI 0 from rfl]
        simp (disch := first | omega | (simp only [List.length_append, List.length_cons, List.length_nil] <;> omega)) only [zlit, nI_lt_nI, nI_le_nI, nI_eq_nI, nI_add, pk_mul, pk_sub, pk_div, zrem_nI, zrd_nI, zwr_nI, zb1_some, zb2_some, zb3_some, zb4_some, zb5_some, zb6_some, zb7_some, zb8_some, zlet_eq, if_pos, if_neg, pk_us, pk_un, true_and, and_true, true_or, or_true, ↓reduceIte, List.append_assoc, List.cons_append, List.nil_append, zzeros8, zap, zlit2_8, List.replicate]
        rw [r _ (by simp only [List.length_append, List.length_cons, List.length_nil]; omega)]
        simp only [List.append_assoc, List.cons_append, List.nil_append]
    · rcases hN with rfl | rfl | rfl
      · subst hg
        rw [show zI (decide (1 = 1)) = nI 1 from rfl]
        simp (disch := first | omega | (simp only [List.length_append, List.length_cons, List.length_nil] <;> omega)) only [zlit, nI_lt_nI, nI_le_nI, nI_eq_nI, nI_add, pk_mul, pk_sub, pk_div, zrem_nI, zrd_nI, zwr_nI, zb1_some, zb2_some, zb3_some, zb4_some, zb5_some, zb6_some, zb7_some, zb8_some, zlet_eq, if_pos, if_neg, pk_us, pk_un, true_and, and_true, true_or, or_true, ↓reduceIte, List.append_assoc, List.cons_append, List.nil_append, zzeros8, zap, zlit2_8, List.replicate]
        rw [r _ (by simp only [List.length_append, List.length_cons, List.length_nil]; omega)]
        simp only [List.append_assoc, List.cons_append, List.nil_append]
      · subst hg
        rw [show zI (decide (3 = 1)) = nI 0 from rfl]
        simp (disch := first | omega | (simp only [List.length_append, List.length_cons, List.length_nil] <;> omega)) only [zlit, nI_lt_nI, nI_le_nI, nI_eq_nI, nI_add, pk_mul, pk_sub, pk_div, zrem_nI, zrd_nI, zwr_nI, zb1_some, zb2_some, zb3_some, zb4_some, zb5_some, zb6_some, zb7_some, zb8_some, zlet_eq, if_pos, if_neg, pk_us, pk_un, true_and, and_true, true_or, or_true, ↓reduceIte, List.append_assoc, List.cons_append, List.nil_append, zzeros8, zap, zlit2_8, List.replicate]
        rw [r _ (by simp only [List.length_append, List.length_cons, List.length_nil]; omega)]
        simp only [List.append_assoc, List.cons_append, List.nil_append]
      · subst hg
        rw [show zI (decide (4 = 1)) = nI 0 from rfl]
        simp (disch := first | omega | (simp only [List.length_append, List.length_cons, List.length_nil] <;> omega)) only [zlit, nI_lt_nI, nI_le_nI, nI_eq_nI, nI_add, pk_mul, pk_sub, pk_div, zrem_nI, zrd_nI, zwr_nI, zb1_some, zb2_some, zb3_some, zb4_some, zb5_some, zb6_some, zb7_some, zb8_some, zlet_eq, if_pos, if_neg, pk_us, pk_un, true_and, and_true, true_or, or_true, ↓reduceIte, List.append_assoc, List.cons_append, List.nil_append, zzeros8, zap, zlit2_8, List.replicate]
        rw [r _ (by simp only [List.length_append, List.length_cons, List.length_nil]; omega)]
        simp only [List.append_assoc, List.cons_append, List.nil_append]
  unfold fX4_write
  rw [zisgr8 hs, zb1_some, zisop8 hs]
  cases hg : zgreyB px (w * h)
  · cases ho : zall (zop px) 0 (w * h)
    · refine ⟨4, by decide, rfl, ?_⟩
      have g := hH 4 (by decide) false rfl
      rw [show zI false = nI 0 from rfl] at g ⊢
      simp (disch := omega) only [zlit, nI_lt_nI, nI_le_nI, nI_eq_nI, nI_add, pk_mul, pk_sub, pk_div, zrem_nI, zrd_nI, zwr_nI, zb1_some, zb2_some, zb3_some, zb4_some, zb5_some, zb6_some, zb7_some, zb8_some, zlet_eq, if_pos, if_neg, pk_us, pk_un, true_and, and_true, true_or, or_true, ↓reduceIte]
      exact g
    · refine ⟨3, by decide, rfl, ?_⟩
      have g := hH 3 (by decide) false rfl
      rw [show zI false = nI 0 from rfl] at g ⊢
      rw [show zI true = nI 1 from rfl]
      simp (disch := omega) only [zlit, nI_lt_nI, nI_le_nI, nI_eq_nI, nI_add, pk_mul, pk_sub, pk_div, zrem_nI, zrd_nI, zwr_nI, zb1_some, zb2_some, zb3_some, zb4_some, zb5_some, zb6_some, zb7_some, zb8_some, zlet_eq, if_pos, if_neg, pk_us, pk_un, true_and, and_true, true_or, or_true, ↓reduceIte]
      exact g
  · refine ⟨1, by decide, rfl, ?_⟩
    have g := hH 1 (by decide) true rfl
    rw [show zI true = nI 1 from rfl] at g ⊢
    simp (disch := omega) only [zlit, nI_lt_nI, nI_le_nI, nI_eq_nI, nI_add, pk_mul, pk_sub, pk_div, zrem_nI, zrd_nI, zwr_nI, zb1_some, zb2_some, zb3_some, zb4_some, zb5_some, zb6_some, zb7_some, zb8_some, zlet_eq, if_pos, if_neg, pk_us, pk_un, true_and, and_true, true_or, or_true, ↓reduceIte]
    exact g
theorem zwrite3_9 {w h how N : Nat} {px rn f : Nat → Int32} (hw : w ≤ 8) (hh : h ≤ 8) (hh1 : 1 ≤ h) (hP : zPic w h px rn) (hho : how ≤ 1) (hN1 : N = (if zgreyB px (w * h) then 1 else if zall (zop px) 0 (w * h) then 3 else 4)) : fX9_writeFourth (nI w) (nI h) (nI 0) rn f (nI how) = some (nI (zW3 px w h how N).length, zw f (zW3 px w h how N)) := by
  have hs := zmul64 hw hh
  have hH : ∀ N : Nat, (N = 1 ∨ N = 3 ∨ N = 4) → fX9_writeFourth_23 (nI w) (nI h) (nI ([] : List Nat).length) rn (zw f []) (nI how) (nI N) = some (nI (zW3 px w h how N).length, zw f (zW3 px w h how N)) := by
    intro N hN
    have body : ∀ l : List Nat, l.length = 18 → fX9_writeFourth_102 1000 (nI w) (nI h) (nI l.length) rn (zw f l) (nI how) (nI N) (nI 0) = some (nI (l ++ zfl (zR3 px w N how) 0 h).length, zw f (l ++ zfl (zR3 px w N how) 0 h)) := by
      intro l hl
      by_cases q : how = 0
      · subst q
        have r := @zrow9n w h N px rn f hw hh hP hN hh1 1000 0 l (by omega) (by omega) (by omega)
        rw [r, Nat.sub_zero]
        have : zfl (zR3 px w N 0) 0 h = zfl (zL3 px N) 0 (w * h) := by
          have := zfl_rows (zL3 px N) w h 0
          rw [Nat.zero_mul, Nat.mul_comm h w] at this
          exact this
        rw [this]
      · rw [zrow9q hw hh (by omega) 1000 0 (by omega) (by omega)]
        have r := @zrow9p w h N how px rn f hw hh hP hN (by omega) 1000 0 l (by omega) (by omega) (by omega)
        rw [r, Nat.sub_zero]
    unfold fX9_writeFourth_23 fX9_writeFourth_41 fX9_writeFourth_51 fX9_writeFourth_97 zW3
    by_cases q : how = 0
    · rcases hN with rfl | rfl | rfl
      · simp (disch := first | omega | (simp only [List.length_append, List.length_cons, List.length_nil] <;> omega)) only [zlit, nI_lt_nI, nI_le_nI, nI_eq_nI, nI_add, pk_mul, pk_sub, pk_div, zrem_nI, zrd_nI, zwr_nI, zb1_some, zb2_some, zb3_some, zb4_some, zb5_some, zb6_some, zb7_some, zb8_some, zlet_eq, if_pos, if_neg, pk_us, pk_un, true_and, and_true, true_or, or_true, ↓reduceIte, List.append_assoc, List.cons_append, List.nil_append, zaddTwo, zadd, zzeros9, zlit2_9, List.replicate]
        rw [body _ rfl]
        simp only [List.append_assoc, List.cons_append, List.nil_append]
      · simp (disch := first | omega | (simp only [List.length_append, List.length_cons, List.length_nil] <;> omega)) only [zlit, nI_lt_nI, nI_le_nI, nI_eq_nI, nI_add, pk_mul, pk_sub, pk_div, zrem_nI, zrd_nI, zwr_nI, zb1_some, zb2_some, zb3_some, zb4_some, zb5_some, zb6_some, zb7_some, zb8_some, zlet_eq, if_pos, if_neg, pk_us, pk_un, true_and, and_true, true_or, or_true, ↓reduceIte, List.append_assoc, List.cons_append, List.nil_append, zaddTwo, zadd, zzeros9, zlit2_9, List.replicate]
        rw [body _ rfl]
        simp only [List.append_assoc, List.cons_append, List.nil_append]
      · simp (disch := first | omega | (simp only [List.length_append, List.length_cons, List.length_nil] <;> omega)) only [zlit, nI_lt_nI, nI_le_nI, nI_eq_nI, nI_add, pk_mul, pk_sub, pk_div, zrem_nI, zrd_nI, zwr_nI, zb1_some, zb2_some, zb3_some, zb4_some, zb5_some, zb6_some, zb7_some, zb8_some, zlet_eq, if_pos, if_neg, pk_us, pk_un, true_and, and_true, true_or, or_true, ↓reduceIte, List.append_assoc, List.cons_append, List.nil_append, zaddTwo, zadd, zzeros9, zlit2_9, List.replicate]
        rw [body _ rfl]
        simp only [List.append_assoc, List.cons_append, List.nil_append]
    · rcases hN with rfl | rfl | rfl
      · simp (disch := first | omega | (simp only [List.length_append, List.length_cons, List.length_nil] <;> omega)) only [zlit, nI_lt_nI, nI_le_nI, nI_eq_nI, nI_add, pk_mul, pk_sub, pk_div, zrem_nI, zrd_nI, zwr_nI, zb1_some, zb2_some, zb3_some, zb4_some, zb5_some, zb6_some, zb7_some, zb8_some, zlet_eq, if_pos, if_neg, pk_us, pk_un, true_and, and_true, true_or, or_true, ↓reduceIte, List.append_assoc, List.cons_append, List.nil_append, zaddTwo, zadd, zzeros9, zlit2_9, List.replicate]
        rw [body _ rfl]
        simp only [List.append_assoc, List.cons_append, List.nil_append]
      · simp (disch := first | omega | (simp only [List.length_append, List.length_cons, List.length_nil] <;> omega)) only [zlit, nI_lt_nI, nI_le_nI, nI_eq_nI, nI_add, pk_mul, pk_sub, pk_div, zrem_nI, zrd_nI, zwr_nI, zb1_some, zb2_some, zb3_some, zb4_some, zb5_some, zb6_some, zb7_some, zb8_some, zlet_eq, if_pos, if_neg, pk_us, pk_un, true_and, and_true, true_or, or_true, ↓reduceIte, List.append_assoc, List.cons_append, List.nil_append, zaddTwo, zadd, zzeros9, zlit2_9, List.replicate]
        rw [body _ rfl]
        simp only [List.append_assoc, List.cons_append, List.nil_append]
      · simp (disch := first | omega | (simp only [List.length_append, List.length_cons, List.length_nil] <;> omega)) only [zlit, nI_lt_nI, nI_le_nI, nI_eq_nI, nI_add, pk_mul, pk_sub, pk_div, zrem_nI, zrd_nI, zwr_nI, zb1_some, zb2_some, zb3_some, zb4_some, zb5_some, zb6_some, zb7_some, zb8_some, zlet_eq, if_pos, if_neg, pk_us, pk_un, true_and, and_true, true_or, or_true, ↓reduceIte, List.append_assoc, List.cons_append, List.nil_append, zaddTwo, zadd, zzeros9, zlit2_9, List.replicate]
        rw [body _ rfl]
        simp only [List.append_assoc, List.cons_append, List.nil_append]
  unfold fX9_writeFourth
  rw [zisgr9 hw hh hP, zb1_some, zisop9 hw hh hP]
  cases hg : zgreyB px (w * h)
  · rw [hg] at hN1
    cases ho : zall (zop px) 0 (w * h)
    · rw [ho] at hN1
      subst hN1
      have g := hH 4 (by decide)
      rw [show zI false = nI 0 from rfl]
      simp (disch := omega) only [zlit, nI_lt_nI, nI_le_nI, nI_eq_nI, nI_add, pk_mul, pk_sub, pk_div, zrem_nI, zrd_nI, zwr_nI, zb1_some, zb2_some, zb3_some, zb4_some, zb5_some, zb6_some, zb7_some, zb8_some, zlet_eq, if_pos, if_neg, pk_us, pk_un, true_and, and_true, true_or, or_true, ↓reduceIte]
      exact g
    · rw [ho] at hN1
      subst hN1
      have g := hH 3 (by decide)
      rw [show zI false = nI 0 from rfl, show zI true = nI 1 from rfl]
      simp (disch := omega) only [zlit, nI_lt_nI, nI_le_nI, nI_eq_nI, nI_add, pk_mul, pk_sub, pk_div, zrem_nI, zrd_nI, zwr_nI, zb1_some, zb2_some, zb3_some, zb4_some, zb5_some, zb6_some, zb7_some, zb8_some, zlet_eq, if_pos, if_neg, pk_us, pk_un, true_and, and_true, true_or, or_true, ↓reduceIte]
      exact g
  · rw [hg] at hN1
    subst hN1
    have g := hH 1 (by decide)
    rw [show zI true = nI 1 from rfl]
    simp (disch := omega) only [zlit, nI_lt_nI, nI_le_nI, nI_eq_nI, nI_add, pk_mul, pk_sub, pk_div, zrem_nI, zrd_nI, zwr_nI, zb1_some, zb2_some, zb3_some, zb4_some, zb5_some, zb6_some, zb7_some, zb8_some, zlet_eq, if_pos, if_neg, pk_us, pk_un, true_and, and_true, true_or, or_true, ↓reduceIte]
    exact g
