/-! The second format's writers. -/
def zfl (L : Nat → List Nat) : Nat → Nat → List Nat
  | _, 0 => []
  | i, n + 1 => L i ++ zfl L (i + 1) n
theorem zfl_0 (L : Nat → List Nat) (i : Nat) : zfl L i 0 = [] := rfl
theorem zfl_s (L : Nat → List Nat) (i n : Nat) : zfl L i (n + 1) = L i ++ zfl L (i + 1) n := rfl
theorem zfl_add (L : Nat → List Nat) : ∀ (a i b : Nat), zfl L i (a + b) = zfl L i a ++ zfl L (i + a) b := by
  intro a
  induction a with
  | zero => intro i b; rw [Nat.zero_add]; rfl
  | succ a ih =>
    intro i b
    rw [show a + 1 + b = (a + b) + 1 by omega, zfl_s, zfl_s, ih, List.append_assoc, show i + 1 + a = i + (a + 1) by omega]
theorem zfl_len {L : Nat → List Nat} {m : Nat} (h : ∀ i, (L i).length ≤ m) : ∀ (n i : Nat), (zfl L i n).length ≤ m * n := by
  intro n
  induction n with
  | zero => intro i; exact Nat.zero_le _
  | succ n ih =>
    intro i
    have h1 := h i
    have h2 := ih (i + 1)
    rw [zfl_s, List.length_append, Nat.mul_succ]
    omega
theorem zfl_all {L : Nat → List Nat} (h : ∀ i, ∀ v ∈ L i, v < 256) : ∀ (n i : Nat), ∀ v ∈ zfl L i n, v < 256 := by
  intro n
  induction n with
  | zero => intro i v hv; cases hv
  | succ n ih =>
    intro i v hv
    rw [zfl_s] at hv
    rcases List.mem_append.mp hv with q | q
    · exact h i v q
    · exact ih (i + 1) v q
theorem zwFl {l : List Nat} {fb rf : Nat → Int32} (h : ∀ v ∈ l, v < 256) : zFil l.length (zw fb l) (zw rf l) := by
  intro i hi
  refine ⟨l[i], h _ (List.getElem_mem hi), ?_, ?_⟩
  · unfold zw; rw [List.getElem?_eq_getElem hi]
  · unfold zw; rw [List.getElem?_eq_getElem hi]
def zdig (v : Nat) : List Nat := (if 100 ≤ v then [48 + v / 100] else []) ++ (if 10 ≤ v then [48 + v / 10 % 10] else []) ++ [48 + v % 10]
theorem zdig_len (v : Nat) : (zdig v).length ≤ 3 := by
  unfold zdig
  split <;> split <;> simp
theorem zdig_all {v : Nat} (hv : v < 256) : ∀ u ∈ zdig v, u < 256 := by
  unfold zdig
  intro u hu
  simp only [List.mem_append, List.mem_cons, List.not_mem_nil, or_false] at hu
  rcases hu with (hu | hu) | hu
  · split at hu
    · simp at hu; omega
    · cases hu
  · split at hu
    · simp at hu; omega
    · cases hu
  · omega
theorem zdig8 {f : Nat → Int32} {l : List Nat} {v : Nat} (h : l.length + 3 ≤ 800) (hv : v < 256) : fX2_appendDigits (nI l.length) (zw f l) (nI v) = some (nI (l ++ zdig v).length, zw f (l ++ zdig v)) := by
  unfold fX2_appendDigits fX2_appendDigits_21 fX2_appendDigits_42 zdig
  by_cases c1 : 100 ≤ v
  · have e : v / 100 % 10 = v / 100 := by omega
    simp (disch := first | omega | (simp only [List.length_append, List.length_cons, List.length_nil] <;> omega)) only [zlit, nI_lt_nI, nI_le_nI, nI_eq_nI, nI_add, pk_mul, pk_sub, pk_div, zrem_nI, zrd_nI, zwr_nI, zb1_some, zb2_some, zb3_some, zb4_some, zb5_some, zb6_some, zb7_some, zb8_some, zlet_eq, if_pos, if_neg, pk_us, pk_un, true_and, and_true, true_or, or_true, ↓reduceIte, List.append_assoc, List.cons_append, List.nil_append, zap, e]
  · by_cases c2 : 10 ≤ v
    · simp (disch := first | omega | (simp only [List.length_append, List.length_cons, List.length_nil] <;> omega)) only [zlit, nI_lt_nI, nI_le_nI, nI_eq_nI, nI_add, pk_mul, pk_sub, pk_div, zrem_nI, zrd_nI, zwr_nI, zb1_some, zb2_some, zb3_some, zb4_some, zb5_some, zb6_some, zb7_some, zb8_some, zlet_eq, if_pos, if_neg, pk_us, pk_un, true_and, and_true, true_or, or_true, ↓reduceIte, List.append_assoc, List.cons_append, List.nil_append, zap]
    · simp (disch := first | omega | (simp only [List.length_append, List.length_cons, List.length_nil] <;> omega)) only [zlit, nI_lt_nI, nI_le_nI, nI_eq_nI, nI_add, pk_mul, pk_sub, pk_div, zrem_nI, zrd_nI, zwr_nI, zb1_some, zb2_some, zb3_some, zb4_some, zb5_some, zb6_some, zb7_some, zb8_some, zlet_eq, if_pos, if_neg, pk_us, pk_un, true_and, and_true, true_or, or_true, ↓reduceIte, List.append_assoc, List.cons_append, List.nil_append, zap]
theorem zdig9 {f : Nat → Int32} {l : List Nat} {v : Nat} (h : l.length + 3 ≤ 800) (hv : v < 256) : fX9_digits (nI l.length) (zw f l) (nI v) = some (nI (l ++ zdig v).length, zw f (l ++ zdig v)) := by
  unfold fX9_digits fX9_digits_17 fX9_digits_37 zdig
  by_cases c1 : 100 ≤ v
  · simp (disch := first | omega | (simp only [List.length_append, List.length_cons, List.length_nil] <;> omega)) only [zlit, nI_lt_nI, nI_le_nI, nI_eq_nI, nI_add, pk_mul, pk_sub, pk_div, zrem_nI, zrd_nI, zwr_nI, zb1_some, zb2_some, zb3_some, zb4_some, zb5_some, zb6_some, zb7_some, zb8_some, zlet_eq, if_pos, if_neg, pk_us, pk_un, true_and, and_true, true_or, or_true, ↓reduceIte, List.append_assoc, List.cons_append, List.nil_append, zadd]
  · by_cases c2 : 10 ≤ v
    · simp (disch := first | omega | (simp only [List.length_append, List.length_cons, List.length_nil] <;> omega)) only [zlit, nI_lt_nI, nI_le_nI, nI_eq_nI, nI_add, pk_mul, pk_sub, pk_div, zrem_nI, zrd_nI, zwr_nI, zb1_some, zb2_some, zb3_some, zb4_some, zb5_some, zb6_some, zb7_some, zb8_some, zlet_eq, if_pos, if_neg, pk_us, pk_un, true_and, and_true, true_or, or_true, ↓reduceIte, List.append_assoc, List.cons_append, List.nil_append, zadd]
    · simp (disch := first | omega | (simp only [List.length_append, List.length_cons, List.length_nil] <;> omega)) only [zlit, nI_lt_nI, nI_le_nI, nI_eq_nI, nI_add, pk_mul, pk_sub, pk_div, zrem_nI, zrd_nI, zwr_nI, zb1_some, zb2_some, zb3_some, zb4_some, zb5_some, zb6_some, zb7_some, zb8_some, zlet_eq, if_pos, if_neg, pk_us, pk_un, true_and, and_true, true_or, or_true, ↓reduceIte, List.append_assoc, List.cons_append, List.nil_append, zadd]
def zsm (how v e : Nat) : List Nat := if how = 0 then [v] else zdig v ++ [e]
theorem zsm_len (how v e : Nat) : (zsm how v e).length ≤ 4 := by
  have := zdig_len v
  unfold zsm
  split
  · simp
  · simp; omega
theorem zsm_all {how v e : Nat} (hv : v < 256) (he : e < 256) : ∀ u ∈ zsm how v e, u < 256 := by
  intro u hu
  unfold zsm at hu
  split at hu
  · simp at hu; omega
  · rcases List.mem_append.mp hu with q | q
    · exact zdig_all hv u q
    · simp at q; omega
theorem zsm8 {f : Nat → Int32} {l : List Nat} {v e how : Nat} (h : l.length + 4 ≤ 800) (hv : v < 256) (hh : how ≤ 1) : fX6_writeSample (nI l.length) (zw f l) (nI v) (nI how) (nI e) = some (nI (l ++ zsm how v e).length, zw f (l ++ zsm how v e)) := by
  have hd := zdig_len v
  unfold fX6_writeSample zsm
  by_cases c : how = 0
  · simp (disch := first | omega | (simp only [List.length_append, List.length_cons, List.length_nil] <;> omega)) only [zlit, nI_lt_nI, nI_le_nI, nI_eq_nI, nI_add, pk_mul, pk_sub, pk_div, zrem_nI, zrd_nI, zwr_nI, zb1_some, zb2_some, zb3_some, zb4_some, zb5_some, zb6_some, zb7_some, zb8_some, zlet_eq, if_pos, if_neg, pk_us, pk_un, true_and, and_true, true_or, or_true, ↓reduceIte, List.append_assoc, List.cons_append, List.nil_append, zap]
  · simp (disch := first | omega | (simp only [List.length_append, List.length_cons, List.length_nil] <;> omega)) only [zlit, nI_lt_nI, nI_le_nI, nI_eq_nI, nI_add, pk_mul, pk_sub, pk_div, zrem_nI, zrd_nI, zwr_nI, zb1_some, zb2_some, zb3_some, zb4_some, zb5_some, zb6_some, zb7_some, zb8_some, zlet_eq, if_pos, if_neg, pk_us, pk_un, true_and, and_true, true_or, or_true, ↓reduceIte, List.append_assoc, List.cons_append, List.nil_append, zap, zdig8]
/-- the samples of pixel k -/
def zL1 (px : Nat → Int32) (w how : Nat) (col : Bool) (k : Nat) : List Nat := if col then zsm how (zch (px k) 0) 32 ++ (zsm how (zch (px k) 1) 32 ++ zsm how (zch (px k) 2) (if k % w + 1 = w then 10 else 32)) else zsm how (zch (px k) 2) (if k % w + 1 = w then 10 else 32)
theorem zL1_len (px : Nat → Int32) (w how : Nat) (col : Bool) (k : Nat) : (zL1 px w how col k).length ≤ 12 := by
  have h0 := zsm_len how (zch (px k) 0) 32
  have h1 := zsm_len how (zch (px k) 1) 32
  have h2 := zsm_len how (zch (px k) 2) (if k % w + 1 = w then 10 else 32)
  unfold zL1
  cases col
  · rw [if_neg (by decide)]; omega
  · rw [if_pos rfl, List.length_append, List.length_append]; omega
theorem zL1_all (px : Nat → Int32) (w how : Nat) (col : Bool) (k : Nat) : ∀ u ∈ zL1 px w how col k, u < 256 := by
  have he : (if k % w + 1 = w then 10 else 32) < 256 := by split <;> decide
  intro u hu
  unfold zL1 at hu
  cases col
  · rw [if_neg (by decide)] at hu
    exact zsm_all (zch_lt _ _) he u hu
  · rw [if_pos rfl] at hu
    rcases List.mem_append.mp hu with q | q
    · exact zsm_all (zch_lt _ _) (by decide) u q
    · rcases List.mem_append.mp q with q | q
      · exact zsm_all (zch_lt _ _) (by decide) u q
      · exact zsm_all (zch_lt _ _) he u q
theorem zpix8 {f : Nat → Int32} {l : List Nat} {p : Int32} {e how : Nat} {col : Bool} (h : l.length + 12 ≤ 800) (hh : how ≤ 1) : fX6_writePixel (nI l.length) (zw f l) p (zI col) (nI how) (nI e) = some (nI (l ++ (if col then zsm how (zch p 0) 32 ++ (zsm how (zch p 1) 32 ++ zsm how (zch p 2) e) else zsm how (zch p 2) e)).length, zw f (l ++ (if col then zsm how (zch p 0) 32 ++ (zsm how (zch p 1) 32 ++ zsm how (zch p 2) e) else zsm how (zch p 2) e))) := by
  have h0 := zsm_len how (zch p 0) 32
  have h1 := zsm_len how (zch p 1) 32
  have h2 := zsm_len how (zch p 2) e
  have b0 := zch_lt p 0
  have b1 := zch_lt p 1
  have b2 := zch_lt p 2
  unfold fX6_writePixel fX6_writePixel_28
  cases col
  · rw [show zI false = nI 0 from rfl]
    simp (disch := first | omega | (simp only [List.length_append, List.length_cons, List.length_nil] <;> omega)) only [zlit, nI_lt_nI, nI_le_nI, nI_eq_nI, nI_add, pk_mul, pk_sub, pk_div, zrem_nI, zrd_nI, zwr_nI, zb1_some, zb2_some, zb3_some, zb4_some, zb5_some, zb6_some, zb7_some, zb8_some, zlet_eq, if_pos, if_neg, pk_us, pk_un, true_and, and_true, true_or, or_true, ↓reduceIte, List.append_assoc, List.cons_append, List.nil_append, zsm8, zblue, Bool.false_eq_true]
  · rw [show zI true = nI 1 from rfl]
    simp (disch := first | omega | (simp only [List.length_append, List.length_cons, List.length_nil] <;> omega)) only [zlit, nI_lt_nI, nI_le_nI, nI_eq_nI, nI_add, pk_mul, pk_sub, pk_div, zrem_nI, zrd_nI, zwr_nI, zb1_some, zb2_some, zb3_some, zb4_some, zb5_some, zb6_some, zb7_some, zb8_some, zlet_eq, if_pos, if_neg, pk_us, pk_un, true_and, and_true, true_or, or_true, ↓reduceIte, List.append_assoc, List.cons_append, List.nil_append, zsm8, zblue, zred, zgreen]
theorem zw8in {w h y how : Nat} {px f : Nat → Int32} {col : Bool} (hw : w ≤ 8) (hh : h ≤ 8) (hy : y < h) (hho : how ≤ 1) (rc : Int32 → Int32 → (Nat → Int32) → Int32 → (Nat → Int32) → Int32 → Int32 → Int32 → Option (Int32 × (Nat → Int32))) : ∀ (n x : Nat) (l : List Nat), x ≤ w → w - x < n → l.length + 12 * (w - x) ≤ 800 →
    fX6_write_114 rc n (nI w) (nI h) px (nI l.length) (zw f l) (nI how) (zI col) (nI y) (nI x) = rc (nI w) (nI h) px (nI (l ++ zfl (zL1 px w how col) (y * w + x) (w - x)).length) (zw f (l ++ zfl (zL1 px w how col) (y * w + x) (w - x))) (nI how) (zI col) (nI (y + 1)) := by
  intro n
  induction n with
  | zero => intro x l h1 h2; omega
  | succ n ih =>
    intro x l h1 h2 h3
    rw [fX6_write_114_s]
    by_cases c : w ≤ x
    · rw [show w - x = 0 by omega, zfl_0, List.append_nil]
      simp (disch := omega) only [zlit, nI_lt_nI, nI_le_nI, nI_eq_nI, nI_add, pk_mul, pk_sub, pk_div, zrem_nI, zrd_nI, zwr_nI, zb1_some, zb2_some, zb3_some, zb4_some, zb5_some, zb6_some, zb7_some, zb8_some, zlet_eq, if_pos, if_neg, pk_us, pk_un, true_and, and_true, true_or, or_true, ↓reduceIte]
    · have hi := zidx hw hh (show x < w by omega) hy
      have hl := zL1_len px w how col (y * w + x)
      have hm : (y * w + x) % w = x := by rw [Nat.mul_comm, Nat.mul_add_mod]; exact Nat.mod_eq_of_lt (by omega)
      rw [show w - x = (w - (x + 1)) + 1 by omega, zfl_s, ← List.append_assoc]
      have := ih (x + 1) (l ++ zL1 px w how col (y * w + x)) (by omega) (by omega) (by rw [List.length_append]; omega)
      rw [show y * w + (x + 1) = y * w + x + 1 by omega] at this
      rw [← this]
      unfold zL1
      rw [hm]
      unfold fX6_write_141 fX5_at
      by_cases c2 : x + 1 = w
      · simp (disch := omega) only [zlit, nI_lt_nI, nI_le_nI, nI_eq_nI, nI_add, pk_mul, pk_sub, pk_div, zrem_nI, zrd_nI, zwr_nI, zb1_some, zb2_some, zb3_some, zb4_some, zb5_some, zb6_some, zb7_some, zb8_some, zlet_eq, if_pos, if_neg, pk_us, pk_un, true_and, and_true, true_or, or_true, ↓reduceIte, zpix8]
      · simp (disch := omega) only [zlit, nI_lt_nI, nI_le_nI, nI_eq_nI, nI_add, pk_mul, pk_sub, pk_div, zrem_nI, zrd_nI, zwr_nI, zb1_some, zb2_some, zb3_some, zb4_some, zb5_some, zb6_some, zb7_some, zb8_some, zlet_eq, if_pos, if_neg, pk_us, pk_un, true_and, and_true, true_or, or_true, ↓reduceIte, zpix8]
theorem zw8out {w h how : Nat} {px f : Nat → Int32} {col : Bool} (hw : w ≤ 8) (hh : h ≤ 8) (hho : how ≤ 1) : ∀ (n y : Nat) (l : List Nat), y ≤ h → h - y < n → l.length + 12 * ((h - y) * w) ≤ 800 →
    fX6_write_102 n (nI w) (nI h) px (nI l.length) (zw f l) (nI how) (zI col) (nI y) = some (nI (l ++ zfl (zL1 px w how col) (y * w) ((h - y) * w)).length, zw f (l ++ zfl (zL1 px w how col) (y * w) ((h - y) * w))) := by
  intro n
  induction n with
  | zero => intro y l h1 h2; omega
  | succ n ih =>
    intro y l h1 h2 h3
    rw [fX6_write_102_s]
    by_cases c : h ≤ y
    · rw [show h - y = 0 by omega, Nat.zero_mul, zfl_0, List.append_nil]
      simp (disch := omega) only [zlit, nI_lt_nI, nI_le_nI, nI_eq_nI, nI_add, pk_mul, pk_sub, pk_div, zrem_nI, zrd_nI, zwr_nI, zb1_some, zb2_some, zb3_some, zb4_some, zb5_some, zb6_some, zb7_some, zb8_some, zlet_eq, if_pos, if_neg, pk_us, pk_un, true_and, and_true, true_or, or_true, ↓reduceIte]
    · have e : (h - y) * w = w + (h - (y + 1)) * w := by rw [show h - y = (h - (y + 1)) + 1 by omega, Nat.add_mul, Nat.one_mul, Nat.add_comm]
      have hz := zfl_len (zL1_len px w how col) w (y * w)
      have g := @zw8in w h y how px f col hw hh (by omega) hho (fX6_write_102 n) 1000 0 l (by omega) (by omega) (by omega)
      rw [Nat.add_zero, Nat.sub_zero] at g
      have g2 := ih (y + 1) (l ++ zfl (zL1 px w how col) (y * w) w) (by omega) (by omega) (by rw [List.length_append]; omega)
      rw [e, zfl_add, ← List.append_assoc, show y * w + w = (y + 1) * w by rw [Nat.add_mul, Nat.one_mul], ← g2]
      simp (disch := omega) only [zlit, nI_lt_nI, nI_le_nI, nI_eq_nI, nI_add, pk_mul, pk_sub, pk_div, zrem_nI, zrd_nI, zwr_nI, zb1_some, zb2_some, zb3_some, zb4_some, zb5_some, zb6_some, zb7_some, zb8_some, zlet_eq, if_pos, if_neg, pk_us, pk_un, true_and, and_true, true_or, or_true, ↓reduceIte]
      rw [g]
theorem zs9step {w h k c how S : Nat} {px rn f : Nat → Int32} (hw : w ≤ 8) (hh : h ≤ 8) (hP : zPic w h px rn) (hk : k < w * h) (hho : how ≤ 1) (hS : S = 1 ∨ S = 3) (hc : c < S) (rc : Int32 → Int32 → Int32 → (Nat → Int32) → (Nat → Int32) → Int32 → Int32 → Int32 → Option (Int32 × (Nat → Int32))) (n : Nat) (l : List Nat) (hl : l.length + 4 ≤ 800) :
    fX9_writeSecond_106 rc (n + 1) (nI w) (nI h) (nI l.length) rn (zw f l) (nI how) (nI S) (nI k) (nI c) = fX9_writeSecond_106 rc n (nI w) (nI h) (nI (l ++ zsm how (zch (px k) c) (if k % w + 1 = w ∧ c + 1 = S then 10 else 32)).length) rn (zw f (l ++ zsm how (zch (px k) c) (if k % w + 1 = w ∧ c + 1 = S then 10 else 32))) (nI how) (nI S) (nI k) (nI (c + 1)) := by
  obtain ⟨h1, h2, h3, h4⟩ := zdm hk
  have hs := zmul64 hw hh
  have b := zch_lt (px k) c
  have hd := zdig_len (zch (px k) c)
  rw [fX9_writeSecond_106_s]
  unfold zsm fX9_writeSecond_143 fX9_writeSecond_144 fX9_writeSecond_170 fX9_writeSecond_187 znz
  by_cases q0 : how = 0
  · simp (disch := first | omega | (simp only [List.length_append, List.length_cons, List.length_nil] <;> omega)) only [zlit, nI_lt_nI, nI_le_nI, nI_eq_nI, nI_add, pk_mul, pk_sub, pk_div, zrem_nI, zrd_nI, zwr_nI, zb1_some, zb2_some, zb3_some, zb4_some, zb5_some, zb6_some, zb7_some, zb8_some, zlet_eq, if_pos, if_neg, pk_us, pk_un, true_and, and_true, true_or, or_true, ↓reduceIte, List.append_assoc, List.cons_append, List.nil_append, zchan hw hh hP, zadd]
  · by_cases q1 : k % w = w - 1
    · by_cases q2 : c = S - 1
      · simp (disch := first | omega | (simp only [List.length_append, List.length_cons, List.length_nil] <;> omega)) only [zlit, nI_lt_nI, nI_le_nI, nI_eq_nI, nI_add, pk_mul, pk_sub, pk_div, zrem_nI, zrd_nI, zwr_nI, zb1_some, zb2_some, zb3_some, zb4_some, zb5_some, zb6_some, zb7_some, zb8_some, zlet_eq, if_pos, if_neg, pk_us, pk_un, true_and, and_true, true_or, or_true, ↓reduceIte, List.append_assoc, List.cons_append, List.nil_append, zchan hw hh hP, zadd, zdig9]
      · simp (disch := first | omega | (simp only [List.length_append, List.length_cons, List.length_nil] <;> omega)) only [zlit, nI_lt_nI, nI_le_nI, nI_eq_nI, nI_add, pk_mul, pk_sub, pk_div, zrem_nI, zrd_nI, zwr_nI, zb1_some, zb2_some, zb3_some, zb4_some, zb5_some, zb6_some, zb7_some, zb8_some, zlet_eq, if_pos, if_neg, pk_us, pk_un, true_and, and_true, true_or, or_true, ↓reduceIte, List.append_assoc, List.cons_append, List.nil_append, zchan hw hh hP, zadd, zdig9]
    · simp (disch := first | omega | (simp only [List.length_append, List.length_cons, List.length_nil] <;> omega)) only [zlit, nI_lt_nI, nI_le_nI, nI_eq_nI, nI_add, pk_mul, pk_sub, pk_div, zrem_nI, zrd_nI, zwr_nI, zb1_some, zb2_some, zb3_some, zb4_some, zb5_some, zb6_some, zb7_some, zb8_some, zlet_eq, if_pos, if_neg, pk_us, pk_un, true_and, and_true, true_or, or_true, ↓reduceIte, List.append_assoc, List.cons_append, List.nil_append, zchan hw hh hP, zadd, zdig9]
theorem zall_at {P : Nat → Bool} : ∀ (n i : Nat), zall P i n = true → ∀ k, i ≤ k → k < i + n → P k = true := by
  intro n
  induction n with
  | zero => intro i h k h1 h2; omega
  | succ n ih =>
    intro i h k h1 h2
    rw [zall_s, Bool.and_eq_true] at h
    rcases (show k = i ∨ i + 1 ≤ k by omega) with rfl | q
    · exact h.1
    · exact ih (i + 1) h.2 k q (by omega)
theorem zgrey_at {px : Nat → Int32} {n k : Nat} (h : zgreyB px n = true) (hk : k < n) : zch (px k) 0 = zch (px k) 1 ∧ zch (px k) 1 = zch (px k) 2 ∧ zch (px k) 3 = 255 := by
  unfold zgreyB at h
  rw [Bool.and_eq_true] at h
  have h1 := zall_at _ _ h.1 k (Nat.zero_le _) (by omega)
  have h2 := zall_at _ _ h.2 k (Nat.zero_le _) (by omega)
  unfold zgy at h1
  unfold zop at h2
  rw [Bool.and_eq_true] at h1
  exact ⟨of_decide_eq_true h1.1, of_decide_eq_true h1.2, of_decide_eq_true h2⟩
theorem zs9out {w h how : Nat} {px rn f : Nat → Int32} {col : Bool} (hw : w ≤ 8) (hh : h ≤ 8) (hP : zPic w h px rn) (hho : how ≤ 1) (hcol : col = false → ∀ k, k < w * h → zch (px k) 0 = zch (px k) 2) : ∀ (n k : Nat) (l : List Nat), k ≤ w * h → w * h - k < n → l.length + 12 * (w * h - k) ≤ 800 →
    fX9_writeSecond_90 n (nI w) (nI h) (nI l.length) rn (zw f l) (nI how) (nI (if col then 3 else 1)) (nI k) = some (nI (l ++ zfl (zL1 px w how col) k (w * h - k)).length, zw f (l ++ zfl (zL1 px w how col) k (w * h - k))) := by
  have hs := zmul64 hw hh
  intro n
  induction n with
  | zero => intro k l h1 h2; omega
  | succ n ih =>
    intro k l h1 h2 h3
    rw [fX9_writeSecond_90_s]
    by_cases c : w * h ≤ k
    · rw [show w * h - k = 0 by omega, zfl_0, List.append_nil]
      simp (disch := omega) only [zlit, nI_lt_nI, nI_le_nI, nI_eq_nI, nI_add, pk_mul, pk_sub, pk_div, zrem_nI, zrd_nI, zwr_nI, zb1_some, zb2_some, zb3_some, zb4_some, zb5_some, zb6_some, zb7_some, zb8_some, zlet_eq, if_pos, if_neg, pk_us, pk_un, true_and, and_true, true_or, or_true, ↓reduceIte]
    · have hk : k < w * h := by omega
      have hl := zL1_len px w how col k
      rw [show w * h - k = (w * h - (k + 1)) + 1 by omega, zfl_s, ← List.append_assoc, ← ih (k + 1) (l ++ zL1 px w how col k) (by omega) (by omega) (by rw [List.length_append]; omega)]
      cases col
      · simp only [Bool.false_eq_true, ↓reduceIte]
        have e1 := @zs9step w h k 0 how 1 px rn f hw hh hP hk hho (Or.inl rfl) (by decide) (fX9_writeSecond_90 n) 999 l (by omega)
        unfold zL1
        simp only [Bool.false_eq_true, ↓reduceIte]
        rw [← hcol rfl k hk]
        rw [show (if k % w + 1 = w ∧ 0 + 1 = 1 then 10 else 32) = (if k % w + 1 = w then 10 else 32) by simp] at e1
        simp (disch := omega) only [zlit, nI_lt_nI, nI_le_nI, nI_eq_nI, nI_add, pk_mul, pk_sub, pk_div, zrem_nI, zrd_nI, zwr_nI, zb1_some, zb2_some, zb3_some, zb4_some, zb5_some, zb6_some, zb7_some, zb8_some, zlet_eq, if_pos, if_neg, pk_us, pk_un, true_and, and_true, true_or, or_true, ↓reduceIte]
        rw [e1, fX9_writeSecond_106_s]
        simp (disch := omega) only [zlit, nI_lt_nI, nI_le_nI, nI_eq_nI, nI_add, pk_mul, pk_sub, pk_div, zrem_nI, zrd_nI, zwr_nI, zb1_some, zb2_some, zb3_some, zb4_some, zb5_some, zb6_some, zb7_some, zb8_some, zlet_eq, if_pos, if_neg, pk_us, pk_un, true_and, and_true, true_or, or_true, ↓reduceIte]
      · rw [if_pos rfl]
        have g0 := zsm_len how (zch (px k) 0) 32
        have g1 := zsm_len how (zch (px k) 1) 32
        have e0 := @zs9step w h k 0 how 3 px rn f hw hh hP hk hho (Or.inr rfl) (by decide) (fX9_writeSecond_90 n) 999 l (by omega)
        rw [if_neg (by omega)] at e0
        have e1 := @zs9step w h k 1 how 3 px rn f hw hh hP hk hho (Or.inr rfl) (by decide) (fX9_writeSecond_90 n) 998 (l ++ zsm how (zch (px k) 0) 32) (by rw [List.length_append]; omega)
        rw [if_neg (by omega)] at e1
        have e2 := @zs9step w h k 2 how 3 px rn f hw hh hP hk hho (Or.inr rfl) (by decide) (fX9_writeSecond_90 n) 997 (l ++ zsm how (zch (px k) 0) 32 ++ zsm how (zch (px k) 1) 32) (by rw [List.length_append, List.length_append]; omega)
        rw [show (if k % w + 1 = w ∧ 2 + 1 = 3 then 10 else 32) = (if k % w + 1 = w then 10 else 32) by simp] at e2
        unfold zL1
        rw [if_pos rfl, ← List.append_assoc, ← List.append_assoc]
        simp (disch := omega) only [zlit, nI_lt_nI, nI_le_nI, nI_eq_nI, nI_add, pk_mul, pk_sub, pk_div, zrem_nI, zrd_nI, zwr_nI, zb1_some, zb2_some, zb3_some, zb4_some, zb5_some, zb6_some, zb7_some, zb8_some, zlet_eq, if_pos, if_neg, pk_us, pk_un, true_and, and_true, true_or, or_true, ↓reduceIte]
        rw [e0, e1, e2, fX9_writeSecond_106_s]
        simp (disch := omega) only [zlit, nI_lt_nI, nI_le_nI, nI_eq_nI, nI_add, pk_mul, pk_sub, pk_div, zrem_nI, zrd_nI, zwr_nI, zb1_some, zb2_some, zb3_some, zb4_some, zb5_some, zb6_some, zb7_some, zb8_some, zlet_eq, if_pos, if_neg, pk_us, pk_un, true_and, and_true, true_or, or_true, ↓reduceIte]
/-- what the second format writes -/
def zW1 (px : Nat → Int32) (w h how : Nat) (col : Bool) : List Nat := [80, (if how = 0 then 53 else 50) + (if col then 1 else 0), 10] ++ (zdig w ++ ([32] ++ (zdig h ++ ([10] ++ (zdig 255 ++ ([10] ++ zfl (zL1 px w how col) 0 (w * h)))))))
theorem zW1_len {px : Nat → Int32} {w h how : Nat} {col : Bool} (hw : w ≤ 8) (hh : h ≤ 8) : (zW1 px w h how col).length ≤ 800 := by
  have hs := zmul64 hw hh
  have h1 := zfl_len (zL1_len px w how col) (w * h) 0
  have d1 : (zdig w).length = 1 := by unfold zdig; rw [if_neg (by omega), if_neg (by omega)]; rfl
  have d2 : (zdig h).length = 1 := by unfold zdig; rw [if_neg (by omega), if_neg (by omega)]; rfl
  have d3 := zdig_len 255
  unfold zW1
  simp only [List.length_append, List.length_cons, List.length_nil]
  omega
theorem zW1_all {px : Nat → Int32} {w h how : Nat} {col : Bool} (hw : w ≤ 8) (hh : h ≤ 8) : ∀ u ∈ zW1 px w h how col, u < 256 := by
  have a1 := zfl_all (zL1_all px w how col) (w * h) 0
  have d1 := @zdig_all w (by omega)
  have d2 := @zdig_all h (by omega)
  have d3 := @zdig_all 255 (by omega)
  intro u hu
  unfold zW1 at hu
  simp only [List.mem_append, List.mem_cons, List.not_mem_nil, or_false] at hu
  rcases hu with (rfl | rfl | rfl) | hu | rfl | hu | rfl | hu | rfl | hu
  · decide
  · split <;> split <;> decide
  · decide
  · exact d1 u hu
  · decide
  · exact d2 u hu
  · decide
  · exact d3 u hu
  · decide
  · exact a1 u hu
theorem zwrite1_8 {w h how : Nat} {px f : Nat → Int32} (hw : w ≤ 8) (hh : h ≤ 8) (hho : how ≤ 1) : fX6_write (nI w) (nI h) px (nI 0) f (nI how) = some (nI (zW1 px w h how (!zgreyB px (w * h))).length, zw f (zW1 px w h how (!zgreyB px (w * h)))) := by
  have hs := zmul64 hw hh
  have d1 : (zdig w).length = 1 := by unfold zdig; rw [if_neg (by omega), if_neg (by omega)]; rfl
  have d2 : (zdig h).length = 1 := by unfold zdig; rw [if_neg (by omega), if_neg (by omega)]; rfl
  have d3 := zdig_len 255
  have hH : ∀ col : Bool, fX6_write_12 (nI w) (nI h) px (nI ([] : List Nat).length) (zw f []) (nI how) (zI col) = some (nI (zW1 px w h how col).length, zw f (zW1 px w h how col)) := by
    intro col
    have g := fun l : List Nat => @zw8out w h how px f col hw hh hho 1000 0 l (by omega) (by omega)
    simp only [Nat.zero_mul, Nat.sub_zero, Nat.mul_comm h w] at g
    unfold fX6_write_12 fX6_write_33 fX6_write_43 zW1
    by_cases q : how = 0
    · cases col
      · rw [show zI false = nI 0 from rfl] at g ⊢
        simp (disch := first | omega | (simp only [List.length_append, List.length_cons, List.length_nil] <;> omega)) only [zlit, nI_lt_nI, nI_le_nI, nI_eq_nI, nI_add, pk_mul, pk_sub, pk_div, zrem_nI, zrd_nI, zwr_nI, zb1_some, zb2_some, zb3_some, zb4_some, zb5_some, zb6_some, zb7_some, zb8_some, zlet_eq, if_pos, if_neg, pk_us, pk_un, true_and, and_true, true_or, or_true, ↓reduceIte, List.append_assoc, List.cons_append, List.nil_append, zap, zdig8, Bool.false_eq_true]
        rw [g _ (by simp only [List.length_append, List.length_cons, List.length_nil]; omega)]
        simp only [List.append_assoc, List.cons_append, List.nil_append]
      · rw [show zI true = nI 1 from rfl] at g ⊢
        simp (disch := first | omega | (simp only [List.length_append, List.length_cons, List.length_nil] <;> omega)) only [zlit, nI_lt_nI, nI_le_nI, nI_eq_nI, nI_add, pk_mul, pk_sub, pk_div, zrem_nI, zrd_nI, zwr_nI, zb1_some, zb2_some, zb3_some, zb4_some, zb5_some, zb6_some, zb7_some, zb8_some, zlet_eq, if_pos, if_neg, pk_us, pk_un, true_and, and_true, true_or, or_true, ↓reduceIte, List.append_assoc, List.cons_append, List.nil_append, zap, zdig8]
        rw [g _ (by simp only [List.length_append, List.length_cons, List.length_nil]; omega)]
        simp only [List.append_assoc, List.cons_append, List.nil_append]
    · cases col
      · rw [show zI false = nI 0 from rfl] at g ⊢
        simp (disch := first | omega | (simp only [List.length_append, List.length_cons, List.length_nil] <;> omega)) only [zlit, nI_lt_nI, nI_le_nI, nI_eq_nI, nI_add, pk_mul, pk_sub, pk_div, zrem_nI, zrd_nI, zwr_nI, zb1_some, zb2_some, zb3_some, zb4_some, zb5_some, zb6_some, zb7_some, zb8_some, zlet_eq, if_pos, if_neg, pk_us, pk_un, true_and, and_true, true_or, or_true, ↓reduceIte, List.append_assoc, List.cons_append, List.nil_append, zap, zdig8, Bool.false_eq_true]
        rw [g _ (by simp only [List.length_append, List.length_cons, List.length_nil]; omega)]
        simp only [List.append_assoc, List.cons_append, List.nil_append]
      · rw [show zI true = nI 1 from rfl] at g ⊢
        simp (disch := first | omega | (simp only [List.length_append, List.length_cons, List.length_nil] <;> omega)) only [zlit, nI_lt_nI, nI_le_nI, nI_eq_nI, nI_add, pk_mul, pk_sub, pk_div, zrem_nI, zrd_nI, zwr_nI, zb1_some, zb2_some, zb3_some, zb4_some, zb5_some, zb6_some, zb7_some, zb8_some, zlet_eq, if_pos, if_neg, pk_us, pk_un, true_and, and_true, true_or, or_true, ↓reduceIte, List.append_assoc, List.cons_append, List.nil_append, zap, zdig8]
        rw [g _ (by simp only [List.length_append, List.length_cons, List.length_nil]; omega)]
        simp only [List.append_assoc, List.cons_append, List.nil_append]
  unfold fX6_write
  rw [zisgr8 hs, zb1_some]
  cases hg : zgreyB px (w * h)
  · exact hH true
  · exact hH false
theorem zwrite1_9 {w h how : Nat} {px rn f : Nat → Int32} (hw : w ≤ 8) (hh : h ≤ 8) (hP : zPic w h px rn) (hho : how ≤ 1) : fX9_writeSecond (nI w) (nI h) (nI 0) rn f (nI how) = some (nI (zW1 px w h how (!zgreyB px (w * h))).length, zw f (zW1 px w h how (!zgreyB px (w * h)))) := by
  have hs := zmul64 hw hh
  have d1 : (zdig w).length = 1 := by unfold zdig; rw [if_neg (by omega), if_neg (by omega)]; rfl
  have d2 : (zdig h).length = 1 := by unfold zdig; rw [if_neg (by omega), if_neg (by omega)]; rfl
  have d3 := zdig_len 255
  have hH : ∀ col : Bool, (col = false → ∀ k, k < w * h → zch (px k) 0 = zch (px k) 2) → fX9_writeSecond_12 (nI w) (nI h) (nI ([] : List Nat).length) rn (zw f []) (nI how) (nI (if col then 3 else 1)) = some (nI (zW1 px w h how col).length, zw f (zW1 px w h how col)) := by
    intro col hc
    have g := fun l : List Nat => @zs9out w h how px rn f col hw hh hP hho hc 1000 0 l (by omega) (by omega)
    simp only [Nat.sub_zero] at g
    unfold fX9_writeSecond_12 fX9_writeSecond_27 fX9_writeSecond_37 zW1
    by_cases q : how = 0
    · cases col
      · simp only [Bool.false_eq_true, ↓reduceIte] at g ⊢
        simp (disch := first | omega | (simp only [List.length_append, List.length_cons, List.length_nil] <;> omega)) only [zlit, nI_lt_nI, nI_le_nI, nI_eq_nI, nI_add, pk_mul, pk_sub, pk_div, zrem_nI, zrd_nI, zwr_nI, zb1_some, zb2_some, zb3_some, zb4_some, zb5_some, zb6_some, zb7_some, zb8_some, zlet_eq, if_pos, if_neg, pk_us, pk_un, true_and, and_true, true_or, or_true, ↓reduceIte, List.append_assoc, List.cons_append, List.nil_append, zadd, zaddTwo, zdig9, Bool.false_eq_true]
        rw [g _ (by simp only [List.length_append, List.length_cons, List.length_nil]; omega)]
        simp only [List.append_assoc, List.cons_append, List.nil_append]
      · rw [if_pos rfl] at g ⊢
        simp (disch := first | omega | (simp only [List.length_append, List.length_cons, List.length_nil] <;> omega)) only [zlit, nI_lt_nI, nI_le_nI, nI_eq_nI, nI_add, pk_mul, pk_sub, pk_div, zrem_nI, zrd_nI, zwr_nI, zb1_some, zb2_some, zb3_some, zb4_some, zb5_some, zb6_some, zb7_some, zb8_some, zlet_eq, if_pos, if_neg, pk_us, pk_un, true_and, and_true, true_or, or_true, ↓reduceIte, List.append_assoc, List.cons_append, List.nil_append, zadd, zaddTwo, zdig9]
        rw [g _ (by simp only [List.length_append, List.length_cons, List.length_nil]; omega)]
        simp only [List.append_assoc, List.cons_append, List.nil_append]
    · cases col
      · simp only [Bool.false_eq_true, ↓reduceIte] at g ⊢
        simp (disch := first | omega | (simp only [List.length_append, List.length_cons, List.length_nil] <;> omega)) only [zlit, nI_lt_nI, nI_le_nI, nI_eq_nI, nI_add, pk_mul, pk_sub, pk_div, zrem_nI, zrd_nI, zwr_nI, zb1_some, zb2_some, zb3_some, zb4_some, zb5_some, zb6_some, zb7_some, zb8_some, zlet_eq, if_pos, if_neg, pk_us, pk_un, true_and, and_true, true_or, or_true, ↓reduceIte, List.append_assoc, List.cons_append, List.nil_append, zadd, zaddTwo, zdig9, Bool.false_eq_true]
        rw [g _ (by simp only [List.length_append, List.length_cons, List.length_nil]; omega)]
        simp only [List.append_assoc, List.cons_append, List.nil_append]
      · rw [if_pos rfl] at g ⊢
        simp (disch := first | omega | (simp only [List.length_append, List.length_cons, List.length_nil] <;> omega)) only [zlit, nI_lt_nI, nI_le_nI, nI_eq_nI, nI_add, pk_mul, pk_sub, pk_div, zrem_nI, zrd_nI, zwr_nI, zb1_some, zb2_some, zb3_some, zb4_some, zb5_some, zb6_some, zb7_some, zb8_some, zlet_eq, if_pos, if_neg, pk_us, pk_un, true_and, and_true, true_or, or_true, ↓reduceIte, List.append_assoc, List.cons_append, List.nil_append, zadd, zaddTwo, zdig9]
        rw [g _ (by simp only [List.length_append, List.length_cons, List.length_nil]; omega)]
        simp only [List.append_assoc, List.cons_append, List.nil_append]
  unfold fX9_writeSecond
  rw [zisgr9 hw hh hP, zb1_some]
  cases hg : zgreyB px (w * h)
  · have g := hH true (fun q => by cases q)
    rw [show zI false = nI 0 from rfl]
    simp only [↓reduceIte] at g
    simp (disch := omega) only [zlit, nI_lt_nI, nI_le_nI, nI_eq_nI, nI_add, pk_mul, pk_sub, pk_div, zrem_nI, zrd_nI, zwr_nI, zb1_some, zb2_some, zb3_some, zb4_some, zb5_some, zb6_some, zb7_some, zb8_some, zlet_eq, if_pos, if_neg, pk_us, pk_un, true_and, and_true, true_or, or_true, ↓reduceIte]
    exact g
  · have g := hH false (fun _ k hk => by
      have := zgrey_at hg hk
      rw [this.1, this.2.1])
    rw [show zI true = nI 1 from rfl]
    simp only [Bool.false_eq_true, ↓reduceIte] at g
    simp (disch := omega) only [zlit, nI_lt_nI, nI_le_nI, nI_eq_nI, nI_add, pk_mul, pk_sub, pk_div, zrem_nI, zrd_nI, zwr_nI, zb1_some, zb2_some, zb3_some, zb4_some, zb5_some, zb6_some, zb7_some, zb8_some, zlet_eq, if_pos, if_neg, pk_us, pk_un, true_and, and_true, true_or, or_true, ↓reduceIte]
    exact g
