/-! The third format's writers. -/
/-- where a colour stands in a list, its length where it does not -/
def zix (p : Int32) : List Int32 → Nat
  | [] => 0
  | a :: l => if a = p then 0 else zix p l + 1
theorem zix_cons (p a : Int32) (l : List Int32) : zix p (a :: l) = if a = p then 0 else zix p l + 1 := rfl
theorem zix_mem {p : Int32} {m : List Int32} : ∀ {l : List Int32}, p ∈ l → zix p (l ++ m) = zix p l := by
  intro l
  induction l with
  | nil => intro h; cases h
  | cons a l ih =>
    intro h
    rw [List.cons_append, zix_cons, zix_cons]
    by_cases c : a = p
    · rw [if_pos c, if_pos c]
    · rw [if_neg c, if_neg c, ih ((List.mem_cons.mp h).resolve_left (fun q => c q.symm))]
theorem zix_not' {p : Int32} {m : List Int32} : ∀ {l : List Int32}, p ∉ l → zix p (l ++ m) = l.length + zix p m := by
  intro l
  induction l with
  | nil => intro h; rw [List.nil_append, List.length_nil, Nat.zero_add]
  | cons a l ih =>
    intro h
    rw [List.cons_append, zix_cons, if_neg (fun c => h (List.mem_cons.mpr (Or.inl c.symm))), ih (fun q => h (List.mem_cons.mpr (Or.inr q))), List.length_cons]
    omega
theorem zix_out {p : Int32} {l : List Int32} (h : p ∉ l) : zix p l = l.length := by
  have := zix_not' (m := []) h
  rw [List.append_nil] at this
  exact this
theorem zix_lt {p : Int32} : ∀ {l : List Int32}, p ∈ l → zix p l < l.length := by
  intro l
  induction l with
  | nil => intro h; cases h
  | cons a l ih =>
    intro h
    rw [zix_cons, List.length_cons]
    by_cases c : a = p
    · rw [if_pos c]; omega
    · rw [if_neg c]
      have := ih ((List.mem_cons.mp h).resolve_left (fun q => c q.symm))
      omega
/-- the colours of the first i pixels, each once -/
def zG (px : Nat → Int32) : Nat → List Int32
  | 0 => []
  | i + 1 => if px i ∈ zG px i then zG px i else zG px i ++ [px i]
theorem zG_s (px : Nat → Int32) (i : Nat) : zG px (i + 1) = if px i ∈ zG px i then zG px i else zG px i ++ [px i] := rfl
theorem zG_mem (px : Nat → Int32) (p : Int32) : ∀ i, p ∈ zG px i ↔ ∃ j, j < i ∧ px j = p := by
  intro i
  induction i with
  | zero => exact ⟨fun (h : p ∈ ([] : List Int32)) => absurd h List.not_mem_nil, fun ⟨j, h, _⟩ => absurd h (Nat.not_lt_zero _)⟩
  | succ i ih =>
    rw [zG_s]
    constructor
    · intro h
      by_cases c : px i ∈ zG px i
      · rw [if_pos c] at h
        obtain ⟨j, h1, h2⟩ := ih.mp h
        exact ⟨j, by omega, h2⟩
      · rw [if_neg c] at h
        rcases List.mem_append.mp h with q | q
        · obtain ⟨j, h1, h2⟩ := ih.mp q
          exact ⟨j, by omega, h2⟩
        · exact ⟨i, by omega, (List.mem_singleton.mp q).symm⟩
    · intro ⟨j, h1, h2⟩
      by_cases c : px i ∈ zG px i
      · rw [if_pos c]
        rcases (show j < i ∨ j = i by omega) with q | q
        · exact ih.mpr ⟨j, q, h2⟩
        · subst q; subst h2; exact c
      · rw [if_neg c]
        rcases (show j < i ∨ j = i by omega) with q | q
        · exact List.mem_append_left _ (ih.mpr ⟨j, q, h2⟩)
        · subst q; subst h2; exact List.mem_append_right _ (List.mem_singleton.mpr rfl)
theorem zG_len (px : Nat → Int32) : ∀ i, (zG px i).length ≤ i := by
  intro i
  induction i with
  | zero => exact Nat.le_refl _
  | succ i ih =>
    rw [zG_s]
    split
    · omega
    · rw [List.length_append]; simp; omega
theorem zG_idx (px : Nat → Int32) {p : Int32} {i : Nat} (h : p ∈ zG px i) : ∀ d, zix p (zG px (i + d)) = zix p (zG px i) ∧ p ∈ zG px (i + d) := by
  intro d
  induction d with
  | zero => exact ⟨rfl, h⟩
  | succ d ih =>
    rw [← Nat.add_assoc, zG_s]
    split
    · exact ih
    · refine ⟨?_, List.mem_append_left _ ih.2⟩
      rw [zix_mem ih.2]
      exact ih.1
theorem zG_idx2 (px : Nat → Int32) {p : Int32} {i k : Nat} (h : p ∈ zG px i) (hk : i ≤ k) : zix p (zG px k) = zix p (zG px i) := by
  have := (zG_idx px h (k - i)).1
  rw [show i + (k - i) = k by omega] at this
  exact this
/-- the number of pixel k's colour -/
theorem zG_new (px : Nat → Int32) {k n : Nat} (hk : k < n) (h : px k ∉ zG px k) : zix (px k) (zG px n) = (zG px k).length := by
  have h1 : px k ∈ zG px (k + 1) := (zG_mem px _ _).mpr ⟨k, by omega, rfl⟩
  rw [zG_idx2 px h1 (show k + 1 ≤ n by omega), zG_s, if_neg h, zix_not' h]
  show _ + (if px k = px k then 0 else 0 + 1) = _
  rw [if_pos rfl, Nat.add_zero]
theorem zG_old (px : Nat → Int32) {k n : Nat} (hk : k ≤ n) (h : px k ∈ zG px k) : zix (px k) (zG px n) = zix (px k) (zG px k) := zG_idx2 px h hk
/-- the class's table holds the list -/
def zTab (c : Nat → Int32) (G : List Int32) : Prop := ∀ m (h : m < G.length), c m = G[m]
theorem zTab_app {c : Nat → Int32} {G : List Int32} {p : Int32} (h : zTab c G) : zTab (upd c G.length p) (G ++ [p]) := by
  intro m hm
  by_cases q : m = G.length
  · subst q
    rw [pk_us]
    simp
  · have hm' : m < G.length := by simp at hm; omega
    rw [pk_un q, h m hm', List.getElem_append_left hm']
theorem znumOf {c : Nat → Int32} {G : List Int32} {p : Int32} (hG : G.length ≤ 64) (h : zTab c G) : ∀ (n m : Nat), m ≤ G.length → G.length - m < n → fX0_numberOf_2 n (nI G.length) c p (nI m) = some (nI (m + zix p (G.drop m))) := by
  intro n
  induction n with
  | zero => intro m h1 h2; omega
  | succ n ih =>
    intro m h1 h2
    rw [fX0_numberOf_2_s]
    by_cases q : G.length ≤ m
    · rw [List.drop_eq_nil_of_le q]
      have : m = G.length := by omega
      subst this
      simp (disch := omega) only [zlit, nI_lt_nI, nI_le_nI, nI_eq_nI, nI_add, pk_mul, pk_sub, pk_div, zrem_nI, zrd_nI, zwr_nI, zb1_some, zb2_some, zb3_some, zb4_some, zb5_some, zb6_some, zb7_some, zb8_some, zlet_eq, if_pos, if_neg, pk_us, pk_un, true_and, and_true, true_or, or_true, ↓reduceIte]
      rfl
    · have hm : m < G.length := by omega
      have hc := h m hm
      rw [List.drop_eq_getElem_cons hm, zix_cons, ← hc]
      by_cases e : c m = p
      · rw [if_pos e]
        simp (disch := omega) only [zlit, nI_lt_nI, nI_le_nI, nI_eq_nI, nI_add, pk_mul, pk_sub, pk_div, zrem_nI, zrd_nI, zwr_nI, zb1_some, zb2_some, zb3_some, zb4_some, zb5_some, zb6_some, zb7_some, zb8_some, zlet_eq, if_pos, if_neg, pk_us, pk_un, true_and, and_true, true_or, or_true, ↓reduceIte]
        rw [Nat.add_zero]
      · rw [if_neg e]
        have := ih (m + 1) (by omega) (by omega)
        simp (disch := omega) only [zlit, nI_lt_nI, nI_le_nI, nI_eq_nI, nI_add, pk_mul, pk_sub, pk_div, zrem_nI, zrd_nI, zwr_nI, zb1_some, zb2_some, zb3_some, zb4_some, zb5_some, zb6_some, zb7_some, zb8_some, zlet_eq, if_pos, if_neg, pk_us, pk_un, true_and, and_true, true_or, or_true, ↓reduceIte]
        rw [this]
        congr 2
        omega
theorem znumOf8 {c : Nat → Int32} {G : List Int32} {p : Int32} (hG : G.length ≤ 64) (h : zTab c G) : fX0_numberOf (nI G.length) c p = some (nI (zix p G)) := by
  unfold fX0_numberOf
  have := @znumOf c G p hG h 1000 0 (by omega) (by omega)
  rw [Nat.zero_add, List.drop_zero] at this
  exact this
theorem zgather {w h : Nat} {px : Nat → Int32} (hs : w * h ≤ 64) : ∀ (n i : Nat) (c : Nat → Int32), i ≤ w * h → w * h - i < n → zTab c (zG px i) → ∃ c', fX0_gatherColours_2 n (nI (zG px i).length) c (nI w) (nI h) px (nI i) = some (nI (zG px (w * h)).length, c') ∧ zTab c' (zG px (w * h)) := by
  intro n
  induction n with
  | zero => intro i c h1 h2; omega
  | succ n ih =>
    intro i c h1 h2 H
    rw [fX0_gatherColours_2_s]
    by_cases q : w * h ≤ i
    · have : i = w * h := by omega
      subst this
      exact ⟨c, by simp (disch := omega) only [zlit, nI_lt_nI, nI_le_nI, nI_eq_nI, nI_add, pk_mul, pk_sub, pk_div, zrem_nI, zrd_nI, zwr_nI, zb1_some, zb2_some, zb3_some, zb4_some, zb5_some, zb6_some, zb7_some, zb8_some, zlet_eq, if_pos, if_neg, pk_us, pk_un, true_and, and_true, true_or, or_true, ↓reduceIte, zcount], H⟩
    · have hl := zG_len px i
      have hn := @znumOf8 c (zG px i) (px i) (by omega) H
      unfold fX0_gatherColours_58
      by_cases e : px i ∈ zG px i
      · obtain ⟨c', g1, g2⟩ := ih (i + 1) c (by omega) (by omega) (by rw [zG_s, if_pos e]; exact H)
        rw [zG_s, if_pos e] at g1
        have hlt := zix_lt e
        refine ⟨c', ?_, g2⟩
        simp (disch := omega) only [zlit, nI_lt_nI, nI_le_nI, nI_eq_nI, nI_add, pk_mul, pk_sub, pk_div, zrem_nI, zrd_nI, zwr_nI, zb1_some, zb2_some, zb3_some, zb4_some, zb5_some, zb6_some, zb7_some, zb8_some, zlet_eq, if_pos, if_neg, pk_us, pk_un, true_and, and_true, true_or, or_true, ↓reduceIte, zcount, hn]
        exact g1
      · obtain ⟨c', g1, g2⟩ := ih (i + 1) (upd c (zG px i).length (px i)) (by omega) (by omega) (by rw [zG_s, if_neg e]; exact zTab_app H)
        rw [zG_s, if_neg e, List.length_append] at g1
        have hlt := zix_out e
        refine ⟨c', ?_, g2⟩
        simp (disch := omega) only [zlit, nI_lt_nI, nI_le_nI, nI_eq_nI, nI_add, pk_mul, pk_sub, pk_div, zrem_nI, zrd_nI, zwr_nI, zb1_some, zb2_some, zb3_some, zb4_some, zb5_some, zb6_some, zb7_some, zb8_some, zlet_eq, if_pos, if_neg, pk_us, pk_un, true_and, and_true, true_or, or_true, ↓reduceIte, zcount, hn, hlt]
        exact g1
theorem zcol15 {w h k j : Nat} {px rn : Nat → Int32} {a : Int32} (hw : w ≤ 8) (hh : h ≤ 8) (hP : zPic w h px rn) (hk : k < w * h) (hj : j ≤ k) (rc : Int32 → (Nat → Int32) → Int32 → Int32 → Int32 → Option Int32) : ∀ (n i : Nat) (b : Bool), i ≤ j → j - i < n →
    fX9_colourOf_15 rc n (nI w) rn (nI k) a (nI j) (zI b) (nI i) = fX9_colourOf_15 rc 1 (nI w) rn (nI k) a (nI j) (zI (b && zall (fun i => decide (¬ px i = px j)) i (j - i))) (nI j) := by
  have hs := zmul64 hw hh
  intro n
  induction n with
  | zero => intro i b h1 h2; omega
  | succ n ih =>
    intro i b h1 h2
    by_cases q : j ≤ i
    · have : i = j := by omega
      subst this
      rw [Nat.sub_self, zall_0, Bool.and_true, fX9_colourOf_15_s, fX9_colourOf_15_s]
      simp (disch := omega) only [zlit, nI_lt_nI, nI_le_nI, nI_eq_nI, nI_add, pk_mul, pk_sub, pk_div, zrem_nI, zrd_nI, zwr_nI, zb1_some, zb2_some, zb3_some, zb4_some, zb5_some, zb6_some, zb7_some, zb8_some, zlet_eq, if_pos, if_neg, pk_us, pk_un, true_and, and_true, true_or, or_true, ↓reduceIte]
    · rw [show j - i = (j - (i + 1)) + 1 by omega, zall_s, fX9_colourOf_15_s]
      have h0 := ih (i + 1) false (by omega) (by omega)
      have h1' := ih (i + 1) true (by omega) (by omega)
      rw [Bool.false_and, show zI false = nI 0 from rfl] at h0
      rw [Bool.true_and, show zI true = nI 1 from rfl] at h1'
      have hal := @zalike w h i j px rn hw hh hP (by omega) (by omega)
      unfold fX9_colourOf_40 fX9_colourOf_41
      cases b
      · rw [Bool.false_and, show zI false = nI 0 from rfl]
        simp (disch := omega) only [zlit, nI_lt_nI, nI_le_nI, nI_eq_nI, nI_add, pk_mul, pk_sub, pk_div, zrem_nI, zrd_nI, zwr_nI, zb1_some, zb2_some, zb3_some, zb4_some, zb5_some, zb6_some, zb7_some, zb8_some, zlet_eq, if_pos, if_neg, pk_us, pk_un, true_and, and_true, true_or, or_true, ↓reduceIte, h0]
      · rw [Bool.true_and, show zI true = nI 1 from rfl]
        by_cases e : px i = px j
        · rw [decide_eq_true e, show zI true = nI 1 from rfl] at hal
          rw [decide_eq_false (fun r => r e), Bool.false_and, show zI false = nI 0 from rfl]
          simp (disch := omega) only [zlit, nI_lt_nI, nI_le_nI, nI_eq_nI, nI_add, pk_mul, pk_sub, pk_div, zrem_nI, zrd_nI, zwr_nI, zb1_some, zb2_some, zb3_some, zb4_some, zb5_some, zb6_some, zb7_some, zb8_some, zlet_eq, if_pos, if_neg, pk_us, pk_un, true_and, and_true, true_or, or_true, ↓reduceIte, hal, h0]
        · rw [decide_eq_false e, show zI false = nI 0 from rfl] at hal
          rw [decide_eq_true e, Bool.true_and]
          simp (disch := omega) only [zlit, nI_lt_nI, nI_le_nI, nI_eq_nI, nI_add, pk_mul, pk_sub, pk_div, zrem_nI, zrd_nI, zwr_nI, zb1_some, zb2_some, zb3_some, zb4_some, zb5_some, zb6_some, zb7_some, zb8_some, zlet_eq, if_pos, if_neg, pk_us, pk_un, true_and, and_true, true_or, or_true, ↓reduceIte, hal, h1']
theorem zfirst (px : Nat → Int32) (j : Nat) : zall (fun i => decide (¬ px i = px j)) 0 j = decide (px j ∉ zG px j) := by
  have key : ∀ (n i : Nat), zall (fun i => decide (¬ px i = px j)) i n = true ↔ ∀ q, i ≤ q → q < i + n → ¬ px q = px j := by
    intro n
    induction n with
    | zero => intro i; exact ⟨fun _ q h1 h2 => by omega, fun _ => rfl⟩
    | succ n ih =>
      intro i
      rw [zall_s, Bool.and_eq_true, ih, decide_eq_true_eq]
      constructor
      · intro ⟨h1, h2⟩ q h3 h4
        rcases (show q = i ∨ i + 1 ≤ q by omega) with r | r
        · subst r; exact h1
        · exact h2 q r (by omega)
      · intro h1
        exact ⟨h1 i (Nat.le_refl _) (by omega), fun q h3 h4 => h1 q (by omega) (by omega)⟩
  by_cases c : px j ∈ zG px j
  · rw [decide_eq_false (fun r => r c), Bool.eq_false_iff]
    intro r
    obtain ⟨i, h1, h2⟩ := (zG_mem px _ _).mp c
    exact (key j 0).mp r i (Nat.zero_le _) (by omega) h2
  · rw [decide_eq_true c]
    exact (key j 0).mpr (fun q _ h2 e => c ((zG_mem px _ _).mpr ⟨q, by omega, e⟩))
theorem zcol4 {w h k : Nat} {px rn : Nat → Int32} (hw : w ≤ 8) (hh : h ≤ 8) (hP : zPic w h px rn) (hk : k < w * h) : ∀ (n j : Nat), j ≤ k → k - j < n → px k ∉ zG px j →
    fX9_colourOf_4 n (nI w) rn (nI k) (nI (zG px j).length) (nI j) = some (if px k ∈ zG px k then nI (zix (px k) (zG px k)) else -(nI 1) - nI (zG px k).length) := by
  have hs := zmul64 hw hh
  intro n
  induction n with
  | zero => intro j h1 h2; omega
  | succ n ih =>
    intro j h1 h2 h3
    have hl := zG_len px j
    have t := @zcol15 w h k j px rn (nI (zG px j).length) hw hh hP hk h1 (fX9_colourOf_4 n) 1000 0 true (by omega) (by omega)
    rw [Bool.true_and, Nat.sub_zero, zfirst, show zI true = nI 1 from rfl] at t
    rw [fX9_colourOf_4_s]
    simp (disch := omega) only [zlit, nI_lt_nI, nI_le_nI, nI_eq_nI, nI_add, pk_mul, pk_sub, pk_div, zrem_nI, zrd_nI, zwr_nI, zb1_some, zb2_some, zb3_some, zb4_some, zb5_some, zb6_some, zb7_some, zb8_some, zlet_eq, if_pos, if_neg, pk_us, pk_un, true_and, and_true, true_or, or_true, ↓reduceIte]
    rw [t, fX9_colourOf_15_s]
    have hal := @zalike w h j k px rn hw hh hP (by omega) hk
    unfold fX9_colourOf_79
    by_cases c : px j ∈ zG px j
    · rw [decide_eq_false (fun r => r c), show zI false = nI 0 from rfl]
      have hjk : j ≠ k := fun e => by subst e; exact h3 c
      have g := ih (j + 1) (by omega) (by omega) (by rw [zG_s, if_pos c]; exact h3)
      rw [zG_s, if_pos c] at g
      simp (disch := omega) only [zlit, nI_lt_nI, nI_le_nI, nI_eq_nI, nI_add, pk_mul, pk_sub, pk_div, zrem_nI, zrd_nI, zwr_nI, zb1_some, zb2_some, zb3_some, zb4_some, zb5_some, zb6_some, zb7_some, zb8_some, zlet_eq, if_pos, if_neg, pk_us, pk_un, true_and, and_true, true_or, or_true, ↓reduceIte]
      exact g
    · rw [decide_eq_true c, show zI true = nI 1 from rfl]
      by_cases e : px j = px k
      · rw [decide_eq_true e, show zI true = nI 1 from rfl] at hal
        by_cases hjk : j = k
        · subst hjk
          rw [if_neg c]
          simp (disch := omega) only [zlit, nI_lt_nI, nI_le_nI, nI_eq_nI, nI_add, pk_mul, pk_sub, pk_div, zrem_nI, zrd_nI, zwr_nI, zb1_some, zb2_some, zb3_some, zb4_some, zb5_some, zb6_some, zb7_some, zb8_some, zlet_eq, if_pos, if_neg, pk_us, pk_un, true_and, and_true, true_or, or_true, ↓reduceIte, hal]
        · have hm : px k ∈ zG px k := (zG_mem px _ _).mpr ⟨j, by omega, e⟩
          rw [if_pos hm]
          have := zG_new px (show j < k by omega) c
          rw [e] at this
          rw [this]
          simp (disch := omega) only [zlit, nI_lt_nI, nI_le_nI, nI_eq_nI, nI_add, pk_mul, pk_sub, pk_div, zrem_nI, zrd_nI, zwr_nI, zb1_some, zb2_some, zb3_some, zb4_some, zb5_some, zb6_some, zb7_some, zb8_some, zlet_eq, if_pos, if_neg, pk_us, pk_un, true_and, and_true, true_or, or_true, ↓reduceIte, hal]
      · rw [decide_eq_false e, show zI false = nI 0 from rfl] at hal
        have hjk : j ≠ k := fun q => by subst q; exact e rfl
        have g := ih (j + 1) (by omega) (by omega) (by
          rw [zG_s, if_neg c]
          intro r
          rcases List.mem_append.mp r with r | r
          · exact h3 r
          · exact e (List.mem_singleton.mp r).symm)
        rw [zG_s, if_neg c, List.length_append] at g
        simp (disch := omega) only [zlit, nI_lt_nI, nI_le_nI, nI_eq_nI, nI_add, pk_mul, pk_sub, pk_div, zrem_nI, zrd_nI, zwr_nI, zb1_some, zb2_some, zb3_some, zb4_some, zb5_some, zb6_some, zb7_some, zb8_some, zlet_eq, if_pos, if_neg, pk_us, pk_un, true_and, and_true, true_or, or_true, ↓reduceIte, hal]
        exact g
theorem zcolour9 {w h k : Nat} {px rn : Nat → Int32} (hw : w ≤ 8) (hh : h ≤ 8) (hP : zPic w h px rn) (hk : k < w * h) : fX9_colourOf (nI w) rn (nI k) = some (if px k ∈ zG px k then nI (zix (px k) (zG px k)) else -(nI 1) - nI (zG px k).length) := by
  have hs := zmul64 hw hh
  unfold fX9_colourOf
  exact zcol4 hw hh hP hk 1000 0 (by omega) (by omega) (fun q => by cases q)
/-- a packed row: p pixels are open, i the next one, m how many are left -/
def zPr (px : Nat → Int32) (G : List Int32) (e : Nat) : Nat → Nat → Nat → List Nat
  | 0, _, _ => []
  | m + 1, p, i => if i + 1 = e ∨ px (i + 1) ≠ px i then [p + 1, zix (px i) G] ++ zPr px G e m 0 (i + 1) else zPr px G e m (p + 1) (i + 1)
theorem zPr_s (px : Nat → Int32) (G : List Int32) (e m p i : Nat) : zPr px G e (m + 1) p i = if i + 1 = e ∨ px (i + 1) ≠ px i then [p + 1, zix (px i) G] ++ zPr px G e m 0 (i + 1) else zPr px G e m (p + 1) (i + 1) := rfl
theorem zPr_len (px : Nat → Int32) (G : List Int32) (e : Nat) : ∀ (m p i : Nat), (zPr px G e m p i).length ≤ 2 * m := by
  intro m
  induction m with
  | zero => intro p i; exact Nat.le_refl _
  | succ m ih =>
    intro p i
    have h1 := ih 0 (i + 1)
    have h2 := ih (p + 1) (i + 1)
    rw [zPr_s]
    split
    · rw [List.length_append]; simp only [List.length_cons, List.length_nil]; omega
    · omega
theorem zPr_all (px : Nat → Int32) (G : List Int32) (e : Nat) (hG : G.length ≤ 64) : ∀ (m p i : Nat), p + m ≤ 64 → (∀ j, i ≤ j → j < i + m → px j ∈ G) → ∀ u ∈ zPr px G e m p i, u < 256 := by
  intro m
  induction m with
  | zero => intro p i h1 h2 u hu; cases hu
  | succ m ih =>
    intro p i h1 h2 u hu
    rw [zPr_s] at hu
    split at hu
    · rcases List.mem_append.mp hu with q | q
      · have := zix_lt (h2 i (Nat.le_refl _) (by omega))
        simp at q
        omega
      · exact ih 0 (i + 1) (by omega) (fun j h3 h4 => h2 j (by omega) (by omega)) u q
    · exact ih (p + 1) (i + 1) (by omega) (fun j h3 h4 => h2 j (by omega) (by omega)) u hu
theorem zpr8 {w h y : Nat} {px f c : Nat → Int32} {G : List Int32} (hw : w ≤ 8) (hh : h ≤ 8) (hy : y < h) (hG : G.length ≤ 64) (hT : zTab c G) : ∀ (n p x : Nat) (l : List Nat), x ≤ w → w - x < n → l.length + 2 * (w - x) + 2 ≤ 800 → p ≤ x →
    fX0_writePackedRow_6 n (nI G.length) c (nI w) px (nI l.length) (zw f l) (nI y) (nI p) (nI x) = some (nI (l ++ (zPr px G (y * w + w) (w - x) p (y * w + x) ++ [0, if y = 0 then 1 else 0])).length, zw f (l ++ (zPr px G (y * w + w) (w - x) p (y * w + x) ++ [0, if y = 0 then 1 else 0]))) := by
  intro n
  induction n with
  | zero => intro p x l h1 h2; omega
  | succ n ih =>
    intro p x l h1 h2 h3 h4
    rw [fX0_writePackedRow_6_s]
    by_cases q : w ≤ x
    · rw [show w - x = 0 by omega]
      unfold zPr fX0_writePackedRow_95
      by_cases hy0 : y = 0
      · simp (disch := first | omega | (simp only [List.length_append, List.length_cons, List.length_nil] <;> omega)) only [zlit, nI_lt_nI, nI_le_nI, nI_eq_nI, nI_add, pk_mul, pk_sub, pk_div, zrem_nI, zrd_nI, zwr_nI, zb1_some, zb2_some, zb3_some, zb4_some, zb5_some, zb6_some, zb7_some, zb8_some, zlet_eq, if_pos, if_neg, pk_us, pk_un, true_and, and_true, true_or, or_true, ↓reduceIte, List.append_assoc, List.cons_append, List.nil_append, zap]
      · simp (disch := first | omega | (simp only [List.length_append, List.length_cons, List.length_nil] <;> omega)) only [zlit, nI_lt_nI, nI_le_nI, nI_eq_nI, nI_add, pk_mul, pk_sub, pk_div, zrem_nI, zrd_nI, zwr_nI, zb1_some, zb2_some, zb3_some, zb4_some, zb5_some, zb6_some, zb7_some, zb8_some, zlet_eq, if_pos, if_neg, pk_us, pk_un, true_and, and_true, true_or, or_true, ↓reduceIte, List.append_assoc, List.cons_append, List.nil_append, zap]
    · have hi := zidx hw hh (show x < w by omega) hy
      rw [show w - x = (w - (x + 1)) + 1 by omega, zPr_s]
      have hn := fun p : Int32 => @znumOf8 c G p hG hT
      have emit : fX0_writePackedRow_52 (fX0_writePackedRow_6 n) (nI G.length) c (nI w) px (nI l.length) (zw f l) (nI y) (nI (p + 1)) (nI x) (px (y * w + x)) = some (nI (l ++ ([p + 1, zix (px (y * w + x)) G] ++ zPr px G (y * w + w) (w - (x + 1)) 0 (y * w + x + 1) ++ [0, if y = 0 then 1 else 0])).length, zw f (l ++ ([p + 1, zix (px (y * w + x)) G] ++ zPr px G (y * w + w) (w - (x + 1)) 0 (y * w + x + 1) ++ [0, if y = 0 then 1 else 0]))) := by
        have g := ih 0 (x + 1) (l ++ [p + 1, zix (px (y * w + x)) G]) (by omega) (by omega) (by simp only [List.length_append, List.length_cons, List.length_nil]; omega) (by omega)
        rw [← Nat.add_assoc] at g
        unfold fX0_writePackedRow_52 fX0_writePackedRow_73
        simp (disch := first | omega | (simp only [List.length_append, List.length_cons, List.length_nil] <;> omega)) only [zlit, nI_lt_nI, nI_le_nI, nI_eq_nI, nI_add, pk_mul, pk_sub, pk_div, zrem_nI, zrd_nI, zwr_nI, zb1_some, zb2_some, zb3_some, zb4_some, zb5_some, zb6_some, zb7_some, zb8_some, zlet_eq, if_pos, if_neg, pk_us, pk_un, true_and, and_true, true_or, or_true, ↓reduceIte, List.append_assoc, List.cons_append, List.nil_append, zap, hn]
        rw [g]
        simp only [List.append_assoc, List.cons_append, List.nil_append]
      unfold fX5_at
      by_cases c2 : x + 1 = w
      · rw [if_pos (show (y * w + x + 1 = y * w + w ∨ px (y * w + x + 1) ≠ px (y * w + x)) from Or.inl (by omega))]
        simp (disch := omega) only [zlit, nI_lt_nI, nI_le_nI, nI_eq_nI, nI_add, pk_mul, pk_sub, pk_div, zrem_nI, zrd_nI, zwr_nI, zb1_some, zb2_some, zb3_some, zb4_some, zb5_some, zb6_some, zb7_some, zb8_some, zlet_eq, if_pos, if_neg, pk_us, pk_un, true_and, and_true, true_or, or_true, ↓reduceIte]
        exact emit
      · have hj := zidx hw hh (show x + 1 < w by omega) hy
        rw [← Nat.add_assoc] at hj
        by_cases e : px (y * w + x + 1) = px (y * w + x)
        · rw [if_neg (show ¬ (y * w + x + 1 = y * w + w ∨ px (y * w + x + 1) ≠ px (y * w + x)) from fun r => r.elim (fun r => by omega) (fun r => r e))]
          have g := ih (p + 1) (x + 1) l (by omega) (by omega) (by omega) (by omega)
          rw [← Nat.add_assoc] at g
          rw [← g]
          unfold fX0_writePackedRow_73
          simp (disch := omega) only [zlit, nI_lt_nI, nI_le_nI, nI_eq_nI, nI_add, pk_mul, pk_sub, pk_div, zrem_nI, zrd_nI, zwr_nI, zb1_some, zb2_some, zb3_some, zb4_some, zb5_some, zb6_some, zb7_some, zb8_some, zlet_eq, if_pos, if_neg, pk_us, pk_un, true_and, and_true, true_or, or_true, ↓reduceIte]
        · rw [if_pos (show (y * w + x + 1 = y * w + w ∨ px (y * w + x + 1) ≠ px (y * w + x)) from Or.inr e)]
          simp (disch := omega) only [zlit, nI_lt_nI, nI_le_nI, nI_eq_nI, nI_add, pk_mul, pk_sub, pk_div, zrem_nI, zrd_nI, zwr_nI, zb1_some, zb2_some, zb3_some, zb4_some, zb5_some, zb6_some, zb7_some, zb8_some, zlet_eq, if_pos, if_neg, pk_us, pk_un, true_and, and_true, true_or, or_true, ↓reduceIte]
          exact emit
theorem znumber {px : Nat → Int32} {k n : Nat} (hk : k < n) : (if px k ∈ zG px k then zix (px k) (zG px k) else (zG px k).length) = zix (px k) (zG px n) := by
  by_cases c : px k ∈ zG px k
  · rw [if_pos c]
    exact (zG_old px (show k ≤ n by omega) c).symm
  · rw [if_neg c, zG_new px hk c]
theorem zneg_sub {m : Nat} (hm : m < 2 ^ 20) : ¬ (nI 0 ≤ -(nI 1) - nI m) ∧ -(nI 1) - (-(nI 1) - nI m) = nI m := by
  constructor
  · intro h
    have h1 := Int32.le_iff_toInt_le.mp h
    have e : -(nI 1) - nI m = nI 0 - nI (m + 1) := by
      rw [← nI_add]
      apply Int32.toBitVec_inj.mp
      show -(nI 1).toBitVec - (nI m).toBitVec = (nI 0).toBitVec - ((nI m).toBitVec + (nI 1).toBitVec)
      have : (nI 0).toBitVec = 0 := rfl
      rw [this]
      simp [BitVec.sub_eq_add_neg, BitVec.neg_add, BitVec.add_comm]
    rw [e, pk_sub_toInt (by decide) (by omega), nI_toInt (by decide)] at h1
    omega
  · apply Int32.toBitVec_inj.mp
    show -(nI 1).toBitVec - (-(nI 1).toBitVec - (nI m).toBitVec) = (nI m).toBitVec
    generalize (nI 1).toBitVec = a
    generalize (nI m).toBitVec = b
    bv_omega
theorem zprs9 {w h y x : Nat} {px rn f : Nat → Int32} (hw : w ≤ 8) (hh : h ≤ 8) (hP : zPic w h px rn) (hy : y < h) (rc : Int32 → Int32 → (Nat → Int32) → (Nat → Int32) → Int32 → Int32 → Option (Int32 × (Nat → Int32))) : ∀ (n m : Nat) (l : List Nat), 1 ≤ m → x + m ≤ w → w - (x + m) < n → px (y * w + x) = px (y * w + (x + m - 1)) → l.length + 2 ≤ 800 →
    ∃ j, x + m ≤ j ∧ j ≤ w ∧ fX9_pairs_12 rc n (nI w) (nI l.length) rn (zw f l) (nI y) (nI x) (nI m) = rc (nI w) (nI (l ++ [j - x, zix (px (y * w + x)) (zG px (w * h))]).length) rn (zw f (l ++ [j - x, zix (px (y * w + x)) (zG px (w * h))])) (nI y) (nI j) ∧ zPr px (zG px (w * h)) (y * w + w) (w - (x + m - 1)) (m - 1) (y * w + (x + m - 1)) = [j - x, zix (px (y * w + x)) (zG px (w * h))] ++ zPr px (zG px (w * h)) (y * w + w) (w - j) 0 (y * w + j) := by
  have hs := zmul64 hw hh
  have hN : ∀ x, x < w → y * w + x < w * h := by
    intro x hx
    have : (y + 1) * w ≤ h * w := Nat.mul_le_mul_right _ hy
    rw [Nat.add_mul, Nat.one_mul, Nat.mul_comm h w] at this
    omega
  intro n
  induction n with
  | zero => intro m l h1 h2 h3; omega
  | succ n ih =>
    intro m l h1 h2 h3 h4 h5
    rw [fX9_pairs_12_s]
    have hk := hN x (by omega)
    have hgl := zG_len px (y * w + x)
    have hcol := @zcolour9 w h (y * w + x) px rn hw hh hP hk
    have hnum := @znumber px (y * w + x) (w * h) hk
    have hb : zix (px (y * w + x)) (zG px (w * h)) < 256 := by
      have := zix_lt ((zG_mem px (px (y * w + x)) (w * h)).mpr ⟨y * w + x, hk, rfl⟩)
      have := zG_len px (w * h)
      omega
    have emit : fX9_pairs_53 rc (nI w) (nI l.length) rn (zw f l) (nI y) (nI x) (nI m) = rc (nI w) (nI (l ++ [m, zix (px (y * w + x)) (zG px (w * h))]).length) rn (zw f (l ++ [m, zix (px (y * w + x)) (zG px (w * h))])) (nI y) (nI (x + m)) := by
      unfold fX9_pairs_53 fX9_pairs_87
      rw [pk_mul, nI_add, Nat.mul_comm w y, hcol]
      by_cases c : px (y * w + x) ∈ zG px (y * w + x)
      · rw [if_pos c] at hnum ⊢
        rw [hnum]
        simp (disch := first | omega | (simp only [List.length_append, List.length_cons, List.length_nil] <;> omega)) only [zlit, nI_lt_nI, nI_le_nI, nI_eq_nI, nI_add, pk_mul, pk_sub, pk_div, zrem_nI, zrd_nI, zwr_nI, zb1_some, zb2_some, zb3_some, zb4_some, zb5_some, zb6_some, zb7_some, zb8_some, zlet_eq, if_pos, if_neg, pk_us, pk_un, true_and, and_true, true_or, or_true, ↓reduceIte, List.append_assoc, List.cons_append, List.nil_append, zadd]
      · rw [if_neg c] at hnum ⊢
        obtain ⟨z1, z2⟩ := @zneg_sub (zG px (y * w + x)).length (by omega)
        rw [zb1_some]
        simp (disch := first | omega | (simp only [List.length_append, List.length_cons, List.length_nil] <;> omega)) only [zlit, nI_lt_nI, nI_le_nI, nI_eq_nI, nI_add, pk_mul, pk_sub, pk_div, zrem_nI, zrd_nI, zwr_nI, zb1_some, zb2_some, zb3_some, zb4_some, zb5_some, zb6_some, zb7_some, zb8_some, zlet_eq, if_pos, if_neg, pk_us, pk_un, true_and, and_true, true_or, or_true, ↓reduceIte, List.append_assoc, List.cons_append, List.nil_append, zadd]
        rw [z2, hnum]
        simp (disch := first | omega | (simp only [List.length_append, List.length_cons, List.length_nil] <;> omega)) only [zlit, nI_lt_nI, nI_le_nI, nI_eq_nI, nI_add, pk_mul, pk_sub, pk_div, zrem_nI, zrd_nI, zwr_nI, zb1_some, zb2_some, zb3_some, zb4_some, zb5_some, zb6_some, zb7_some, zb8_some, zlet_eq, if_pos, if_neg, pk_us, pk_un, true_and, and_true, true_or, or_true, ↓reduceIte, List.append_assoc, List.cons_append, List.nil_append, zadd]
    have e1 : w - (x + m - 1) = (w - (x + m)) + 1 := by omega
    have e2 : y * w + (x + m - 1) + 1 = y * w + (x + m) := by omega
    by_cases c : w ≤ x + m
    · refine ⟨x + m, Nat.le_refl _, h2, ?_, ?_⟩
      · rw [show x + m - x = m by omega]
        simp (disch := omega) only [zlit, nI_lt_nI, nI_le_nI, nI_eq_nI, nI_add, pk_mul, pk_sub, pk_div, zrem_nI, zrd_nI, zwr_nI, zb1_some, zb2_some, zb3_some, zb4_some, zb5_some, zb6_some, zb7_some, zb8_some, zlet_eq, if_pos, if_neg, pk_us, pk_un, true_and, and_true, true_or, or_true, ↓reduceIte]
        exact emit
      · rw [e1, zPr_s, e2, if_pos (Or.inl (by omega)), ← h4, show m - 1 + 1 = x + m - x by omega]
    · have hal := @zalike w h (y * w + x) (y * w + (x + m)) px rn hw hh hP hk (hN (x + m) (by omega))
      have ha2 : fX9_alike (nI w) rn (nI w * nI y + nI x) (nI w * nI y + nI x + nI m) = fX9_alike (nI w) rn (nI (y * w + x)) (nI (y * w + (x + m))) := by
        rw [pk_mul, nI_add, nI_add, Nat.mul_comm w y, Nat.add_assoc]
      by_cases q : px (y * w + x) = px (y * w + (x + m))
      · rw [decide_eq_true q, show zI true = nI 1 from rfl] at hal
        obtain ⟨j, g1, g2, g3, g4⟩ := ih (m + 1) l (by omega) (by omega) (by omega) (by rw [show x + (m + 1) - 1 = x + m by omega]; exact q) h5
        refine ⟨j, by omega, g2, ?_, ?_⟩
        · rw [ha2, hal]
          simp (disch := omega) only [zlit, nI_lt_nI, nI_le_nI, nI_eq_nI, nI_add, pk_mul, pk_sub, pk_div, zrem_nI, zrd_nI, zwr_nI, zb1_some, zb2_some, zb3_some, zb4_some, zb5_some, zb6_some, zb7_some, zb8_some, zlet_eq, if_pos, if_neg, pk_us, pk_un, true_and, and_true, true_or, or_true, ↓reduceIte]
          exact g3
        · rw [e1, zPr_s, e2, if_neg (show ¬ (y * w + (x + m) = y * w + w ∨ px (y * w + (x + m)) ≠ px (y * w + (x + m - 1))) from fun r => r.elim (fun r => by omega) (fun r => r (by rw [← q, ← h4])))]
          rw [show x + (m + 1) - 1 = x + m by omega, show m + 1 - 1 = m by omega] at g4
          rw [show m - 1 + 1 = m by omega]
          exact g4
      · rw [decide_eq_false q, show zI false = nI 0 from rfl] at hal
        refine ⟨x + m, Nat.le_refl _, h2, ?_, ?_⟩
        · rw [show x + m - x = m by omega, ha2, hal]
          simp (disch := omega) only [zlit, nI_lt_nI, nI_le_nI, nI_eq_nI, nI_add, pk_mul, pk_sub, pk_div, zrem_nI, zrd_nI, zwr_nI, zb1_some, zb2_some, zb3_some, zb4_some, zb5_some, zb6_some, zb7_some, zb8_some, zlet_eq, if_pos, if_neg, pk_us, pk_un, true_and, and_true, true_or, or_true, ↓reduceIte]
          exact emit
        · rw [e1, zPr_s, e2, if_pos (show (y * w + (x + m) = y * w + w ∨ px (y * w + (x + m)) ≠ px (y * w + (x + m - 1))) from Or.inr (fun r => q (by rw [r, ← h4]))), ← h4, show m - 1 + 1 = x + m - x by omega]
theorem zpr9 {w h y : Nat} {px rn f : Nat → Int32} (hw : w ≤ 8) (hh : h ≤ 8) (hP : zPic w h px rn) (hy : y < h) : ∀ (n x : Nat) (l : List Nat), x ≤ w → w - x < n → l.length + 2 * (w - x) + 2 ≤ 800 →
    fX9_pairs_2 n (nI w) (nI l.length) rn (zw f l) (nI y) (nI x) = some (nI (l ++ (zPr px (zG px (w * h)) (y * w + w) (w - x) 0 (y * w + x) ++ [0, if y = 0 then 1 else 0])).length, zw f (l ++ (zPr px (zG px (w * h)) (y * w + w) (w - x) 0 (y * w + x) ++ [0, if y = 0 then 1 else 0]))) := by
  intro n
  induction n with
  | zero => intro x l h1 h2; omega
  | succ n ih =>
    intro x l h1 h2 h3
    rw [fX9_pairs_2_s]
    by_cases q : w ≤ x
    · rw [show w - x = 0 by omega]
      unfold zPr fX9_pairs_108
      by_cases hy0 : y = 0
      · simp (disch := first | omega | (simp only [List.length_append, List.length_cons, List.length_nil] <;> omega)) only [zlit, nI_lt_nI, nI_le_nI, nI_eq_nI, nI_add, pk_mul, pk_sub, pk_div, zrem_nI, zrd_nI, zwr_nI, zb1_some, zb2_some, zb3_some, zb4_some, zb5_some, zb6_some, zb7_some, zb8_some, zlet_eq, if_pos, if_neg, pk_us, pk_un, true_and, and_true, true_or, or_true, ↓reduceIte, List.append_assoc, List.cons_append, List.nil_append, zaddTwo]
      · simp (disch := first | omega | (simp only [List.length_append, List.length_cons, List.length_nil] <;> omega)) only [zlit, nI_lt_nI, nI_le_nI, nI_eq_nI, nI_add, pk_mul, pk_sub, pk_div, zrem_nI, zrd_nI, zwr_nI, zb1_some, zb2_some, zb3_some, zb4_some, zb5_some, zb6_some, zb7_some, zb8_some, zlet_eq, if_pos, if_neg, pk_us, pk_un, true_and, and_true, true_or, or_true, ↓reduceIte, List.append_assoc, List.cons_append, List.nil_append, zaddTwo]
    · obtain ⟨j, g1, g2, g3, g4⟩ := @zprs9 w h y x px rn f hw hh hP hy (fX9_pairs_2 n) 1000 1 l (by omega) (by omega) (by omega) rfl (by omega)
      rw [show x + 1 - 1 = x by omega, Nat.sub_self] at g4
      rw [g4]
      have g := ih j (l ++ [j - x, zix (px (y * w + x)) (zG px (w * h))]) g2 (by omega) (by simp only [List.length_append, List.length_cons, List.length_nil]; omega)
      simp (disch := omega) only [zlit, nI_lt_nI, nI_le_nI, nI_eq_nI, nI_add, pk_mul, pk_sub, pk_div, zrem_nI, zrd_nI, zwr_nI, zb1_some, zb2_some, zb3_some, zb4_some, zb5_some, zb6_some, zb7_some, zb8_some, zlet_eq, if_pos, if_neg, pk_us, pk_un, true_and, and_true, true_or, or_true, ↓reduceIte]
      rw [g3, g]
      simp only [List.append_assoc, List.cons_append, List.nil_append]
/-- the colours as bytes -/
def zcl (G : List Int32) : List Nat := G.flatMap (fun p => [zch p 2, zch p 1, zch p 0, 0])
theorem zcl_app (G : List Int32) (p : Int32) : zcl (G ++ [p]) = zcl G ++ [zch p 2, zch p 1, zch p 0, 0] := by
  unfold zcl
  rw [List.flatMap_append]
  rfl
theorem zcl_len (G : List Int32) : (zcl G).length = 4 * G.length := by
  induction G with
  | nil => rfl
  | cons a G ih =>
    have : zcl (a :: G) = [zch a 2, zch a 1, zch a 0, 0] ++ zcl G := rfl
    rw [this, List.length_append, ih]
    simp only [List.length_cons, List.length_nil]
    omega
theorem zcl_all (G : List Int32) : ∀ u ∈ zcl G, u < 256 := by
  intro u hu
  unfold zcl at hu
  obtain ⟨p, -, hp⟩ := List.mem_flatMap.mp hu
  have b0 := zch_lt p 0
  have b1 := zch_lt p 1
  have b2 := zch_lt p 2
  simp at hp
  omega
/-- the rows c - 1 .. 0 -/
def zdn (R : Nat → List Nat) : Nat → List Nat
  | 0 => []
  | c + 1 => R c ++ zdn R c
theorem zdn_s (R : Nat → List Nat) (c : Nat) : zdn R (c + 1) = R c ++ zdn R c := rfl
theorem zdn_len {R : Nat → List Nat} {m : Nat} (h : ∀ i, (R i).length ≤ m) : ∀ c, (zdn R c).length ≤ m * c := by
  intro c
  induction c with
  | zero => exact Nat.zero_le _
  | succ c ih =>
    have := h c
    rw [zdn_s, List.length_append, Nat.mul_succ]
    omega
theorem zdn_all {R : Nat → List Nat} {b : Nat} (h : ∀ i, i < b → ∀ v ∈ R i, v < 256) : ∀ c, c ≤ b → ∀ v ∈ zdn R c, v < 256 := by
  intro c
  induction c with
  | zero => intro _ v hv; cases hv
  | succ c ih =>
    intro hc v hv
    rw [zdn_s] at hv
    rcases List.mem_append.mp hv with q | q
    · exact h c (by omega) v q
    · exact ih (by omega) v q
/-- a row of the third format -/
def zR2 (px : Nat → Int32) (G : List Int32) (w how y : Nat) : List Nat := if how = 0 then zfl (zL3 px 3) (y * w) w ++ List.replicate (w % 4) 0 else zPr px G (y * w + w) w 0 (y * w) ++ [0, if y = 0 then 1 else 0]
theorem zR2_len (px : Nat → Int32) (G : List Int32) {w : Nat} (hw : w ≤ 8) (how y : Nat) : (zR2 px G w how y).length ≤ 36 := by
  have h1 := zfl_len (zL3_len px 3) w (y * w)
  have h2 := zPr_len px G (y * w + w) w 0 (y * w)
  have h3 : w % 4 < 4 := Nat.mod_lt _ (by decide)
  unfold zR2
  split
  · rw [List.length_append, List.length_replicate]; omega
  · rw [List.length_append]; simp only [List.length_cons, List.length_nil]; omega
theorem zplain8 {w h y : Nat} {px f : Nat → Int32} (hw : w ≤ 8) (hh : h ≤ 8) (hy : y < h) : ∀ (n x : Nat) (l : List Nat), x ≤ w → w - x < n → l.length + 4 * (w - x) + 3 ≤ 800 →
    fX0_writePlainRow_2 n (nI w) px (nI l.length) (zw f l) (nI y) (nI x) = some (nI (l ++ (zfl (zL3 px 3) (y * w + x) (w - x) ++ List.replicate (w % 4) 0)).length, zw f (l ++ (zfl (zL3 px 3) (y * w + x) (w - x) ++ List.replicate (w % 4) 0))) := by
  intro n
  induction n with
  | zero => intro x l h1 h2; omega
  | succ n ih =>
    intro x l h1 h2 h3
    rw [fX0_writePlainRow_2_s]
    by_cases c : w ≤ x
    · rw [show w - x = 0 by omega, zfl_0, List.nil_append]
      have e : ∀ w : Fin 9, (-(nI (3 * w.val))) &&& nI 3 = nI (w.val % 4) := by decide
      have e2 := e ⟨w, by omega⟩
      simp only at e2
      have hm : w % 4 < 4 := Nat.mod_lt _ (by decide)
      unfold fX0_bytesToFour
      simp (disch := omega) only [zlit, nI_lt_nI, nI_le_nI, nI_eq_nI, nI_add, pk_mul, pk_sub, pk_div, zrem_nI, zrd_nI, zwr_nI, zb1_some, zb2_some, zb3_some, zb4_some, zb5_some, zb6_some, zb7_some, zb8_some, zlet_eq, if_pos, if_neg, pk_us, pk_un, true_and, and_true, true_or, or_true, ↓reduceIte, e2, zzeros8]
    · have hi := zidx hw hh (show x < w by omega) hy
      have hl := zL3_len px 3 (y * w + x)
      have g := ih (x + 1) (l ++ zL3 px 3 (y * w + x)) (by omega) (by omega) (by rw [List.length_append]; omega)
      rw [show w - x = (w - (x + 1)) + 1 by omega, zfl_s, List.append_assoc, ← List.append_assoc, show y * w + x + 1 = y * w + (x + 1) by omega, ← g]
      unfold fX5_at zL3
      simp (disch := omega) only [zlit, nI_lt_nI, nI_le_nI, nI_eq_nI, nI_add, pk_mul, pk_sub, pk_div, zrem_nI, zrd_nI, zwr_nI, zb1_some, zb2_some, zb3_some, zb4_some, zb5_some, zb6_some, zb7_some, zb8_some, zlet_eq, if_pos, if_neg, pk_us, pk_un, true_and, and_true, true_or, or_true, ↓reduceIte, zbgr8]
theorem zplain9 {w h y : Nat} {px rn f : Nat → Int32} (hw : w ≤ 8) (hh : h ≤ 8) (hP : zPic w h px rn) (hy : y < h) (rc : Int32 → Int32 → (Nat → Int32) → (Nat → Int32) → Int32 → Int32 → Option (Int32 × (Nat → Int32))) : ∀ (n x : Nat) (l : List Nat), x ≤ w → w - x < n → l.length + 4 * (w - x) + 3 ≤ 800 →
    fX9_writeThird_218 rc n (nI w) (nI l.length) rn (zw f l) (nI 0) (nI y) (nI x) = fX9_writeThird_257 rc (nI w) (nI (l ++ (zfl (zL3 px 3) (y * w + x) (w - x) ++ List.replicate (w % 4) 0)).length) rn (zw f (l ++ (zfl (zL3 px 3) (y * w + x) (w - x) ++ List.replicate (w % 4) 0))) (nI 0) (nI y) := by
  have hs := zmul64 hw hh
  intro n
  induction n with
  | zero => intro x l h1 h2; omega
  | succ n ih =>
    intro x l h1 h2 h3
    rw [fX9_writeThird_218_s]
    by_cases c : w ≤ x
    · rw [show w - x = 0 by omega, zfl_0, List.nil_append]
      have hm : w % 4 < 4 := Nat.mod_lt _ (by decide)
      simp (disch := omega) only [zlit, nI_lt_nI, nI_le_nI, nI_eq_nI, nI_add, pk_mul, pk_sub, pk_div, zrem_nI, zrd_nI, zwr_nI, zb1_some, zb2_some, zb3_some, zb4_some, zb5_some, zb6_some, zb7_some, zb8_some, zlet_eq, if_pos, if_neg, pk_us, pk_un, true_and, and_true, true_or, or_true, ↓reduceIte, zzeros9]
    · have hk : y * w + x < w * h := by
        have : (y + 1) * w ≤ h * w := Nat.mul_le_mul_right _ hy
        rw [Nat.add_mul, Nat.one_mul, Nat.mul_comm h w] at this
        omega
      have hl := zL3_len px 3 (y * w + x)
      have g := ih (x + 1) (l ++ zL3 px 3 (y * w + x)) (by omega) (by omega) (by rw [List.length_append]; omega)
      rw [show w - x = (w - (x + 1)) + 1 by omega, zfl_s, List.append_assoc, ← List.append_assoc, show y * w + x + 1 = y * w + (x + 1) by omega, ← g]
      have hb := @zbgr9 w h (y * w + x) px rn f l hw hh hP hk (by omega)
      rw [pk_mul, nI_add, Nat.mul_comm w y, hb]
      unfold zL3
      simp (disch := omega) only [zlit, nI_lt_nI, nI_le_nI, nI_eq_nI, nI_add, pk_mul, pk_sub, pk_div, zrem_nI, zrd_nI, zwr_nI, zb1_some, zb2_some, zb3_some, zb4_some, zb5_some, zb6_some, zb7_some, zb8_some, zlet_eq, if_pos, if_neg, pk_us, pk_un, true_and, and_true, true_or, or_true, ↓reduceIte]
/-- one less than c -/
def zm1 (c : Nat) : Int32 := if c = 0 then -(nI 1) else nI (c - 1)
theorem zm1_s (c : Nat) : zm1 (c + 1) = nI c := by
  unfold zm1
  rw [if_neg (by omega)]
  rfl
theorem zm1_0 : (zm1 0 < nI 0) = True := eq_true (by decide)
theorem zm1_dec (c : Nat) : nI c + -(nI 1) = zm1 c := by
  cases c with
  | zero => decide
  | succ c => rw [zm1_s]; exact pk_m1 c
theorem zm1_sub {c : Nat} (h : 1 ≤ c) : nI c - nI 1 = zm1 c := by
  rw [show c = (c - 1) + 1 by omega, zm1_s, pk_sub (by omega)]
  rfl
theorem zrows2_8 {w h how : Nat} {px f tc : Nat → Int32} {G : List Int32} (hw : w ≤ 8) (hh : h ≤ 8) (hG : G.length ≤ 64) (hT : zTab tc G) (hho : how ≤ 1) : ∀ (n c : Nat) (l : List Nat), c ≤ h → c < n → l.length + 36 * c ≤ 800 →
    fX0_write_65 n (nI G.length) tc (nI w) px (nI l.length) (zw f l) (nI how) (zm1 c) = zb1 (fX0_writeLength (nI (l ++ zdn (zR2 px G w how) c).length) (zw f (l ++ zdn (zR2 px G w how) c))) fun u => some (nI G.length, tc, nI (l ++ zdn (zR2 px G w how) c).length, u) := by
  intro n
  induction n with
  | zero => intro c l h1 h2; omega
  | succ n ih =>
    intro c l h1 h2 h3
    rw [fX0_write_65_s]
    cases c with
    | zero =>
      rw [show zdn (zR2 px G w how) 0 = [] from rfl, List.append_nil]
      simp (disch := omega) only [zlit, nI_lt_nI, nI_le_nI, nI_eq_nI, nI_add, pk_mul, pk_sub, pk_div, zrem_nI, zrd_nI, zwr_nI, zb1_some, zb2_some, zb3_some, zb4_some, zb5_some, zb6_some, zb7_some, zb8_some, zlet_eq, if_pos, if_neg, pk_us, pk_un, true_and, and_true, true_or, or_true, ↓reduceIte, zm1_0]
    | succ c =>
      have hl := zR2_len px G hw how c
      rw [zdn_s, ← List.append_assoc, ← ih c (l ++ zR2 px G w how c) (by omega) (by omega) (by rw [List.length_append]; omega), zm1_s]
      unfold fX0_write_92 zR2
      by_cases q : how = 0
      · have t := @zplain8 w h c px f hw hh (by omega) 1000 0 l (by omega) (by omega) (by omega)
        rw [Nat.add_zero, Nat.sub_zero] at t
        unfold fX0_writePlainRow
        simp (disch := omega) only [zlit, nI_lt_nI, nI_le_nI, nI_eq_nI, nI_add, pk_mul, pk_sub, pk_div, zrem_nI, zrd_nI, zwr_nI, zb1_some, zb2_some, zb3_some, zb4_some, zb5_some, zb6_some, zb7_some, zb8_some, zlet_eq, if_pos, if_neg, pk_us, pk_un, true_and, and_true, true_or, or_true, ↓reduceIte, t, zm1_dec]
      · have t := @zpr8 w h c px f tc G hw hh (by omega) hG hT 1000 0 0 l (by omega) (by omega) (by omega) (by omega)
        rw [Nat.add_zero, Nat.sub_zero] at t
        unfold fX0_writePackedRow
        simp (disch := omega) only [zlit, nI_lt_nI, nI_le_nI, nI_eq_nI, nI_add, pk_mul, pk_sub, pk_div, zrem_nI, zrd_nI, zwr_nI, zb1_some, zb2_some, zb3_some, zb4_some, zb5_some, zb6_some, zb7_some, zb8_some, zlet_eq, if_pos, if_neg, pk_us, pk_un, true_and, and_true, true_or, or_true, ↓reduceIte, t, zm1_dec]
theorem zrows2_9 {w h how : Nat} {px rn f : Nat → Int32} {G : List Int32} (hw : w ≤ 8) (hh : h ≤ 8) (hP : zPic w h px rn) (hho : how ≤ 1) (hG : how = 1 → G = zG px (w * h)) : ∀ (n c : Nat) (l : List Nat), c ≤ h → c < n → l.length + 36 * c ≤ 800 →
    fX9_writeThird_199 n (nI w) (nI l.length) rn (zw f l) (nI how) (zm1 c) = zb2 (fX9_little (nI 2) (zw f (l ++ zdn (zR2 px G w how) c)) (nI (l ++ zdn (zR2 px G w how) c).length) (nI 4)) fun u2 u3 => some (nI (l ++ zdn (zR2 px G w how) c).length, u3) := by
  intro n
  induction n with
  | zero => intro c l h1 h2; omega
  | succ n ih =>
    intro c l h1 h2 h3
    rw [fX9_writeThird_199_s]
    cases c with
    | zero =>
      rw [show zdn (zR2 px G w how) 0 = [] from rfl, List.append_nil]
      simp (disch := omega) only [zlit, nI_lt_nI, nI_le_nI, nI_eq_nI, nI_add, pk_mul, pk_sub, pk_div, zrem_nI, zrd_nI, zwr_nI, zb1_some, zb2_some, zb3_some, zb4_some, zb5_some, zb6_some, zb7_some, zb8_some, zlet_eq, if_pos, if_neg, pk_us, pk_un, true_and, and_true, true_or, or_true, ↓reduceIte, zm1_0]
    | succ c =>
      have hl := zR2_len px G hw how c
      rw [zdn_s, ← List.append_assoc, ← ih c (l ++ zR2 px G w how c) (by omega) (by omega) (by rw [List.length_append]; omega), zm1_s]
      unfold zR2
      by_cases q : how = 0
      · subst q
        have t := @zplain9 w h c px rn f hw hh hP (by omega) (fX9_writeThird_199 n) 1000 0 l (by omega) (by omega) (by omega)
        rw [Nat.add_zero, Nat.sub_zero] at t
        simp (disch := omega) only [zlit, nI_lt_nI, nI_le_nI, nI_eq_nI, nI_add, pk_mul, pk_sub, pk_div, zrem_nI, zrd_nI, zwr_nI, zb1_some, zb2_some, zb3_some, zb4_some, zb5_some, zb6_some, zb7_some, zb8_some, zlet_eq, if_pos, if_neg, pk_us, pk_un, true_and, and_true, true_or, or_true, ↓reduceIte]
        rw [t]
        unfold fX9_writeThird_257
        simp (disch := omega) only [zlit, nI_lt_nI, nI_le_nI, nI_eq_nI, nI_add, pk_mul, pk_sub, pk_div, zrem_nI, zrd_nI, zwr_nI, zb1_some, zb2_some, zb3_some, zb4_some, zb5_some, zb6_some, zb7_some, zb8_some, zlet_eq, if_pos, if_neg, pk_us, pk_un, true_and, and_true, true_or, or_true, ↓reduceIte, zm1_dec]
      · have t := @zpr9 w h c px rn f hw hh hP (by omega) 1000 0 l (by omega) (by omega) (by omega)
        rw [Nat.add_zero, Nat.sub_zero] at t
        rw [hG (by omega)]
        unfold fX9_pairs fX9_writeThird_257
        simp (disch := omega) only [zlit, nI_lt_nI, nI_le_nI, nI_eq_nI, nI_add, pk_mul, pk_sub, pk_div, zrem_nI, zrd_nI, zwr_nI, zb1_some, zb2_some, zb3_some, zb4_some, zb5_some, zb6_some, zb7_some, zb8_some, zlet_eq, if_pos, if_neg, pk_us, pk_un, true_and, and_true, true_or, or_true, ↓reduceIte, t, zm1_dec]
theorem zctab8 {w h how : Nat} {px f tc : Nat → Int32} {G : List Int32} (hw : w ≤ 8) (hh1 : 1 ≤ h) (hh : h ≤ 8) (hG : G.length ≤ 64) (hT : zTab tc G) : ∀ (n m : Nat) (l : List Nat), m ≤ G.length → G.length - m < n → l.length + 4 * (G.length - m) ≤ 800 →
    fX0_write_25 n (nI G.length) tc (nI w) (nI h) px (nI l.length) (zw f l) (nI how) (nI m) = fX0_write_65 1000 (nI G.length) tc (nI w) px (nI (l ++ zcl (G.drop m)).length) (zw f (l ++ zcl (G.drop m))) (nI how) (zm1 h) := by
  intro n
  induction n with
  | zero => intro m l h1 h2; omega
  | succ n ih =>
    intro m l h1 h2 h3
    rw [fX0_write_25_s]
    by_cases q : G.length ≤ m
    · rw [List.drop_eq_nil_of_le q, show zcl [] = [] from rfl, List.append_nil, ← zm1_sub hh1]
      simp (disch := omega) only [zlit, nI_lt_nI, nI_le_nI, nI_eq_nI, nI_add, pk_mul, pk_sub, pk_div, zrem_nI, zrd_nI, zwr_nI, zb1_some, zb2_some, zb3_some, zb4_some, zb5_some, zb6_some, zb7_some, zb8_some, zlet_eq, if_pos, if_neg, pk_us, pk_un, true_and, and_true, true_or, or_true, ↓reduceIte]
    · have hm : m < G.length := by omega
      have hc := hT m hm
      have g := ih (m + 1) (l ++ [zch (tc m) 2, zch (tc m) 1, zch (tc m) 0, 0]) (by omega) (by omega) (by simp only [List.length_append, List.length_cons, List.length_nil]; omega)
      rw [List.drop_eq_getElem_cons hm, show zcl (G[m] :: G.drop (m + 1)) = [zch G[m] 2, zch G[m] 1, zch G[m] 0, 0] ++ zcl (G.drop (m + 1)) from rfl, ← hc, ← List.append_assoc, ← g]
      simp (disch := first | omega | (simp only [List.length_append, List.length_cons, List.length_nil] <;> omega)) only [zlit, nI_lt_nI, nI_le_nI, nI_eq_nI, nI_add, pk_mul, pk_sub, pk_div, zrem_nI, zrd_nI, zwr_nI, zb1_some, zb2_some, zb3_some, zb4_some, zb5_some, zb6_some, zb7_some, zb8_some, zlet_eq, if_pos, if_neg, pk_us, pk_un, true_and, and_true, true_or, or_true, ↓reduceIte, List.append_assoc, List.cons_append, List.nil_append, zbgr8, zap]
theorem zctab9 {w h : Nat} {px rn f : Nat → Int32} (hw : w ≤ 8) (hh1 : 1 ≤ h) (hh : h ≤ 8) (hP : zPic w h px rn) (l : List Nat) (hl : l.length + 4 * (w * h) ≤ 800) : ∀ (n k : Nat), k ≤ w * h → w * h - k < n →
    fX9_writeThird_151 n (nI w) (nI h) (nI (l ++ zcl (zG px k)).length) rn (zw f (l ++ zcl (zG px k))) (nI 1) (nI k) = fX9_writeThird_199 1000 (nI w) (nI (l ++ zcl (zG px (w * h))).length) rn (zw f (l ++ zcl (zG px (w * h)))) (nI 1) (zm1 h) := by
  have hs := zmul64 hw hh
  intro n
  induction n with
  | zero => intro k h1 h2; omega
  | succ n ih =>
    intro k h1 h2
    rw [fX9_writeThird_151_s]
    by_cases q : w * h ≤ k
    · have : k = w * h := by omega
      subst this
      unfold fX9_writeThird_192
      rw [← zm1_sub hh1]
      simp (disch := omega) only [zlit, nI_lt_nI, nI_le_nI, nI_eq_nI, nI_add, pk_mul, pk_sub, pk_div, zrem_nI, zrd_nI, zwr_nI, zb1_some, zb2_some, zb3_some, zb4_some, zb5_some, zb6_some, zb7_some, zb8_some, zlet_eq, if_pos, if_neg, pk_us, pk_un, true_and, and_true, true_or, or_true, ↓reduceIte]
    · have hk : k < w * h := by omega
      have hcol := @zcolour9 w h k px rn hw hh hP hk
      have g := ih (k + 1) (by omega) (by omega)
      have hgl := zG_len px k
      have hcl := zcl_len (zG px k)
      rw [← g]
      unfold fX9_writeThird_186
      by_cases c : px k ∈ zG px k
      · rw [if_pos c] at hcol
        have hlt := zix_lt c
        rw [zG_s, if_pos c]
        simp (disch := omega) only [zlit, nI_lt_nI, nI_le_nI, nI_eq_nI, nI_add, pk_mul, pk_sub, pk_div, zrem_nI, zrd_nI, zwr_nI, zb1_some, zb2_some, zb3_some, zb4_some, zb5_some, zb6_some, zb7_some, zb8_some, zlet_eq, if_pos, if_neg, pk_us, pk_un, true_and, and_true, true_or, or_true, ↓reduceIte, hcol]
      · rw [if_neg c] at hcol
        obtain ⟨z1, z2⟩ := @zneg_sub (zG px k).length (by omega)
        have hb := @zbgr9 w h k px rn f (l ++ zcl (zG px k)) hw hh hP hk (by rw [List.length_append]; omega)
        rw [zG_s, if_neg c, zcl_app]
        simp (disch := omega) only [zlit, nI_lt_nI, nI_le_nI, nI_eq_nI, nI_add, pk_mul, pk_sub, pk_div, zrem_nI, zrd_nI, zwr_nI, zb1_some, zb2_some, zb3_some, zb4_some, zb5_some, zb6_some, zb7_some, zb8_some, zlet_eq, if_pos, if_neg, pk_us, pk_un, true_and, and_true, true_or, or_true, ↓reduceIte, hcol]
        rw [hb]
        have ha := @zadd f (l ++ zcl (zG px k) ++ [zch (px k) 2, zch (px k) 1, zch (px k) 0]) 0 (by simp only [List.length_append, List.length_cons, List.length_nil]; omega) (by decide)
        simp (disch := omega) only [zlit, nI_lt_nI, nI_le_nI, nI_eq_nI, nI_add, pk_mul, pk_sub, pk_div, zrem_nI, zrd_nI, zwr_nI, zb1_some, zb2_some, zb3_some, zb4_some, zb5_some, zb6_some, zb7_some, zb8_some, zlet_eq, if_pos, if_neg, pk_us, pk_un, true_and, and_true, true_or, or_true, ↓reduceIte]
        rw [ha]
        simp only [zb2_some, List.append_assoc, List.cons_append, List.nil_append]
theorem zcnt9 {w h : Nat} {px rn g : Nat → Int32} {s : Int32} (hw : w ≤ 8) (hh : h ≤ 8) (hP : zPic w h px rn) : ∀ (n k : Nat), k ≤ w * h → w * h - k < n →
    fX9_writeThird_4 n (nI w) (nI h) s rn g (nI 1) (nI (zG px k).length) (nI k) = fX9_writeThird_43 (nI w) (nI h) s rn g (nI 1) (nI (zG px (w * h)).length) := by
  have hs := zmul64 hw hh
  intro n
  induction n with
  | zero => intro k h1 h2; omega
  | succ n ih =>
    intro k h1 h2
    rw [fX9_writeThird_4_s]
    by_cases q : w * h ≤ k
    · have : k = w * h := by omega
      subst this
      simp (disch := omega) only [zlit, nI_lt_nI, nI_le_nI, nI_eq_nI, nI_add, pk_mul, pk_sub, pk_div, zrem_nI, zrd_nI, zwr_nI, zb1_some, zb2_some, zb3_some, zb4_some, zb5_some, zb6_some, zb7_some, zb8_some, zlet_eq, if_pos, if_neg, pk_us, pk_un, true_and, and_true, true_or, or_true, ↓reduceIte]
    · have hk : k < w * h := by omega
      have hcol := @zcolour9 w h k px rn hw hh hP hk
      have g := ih (k + 1) (by omega) (by omega)
      have hgl := zG_len px k
      rw [← g]
      unfold fX9_writeThird_36
      by_cases c : px k ∈ zG px k
      · rw [if_pos c] at hcol
        have hlt := zix_lt c
        rw [zG_s, if_pos c]
        simp (disch := omega) only [zlit, nI_lt_nI, nI_le_nI, nI_eq_nI, nI_add, pk_mul, pk_sub, pk_div, zrem_nI, zrd_nI, zwr_nI, zb1_some, zb2_some, zb3_some, zb4_some, zb5_some, zb6_some, zb7_some, zb8_some, zlet_eq, if_pos, if_neg, pk_us, pk_un, true_and, and_true, true_or, or_true, ↓reduceIte, hcol]
      · rw [if_neg c] at hcol
        obtain ⟨z1, z2⟩ := @zneg_sub (zG px k).length (by omega)
        rw [zG_s, if_neg c, List.length_append]
        simp (disch := omega) only [zlit, nI_lt_nI, nI_le_nI, nI_eq_nI, nI_add, pk_mul, pk_sub, pk_div, zrem_nI, zrd_nI, zwr_nI, zb1_some, zb2_some, zb3_some, zb4_some, zb5_some, zb6_some, zb7_some, zb8_some, zlet_eq, if_pos, if_neg, pk_us, pk_un, true_and, and_true, true_or, or_true, ↓reduceIte, hcol]
        rfl
def zq4 (v : Nat) : List Nat := [v % 256, v / 256 % 256, v / 65536 % 256, v / 16777216 % 256]
/-- the third format's header -/
def zH2 (w h how K : Nat) : List Nat := [66, 77, 0, 0, 0, 0, 0, 0, 0, 0] ++ (zq4 (54 + 4 * K) ++ ([40, 0, 0, 0] ++ (zq4 w ++ (zq4 h ++ ([1, 0, if how = 0 then 24 else 8, 0, how, 0, 0, 0, 0, 0, 0, 0, 0, 0, 0, 0, 0, 0, 0, 0] ++ (zq4 K ++ [0, 0, 0, 0]))))))
theorem zH2_8 {w h how K : Nat} {f : Nat → Int32} (hw : w ≤ 8) (hh : h ≤ 8) (hho : how ≤ 1) (hK : K ≤ 64) : fX0_writeHeader (nI K) (nI w) (nI h) (nI ([] : List Nat).length) (zw f []) (nI how) = some (nI (zH2 w h how K).length, zw f (zH2 w h how K)) := by
  unfold fX0_writeHeader fX0_writeHeader_78 zH2 zq4
  rcases (show how = 0 ∨ how = 1 by omega) with rfl | rfl
  · simp (disch := first | omega | (simp only [List.length_append, List.length_cons, List.length_nil] <;> omega)) only [zlit, nI_lt_nI, nI_le_nI, nI_eq_nI, nI_add, pk_mul, pk_sub, pk_div, zrem_nI, zrd_nI, zwr_nI, zb1_some, zb2_some, zb3_some, zb4_some, zb5_some, zb6_some, zb7_some, zb8_some, zlet_eq, if_pos, if_neg, pk_us, pk_un, true_and, and_true, true_or, or_true, ↓reduceIte, List.append_assoc, List.cons_append, List.nil_append, zap, zzeros8, zlit4_8, zlit2_8, List.replicate, Nat.reduceMod, Nat.reduceDiv, Nat.zero_mod, Nat.zero_div]
  · simp (disch := first | omega | (simp only [List.length_append, List.length_cons, List.length_nil] <;> omega)) only [zlit, nI_lt_nI, nI_le_nI, nI_eq_nI, nI_add, pk_mul, pk_sub, pk_div, zrem_nI, zrd_nI, zwr_nI, zb1_some, zb2_some, zb3_some, zb4_some, zb5_some, zb6_some, zb7_some, zb8_some, zlet_eq, if_pos, if_neg, pk_us, pk_un, true_and, and_true, true_or, or_true, ↓reduceIte, List.append_assoc, List.cons_append, List.nil_append, zap, zzeros8, zlit4_8, zlit2_8, List.replicate, Nat.reduceMod, Nat.reduceDiv, Nat.zero_mod, Nat.zero_div]
theorem zH2_9 {w h how K : Nat} {rn f : Nat → Int32} (hw : w ≤ 8) (hh : h ≤ 8) (hho : how ≤ 1) (hK : K ≤ 64) : fX9_writeThird_43 (nI w) (nI h) (nI ([] : List Nat).length) rn (zw f []) (nI how) (nI K) = fX9_writeThird_151 1000 (nI w) (nI h) (nI (zH2 w h how K).length) rn (zw f (zH2 w h how K)) (nI how) (nI 0) := by
  unfold fX9_writeThird_43 fX9_writeThird_112 fX9_writeThird_126 zH2 zq4
  rcases (show how = 0 ∨ how = 1 by omega) with rfl | rfl
  · simp (disch := first | omega | (simp only [List.length_append, List.length_cons, List.length_nil] <;> omega)) only [zlit, nI_lt_nI, nI_le_nI, nI_eq_nI, nI_add, pk_mul, pk_sub, pk_div, zrem_nI, zrd_nI, zwr_nI, zb1_some, zb2_some, zb3_some, zb4_some, zb5_some, zb6_some, zb7_some, zb8_some, zlet_eq, if_pos, if_neg, pk_us, pk_un, true_and, and_true, true_or, or_true, ↓reduceIte, List.append_assoc, List.cons_append, List.nil_append, zaddTwo, zzeros9, zlit4_9, zlit2_9, List.replicate, Nat.reduceMod, Nat.reduceDiv, Nat.zero_mod, Nat.zero_div]
  · simp (disch := first | omega | (simp only [List.length_append, List.length_cons, List.length_nil] <;> omega)) only [zlit, nI_lt_nI, nI_le_nI, nI_eq_nI, nI_add, pk_mul, pk_sub, pk_div, zrem_nI, zrd_nI, zwr_nI, zb1_some, zb2_some, zb3_some, zb4_some, zb5_some, zb6_some, zb7_some, zb8_some, zlet_eq, if_pos, if_neg, pk_us, pk_un, true_and, and_true, true_or, or_true, ↓reduceIte, List.append_assoc, List.cons_append, List.nil_append, zaddTwo, zzeros9, zlit4_9, zlit2_9, List.replicate, Nat.reduceMod, Nat.reduceDiv, Nat.zero_mod, Nat.zero_div]
theorem zH2_len (w h how K : Nat) : (zH2 w h how K).length = 54 := rfl
/-- what the third format writes, but for its length -/
def zW2 (px : Nat → Int32) (G : List Int32) (w h how : Nat) : List Nat := zH2 w h how G.length ++ zcl G ++ zdn (zR2 px G w how) h
theorem zW2_len {px : Nat → Int32} {G : List Int32} {w h how : Nat} (hw : w ≤ 8) (hh : h ≤ 8) (hG : G.length ≤ 64) : (zW2 px G w h how).length ≤ 800 ∧ 54 ≤ (zW2 px G w h how).length := by
  have h1 := zdn_len (zR2_len px G hw how) h
  have h2 := zcl_len G
  unfold zW2
  rw [List.length_append, List.length_append, zH2_len]
  omega
theorem zW2_all {px : Nat → Int32} {G : List Int32} {w h how : Nat} (hw : w ≤ 8) (hh : h ≤ 8) (hho : how ≤ 1) (hG : G.length ≤ 64) (hm : how = 1 → ∀ k, k < w * h → px k ∈ G) : ∀ u ∈ zW2 px G w h how, u < 256 := by
  have hR : ∀ y, y < h → ∀ u ∈ zR2 px G w how y, u < 256 := by
    intro y hy u hu
    unfold zR2 at hu
    split at hu
    · rcases List.mem_append.mp hu with q | q
      · exact zfl_all (zL3_all px 3) _ _ u q
      · have := (List.mem_replicate.mp q).2
        omega
    · rename_i hne
      rcases List.mem_append.mp hu with q | q
      · refine zPr_all px G _ hG w 0 (y * w) (by omega) (fun j h1 h2 => hm (by omega) j ?_) u q
        have : (y + 1) * w ≤ h * w := Nat.mul_le_mul_right _ hy
        rw [Nat.add_mul, Nat.one_mul, Nat.mul_comm h w] at this
        omega
      · simp only [List.mem_cons, List.not_mem_nil, or_false] at q
        rcases q with q | q
        · omega
        · have : (if y = 0 then 1 else 0) < 256 := by split <;> decide
          omega
  have a := zdn_all hR h (Nat.le_refl _)
  intro u hu
  unfold zW2 at hu
  rcases List.mem_append.mp hu with q | q
  · rcases List.mem_append.mp q with q | q
    · unfold zH2 zq4 at q
      have e1 : (if how = 0 then 24 else 8) < 256 := by split <;> decide
      simp only [List.mem_append, List.mem_cons, List.not_mem_nil, or_false] at q
      omega
    · exact zcl_all G u q
  · exact a u q
theorem zlit4_g {g : Nat → Int32} {v n : Nat} (hn : n + 4 ≤ 800) (hv : v < 2 ^ 31) : fX9_little (nI n) g (nI v) (nI 4) = some (nI (n + 4), upd (upd (upd (upd g n (nI (v % 256))) (n + 1) (nI (v / 256 % 256))) (n + 2) (nI (v / 65536 % 256))) (n + 3) (nI (v / 16777216 % 256))) := by
  unfold fX9_little
  rw [fX9_little_2_s]
  unfold fX9_add
  simp (disch := omega) only [zlit, nI_lt_nI, nI_le_nI, nI_eq_nI, nI_add, pk_mul, pk_sub, pk_div, zrem_nI, zrd_nI, zwr_nI, zb1_some, zb2_some, zb3_some, zb4_some, zb5_some, zb6_some, zb7_some, zb8_some, zlet_eq, if_pos, if_neg, pk_us, pk_un, true_and, and_true, true_or, or_true, ↓reduceIte, zshr_n, zand255]
  rw [fX9_little_2_s]
  unfold fX9_add
  simp (disch := omega) only [zlit, nI_lt_nI, nI_le_nI, nI_eq_nI, nI_add, pk_mul, pk_sub, pk_div, zrem_nI, zrd_nI, zwr_nI, zb1_some, zb2_some, zb3_some, zb4_some, zb5_some, zb6_some, zb7_some, zb8_some, zlet_eq, if_pos, if_neg, pk_us, pk_un, true_and, and_true, true_or, or_true, ↓reduceIte, zshr_n, zand255]
  rw [fX9_little_2_s]
  unfold fX9_add
  simp (disch := omega) only [zlit, nI_lt_nI, nI_le_nI, nI_eq_nI, nI_add, pk_mul, pk_sub, pk_div, zrem_nI, zrd_nI, zwr_nI, zb1_some, zb2_some, zb3_some, zb4_some, zb5_some, zb6_some, zb7_some, zb8_some, zlet_eq, if_pos, if_neg, pk_us, pk_un, true_and, and_true, true_or, or_true, ↓reduceIte, zshr_n, zand255]
  rw [fX9_little_2_s]
  unfold fX9_add
  simp (disch := omega) only [zlit, nI_lt_nI, nI_le_nI, nI_eq_nI, nI_add, pk_mul, pk_sub, pk_div, zrem_nI, zrd_nI, zwr_nI, zb1_some, zb2_some, zb3_some, zb4_some, zb5_some, zb6_some, zb7_some, zb8_some, zlet_eq, if_pos, if_neg, pk_us, pk_un, true_and, and_true, true_or, or_true, ↓reduceIte, zshr_n, zand255]
  rw [fX9_little_2_s]
  simp (disch := omega) only [zlit, nI_lt_nI, nI_le_nI, nI_eq_nI, nI_add, pk_mul, pk_sub, pk_div, zrem_nI, zrd_nI, zwr_nI, zb1_some, zb2_some, zb3_some, zb4_some, zb5_some, zb6_some, zb7_some, zb8_some, zlet_eq, if_pos, if_neg, pk_us, pk_un, true_and, and_true, true_or, or_true, ↓reduceIte]
  simp only [Nat.reduceMul, Nat.reducePow, Nat.div_one, Nat.add_assoc, Nat.reduceAdd]
theorem zhead {px : Nat → Int32} {G : List Int32} {w h how : Nat} {f : Nat → Int32} : zw f (zW2 px G w h how) 4 = nI 0 ∧ zw f (zW2 px G w h how) 5 = nI 0 := by
  unfold zW2 zH2
  exact ⟨rfl, rfl⟩
theorem zlen_fil {l : List Nat} {fb rf : Nat → Int32} (h : ∀ u ∈ l, u < 256) (hl : l.length ≤ 800) (hl2 : 6 ≤ l.length) (h4 : zw fb l 4 = nI 0) (h5 : zw fb l 5 = nI 0) : zFil l.length (upd (upd (zw fb l) 2 (nI (l.length % 256))) 3 (nI (l.length / 256))) (upd (upd (upd (upd (zw rf l) 2 (nI (l.length % 256))) 3 (nI (l.length / 256 % 256))) 4 (nI (l.length / 65536 % 256))) 5 (nI (l.length / 16777216 % 256))) := by
  have F := @zwFl l fb rf h
  intro i hi
  by_cases c2 : i = 2
  · subst c2
    refine ⟨l.length % 256, by omega, ?_, ?_⟩
    · simp (disch := omega) only [zlit, nI_lt_nI, nI_le_nI, nI_eq_nI, nI_add, pk_mul, pk_sub, pk_div, zrem_nI, zrd_nI, zwr_nI, zb1_some, zb2_some, zb3_some, zb4_some, zb5_some, zb6_some, zb7_some, zb8_some, zlet_eq, if_pos, if_neg, pk_us, pk_un, true_and, and_true, true_or, or_true, ↓reduceIte]
    · simp (disch := omega) only [zlit, nI_lt_nI, nI_le_nI, nI_eq_nI, nI_add, pk_mul, pk_sub, pk_div, zrem_nI, zrd_nI, zwr_nI, zb1_some, zb2_some, zb3_some, zb4_some, zb5_some, zb6_some, zb7_some, zb8_some, zlet_eq, if_pos, if_neg, pk_us, pk_un, true_and, and_true, true_or, or_true, ↓reduceIte]
  · by_cases c3 : i = 3
    · subst c3
      refine ⟨l.length / 256, by omega, ?_, ?_⟩
      · simp (disch := omega) only [zlit, nI_lt_nI, nI_le_nI, nI_eq_nI, nI_add, pk_mul, pk_sub, pk_div, zrem_nI, zrd_nI, zwr_nI, zb1_some, zb2_some, zb3_some, zb4_some, zb5_some, zb6_some, zb7_some, zb8_some, zlet_eq, if_pos, if_neg, pk_us, pk_un, true_and, and_true, true_or, or_true, ↓reduceIte]
      · rw [show l.length / 256 % 256 = l.length / 256 by omega]
        simp (disch := omega) only [zlit, nI_lt_nI, nI_le_nI, nI_eq_nI, nI_add, pk_mul, pk_sub, pk_div, zrem_nI, zrd_nI, zwr_nI, zb1_some, zb2_some, zb3_some, zb4_some, zb5_some, zb6_some, zb7_some, zb8_some, zlet_eq, if_pos, if_neg, pk_us, pk_un, true_and, and_true, true_or, or_true, ↓reduceIte]
    · by_cases c4 : i = 4
      · subst c4
        refine ⟨0, by omega, ?_, ?_⟩
        · rw [pk_un c3, pk_un c2]; exact h4
        · rw [show l.length / 65536 % 256 = 0 by omega]
          simp (disch := omega) only [zlit, nI_lt_nI, nI_le_nI, nI_eq_nI, nI_add, pk_mul, pk_sub, pk_div, zrem_nI, zrd_nI, zwr_nI, zb1_some, zb2_some, zb3_some, zb4_some, zb5_some, zb6_some, zb7_some, zb8_some, zlet_eq, if_pos, if_neg, pk_us, pk_un, true_and, and_true, true_or, or_true, ↓reduceIte]
      · by_cases c5 : i = 5
        · subst c5
          refine ⟨0, by omega, ?_, ?_⟩
          · rw [pk_un c3, pk_un c2]; exact h5
          · rw [show l.length / 16777216 % 256 = 0 by omega]
            simp (disch := omega) only [zlit, nI_lt_nI, nI_le_nI, nI_eq_nI, nI_add, pk_mul, pk_sub, pk_div, zrem_nI, zrd_nI, zwr_nI, zb1_some, zb2_some, zb3_some, zb4_some, zb5_some, zb6_some, zb7_some, zb8_some, zlet_eq, if_pos, if_neg, pk_us, pk_un, true_and, and_true, true_or, or_true, ↓reduceIte]
        · obtain ⟨v, hv, e1, e2⟩ := F i hi
          refine ⟨v, hv, ?_, ?_⟩
          · rw [pk_un c3, pk_un c2]; exact e1
          · rw [pk_un c5, pk_un c4, pk_un c3, pk_un c2]; exact e2
theorem zwrite2 {w h how : Nat} {px rn fb rf tc : Nat → Int32} (hw : w ≤ 8) (hh1 : 1 ≤ h) (hh : h ≤ 8) (hP : zPic w h px rn) (hho : how ≤ 1) :
    ∃ (n : Nat) (K : Int32) (tc' fb' rf' : Nat → Int32), fX0_write tc (nI w) (nI h) px (nI 0) fb (nI how) = some (K, tc', nI n, fb') ∧ fX9_writeThird (nI w) (nI h) (nI 0) rn rf (nI how) = some (nI n, rf') ∧ n ≤ 800 ∧ zFil n fb' rf' := by
  have hs := zmul64 hw hh
  have main : ∀ (G : List Int32) (tc' : Nat → Int32), G.length ≤ 64 → zTab tc' G → (how = 1 → G = zG px (w * h)) → (how = 1 → ∀ k, k < w * h → px k ∈ G) →
      ∃ fb' rf', fX0_write_15 (nI G.length) tc' (nI w) (nI h) px (nI ([] : List Nat).length) (zw fb []) (nI how) = some (nI G.length, tc', nI (zW2 px G w h how).length, fb') ∧ fX9_writeThird_199 1000 (nI w) (nI (zH2 w h how G.length ++ zcl G).length) rn (zw rf (zH2 w h how G.length ++ zcl G)) (nI how) (zm1 h) = some (nI (zW2 px G w h how).length, rf') ∧ (zW2 px G w h how).length ≤ 800 ∧ zFil (zW2 px G w h how).length fb' rf' := by
    intro G tc' hG hT hG1 hm
    obtain ⟨hl, hl2⟩ := @zW2_len px G w h how hw hh hG
    have hall := @zW2_all px G w h how hw hh hho hG hm
    obtain ⟨q4, q5⟩ := @zhead px G w h how fb
    have hcl := zcl_len G
    have h54 := zH2_len w h how G.length
    refine ⟨_, _, ?_, ?_, hl, zlen_fil (fb := fb) (rf := rf) hall hl (by omega) q4 q5⟩
    · have t1 := @zctab8 w h how px fb tc' G hw hh1 hh hG hT 1000 0 (zH2 w h how G.length) (by omega) (by omega) (by omega)
      have t2 := @zrows2_8 w h how px fb tc' G hw hh hG hT hho 1000 h (zH2 w h how G.length ++ zcl G) (Nat.le_refl _) (by omega) (by rw [List.length_append]; omega)
      unfold fX0_write_15
      rw [zH2_8 hw hh hho hG, zb2_some]
      rw [List.drop_zero] at t1
      have t1' : fX0_write_25 1000 (nI G.length) tc' (nI w) (nI h) px (nI (zH2 w h how G.length).length) (zw fb (zH2 w h how G.length)) (nI how) 0 = _ := t1
      rw [t1', t2]
      show (zb1 (fX0_writeLength (nI (zW2 px G w h how).length) (zw fb (zW2 px G w h how))) fun u => some (nI G.length, tc', nI (zW2 px G w h how).length, u)) = _
      unfold fX0_writeLength
      simp (disch := omega) only [zlit, nI_lt_nI, nI_le_nI, nI_eq_nI, nI_add, pk_mul, pk_sub, pk_div, zrem_nI, zrd_nI, zwr_nI, zb1_some, zb2_some, zb3_some, zb4_some, zb5_some, zb6_some, zb7_some, zb8_some, zlet_eq, if_pos, if_neg, pk_us, pk_un, true_and, and_true, true_or, or_true, ↓reduceIte, zand255, zush_n]
    · have t2 := @zrows2_9 w h how px rn rf G hw hh hP hho hG1 1000 h (zH2 w h how G.length ++ zcl G) (Nat.le_refl _) (by omega) (by rw [List.length_append]; omega)
      rw [t2]
      show (zb2 (fX9_little (nI 2) (zw rf (zW2 px G w h how)) (nI (zW2 px G w h how).length) (nI 4)) fun u2 u3 => some (nI (zW2 px G w h how).length, u3)) = _
      rw [zlit4_g (by omega) (by omega), zb2_some]
  unfold fX0_write fX9_writeThird
  by_cases q : how = 0
  · subst q
    obtain ⟨fb', rf', e1, e2, e3, e4⟩ := main [] tc (by decide) (fun m hm => absurd hm (Nat.not_lt_zero _)) (fun r => by omega) (fun r => by omega)
    refine ⟨(zW2 px [] w h 0).length, nI 0, tc, fb', rf', ?_, ?_, e3, e4⟩
    · simp (disch := omega) only [zlit, nI_lt_nI, nI_le_nI, nI_eq_nI, nI_add, pk_mul, pk_sub, pk_div, zrem_nI, zrd_nI, zwr_nI, zb1_some, zb2_some, zb3_some, zb4_some, zb5_some, zb6_some, zb7_some, zb8_some, zlet_eq, if_pos, if_neg, pk_us, pk_un, true_and, and_true, true_or, or_true, ↓reduceIte]
      exact e1
    · rw [fX9_writeThird_4_s]
      have t := @zH2_9 w h 0 0 rn rf hw hh (by decide) (by decide)
      have u : fX9_writeThird_151 1000 (nI w) (nI h) (nI (zH2 w h 0 0).length) rn (zw rf (zH2 w h 0 0)) (nI 0) (nI 0) = fX9_writeThird_199 1000 (nI w) (nI (zH2 w h 0 0).length) rn (zw rf (zH2 w h 0 0)) (nI 0) (zm1 h) := by
        rw [fX9_writeThird_151_s]
        unfold fX9_writeThird_192
        rw [← zm1_sub hh1]
        by_cases c : w * h ≤ 0
        · simp (disch := omega) only [zlit, nI_lt_nI, nI_le_nI, nI_eq_nI, nI_add, pk_mul, pk_sub, pk_div, zrem_nI, zrd_nI, zwr_nI, zb1_some, zb2_some, zb3_some, zb4_some, zb5_some, zb6_some, zb7_some, zb8_some, zlet_eq, if_pos, if_neg, pk_us, pk_un, true_and, and_true, true_or, or_true, ↓reduceIte]
        · simp (disch := omega) only [zlit, nI_lt_nI, nI_le_nI, nI_eq_nI, nI_add, pk_mul, pk_sub, pk_div, zrem_nI, zrd_nI, zwr_nI, zb1_some, zb2_some, zb3_some, zb4_some, zb5_some, zb6_some, zb7_some, zb8_some, zlet_eq, if_pos, if_neg, pk_us, pk_un, true_and, and_true, true_or, or_true, ↓reduceIte]
      have v : fX9_writeThird_43 (nI w) (nI h) (nI 0) rn rf (nI 0) (nI 0) = some (nI (zW2 px [] w h 0).length, rf') := by
        have e2' : fX9_writeThird_199 1000 (nI w) (nI (zH2 w h 0 0).length) rn (zw rf (zH2 w h 0 0)) (nI 0) (zm1 h) = some (nI (zW2 px [] w h 0).length, rf') := by
          have : zH2 w h 0 ([] : List Int32).length ++ zcl [] = zH2 w h 0 0 := List.append_nil _
          rw [this] at e2
          exact e2
        exact t.trans (u.trans e2')
      by_cases c : w * h ≤ 0
      · simp (disch := omega) only [zlit, nI_lt_nI, nI_le_nI, nI_eq_nI, nI_add, pk_mul, pk_sub, pk_div, zrem_nI, zrd_nI, zwr_nI, zb1_some, zb2_some, zb3_some, zb4_some, zb5_some, zb6_some, zb7_some, zb8_some, zlet_eq, if_pos, if_neg, pk_us, pk_un, true_and, and_true, true_or, or_true, ↓reduceIte]
        exact v
      · simp (disch := omega) only [zlit, nI_lt_nI, nI_le_nI, nI_eq_nI, nI_add, pk_mul, pk_sub, pk_div, zrem_nI, zrd_nI, zwr_nI, zb1_some, zb2_some, zb3_some, zb4_some, zb5_some, zb6_some, zb7_some, zb8_some, zlet_eq, if_pos, if_neg, pk_us, pk_un, true_and, and_true, true_or, or_true, ↓reduceIte]
        exact v
  · have q1 : how = 1 := by omega
    subst q1
    obtain ⟨tc', g1, g2⟩ := @zgather w h px hs 1000 0 tc (by omega) (by omega) (fun m hm => absurd hm (Nat.not_lt_zero _))
    have hgl := zG_len px (w * h)
    obtain ⟨fb', rf', e1, e2, e3, e4⟩ := main (zG px (w * h)) tc' (by omega) g2 (fun _ => rfl) (fun _ k hk => (zG_mem px _ _).mpr ⟨k, hk, rfl⟩)
    refine ⟨(zW2 px (zG px (w * h)) w h 1).length, nI (zG px (w * h)).length, tc', fb', rf', ?_, ?_, e3, e4⟩
    · have g1' : fX0_gatherColours (nI 0) tc (nI w) (nI h) px = some (nI (zG px (w * h)).length, tc') := g1
      simp (disch := omega) only [zlit, nI_lt_nI, nI_le_nI, nI_eq_nI, nI_add, pk_mul, pk_sub, pk_div, zrem_nI, zrd_nI, zwr_nI, zb1_some, zb2_some, zb3_some, zb4_some, zb5_some, zb6_some, zb7_some, zb8_some, zlet_eq, if_pos, if_neg, pk_us, pk_un, true_and, and_true, true_or, or_true, ↓reduceIte, g1']
      exact e1
    · have t1 := @zcnt9 w h px rn rf (nI 0) hw hh hP 1000 0 (by omega) (by omega)
      have t := @zH2_9 w h 1 (zG px (w * h)).length rn rf hw hh (by decide) (by omega)
      have u := @zctab9 w h px rn rf hw hh1 hh hP (zH2 w h 1 (zG px (w * h)).length) (by rw [zH2_len]; omega) 1000 0 (by omega) (by omega)
      rw [show zcl (zG px 0) = [] from rfl, List.append_nil] at u
      exact t1.trans (t.trans (u.trans e2))
