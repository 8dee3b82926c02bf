/-! Writing: the file as a list. -/
def zw (f : Nat → Int32) (l : List Nat) : Nat → Int32 := fun j => match l[j]? with
  | some v => nI v
  | none => f j
theorem zw_nil (f : Nat → Int32) : zw f [] = f := rfl
theorem zw_upd (f : Nat → Int32) (l : List Nat) (v : Nat) : upd (zw f l) l.length (nI v) = zw f (l ++ [v]) := by
  funext j
  unfold upd zw
  by_cases h : j = l.length
  · subst h
    simp
  · rw [if_neg h]
    by_cases h2 : j < l.length
    · rw [List.getElem?_append_left h2]
    · rw [List.getElem?_eq_none (by omega), List.getElem?_eq_none (by simp; omega)]
theorem zap {f : Nat → Int32} {l : List Nat} {v : Nat} (h : l.length < 800) : fX2_append (nI l.length) (zw f l) (nI v) = some (nI 1, nI (l ++ [v]).length, zw f (l ++ [v])) := by
  rw [zap8 h, zw_upd, List.length_append]
  rfl
theorem zadd {f : Nat → Int32} {l : List Nat} {v : Nat} (h : l.length < 800) (hv : v < 256) : fX9_add (nI l.length) (zw f l) (nI v) = some (nI (l ++ [v]).length, zw f (l ++ [v])) := by
  unfold fX9_add
  simp (disch := omega) only [zlit, nI_lt_nI, nI_le_nI, nI_eq_nI, nI_add, pk_mul, pk_sub, pk_div, zrem_nI, zrd_nI, zwr_nI, zb1_some, zb2_some, zb3_some, zb4_some, zb5_some, zb6_some, zb7_some, zb8_some, zlet_eq, if_pos, if_neg, pk_us, pk_un, true_and, and_true, true_or, or_true, ↓reduceIte, zand255]
  rw [Nat.mod_eq_of_lt hv, zw_upd, List.length_append]
  rfl
theorem zaddTwo {f : Nat → Int32} {l : List Nat} {u v : Nat} (h : l.length + 1 < 800) (hu : u < 256) (hv : v < 256) : fX9_addTwo (nI l.length) (zw f l) (nI u) (nI v) = some (nI (l ++ [u, v]).length, zw f (l ++ [u, v])) := by
  unfold fX9_addTwo
  simp (disch := first | omega | (simp only [List.length_append, List.length_cons, List.length_nil] <;> omega)) only [zlit, nI_lt_nI, nI_le_nI, nI_eq_nI, nI_add, pk_mul, pk_sub, pk_div, zrem_nI, zrd_nI, zwr_nI, zb1_some, zb2_some, zb3_some, zb4_some, zb5_some, zb6_some, zb7_some, zb8_some, zlet_eq, if_pos, if_neg, pk_us, pk_un, true_and, and_true, true_or, or_true, ↓reduceIte, List.append_assoc, List.cons_append, List.nil_append, zadd]
def zI (b : Bool) : Int32 := if b then nI 1 else nI 0
theorem zI_eq0 (b : Bool) : (zI b = nI 0) = (b = false) := by cases b <;> decide
theorem zI_eq1 (b : Bool) : (zI b = nI 1) = (b = true) := by cases b <;> decide
theorem zbo_I {α : Type} (b : Bool) (a : Option α) : zbo (zI b) a = a := by
  unfold zbo
  cases b
  · exact if_pos (Or.inl rfl)
  · exact if_pos (Or.inr rfl)
def zall (P : Nat → Bool) : Nat → Nat → Bool
  | _, 0 => true
  | i, n + 1 => P i && zall P (i + 1) n
theorem zall_0 (P : Nat → Bool) (i : Nat) : zall P i 0 = true := rfl
theorem zall_s (P : Nat → Bool) (i n : Nat) : zall P i (n + 1) = (P i && zall P (i + 1) n) := rfl
theorem zdm {w h k : Nat} (hk : k < w * h) : 1 ≤ w ∧ k % w < w ∧ k / w < h ∧ k / w * w + k % w = k := by
  have hw : 0 < w := by
    rcases Nat.eq_zero_or_pos w with q | q
    · rw [q, Nat.zero_mul] at hk; omega
    · exact q
  exact ⟨hw, Nat.mod_lt _ hw, Nat.div_lt_of_lt_mul hk, by rw [Nat.mul_comm]; exact Nat.div_add_mod k w⟩
theorem zchan {w h k c : Nat} {px rn : Nat → Int32} (hw : w ≤ 8) (hh : h ≤ 8) (hP : zPic w h px rn) (hk : k < w * h) (hc : c < 4) : fX9_channel (nI w) rn (nI k) (nI c) = some (nI (zch (px k) c)) := by
  obtain ⟨h1, h2, h3, h4⟩ := zdm hk
  have hs := zmul64 hw hh
  unfold fX9_channel znz
  have e := hP (k % w) (k / w) c h2 h3 hc
  rw [h4] at e
  simp (disch := omega) only [zlit, nI_lt_nI, nI_le_nI, nI_eq_nI, nI_add, pk_mul, pk_sub, pk_div, zrem_nI, zrd_nI, zwr_nI, zb1_some, zb2_some, zb3_some, zb4_some, zb5_some, zb6_some, zb7_some, zb8_some, zlet_eq, if_pos, if_neg, pk_us, pk_un, true_and, and_true, true_or, or_true, ↓reduceIte, e]
theorem zch_eq (p q : Int32) : (p = q) = (zch p 0 = zch q 0 ∧ zch p 1 = zch q 1 ∧ zch p 2 = zch q 2 ∧ zch p 3 = zch q 3) := propext ⟨fun e => by rw [e]; exact ⟨rfl, rfl, rfl, rfl⟩, fun h => zch_ext h.1 h.2.1 h.2.2.1 h.2.2.2⟩
theorem zcz {p q : Int32} {c d : Nat} : (nI (zch p c) = nI (zch q d)) = (zch p c = zch q d) := by
  have h1 := zch_lt p c
  have h2 := zch_lt q d
  exact nI_eq_nI (by omega) (by omega)
theorem zcn {p : Int32} {c k : Nat} (hk : k < 2 ^ 31) : (nI (zch p c) = nI k) = (zch p c = k) := by
  have h1 := zch_lt p c
  exact nI_eq_nI (by omega) hk
theorem zalike0 {w h j k : Nat} {px rn : Nat → Int32} (hw : w ≤ 8) (hh : h ≤ 8) (hP : zPic w h px rn) (hj : j < w * h) (hk : k < w * h) : ∀ (n c : Nat), c ≤ 4 → 4 - c < n → fX9_alike_5 n (nI w) rn (nI j) (nI k) (nI 0) (nI c) = some (nI 0) := by
  intro n
  induction n with
  | zero => intro c h1 h2; omega
  | succ n ih =>
    intro c h1 h2
    rw [fX9_alike_5_s]
    by_cases d : 4 ≤ c
    · unfold zbo; simp (disch := omega) only [zlit, nI_lt_nI, nI_le_nI, nI_eq_nI, nI_add, pk_mul, pk_sub, pk_div, zrem_nI, zrd_nI, zwr_nI, zb1_some, zb2_some, zb3_some, zb4_some, zb5_some, zb6_some, zb7_some, zb8_some, zlet_eq, if_pos, if_neg, pk_us, pk_un, true_and, and_true, true_or, or_true, ↓reduceIte]
    · have := ih (c + 1) (by omega) (by omega)
      unfold fX9_alike_36 fX9_alike_37
      simp (disch := omega) only [zlit, nI_lt_nI, nI_le_nI, nI_eq_nI, nI_add, pk_mul, pk_sub, pk_div, zrem_nI, zrd_nI, zwr_nI, zb1_some, zb2_some, zb3_some, zb4_some, zb5_some, zb6_some, zb7_some, zb8_some, zlet_eq, if_pos, if_neg, pk_us, pk_un, true_and, and_true, true_or, or_true, ↓reduceIte, this]
theorem zalike1 {w h j k : Nat} {px rn : Nat → Int32} (hw : w ≤ 8) (hh : h ≤ 8) (hP : zPic w h px rn) (hj : j < w * h) (hk : k < w * h) : ∀ (n c : Nat), c ≤ 4 → 4 - c < n → fX9_alike_5 n (nI w) rn (nI j) (nI k) (nI 1) (nI c) = some (zI (zall (fun d => decide (zch (px j) d = zch (px k) d)) c (4 - c))) := by
  intro n
  induction n with
  | zero => intro c h1 h2; omega
  | succ n ih =>
    intro c h1 h2
    rw [fX9_alike_5_s]
    by_cases d : 4 ≤ c
    · rw [show 4 - c = 0 by omega]
      unfold zbo; simp (disch := omega) only [zlit, nI_lt_nI, nI_le_nI, nI_eq_nI, nI_add, pk_mul, pk_sub, pk_div, zrem_nI, zrd_nI, zwr_nI, zb1_some, zb2_some, zb3_some, zb4_some, zb5_some, zb6_some, zb7_some, zb8_some, zlet_eq, if_pos, if_neg, pk_us, pk_un, true_and, and_true, true_or, or_true, ↓reduceIte]
      rfl
    · rw [show 4 - c = (4 - (c + 1)) + 1 by omega, zall_s]
      by_cases e : zch (px j) c = zch (px k) c
      · have := ih (c + 1) (by omega) (by omega)
        rw [decide_eq_true e, Bool.true_and]
        unfold fX9_alike_37
        simp (disch := omega) only [zlit, nI_lt_nI, nI_le_nI, nI_eq_nI, nI_add, pk_mul, pk_sub, pk_div, zrem_nI, zrd_nI, zwr_nI, zb1_some, zb2_some, zb3_some, zb4_some, zb5_some, zb6_some, zb7_some, zb8_some, zlet_eq, if_pos, if_neg, pk_us, pk_un, true_and, and_true, true_or, or_true, ↓reduceIte, zchan hw hh hP, zcz, e, this]
      · rw [decide_eq_false e, Bool.false_and]
        have := zalike0 hw hh hP hj hk n (c + 1) (by omega) (by omega)
        unfold fX9_alike_36 fX9_alike_37
        simp (disch := omega) only [zlit, nI_lt_nI, nI_le_nI, nI_eq_nI, nI_add, pk_mul, pk_sub, pk_div, zrem_nI, zrd_nI, zwr_nI, zb1_some, zb2_some, zb3_some, zb4_some, zb5_some, zb6_some, zb7_some, zb8_some, zlet_eq, if_pos, if_neg, pk_us, pk_un, true_and, and_true, true_or, or_true, ↓reduceIte, zchan hw hh hP, zcz, e, this]
        rfl
theorem zalike {w h j k : Nat} {px rn : Nat → Int32} (hw : w ≤ 8) (hh : h ≤ 8) (hP : zPic w h px rn) (hj : j < w * h) (hk : k < w * h) : fX9_alike (nI w) rn (nI j) (nI k) = some (zI (decide (px j = px k))) := by
  unfold fX9_alike
  have := zalike1 hw hh hP hj hk 1000 0 (by decide) (by decide)
  simp (disch := omega) only [zlit, nI_lt_nI, nI_le_nI, nI_eq_nI, nI_add, pk_mul, pk_sub, pk_div, zrem_nI, zrd_nI, zwr_nI, zb1_some, zb2_some, zb3_some, zb4_some, zb5_some, zb6_some, zb7_some, zb8_some, zlet_eq, if_pos, if_neg, pk_us, pk_un, true_and, and_true, true_or, or_true, ↓reduceIte, this]
  congr 2
  by_cases q : px j = px k
  · rw [decide_eq_true q]
    simp [zall, q]
  · rw [decide_eq_false q]
    rw [Bool.eq_false_iff]
    intro r
    simp [zall] at r
    exact q (zch_ext r.1 r.2.1 r.2.2.1 r.2.2.2)
/-- the picture's pixel k has full alpha; is grey -/
def zop (px : Nat → Int32) (k : Nat) : Bool := decide (zch (px k) 3 = 255)
def zgy (px : Nat → Int32) (k : Nat) : Bool := decide (zch (px k) 0 = zch (px k) 1) && decide (zch (px k) 1 = zch (px k) 2)
theorem zopa8 {w h : Nat} {px : Nat → Int32} (hs : w * h ≤ 64) : ∀ (n i : Nat), i ≤ w * h → w * h - i < n → fX5_isOpaque_2 n (nI w) (nI h) px (nI i) = some (zI (zall (zop px) i (w * h - i))) := by
  intro n
  induction n with
  | zero => intro i h1 h2; omega
  | succ n ih =>
    intro i h1 h2
    rw [fX5_isOpaque_2_s]
    by_cases c : w * h ≤ i
    · rw [show w * h - i = 0 by omega]
      simp (disch := omega) only [zlit, nI_lt_nI, nI_le_nI, nI_eq_nI, nI_add, pk_mul, pk_sub, pk_div, zrem_nI, zrd_nI, zwr_nI, zb1_some, zb2_some, zb3_some, zb4_some, zb5_some, zb6_some, zb7_some, zb8_some, zlet_eq, if_pos, if_neg, pk_us, pk_un, true_and, and_true, true_or, or_true, ↓reduceIte, zcount]
      rfl
    · rw [show w * h - i = (w * h - (i + 1)) + 1 by omega, zall_s]
      by_cases e : zch (px i) 3 = 255
      · simp (disch := omega) only [zlit, nI_lt_nI, nI_le_nI, nI_eq_nI, nI_add, pk_mul, pk_sub, pk_div, zrem_nI, zrd_nI, zwr_nI, zb1_some, zb2_some, zb3_some, zb4_some, zb5_some, zb6_some, zb7_some, zb8_some, zlet_eq, if_pos, if_neg, pk_us, pk_un, true_and, and_true, true_or, or_true, ↓reduceIte, zcount, zalpha, zcn, e]
        rw [ih (i + 1) (by omega) (by omega), show zop px i = true from decide_eq_true e, Bool.true_and]
      · rw [show zop px i = false from decide_eq_false e, Bool.false_and]
        simp (disch := omega) only [zlit, nI_lt_nI, nI_le_nI, nI_eq_nI, nI_add, pk_mul, pk_sub, pk_div, zrem_nI, zrd_nI, zwr_nI, zb1_some, zb2_some, zb3_some, zb4_some, zb5_some, zb6_some, zb7_some, zb8_some, zlet_eq, if_pos, if_neg, pk_us, pk_un, true_and, and_true, true_or, or_true, ↓reduceIte, zcount, zalpha, zcn, e]
        rfl
theorem zopa9 {w h : Nat} {px rn : Nat → Int32} (hw : w ≤ 8) (hh : h ≤ 8) (hP : zPic w h px rn) : ∀ (n i : Nat) (b : Bool), i ≤ w * h → w * h - i < n → fX9_opaque_4 n (nI w) (nI h) rn (zI b) (nI i) = some (zI (b && zall (zop px) i (w * h - i))) := by
  have hs := zmul64 hw hh
  intro n
  induction n with
  | zero => intro i b h1 h2; omega
  | succ n ih =>
    intro i b h1 h2
    rw [fX9_opaque_4_s]
    by_cases c : w * h ≤ i
    · rw [show w * h - i = 0 by omega]
      rw [zall_0, Bool.and_true]
      simp (disch := omega) only [zlit, nI_lt_nI, nI_le_nI, nI_eq_nI, nI_add, pk_mul, pk_sub, pk_div, zrem_nI, zrd_nI, zwr_nI, zb1_some, zb2_some, zb3_some, zb4_some, zb5_some, zb6_some, zb7_some, zb8_some, zlet_eq, if_pos, if_neg, pk_us, pk_un, true_and, and_true, true_or, or_true, ↓reduceIte, zbo_I]
    · rw [show w * h - i = (w * h - (i + 1)) + 1 by omega, zall_s]
      have h0 := ih (i + 1) false (by omega) (by omega)
      have h1' := ih (i + 1) true (by omega) (by omega)
      rw [Bool.false_and, show zI false = nI 0 from rfl] at h0
      rw [Bool.true_and, show zI true = nI 1 from rfl] at h1'
      unfold fX9_opaque_37 fX9_opaque_38
      cases b
      · rw [Bool.false_and, show zI false = nI 0 from rfl]
        simp (disch := omega) only [zlit, nI_lt_nI, nI_le_nI, nI_eq_nI, nI_add, pk_mul, pk_sub, pk_div, zrem_nI, zrd_nI, zwr_nI, zb1_some, zb2_some, zb3_some, zb4_some, zb5_some, zb6_some, zb7_some, zb8_some, zlet_eq, if_pos, if_neg, pk_us, pk_un, true_and, and_true, true_or, or_true, ↓reduceIte, h0]
      · rw [Bool.true_and, show zI true = nI 1 from rfl]
        by_cases e : zch (px i) 3 = 255
        · rw [show zop px i = true from decide_eq_true e, Bool.true_and]
          simp (disch := omega) only [zlit, nI_lt_nI, nI_le_nI, nI_eq_nI, nI_add, pk_mul, pk_sub, pk_div, zrem_nI, zrd_nI, zwr_nI, zb1_some, zb2_some, zb3_some, zb4_some, zb5_some, zb6_some, zb7_some, zb8_some, zlet_eq, if_pos, if_neg, pk_us, pk_un, true_and, and_true, true_or, or_true, ↓reduceIte, zchan hw hh hP, zcn, e, h1']
        · rw [show zop px i = false from decide_eq_false e, Bool.false_and]
          simp (disch := omega) only [zlit, nI_lt_nI, nI_le_nI, nI_eq_nI, nI_add, pk_mul, pk_sub, pk_div, zrem_nI, zrd_nI, zwr_nI, zb1_some, zb2_some, zb3_some, zb4_some, zb5_some, zb6_some, zb7_some, zb8_some, zlet_eq, if_pos, if_neg, pk_us, pk_un, true_and, and_true, true_or, or_true, ↓reduceIte, zchan hw hh hP, zcn, e, h0]
          rfl
theorem zisop8 {w h : Nat} {px : Nat → Int32} (hs : w * h ≤ 64) : fX5_isOpaque (nI w) (nI h) px = some (zI (zall (zop px) 0 (w * h))) := by
  unfold fX5_isOpaque
  exact zopa8 hs 1000 0 (by omega) (by omega)
theorem zisop9 {w h : Nat} {px rn : Nat → Int32} (hw : w ≤ 8) (hh : h ≤ 8) (hP : zPic w h px rn) : fX9_opaque (nI w) (nI h) rn = some (zI (zall (zop px) 0 (w * h))) := by
  have hs := zmul64 hw hh
  unfold fX9_opaque
  exact zopa9 hw hh hP 1000 0 true (by omega) (by omega)
theorem zgra8 {w h : Nat} {px : Nat → Int32} (hs : w * h ≤ 64) : ∀ (n i : Nat), i ≤ w * h → w * h - i < n → fX5_isGrey_2 n (nI w) (nI h) px (nI i) = some (zI (zall (zgy px) i (w * h - i) && zall (zop px) 0 (w * h))) := by
  intro n
  induction n with
  | zero => intro i h1 h2; omega
  | succ n ih =>
    intro i h1 h2
    rw [fX5_isGrey_2_s]
    by_cases c : w * h ≤ i
    · rw [show w * h - i = 0 by omega]
      simp (disch := omega) only [zlit, nI_lt_nI, nI_le_nI, nI_eq_nI, nI_add, pk_mul, pk_sub, pk_div, zrem_nI, zrd_nI, zwr_nI, zb1_some, zb2_some, zb3_some, zb4_some, zb5_some, zb6_some, zb7_some, zb8_some, zlet_eq, if_pos, if_neg, pk_us, pk_un, true_and, and_true, true_or, or_true, ↓reduceIte, zcount, zisop8 hs, zbo_I]
      rfl
    · rw [show w * h - i = (w * h - (i + 1)) + 1 by omega]
      have h0 := ih (i + 1) (by omega) (by omega)
      rw [zall_s]
      by_cases e : zch (px i) 0 = zch (px i) 1
      · by_cases e2 : zch (px i) 1 = zch (px i) 2
        · rw [show zgy px i = true by unfold zgy; rw [decide_eq_true e, decide_eq_true e2]; rfl, Bool.true_and]
          simp (disch := omega) only [zlit, nI_lt_nI, nI_le_nI, nI_eq_nI, nI_add, pk_mul, pk_sub, pk_div, zrem_nI, zrd_nI, zwr_nI, zb1_some, zb2_some, zb3_some, zb4_some, zb5_some, zb6_some, zb7_some, zb8_some, zlet_eq, if_pos, if_neg, pk_us, pk_un, true_and, and_true, true_or, or_true, ↓reduceIte, zcount, zred, zgreen, zblue, zcz, e, e2, h0]
        · rw [show zgy px i = false by unfold zgy; rw [decide_eq_false e2, Bool.and_false], Bool.false_and, Bool.false_and]
          simp (disch := omega) only [zlit, nI_lt_nI, nI_le_nI, nI_eq_nI, nI_add, pk_mul, pk_sub, pk_div, zrem_nI, zrd_nI, zwr_nI, zb1_some, zb2_some, zb3_some, zb4_some, zb5_some, zb6_some, zb7_some, zb8_some, zlet_eq, if_pos, if_neg, pk_us, pk_un, true_and, and_true, true_or, or_true, ↓reduceIte, zcount, zred, zgreen, zblue, zcz, e, e2]
          rfl
      · rw [show zgy px i = false by unfold zgy; rw [decide_eq_false e, Bool.false_and], Bool.false_and, Bool.false_and]
        simp (disch := omega) only [zlit, nI_lt_nI, nI_le_nI, nI_eq_nI, nI_add, pk_mul, pk_sub, pk_div, zrem_nI, zrd_nI, zwr_nI, zb1_some, zb2_some, zb3_some, zb4_some, zb5_some, zb6_some, zb7_some, zb8_some, zlet_eq, if_pos, if_neg, pk_us, pk_un, true_and, and_true, true_or, or_true, ↓reduceIte, zcount, zred, zgreen, zblue, zcz, e]
        rfl
theorem zgra9 {w h : Nat} {px rn : Nat → Int32} (hw : w ≤ 8) (hh : h ≤ 8) (hP : zPic w h px rn) : ∀ (n i : Nat) (b : Bool), i ≤ w * h → w * h - i < n → fX9_grey_7 n (nI w) (nI h) rn (zI b) (nI i) = some (zI (b && zall (zgy px) i (w * h - i))) := by
  have hs := zmul64 hw hh
  intro n
  induction n with
  | zero => intro i b h1 h2; omega
  | succ n ih =>
    intro i b h1 h2
    rw [fX9_grey_7_s]
    by_cases c : w * h ≤ i
    · rw [show w * h - i = 0 by omega]
      rw [zall_0, Bool.and_true]
      simp (disch := omega) only [zlit, nI_lt_nI, nI_le_nI, nI_eq_nI, nI_add, pk_mul, pk_sub, pk_div, zrem_nI, zrd_nI, zwr_nI, zb1_some, zb2_some, zb3_some, zb4_some, zb5_some, zb6_some, zb7_some, zb8_some, zlet_eq, if_pos, if_neg, pk_us, pk_un, true_and, and_true, true_or, or_true, ↓reduceIte, zbo_I]
    · rw [show w * h - i = (w * h - (i + 1)) + 1 by omega, zall_s]
      have h0 := ih (i + 1) false (by omega) (by omega)
      have h1' := ih (i + 1) true (by omega) (by omega)
      rw [Bool.false_and, show zI false = nI 0 from rfl] at h0
      rw [Bool.true_and, show zI true = nI 1 from rfl] at h1'
      unfold fX9_grey_58 fX9_grey_59
      cases b
      · rw [Bool.false_and, show zI false = nI 0 from rfl]
        simp (disch := omega) only [zlit, nI_lt_nI, nI_le_nI, nI_eq_nI, nI_add, pk_mul, pk_sub, pk_div, zrem_nI, zrd_nI, zwr_nI, zb1_some, zb2_some, zb3_some, zb4_some, zb5_some, zb6_some, zb7_some, zb8_some, zlet_eq, if_pos, if_neg, pk_us, pk_un, true_and, and_true, true_or, or_true, ↓reduceIte, h0]
      · rw [Bool.true_and, show zI true = nI 1 from rfl]
        by_cases e : zch (px i) 0 = zch (px i) 1
        · by_cases e2 : zch (px i) 1 = zch (px i) 2
          · rw [show zgy px i = true by unfold zgy; rw [decide_eq_true e, decide_eq_true e2]; rfl, Bool.true_and]
            simp (disch := omega) only [zlit, nI_lt_nI, nI_le_nI, nI_eq_nI, nI_add, pk_mul, pk_sub, pk_div, zrem_nI, zrd_nI, zwr_nI, zb1_some, zb2_some, zb3_some, zb4_some, zb5_some, zb6_some, zb7_some, zb8_some, zlet_eq, if_pos, if_neg, pk_us, pk_un, true_and, and_true, true_or, or_true, ↓reduceIte, zchan hw hh hP, zcz, e, e2, h1']
          · rw [show zgy px i = false by unfold zgy; rw [decide_eq_false e2, Bool.and_false], Bool.false_and]
            simp (disch := omega) only [zlit, nI_lt_nI, nI_le_nI, nI_eq_nI, nI_add, pk_mul, pk_sub, pk_div, zrem_nI, zrd_nI, zwr_nI, zb1_some, zb2_some, zb3_some, zb4_some, zb5_some, zb6_some, zb7_some, zb8_some, zlet_eq, if_pos, if_neg, pk_us, pk_un, true_and, and_true, true_or, or_true, ↓reduceIte, zchan hw hh hP, zcz, e, e2, h0]
            rfl
        · rw [show zgy px i = false by unfold zgy; rw [decide_eq_false e, Bool.false_and], Bool.false_and]
          simp (disch := omega) only [zlit, nI_lt_nI, nI_le_nI, nI_eq_nI, nI_add, pk_mul, pk_sub, pk_div, zrem_nI, zrd_nI, zwr_nI, zb1_some, zb2_some, zb3_some, zb4_some, zb5_some, zb6_some, zb7_some, zb8_some, zlet_eq, if_pos, if_neg, pk_us, pk_un, true_and, and_true, true_or, or_true, ↓reduceIte, zchan hw hh hP, zcz, e, h0]
          rfl
/-- the picture is grey and opaque -/
def zgreyB (px : Nat → Int32) (n : Nat) : Bool := zall (zgy px) 0 n && zall (zop px) 0 n
theorem zisgr8 {w h : Nat} {px : Nat → Int32} (hs : w * h ≤ 64) : fX5_isGrey (nI w) (nI h) px = some (zI (zgreyB px (w * h))) := by
  unfold fX5_isGrey
  exact zgra8 hs 1000 0 (by omega) (by omega)
theorem zisgr9 {w h : Nat} {px rn : Nat → Int32} (hw : w ≤ 8) (hh : h ≤ 8) (hP : zPic w h px rn) : fX9_grey (nI w) (nI h) rn = some (zI (zgreyB px (w * h))) := by
  have hs := zmul64 hw hh
  unfold fX9_grey zgreyB
  rw [zisop9 hw hh hP, zb1_some, Bool.and_comm]
  exact zgra9 hw hh hP 1000 0 _ (by omega) (by omega)
