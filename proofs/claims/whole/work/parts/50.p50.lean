/-! Pure words for the comparison: numbers. -/
theorem zinb_nI {j n : Nat} (h : j < n) (hn : n < 2 ^ 31) : zinb (nI j) n = true := by
  unfold zinb
  rw [nI_toInt (by omega), Bool.and_eq_true, decide_eq_true_eq, decide_eq_true_eq]
  omega
theorem zrd_nI {α : Type} {f : Nat → Int32} {n j : Nat} {k : Int32 → Option α} (h : j < n) (hn : n < 2 ^ 31) : zrd f n (nI j) k = k (f j) := by
  unfold zrd
  rw [if_pos (zinb_nI h hn), nI_clamp (by omega)]
theorem zwr_nI {α : Type} {f : Nat → Int32} {n j : Nat} {x : Int32} {k : (Nat → Int32) → Option α} (h : j < n) (hn : n < 2 ^ 31) : zwr f n (nI j) x k = k (upd f j x) := by
  unfold zwr
  rw [if_pos (zinb_nI h hn), nI_clamp (by omega)]
theorem zb1_some {α β : Type} {a : α} {k : α → Option β} : zb1 (some a) k = k a := Eq.trans rfl rfl
theorem zb2_some {α1 α2 β : Type} {a : α1} {b : α2} {k : α1 → α2 → Option β} : zb2 (some (a, b)) k = k a b := Eq.trans rfl rfl
theorem zb3_some {α1 α2 α3 β : Type} {a : α1} {b : α2} {c : α3} {k : α1 → α2 → α3 → Option β} : zb3 (some (a, b, c)) k = k a b c := Eq.trans rfl rfl
theorem zb4_some {α1 α2 α3 α4 β : Type} {a : α1} {b : α2} {c : α3} {d : α4} {k : α1 → α2 → α3 → α4 → Option β} : zb4 (some (a, b, c, d)) k = k a b c d := Eq.trans rfl rfl
theorem zb5_some {α1 α2 α3 α4 α5 β : Type} {a1 : α1} {a2 : α2} {a3 : α3} {a4 : α4} {a5 : α5} {k : α1 → α2 → α3 → α4 → α5 → Option β} : zb5 (some (a1, a2, a3, a4, a5)) k = k a1 a2 a3 a4 a5 := Eq.trans rfl rfl
theorem zb6_some {α1 α2 α3 α4 α5 α6 β : Type} {a1 : α1} {a2 : α2} {a3 : α3} {a4 : α4} {a5 : α5} {a6 : α6} {k : α1 → α2 → α3 → α4 → α5 → α6 → Option β} : zb6 (some (a1, a2, a3, a4, a5, a6)) k = k a1 a2 a3 a4 a5 a6 := Eq.trans rfl rfl
theorem zb7_some {α1 α2 α3 α4 α5 α6 α7 β : Type} {a1 : α1} {a2 : α2} {a3 : α3} {a4 : α4} {a5 : α5} {a6 : α6} {a7 : α7} {k : α1 → α2 → α3 → α4 → α5 → α6 → α7 → Option β} : zb7 (some (a1, a2, a3, a4, a5, a6, a7)) k = k a1 a2 a3 a4 a5 a6 a7 := Eq.trans rfl rfl
theorem zb8_some {α1 α2 α3 α4 α5 α6 α7 α8 β : Type} {a1 : α1} {a2 : α2} {a3 : α3} {a4 : α4} {a5 : α5} {a6 : α6} {a7 : α7} {a8 : α8} {k : α1 → α2 → α3 → α4 → α5 → α6 → α7 → α8 → Option β} : zb8 (some (a1, a2, a3, a4, a5, a6, a7, a8)) k = k a1 a2 a3 a4 a5 a6 a7 a8 := Eq.trans rfl rfl
theorem zb9_some {α1 α2 α3 α4 α5 α6 α7 α8 α9 β : Type} {a1 : α1} {a2 : α2} {a3 : α3} {a4 : α4} {a5 : α5} {a6 : α6} {a7 : α7} {a8 : α8} {a9 : α9} {k : α1 → α2 → α3 → α4 → α5 → α6 → α7 → α8 → α9 → Option β} : zb9 (some (a1, a2, a3, a4, a5, a6, a7, a8, a9)) k = k a1 a2 a3 a4 a5 a6 a7 a8 a9 := Eq.trans rfl rfl
theorem zb10_some {α1 α2 α3 α4 α5 α6 α7 α8 α9 α10 β : Type} {a1 : α1} {a2 : α2} {a3 : α3} {a4 : α4} {a5 : α5} {a6 : α6} {a7 : α7} {a8 : α8} {a9 : α9} {a10 : α10} {k : α1 → α2 → α3 → α4 → α5 → α6 → α7 → α8 → α9 → α10 → Option β} : zb10 (some (a1, a2, a3, a4, a5, a6, a7, a8, a9, a10)) k = k a1 a2 a3 a4 a5 a6 a7 a8 a9 a10 := Eq.trans rfl rfl
theorem zb11_some {α1 α2 α3 α4 α5 α6 α7 α8 α9 α10 α11 β : Type} {a1 : α1} {a2 : α2} {a3 : α3} {a4 : α4} {a5 : α5} {a6 : α6} {a7 : α7} {a8 : α8} {a9 : α9} {a10 : α10} {a11 : α11} {k : α1 → α2 → α3 → α4 → α5 → α6 → α7 → α8 → α9 → α10 → α11 → Option β} : zb11 (some (a1, a2, a3, a4, a5, a6, a7, a8, a9, a10, a11)) k = k a1 a2 a3 a4 a5 a6 a7 a8 a9 a10 a11 := Eq.trans rfl rfl
theorem zb12_some {α1 α2 α3 α4 α5 α6 α7 α8 α9 α10 α11 α12 β : Type} {a1 : α1} {a2 : α2} {a3 : α3} {a4 : α4} {a5 : α5} {a6 : α6} {a7 : α7} {a8 : α8} {a9 : α9} {a10 : α10} {a11 : α11} {a12 : α12} {k : α1 → α2 → α3 → α4 → α5 → α6 → α7 → α8 → α9 → α10 → α11 → α12 → Option β} : zb12 (some (a1, a2, a3, a4, a5, a6, a7, a8, a9, a10, a11, a12)) k = k a1 a2 a3 a4 a5 a6 a7 a8 a9 a10 a11 a12 := Eq.trans rfl rfl
theorem zlet_eq {α β : Type} {a : α} {k : α → β} : zlet a k = k a := Eq.trans rfl rfl
theorem zrem_nI {a d : Nat} (ha : a < 2 ^ 31) (h0 : 0 < d) (hd : d < 2 ^ 31) : zrem (nI a) (nI d) = nI (a % d) := pk_rem ha h0 hd
/-- an int is below 0 or a number -/
theorem zcase (x : Int32) : x < 0 ∨ ∃ j : Nat, j < 2 ^ 31 ∧ x = nI j := by
  by_cases h : x < 0
  · exact Or.inl h
  · exact Or.inr (nI_of h)
theorem nI_lt_nI {a b : Nat} (ha : a < 2 ^ 31) (hb : b < 2 ^ 31) : (nI a < nI b) = (a < b) := propext (nI_ltI ha hb)
theorem nI_le_nI {a b : Nat} (ha : a < 2 ^ 31) (hb : b < 2 ^ 31) : (nI a ≤ nI b) = (a ≤ b) := propext (nI_leI ha hb)
theorem nI_eq_nI {a b : Nat} (ha : a < 2 ^ 31) (hb : b < 2 ^ 31) : (nI a = nI b) = (a = b) := propext (nI_eq ha hb)
theorem zlit (n : Nat) : (OfNat.ofNat n : Int32) = nI n := Eq.trans rfl rfl
theorem zneg_lt {x : Int32} {a : Nat} (h : x < 0) (ha : a < 2 ^ 31) : x < nI a := by
  have h1 := Int32.lt_iff_toInt_lt.mp h
  refine Int32.lt_iff_toInt_lt.mpr ?_
  rw [nI_toInt ha]
  have : (0 : Int32).toInt = 0 := rfl
  omega
theorem zneg_nle {x : Int32} {a : Nat} (h : x < 0) (ha : a < 2 ^ 31) : ¬ nI a ≤ x := by
  intro h2
  have h1 := Int32.lt_iff_toInt_lt.mp h
  have h3 := Int32.le_iff_toInt_le.mp h2
  rw [nI_toInt ha] at h3
  have : (0 : Int32).toInt = 0 := rfl
  omega
/-! the picture: channel c (0 red .. 3 alpha) of a pixel -/
def zch (p : Int32) (c : Nat) : Nat := p.toBitVec.toNat / 2 ^ (24 - 8 * c) % 256
theorem zch_lt (p : Int32) (c : Nat) : zch p c < 256 := Nat.mod_lt _ (by decide)
/-- the pictures agree -/
def zPic (w h : Nat) (px rn : Nat → Int32) : Prop := ∀ x y c : Nat, x < w → y < h → c < 4 → rn (4 * (8 * y + x) + c) = nI (zch (px (y * w + x)) c)
/-- the files agree -/
def zFil (n : Nat) (fb rf : Nat → Int32) : Prop := ∀ i : Nat, i < n → ∃ v : Nat, v < 256 ∧ fb i = nI v ∧ rf i = nI v
/-- class and reference agree -/
def zInv (pw ph : Int32) (px : Nat → Int32) (fs : Int32) (fb : Nat → Int32) (rw rh : Int32) (rn : Nat → Int32) (rs : Int32) (rf : Nat → Int32) : Prop :=
  ∃ w h n : Nat, 1 ≤ w ∧ w ≤ 8 ∧ 1 ≤ h ∧ h ≤ 8 ∧ n ≤ 800 ∧ pw = nI w ∧ rw = nI w ∧ ph = nI h ∧ rh = nI h ∧ fs = nI n ∧ rs = nI n ∧ zPic w h px rn ∧ zFil n fb rf
theorem zneg0 {x : Int32} (h : x < 0) : (x < nI 0) = True := eq_true h
theorem znegs {x : Int32} {a : Nat} (h : x < 0) (ha : a < 2 ^ 31) : (x < nI a) = True := eq_true (zneg_lt h ha)
theorem zneg_lef {x : Int32} {a : Nat} (h : x < 0) (ha : a < 2 ^ 31) : (nI a ≤ x) = False := eq_false (zneg_nle h ha)
/-! the file's small calls -/
theorem zisByte (v : Int32) : (fX8_isByte v = some (nI 0) ∧ (v < 0 ∨ ∃ j : Nat, j < 2 ^ 31 ∧ 255 < j ∧ v = nI j)) ∨ (∃ j : Nat, j ≤ 255 ∧ v = nI j ∧ fX8_isByte v = some (nI 1)) := by
  unfold fX8_isByte
  rcases zcase v with h | ⟨j, hj, rfl⟩
  · exact Or.inl ⟨by simp (disch := omega) only [zlit, nI_lt_nI, nI_le_nI, nI_eq_nI, nI_add, pk_mul, pk_sub, pk_div, zrem_nI, zrd_nI, zwr_nI, zb1_some, zb2_some, zb3_some, zb4_some, zb5_some, zb6_some, zb7_some, zb8_some, zlet_eq, if_pos, if_neg, pk_us, pk_un, true_and, and_true, true_or, or_true, ↓reduceIte, zneg0 h], Or.inl h⟩
  · by_cases h2 : 255 < j
    · exact Or.inl ⟨by simp (disch := omega) only [zlit, nI_lt_nI, nI_le_nI, nI_eq_nI, nI_add, pk_mul, pk_sub, pk_div, zrem_nI, zrd_nI, zwr_nI, zb1_some, zb2_some, zb3_some, zb4_some, zb5_some, zb6_some, zb7_some, zb8_some, zlet_eq, if_pos, if_neg, pk_us, pk_un, true_and, and_true, true_or, or_true, ↓reduceIte], Or.inr ⟨j, hj, h2, rfl⟩⟩
    · right
      exact ⟨j, by omega, rfl, by simp (disch := omega) only [zlit, nI_lt_nI, nI_le_nI, nI_eq_nI, nI_add, pk_mul, pk_sub, pk_div, zrem_nI, zrd_nI, zwr_nI, zb1_some, zb2_some, zb3_some, zb4_some, zb5_some, zb6_some, zb7_some, zb8_some, zlet_eq, if_pos, if_neg, pk_us, pk_un, true_and, and_true, true_or, or_true, ↓reduceIte]⟩
theorem zap8 {n v : Nat} {fb : Nat → Int32} (h : n < 800) : fX2_append (nI n) fb (nI v) = some (nI 1, nI (n + 1), upd fb n (nI v)) := by
  unfold fX2_append
  simp (disch := omega) only [zlit, nI_lt_nI, nI_le_nI, nI_eq_nI, nI_add, pk_mul, pk_sub, pk_div, zrem_nI, zrd_nI, zwr_nI, zb1_some, zb2_some, zb3_some, zb4_some, zb5_some, zb6_some, zb7_some, zb8_some, zlet_eq, if_pos, if_neg, pk_us, pk_un, true_and, and_true, true_or, or_true, ↓reduceIte]
theorem zFil_upd {n v : Nat} {fb rf : Nat → Int32} (hF : zFil n fb rf) (hv : v < 256) : zFil (n + 1) (upd fb n (nI v)) (upd rf n (nI v)) := by
  intro i hi
  by_cases hin : i = n
  · subst hin
    exact ⟨v, hv, pk_us, pk_us⟩
  · obtain ⟨u, hu, e1, e2⟩ := hF i (by omega)
    exact ⟨u, hu, by rw [pk_un hin]; exact e1, by rw [pk_un hin]; exact e2⟩
theorem zo_feed {n : Nat} {fb rf : Nat → Int32} (hn : n ≤ 800) (hF : zFil n fb rf) (v : Int32) :
    ∃ (r : Int32) (n' : Nat) (fb' rf' : Nat → Int32), fX8_feed (nI n) fb v = some (r, nI n', fb') ∧ fX9_feed (nI n) rf v = some (r, nI n', rf') ∧ n' ≤ 800 ∧ zFil n' fb' rf' := by
  unfold fX8_feed fX9_feed
  rcases zisByte v with ⟨e, hv⟩ | ⟨j, hj, rfl, e⟩
  · refine ⟨nI 0, n, fb, rf, by rw [e]; simp (disch := omega) only [zlit, nI_lt_nI, nI_le_nI, nI_eq_nI, nI_add, pk_mul, pk_sub, pk_div, zrem_nI, zrd_nI, zwr_nI, zb1_some, zb2_some, zb3_some, zb4_some, zb5_some, zb6_some, zb7_some, zb8_some, zlet_eq, if_pos, if_neg, pk_us, pk_un, true_and, and_true, true_or, or_true, ↓reduceIte], ?_, hn, hF⟩
    rcases hv with h | ⟨j, hj, h, rfl⟩
    · simp (disch := omega) only [zlit, nI_lt_nI, nI_le_nI, nI_eq_nI, nI_add, pk_mul, pk_sub, pk_div, zrem_nI, zrd_nI, zwr_nI, zb1_some, zb2_some, zb3_some, zb4_some, zb5_some, zb6_some, zb7_some, zb8_some, zlet_eq, if_pos, if_neg, pk_us, pk_un, true_and, and_true, true_or, or_true, ↓reduceIte, zneg0 h]
    · simp (disch := omega) only [zlit, nI_lt_nI, nI_le_nI, nI_eq_nI, nI_add, pk_mul, pk_sub, pk_div, zrem_nI, zrd_nI, zwr_nI, zb1_some, zb2_some, zb3_some, zb4_some, zb5_some, zb6_some, zb7_some, zb8_some, zlet_eq, if_pos, if_neg, pk_us, pk_un, true_and, and_true, true_or, or_true, ↓reduceIte]
  · rw [e]
    by_cases h3 : n = 800
    · refine ⟨nI 0, n, fb, rf, by unfold fX2_append; simp (disch := omega) only [zlit, nI_lt_nI, nI_le_nI, nI_eq_nI, nI_add, pk_mul, pk_sub, pk_div, zrem_nI, zrd_nI, zwr_nI, zb1_some, zb2_some, zb3_some, zb4_some, zb5_some, zb6_some, zb7_some, zb8_some, zlet_eq, if_pos, if_neg, pk_us, pk_un, true_and, and_true, true_or, or_true, ↓reduceIte], by simp (disch := omega) only [zlit, nI_lt_nI, nI_le_nI, nI_eq_nI, nI_add, pk_mul, pk_sub, pk_div, zrem_nI, zrd_nI, zwr_nI, zb1_some, zb2_some, zb3_some, zb4_some, zb5_some, zb6_some, zb7_some, zb8_some, zlet_eq, if_pos, if_neg, pk_us, pk_un, true_and, and_true, true_or, or_true, ↓reduceIte], hn, hF⟩
    · exact ⟨nI 1, n + 1, upd fb n (nI j), upd rf n (nI j), by simp (disch := omega) only [zlit, nI_lt_nI, nI_le_nI, nI_eq_nI, nI_add, pk_mul, pk_sub, pk_div, zrem_nI, zrd_nI, zwr_nI, zb1_some, zb2_some, zb3_some, zb4_some, zb5_some, zb6_some, zb7_some, zb8_some, zlet_eq, if_pos, if_neg, pk_us, pk_un, true_and, and_true, true_or, or_true, ↓reduceIte, zap8], by simp (disch := omega) only [zlit, nI_lt_nI, nI_le_nI, nI_eq_nI, nI_add, pk_mul, pk_sub, pk_div, zrem_nI, zrd_nI, zwr_nI, zb1_some, zb2_some, zb3_some, zb4_some, zb5_some, zb6_some, zb7_some, zb8_some, zlet_eq, if_pos, if_neg, pk_us, pk_un, true_and, and_true, true_or, or_true, ↓reduceIte], by omega, zFil_upd hF (by omega)⟩
theorem zo_cut {n : Nat} {fb rf : Nat → Int32} (hn : n ≤ 800) (hF : zFil n fb rf) (v : Int32) :
    ∃ (r : Int32) (n' : Nat), fX8_cut (nI n) v = some (r, nI n') ∧ fX9_cut (nI n) v = some (r, nI n') ∧ n' ≤ 800 ∧ zFil n' fb rf := by
  unfold fX8_cut fX9_cut
  rcases zcase v with h | ⟨j, hj, rfl⟩
  · exact ⟨nI 0, n, by simp (disch := omega) only [zlit, nI_lt_nI, nI_le_nI, nI_eq_nI, nI_add, pk_mul, pk_sub, pk_div, zrem_nI, zrd_nI, zwr_nI, zb1_some, zb2_some, zb3_some, zb4_some, zb5_some, zb6_some, zb7_some, zb8_some, zlet_eq, if_pos, if_neg, pk_us, pk_un, true_and, and_true, true_or, or_true, ↓reduceIte, zneg0 h], by simp (disch := omega) only [zlit, nI_lt_nI, nI_le_nI, nI_eq_nI, nI_add, pk_mul, pk_sub, pk_div, zrem_nI, zrd_nI, zwr_nI, zb1_some, zb2_some, zb3_some, zb4_some, zb5_some, zb6_some, zb7_some, zb8_some, zlet_eq, if_pos, if_neg, pk_us, pk_un, true_and, and_true, true_or, or_true, ↓reduceIte, zneg0 h], hn, hF⟩
  · by_cases h2 : j ≤ n
    · exact ⟨nI 1, j, by simp (disch := omega) only [zlit, nI_lt_nI, nI_le_nI, nI_eq_nI, nI_add, pk_mul, pk_sub, pk_div, zrem_nI, zrd_nI, zwr_nI, zb1_some, zb2_some, zb3_some, zb4_some, zb5_some, zb6_some, zb7_some, zb8_some, zlet_eq, if_pos, if_neg, pk_us, pk_un, true_and, and_true, true_or, or_true, ↓reduceIte], by simp (disch := omega) only [zlit, nI_lt_nI, nI_le_nI, nI_eq_nI, nI_add, pk_mul, pk_sub, pk_div, zrem_nI, zrd_nI, zwr_nI, zb1_some, zb2_some, zb3_some, zb4_some, zb5_some, zb6_some, zb7_some, zb8_some, zlet_eq, if_pos, if_neg, pk_us, pk_un, true_and, and_true, true_or, or_true, ↓reduceIte], by omega, fun i hi => hF i (by omega)⟩
    · exact ⟨nI 0, n, by simp (disch := omega) only [zlit, nI_lt_nI, nI_le_nI, nI_eq_nI, nI_add, pk_mul, pk_sub, pk_div, zrem_nI, zrd_nI, zwr_nI, zb1_some, zb2_some, zb3_some, zb4_some, zb5_some, zb6_some, zb7_some, zb8_some, zlet_eq, if_pos, if_neg, pk_us, pk_un, true_and, and_true, true_or, or_true, ↓reduceIte], by simp (disch := omega) only [zlit, nI_lt_nI, nI_le_nI, nI_eq_nI, nI_add, pk_mul, pk_sub, pk_div, zrem_nI, zrd_nI, zwr_nI, zb1_some, zb2_some, zb3_some, zb4_some, zb5_some, zb6_some, zb7_some, zb8_some, zlet_eq, if_pos, if_neg, pk_us, pk_un, true_and, and_true, true_or, or_true, ↓reduceIte], hn, hF⟩
theorem zFil_set {n i v : Nat} {fb rf : Nat → Int32} (hF : zFil n fb rf) (hv : v < 256) : zFil n (upd fb i (nI v)) (upd rf i (nI v)) := by
  intro j hj
  by_cases hij : j = i
  · subst hij
    exact ⟨v, hv, pk_us, pk_us⟩
  · obtain ⟨u, hu, e1, e2⟩ := hF j hj
    exact ⟨u, hu, by rw [pk_un hij]; exact e1, by rw [pk_un hij]; exact e2⟩
theorem zo_alter {n : Nat} {fb rf : Nat → Int32} (hn : n ≤ 800) (hF : zFil n fb rf) (v u : Int32) :
    ∃ (r : Int32) (fb' rf' : Nat → Int32), fX8_alter (nI n) fb v u = some (r, fb') ∧ fX9_alter (nI n) rf v u = some (r, rf') ∧ zFil n fb' rf' := by
  unfold fX8_alter fX9_alter
  rcases zisByte u with ⟨e, hu⟩ | ⟨k, hk, rfl, e⟩
  · refine ⟨nI 0, fb, rf, by rw [e]; simp (disch := omega) only [zlit, nI_lt_nI, nI_le_nI, nI_eq_nI, nI_add, pk_mul, pk_sub, pk_div, zrem_nI, zrd_nI, zwr_nI, zb1_some, zb2_some, zb3_some, zb4_some, zb5_some, zb6_some, zb7_some, zb8_some, zlet_eq, if_pos, if_neg, pk_us, pk_un, true_and, and_true, true_or, or_true, ↓reduceIte], ?_, hF⟩
    rcases zcase v with h | ⟨j, hj, rfl⟩
    · simp (disch := omega) only [zlit, nI_lt_nI, nI_le_nI, nI_eq_nI, nI_add, pk_mul, pk_sub, pk_div, zrem_nI, zrd_nI, zwr_nI, zb1_some, zb2_some, zb3_some, zb4_some, zb5_some, zb6_some, zb7_some, zb8_some, zlet_eq, if_pos, if_neg, pk_us, pk_un, true_and, and_true, true_or, or_true, ↓reduceIte, zneg0 h]
    · by_cases h2 : n ≤ j
      · simp (disch := omega) only [zlit, nI_lt_nI, nI_le_nI, nI_eq_nI, nI_add, pk_mul, pk_sub, pk_div, zrem_nI, zrd_nI, zwr_nI, zb1_some, zb2_some, zb3_some, zb4_some, zb5_some, zb6_some, zb7_some, zb8_some, zlet_eq, if_pos, if_neg, pk_us, pk_un, true_and, and_true, true_or, or_true, ↓reduceIte]
      · rcases hu with h | ⟨k, hk, h, rfl⟩
        · simp (disch := omega) only [zlit, nI_lt_nI, nI_le_nI, nI_eq_nI, nI_add, pk_mul, pk_sub, pk_div, zrem_nI, zrd_nI, zwr_nI, zb1_some, zb2_some, zb3_some, zb4_some, zb5_some, zb6_some, zb7_some, zb8_some, zlet_eq, if_pos, if_neg, pk_us, pk_un, true_and, and_true, true_or, or_true, ↓reduceIte, zneg0 h]
        · simp (disch := omega) only [zlit, nI_lt_nI, nI_le_nI, nI_eq_nI, nI_add, pk_mul, pk_sub, pk_div, zrem_nI, zrd_nI, zwr_nI, zb1_some, zb2_some, zb3_some, zb4_some, zb5_some, zb6_some, zb7_some, zb8_some, zlet_eq, if_pos, if_neg, pk_us, pk_un, true_and, and_true, true_or, or_true, ↓reduceIte]
  · rw [e]
    rcases zcase v with h | ⟨j, hj, rfl⟩
    · exact ⟨nI 0, fb, rf, by simp (disch := omega) only [zlit, nI_lt_nI, nI_le_nI, nI_eq_nI, nI_add, pk_mul, pk_sub, pk_div, zrem_nI, zrd_nI, zwr_nI, zb1_some, zb2_some, zb3_some, zb4_some, zb5_some, zb6_some, zb7_some, zb8_some, zlet_eq, if_pos, if_neg, pk_us, pk_un, true_and, and_true, true_or, or_true, ↓reduceIte, zneg0 h], by simp (disch := omega) only [zlit, nI_lt_nI, nI_le_nI, nI_eq_nI, nI_add, pk_mul, pk_sub, pk_div, zrem_nI, zrd_nI, zwr_nI, zb1_some, zb2_some, zb3_some, zb4_some, zb5_some, zb6_some, zb7_some, zb8_some, zlet_eq, if_pos, if_neg, pk_us, pk_un, true_and, and_true, true_or, or_true, ↓reduceIte, zneg0 h], hF⟩
    · by_cases h2 : j < n
      · exact ⟨nI 1, upd fb j (nI k), upd rf j (nI k), by simp (disch := omega) only [zlit, nI_lt_nI, nI_le_nI, nI_eq_nI, nI_add, pk_mul, pk_sub, pk_div, zrem_nI, zrd_nI, zwr_nI, zb1_some, zb2_some, zb3_some, zb4_some, zb5_some, zb6_some, zb7_some, zb8_some, zlet_eq, if_pos, if_neg, pk_us, pk_un, true_and, and_true, true_or, or_true, ↓reduceIte], by simp (disch := omega) only [zlit, nI_lt_nI, nI_le_nI, nI_eq_nI, nI_add, pk_mul, pk_sub, pk_div, zrem_nI, zrd_nI, zwr_nI, zb1_some, zb2_some, zb3_some, zb4_some, zb5_some, zb6_some, zb7_some, zb8_some, zlet_eq, if_pos, if_neg, pk_us, pk_un, true_and, and_true, true_or, or_true, ↓reduceIte], zFil_set hF (show k < 256 by omega)⟩
      · exact ⟨nI 0, fb, rf, by simp (disch := omega) only [zlit, nI_lt_nI, nI_le_nI, nI_eq_nI, nI_add, pk_mul, pk_sub, pk_div, zrem_nI, zrd_nI, zwr_nI, zb1_some, zb2_some, zb3_some, zb4_some, zb5_some, zb6_some, zb7_some, zb8_some, zlet_eq, if_pos, if_neg, pk_us, pk_un, true_and, and_true, true_or, or_true, ↓reduceIte], by simp (disch := omega) only [zlit, nI_lt_nI, nI_le_nI, nI_eq_nI, nI_add, pk_mul, pk_sub, pk_div, zrem_nI, zrd_nI, zwr_nI, zb1_some, zb2_some, zb3_some, zb4_some, zb5_some, zb6_some, zb7_some, zb8_some, zlet_eq, if_pos, if_neg, pk_us, pk_un, true_and, and_true, true_or, or_true, ↓reduceIte], hF⟩
theorem zo_byteAt {n : Nat} {fb rf : Nat → Int32} (hn : n ≤ 800) (hF : zFil n fb rf) (v : Int32) :
    ∃ r : Int32, fX8_byteAt (nI n) fb v = some r ∧ fX9_byteAt (nI n) rf v = some r := by
  unfold fX8_byteAt fX9_byteAt fX2_at fX9_byteAt_12
  rcases zcase v with h | ⟨j, hj, rfl⟩
  · exact ⟨-(nI 1), by simp (disch := omega) only [zlit, nI_lt_nI, nI_le_nI, nI_eq_nI, nI_add, pk_mul, pk_sub, pk_div, zrem_nI, zrd_nI, zwr_nI, zb1_some, zb2_some, zb3_some, zb4_some, zb5_some, zb6_some, zb7_some, zb8_some, zlet_eq, if_pos, if_neg, pk_us, pk_un, true_and, and_true, true_or, or_true, ↓reduceIte, zneg0 h], by simp (disch := omega) only [zlit, nI_lt_nI, nI_le_nI, nI_eq_nI, nI_add, pk_mul, pk_sub, pk_div, zrem_nI, zrd_nI, zwr_nI, zb1_some, zb2_some, zb3_some, zb4_some, zb5_some, zb6_some, zb7_some, zb8_some, zlet_eq, if_pos, if_neg, pk_us, pk_un, true_and, and_true, true_or, or_true, ↓reduceIte, zneg0 h]⟩
  · by_cases h2 : j < n
    · obtain ⟨x, hx, e1, e2⟩ := hF j h2
      exact ⟨nI x, by simp (disch := omega) only [zlit, nI_lt_nI, nI_le_nI, nI_eq_nI, nI_add, pk_mul, pk_sub, pk_div, zrem_nI, zrd_nI, zwr_nI, zb1_some, zb2_some, zb3_some, zb4_some, zb5_some, zb6_some, zb7_some, zb8_some, zlet_eq, if_pos, if_neg, pk_us, pk_un, true_and, and_true, true_or, or_true, ↓reduceIte, e1], by simp (disch := omega) only [zlit, nI_lt_nI, nI_le_nI, nI_eq_nI, nI_add, pk_mul, pk_sub, pk_div, zrem_nI, zrd_nI, zwr_nI, zb1_some, zb2_some, zb3_some, zb4_some, zb5_some, zb6_some, zb7_some, zb8_some, zlet_eq, if_pos, if_neg, pk_us, pk_un, true_and, and_true, true_or, or_true, ↓reduceIte, e2]⟩
    · exact ⟨-(nI 1), by simp (disch := omega) only [zlit, nI_lt_nI, nI_le_nI, nI_eq_nI, nI_add, pk_mul, pk_sub, pk_div, zrem_nI, zrd_nI, zwr_nI, zb1_some, zb2_some, zb3_some, zb4_some, zb5_some, zb6_some, zb7_some, zb8_some, zlet_eq, if_pos, if_neg, pk_us, pk_un, true_and, and_true, true_or, or_true, ↓reduceIte], by simp (disch := omega) only [zlit, nI_lt_nI, nI_le_nI, nI_eq_nI, nI_add, pk_mul, pk_sub, pk_div, zrem_nI, zrd_nI, zwr_nI, zb1_some, zb2_some, zb3_some, zb4_some, zb5_some, zb6_some, zb7_some, zb8_some, zlet_eq, if_pos, if_neg, pk_us, pk_un, true_and, and_true, true_or, or_true, ↓reduceIte]⟩
/-! the picture's small calls -/
theorem zp_nI (p : Int32) : p = nI p.toBitVec.toNat := by
  apply Int32.toBitVec_inj.mp
  show p.toBitVec = BitVec.ofNat 32 p.toBitVec.toNat
  simp
theorem zch_pack (p : Int32) : p = nI (256 * (256 * (256 * zch p 0 + zch p 1) + zch p 2) + zch p 3) := by
  have h : p.toBitVec.toNat < 2 ^ 32 := p.toBitVec.isLt
  have e : 256 * (256 * (256 * zch p 0 + zch p 1) + zch p 2) + zch p 3 = p.toBitVec.toNat := by
    unfold zch
    simp only [Nat.reduceMul, Nat.reduceSub, Nat.reducePow]
    omega
  rw [e]
  exact zp_nI p
theorem zushr_n (p : Int32) (k : Nat) (hk : k < 32) : zushr p (nI k) = nI (p.toBitVec.toNat / 2 ^ k) := by
  have hs : (((nI k).toUInt32 &&& Int32.toUInt32 31).toBitVec % 32).toNat = k := by
    have h : ∀ k : Fin 32, (((nI k.val).toUInt32 &&& Int32.toUInt32 31).toBitVec % 32).toNat = k.val := by decide
    exact h ⟨k, hk⟩
  have := pk_ushr p (nI k) k hs
  unfold zushr
  rw [← this]
  exact zp_nI _
theorem zand255 {n : Nat} (h : n < 2 ^ 32) : nI n &&& nI 255 = nI (n % 256) := pk_andN h 8 rfl
/-- the shift by a whole number of bytes, and its lowest byte -/
theorem zush (p : Int32) (c : Nat) (hc : c < 4) : (zushr p (nI (24 - 8 * c))) &&& nI 255 = nI (zch p c) := by
  rw [zushr_n p _ (by omega), zand255 (Nat.lt_of_le_of_lt (Nat.div_le_self _ _) p.toBitVec.isLt)]
  rfl
theorem zfill {v : Int32} : ∀ (n i : Nat) (a : Nat → Int32), i ≤ 64 → 64 - i < n → fJ7_fill_53178_5 n a v (nI i) (nI 64) = some (fun j => if i ≤ j ∧ j < 64 then v else a j) := by
  intro n
  induction n with
  | zero => intro i a h1 h2; omega
  | succ n ih =>
    intro i a h1 h2
    rw [fJ7_fill_53178_5_s]
    by_cases c : 64 ≤ i
    · simp (disch := omega) only [zlit, nI_lt_nI, nI_le_nI, nI_eq_nI, nI_add, pk_mul, pk_sub, pk_div, zrem_nI, zrd_nI, zwr_nI, zb1_some, zb2_some, zb3_some, zb4_some, zb5_some, zb6_some, zb7_some, zb8_some, zlet_eq, if_pos, if_neg, pk_us, pk_un, true_and, and_true, true_or, or_true, ↓reduceIte]
    · simp (disch := omega) only [zlit, nI_lt_nI, nI_le_nI, nI_eq_nI, nI_add, pk_mul, pk_sub, pk_div, zrem_nI, zrd_nI, zwr_nI, zb1_some, zb2_some, zb3_some, zb4_some, zb5_some, zb6_some, zb7_some, zb8_some, zlet_eq, if_pos, if_neg, pk_us, pk_un, true_and, and_true, true_or, or_true, ↓reduceIte]
      rw [ih (i + 1) (upd a i v) (by omega) (by omega)]
      congr 1
      funext j
      by_cases hij : j = i
      · subst hij
        rw [if_neg (by omega), if_pos (by omega), pk_us]
      · by_cases hj : i ≤ j ∧ j < 64
        · rw [if_pos (by omega), if_pos hj]
        · rw [if_neg (by omega), if_neg hj, pk_un hij]
theorem zmake9 {w h : Int32} : ∀ (n i : Nat) (a : Nat → Int32), i ≤ 256 → 256 - i < n → fX9_make_28 n w h a (nI i) = some (nI 1, w, h, fun j => if i ≤ j ∧ j < 256 then (if j % 4 = 3 then nI 255 else nI 0) else a j) := by
  intro n
  induction n with
  | zero => intro i a h1 h2; omega
  | succ n ih =>
    intro i a h1 h2
    rw [fX9_make_28_s]
    by_cases c : 256 ≤ i
    · simp (disch := omega) only [zlit, nI_lt_nI, nI_le_nI, nI_eq_nI, nI_add, pk_mul, pk_sub, pk_div, zrem_nI, zrd_nI, zwr_nI, zb1_some, zb2_some, zb3_some, zb4_some, zb5_some, zb6_some, zb7_some, zb8_some, zlet_eq, if_pos, if_neg, pk_us, pk_un, true_and, and_true, true_or, or_true, ↓reduceIte]
    · have key : ∀ x : Int32, x = (if i % 4 = 3 then nI 255 else nI 0) → fX9_make_54 (fX9_make_28 n) w h a (nI i) (nI i) x = some (nI 1, w, h, fun j => if i ≤ j ∧ j < 256 then (if j % 4 = 3 then nI 255 else nI 0) else a j) := by
        intro x hx
        unfold fX9_make_54
        simp (disch := omega) only [zlit, nI_lt_nI, nI_le_nI, nI_eq_nI, nI_add, pk_mul, pk_sub, pk_div, zrem_nI, zrd_nI, zwr_nI, zb1_some, zb2_some, zb3_some, zb4_some, zb5_some, zb6_some, zb7_some, zb8_some, zlet_eq, if_pos, if_neg, pk_us, pk_un, true_and, and_true, true_or, or_true, ↓reduceIte]
        rw [ih (i + 1) (upd a i x) (by omega) (by omega)]
        congr 4
        funext j
        by_cases hij : j = i
        · subst hij
          rw [if_neg (by omega), if_pos (by omega), pk_us, hx]
        · by_cases hj : i ≤ j ∧ j < 256
          · rw [if_pos (by omega), if_pos hj]
          · rw [if_neg (by omega), if_neg hj, pk_un hij]
      by_cases h3 : i % 4 = 3
      · have := key (nI 255) (by rw [if_pos h3])
        simp (disch := omega) only [zlit, nI_lt_nI, nI_le_nI, nI_eq_nI, nI_add, pk_mul, pk_sub, pk_div, zrem_nI, zrd_nI, zwr_nI, zb1_some, zb2_some, zb3_some, zb4_some, zb5_some, zb6_some, zb7_some, zb8_some, zlet_eq, if_pos, if_neg, pk_us, pk_un, true_and, and_true, true_or, or_true, ↓reduceIte]
        exact this
      · have := key (nI 0) (by rw [if_neg h3])
        simp (disch := omega) only [zlit, nI_lt_nI, nI_le_nI, nI_eq_nI, nI_add, pk_mul, pk_sub, pk_div, zrem_nI, zrd_nI, zwr_nI, zb1_some, zb2_some, zb3_some, zb4_some, zb5_some, zb6_some, zb7_some, zb8_some, zlet_eq, if_pos, if_neg, pk_us, pk_un, true_and, and_true, true_or, or_true, ↓reduceIte]
        exact this
theorem zside (v : Int32) : (fX8_isSide v = some (nI 0) ∧ fX9_side v = some (nI 0) ∧ ∀ j : Nat, 1 ≤ j → j ≤ 8 → v ≠ nI j) ∨ (∃ j : Nat, 1 ≤ j ∧ j ≤ 8 ∧ v = nI j ∧ fX8_isSide v = some (nI 1) ∧ fX9_side v = some (nI 1)) := by
  unfold fX8_isSide fX9_side
  rcases zcase v with h | ⟨j, hj, rfl⟩
  · exact Or.inl ⟨by simp (disch := omega) only [zlit, nI_lt_nI, nI_le_nI, nI_eq_nI, nI_add, pk_mul, pk_sub, pk_div, zrem_nI, zrd_nI, zwr_nI, zb1_some, zb2_some, zb3_some, zb4_some, zb5_some, zb6_some, zb7_some, zb8_some, zlet_eq, if_pos, if_neg, pk_us, pk_un, true_and, and_true, true_or, or_true, ↓reduceIte, znegs h], by simp (disch := omega) only [zlit, nI_lt_nI, nI_le_nI, nI_eq_nI, nI_add, pk_mul, pk_sub, pk_div, zrem_nI, zrd_nI, zwr_nI, zb1_some, zb2_some, zb3_some, zb4_some, zb5_some, zb6_some, zb7_some, zb8_some, zlet_eq, if_pos, if_neg, pk_us, pk_un, true_and, and_true, true_or, or_true, ↓reduceIte, znegs h], fun j h1 h2 e => by
      rw [e] at h
      exact nI_pos (by omega) h⟩
  · by_cases h1 : 1 ≤ j ∧ j ≤ 8
    · exact Or.inr ⟨j, h1.1, h1.2, rfl, by simp (disch := omega) only [zlit, nI_lt_nI, nI_le_nI, nI_eq_nI, nI_add, pk_mul, pk_sub, pk_div, zrem_nI, zrd_nI, zwr_nI, zb1_some, zb2_some, zb3_some, zb4_some, zb5_some, zb6_some, zb7_some, zb8_some, zlet_eq, if_pos, if_neg, pk_us, pk_un, true_and, and_true, true_or, or_true, ↓reduceIte], by simp (disch := omega) only [zlit, nI_lt_nI, nI_le_nI, nI_eq_nI, nI_add, pk_mul, pk_sub, pk_div, zrem_nI, zrd_nI, zwr_nI, zb1_some, zb2_some, zb3_some, zb4_some, zb5_some, zb6_some, zb7_some, zb8_some, zlet_eq, if_pos, if_neg, pk_us, pk_un, true_and, and_true, true_or, or_true, ↓reduceIte]⟩
    · refine Or.inl ⟨?_, ?_, fun k hk hk2 e => ?_⟩
      · by_cases h2 : j < 1
        · simp (disch := omega) only [zlit, nI_lt_nI, nI_le_nI, nI_eq_nI, nI_add, pk_mul, pk_sub, pk_div, zrem_nI, zrd_nI, zwr_nI, zb1_some, zb2_some, zb3_some, zb4_some, zb5_some, zb6_some, zb7_some, zb8_some, zlet_eq, if_pos, if_neg, pk_us, pk_un, true_and, and_true, true_or, or_true, ↓reduceIte]
        · simp (disch := omega) only [zlit, nI_lt_nI, nI_le_nI, nI_eq_nI, nI_add, pk_mul, pk_sub, pk_div, zrem_nI, zrd_nI, zwr_nI, zb1_some, zb2_some, zb3_some, zb4_some, zb5_some, zb6_some, zb7_some, zb8_some, zlet_eq, if_pos, if_neg, pk_us, pk_un, true_and, and_true, true_or, or_true, ↓reduceIte]
      · by_cases h2 : j < 1
        · simp (disch := omega) only [zlit, nI_lt_nI, nI_le_nI, nI_eq_nI, nI_add, pk_mul, pk_sub, pk_div, zrem_nI, zrd_nI, zwr_nI, zb1_some, zb2_some, zb3_some, zb4_some, zb5_some, zb6_some, zb7_some, zb8_some, zlet_eq, if_pos, if_neg, pk_us, pk_un, true_and, and_true, true_or, or_true, ↓reduceIte]
        · simp (disch := omega) only [zlit, nI_lt_nI, nI_le_nI, nI_eq_nI, nI_add, pk_mul, pk_sub, pk_div, zrem_nI, zrd_nI, zwr_nI, zb1_some, zb2_some, zb3_some, zb4_some, zb5_some, zb6_some, zb7_some, zb8_some, zlet_eq, if_pos, if_neg, pk_us, pk_un, true_and, and_true, true_or, or_true, ↓reduceIte]
      · rw [nI_eq_nI hj (by omega)] at e
        omega
theorem zblack (x y c : Nat) (hc : c < 4) : (if (4 * (8 * y + x) + c) % 4 = 3 then nI 255 else nI 0) = nI (zch (nI 255) c) := by
  have e : (4 * (8 * y + x) + c) % 4 = c := by omega
  rw [e]
  rcases (show c = 0 ∨ c = 1 ∨ c = 2 ∨ c = 3 by omega) with rfl | rfl | rfl | rfl <;> decide
theorem zbegin (px : Nat → Int32) (a b : Int32) : fX5_begin px a b = some (a, b, fun j => if j < 64 then nI 255 else px j) := by
  unfold fX5_begin fX5_fill fJ7_fill_53178
  simp (disch := omega) only [zlit, nI_lt_nI, nI_le_nI, nI_eq_nI, nI_add, pk_mul, pk_sub, pk_div, zrem_nI, zrd_nI, zwr_nI, zb1_some, zb2_some, zb3_some, zb4_some, zb5_some, zb6_some, zb7_some, zb8_some, zlet_eq, if_pos, if_neg, pk_us, pk_un, true_and, and_true, true_or, or_true, ↓reduceIte]
  rw [zfill 1000 0 px (by decide) (by decide)]
  simp (disch := omega) only [zlit, nI_lt_nI, nI_le_nI, nI_eq_nI, nI_add, pk_mul, pk_sub, pk_div, zrem_nI, zrd_nI, zwr_nI, zb1_some, zb2_some, zb3_some, zb4_some, zb5_some, zb6_some, zb7_some, zb8_some, zlet_eq, if_pos, if_neg, pk_us, pk_un, true_and, and_true, true_or, or_true, ↓reduceIte, Nat.zero_le, true_and]
theorem zidx {w h x y : Nat} (hw : w ≤ 8) (hh : h ≤ 8) (hx : x < w) (hy : y < h) : y * w + x < 64 := by
  have h1 : y * w ≤ 7 * w := Nat.mul_le_mul_right _ (by omega)
  omega
theorem zo_make {w h : Nat} {px rn : Nat → Int32} (hP : zPic w h px rn) (hw : 1 ≤ w ∧ w ≤ 8) (hh : 1 ≤ h ∧ h ≤ 8) (a b : Int32) :
    ∃ (r : Int32) (w' h' : Nat) (px' rn' : Nat → Int32), fX8_make (nI w) (nI h) px a b = some (r, nI w', nI h', px') ∧ fX9_make (nI w) (nI h) rn a b = some (r, nI w', nI h', rn') ∧ (1 ≤ w' ∧ w' ≤ 8) ∧ (1 ≤ h' ∧ h' ≤ 8) ∧ zPic w' h' px' rn' := by
  unfold fX8_make fX9_make
  rcases zside a with ⟨e1, e2, -⟩ | ⟨i, hi1, hi2, rfl, e1, e2⟩
  · rw [e1, e2]
    exact ⟨nI 0, w, h, px, rn, by simp (disch := omega) only [zlit, nI_lt_nI, nI_le_nI, nI_eq_nI, nI_add, pk_mul, pk_sub, pk_div, zrem_nI, zrd_nI, zwr_nI, zb1_some, zb2_some, zb3_some, zb4_some, zb5_some, zb6_some, zb7_some, zb8_some, zlet_eq, if_pos, if_neg, pk_us, pk_un, true_and, and_true, true_or, or_true, ↓reduceIte], by simp (disch := omega) only [zlit, nI_lt_nI, nI_le_nI, nI_eq_nI, nI_add, pk_mul, pk_sub, pk_div, zrem_nI, zrd_nI, zwr_nI, zb1_some, zb2_some, zb3_some, zb4_some, zb5_some, zb6_some, zb7_some, zb8_some, zlet_eq, if_pos, if_neg, pk_us, pk_un, true_and, and_true, true_or, or_true, ↓reduceIte], hw, hh, hP⟩
  · rw [e1, e2]
    rcases zside b with ⟨g1, g2, -⟩ | ⟨j, hj1, hj2, rfl, g1, g2⟩
    · rw [g1, g2]
      exact ⟨nI 0, w, h, px, rn, by simp (disch := omega) only [zlit, nI_lt_nI, nI_le_nI, nI_eq_nI, nI_add, pk_mul, pk_sub, pk_div, zrem_nI, zrd_nI, zwr_nI, zb1_some, zb2_some, zb3_some, zb4_some, zb5_some, zb6_some, zb7_some, zb8_some, zlet_eq, if_pos, if_neg, pk_us, pk_un, true_and, and_true, true_or, or_true, ↓reduceIte], by simp (disch := omega) only [zlit, nI_lt_nI, nI_le_nI, nI_eq_nI, nI_add, pk_mul, pk_sub, pk_div, zrem_nI, zrd_nI, zwr_nI, zb1_some, zb2_some, zb3_some, zb4_some, zb5_some, zb6_some, zb7_some, zb8_some, zlet_eq, if_pos, if_neg, pk_us, pk_un, true_and, and_true, true_or, or_true, ↓reduceIte], hw, hh, hP⟩
    · rw [g1, g2]
      refine ⟨nI 1, i, j, (fun j => if j < 64 then nI 255 else px j), (fun j => if 0 ≤ j ∧ j < 256 then (if j % 4 = 3 then nI 255 else nI 0) else rn j), by simp (disch := omega) only [zlit, nI_lt_nI, nI_le_nI, nI_eq_nI, nI_add, pk_mul, pk_sub, pk_div, zrem_nI, zrd_nI, zwr_nI, zb1_some, zb2_some, zb3_some, zb4_some, zb5_some, zb6_some, zb7_some, zb8_some, zlet_eq, if_pos, if_neg, pk_us, pk_un, true_and, and_true, true_or, or_true, ↓reduceIte, zbegin], ?_, ⟨hi1, hi2⟩, ⟨hj1, hj2⟩, ?_⟩
      · simp (disch := omega) only [zlit, nI_lt_nI, nI_le_nI, nI_eq_nI, nI_add, pk_mul, pk_sub, pk_div, zrem_nI, zrd_nI, zwr_nI, zb1_some, zb2_some, zb3_some, zb4_some, zb5_some, zb6_some, zb7_some, zb8_some, zlet_eq, if_pos, if_neg, pk_us, pk_un, true_and, and_true, true_or, or_true, ↓reduceIte]
        rw [zmake9 1000 0 rn (by decide) (by decide)]
      · intro x y c hx hy hc
        have h1 := zidx hi2 hj2 hx hy
        show (if 0 ≤ 4 * (8 * y + x) + c ∧ 4 * (8 * y + x) + c < 256 then (if (4 * (8 * y + x) + c) % 4 = 3 then nI 255 else nI 0) else rn (4 * (8 * y + x) + c)) = nI (zch (if y * i + x < 64 then nI 255 else px (y * i + x)) c)
        rw [if_pos (show 0 ≤ 4 * (8 * y + x) + c ∧ 4 * (8 * y + x) + c < 256 by omega), if_pos (show y * i + x < 64 from h1)]
        exact zblack x y c hc
theorem zhas {w h : Nat} (hw : w ≤ 8) (hh : h ≤ 8) (a b : Int32) : (fX5_has (nI w) (nI h) a b = some (nI 0) ∧ fX9_inside (nI w) (nI h) a b = some (nI 0)) ∨ (∃ x y : Nat, x < w ∧ y < h ∧ a = nI x ∧ b = nI y ∧ fX5_has (nI w) (nI h) a b = some (nI 1) ∧ fX9_inside (nI w) (nI h) a b = some (nI 1)) := by
  unfold fX5_has fX9_inside
  rcases zcase a with h1 | ⟨x, hx, rfl⟩
  · exact Or.inl ⟨by simp (disch := omega) only [zlit, nI_lt_nI, nI_le_nI, nI_eq_nI, nI_add, pk_mul, pk_sub, pk_div, zrem_nI, zrd_nI, zwr_nI, zb1_some, zb2_some, zb3_some, zb4_some, zb5_some, zb6_some, zb7_some, zb8_some, zlet_eq, if_pos, if_neg, pk_us, pk_un, true_and, and_true, true_or, or_true, ↓reduceIte, zneg0 h1], by simp (disch := omega) only [zlit, nI_lt_nI, nI_le_nI, nI_eq_nI, nI_add, pk_mul, pk_sub, pk_div, zrem_nI, zrd_nI, zwr_nI, zb1_some, zb2_some, zb3_some, zb4_some, zb5_some, zb6_some, zb7_some, zb8_some, zlet_eq, if_pos, if_neg, pk_us, pk_un, true_and, and_true, true_or, or_true, ↓reduceIte, zneg0 h1]⟩
  · by_cases h2 : w ≤ x
    · exact Or.inl ⟨by simp (disch := omega) only [zlit, nI_lt_nI, nI_le_nI, nI_eq_nI, nI_add, pk_mul, pk_sub, pk_div, zrem_nI, zrd_nI, zwr_nI, zb1_some, zb2_some, zb3_some, zb4_some, zb5_some, zb6_some, zb7_some, zb8_some, zlet_eq, if_pos, if_neg, pk_us, pk_un, true_and, and_true, true_or, or_true, ↓reduceIte], by simp (disch := omega) only [zlit, nI_lt_nI, nI_le_nI, nI_eq_nI, nI_add, pk_mul, pk_sub, pk_div, zrem_nI, zrd_nI, zwr_nI, zb1_some, zb2_some, zb3_some, zb4_some, zb5_some, zb6_some, zb7_some, zb8_some, zlet_eq, if_pos, if_neg, pk_us, pk_un, true_and, and_true, true_or, or_true, ↓reduceIte]⟩
    · rcases zcase b with h3 | ⟨y, hy, rfl⟩
      · exact Or.inl ⟨by simp (disch := omega) only [zlit, nI_lt_nI, nI_le_nI, nI_eq_nI, nI_add, pk_mul, pk_sub, pk_div, zrem_nI, zrd_nI, zwr_nI, zb1_some, zb2_some, zb3_some, zb4_some, zb5_some, zb6_some, zb7_some, zb8_some, zlet_eq, if_pos, if_neg, pk_us, pk_un, true_and, and_true, true_or, or_true, ↓reduceIte, zneg0 h3], by simp (disch := omega) only [zlit, nI_lt_nI, nI_le_nI, nI_eq_nI, nI_add, pk_mul, pk_sub, pk_div, zrem_nI, zrd_nI, zwr_nI, zb1_some, zb2_some, zb3_some, zb4_some, zb5_some, zb6_some, zb7_some, zb8_some, zlet_eq, if_pos, if_neg, pk_us, pk_un, true_and, and_true, true_or, or_true, ↓reduceIte, zneg0 h3]⟩
      · by_cases h4 : h ≤ y
        · exact Or.inl ⟨by simp (disch := omega) only [zlit, nI_lt_nI, nI_le_nI, nI_eq_nI, nI_add, pk_mul, pk_sub, pk_div, zrem_nI, zrd_nI, zwr_nI, zb1_some, zb2_some, zb3_some, zb4_some, zb5_some, zb6_some, zb7_some, zb8_some, zlet_eq, if_pos, if_neg, pk_us, pk_un, true_and, and_true, true_or, or_true, ↓reduceIte], by simp (disch := omega) only [zlit, nI_lt_nI, nI_le_nI, nI_eq_nI, nI_add, pk_mul, pk_sub, pk_div, zrem_nI, zrd_nI, zwr_nI, zb1_some, zb2_some, zb3_some, zb4_some, zb5_some, zb6_some, zb7_some, zb8_some, zlet_eq, if_pos, if_neg, pk_us, pk_un, true_and, and_true, true_or, or_true, ↓reduceIte]⟩
        · exact Or.inr ⟨x, y, by omega, by omega, rfl, rfl, by simp (disch := omega) only [zlit, nI_lt_nI, nI_le_nI, nI_eq_nI, nI_add, pk_mul, pk_sub, pk_div, zrem_nI, zrd_nI, zwr_nI, zb1_some, zb2_some, zb3_some, zb4_some, zb5_some, zb6_some, zb7_some, zb8_some, zlet_eq, if_pos, if_neg, pk_us, pk_un, true_and, and_true, true_or, or_true, ↓reduceIte], by simp (disch := omega) only [zlit, nI_lt_nI, nI_le_nI, nI_eq_nI, nI_add, pk_mul, pk_sub, pk_div, zrem_nI, zrd_nI, zwr_nI, zb1_some, zb2_some, zb3_some, zb4_some, zb5_some, zb6_some, zb7_some, zb8_some, zlet_eq, if_pos, if_neg, pk_us, pk_un, true_and, and_true, true_or, or_true, ↓reduceIte]⟩
theorem zidx_inj {w x y x' y' : Nat} (hx : x < w) (hx' : x' < w) (h : y * w + x = y' * w + x') : x = x' ∧ y = y' := by
  have h1 : (y * w + x) % w = x := by rw [Nat.mul_comm, Nat.mul_add_mod]; exact Nat.mod_eq_of_lt hx
  have h2 : (y' * w + x') % w = x' := by rw [Nat.mul_comm, Nat.mul_add_mod]; exact Nat.mod_eq_of_lt hx'
  have e : x = x' := by rw [← h1, ← h2, h]
  refine ⟨e, ?_⟩
  subst e
  have h3 : y * w = y' * w := by omega
  exact Nat.eq_of_mul_eq_mul_right (by omega) h3
theorem zput9 {x y : Nat} {v : Int32} (hx : x < 8) (hy : y < 8) (a : Nat → Int32) : fX9_put_14 1000 a (nI x) (nI y) v (nI 0) = some (nI 1, fun j => if 4 * (8 * y + x) ≤ j ∧ j < 4 * (8 * y + x) + 4 then nI (zch v (j - 4 * (8 * y + x))) else a j) := by
  have step : ∀ (n k : Nat) (g : Nat → Int32), k ≤ 4 → 4 - k < n → fX9_put_14 n g (nI x) (nI y) v (nI k) = some (nI 1, fun j => if 4 * (8 * y + x) + k ≤ j ∧ j < 4 * (8 * y + x) + 4 then nI (zch v (j - 4 * (8 * y + x))) else g j) := by
    intro n
    induction n with
    | zero => intro k g h1 h2; omega
    | succ n ih =>
      intro k g h1 h2
      rw [fX9_put_14_s]
      by_cases c : 4 ≤ k
      · simp (disch := omega) only [zlit, nI_lt_nI, nI_le_nI, nI_eq_nI, nI_add, pk_mul, pk_sub, pk_div, zrem_nI, zrd_nI, zwr_nI, zb1_some, zb2_some, zb3_some, zb4_some, zb5_some, zb6_some, zb7_some, zb8_some, zlet_eq, if_pos, if_neg, pk_us, pk_un, true_and, and_true, true_or, or_true, ↓reduceIte]
      · simp (disch := omega) only [zlit, nI_lt_nI, nI_le_nI, nI_eq_nI, nI_add, pk_mul, pk_sub, pk_div, zrem_nI, zrd_nI, zwr_nI, zb1_some, zb2_some, zb3_some, zb4_some, zb5_some, zb6_some, zb7_some, zb8_some, zlet_eq, if_pos, if_neg, pk_us, pk_un, true_and, and_true, true_or, or_true, ↓reduceIte, zush]
        rw [ih (k + 1) _ (by omega) (by omega)]
        congr 2
        funext j
        by_cases hj : j = 4 * (8 * y + x) + k
        · subst hj
          rw [if_neg (by omega), if_pos (by omega), pk_us, show 4 * (8 * y + x) + k - 4 * (8 * y + x) = k by omega]
        · by_cases hj2 : 4 * (8 * y + x) + k ≤ j ∧ j < 4 * (8 * y + x) + 4
          · rw [if_pos (by omega), if_pos hj2]
          · rw [if_neg (by omega), if_neg hj2, pk_un hj]
  exact step 1000 0 a (by decide) (by decide)
theorem zo_put {w h : Nat} {px rn : Nat → Int32} (hP : zPic w h px rn) (hw : w ≤ 8) (hh : h ≤ 8) (a b v : Int32) :
    ∃ (r : Int32) (px' rn' : Nat → Int32), fX8_put (nI w) (nI h) px a b v = some (r, px') ∧ fX9_put (nI w) (nI h) rn a b v = some (r, rn') ∧ zPic w h px' rn' := by
  unfold fX8_put fX9_put
  rcases zhas hw hh a b with ⟨e1, e2⟩ | ⟨x, y, hx, hy, rfl, rfl, e1, e2⟩
  · rw [e1, e2]
    exact ⟨nI 0, px, rn, by simp (disch := omega) only [zlit, nI_lt_nI, nI_le_nI, nI_eq_nI, nI_add, pk_mul, pk_sub, pk_div, zrem_nI, zrd_nI, zwr_nI, zb1_some, zb2_some, zb3_some, zb4_some, zb5_some, zb6_some, zb7_some, zb8_some, zlet_eq, if_pos, if_neg, pk_us, pk_un, true_and, and_true, true_or, or_true, ↓reduceIte], by simp (disch := omega) only [zlit, nI_lt_nI, nI_le_nI, nI_eq_nI, nI_add, pk_mul, pk_sub, pk_div, zrem_nI, zrd_nI, zwr_nI, zb1_some, zb2_some, zb3_some, zb4_some, zb5_some, zb6_some, zb7_some, zb8_some, zlet_eq, if_pos, if_neg, pk_us, pk_un, true_and, and_true, true_or, or_true, ↓reduceIte], hP⟩
  · rw [e1, e2]
    have hi := zidx hw hh hx hy
    have h9 := @zput9 x y v (by omega) (by omega) rn
    refine ⟨nI 1, upd px (y * w + x) v, _, by unfold fX5_set; simp (disch := omega) only [zlit, nI_lt_nI, nI_le_nI, nI_eq_nI, nI_add, pk_mul, pk_sub, pk_div, zrem_nI, zrd_nI, zwr_nI, zb1_some, zb2_some, zb3_some, zb4_some, zb5_some, zb6_some, zb7_some, zb8_some, zlet_eq, if_pos, if_neg, pk_us, pk_un, true_and, and_true, true_or, or_true, ↓reduceIte], by simp (disch := omega) only [zlit, nI_lt_nI, nI_le_nI, nI_eq_nI, nI_add, pk_mul, pk_sub, pk_div, zrem_nI, zrd_nI, zwr_nI, zb1_some, zb2_some, zb3_some, zb4_some, zb5_some, zb6_some, zb7_some, zb8_some, zlet_eq, if_pos, if_neg, pk_us, pk_un, true_and, and_true, true_or, or_true, ↓reduceIte]; exact h9, ?_⟩
    intro x' y' c hx' hy' hc
    show (if 4 * (8 * y + x) ≤ 4 * (8 * y' + x') + c ∧ 4 * (8 * y' + x') + c < 4 * (8 * y + x) + 4 then nI (zch v (4 * (8 * y' + x') + c - 4 * (8 * y + x))) else rn (4 * (8 * y' + x') + c)) = _
    by_cases hs : x' = x ∧ y' = y
    · obtain ⟨rfl, rfl⟩ := hs
      rw [if_pos (by omega), pk_us, show 4 * (8 * y' + x') + c - 4 * (8 * y' + x') = c by omega]
    · have hne : y' * w + x' ≠ y * w + x := fun q => hs (zidx_inj hx' hx q)
      rw [if_neg (by omega), pk_un hne]
      exact hP x' y' c hx' hy' hc
theorem zo_pixel {w h : Nat} {px rn : Nat → Int32} (hP : zPic w h px rn) (hw : w ≤ 8) (hh : h ≤ 8) (a b : Int32) :
    ∃ r : Int32, fX8_pixel (nI w) (nI h) px a b = some r ∧ fX9_pixel (nI w) (nI h) rn a b = some r := by
  unfold fX8_pixel fX9_pixel
  rcases zhas hw hh a b with ⟨e1, e2⟩ | ⟨x, y, hx, hy, rfl, rfl, e1, e2⟩
  · rw [e1]
    exact ⟨nI 0, by simp (disch := omega) only [zlit, nI_lt_nI, nI_le_nI, nI_eq_nI, nI_add, pk_mul, pk_sub, pk_div, zrem_nI, zrd_nI, zwr_nI, zb1_some, zb2_some, zb3_some, zb4_some, zb5_some, zb6_some, zb7_some, zb8_some, zlet_eq, if_pos, if_neg, pk_us, pk_un, true_and, and_true, true_or, or_true, ↓reduceIte], by rw [fX9_pixel_5_s, e2]; simp (disch := omega) only [zlit, nI_lt_nI, nI_le_nI, nI_eq_nI, nI_add, pk_mul, pk_sub, pk_div, zrem_nI, zrd_nI, zwr_nI, zb1_some, zb2_some, zb3_some, zb4_some, zb5_some, zb6_some, zb7_some, zb8_some, zlet_eq, if_pos, if_neg, pk_us, pk_un, true_and, and_true, true_or, or_true, ↓reduceIte]⟩
  · have hi := zidx hw hh hx hy
    rw [e1]
    unfold fX5_at
    have step : ∀ (n k : Nat) (q : Nat), k < 4 → fX9_pixel_5 (n + 1) (nI w) (nI h) rn (nI x) (nI y) (nI q) (nI k) = fX9_pixel_5 n (nI w) (nI h) rn (nI x) (nI y) (nI (256 * q + zch (px (y * w + x)) k)) (nI (k + 1)) := by
      intro n k q hk
      rw [fX9_pixel_5_s, e2]
      simp (disch := omega) only [zlit, nI_lt_nI, nI_le_nI, nI_eq_nI, nI_add, pk_mul, pk_sub, pk_div, zrem_nI, zrd_nI, zwr_nI, zb1_some, zb2_some, zb3_some, zb4_some, zb5_some, zb6_some, zb7_some, zb8_some, zlet_eq, if_pos, if_neg, pk_us, pk_un, true_and, and_true, true_or, or_true, ↓reduceIte, hP x y k hx hy hk]
    have h0 := step 999 0 0 (by decide)
    have h1 := step 998 1 (256 * 0 + zch (px (y * w + x)) 0) (by decide)
    have h2 := step 997 2 (256 * (256 * 0 + zch (px (y * w + x)) 0) + zch (px (y * w + x)) 1) (by decide)
    have h3 := step 996 3 (256 * (256 * (256 * 0 + zch (px (y * w + x)) 0) + zch (px (y * w + x)) 1) + zch (px (y * w + x)) 2) (by decide)
    refine ⟨px (y * w + x), by simp (disch := omega) only [zlit, nI_lt_nI, nI_le_nI, nI_eq_nI, nI_add, pk_mul, pk_sub, pk_div, zrem_nI, zrd_nI, zwr_nI, zb1_some, zb2_some, zb3_some, zb4_some, zb5_some, zb6_some, zb7_some, zb8_some, zlet_eq, if_pos, if_neg, pk_us, pk_un, true_and, and_true, true_or, or_true, ↓reduceIte], ?_⟩
    refine h0.trans (h1.trans (h2.trans (h3.trans ?_)))
    rw [fX9_pixel_5_s]
    simp (disch := omega) only [zlit, nI_lt_nI, nI_le_nI, nI_eq_nI, nI_add, pk_mul, pk_sub, pk_div, zrem_nI, zrd_nI, zwr_nI, zb1_some, zb2_some, zb3_some, zb4_some, zb5_some, zb6_some, zb7_some, zb8_some, zlet_eq, if_pos, if_neg, pk_us, pk_un, true_and, and_true, true_or, or_true, ↓reduceIte, Nat.mul_zero, Nat.zero_add]
    exact congrArg some (zch_pack _).symm
