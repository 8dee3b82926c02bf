/-! The fourth format's pixels. -/
def zix4 (up mir : Bool) (w h k : Nat) : Nat := (if up = true then k / w else h - 1 - k / w) * w + (if mir = true then w - 1 - k % w else k % w)
theorem zix4_eq {up mir : Bool} {w h x y : Nat} (hx : x < w) : zix4 up mir w h (y * w + x) = (if up = true then y else h - 1 - y) * w + (if mir = true then w - 1 - x else x) := by
  unfold zix4
  rw [show (y * w + x) / w = y by rw [Nat.mul_comm y w, Nat.mul_add_div (by omega), Nat.div_eq_of_lt hx, Nat.add_zero], show (y * w + x) % w = x by rw [Nat.mul_comm y w, Nat.mul_add_mod, Nat.mod_eq_of_lt hx]]
theorem zyx_lt {w h x y : Nat} (hx : x < w) (hy : y < h) : y * w + x < w * h := by
  have : y * w + w ≤ h * w := by
    rw [← Nat.succ_mul]
    exact Nat.mul_le_mul_right w hy
  rw [Nat.mul_comm w h]
  omega
theorem zix4_lt {up mir : Bool} {w h k : Nat} (hk : k < w * h) : zix4 up mir w h k < w * h := by
  obtain ⟨d1, d2, d3, d4⟩ := zdm hk
  unfold zix4
  generalize k / w = q at d3 d4 ⊢
  generalize k % w = r at d2 d4 ⊢
  cases up <;> cases mir
  · exact zyx_lt (by simp only [Bool.false_eq_true, ↓reduceIte]; omega) (by simp only [Bool.false_eq_true, ↓reduceIte]; omega)
  · exact zyx_lt (by simp only [↓reduceIte]; omega) (by simp only [Bool.false_eq_true, ↓reduceIte]; omega)
  · exact zyx_lt (by simp only [Bool.false_eq_true, ↓reduceIte]; omega) (by simp only [↓reduceIte]; omega)
  · exact zyx_lt (by simp only [↓reduceIte]; omega) (by simp only [↓reduceIte]; omega)
theorem zix4_inv {up mir : Bool} {w h k : Nat} (hk : k < w * h) : zix4 up mir w h (zix4 up mir w h k) = k := by
  obtain ⟨d1, d2, d3, d4⟩ := zdm hk
  have e : zix4 up mir w h k = (if up = true then k / w else h - 1 - k / w) * w + (if mir = true then w - 1 - k % w else k % w) := rfl
  rw [e, zix4_eq (by cases mir <;> simp <;> omega)]
  clear e
  generalize k / w = q at d3 d4 ⊢
  generalize k % w = r at d2 d4 ⊢
  cases up <;> cases mir
  · simp only [Bool.false_eq_true, ↓reduceIte]
    rw [show h - 1 - (h - 1 - q) = q by omega]
    exact d4
  · simp only [Bool.false_eq_true, ↓reduceIte]
    rw [show h - 1 - (h - 1 - q) = q by omega, show w - 1 - (w - 1 - r) = r by omega]
    exact d4
  · simp only [Bool.false_eq_true, ↓reduceIte]
    exact d4
  · simp only [↓reduceIte]
    rw [show w - 1 - (w - 1 - r) = r by omega]
    exact d4
theorem z224 {w h k v c : Nat} {n a l2 l3 l5 l7 l8 p : Int32} {rf fr one : Nat → Int32} (hw : w ≤ 8) (hh : h ≤ 8) (hk : k < w * h) (hv : v < 64) (hc : c < 1000) (ho : zLa p one) (rc : Int32 → Int32 → Int32 → Int32 → Int32 → (Nat → Int32) → (Nat → Int32) → (Nat → Int32) → Int32 → Int32 → Int32 → Int32 → Int32 → Option (Int32 × Int32 × Int32 × Int32 × (Nat → Int32) × (Nat → Int32))) (rd : Int32 → Int32 → Int32 → Int32 → Int32 → (Nat → Int32) → (Nat → Int32) → (Nat → Int32) → Int32 → Int32 → Int32 → Int32 → Int32 → Int32 → Int32 → Int32 → Option (Int32 × Int32 × Int32 × Int32 × (Nat → Int32) × (Nat → Int32))) :
    ∃ fr', fX9_readFourth_224 rc rd n a (nI 0) (nI w) (nI h) rf fr one l2 l3 (nI v) l5 (nI k) l7 l8 (nI c) = rd n a (nI 0) (nI w) (nI h) rf fr' one l2 l3 (nI v) l5 (nI (k + 1)) l7 l8 (nI (c + 1)) ∧ ∀ (D : Nat → Prop) (dp : Nat → Int32), zPd w D dp fr → zPd w (fun j => D j ∨ j = zix4 (decide (v / 32 % 2 = 1)) (decide (v / 16 % 2 = 1)) w h k) (upd dp (zix4 (decide (v / 32 % 2 = 1)) (decide (v / 16 % 2 = 1)) w h k) p) fr' := by
  obtain ⟨d1, d2, d3, d4⟩ := zdm hk
  have hs := zmul64 hw hh
  obtain ⟨fr', g1, g2⟩ := zPd_set (fr := fr) hw hh (zix4_lt (up := decide (v / 32 % 2 = 1)) (mir := decide (v / 16 % 2 = 1)) hk) ho
  have s1 : nI h - nI 1 - nI (k / w) = nI (h - 1 - k / w) := by
    clear g1 g2 d4
    generalize k / w = q at d3 ⊢
    rw [pk_sub (by omega), pk_sub (by omega)]
  refine ⟨fr', ?_, g2⟩
  unfold fX9_readFourth_224 fX9_readFourth_259 fX9_readFourth_296
  unfold zix4 at g1
  by_cases c1 : v / 32 % 2 = 1
  · rw [decide_eq_true c1] at g1
    by_cases c2 : v / 16 % 2 = 1
    · rw [decide_eq_true c2] at g1
      simp only [↓reduceIte] at g1
      rw [Nat.mul_comm (k / w) w] at g1
      simp (disch := omega) only [zlit, nI_lt_nI, nI_le_nI, nI_eq_nI, nI_add, pk_mul, pk_sub, pk_div, zrem_nI, zrd_nI, zwr_nI, zb1_some, zb2_some, zb3_some, zb4_some, zb5_some, zb6_some, zb7_some, zb8_some, zlet_eq, if_pos, if_neg, pk_us, pk_un, true_and, and_true, true_or, or_true, ↓reduceIte, znz_w, s1, g1]
    · rw [decide_eq_false c2] at g1
      simp only [↓reduceIte, Bool.false_eq_true] at g1
      rw [Nat.mul_comm (k / w) w] at g1
      simp (disch := omega) only [zlit, nI_lt_nI, nI_le_nI, nI_eq_nI, nI_add, pk_mul, pk_sub, pk_div, zrem_nI, zrd_nI, zwr_nI, zb1_some, zb2_some, zb3_some, zb4_some, zb5_some, zb6_some, zb7_some, zb8_some, zlet_eq, if_pos, if_neg, pk_us, pk_un, true_and, and_true, true_or, or_true, ↓reduceIte, znz_w, s1, g1]
  · rw [decide_eq_false c1] at g1
    by_cases c2 : v / 16 % 2 = 1
    · rw [decide_eq_true c2] at g1
      simp only [↓reduceIte, Bool.false_eq_true] at g1
      rw [Nat.mul_comm (h - 1 - k / w) w] at g1
      simp (disch := omega) only [zlit, nI_lt_nI, nI_le_nI, nI_eq_nI, nI_add, pk_mul, pk_sub, pk_div, zrem_nI, zrd_nI, zwr_nI, zb1_some, zb2_some, zb3_some, zb4_some, zb5_some, zb6_some, zb7_some, zb8_some, zlet_eq, if_pos, if_neg, pk_us, pk_un, true_and, and_true, true_or, or_true, ↓reduceIte, znz_w, s1, g1]
    · rw [decide_eq_false c2] at g1
      simp only [↓reduceIte, Bool.false_eq_true] at g1
      rw [Nat.mul_comm (h - 1 - k / w) w] at g1
      simp (disch := omega) only [zlit, nI_lt_nI, nI_le_nI, nI_eq_nI, nI_add, pk_mul, pk_sub, pk_div, zrem_nI, zrd_nI, zwr_nI, zb1_some, zb2_some, zb3_some, zb4_some, zb5_some, zb6_some, zb7_some, zb8_some, zlet_eq, if_pos, if_neg, pk_us, pk_un, true_and, and_true, true_or, or_true, ↓reduceIte, znz_w, s1, g1]
theorem zF117 {F n a w h l2 l3 l4 l5 l6 : Int32} {rf fr one : Nat → Int32} {f : Nat} (hF : (F = nI 0) = False) : zS F (fX9_readFourth_117 (f + 1) n a F w h rf fr one l2 l3 l4 l5 l6) := by
  rw [fX9_readFourth_117_s]
  simp only [zlit, hF, ↓reduceIte]
  exact zS_mk
theorem zF192 {F n a w h l2 l3 l4 l5 l6 l7 l8 l9 : Int32} {rf fr one : Nat → Int32} {f f2 : Nat} (hF : (F = nI 0) = False) : zS F (fX9_readFourth_192 (fX9_readFourth_117 (f + 1)) (f2 + 1) n a F w h rf fr one l2 l3 l4 l5 l6 l7 l8 l9) := by
  rw [fX9_readFourth_192_s]
  unfold fX9_readFourth_321
  simp only [zlit, hF, ↓reduceIte]
  exact zS_ite (zF117 hF) (zF117 hF)
theorem zF224 {F n a h l2 l3 l4 l5 l6 l7 l8 l9 : Int32} {w : Nat} {rf fr one : Nat → Int32} {f f2 : Nat} (hF : (F = nI 0) = False) (hw1 : 1 ≤ w) (hw : w ≤ 8) : zS F (fX9_readFourth_224 (fX9_readFourth_117 (f + 1)) (fX9_readFourth_192 (fX9_readFourth_117 (f + 1)) (f2 + 1)) n a F (nI w) h rf fr one l2 l3 l4 l5 l6 l7 l8 l9) := by
  unfold fX9_readFourth_224 fX9_readFourth_259 fX9_readFourth_296
  simp only [znz_w hw1 (show w < 2 ^ 31 by omega), zsetF hF, zb1_some, zlet_eq]
  exact zS_ite (zS_ite (zF192 hF) (zF192 hF)) (zS_ite (zF192 hF) (zF192 hF))
/-- where the reference stands when the class is about to read a pixel -/
def zV (n w h N v ty : Nat) (rf : Nat → Int32) (k left : Nat) (rep held : Int32) (a : Nat) (fr one : Nat → Int32) (T : Option (Int32 × Int32 × Int32 × Int32 × (Nat → Int32) × (Nat → Int32))) : Prop :=
  (ty ≤ 9 ∧ left = w * h - k ∧ rep = nI 0 ∧ ∃ f, w * h - k + 1 < f ∧ T = fX9_readFourth_117 f (nI n) (nI a) (nI 0) (nI w) (nI h) rf fr one (nI ty) (nI N) (nI v) (nI (w * h)) (nI k)) ∨
  (9 < ty ∧ left = 0 ∧ ∃ f, w * h - k + 1 < f ∧ T = fX9_readFourth_117 f (nI n) (nI a) (nI 0) (nI w) (nI h) rf fr one (nI ty) (nI N) (nI v) (nI (w * h)) (nI k)) ∨
  (9 < ty ∧ 0 < left ∧ k + left ≤ w * h ∧ ∃ f f2 m c, w * h - (k + left) + 1 < f ∧ left < f2 ∧ 1 ≤ c ∧ m < 256 ∧ c + left < 1000 ∧ T = fX9_readFourth_192 (fX9_readFourth_117 f) f2 (nI n) (nI a) (nI 0) (nI w) (nI h) rf fr one (nI ty) (nI N) (nI v) (nI (w * h)) (nI k) (nI m) (nI (c + left)) (nI c) ∧ ((128 ≤ m ∧ rep = nI 1 ∧ zLa held one) ∨ (m < 128 ∧ rep = nI 0)))
theorem zadv4 {n w h N v ty k left a f f2 m c : Nat} {rf fr one : Nat → Int32} {rep held : Int32} {T : Option (Int32 × Int32 × Int32 × Int32 × (Nat → Int32) × (Nat → Int32))} (hty : 9 < ty) (hl : 0 < left) (hk : k + left ≤ w * h) (hs : w * h ≤ 64) (hf : w * h - (k + left) + 1 < f) (hf2 : left ≤ f2) (hm : m < 256) (hc : c + left < 1000) (hT : T = fX9_readFourth_192 (fX9_readFourth_117 f) f2 (nI n) (nI a) (nI 0) (nI w) (nI h) rf fr one (nI ty) (nI N) (nI v) (nI (w * h)) (nI (k + 1)) (nI m) (nI (c + left)) (nI (c + 1))) (hr : (128 ≤ m ∧ rep = nI 1 ∧ zLa held one) ∨ (m < 128 ∧ rep = nI 0)) : zV n w h N v ty rf (k + 1) (left - 1) rep held a fr one T := by
  by_cases q : left = 1
  · subst q
    refine Or.inr (Or.inl ⟨hty, rfl, f, by omega, ?_⟩)
    obtain ⟨f2, rfl⟩ : ∃ m, f2 = m + 1 := ⟨f2 - 1, by omega⟩
    rw [hT, fX9_readFourth_192_s]
    unfold fX9_readFourth_321
    simp (disch := omega) only [zlit, nI_lt_nI, nI_le_nI, nI_eq_nI, nI_add, pk_mul, pk_sub, pk_div, zrem_nI, zrd_nI, zwr_nI, zb1_some, zb2_some, zb3_some, zb4_some, zb5_some, zb6_some, zb7_some, zb8_some, zlet_eq, if_pos, if_neg, pk_us, pk_un, true_and, and_true, true_or, or_true, ↓reduceIte]
  · refine Or.inr (Or.inr ⟨hty, by omega, by omega, f, f2, m, c + 1, ?_, by omega, by omega, hm, by omega, ?_, hr⟩)
    · rw [show k + 1 + (left - 1) = k + left by omega]
      exact hf
    · rw [show c + 1 + (left - 1) = c + left by omega]
      exact hT
theorem z219 {w h k v c N n a m l8 f f2 : Nat} {l2 l5 : Int32} {fb rf fr one : Nat → Int32} {B : Nat → Nat} (hw1 : 1 ≤ w) (hw : w ≤ 8) (hh : h ≤ 8) (hn : n ≤ 800) (hB : zByt n fb B) (hB' : zByt n rf B) (ha : a ≤ n) (hN : N = 1 ∨ N = 3 ∨ N = 4) (hk : k < w * h) (hv : v < 64) (hc : c < 1000) :
    (∃ (p : Int32) (a' : Nat) (fr' one' : Nat → Int32), fX4_readPixel (nI (8 * N)) (nI a) (nI n) fb = some (0, p, nI a') ∧ a' ≤ n ∧ zLa p one' ∧ fX9_readFourth_219 (fX9_readFourth_117 (f + 1)) (fX9_readFourth_192 (fX9_readFourth_117 (f + 1)) (f2 + 1)) (nI n) (nI a) (nI 0) (nI w) (nI h) rf fr one l2 (nI N) (nI v) l5 (nI k) (nI m) (nI l8) (nI c) = fX9_readFourth_192 (fX9_readFourth_117 (f + 1)) (f2 + 1) (nI n) (nI a') (nI 0) (nI w) (nI h) rf fr' one' l2 (nI N) (nI v) l5 (nI (k + 1)) (nI m) (nI l8) (nI (c + 1)) ∧ ∀ (D : Nat → Prop) (dp : Nat → Int32), zPd w D dp fr → zPd w (fun j => D j ∨ j = zix4 (decide (v / 32 % 2 = 1)) (decide (v / 16 % 2 = 1)) w h k) (upd dp (zix4 (decide (v / 32 % 2 = 1)) (decide (v / 16 % 2 = 1)) w h k) p) fr') ∨
    (∃ x, fX4_readPixel (nI (8 * N)) (nI a) (nI n) fb = some (1, x) ∧ zS (-(nI 2)) (fX9_readFourth_219 (fX9_readFourth_117 (f + 1)) (fX9_readFourth_192 (fX9_readFourth_117 (f + 1)) (f2 + 1)) (nI n) (nI a) (nI 0) (nI w) (nI h) rf fr one l2 (nI N) (nI v) l5 (nI k) (nI m) (nI l8) (nI c))) := by
  unfold fX9_readFourth_219
  rcases zsmp (one := one) hn hB hB' ha hN with ⟨p, a', one', e1, e2, e3, e4⟩ | ⟨x, b, one', e1, e2⟩
  · obtain ⟨fr', g1, g2⟩ := z224 (n := nI n) (a := nI a') (l2 := l2) (l3 := nI N) (l5 := l5) (l7 := nI m) (l8 := nI l8) (rf := rf) (fr := fr) hw hh hk hv hc e4 (fX9_readFourth_117 (f + 1)) (fX9_readFourth_192 (fX9_readFourth_117 (f + 1)) (f2 + 1))
    refine Or.inl ⟨p, a', fr', one', e1, e3, e4, ?_, g2⟩
    rw [zb3_of e2]
    exact g1
  · refine Or.inr ⟨x, e1, ?_⟩
    rw [zb3_of e2]
    exact zF224 zn2 hw1 hw
theorem zpx4 {n w h N v ty k left a : Nat} {rep held : Int32} {fb rf fr one : Nat → Int32} {B : Nat → Nat} {T : Option (Int32 × Int32 × Int32 × Int32 × (Nat → Int32) × (Nat → Int32))} (hw1 : 1 ≤ w) (hw : w ≤ 8) (hh : h ≤ 8) (hn : n ≤ 800) (hB : zByt n fb B) (hB' : zByt n rf B) (ha : a ≤ n) (hN : N = 1 ∨ N = 3 ∨ N = 4) (hk : k < w * h) (hv : v < 64) (hty : ty < 256) (hV : zV n w h N v ty rf k left rep held a fr one T) :
    (∃ (t : Nat) (x : Int32 × Int32 × Int32 × Int32 × Int32), (t = 1 ∨ t = 2) ∧ fX4_nextPixel (nI (8 * N)) (nI left) rep held (nI a) (nI n) fb (nI (w * h - k)) = some (t, x) ∧ zS (zft t) T) ∨
    (∃ (p : Int32) (left' : Nat) (rep' held' : Int32) (a' : Nat) (fr' one' : Nat → Int32), fX4_nextPixel (nI (8 * N)) (nI left) rep held (nI a) (nI n) fb (nI (w * h - k)) = some (0, p, nI left', rep', held', nI a') ∧ a' ≤ n ∧ zV n w h N v ty rf (k + 1) left' rep' held' a' fr' one' T ∧ ∀ (D : Nat → Prop) (dp : Nat → Int32), zPd w D dp fr → zPd w (fun j => D j ∨ j = zix4 (decide (v / 32 % 2 = 1)) (decide (v / 16 % 2 = 1)) w h k) (upd dp (zix4 (decide (v / 32 % 2 = 1)) (decide (v / 16 % 2 = 1)) w h k) p) fr') := by
  have hs := zmul64 hw hh
  unfold fX4_nextPixel fX4_nextPixel_12 fX4_nextPixel_23 fX4_nextPixel_44
  simp only [zlit]
  rcases hV with ⟨t1, t2, t3, f, t4, t5⟩ | ⟨t1, t2, f, t4, t5⟩ | ⟨t1, t2, t3, f, f2, m, c, t4, t5, t6, t7, t8, t9, t10⟩
  · subst t3
    obtain ⟨f, rfl⟩ : ∃ m, f = m + 2 := ⟨f - 2, by omega⟩
    have R : T = fX9_readFourth_219 (fX9_readFourth_117 (f + 1)) (fX9_readFourth_192 (fX9_readFourth_117 (f + 1)) 999) (nI n) (nI a) (nI 0) (nI w) (nI h) rf fr one (nI ty) (nI N) (nI v) (nI (w * h)) (nI k) (nI 128) (nI 1) (nI 0) := by
      rw [t5, fX9_readFourth_117_s]
      unfold fX9_readFourth_147 fX9_readFourth_168 fX9_readFourth_186
      simp (disch := omega) only [zlit, nI_lt_nI, nI_le_nI, nI_eq_nI, nI_add, pk_mul, pk_sub, pk_div, zrem_nI, zrd_nI, zwr_nI, zb1_some, zb2_some, zb3_some, zb4_some, zb5_some, zb6_some, zb7_some, zb8_some, zlet_eq, if_pos, if_neg, pk_us, pk_un, true_and, and_true, true_or, or_true, ↓reduceIte, zbrok0]
      rw [fX9_readFourth_192_s]
      simp (disch := omega) only [zlit, nI_lt_nI, nI_le_nI, nI_eq_nI, nI_add, pk_mul, pk_sub, pk_div, zrem_nI, zrd_nI, zwr_nI, zb1_some, zb2_some, zb3_some, zb4_some, zb5_some, zb6_some, zb7_some, zb8_some, zlet_eq, if_pos, if_neg, pk_us, pk_un, true_and, and_true, true_or, or_true, ↓reduceIte]
    have hl0 : ¬ (nI left = nI 0) := by rw [nI_eq_nI (by omega) (by decide)]; omega
    rw [if_neg hl0, if_pos trivial, zlet_eq, if_pos trivial, if_pos rfl, pk_sub (show 1 ≤ left by omega)]
    rcases z219 (f := f) (f2 := 998) (m := 128) (l8 := 1) (c := 0) (l2 := nI ty) (l5 := nI (w * h)) (fr := fr) (one := one) hw1 hw hh hn hB hB' ha hN hk hv (by decide) with ⟨p, a', fr', one', e1, e2, e3, e4, e5⟩ | ⟨x, e1, e2⟩
    · refine Or.inr ⟨p, left - 1, nI 0, p, a', fr', one', ?_, e2, ?_, e5⟩
      · rw [zb3_of e1, if_pos rfl]
      · refine Or.inl ⟨t1, by omega, rfl, f + 1, by omega, ?_⟩
        rw [R, e4, fX9_readFourth_192_s]
        unfold fX9_readFourth_321
        simp (disch := omega) only [zlit, nI_lt_nI, nI_le_nI, nI_eq_nI, nI_add, pk_mul, pk_sub, pk_div, zrem_nI, zrd_nI, zwr_nI, zb1_some, zb2_some, zb3_some, zb4_some, zb5_some, zb6_some, zb7_some, zb8_some, zlet_eq, if_pos, if_neg, pk_us, pk_un, true_and, and_true, true_or, or_true, ↓reduceIte]
    · obtain ⟨x1, x2⟩ := x
      refine Or.inl ⟨1, (nI 0, nI (left - 1), nI 0, held, x2), Or.inl rfl, ?_, ?_⟩
      · rw [zb3_of e1, if_neg (by decide)]
      · rw [R]
        exact e2
  · subst t2
    obtain ⟨f, rfl⟩ : ∃ m, f = m + 2 := ⟨f - 2, by omega⟩
    rw [if_pos rfl, if_neg (by decide)]
    unfold fX4_openPacket fX4_openPacket_17 fX4_openPacket_38 fX4_openPacket_55
    simp only [zlit]
    by_cases q : a < n
    · have bv := hB.1 a
      rw [zb3_of (znext8 hn hB q), if_pos rfl]
      have go : ∀ (cnt : Nat) (rp : Int32), 1 ≤ cnt → cnt ≤ 128 → ((128 ≤ B a ∧ rp = nI 1) ∨ (B a < 128 ∧ rp = nI 0)) → (∀ z, fX9_readFourth_147 (fX9_readFourth_117 (f + 1)) (nI n) (nI (a + 1)) z (nI w) (nI h) rf fr one (nI ty) (nI N) (nI v) (nI (w * h)) (nI k) (nI (B a)) = fX9_readFourth_168 (fX9_readFourth_117 (f + 1)) (nI n) (nI (a + 1)) z (nI w) (nI h) rf fr one (nI ty) (nI N) (nI v) (nI (w * h)) (nI k) (nI (B a)) (nI cnt)) →
          ((∃ (t : Nat) (x : Int32 × Int32 × Int32 × Int32 × Int32), (t = 1 ∨ t = 2) ∧ (zb4 (if nI (w * h - k) < nI cnt then zb1 (fX7_need (nI 0)) fun tg1 => if tg1 = 0 then some (0, nI cnt, rp, nI (a + 1)) else some (tg1, nI cnt, rp, nI (a + 1)) else zb1 (fX7_need (nI 1)) fun tg1 => if tg1 = 0 then some (0, nI cnt, rp, nI (a + 1)) else some (tg1, nI cnt, rp, nI (a + 1))) fun tg2 u3 u4 u5 => if tg2 = 0 then zlet (u3 - nI 1) fun x1 => if nI 1 = nI 0 then if u4 = nI 0 then zb3 (fX4_readPixel (nI (8 * N)) u5 (nI n) fb) fun tg1 r2 u3 => if tg1 = 0 then some (0, r2, x1, u4, r2, u3) else some (tg1, nI 0, x1, u4, held, u3) else some (0, held, x1, u4, held, u5) else zb3 (fX4_readPixel (nI (8 * N)) u5 (nI n) fb) fun tg1 r2 u3 => if tg1 = 0 then some (0, r2, x1, u4, r2, u3) else some (tg1, nI 0, x1, u4, held, u3) else some (tg2, nI 0, u3, u4, held, u5)) = some (t, x) ∧ zS (zft t) T) ∨
          (∃ (p : Int32) (left' : Nat) (rep' held' : Int32) (a' : Nat) (fr' one' : Nat → Int32), (zb4 (if nI (w * h - k) < nI cnt then zb1 (fX7_need (nI 0)) fun tg1 => if tg1 = 0 then some (0, nI cnt, rp, nI (a + 1)) else some (tg1, nI cnt, rp, nI (a + 1)) else zb1 (fX7_need (nI 1)) fun tg1 => if tg1 = 0 then some (0, nI cnt, rp, nI (a + 1)) else some (tg1, nI cnt, rp, nI (a + 1))) fun tg2 u3 u4 u5 => if tg2 = 0 then zlet (u3 - nI 1) fun x1 => if nI 1 = nI 0 then if u4 = nI 0 then zb3 (fX4_readPixel (nI (8 * N)) u5 (nI n) fb) fun tg1 r2 u3 => if tg1 = 0 then some (0, r2, x1, u4, r2, u3) else some (tg1, nI 0, x1, u4, held, u3) else some (0, held, x1, u4, held, u5) else zb3 (fX4_readPixel (nI (8 * N)) u5 (nI n) fb) fun tg1 r2 u3 => if tg1 = 0 then some (0, r2, x1, u4, r2, u3) else some (tg1, nI 0, x1, u4, held, u3) else some (tg2, nI 0, u3, u4, held, u5)) = some (0, p, nI left', rep', held', nI a') ∧ a' ≤ n ∧ zV n w h N v ty rf (k + 1) left' rep' held' a' fr' one' T ∧ ∀ (D : Nat → Prop) (dp : Nat → Int32), zPd w D dp fr → zPd w (fun j => D j ∨ j = zix4 (decide (v / 32 % 2 = 1)) (decide (v / 16 % 2 = 1)) w h k) (upd dp (zix4 (decide (v / 32 % 2 = 1)) (decide (v / 16 % 2 = 1)) w h k) p) fr')) := by
        intro cnt rp h1 h2 hrp h147
        have T1 : T = fX9_readFourth_168 (fX9_readFourth_117 (f + 1)) (nI n) (nI (a + 1)) (nI 0) (nI w) (nI h) rf fr one (nI ty) (nI N) (nI v) (nI (w * h)) (nI k) (nI (B a)) (nI cnt) := by
          rw [t5, fX9_readFourth_117_s]
          simp (disch := omega) only [zlit, nI_lt_nI, nI_le_nI, nI_eq_nI, nI_add, pk_mul, pk_sub, pk_div, zrem_nI, zrd_nI, zwr_nI, zb1_some, zb2_some, zb3_some, zb4_some, zb5_some, zb6_some, zb7_some, zb8_some, zlet_eq, if_pos, if_neg, pk_us, pk_un, true_and, and_true, true_or, or_true, ↓reduceIte, znext9 hn hB']
          exact h147 (nI 0)
        unfold fX9_readFourth_168 fX9_readFourth_186 at T1
        simp only [zlit] at T1
        rw [pk_sub (show k ≤ w * h by omega)] at T1
        by_cases d : cnt ≤ w * h - k
        · rw [if_neg (by rw [nI_lt_nI (by omega) (by omega)]; omega), zb1_of zneed1, if_pos rfl, zb4_some, if_pos rfl, zlet_eq, if_neg (by decide), pk_sub h1]
          rw [if_pos (by rw [nI_le_nI (by omega) (by omega)]; exact d), zb1_of zbrok0, fX9_readFourth_192_s] at T1
          simp (disch := omega) only [zlit, nI_lt_nI, nI_le_nI, nI_eq_nI, nI_add, pk_mul, pk_sub, pk_div, zrem_nI, zrd_nI, zwr_nI, zb1_some, zb2_some, zb3_some, zb4_some, zb5_some, zb6_some, zb7_some, zb8_some, zlet_eq, if_pos, if_neg, pk_us, pk_un, true_and, and_true, true_or, or_true, ↓reduceIte] at T1
          rcases z219 (f := f) (f2 := 998) (m := B a) (l8 := cnt) (c := 0) (l2 := nI ty) (l5 := nI (w * h)) (fr := fr) (one := one) hw1 hw hh hn hB hB' (show a + 1 ≤ n by omega) hN hk hv (by decide) with ⟨p, a', fr', one', e1, e2, e3, e4, e5⟩ | ⟨x, e1, e2⟩
          · refine Or.inr ⟨p, cnt - 1, rp, p, a', fr', one', ?_, e2, ?_, e5⟩
            · rw [zb3_of e1, if_pos rfl]
            · refine zadv4 (f := f + 1) (f2 := 999) (m := B a) (c := 0) t1 (by omega) (by omega) hs (by omega) (by omega) bv (by omega) ?_ ?_
              · rw [Nat.zero_add]
                exact T1.trans e4
              · rcases hrp with ⟨z1, z2⟩ | ⟨z1, z2⟩
                · exact Or.inl ⟨z1, z2, e3⟩
                · exact Or.inr ⟨z1, z2⟩
          · obtain ⟨x1, x2⟩ := x
            refine Or.inl ⟨1, (nI 0, nI (cnt - 1), rp, held, x2), Or.inl rfl, ?_, ?_⟩
            · rw [zb3_of e1, if_neg (by decide)]
            · rw [T1]
              exact e2
        · rw [if_pos (by rw [nI_lt_nI (by omega) (by omega)]; omega), zb1_of zneed0, if_neg (by decide), zb4_some, if_neg (by decide)]
          rw [if_neg (by rw [nI_le_nI (by omega) (by omega)]; exact d), zb1_of zbrok1] at T1
          refine Or.inl ⟨2, (nI 0, nI cnt, rp, held, nI (a + 1)), Or.inr rfl, rfl, ?_⟩
          rw [T1]
          exact zF192 zn3
      by_cases d : B a ≤ 127
      · have zb0 : ∀ {α : Type} (o : Option α), zbo (nI 0) o = o := fun o => rfl
        rw [if_pos (by rw [nI_le_nI (by omega) (by decide)]; exact d), zb0, if_pos trivial, nI_add]
        refine go (B a + 1) (nI 0) (by omega) (by omega) (Or.inr ⟨by omega, rfl⟩) (fun z => ?_)
        unfold fX9_readFourth_147
        simp (disch := omega) only [zlit, nI_lt_nI, nI_le_nI, nI_eq_nI, nI_add, pk_mul, pk_sub, pk_div, zrem_nI, zrd_nI, zwr_nI, zb1_some, zb2_some, zb3_some, zb4_some, zb5_some, zb6_some, zb7_some, zb8_some, zlet_eq, if_pos, if_neg, pk_us, pk_un, true_and, and_true, true_or, or_true, ↓reduceIte]
      · have zb1' : ∀ {α : Type} (o : Option α), zbo (nI 1) o = o := fun o => rfl
        rw [if_neg (by rw [nI_le_nI (by omega) (by decide)]; exact d), zb1', if_neg (by decide), pk_sub (show 127 ≤ B a by omega)]
        refine go (B a - 127) (nI 1) (by omega) (by omega) (Or.inl ⟨by omega, rfl⟩) (fun z => ?_)
        unfold fX9_readFourth_147
        simp (disch := omega) only [zlit, nI_lt_nI, nI_le_nI, nI_eq_nI, nI_add, pk_mul, pk_sub, pk_div, zrem_nI, zrd_nI, zwr_nI, zb1_some, zb2_some, zb3_some, zb4_some, zb5_some, zb6_some, zb7_some, zb8_some, zlet_eq, if_pos, if_neg, pk_us, pk_un, true_and, and_true, true_or, or_true, ↓reduceIte]
    · have e : n = a := by omega
      refine Or.inl ⟨1, (nI 0, nI 0, rep, held, nI a), Or.inl rfl, ?_, ?_⟩
      · rw [zb3_of (znext8e hn e), if_neg (by decide), zb4_some, if_neg (by decide)]
      · rw [t5, fX9_readFourth_117_s]
        unfold fX9_readFourth_147 fX9_readFourth_168 fX9_readFourth_186
        simp (disch := omega) only [zlit, nI_lt_nI, nI_le_nI, nI_eq_nI, nI_add, pk_mul, pk_sub, pk_div, zrem_nI, zrd_nI, zwr_nI, zb1_some, zb2_some, zb3_some, zb4_some, zb5_some, zb6_some, zb7_some, zb8_some, zlet_eq, if_pos, if_neg, pk_us, pk_un, true_and, and_true, true_or, or_true, ↓reduceIte, znext9e hn e, zbrokF zn2]
        exact zF192 zn2
  · obtain ⟨f, rfl⟩ : ∃ m, f = m + 1 := ⟨f - 1, by omega⟩
    obtain ⟨f2, rfl⟩ : ∃ m, f2 = m + 2 := ⟨f2 - 2, by omega⟩
    have hl0 : ¬ (nI left = nI 0) := by rw [nI_eq_nI (by omega) (by decide)]; omega
    rw [if_neg hl0, if_pos trivial, zlet_eq, if_pos trivial, pk_sub (show 1 ≤ left by omega)]
    rw [fX9_readFourth_192_s] at t9
    rcases t10 with ⟨z1, z2, z3⟩ | ⟨z1, z2⟩
    · subst z2
      rw [if_neg (by decide)]
      obtain ⟨fr', g1, g2⟩ := z224 (c := c) (n := nI n) (a := nI a) (l2 := nI ty) (l3 := nI N) (l5 := nI (w * h)) (l7 := nI m) (l8 := nI (c + left)) (rf := rf) (fr := fr) hw hh hk hv (by omega) z3 (fX9_readFourth_117 (f + 1)) (fX9_readFourth_192 (fX9_readFourth_117 (f + 1)) (f2 + 1))
      refine Or.inr ⟨held, left - 1, nI 1, held, a, fr', one, rfl, ha, ?_, g2⟩
      refine zadv4 (f := f + 1) (f2 := f2 + 1) (m := m) (c := c) t1 (by omega) (by omega) hs (by omega) (by omega) t7 (by omega) ?_ (Or.inl ⟨z1, rfl, z3⟩)
      rw [t9]
      simp (disch := omega) only [zlit, nI_lt_nI, nI_le_nI, nI_eq_nI, nI_add, pk_mul, pk_sub, pk_div, zrem_nI, zrd_nI, zwr_nI, zb1_some, zb2_some, zb3_some, zb4_some, zb5_some, zb6_some, zb7_some, zb8_some, zlet_eq, if_pos, if_neg, pk_us, pk_un, true_and, and_true, true_or, or_true, ↓reduceIte]
      exact g1
    · subst z2
      rw [if_pos rfl]
      simp (disch := omega) only [zlit, nI_lt_nI, nI_le_nI, nI_eq_nI, nI_add, pk_mul, pk_sub, pk_div, zrem_nI, zrd_nI, zwr_nI, zb1_some, zb2_some, zb3_some, zb4_some, zb5_some, zb6_some, zb7_some, zb8_some, zlet_eq, if_pos, if_neg, pk_us, pk_un, true_and, and_true, true_or, or_true, ↓reduceIte] at t9
      rcases z219 (f := f) (f2 := f2) (m := m) (l8 := c + left) (c := c) (l2 := nI ty) (l5 := nI (w * h)) (fr := fr) (one := one) hw1 hw hh hn hB hB' ha hN hk hv (by omega) with ⟨p, a', fr', one', e1, e2, e3, e4, e5⟩ | ⟨x, e1, e2⟩
      · refine Or.inr ⟨p, left - 1, nI 0, p, a', fr', one', ?_, e2, ?_, e5⟩
        · rw [zb3_of e1, if_pos rfl]
        · exact zadv4 (f := f + 1) (f2 := f2 + 1) (m := m) (c := c) t1 (by omega) (by omega) hs (by omega) (by omega) t7 (by omega) (t9.trans e4) (Or.inr ⟨z1, rfl⟩)
      · obtain ⟨x1, x2⟩ := x
        refine Or.inl ⟨1, (nI 0, nI (left - 1), nI 0, held, x2), Or.inl rfl, ?_, ?_⟩
        · rw [zb3_of e1, if_neg (by decide)]
        · rw [t9]
          exact e2
