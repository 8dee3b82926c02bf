/-! The fourth format's rows and header. -/
/-- the pixels that are done -/
def zD4 (up mir : Bool) (w h k : Nat) : Nat → Prop := fun j => ∃ i, i < k ∧ j = zix4 up mir w h i
theorem zrow4 {n w h N v ty y : Nat} {fb rf : Nat → Int32} {B : Nat → Nat} {T : Option (Int32 × Int32 × Int32 × Int32 × (Nat → Int32) × (Nat → Int32))} (hw1 : 1 ≤ w) (hw : w ≤ 8) (hh : h ≤ 8) (hn : n ≤ 800) (hB : zByt n fb B) (hB' : zByt n rf B) (hN : N = 1 ∨ N = 3 ∨ N = 4) (hv : v < 64) (hty : ty < 256) (hy : y < h) (rc : Int32 → Int32 → Int32 → Int32 → Int32 → Int32 → (Nat → Int32) → Int32 → Int32 → (Nat → Int32) → Int32 → Int32 → Int32 → Int32 → Option (Nat × Int32 × Int32 × Int32 × Int32 × (Nat → Int32))) : ∀ (f x left a : Nat) (rep held : Int32) (dp fr one : Nat → Int32), x ≤ w → w - x < f → a ≤ n → zV n w h N v ty rf (y * w + x) left rep held a fr one T → zPd w (zD4 (decide (v / 32 % 2 = 1)) (decide (v / 16 % 2 = 1)) w h (y * w + x)) dp fr →
    (∃ (t : Nat) (z : Int32 × Int32 × Int32 × Int32 × (Nat → Int32)), (t = 1 ∨ t = 2) ∧ fX4_readPixels_70 rc f (nI (8 * N)) (nI left) rep held (nI a) (nI n) fb (nI w) (nI h) dp (nI (v / 16 % 2)) (nI (v / 32 % 2)) (nI (w * h - (y * w + x))) (nI y) (nI (if v / 32 % 2 = 1 then y else h - 1 - y)) (nI x) = some (t, z) ∧ zS (zft t) T) ∨
    (∃ (left' a' : Nat) (rep' held' : Int32) (dp' fr' one' : Nat → Int32), fX4_readPixels_70 rc f (nI (8 * N)) (nI left) rep held (nI a) (nI n) fb (nI w) (nI h) dp (nI (v / 16 % 2)) (nI (v / 32 % 2)) (nI (w * h - (y * w + x))) (nI y) (nI (if v / 32 % 2 = 1 then y else h - 1 - y)) (nI x) = rc (nI (8 * N)) (nI left') rep' held' (nI a') (nI n) fb (nI w) (nI h) dp' (nI (v / 16 % 2)) (nI (v / 32 % 2)) (nI (w * h - ((y + 1) * w + 0))) (nI (y + 1)) ∧ a' ≤ n ∧ zV n w h N v ty rf ((y + 1) * w + 0) left' rep' held' a' fr' one' T ∧ zPd w (zD4 (decide (v / 32 % 2 = 1)) (decide (v / 16 % 2 = 1)) w h ((y + 1) * w + 0)) dp' fr') := by
  have hs := zmul64 hw hh
  intro f
  induction f with
  | zero => intro x left a rep held dp fr one h1 h2; omega
  | succ f ih =>
    intro x left a rep held dp fr one h1 h2 h3 hV hD
    rw [fX4_readPixels_70_s]
    by_cases q : w ≤ x
    · have e : x = w := by omega
      subst e
      have e2 : (y + 1) * x + 0 = y * x + x := by rw [Nat.succ_mul]; rfl
      refine Or.inr ⟨left, a, rep, held, dp, fr, one, ?_, h3, ?_, ?_⟩
      · rw [e2]
        simp (disch := omega) only [zlit, nI_lt_nI, nI_le_nI, nI_eq_nI, nI_add, pk_mul, pk_sub, pk_div, zrem_nI, zrd_nI, zwr_nI, zb1_some, zb2_some, zb3_some, zb4_some, zb5_some, zb6_some, zb7_some, zb8_some, zlet_eq, if_pos, if_neg, pk_us, pk_un, true_and, and_true, true_or, or_true, ↓reduceIte]
      · rw [e2]; exact hV
      · rw [e2]; exact hD
    · have hx : x < w := by omega
      have hk := zyx_lt hx hy
      rw [if_neg (by rw [nI_le_nI (by omega) (by omega)]; exact q)]
      unfold fX4_readPixels_98
      rcases zpx4 hw1 hw hh hn hB hB' h3 hN hk hv hty hV with ⟨t, z, t1, t2, t3⟩ | ⟨p, left', rep', held', a', fr', one', t1, t2, t3, t4⟩
      · obtain ⟨z1, z2, z3, z4, z5⟩ := z
        refine Or.inl ⟨t, (z2, z3, z4, z5, dp), t1, ?_, t3⟩
        have ht : ¬ t = 0 := by omega
        rw [zb6_of t2, zb6_of t2, if_neg ht, if_neg ht, ite_self]
      · have hi := zix4_lt (up := decide (v / 32 % 2 = 1)) (mir := decide (v / 16 % 2 = 1)) hk
        have hD' : zPd w (zD4 (decide (v / 32 % 2 = 1)) (decide (v / 16 % 2 = 1)) w h (y * w + (x + 1))) (upd dp (zix4 (decide (v / 32 % 2 = 1)) (decide (v / 16 % 2 = 1)) w h (y * w + x)) p) fr' := by
          refine zPd_mono (t4 _ dp hD) (fun j hj => ?_)
          obtain ⟨i, i1, i2⟩ := hj
          rcases (show i < y * w + x ∨ i = y * w + x by omega) with q | q
          · exact Or.inl ⟨i, q, i2⟩
          · subst q
            exact Or.inr i2
        have g := ih (x + 1) left' a' rep' held' _ fr' one' (by omega) (by omega) t2 t3 hD'
        have ei : zix4 (decide (v / 32 % 2 = 1)) (decide (v / 16 % 2 = 1)) w h (y * w + x) = (if v / 32 % 2 = 1 then y else h - 1 - y) * w + (if v / 16 % 2 = 1 then w - 1 - x else x) := by
          rw [zix4_eq hx]
          simp only [decide_eq_true_eq]
        rw [ei] at g hi
        have hrow : (if v / 32 % 2 = 1 then y else h - 1 - y) < 8 := by split <;> omega
        have hm1 : nI (w * h - (y * w + x)) + -(nI 1) = nI (w * h - (y * w + (x + 1))) := by
          rw [zm1_dec, show w * h - (y * w + x) = w * h - (y * w + (x + 1)) + 1 by omega, zm1_s]
        generalize hR : (if v / 32 % 2 = 1 then y else h - 1 - y) = row at g hi hrow ⊢
        unfold fX5_set
        simp only [zlit]
        rw [zb6_of t1, zb6_of t1, if_pos rfl, if_pos rfl, hm1]
        by_cases c : v / 16 % 2 = 1
        · rw [if_pos c] at hi g
          rw [if_neg (by rw [nI_eq_nI (by omega) (by decide)]; omega), pk_sub (show 1 ≤ w by omega), pk_sub (show x ≤ w - 1 by omega), pk_mul, nI_add, zwr_nI (by omega) (by decide), zb1_some, zlet_eq, zlet_eq, nI_add]
          exact g
        · rw [if_neg c] at hi g
          rw [if_pos (by rw [nI_eq_nI (by omega) (by decide)]; omega), pk_mul, nI_add, zwr_nI (by omega) (by decide), zb1_some, zlet_eq, zlet_eq, nI_add]
          exact g
theorem zrows4 {n w h N v ty : Nat} {fb rf : Nat → Int32} {B : Nat → Nat} {T : Option (Int32 × Int32 × Int32 × Int32 × (Nat → Int32) × (Nat → Int32))} (hw1 : 1 ≤ w) (hw : w ≤ 8) (hh : h ≤ 8) (hn : n ≤ 800) (hB : zByt n fb B) (hB' : zByt n rf B) (hN : N = 1 ∨ N = 3 ∨ N = 4) (hv : v < 64) (hty : ty < 256) : ∀ (f y left a : Nat) (rep held : Int32) (dp fr one : Nat → Int32), y ≤ h → h - y < f → a ≤ n → zV n w h N v ty rf (y * w + 0) left rep held a fr one T → zPd w (zD4 (decide (v / 32 % 2 = 1)) (decide (v / 16 % 2 = 1)) w h (y * w + 0)) dp fr →
    (∃ (t : Nat) (z : Int32 × Int32 × Int32 × Int32 × (Nat → Int32)), (t = 1 ∨ t = 2) ∧ fX4_readPixels_37 f (nI (8 * N)) (nI left) rep held (nI a) (nI n) fb (nI w) (nI h) dp (nI (v / 16 % 2)) (nI (v / 32 % 2)) (nI (w * h - (y * w + 0))) (nI y) = some (t, z) ∧ zS (zft t) T) ∨
    (∃ (z1 z2 z3 z4 b : Int32) (dp' fr' one' : Nat → Int32), fX4_readPixels_37 f (nI (8 * N)) (nI left) rep held (nI a) (nI n) fb (nI w) (nI h) dp (nI (v / 16 % 2)) (nI (v / 32 % 2)) (nI (w * h - (y * w + 0))) (nI y) = some (0, z1, z2, z3, z4, dp') ∧ T = some (b, nI 0, nI w, nI h, fr', one') ∧ zPic w h dp' fr') := by
  have hs := zmul64 hw hh
  intro f
  induction f with
  | zero => intro y left a rep held dp fr one h1 h2; omega
  | succ f ih =>
    intro y left a rep held dp fr one h1 h2 h3 hV hD
    rw [fX4_readPixels_37_s]
    by_cases q : h ≤ y
    · have e : y = h := by omega
      subst e
      have ek : y * w + 0 = w * y := by rw [Nat.add_zero, Nat.mul_comm]
      rw [ek] at hV hD ⊢
      have hT : ∃ b, T = some (b, nI 0, nI w, nI y, fr, one) := by
        rcases hV with ⟨t1, t2, t3, f, t4, t5⟩ | ⟨t1, t2, f, t4, t5⟩ | ⟨t1, t2, t3, f, f2, m, c, t4, t5, t6, t7, t8, t9, t10⟩
        · obtain ⟨f, rfl⟩ : ∃ m, f = m + 1 := ⟨f - 1, by omega⟩
          refine ⟨nI a, ?_⟩
          rw [t5, fX9_readFourth_117_s]
          simp (disch := omega) only [zlit, nI_lt_nI, nI_le_nI, nI_eq_nI, nI_add, pk_mul, pk_sub, pk_div, zrem_nI, zrd_nI, zwr_nI, zb1_some, zb2_some, zb3_some, zb4_some, zb5_some, zb6_some, zb7_some, zb8_some, zlet_eq, if_pos, if_neg, pk_us, pk_un, true_and, and_true, true_or, or_true, ↓reduceIte]
        · obtain ⟨f, rfl⟩ : ∃ m, f = m + 1 := ⟨f - 1, by omega⟩
          refine ⟨nI a, ?_⟩
          rw [t5, fX9_readFourth_117_s]
          simp (disch := omega) only [zlit, nI_lt_nI, nI_le_nI, nI_eq_nI, nI_add, pk_mul, pk_sub, pk_div, zrem_nI, zrd_nI, zwr_nI, zb1_some, zb2_some, zb3_some, zb4_some, zb5_some, zb6_some, zb7_some, zb8_some, zlet_eq, if_pos, if_neg, pk_us, pk_un, true_and, and_true, true_or, or_true, ↓reduceIte]
        · omega
      obtain ⟨b, hT⟩ := hT
      refine Or.inr ⟨nI left, rep, held, nI a, b, dp, fr, one, ?_, hT, ?_⟩
      · simp (disch := omega) only [zlit, nI_lt_nI, nI_le_nI, nI_eq_nI, nI_add, pk_mul, pk_sub, pk_div, zrem_nI, zrd_nI, zwr_nI, zb1_some, zb2_some, zb3_some, zb4_some, zb5_some, zb6_some, zb7_some, zb8_some, zlet_eq, if_pos, if_neg, pk_us, pk_un, true_and, and_true, true_or, or_true, ↓reduceIte]
      · refine zPd_pic (zPd_mono hD (fun j hj => ?_))
        exact ⟨_, zix4_lt hj, (zix4_inv hj).symm⟩
    · have hy : y < h := by omega
      rcases zrow4 hw1 hw hh hn hB hB' hN hv hty hy (fX4_readPixels_37 f) 1000 0 left a rep held dp fr one (by omega) (by omega) h3 hV hD with ⟨t, z, t1, t2, t3⟩ | ⟨left', a', rep', held', dp', fr', one', t1, t2, t3, t4⟩
      · refine Or.inl ⟨t, z, t1, ?_, t3⟩
        unfold fX4_readPixels_65
        by_cases c : v / 32 % 2 = 1
        · rw [if_pos c] at t2
          simp (disch := omega) only [zlit, nI_lt_nI, nI_le_nI, nI_eq_nI, nI_add, pk_mul, pk_sub, pk_div, zrem_nI, zrd_nI, zwr_nI, zb1_some, zb2_some, zb3_some, zb4_some, zb5_some, zb6_some, zb7_some, zb8_some, zlet_eq, if_pos, if_neg, pk_us, pk_un, true_and, and_true, true_or, or_true, ↓reduceIte]
          exact t2
        · rw [if_neg c] at t2
          simp (disch := omega) only [zlit, nI_lt_nI, nI_le_nI, nI_eq_nI, nI_add, pk_mul, pk_sub, pk_div, zrem_nI, zrd_nI, zwr_nI, zb1_some, zb2_some, zb3_some, zb4_some, zb5_some, zb6_some, zb7_some, zb8_some, zlet_eq, if_pos, if_neg, pk_us, pk_un, true_and, and_true, true_or, or_true, ↓reduceIte]
          exact t2
      · have g := ih (y + 1) left' a' rep' held' dp' fr' one' (by omega) (by omega) t2 t3 t4
        rw [← t1] at g
        unfold fX4_readPixels_65
        by_cases c : v / 32 % 2 = 1
        · rw [if_pos c] at g
          simp (disch := omega) only [zlit, nI_lt_nI, nI_le_nI, nI_eq_nI, nI_add, pk_mul, pk_sub, pk_div, zrem_nI, zrd_nI, zwr_nI, zb1_some, zb2_some, zb3_some, zb4_some, zb5_some, zb6_some, zb7_some, zb8_some, zlet_eq, if_pos, if_neg, pk_us, pk_un, true_and, and_true, true_or, or_true, ↓reduceIte]
          exact g
        · rw [if_neg c] at g
          simp (disch := omega) only [zlit, nI_lt_nI, nI_le_nI, nI_eq_nI, nI_add, pk_mul, pk_sub, pk_div, zrem_nI, zrd_nI, zwr_nI, zb1_some, zb2_some, zb3_some, zb4_some, zb5_some, zb6_some, zb7_some, zb8_some, zlet_eq, if_pos, if_neg, pk_us, pk_un, true_and, and_true, true_or, or_true, ↓reduceIte]
          exact g
def zg4 (x : Int32 × Int32 × Int32 × Int32 × Int32 × Int32 × Int32 × (Nat → Int32)) : Int32 × Int32 × (Nat → Int32) := (x.2.2.2.2.2.1, x.2.2.2.2.2.2.1, x.2.2.2.2.2.2.2)
def zq4' (y : (Nat → Int32) × (Nat → Int32)) : Nat → Int32 := y.1
theorem zbody4 {n w h N v ty a left : Nat} {fb rf dp fr one : Nat → Int32} {held : Int32} {B : Nat → Nat} (hw1 : 1 ≤ w) (hw : w ≤ 8) (hh1 : 1 ≤ h) (hh : h ≤ 8) (hn : n ≤ 800) (hB : zByt n fb B) (hB' : zByt n rf B) (hN : N = 1 ∨ N = 3 ∨ N = 4) (hv : v < 64) (hty : ty < 256) (ha : a ≤ n) (hl : (ty ≤ 9 ∧ left = w * h) ∨ (9 < ty ∧ left = 0)) :
    zJ zg4 zq4' (fX4_read_125 (nI (8 * N)) (nI 0) held (nI a) (nI n) fb (nI w) (nI h) dp (nI v) (nI left)) (fX9_readFourth_117 1000 (nI n) (nI a) (nI 0) (nI w) (nI h) rf fr one (nI ty) (nI N) (nI v) (nI (w * h)) (nI 0)) := by
  have hs := zmul64 hw hh
  have hV : zV n w h N v ty rf (0 * w + 0) left (nI 0) held a fr one (fX9_readFourth_117 1000 (nI n) (nI a) (nI 0) (nI w) (nI h) rf fr one (nI ty) (nI N) (nI v) (nI (w * h)) (nI 0)) := by
    rw [Nat.zero_mul]
    rcases hl with ⟨l1, l2⟩ | ⟨l1, l2⟩
    · exact Or.inl ⟨l1, l2, rfl, 1000, by omega, rfl⟩
    · exact Or.inr (Or.inl ⟨l1, l2, 1000, by omega, rfl⟩)
  have g := zrows4 hw1 hw hh hn hB hB' hN hv hty 1000 0 left a (nI 0) held dp fr one (by omega) (by omega) ha hV (fun j c hj => by
    obtain ⟨i, i1, i2⟩ := hj
    rw [Nat.zero_mul] at i1
    exact absurd i1 (Nat.not_lt_zero i))
  have E : fX4_readPixels (nI (8 * N)) (nI left) (nI 0) held (nI a) (nI n) fb (nI w) (nI h) dp (nI v) = fX4_readPixels_37 1000 (nI (8 * N)) (nI left) (nI 0) held (nI a) (nI n) fb (nI w) (nI h) dp (nI (v / 16 % 2)) (nI (v / 32 % 2)) (nI (w * h - (0 * w + 0))) (nI 0) := by
    have b16 := zb16 ⟨v, hv⟩
    have b32 := zb32 ⟨v, hv⟩
    simp only at b16 b32
    unfold fX4_readPixels fX4_readPixels_12 fX4_readPixels_26
    simp only [zlit, b16, b32]
    rw [zb1_of zcount, zb1_of zcount, zb1_of zcount, zb1_of zcount, Nat.zero_mul, Nat.add_zero, Nat.sub_zero]
    rcases (show v / 16 % 2 = 0 ∨ v / 16 % 2 = 1 by omega) with c1 | c1
    · rcases (show v / 32 % 2 = 0 ∨ v / 32 % 2 = 1 by omega) with c2 | c2
      · rw [c1, c2, if_pos rfl, if_pos rfl]
      · rw [c1, c2, if_pos rfl, if_neg (by decide)]
    · rcases (show v / 32 % 2 = 0 ∨ v / 32 % 2 = 1 by omega) with c2 | c2
      · rw [c1, c2, if_neg (by decide), if_pos rfl]
      · rw [c1, c2, if_neg (by decide), if_neg (by decide)]
  unfold fX4_read_125
  rw [E]
  rcases g with ⟨t, z, t1, t2, t3⟩ | ⟨z1, z2, z3, z4, b, dp', fr', one', t1, t2, t3⟩
  · obtain ⟨z1, z2, z3, z4, z5⟩ := z
    rw [zb6_of t2]
    rcases t1 with t1 | t1
    · subst t1
      rw [if_neg (by decide)]
      exact zJ1 t3
    · subst t1
      rw [if_neg (by decide)]
      exact zJ2 t3
  · rw [zb6_of t1, if_pos rfl, t2]
    exact Or.inr ⟨_, _, _, w, h, dp', hw1, hw, hh1, hh, rfl, rfl, rfl, t3⟩
theorem zF95 {F s a nw nh l1 l2 l3 l4 k1 : Int32} {rf fr one : Nat → Int32} (hF : (F = nI 0) = False) : zS F (fX9_readFourth_95 s a F nw nh rf fr one l1 l2 l3 l4 k1) := by
  unfold fX9_readFourth_95
  rw [zb1_of (zbrokF hF), zb2_of (zskipF hF), zlet_eq]
  exact zF117 hF
theorem zF80' {F s a nw nh l1 l2 l3 l4 k1 k2 : Int32} {rf fr one : Nat → Int32} (hF : (F = nI 0) = False) : zS F (fX9_readFourth_80 s a F nw nh rf fr one l1 l2 l3 l4 k1 k2) := by
  unfold fX9_readFourth_80 fX9_readFourth_90
  exact zS_ite (zS_ite (zF95 hF) (zF95 hF)) (zF95 hF)
theorem zread4 {n : Nat} {fb rf dp fr one : Nat → Int32} {B : Nat → Nat} {kd kl kr kh dw dh : Int32} (hn : n ≤ 800) (hB : zByt n fb B) (hB' : zByt n rf B) (h18 : 18 ≤ n) (hm : ((B 2 = 2 ∨ B 2 = 10) ∧ (B 16 = 24 ∨ B 16 = 32)) ∨ ((B 2 = 3 ∨ B 2 = 11) ∧ B 16 = 8)) :
    zJ zg4 zq4' (fX4_read kd kl kr kh (nI 0) (nI n) fb dw dh dp) (fX9_readFourth (nI n) (nI 0) (nI 0) rf fr one) := by
  have bv0 := hB.1 0
  have bv2 := hB.1 2
  have bv17 := hB.1 17
  have c0 : fX7_next (nI 0) (nI n) fb = some (0, nI (B 0), nI 1) := znext8 (a := 0) hn hB (by omega)
  have c2 : fX7_next (nI 2) (nI n) fb = some (0, nI (B 2), nI 3) := znext8 (a := 2) hn hB (by omega)
  have c16 : fX7_next (nI (14 + 2)) (nI n) fb = some (0, nI (B 16), nI 17) := znext8 (a := 16) hn hB (by omega)
  have c17 : fX7_next (nI 17) (nI n) fb = some (0, nI (B 17), nI 18) := znext8 (a := 17) hn hB (by omega)
  have p1 : fX7_pass (nI 1) (nI n) fb (nI 1) = some (0, nI 2) := zpass (k := 1) (a := 1) hn hB (by omega)
  have p9 : fX7_pass (nI 3) (nI n) fb (nI 9) = some (0, nI 12) := zpass (k := 9) (a := 3) hn hB (by omega)
  have r0 : fX9_next (nI n) (nI 0) (nI 0) rf = some (nI (B 0), nI 1, nI 0) := znext9 (a := 0) hn hB' (by omega)
  have r1 : fX9_next (nI n) (nI 1) (nI 0) rf = some (nI (B 1), nI 2, nI 0) := znext9 (a := 1) hn hB' (by omega)
  have r2 : fX9_next (nI n) (nI 2) (nI 0) rf = some (nI (B 2), nI 3, nI 0) := znext9 (a := 2) hn hB' (by omega)
  have s9 : fX9_skip (nI n) (nI 3) (nI 0) rf (nI 9) = some (nI 12, nI 0) := zskip (k := 9) (a := 3) hn hB' (by omega)
  have r16 : fX9_next (nI n) (nI (14 + 2)) (nI 0) rf = some (nI (B 16), nI 17, nI 0) := znext9 (a := 16) hn hB' (by omega)
  have r17 : fX9_next (nI n) (nI 17) (nI 0) rf = some (nI (B 17), nI 18, nI 0) := znext9 (a := 17) hn hB' (by omega)
  unfold fX4_read fX9_readFourth
  simp only [zlit]
  rw [zb3_of c0, if_pos rfl, zb2_of p1, if_pos rfl, zb3_of c2, if_pos rfl, zb2_of p9, if_pos rfl, zb3_of r0, zb3_of r1, zb3_of r2, zb2_of s9]
  rcases @zlil n 2 12 fb rf B hn (by decide) hB hB' (by omega) with ⟨u, e1, e2, e3⟩ | ⟨e1, r, e2⟩
  · rw [zb3_of e1, if_pos rfl, zb3_of e2]
    rcases zsd u with ⟨s1, s2⟩ | ⟨w, w1, w2, w3, s1, s2⟩
    · rw [zb2_of s1, if_neg (by decide), zb2_of s2, zb3_of (znumF zn3 (by decide)), zb2_of (zsideF zn3), zb3_of (znextF zn3), zlet_eq, zb3_of (znextF zn3)]
      exact zJ2 (zS_ite (zF80' zn3) (zF80' zn3))
    · subst w3
      rw [zb2_of s1, if_pos rfl, zb2_of s2]
      rcases @zlil n 2 14 fb rf B hn (by decide) hB hB' (by omega) with ⟨u', e4, e5, e6⟩ | ⟨e4, r, e5⟩
      · rw [zb3_of e4, if_pos rfl, zb3_of e5]
        rcases zsd u' with ⟨s3, s4⟩ | ⟨h, h1, h2, h3, s3, s4⟩
        · rw [zb2_of s3, if_neg (by decide), zb2_of s4, zb3_of (znextF zn3), zlet_eq, zb3_of (znextF zn3)]
          exact zJ2 (zS_ite (zF80' zn3) (zF80' zn3))
        · subst h3
          rw [zb2_of s3, if_pos rfl, zb2_of s4, zb3_of c16, if_pos rfl, zb3_of c17, if_pos rfl, zb3_of r16, zlet_eq, zb3_of r17]
          have hs := zmul64 w2 h2
          have bad : ∀ (N : Nat) (k1 k2 : Int32), (¬ (k1 = k2) ∨ 64 ≤ B 17) → zJ zg4 zq4' (fX4_read_82 (nI (8 * N)) kl kr kh (nI 18) (nI n) fb dw dh dp (nI (B 0)) (nI (B 2)) (nI w) (nI h) (nI (B 17))) (fX9_readFourth_80 (nI n) (nI 18) (nI 0) (nI w) (nI h) rf fr one (nI (B 0)) (nI (B 2)) (nI N) (nI (B 17)) k1 k2) := by
            intro N k1 k2 hb
            unfold fX4_read_82 fX4_read_83 fX9_readFourth_80 fX9_readFourth_90 fX9_readFourth_95
            simp only [zlit]
            rw [zb1_of zneed0, if_neg (by decide), zb1_of zbrok1, zb1_of zbrok0]
            refine zJ2 ?_
            rw [zb2_of (zskipF zn3), zlet_eq]
            rcases hb with hb | hb
            · rw [if_neg hb]
              exact zF117 zn3
            · rw [if_neg (show ¬ nI (B 17) ≤ nI 63 by rw [nI_le_nI (by omega) (by decide)]; omega), ite_self]
              exact zF117 zn3
          have good : ∀ (N : Nat) (k : Int32), (N = 1 ∨ N = 3 ∨ N = 4) → B 17 < 64 → zJ zg4 zq4' (fX4_read_83 (nI (8 * N)) kl kr kh (nI 18) (nI n) fb dw dh dp (nI (B 0)) (nI (B 2)) (nI w) (nI h) (nI (B 17)) (nI 1)) (fX9_readFourth_80 (nI n) (nI 18) (nI 0) (nI w) (nI h) rf fr one (nI (B 0)) (nI (B 2)) (nI N) (nI (B 17)) k k) := by
            intro N k hN h64
            unfold fX4_read_83 fX4_read_117 fX9_readFourth_80 fX9_readFourth_95
            simp only [zlit]
            rw [zb1_of zneed1, if_pos rfl, if_pos trivial, if_pos (by rw [nI_le_nI (by omega) (by decide)]; omega), zb1_of zbrok0]
            by_cases c : 18 + B 0 ≤ n
            · rw [zb2_of (zpass hn hB c), if_pos rfl, zb3_of (zbegin _ _ _), zb2_of (zskip hn hB' c), zlet_eq, pk_mul, zb1_of zcount]
              have E2 : (nI (B 2) = nI 2) = (B 2 = 2) := nI_eq_nI (by omega) (by decide)
              have E3 : (nI (B 2) = nI 3) = (B 2 = 3) := nI_eq_nI (by omega) (by decide)
              simp only [E2, E3]
              by_cases q : B 2 = 2
              · rw [if_pos q]
                exact zbody4 w1 w2 h1 h2 hn hB hB' hN h64 bv2 c (Or.inl ⟨by omega, rfl⟩)
              · rw [if_neg q]
                by_cases q3 : B 2 = 3
                · rw [if_pos q3]
                  exact zbody4 w1 w2 h1 h2 hn hB hB' hN h64 bv2 c (Or.inl ⟨by omega, rfl⟩)
                · rw [if_neg q3]
                  exact zbody4 w1 w2 h1 h2 hn hB hB' hN h64 bv2 c (Or.inr ⟨by omega, rfl⟩)
            · rw [zb2_of (zpassE hn (by omega) hB h18 (by omega)), if_neg (by decide), zb2_of (zskipE hn (by omega) hB' h18 (by omega)), zlet_eq]
              exact zJ1 (zF117 zn2)
          have mix : ∀ (N b : Nat), (N = 1 ∨ N = 3 ∨ N = 4) → b < 16 → zJ zg4 zq4' (if nI (B 17) &&& nI 15 = nI b then if nI 64 ≤ nI (B 17) then fX4_read_82 (nI (8 * N)) kl kr kh (nI 18) (nI n) fb dw dh dp (nI (B 0)) (nI (B 2)) (nI w) (nI h) (nI (B 17)) else fX4_read_83 (nI (8 * N)) kl kr kh (nI 18) (nI n) fb dw dh dp (nI (B 0)) (nI (B 2)) (nI w) (nI h) (nI (B 17)) (nI 1) else fX4_read_82 (nI (8 * N)) kl kr kh (nI 18) (nI n) fb dw dh dp (nI (B 0)) (nI (B 2)) (nI w) (nI h) (nI (B 17))) (fX9_readFourth_80 (nI n) (nI 18) (nI 0) (nI w) (nI h) rf fr one (nI (B 0)) (nI (B 2)) (nI N) (nI (B 17)) (zrem (nI (B 17)) (nI 16)) (nI b)) := by
            intro N b hN hb
            rw [zand15 bv17, zrem_nI (by omega) (by decide) (by decide)]
            by_cases q : B 17 % 16 = b
            · rw [q, if_pos rfl]
              by_cases q2 : 64 ≤ B 17
              · rw [if_pos (by rw [nI_le_nI (by decide) (by omega)]; exact q2)]
                exact bad N _ _ (Or.inr q2)
              · rw [if_neg (by rw [nI_le_nI (by decide) (by omega)]; exact q2)]
                exact good N _ hN (by omega)
            · have qn : ¬ (nI (B 17 % 16) = nI b) := by rw [nI_eq_nI (by omega) (by omega)]; exact q
              rw [if_neg qn]
              exact bad N _ _ (Or.inl qn)
          rcases (show B 16 = 24 ∨ B 16 = 32 ∨ B 16 = 8 by omega) with z | z | z
          · rw [z, show fX4_alphaBits (nI 24) = some (nI 0) by unfold fX4_alphaBits; simp (disch := omega) only [zlit, nI_lt_nI, nI_le_nI, nI_eq_nI, nI_add, pk_mul, pk_sub, pk_div, zrem_nI, zrd_nI, zwr_nI, zb1_some, zb2_some, zb3_some, zb4_some, zb5_some, zb6_some, zb7_some, zb8_some, zlet_eq, if_pos, if_neg, pk_us, pk_un, true_and, and_true, true_or, or_true, ↓reduceIte], zb1_some, pk_div (by decide) (by decide) (by decide), if_neg (show ¬ nI (24 / 8) = nI 4 by decide)]
            exact mix 3 0 (by omega) (by decide)
          · rw [z, show fX4_alphaBits (nI 32) = some (nI 8) by unfold fX4_alphaBits; simp (disch := omega) only [zlit, nI_lt_nI, nI_le_nI, nI_eq_nI, nI_add, pk_mul, pk_sub, pk_div, zrem_nI, zrd_nI, zwr_nI, zb1_some, zb2_some, zb3_some, zb4_some, zb5_some, zb6_some, zb7_some, zb8_some, zlet_eq, if_pos, if_neg, pk_us, pk_un, true_and, and_true, true_or, or_true, ↓reduceIte], zb1_some, pk_div (by decide) (by decide) (by decide), if_pos (show nI (32 / 8) = nI 4 by decide)]
            exact mix 4 8 (by omega) (by decide)
          · rw [z, show fX4_alphaBits (nI 8) = some (nI 0) by unfold fX4_alphaBits; simp (disch := omega) only [zlit, nI_lt_nI, nI_le_nI, nI_eq_nI, nI_add, pk_mul, pk_sub, pk_div, zrem_nI, zrd_nI, zwr_nI, zb1_some, zb2_some, zb3_some, zb4_some, zb5_some, zb6_some, zb7_some, zb8_some, zlet_eq, if_pos, if_neg, pk_us, pk_un, true_and, and_true, true_or, or_true, ↓reduceIte], zb1_some, pk_div (by decide) (by decide) (by decide), if_neg (show ¬ nI (8 / 8) = nI 4 by decide)]
            exact mix 1 0 (by omega) (by decide)
      · rw [zb3_of e4, if_neg (by decide), zb3_of e5, zb2_of (zsideF zn2), zb3_of (znextF zn2), zlet_eq, zb3_of (znextF zn2)]
        exact zJ1 (zS_ite (zF80' zn2) (zF80' zn2))
  · rw [zb3_of e1, if_neg (by decide), zb3_of e2, zb2_of (zsideF zn2), zb3_of (znumF zn2 (by decide)), zb2_of (zsideF zn2), zb3_of (znextF zn2), zlet_eq, zb3_of (znextF zn2)]
    exact zJ1 (zS_ite (zF80' zn2) (zF80' zn2))
