/-! The third format's fill, body and header. -/
theorem z19p {w h K u : Nat} {tc col rf dpF : Nat → Int32} {s a : Int32} (hw : w ≤ 8) (hh : h ≤ 8) (hK1 : 1 ≤ K) (hK : K ≤ 64) (hC : zCt K tc col) (hF : ∀ j, j < 64 → dpF j = tc 0) (hu : u < h) (rc : Int32 → Int32 → Int32 → Int32 → Int32 → Int32 → (Nat → Int32) → (Nat → Int32) → (Nat → Int32) → (Nat → Int32) → Int32 → Option (Int32 × Int32 × (Nat → Int32) × (Nat → Int32))) : ∀ (f x : Nat) (fr one : Nat → Int32), x ≤ w → w - x < f → zPd w (zD4 false false w h (u * w + x)) dpF fr →
    ∃ fr' one', fX9_pieces_19 rc f s a (nI 0) (nI w) (nI h) (nI K) rf fr col one (nI u) (nI x) = rc s a (nI 0) (nI w) (nI h) (nI K) rf fr' col one' (nI (u + 1)) ∧ zPd w (zD4 false false w h ((u + 1) * w + 0)) dpF fr' := by
  have hs := zmul64 hw hh
  intro f
  induction f with
  | zero => intro x fr one h1 h2; omega
  | succ f ih =>
    intro x fr one h1 h2 hD
    rw [fX9_pieces_19_s]
    simp only [zlit]
    by_cases q : w ≤ x
    · have e : x = w := by omega
      subst e
      have e2 : (u + 1) * x + 0 = u * x + x := by rw [Nat.succ_mul]; rfl
      refine ⟨fr, one, ?_, by rw [e2]; exact hD⟩
      rw [if_pos (by rw [nI_le_nI (by omega) (by omega)]; exact q), zlet_eq, nI_add]
    · have hx : x < w := by omega
      obtain ⟨fr', one', g1, g2⟩ := zdabY (fr := fr) (one := one) hw hh hK hC hx hu (show 0 < K by omega)
      have hi := zyx_lt hx (show h - 1 - u < h by omega)
      have ei : zix4 false false w h (u * w + x) = (h - 1 - u) * w + x := by
        rw [zix4_eq hx]
        simp only [Bool.false_eq_true, ↓reduceIte]
      have hD' : zPd w (zD4 false false w h (u * w + (x + 1))) dpF fr' := by
        refine zPd_cong (zPd_mono (g2 _ dpF hD) (fun j hj => ?_)) (fun j hj => ?_)
        · obtain ⟨i, i1, i2⟩ := hj
          rcases (show i < u * w + x ∨ i = u * w + x by omega) with q | q
          · exact Or.inl ⟨i, q, i2⟩
          · subst q
            rw [ei] at i2
            exact Or.inr i2
        · by_cases r : j = (h - 1 - u) * w + x
          · subst r
            rw [pk_us, hF _ (by omega)]
          · rw [pk_un r]
      obtain ⟨fr2, one2, i1, i2⟩ := ih (x + 1) fr' one' (by omega) (by omega) hD'
      refine ⟨fr2, one2, ?_, i2⟩
      rw [if_neg (by rw [nI_le_nI (by omega) (by omega)]; exact q), zb3_of g1, zlet_eq, nI_add]
      exact i1
theorem z2p {w h K : Nat} {tc col rf dpF : Nat → Int32} {s a : Int32} (hw : w ≤ 8) (hh : h ≤ 8) (hK1 : 1 ≤ K) (hK : K ≤ 64) (hC : zCt K tc col) (hF : ∀ j, j < 64 → dpF j = tc 0) : ∀ (f u : Nat) (fr one : Nat → Int32), u ≤ h → h - u < f → zPd w (zD4 false false w h (u * w + 0)) dpF fr →
    ∃ fr' one', fX9_pieces_2 f s a (nI 0) (nI w) (nI h) (nI K) rf fr col one (nI u) = fX9_pieces_46 s a (nI 0) (nI w) (nI h) (nI K) rf fr' col one' ∧ zPd w (fun j => j < w * h) dpF fr' := by
  intro f
  induction f with
  | zero => intro u fr one h1 h2; omega
  | succ f ih =>
    intro u fr one h1 h2 hD
    rw [fX9_pieces_2_s]
    simp only [zlit]
    by_cases q : h ≤ u
    · have e : u = h := by omega
      subst e
      refine ⟨fr, one, ?_, zPd_mono hD (fun j hj => ?_)⟩
      · rw [if_pos (by rw [nI_le_nI (by omega) (by omega)]; exact q)]
      · refine ⟨_, ?_, (zix4_inv hj).symm⟩
        rw [Nat.add_zero, Nat.mul_comm]
        exact zix4_lt hj
    · obtain ⟨fr', one', g1, g2⟩ := z19p (rf := rf) (s := s) (a := a) (fr := fr) (one := one) hw hh hK1 hK hC hF (show u < h by omega) (fX9_pieces_2 f) 1000 0 (by omega) (by omega) hD
      obtain ⟨fr2, one2, i1, i2⟩ := ih (u + 1) fr' one' (by omega) (by omega) g2
      refine ⟨fr2, one2, ?_, i2⟩
      rw [if_neg (by rw [nI_le_nI (by omega) (by omega)]; exact q), if_pos trivial, g1]
      exact i1
def zg3 (x : Int32 × Int32 × Int32 × Int32 × Int32 × Int32 × (Nat → Int32) × Int32 × Int32 × Int32 × (Nat → Int32)) : Int32 × Int32 × (Nat → Int32) := (x.2.2.2.2.2.2.2.2.1, x.2.2.2.2.2.2.2.2.2.1, x.2.2.2.2.2.2.2.2.2.2)
def zq3 (y : Int32 × (Nat → Int32) × (Nat → Int32) × (Nat → Int32)) : Nat → Int32 := y.2.1
theorem zpic_d {w h : Nat} {dp fr : Nat → Int32} (H : zPd w (fun j => j < w * h) dp fr) : zPic w h dp fr := zPd_pic H
theorem zpad8 : ∀ w : Fin 9, (-(nI (w.val * 8 / 8))) &&& nI 3 = nI (zpd3 8 w.val) := by decide
theorem zpad24 : ∀ w : Fin 9, (-(nI (w.val * 24 / 8))) &&& nI 3 = nI (zpd3 24 w.val) := by decide
theorem zbody3 {n w h K dd pk ld a : Nat} {fb rf tc col dp fr one : Nat → Int32} {B : Nat → Nat} {cc uu l2 : Int32} (hw1 : 1 ≤ w) (hw : w ≤ 8) (hh1 : 1 ≤ h) (hh : h ≤ 8) (hn : n ≤ 800) (hB : zByt n fb B) (hB' : zByt n rf B) (hd : dd = 8 ∨ dd = 24) (hK : K ≤ 64) (hpk : pk ≤ 1) (hld : ld ≤ 1) (hl2 : ld = 0 ↔ l2 ≤ nI 0) (hp1 : pk = 1 → dd = 8 ∧ 1 ≤ K ∧ ld = 1) (hC : zCt K tc col) (ha : a ≤ n) :
    zJ zg3 zq3 (if nI pk = nI 1 then zb5 (fX0_readPacked (nI K) tc (nI a) (nI n) fb (nI w) (nI h) dp) fun tg11 u12 u13 u14 u15 => if tg11 = 0 then some (0, nI K, nI dd, nI pk, nI ld, u12, u13, tc, u14, nI w, nI h, u15) else some (tg11, nI K, nI dd, nI pk, nI ld, u12, u13, tc, u14, nI w, nI h, u15) else zb3 (fX0_readRows (nI K) (nI dd) (nI ld) tc (nI a) (nI n) fb (nI w) (nI h) dp) fun tg7 u8 u9 => if tg7 = 0 then some (0, nI K, nI dd, nI pk, nI ld, cc, uu, tc, u8, nI w, nI h, u9) else some (tg7, nI K, nI dd, nI pk, nI ld, cc, uu, tc, u8, nI w, nI h, u9)) (fX9_readThird_310 (nI n) (nI a) (nI 0) (nI w) (nI h) (nI K) rf fr col one l2 (nI dd) (nI pk)) := by
  have hs := zmul64 hw hh
  unfold fX9_readThird_310 fX9_readThird_334
  simp only [zlit]
  rcases (show pk = 0 ∨ pk = 1 by omega) with e | e
  · subst e
    rw [if_neg (by decide), if_neg (by decide)]
    have pad : fX0_bytesToFour (nI w * nI dd / nI 8) = some (nI (zpd3 dd w)) := by
      unfold fX0_bytesToFour
      simp only [zlit]
      rcases hd with e | e
      · subst e
        rw [pk_mul, pk_div (by omega) (by decide) (by decide), zpad8 ⟨w, by omega⟩]
      · subst e
        rw [pk_mul, pk_div (by omega) (by decide) (by decide), zpad24 ⟨w, by omega⟩]
    unfold fX0_readRows
    simp only [zlit]
    rw [zb1_of pad]
    have E : (if l2 ≤ nI 0 then zb4 (fX9_plain (nI n) (nI a) (nI 0) (nI w) (nI h) (nI K) rf fr col one (nI dd) (nI 0)) fun u1 u2 u3 u4 => some (u1, u2, nI w, nI h, nI K, u3, col, u4) else zb4 (fX9_plain (nI n) (nI a) (nI 0) (nI w) (nI h) (nI K) rf fr col one (nI dd) (nI 1)) fun u1 u2 u3 u4 => some (u1, u2, nI w, nI h, nI K, u3, col, u4)) = zb4 (fX9_plain_2 1000 (nI n) (nI a) (nI 0) (nI w) (nI h) (nI K) rf fr col one (nI dd) (nI ld) (nI 0)) fun u1 u2 u3 u4 => some (u1, u2, nI w, nI h, nI K, u3, col, u4) := by
      rcases (show ld = 0 ∨ ld = 1 by omega) with e | e
      · rw [if_pos (hl2.mp e), e]
        rfl
      · rw [if_neg (fun z => by have := hl2.mpr z; omega), e]
        rfl
    rw [E]
    rcases zrows3 (fr := fr) (one := one) hw hh hn hB hB' hd hK hC hld 1000 1000 0 a dp (by omega) (by omega) (by omega) ha (fun j c hj => by
      obtain ⟨i, i1, i2⟩ := hj
      rw [Nat.zero_mul] at i1
      exact absurd i1 (Nat.not_lt_zero i)) with ⟨t, z, t1, t2, t3⟩ | ⟨a', dp', fr', one', t1, t2, t3⟩
    · obtain ⟨z1, z2⟩ := z
      obtain ⟨b, y, hS⟩ := t3
      obtain ⟨y1, y2⟩ := y
      rw [zb3_of t2, zb4_of hS]
      rcases t1 with t1 | t1
      · subst t1
        rw [if_neg (by decide)]
        exact zJ1 zS_mk
      · subst t1
        rw [if_neg (by decide)]
        exact zJ2 zS_mk
    · rw [zb3_of t1, if_pos rfl, zb4_of t2]
      exact Or.inr ⟨_, _, _, w, h, dp', hw1, hw, hh1, hh, rfl, rfl, rfl, t3⟩
  · subst e
    obtain ⟨p1, p2, p3⟩ := hp1 rfl
    rw [if_pos rfl, if_pos rfl]
    have fl : fX5_fill dp (tc 0) = some (fun j => if j < 64 then tc 0 else dp j) := by
      unfold fX5_fill fJ7_fill_53178
      have e := @zfill (tc 0) 1000 0 dp (by omega) (by omega)
      simp only [zlit]
      rw [zb1_of e]
      simp only [Nat.zero_le, true_and]
    unfold fX0_readPacked fX9_pieces
    simp only [zlit]
    rw [zrd_nI (by decide) (by decide), zb1_of fl]
    obtain ⟨fr', one', g1, g2⟩ := z2p (rf := rf) (s := nI n) (a := nI a) (fr := fr) (one := one) (dpF := fun j => if j < 64 then tc 0 else dp j) hw hh p2 hK hC (fun j hj => if_pos hj) 1000 0 (by omega) (by omega) (fun j c hj => by
      obtain ⟨i, i1, i2⟩ := hj
      rw [Nat.zero_mul] at i1
      exact absurd i1 (Nat.not_lt_zero i))
    rw [g1]
    unfold fX9_pieces_46
    simp only [zlit]
    rcases zpcs hw hh1 hh hn hB hB' hK hC (n - a) 1000 1000 0 a 0 0 _ fr' one' (Nat.le_refl _) (by omega) (by omega) (by omega) ha (by omega) (by omega) g2 with ⟨t, z, t1, t2, t3⟩ | ⟨z1, z2, z3, b, dp', fr2, one2, t1, t2, t3⟩
    · obtain ⟨z1, z2, z3, z4⟩ := z
      obtain ⟨b, y, hS⟩ := t3
      obtain ⟨y1, y2⟩ := y
      rw [zb5_of t2, zb4_of hS]
      rcases t1 with t1 | t1
      · subst t1
        rw [if_neg (by decide)]
        exact zJ1 zS_mk
      · subst t1
        rw [if_neg (by decide)]
        exact zJ2 zS_mk
    · rw [zb5_of t1, if_pos rfl, zb4_of t2]
      exact Or.inr ⟨_, _, _, w, h, dp', hw1, hw, hh1, hh, rfl, rfl, rfl, zpic_d t3⟩
theorem zoff3 {n w h K dd pk ld a f : Nat} {fb rf tc col dp fr one : Nat → Int32} {B : Nat → Nat} {cc uu l2 off : Int32} (hw1 : 1 ≤ w) (hw : w ≤ 8) (hh1 : 1 ≤ h) (hh : h ≤ 8) (hn : n ≤ 800) (hB : zByt n fb B) (hB' : zByt n rf B) (hd : dd = 8 ∨ dd = 24) (hK : K ≤ 64) (hpk : pk ≤ 1) (hld : ld ≤ 1) (hl2 : ld = 0 ↔ l2 ≤ nI 0) (hp1 : pk = 1 → dd = 8 ∧ 1 ≤ K ∧ ld = 1) (hC : zCt K tc col) (ha : a ≤ n) :
    zJ zg3 zq3 (fX0_read_21 (f + 1) (nI K) (nI dd) (nI pk) (nI ld) cc uu tc (nI a) (nI n) fb (nI w) (nI h) dp off (nI K)) (fX9_readThird_269 (nI n) (nI a) (nI 0) (nI w) (nI h) (nI K) rf fr col one off l2 (nI dd) (nI pk)) := by
  rw [fX0_read_21_s, if_pos (by rw [nI_le_nI (by omega) (by omega)]; omega)]
  unfold fX0_read_72 fX0_read_73 fX9_readThird_269 fX9_readThird_285 fX9_readThird_290
  simp only [zlit]
  have neg : zJ zg3 zq3 (zb1 (fX7_need (nI 0)) fun tg1 => if tg1 = 0 then zb2 (fX7_pass (nI a) (nI n) fb (off - nI a)) fun tg3 u4 => if tg3 = 0 then if nI pk = nI 1 then zb5 (fX0_readPacked (nI K) tc u4 (nI n) fb (nI w) (nI h) dp) fun tg11 u12 u13 u14 u15 => if tg11 = 0 then some (0, nI K, nI dd, nI pk, nI ld, u12, u13, tc, u14, nI w, nI h, u15) else some (tg11, nI K, nI dd, nI pk, nI ld, u12, u13, tc, u14, nI w, nI h, u15) else zb3 (fX0_readRows (nI K) (nI dd) (nI ld) tc u4 (nI n) fb (nI w) (nI h) dp) fun tg7 u8 u9 => if tg7 = 0 then some (0, nI K, nI dd, nI pk, nI ld, cc, uu, tc, u8, nI w, nI h, u9) else some (tg7, nI K, nI dd, nI pk, nI ld, cc, uu, tc, u8, nI w, nI h, u9) else some (tg3, nI K, nI dd, nI pk, nI ld, cc, uu, tc, u4, nI w, nI h, dp) else some (tg1, nI K, nI dd, nI pk, nI ld, cc, uu, tc, nI a, nI w, nI h, dp)) (zb1 (fX9_broken (nI 0) (nI 1)) fun u1 => if u1 = nI 0 then zb2 (fX9_skip (nI n) (nI a) u1 rf (off - nI a)) fun u4 u5 => fX9_readThird_310 (nI n) u4 u5 (nI w) (nI h) (nI K) rf fr col one l2 (nI dd) (nI pk) else fX9_readThird_310 (nI n) (nI a) u1 (nI w) (nI h) (nI K) rf fr col one l2 (nI dd) (nI pk)) := by
    rw [zb1_of zneed0, if_neg (by decide), zb1_of zbrok1, if_neg (by decide)]
    exact zJ2 (zF310 zn3)
  rcases zcase off with ho | ⟨j, hj, ho⟩
  · have lt : off < nI a := zneg_lt ho (by omega)
    rw [if_pos lt, if_pos lt]
    exact neg
  · subst ho
    by_cases c1 : j < a
    · have lt : nI j < nI a := by rw [nI_lt_nI (by omega) (by omega)]; exact c1
      rw [if_pos lt, if_pos lt]
      exact neg
    · have lt : ¬ nI j < nI a := by rw [nI_lt_nI (by omega) (by omega)]; exact c1
      rw [if_neg lt, if_neg lt]
      by_cases c2 : j ≤ 800
      · rw [if_neg (show ¬ nI 800 < nI j by rw [nI_lt_nI (by decide) (by omega)]; omega), if_pos (show nI j ≤ nI 800 by rw [nI_le_nI (by omega) (by decide)]; exact c2), zb1_of zneed1, if_pos rfl, zb1_of zbrok0, if_pos rfl, pk_sub (show a ≤ j by omega)]
        by_cases c3 : a + (j - a) ≤ n
        · rw [zb2_of (zpass hn hB c3), if_pos rfl, zb2_of (zskip hn hB' c3)]
          exact zbody3 hw1 hw hh1 hh hn hB hB' hd hK hpk hld hl2 hp1 hC c3
        · rw [zb2_of (zpassE hn (by omega) hB ha (by omega)), if_neg (by decide), zb2_of (zskipE hn (by omega) hB' ha (by omega))]
          exact zJ1 (zF310 zn2)
      · rw [if_pos (show nI 800 < nI j by rw [nI_lt_nI (by decide) (by omega)]; omega), if_neg (show ¬ nI j ≤ nI 800 by rw [nI_le_nI (by omega) (by decide)]; exact c2)]
        exact neg
