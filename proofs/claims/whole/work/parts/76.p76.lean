/-! Decode, class and reference. -/
theorem zpic_copy {w h : Nat} {dp fr px rn : Nat → Int32} (hw : w ≤ 8) (hh : h ≤ 8) (hP : zPic w h dp fr) : zPic w h (fun j => if j < 64 then dp j else px j) (fun j => if 0 ≤ j ∧ j < 256 then fr j else rn j) := by
  intro x y c hx hy hc
  have h1 := zidx hw hh hx hy
  have e1 : (fun j => if j < 64 then dp j else px j) (y * w + x) = dp (y * w + x) := if_pos h1
  have e2 : (fun j => if 0 ≤ j ∧ j < 256 then fr j else rn j) (4 * (8 * y + x) + c) = fr (4 * (8 * y + x) + c) := if_pos (by omega)
  rw [e1, e2]
  exact hP x y c hx hy hc
theorem zcb {rn fr : Nat → Int32} : fX9_copyBack rn fr = some (fun j => if 0 ≤ j ∧ j < 256 then fr j else rn j) := zcopyBack 1000 0 rn (by omega) (by omega)
theorem zdec60Y {w h a nw nh c l : Int32} {rn fr col tr la one : Nat → Int32} : fX9_decode_60 w h a (nI 0) nw nh c rn fr col tr la one l = some (l, nw, nh, a, nI 0, nw, nh, c, (fun j => if 0 ≤ j ∧ j < 256 then fr j else rn j), fr, col, tr, la, one) := by
  unfold fX9_decode_60
  simp only [zlit]
  rw [if_pos trivial, zb1_of zcb]
theorem zdec60F {F w h a nw nh c l : Int32} {rn fr col tr la one : Nat → Int32} (hF : (F = nI 0) = False) : fX9_decode_60 w h a F nw nh c rn fr col tr la one l = some (F, w, h, a, F, nw, nh, c, rn, fr, col, tr, la, one) := by
  unfold fX9_decode_60
  simp only [zlit, hF, ↓reduceIte]
/-- what decode leaves, class and reference -/
def zDe (px rn : Nat → Int32) (w h : Nat) (A : Option (Nat × Int32 × Int32 × Int32 × (Nat → Int32) × Int32 × Int32 × (Nat → Int32) × Int32 × Int32 × (Nat → Int32) × Int32 × Int32 × Int32 × Int32 × Int32 × Int32 × Int32 × Int32 × (Nat → Int32) × Int32 × Int32 × Int32 × Int32)) (R : Option (Int32 × Int32 × Int32 × Int32 × Int32 × Int32 × Int32 × Int32 × (Nat → Int32) × (Nat → Int32) × (Nat → Int32) × (Nat → Int32) × (Nat → Int32) × (Nat → Int32))) : Prop :=
  ∃ (tg : Nat) (r : Int32) (w' h' : Nat) (px' : Nat → Int32) (a1 a2 : Int32) (a3 : Nat → Int32) (a4 a5 : Int32) (a6 : Nat → Int32) (a7 a8 a9 a10 a11 a12 a13 a14 : Int32) (a15 : Nat → Int32) (a16 a17 a18 a19 : Int32) (b1 b2 b3 b4 b5 : Int32) (rn' b6 b7 b8 b9 b10 : Nat → Int32), A = some (tg, r, nI w', nI h', px', a1, a2, a3, a4, a5, a6, a7, a8, a9, a10, a11, a12, a13, a14, a15, a16, a17, a18, a19) ∧ R = some (r, nI w', nI h', b1, b2, b3, b4, b5, rn', b6, b7, b8, b9, b10) ∧ 1 ≤ w' ∧ w' ≤ 8 ∧ 1 ≤ h' ∧ h' ≤ 8 ∧ zPic w' h' px' rn'
theorem zfmt_c (n : Nat) (B : Nat → Nat) : zfmt n B = nI 0 ∨ (zfmt n B = nI 1 ∧ 2 ≤ n ∧ (B 1 = 50 ∨ B 1 = 51 ∨ B 1 = 53 ∨ B 1 = 54)) ∨ zfmt n B = nI 2 ∨ (zfmt n B = nI 3 ∧ 18 ≤ n ∧ (((B 2 = 2 ∨ B 2 = 10) ∧ (B 16 = 24 ∨ B 16 = 32)) ∨ ((B 2 = 3 ∨ B 2 = 11) ∧ B 16 = 8))) ∨ zfmt n B = -(nI 1) := by
  unfold zfmt
  split
  · exact Or.inl rfl
  · split
    · rename_i h
      exact Or.inr (Or.inl ⟨rfl, h.1, h.2.2⟩)
    · split
      · exact Or.inr (Or.inr (Or.inl rfl))
      · split
        · rename_i h
          exact Or.inr (Or.inr (Or.inr (Or.inl ⟨rfl, h.1, h.2.2⟩)))
        · exact Or.inr (Or.inr (Or.inr (Or.inr rfl)))
theorem zo_decode {w h n : Nat} {px rn fb rf dp tb tc fr col tr la one : Nat → Int32} {dw dh sp cl md mg bk bd bp bi bc bu kd kl kr kh at' flt nw nh rc : Int32} (hw1 : 1 ≤ w) (hw : w ≤ 8) (hh1 : 1 ≤ h) (hh : h ≤ 8) (hn : n ≤ 800) (hP : zPic w h px rn) (hF : zFil n fb rf) :
    zDe px rn w h (fX8_decode (nI w) (nI h) px dw dh dp sp (nI n) fb cl tb md mg bk bd bp bi bc bu tc kd kl kr kh) (fX9_decode (nI w) (nI h) (nI n) at' flt nw nh rc rn rf fr col tr la one) := by
  obtain ⟨B, hB, hB'⟩ := zFil_byt hF
  unfold fX8_decode fX9_decode
  simp only [zlit]
  rw [zb1_of (zsniff8 hn hB), zb1_of (zsniff9 hn hB')]
  rcases zfmt_c n B with e | ⟨e, f1, f2⟩ | e | ⟨e, f1, f2⟩ | e
  · rw [e, if_neg (show ¬ nI 0 = -(nI 1) by decide), if_pos rfl, if_pos (show nI 0 ≤ nI 0 by decide), if_pos rfl]
    rcases zread1 (dp := dp) (fr := fr) (tb := tb) (tr := tr) (la := la) (one := one) (L := cl) (dw := dw) (dh := dh) hn hB hB' with ⟨t, x, t1, t2, t3⟩ | ⟨x, a, y, w', h', dp', g1, g2, g3, g4, g5, g6, g7, g8⟩
    · obtain ⟨x1, x2, x3, x4, x5, x6⟩ := x
      obtain ⟨b, y, hS⟩ := t3
      obtain ⟨y1, y2, y3, y4, y5, y6⟩ := y
      rw [zb7_of t2, zb8_of hS, zdec60F (zft_ne t)]
      rcases t1 with t1 | t1
      · subst t1
        rw [if_neg (by decide), if_pos rfl]
        exact ⟨_, _, w, h, px, _, _, _, _, _, _, _, _, _, _, _, _, _, _, _, _, _, _, _, _, _, _, _, _, rn, _, _, _, _, _, rfl, rfl, hw1, hw, hh1, hh, hP⟩
      · subst t1
        rw [if_neg (by decide), if_neg (by decide)]
        exact ⟨_, _, w, h, px, _, _, _, _, _, _, _, _, _, _, _, _, _, _, _, _, _, _, _, _, _, _, _, _, rn, _, _, _, _, _, rfl, rfl, hw1, hw, hh1, hh, hP⟩
    · obtain ⟨x1, x2, x3, x4, x5, x6⟩ := x
      obtain ⟨y1, y2, y3, y4⟩ := y
      unfold zg1 at g7
      unfold zq1 at g8
      simp only [Prod.mk.injEq] at g7 g8
      obtain ⟨q1, q2, q3⟩ := g7
      subst q1 q2 q3
      rw [zb7_of g5, if_pos rfl, zb3_of zbecome, zb8_of g6, zdec60Y]
      exact ⟨_, _, w', h', _, _, _, _, _, _, _, _, _, _, _, _, _, _, _, _, _, _, _, _, _, _, _, _, _, _, _, _, _, _, _, rfl, rfl, g1, g2, g3, g4, zpic_copy g2 g4 g8⟩
  · rw [e, if_neg (show ¬ nI 1 = -(nI 1) by decide), if_neg (show ¬ nI 1 = nI 0 by decide), if_pos rfl, if_pos (show nI 0 ≤ nI 1 by decide), if_neg (show ¬ nI 1 = nI 0 by decide), if_pos rfl]
    rcases zread2 (dp := dp) (fr := fr) (one := one) (md := md) (mg := mg) (dw := dw) (dh := dh) hn hB hB' f1 f2 with ⟨t, x, t1, t2, t3⟩ | ⟨x, a, y, w', h', dp', g1, g2, g3, g4, g5, g6, g7, g8⟩
    · obtain ⟨x1, x2, x3, x4, x5, x6⟩ := x
      obtain ⟨b, y, hS⟩ := t3
      obtain ⟨y1, y2, y3, y4⟩ := y
      rw [zb7_of t2, zb6_of hS, zdec60F (zft_ne t)]
      rcases t1 with t1 | t1
      · subst t1
        rw [if_neg (by decide), if_pos rfl]
        exact ⟨_, _, w, h, px, _, _, _, _, _, _, _, _, _, _, _, _, _, _, _, _, _, _, _, _, _, _, _, _, rn, _, _, _, _, _, rfl, rfl, hw1, hw, hh1, hh, hP⟩
      · subst t1
        rw [if_neg (by decide), if_neg (by decide)]
        exact ⟨_, _, w, h, px, _, _, _, _, _, _, _, _, _, _, _, _, _, _, _, _, _, _, _, _, _, _, _, _, rn, _, _, _, _, _, rfl, rfl, hw1, hw, hh1, hh, hP⟩
    · obtain ⟨x1, x2, x3, x4, x5, x6⟩ := x
      obtain ⟨y1, y2⟩ := y
      unfold zg2 at g7
      unfold zq2 at g8
      simp only [Prod.mk.injEq] at g7 g8
      obtain ⟨q1, q2, q3⟩ := g7
      subst q1 q2 q3
      rw [zb7_of g5, if_pos rfl, zb3_of zbecome, zb6_of g6, zdec60Y]
      exact ⟨_, _, w', h', _, _, _, _, _, _, _, _, _, _, _, _, _, _, _, _, _, _, _, _, _, _, _, _, _, _, _, _, _, _, _, rfl, rfl, g1, g2, g3, g4, zpic_copy g2 g4 g8⟩
  · rw [e, if_neg (show ¬ nI 2 = -(nI 1) by decide), if_neg (show ¬ nI 2 = nI 0 by decide), if_neg (show ¬ nI 2 = nI 1 by decide), if_pos rfl, if_pos (show nI 0 ≤ nI 2 by decide), if_neg (show ¬ nI 2 = nI 0 by decide), if_neg (show ¬ nI 2 = nI 1 by decide), if_pos rfl]
    rcases zread3 (dp := dp) (fr := fr) (col := col) (one := one) (tc := tc) (kn := bk) (dd := bd) (pk := bp) (iu := bi) (cc := bc) (uu := bu) (dw := dw) (dh := dh) hn hB hB' with ⟨t, x, t1, t2, t3⟩ | ⟨x, a, y, w', h', dp', g1, g2, g3, g4, g5, g6, g7, g8⟩
    · obtain ⟨x1, x2, x3, x4, x5, x6, x7, x8, x9, x10, x11⟩ := x
      obtain ⟨b, y, hS⟩ := t3
      obtain ⟨y1, y2, y3, y4, y5, y6⟩ := y
      rw [zb12_of t2, zb8_of hS, zdec60F (zft_ne t)]
      rcases t1 with t1 | t1
      · subst t1
        rw [if_neg (by decide), if_pos rfl]
        exact ⟨_, _, w, h, px, _, _, _, _, _, _, _, _, _, _, _, _, _, _, _, _, _, _, _, _, _, _, _, _, rn, _, _, _, _, _, rfl, rfl, hw1, hw, hh1, hh, hP⟩
      · subst t1
        rw [if_neg (by decide), if_neg (by decide)]
        exact ⟨_, _, w, h, px, _, _, _, _, _, _, _, _, _, _, _, _, _, _, _, _, _, _, _, _, _, _, _, _, rn, _, _, _, _, _, rfl, rfl, hw1, hw, hh1, hh, hP⟩
    · obtain ⟨x1, x2, x3, x4, x5, x6, x7, x8, x9, x10, x11⟩ := x
      obtain ⟨y1, y2, y3, y4⟩ := y
      unfold zg3 at g7
      unfold zq3 at g8
      simp only [Prod.mk.injEq] at g7 g8
      obtain ⟨q1, q2, q3⟩ := g7
      subst q1 q2 q3
      rw [zb12_of g5, if_pos rfl, zb3_of zbecome, zb8_of g6, zdec60Y]
      exact ⟨_, _, w', h', _, _, _, _, _, _, _, _, _, _, _, _, _, _, _, _, _, _, _, _, _, _, _, _, _, _, _, _, _, _, _, rfl, rfl, g1, g2, g3, g4, zpic_copy g2 g4 g8⟩
  · rw [e, if_neg (show ¬ nI 3 = -(nI 1) by decide), if_neg (show ¬ nI 3 = nI 0 by decide), if_neg (show ¬ nI 3 = nI 1 by decide), if_neg (show ¬ nI 3 = nI 2 by decide), if_pos rfl, if_pos (show nI 0 ≤ nI 3 by decide), if_neg (show ¬ nI 3 = nI 0 by decide), if_neg (show ¬ nI 3 = nI 1 by decide), if_neg (show ¬ nI 3 = nI 2 by decide)]
    rcases zread4 (dp := dp) (fr := fr) (one := one) (kd := kd) (kl := kl) (kr := kr) (kh := kh) (dw := dw) (dh := dh) hn hB hB' f1 f2 with ⟨t, x, t1, t2, t3⟩ | ⟨x, a, y, w', h', dp', g1, g2, g3, g4, g5, g6, g7, g8⟩
    · obtain ⟨x1, x2, x3, x4, x5, x6, x7, x8⟩ := x
      obtain ⟨b, y, hS⟩ := t3
      obtain ⟨y1, y2, y3, y4⟩ := y
      rw [zb9_of t2, zb6_of hS, zdec60F (zft_ne t)]
      rcases t1 with t1 | t1
      · subst t1
        rw [if_neg (by decide), if_pos rfl]
        exact ⟨_, _, w, h, px, _, _, _, _, _, _, _, _, _, _, _, _, _, _, _, _, _, _, _, _, _, _, _, _, rn, _, _, _, _, _, rfl, rfl, hw1, hw, hh1, hh, hP⟩
      · subst t1
        rw [if_neg (by decide), if_neg (by decide)]
        exact ⟨_, _, w, h, px, _, _, _, _, _, _, _, _, _, _, _, _, _, _, _, _, _, _, _, _, _, _, _, _, rn, _, _, _, _, _, rfl, rfl, hw1, hw, hh1, hh, hP⟩
    · obtain ⟨x1, x2, x3, x4, x5, x6, x7, x8⟩ := x
      obtain ⟨y1, y2⟩ := y
      unfold zg4 at g7
      unfold zq4' at g8
      simp only [Prod.mk.injEq] at g7 g8
      obtain ⟨q1, q2, q3⟩ := g7
      subst q1 q2 q3
      rw [zb9_of g5, if_pos rfl, zb3_of zbecome, zb6_of g6, zdec60Y]
      exact ⟨_, _, w', h', _, _, _, _, _, _, _, _, _, _, _, _, _, _, _, _, _, _, _, _, _, _, _, _, _, _, _, _, _, _, _, rfl, rfl, g1, g2, g3, g4, zpic_copy g2 g4 g8⟩
  · rw [e, if_pos rfl, if_neg (show ¬ nI 0 ≤ -(nI 1) by decide)]
    exact ⟨_, _, w, h, px, _, _, _, _, _, _, _, _, _, _, _, _, _, _, _, _, _, _, _, _, _, _, _, _, rn, _, _, _, _, _, rfl, rfl, hw1, hw, hh1, hh, hP⟩
