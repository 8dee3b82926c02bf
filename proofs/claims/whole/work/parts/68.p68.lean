/-! The second format's header. -/
def zg2 (x : Int32 × Int32 × Int32 × Int32 × Int32 × (Nat → Int32)) : Int32 × Int32 × (Nat → Int32) := (x.2.2.2.1, x.2.2.2.2.1, x.2.2.2.2.2)
def zq2 (y : (Nat → Int32) × (Nat → Int32)) : Nat → Int32 := y.1
theorem zend2 {w h n a : Nat} {dp fr one : Nat → Int32} {md mg : Int32} (hw1 : 1 ≤ w) (hw : w ≤ 8) (hh1 : 1 ≤ h) (hh : h ≤ 8) (hn : n ≤ 800) (ha : a ≤ n) (hP : zPic w h dp fr) :
    zJ zg2 zq2 (fX6_read_147 md mg (nI a) (nI n) (nI w) (nI h) dp) (fX9_readSecond_294 (nI n) (nI a) (nI 0) (nI w) (nI h) fr one) := by
  unfold fX6_read_147 fX9_readSecond_294 fX9_readSecond_311 fX7_isAtEnd
  by_cases c : a < n
  · simp (disch := omega) only [zlit, nI_lt_nI, nI_le_nI, nI_eq_nI, nI_add, pk_mul, pk_sub, pk_div, zrem_nI, zrd_nI, zwr_nI, zb1_some, zb2_some, zb3_some, zb4_some, zb5_some, zb6_some, zb7_some, zb8_some, zlet_eq, if_pos, if_neg, pk_us, pk_un, true_and, and_true, true_or, or_true, ↓reduceIte, zneed0, zbrok1]
    exact zJ2 zS_mk
  · simp (disch := omega) only [zlit, nI_lt_nI, nI_le_nI, nI_eq_nI, nI_add, pk_mul, pk_sub, pk_div, zrem_nI, zrd_nI, zwr_nI, zb1_some, zb2_some, zb3_some, zb4_some, zb5_some, zb6_some, zb7_some, zb8_some, zlet_eq, if_pos, if_neg, pk_us, pk_un, true_and, and_true, true_or, or_true, ↓reduceIte, zneed1, zbrok0]
    exact Or.inr ⟨_, _, _, w, h, dp, hw1, hw, hh1, hh, rfl, rfl, rfl, hP⟩
theorem zbody2 {w h n a d g c col : Nat} {fb rf dp fr one : Nat → Int32} {B : Nat → Nat} (hw1 : 1 ≤ w) (hw : w ≤ 8) (hh1 : 1 ≤ h) (hh : h ≤ 8) (hn : n ≤ 800) (hB : zByt n fb B) (hB' : zByt n rf B) (hd : d ≤ 1) (hg1 : 1 ≤ g) (hg : g ≤ 255) (hc : (c = 1 ∧ col = 0) ∨ (c = 3 ∧ col = 1)) (h0 : 1 ≤ a) (ha : a ≤ n) :
    zJ zg2 zq2 (fX6_read_131 (nI d) (nI g) (nI a) (nI n) fb (nI w) (nI h) dp (nI col)) (fX9_readSecond_114 (nI n) (nI a) (nI 0) (nI w) (nI h) rf fr one (nI g) (nI d) (nI c)) := by
  have hs := zmul64 hw hh
  unfold fX6_read_131 fX6_readSamples fX9_readSecond_114
  simp only [zlit]
  rcases zpx2 (dp := dp) (fr := fr) (one := one) hw hh hn hB hB' hd hg1 hg hc 1000 1000 0 a (by omega) (by omega) (by omega) h0 ha (fun j c hj => absurd hj (Nat.not_lt_zero j)) with ⟨t, x, t1, t2, t3⟩ | ⟨dp', fr', one', a', t1, t2, t3, t4, t5⟩
  · obtain ⟨x1, x2⟩ := x
    rw [zb3_of t2]
    rcases t1 with t1 | t1
    · subst t1
      rw [if_neg (by decide)]
      exact zJ1 t3
    · subst t1
      rw [if_neg (by decide)]
      exact zJ2 t3
  · rw [zb3_of t1, if_pos rfl, t2]
    unfold fX9_readSecond_285
    simp only [zlit]
    rcases (show d = 0 ∨ d = 1 by omega) with e | e
    · subst e
      rw [if_pos rfl, if_pos rfl]
      exact zend2 hw1 hw hh1 hh hn t4 (zPd_pic t5)
    · subst e
      rw [if_neg (by decide), if_neg (by decide)]
      rcases zbl hn t3 t4 hB hB' with ⟨a1, c1, q1, q2, q3, q4, e1, e2⟩ | ⟨x, y, r, b, e1, e2⟩
      · rw [zb3_of e1, if_pos rfl, zb3_of e2]
        exact zend2 hw1 hw hh1 hh hn q2 (zPd_pic t5)
      · rw [zb3_of e1, if_neg (by decide), zb3_of e2]
        exact zJ1 (zF294 zn2)
theorem zbody2b {w h n a d g m : Nat} {fb rf dp fr one : Nat → Int32} {B : Nat → Nat} (hw1 : 1 ≤ w) (hw : w ≤ 8) (hh1 : 1 ≤ h) (hh : h ≤ 8) (hn : n ≤ 800) (hB : zByt n fb B) (hB' : zByt n rf B) (hd : d ≤ 1) (hg1 : 1 ≤ g) (hg : g ≤ 255) (hm : m < 256) (h0 : 1 ≤ a) (ha : a ≤ n) :
    zJ zg2 zq2 (fX6_read_104 (nI d) (nI g) (nI a) (nI n) fb dp (nI m) (nI w) (nI h)) (fX9_readSecond_97 (nI n) (nI a) (nI 0) (nI w) (nI h) rf fr one (nI m) (nI g) (nI d)) := by
  unfold fX6_read_104 fX6_read_126 fX9_readSecond_97 fX9_readSecond_109
  simp only [zlit]
  rw [zb3_of (zbegin _ _ _)]
  by_cases c1 : m = 51
  · subst c1
    rw [if_pos rfl, if_pos rfl]
    exact zbody2 hw1 hw hh1 hh hn hB hB' hd hg1 hg (Or.inr ⟨rfl, rfl⟩) h0 ha
  · have n1 : ¬ (nI m = nI 51) := by rw [nI_eq_nI (by omega) (by decide)]; exact c1
    rw [if_neg n1, if_neg n1]
    by_cases c2 : m = 54
    · subst c2
      rw [if_pos rfl, if_pos rfl]
      exact zbody2 hw1 hw hh1 hh hn hB hB' hd hg1 hg (Or.inr ⟨rfl, rfl⟩) h0 ha
    · have n2 : ¬ (nI m = nI 54) := by rw [nI_eq_nI (by omega) (by decide)]; exact c2
      rw [if_neg n2, if_neg n2]
      exact zbody2 hw1 hw hh1 hh hn hB hB' hd hg1 hg (Or.inl ⟨rfl, rfl⟩) h0 ha
theorem zread2 {n : Nat} {fb rf dp fr one : Nat → Int32} {B : Nat → Nat} {md mg dw dh : Int32} (hn : n ≤ 800) (hB : zByt n fb B) (hB' : zByt n rf B) (h2 : 2 ≤ n) (hm : B 1 = 50 ∨ B 1 = 51 ∨ B 1 = 53 ∨ B 1 = 54) :
    zJ zg2 zq2 (fX6_read md mg (nI 0) (nI n) fb dw dh dp) (fX9_readSecond (nI n) (nI 0) (nI 0) rf fr one) := by
  unfold fX6_read fX9_readSecond fX6_read_23
  simp only [zlit]
  have p1 : fX7_pass (nI 0) (nI n) fb (nI 1) = some (0, nI 1) := zpass (k := 1) (a := 0) hn hB (by omega)
  have s2 : fX9_skip (nI n) (nI 0) (nI 0) rf (nI 2) = some (nI 2, nI 0) := zskip (k := 2) (a := 0) hn hB' (by omega)
  have x1 : fX7_next (nI 1) (nI n) fb = some (0, nI (B 1), nI 2) := znext8 (a := 1) hn hB (by omega)
  have bv := hB.1 1
  rw [zb2_of p1, if_pos rfl, zb3_of x1, if_pos rfl, zrdB hB' hn 1 (by omega), zb2_of s2]
  have main : ∀ d : Nat, d ≤ 1 → (d = 1 ↔ B 1 < 53) → zJ zg2 zq2 (fX6_read_28 mg (nI 2) (nI n) fb dw dh dp (nI (B 1)) (nI d)) (zb3 (fX9_decimal (nI n) (nI 2) (nI 0) rf) fun r6 u7 u8 => zb2 (fX9_sideOf u8 r6) fun r10 u11 => zb3 (fX9_decimal (nI n) u7 u11 rf) fun r13 u14 u15 => zb2 (fX9_sideOf u15 r13) fun r17 u18 => zb3 (fX9_decimal (nI n) u14 u18 rf) fun r20 u21 u22 => if r20 < nI 1 then fX9_readSecond_54 (nI n) u21 u22 r10 r17 rf fr one (nI (B 1)) r20 else if r20 ≤ nI 255 then fX9_readSecond_59 (nI n) u21 u22 r10 r17 rf fr one (nI (B 1)) r20 (nI 0) else fX9_readSecond_54 (nI n) u21 u22 r10 r17 rf fr one (nI (B 1)) r20) := by
    intro d hd hdm
    have fall : ∀ (t : Nat) (x : Int32 × Int32 × Int32 × Int32 × Int32 × (Nat → Int32)) (R : Option (Int32 × Int32 × Int32 × Int32 × (Nat → Int32) × (Nat → Int32))), (t = 1 ∨ t = 2) → zS (zft t) R → zJ zg2 zq2 (some (t, x)) R := fun t x R ht hR => Or.inl ⟨t, x, ht, rfl, hR⟩
    have last : ∀ (F u21 r10 r17 r20 : Int32), (F = nI 0) = False → zS F (if r20 < nI 1 then fX9_readSecond_54 (nI n) u21 F r10 r17 rf fr one (nI (B 1)) r20 else if r20 ≤ nI 255 then fX9_readSecond_59 (nI n) u21 F r10 r17 rf fr one (nI (B 1)) r20 (nI 0) else fX9_readSecond_54 (nI n) u21 F r10 r17 rf fr one (nI (B 1)) r20) := by
      intro F u21 r10 r17 r20 hF
      unfold fX9_readSecond_54
      exact zS_ite (zF59 hF) (zS_ite (zF59 hF) (zF59 hF))
    unfold fX6_read_28 fX6_read_82
    have zb : ∀ {α : Type} (o : Option α), zbo (nI d) o = o := by
      intro α o
      unfold zbo
      rcases (show d = 0 ∨ d = 1 by omega) with e | e
      · subst e; rfl
      · subst e; rfl
    rw [zb]
    simp only [zlit]
    rcases zdec (a := 2) hn (by decide) h2 hB hB' with ⟨a1, v1, q1, q2, q3, q4, q5⟩ | ⟨t, x, y, r, b, q1, q2, q3⟩
    · rw [zb3_of q4, if_pos rfl, zb3_of q5]
      rcases zsd (nI v1) with ⟨s1, s2⟩ | ⟨w, w1, w2, w3, s1, s2⟩
      · rw [zb2_of s1, if_neg (by decide), zb2_of s2, zb3_of (zdecF zn3), zb2_of (zsideF zn3), zb3_of (zdecF zn3)]
        exact zJ2 (last _ _ _ _ _ zn3)
      · rw [zb2_of s1, if_pos rfl, zb2_of s2]
        rcases zdec (a := a1) hn (by omega) q2 hB hB' with ⟨a2, v2, r1, r2, r3, r4, r5⟩ | ⟨t, x, y, r, b, r1, r2, r3⟩
        · rw [zb3_of r4, if_pos rfl, zb3_of r5]
          rcases zsd (nI v2) with ⟨s3, s4⟩ | ⟨h, h1, h2', h3, s3, s4⟩
          · rw [zb2_of s3, if_neg (by decide), zb2_of s4, zb3_of (zdecF zn3)]
            exact zJ2 (last _ _ _ _ _ zn3)
          · rw [zb2_of s3, if_pos rfl, zb2_of s4]
            rcases zdec (a := a2) hn (by omega) r2 hB hB' with ⟨a3, g, o1, o2, o3, o4, o5⟩ | ⟨t, x, y, r, b, o1, o2, o3⟩
            · rw [zb3_of o4, if_pos rfl, zb3_of o5]
              have L1 : (nI g < nI 1) = (g < 1) := nI_lt_nI (by omega) (by decide)
              have L2 : (nI 255 < nI g) = (255 < g) := nI_lt_nI (by decide) (by omega)
              have L3 : (nI g ≤ nI 255) = (g ≤ 255) := nI_le_nI (by omega) (by decide)
              simp only [L1, L2, L3]
              unfold fX9_readSecond_54 fX6_read_83 fX9_readSecond_59
              simp only [zlit]
              by_cases cg : 1 ≤ g ∧ g ≤ 255
              · rw [if_neg (show ¬ g < 1 by omega), if_neg (show ¬ 255 < g by omega), if_neg (show ¬ g < 1 by omega), if_pos cg.2, zb1_of zneed1, if_pos rfl, zb1_of zbrok0]
                have L4 : (nI 53 ≤ nI (B 1)) = (53 ≤ B 1) := nI_le_nI (by decide) (by omega)
                simp only [L4]
                unfold fX9_readSecond_73
                rcases (show d = 0 ∨ d = 1 by omega) with e | e
                · subst e
                  rw [if_pos rfl, if_pos (show 53 ≤ B 1 by omega)]
                  simp only [zlit]
                  rw [if_pos trivial]
                  by_cases c3 : a3 < n
                  · have bw := hB.1 a3
                    rw [zb3_of (znext8 hn hB c3), if_pos rfl, zb3_of (znext9 hn hB' c3)]
                    unfold fX9_readSecond_94
                    by_cases c4 : zsp (B a3)
                    · rw [zb1_of (zspY8 bw c4), zb1_of zneed1, if_pos rfl, zb1_of (zspY9 bw c4), if_neg (by decide), zb1_of zbrok0]
                      exact zbody2b w1 w2 h1 h2' hn hB hB' (by decide) cg.1 cg.2 bv (by omega) (by omega)
                    · rw [zb1_of (zspN8 bw c4), zb1_of zneed0, if_neg (by decide), zb1_of (zspN9 bw c4), if_pos rfl, zb1_of zbrok1]
                      exact zJ2 (zF97 zn3)
                  · have e : n = a3 := by omega
                    have s0 : fX9_space (nI 0) = some (nI 0) := zspN9 (by decide) (by unfold zsp; decide)
                    unfold fX9_readSecond_94
                    rw [zb3_of (znext8e hn e), if_neg (by decide), zb3_of (znext9e hn e), zb1_of s0, if_pos rfl, zb1_of (zbrokF zn2)]
                    exact zJ1 (zF97 zn2)
                · subst e
                  rw [if_neg (by decide), if_neg (show ¬ 53 ≤ B 1 by omega)]
                  simp only [zlit]
                  rw [if_neg (by decide)]
                  exact zbody2b w1 w2 h1 h2' hn hB hB' (by decide) cg.1 cg.2 bv (by omega) o2
              · have cls : (if g < 1 then zb1 (fX7_need (nI 0)) fun tg1 => if tg1 = 0 then if nI d = nI 0 then zb3 (fX7_next (nI a3) (nI n) fb) fun tg4 r5 u6 => if tg4 = 0 then zb1 (fX6_isSpace r5) fun r8 => zb1 (fX7_need r8) fun tg10 => if tg10 = 0 then fX6_read_104 (nI d) (nI g) u6 (nI n) fb dp (nI (B 1)) (nI w) (nI h) else some (tg10, nI d, nI g, u6, dw, dh, dp) else some (tg4, nI d, nI g, u6, dw, dh, dp) else fX6_read_104 (nI d) (nI g) (nI a3) (nI n) fb dp (nI (B 1)) (nI w) (nI h) else some (tg1, nI d, nI g, nI a3, dw, dh, dp) else if 255 < g then zb1 (fX7_need (nI 0)) fun tg1 => if tg1 = 0 then if nI d = nI 0 then zb3 (fX7_next (nI a3) (nI n) fb) fun tg4 r5 u6 => if tg4 = 0 then zb1 (fX6_isSpace r5) fun r8 => zb1 (fX7_need r8) fun tg10 => if tg10 = 0 then fX6_read_104 (nI d) (nI g) u6 (nI n) fb dp (nI (B 1)) (nI w) (nI h) else some (tg10, nI d, nI g, u6, dw, dh, dp) else some (tg4, nI d, nI g, u6, dw, dh, dp) else fX6_read_104 (nI d) (nI g) (nI a3) (nI n) fb dp (nI (B 1)) (nI w) (nI h) else some (tg1, nI d, nI g, nI a3, dw, dh, dp) else zb1 (fX7_need (nI 1)) fun tg1 => if tg1 = 0 then if nI d = nI 0 then zb3 (fX7_next (nI a3) (nI n) fb) fun tg4 r5 u6 => if tg4 = 0 then zb1 (fX6_isSpace r5) fun r8 => zb1 (fX7_need r8) fun tg10 => if tg10 = 0 then fX6_read_104 (nI d) (nI g) u6 (nI n) fb dp (nI (B 1)) (nI w) (nI h) else some (tg10, nI d, nI g, u6, dw, dh, dp) else some (tg4, nI d, nI g, u6, dw, dh, dp) else fX6_read_104 (nI d) (nI g) (nI a3) (nI n) fb dp (nI (B 1)) (nI w) (nI h) else some (tg1, nI d, nI g, nI a3, dw, dh, dp)) = some (2, nI d, nI g, nI a3, dw, dh, dp) := by
                  by_cases z : g < 1
                  · rw [if_pos z, zb1_of zneed0, if_neg (by decide)]
                  · rw [if_neg z, if_pos (show 255 < g by omega), zb1_of zneed0, if_neg (by decide)]
                rw [cls]
                refine zJ2 ?_
                by_cases z : g < 1
                · rw [if_pos z, zb1_of zbrok1]
                  exact zS_ite (zF73 zn3) (zF73 zn3)
                · rw [if_neg z, if_neg (show ¬ g ≤ 255 by omega), zb1_of zbrok1]
                  exact zS_ite (zF73 zn3) (zF73 zn3)
            · rw [zb3_of o2, zb3_of o3, if_neg (by omega)]
              exact fall t _ _ o1 (last _ _ _ _ _ (zft_ne t))
        · rw [zb3_of r2, zb3_of r3, if_neg (by omega), zb2_of (zsideF (zft_ne t)), zb3_of (zdecF (zft_ne t))]
          exact fall t _ _ r1 (last _ _ _ _ _ (zft_ne t))
    · rw [zb3_of q2, zb3_of q3, if_neg (by omega), zb2_of (zsideF (zft_ne t)), zb3_of (zdecF (zft_ne t)), zb2_of (zsideF (zft_ne t)), zb3_of (zdecF (zft_ne t))]
      exact fall t _ _ q1 (last _ _ _ _ _ (zft_ne t))
  have E : ∀ m, m < 256 → (nI (B 1) = nI m) = (B 1 = m) := fun m h => nI_eq_nI (by omega) (by omega)
  simp only [E 50 (by decide), E 51 (by decide)]
  by_cases c1 : B 1 = 50
  · rw [if_pos c1]
    exact main 1 (by decide) ⟨fun _ => by omega, fun _ => rfl⟩
  · rw [if_neg c1]
    by_cases c2 : B 1 = 51
    · rw [if_pos c2]
      exact main 1 (by decide) ⟨fun _ => by omega, fun _ => rfl⟩
    · rw [if_neg c2]
      exact main 0 (by decide) ⟨fun z => by omega, fun z => by omega⟩
