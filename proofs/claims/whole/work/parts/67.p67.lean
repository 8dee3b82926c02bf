/-! The first format's header. -/
theorem zread1 {n : Nat} {fb rf dp fr tb tr la one : Nat → Int32} {B : Nat → Nat} {L dw dh : Int32} (hn : n ≤ 800) (hB : zByt n fb B) (hB' : zByt n rf B) :
    zJ zg1 zq1 (fX1_read L tb (nI 0) (nI n) fb dw dh dp) (fX9_readFirst (nI n) (nI 0) (nI 0) rf fr tr la one) := by
  unfold fX1_read fX9_readFirst
  simp only [zlit]
  by_cases c1 : 4 ≤ n
  · have p4 : fX7_pass (nI 0) (nI n) fb (nI 4) = some (0, nI 4) := zpass (k := 4) (a := 0) hn hB (by omega)
    have s4 : fX9_skip (nI n) (nI 0) (nI 0) rf (nI 4) = some (nI 4, nI 0) := zskip (k := 4) (a := 0) hn hB' (by omega)
    rw [zb2_of p4, if_pos rfl, zb2_of s4]
    rcases @zbig n 4 4 fb rf B hn (by decide) hB hB' c1 with ⟨u, e1, e2, e3⟩ | ⟨e1, r, e2⟩
    · rw [zb3_of e1, if_pos rfl, zb3_of e2]
      rcases zsd u with ⟨s1, s2⟩ | ⟨w, w1, w2, w3, s1, s2⟩
      · rw [zb2_of s1, if_neg (by decide), zb2_of s2, zb3_of (znumF zn3 (by decide)), zb2_of (zsideF zn3), zb3_of (znextF zn3), if_neg (by decide), if_neg (by decide)]
        exact zJ2 (zF54 zn3)
      · subst w3
        rw [zb2_of s1, if_pos rfl, zb2_of s2]
        rcases @zbig n 4 8 fb rf B hn (by decide) hB hB' (by omega) with ⟨v, e4, e5, e6⟩ | ⟨e4, r, e5⟩
        · rw [zb3_of e4, if_pos rfl, zb3_of e5]
          rcases zsd v with ⟨s3, s4'⟩ | ⟨h, h1, h2, h3, s3, s4'⟩
          · rw [zb2_of s3, if_neg (by decide), zb2_of s4', zb3_of (znextF zn3), if_neg (by decide), if_neg (by decide)]
            exact zJ2 (zF54 zn3)
          · subst h3
            rw [zb2_of s3, if_pos rfl, zb2_of s4']
            by_cases c2 : 12 < n
            · have x8 : fX7_next (nI (8 + 4)) (nI n) fb = some (0, nI (B 12), nI 13) := znext8 (a := 12) hn hB c2
              have x9 : fX9_next (nI n) (nI (8 + 4)) (nI 0) rf = some (nI (B 12), nI 13, nI 0) := znext9 (a := 12) hn hB' c2
              have bv := hB.1 12
              rw [zb3_of x8, if_pos rfl, zb3_of x9]
              by_cases c3 : B 12 = 3 ∨ B 12 = 4
              · have main : zJ zg1 zq1 (fX1_read_45 L tb (nI 13) (nI n) fb dw dh dp (nI w) (nI h)) (fX9_readFirst_53 (nI n) (nI 13) (nI 0) (nI w) (nI h) rf fr tr la one) := by
                  have hs := zmul64 w2 h2
                  unfold fX1_read_45 fX1_read_50 fX9_readFirst_53 fX9_readFirst_54
                  simp only [zlit]
                  rw [zb1_of zneed1, if_pos rfl, zb1_of zbrok0]
                  obtain ⟨tr0, la0, k1, k2, k3⟩ := @zclear tr la tb
                  by_cases c4 : 13 < n
                  · have bv := hB.1 13
                    rw [zb3_of (znext8 hn hB c4), if_pos rfl, zb3_of (znext9 hn hB' c4)]
                    unfold fX1_read_67 fX9_readFirst_71
                    by_cases c5 : B 13 ≤ 1
                    · rw [if_neg (by rw [nI_lt_nI (by decide) (by omega)]; omega), if_pos (by rw [nI_le_nI (by omega) (by decide)]; omega)]
                      unfold fX1_readChunks
                      rw [zb1_of zneed1, if_pos rfl, zb3_of (zbegin _ _ _), zb2_of zforget, zb1_of zcount, zb1_of zbrok0, zb2_of k1]
                      simp only [zlit]
                      rcases zrf w2 h2 hn hB hB' 1000 1000 0 14 (nI 255) (fun j => if j < 64 then nI 0 else tb j) (fun j => if j < 64 then nI 255 else dp j) tr0 la0 one fr (by omega) (by omega) (by omega) (by omega) k2 k3 (fun j c hj => absurd hj (Nat.not_lt_zero j)) with ⟨t, x, t1, t2, t3⟩ | ⟨L', tb', dp', tr', la', one', fr', a', t1, t2, t3, t4⟩
                      · obtain ⟨x1, x2, x3, x4⟩ := x
                        rw [zb5_of t2]
                        rcases t1 with t1 | t1
                        · subst t1
                          rw [if_neg (by decide)]
                          exact zJ1 t3
                        · subst t1
                          rw [if_neg (by decide)]
                          exact zJ2 t3
                      · have g := zend1 (L := L') (tb := tb') (tr := tr') (la := la') (one := one') w1 w2 h1 h2 hn hB hB' (zPd_pic t4) 1000 1000 0 a' (by omega) (by omega) (by omega) t3
                        rw [zb5_of t1, if_pos rfl, t2]
                        unfold fX9_readFirst_253
                        simp only [zlit]
                        exact g
                    · rw [if_pos (by rw [nI_lt_nI (by decide) (by omega)]; omega), if_neg (by rw [nI_le_nI (by omega) (by decide)]; omega)]
                      rw [zb1_of zneed0, if_neg (by decide), zb1_of zbrok1, zb2_of k1]
                      exact zJ2 (zF80 zn3)
                  · have e : n = 13 := by omega
                    unfold fX9_readFirst_71
                    rw [zb3_of (znext8e hn e), if_neg (by decide), zb3_of (znext9e hn e), if_pos (by decide), zb1_of (zbrokF zn2), zb2_of k1]
                    exact zJ1 (zF80 zn2)
                rcases c3 with c3 | c3
                · rw [c3, if_pos rfl, if_pos rfl]
                  exact main
                · rw [c3, if_neg (by decide), if_pos rfl, if_neg (by decide), if_pos rfl]
                  exact main
              · have n3 : ¬ (nI (B 12) = nI 3) := by rw [nI_eq_nI (by omega) (by decide)]; omega
                have n4 : ¬ (nI (B 12) = nI 4) := by rw [nI_eq_nI (by omega) (by decide)]; omega
                rw [if_neg n3, if_neg n4, if_neg n3, if_neg n4]
                unfold fX1_read_50
                simp only [zlit]
                rw [zb1_of zneed0, if_neg (by decide)]
                refine zJ2 ?_
                unfold fX9_readFirst_54 fX9_readFirst_71
                obtain ⟨tr0, la0, k1, k2, k3⟩ := @zclear tr la tb
                simp only [zlit]
                rw [zb1_of zbrok1, zb3_of (znextF zn3), if_pos (by decide), zb1_of (zbrokF zn3), zb2_of k1]
                exact zF80 zn3
            · have e : n = 12 := by omega
              have x8 : fX7_next (nI (8 + 4)) (nI n) fb = some (1, nI 0, nI 12) := znext8e (a := 12) hn e
              have x9 : fX9_next (nI n) (nI (8 + 4)) (nI 0) rf = some (nI 0, nI 12, -(nI 2)) := znext9e (a := 12) hn e
              rw [zb3_of x8, if_neg (by decide), zb3_of x9, if_neg (by decide), if_neg (by decide)]
              exact zJ1 (zF54 zn2)
        · rw [zb3_of e4, if_neg (by decide), zb3_of e5, zb2_of (zsideF zn2), zb3_of (znextF zn2), if_neg (by decide), if_neg (by decide)]
          exact zJ1 (zF54 zn2)
    · rw [zb3_of e1, if_neg (by decide), zb3_of e2, zb2_of (zsideF zn2), zb3_of (znumF zn2 (by decide)), zb2_of (zsideF zn2), zb3_of (znextF zn2), if_neg (by decide), if_neg (by decide)]
      exact zJ1 (zF54 zn2)
  · have p4 : fX7_pass (nI 0) (nI n) fb (nI 4) = some (1, nI n) := zpassE (k := 4) (a := 0) hn (by decide) hB (by omega) (by omega)
    have s4 : fX9_skip (nI n) (nI 0) (nI 0) rf (nI 4) = some (nI n, -(nI 2)) := zskipE (k := 4) (a := 0) hn (by decide) hB' (by omega) (by omega)
    rw [zb2_of p4, if_neg (by decide), zb2_of s4, zb3_of (znumF zn2 (by decide)), zb2_of (zsideF zn2), zb3_of (znumF zn2 (by decide)), zb2_of (zsideF zn2), zb3_of (znextF zn2), if_neg (by decide), if_neg (by decide)]
    exact zJ1 (zF54 zn2)
