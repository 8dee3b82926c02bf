/-! The third format's header. -/
/-- the header is read alike -/
def zH3 (n : Nat) (off l2 : Int32) (rf fr col one : Nat → Int32) (A : Option (Nat × Int32 × Int32 × Int32 × Int32 × Int32 × Int32 × Int32 × (Nat → Int32))) (R : Option (Int32 × Int32 × Int32 × Int32 × Int32 × (Nat → Int32) × (Nat → Int32) × (Nat → Int32))) : Prop :=
  (∃ (t : Nat) (z : Int32 × Int32 × Int32 × Int32 × Int32 × Int32 × Int32 × (Nat → Int32)), (t = 1 ∨ t = 2) ∧ A = some (t, z) ∧ zS (zft t) R) ∨
  (∃ (K dd pk ld w h a : Nat) (dp : Nat → Int32), a ≤ n ∧ K ≤ 64 ∧ (dd = 8 ∨ dd = 24) ∧ pk ≤ 1 ∧ ld ≤ 1 ∧ (ld = 0 ↔ l2 ≤ nI 0) ∧ (pk = 1 → dd = 8 ∧ 1 ≤ K ∧ ld = 1) ∧ 1 ≤ w ∧ w ≤ 8 ∧ 1 ≤ h ∧ h ≤ 8 ∧ A = some (0, nI K, nI dd, nI pk, nI ld, nI a, nI w, nI h, dp) ∧ R = fX9_readThird_212 1000 (nI n) (nI a) (nI 0) (nI w) (nI h) (nI K) rf fr col one off l2 (nI dd) (nI pk) (nI 0))
theorem zH3_1 {n : Nat} {off l2 : Int32} {rf fr col one : Nat → Int32} {z : Int32 × Int32 × Int32 × Int32 × Int32 × Int32 × Int32 × (Nat → Int32)} {R : Option (Int32 × Int32 × Int32 × Int32 × Int32 × (Nat → Int32) × (Nat → Int32) × (Nat → Int32))} (h : zS (-(nI 2)) R) : zH3 n off l2 rf fr col one (some (1, z)) R := Or.inl ⟨1, z, Or.inl rfl, rfl, h⟩
theorem zH3_2 {n : Nat} {off l2 : Int32} {rf fr col one : Nat → Int32} {z : Int32 × Int32 × Int32 × Int32 × Int32 × Int32 × Int32 × (Nat → Int32)} {R : Option (Int32 × Int32 × Int32 × Int32 × Int32 × (Nat → Int32) × (Nat → Int32) × (Nat → Int32))} (h : zS (-(nI 3)) R) : zH3 n off l2 rf fr col one (some (2, z)) R := Or.inl ⟨2, z, Or.inr rfl, rfl, h⟩
theorem zh236 {n w h K dd pk ld a : Nat} {fb rf fr col one dp : Nat → Int32} {B : Nat → Nat} {off l2 pw ph : Int32} (hn : n ≤ 800) (hB : zByt n fb B) (hB' : zByt n rf B) (ha : a ≤ n) (hK : K ≤ 64) (hd : dd = 8 ∨ dd = 24) (hpk : pk ≤ 1) (hld : ld ≤ 1) (hl2 : ld = 0 ↔ l2 ≤ nI 0) (hp1 : pk = 1 → dd = 8 ∧ 1 ≤ K ∧ ld = 1) (w1 : 1 ≤ w) (w2 : w ≤ 8) (h1 : 1 ≤ h) (h2 : h ≤ 8) :
    zH3 n off l2 rf fr col one (fX0_readHeader_236 (nI K) (nI dd) (nI pk) (nI ld) (nI a) (nI n) fb pw ph dp (nI w) (nI h) (nI 1)) (fX9_readThird_201 (nI n) (nI a) (nI 0) (nI w) (nI h) (nI K) rf fr col one off l2 (nI dd) (nI pk) (nI 0)) := by
  unfold fX0_readHeader_236 fX9_readThird_201
  simp only [zlit]
  rw [zb1_of zneed1, if_pos rfl, zb1_of zbrok0]
  by_cases c : a + 4 ≤ n
  · rw [zb2_of (zpass hn hB c), if_pos rfl, zb2_of (zskip hn hB' c), zb3_of (zbegin _ _ _)]
    exact Or.inr ⟨K, dd, pk, ld, w, h, a + 4, _, c, hK, hd, hpk, hld, hl2, hp1, w1, w2, h1, h2, rfl, rfl⟩
  · rw [zb2_of (zpassE hn (by decide) hB ha (by omega)), if_neg (by decide), zb2_of (zskipE hn (by decide) hB' ha (by omega))]
    exact zH3_1 (zF212 zn2)
theorem zh236N {n : Nat} {fb rf fr col one dp : Nat → Int32} {off l2 pw ph kn dd pk ld pl w h c a : Int32} :
    zH3 n off l2 rf fr col one (fX0_readHeader_236 kn dd pk ld pl (nI n) fb pw ph dp w h (nI 0)) (fX9_readThird_201 (nI n) a (nI 0) w h c rf fr col one off l2 dd pk (nI 1)) := by
  unfold fX0_readHeader_236 fX9_readThird_201
  simp only [zlit]
  rw [zb1_of zneed0, if_neg (by decide), zb1_of zbrok1, zb2_of (zskipF zn3)]
  exact zH3_2 (zF212 zn3)
theorem zh171 {n w h dd pk ld a : Nat} {fb rf fr col one dp : Nat → Int32} {B : Nat → Nat} {off l2 pw ph kn : Int32} (hn : n ≤ 800) (hB : zByt n fb B) (hB' : zByt n rf B) (ha : a ≤ n) (hd : dd = 8 ∨ dd = 24) (hpk : pk ≤ 1) (hld : ld ≤ 1) (hl2 : ld = 0 ↔ l2 ≤ nI 0) (hp1 : pk = 1 → dd = 8 ∧ ld = 1) (w1 : 1 ≤ w) (w2 : w ≤ 8) (h1 : 1 ≤ h) (h2 : h ≤ 8) :
    zH3 n off l2 rf fr col one (fX0_readHeader_171 kn (nI dd) (nI pk) (nI ld) (nI a) (nI n) fb pw ph dp (nI w) (nI h) (nI 1)) (fX9_readThird_138 (nI n) (nI a) (nI 0) (nI w) (nI h) rf fr col one off l2 (nI dd) (nI pk) (nI 0)) := by
  unfold fX0_readHeader_171 fX9_readThird_138 fX0_readHeader_220 fX9_readThird_181
  simp only [zlit]
  rw [zb1_of zneed1, if_pos rfl, zb1_of zbrok0]
  by_cases c : a + 12 ≤ n
  · rw [zb2_of (zpass hn hB c), if_pos rfl, zb2_of (zskip hn hB' c)]
    rcases @zlil n 4 (a + 12) fb rf B hn (by decide) hB hB' c with ⟨u, e1, e2, e3⟩ | ⟨e1, r, e2⟩
    · rw [zb3_of e1, if_pos rfl, zb3_of e2]
      rcases hd with e | e
      · subst e
        rw [if_pos rfl, if_pos rfl]
        rcases zcase u with hu | ⟨j, hj, hu⟩
        · have lt : u < nI 1 := zneg_lt hu (by decide)
          rw [if_pos lt, if_pos lt]
          exact zh236N
        · subst hu
          by_cases c1 : j < 1
          · have lt : nI j < nI 1 := by rw [nI_lt_nI (by omega) (by decide)]; exact c1
            rw [if_pos lt, if_pos lt]
            exact zh236N
          · have lt : ¬ nI j < nI 1 := by rw [nI_lt_nI (by omega) (by decide)]; exact c1
            rw [if_neg lt, if_neg lt]
            by_cases c2 : j ≤ 64
            · rw [if_neg (show ¬ nI 64 < nI j by rw [nI_lt_nI (by decide) (by omega)]; omega), if_pos (show nI j ≤ nI 64 by rw [nI_le_nI (by omega) (by decide)]; exact c2)]
              exact zh236 hn hB hB' e3 c2 (Or.inl rfl) hpk hld hl2 (fun z => ⟨rfl, by omega, (hp1 z).2⟩) w1 w2 h1 h2
            · rw [if_pos (show nI 64 < nI j by rw [nI_lt_nI (by decide) (by omega)]; omega), if_neg (show ¬ nI j ≤ nI 64 by rw [nI_le_nI (by omega) (by decide)]; exact c2)]
              exact zh236N
      · subst e
        rw [if_neg (show ¬ nI 24 = nI 8 by decide), if_neg (show ¬ nI 24 = nI 8 by decide)]
        by_cases c1 : u = nI 0
        · subst c1
          rw [if_pos rfl, if_pos rfl]
          exact zh236 hn hB hB' e3 (by decide) (Or.inr rfl) hpk hld hl2 (fun z => absurd (hp1 z).1 (by decide)) w1 w2 h1 h2
        · rw [if_neg c1, if_neg c1]
          exact zh236N
    · rw [zb3_of e1, if_neg (by decide), zb3_of e2]
      exact zH3_1 (zS_ite (zS_ite (zF201 zn2) (zS_ite (zF201 zn2) (zF201 zn2))) (zS_ite (zF201 zn2) (zF201 zn2)))
  · rw [zb2_of (zpassE hn (by decide) hB ha (by omega)), if_neg (by decide), zb2_of (zskipE hn (by decide) hB' ha (by omega)), zb3_of (znumF zn2 (by decide))]
    exact zH3_1 (zS_ite (zS_ite (zF201 zn2) (zS_ite (zF201 zn2) (zF201 zn2))) (zS_ite (zF201 zn2) (zF201 zn2)))
theorem zh171N {n : Nat} {fb rf fr col one dp : Nat → Int32} {off l2 pw ph kn dd pk ld pl w h a : Int32} :
    zH3 n off l2 rf fr col one (fX0_readHeader_171 kn dd pk ld pl (nI n) fb pw ph dp w h (nI 0)) (fX9_readThird_138 (nI n) a (nI 0) w h rf fr col one off l2 dd pk (nI 1)) := by
  unfold fX0_readHeader_171 fX9_readThird_138 fX9_readThird_181
  simp only [zlit]
  rw [zb1_of zneed0, if_neg (by decide), zb1_of zbrok1, zb2_of (zskipF zn3), zb3_of (znumF zn3 (by decide))]
  exact zH3_2 (zS_ite (zS_ite (zF201 zn3) (zS_ite (zF201 zn3) (zF201 zn3))) (zS_ite (zF201 zn3) (zF201 zn3)))
theorem zh122 {n w h dd ld a : Nat} {fb rf fr col one dp : Nat → Int32} {B : Nat → Nat} {off l2 pw ph kn pk0 : Int32} (hn : n ≤ 800) (hB : zByt n fb B) (hB' : zByt n rf B) (ha : a ≤ n) (hd : dd = 8 ∨ dd = 24) (hld : ld ≤ 1) (hl2 : ld = 0 ↔ l2 ≤ nI 0) (hl3 : ld = 1 ↔ nI 0 ≤ l2) (w1 : 1 ≤ w) (w2 : w ≤ 8) (h1 : 1 ≤ h) (h2 : h ≤ 8) :
    zH3 n off l2 rf fr col one (fX0_readHeader_122 kn (nI dd) pk0 (nI ld) (nI a) (nI n) fb pw ph dp (nI w) (nI h) (nI 1)) (fX9_readThird_100 (nI n) (nI a) (nI 0) (nI w) (nI h) rf fr col one off l2 (nI dd) (nI 0)) := by
  unfold fX0_readHeader_122 fX0_readHeader_166 fX0_readHeader_170 fX9_readThird_100 fX9_readThird_137 fX9_readThird_133
  simp only [zlit]
  rw [zb1_of zneed1, if_pos rfl, zb1_of zbrok0]
  rcases @zlil n 4 a fb rf B hn (by decide) hB hB' ha with ⟨u, e1, e2, e3⟩ | ⟨e1, r, e2⟩
  · rw [zb3_of e1, if_pos rfl, zb3_of e2]
    by_cases c0 : u = nI 0
    · subst c0
      rw [if_pos rfl, if_pos rfl]
      exact zh171 (pk := 0) hn hB hB' e3 hd (by decide) hld hl2 (fun z => absurd z (by decide)) w1 w2 h1 h2
    · rw [if_neg c0, if_neg c0]
      by_cases c1 : u = nI 1
      · subst c1
        rw [if_pos rfl, if_pos rfl]
        rcases hd with e | e
        · subst e
          rw [if_pos rfl, if_pos rfl]
          rcases (show ld = 0 ∨ ld = 1 by omega) with e | e
          · have nl : ¬ nI 0 ≤ l2 := fun z => by have := hl3.mpr z; omega
            rw [e, if_pos rfl, if_neg nl]
            exact zh171N
          · rw [e, if_neg (by decide), if_pos (hl3.mp e)]
            rw [e] at hl2
            exact zh171 (pk := 1) (ld := 1) hn hB hB' e3 (Or.inl rfl) (by decide) (by decide) hl2 (fun _ => ⟨rfl, rfl⟩) w1 w2 h1 h2
        · subst e
          rw [if_neg (show ¬ nI 24 = nI 8 by decide), if_neg (show ¬ nI 24 = nI 8 by decide)]
          exact zh171N
      · rw [if_neg c1, if_neg c1]
        exact zh171N
  · rw [zb3_of e1, if_neg (by decide), zb3_of e2]
    exact zH3_1 (zS_ite (zF138 zn2) (zS_ite (zS_ite (zS_ite (zF138 zn2) (zF138 zn2)) (zF138 zn2)) (zF138 zn2)))
theorem zh122N {n : Nat} {fb rf fr col one dp : Nat → Int32} {off l2 pw ph kn dd pk ld pl w h a : Int32} :
    zH3 n off l2 rf fr col one (fX0_readHeader_122 kn dd pk ld pl (nI n) fb pw ph dp w h (nI 0)) (fX9_readThird_100 (nI n) a (nI 0) w h rf fr col one off l2 dd (nI 1)) := by
  unfold fX0_readHeader_122 fX9_readThird_100 fX9_readThird_137 fX9_readThird_133
  simp only [zlit]
  rw [zb1_of zneed0, if_neg (by decide), zb1_of zbrok1, zb3_of (znumF zn3 (by decide))]
  exact zH3_2 (zS_ite (zF138 zn3) (zS_ite (zS_ite (zS_ite (zF138 zn3) (zF138 zn3)) (zF138 zn3)) (zF138 zn3)))
theorem zh66 {n w ld a : Nat} {fb rf fr col one dp : Nat → Int32} {B : Nat → Nat} {off l2 pw ph kn dd0 pk0 k : Int32} (hn : n ≤ 800) (hB : zByt n fb B) (hB' : zByt n rf B) (ha : a ≤ n) (hld : ld ≤ 1) (hl2 : ld = 0 ↔ l2 ≤ nI 0) (hl3 : k = nI 0 ∨ (ld = 1 ↔ nI 0 ≤ l2)) (w1 : 1 ≤ w) (w2 : w ≤ 8) :
    zH3 n off l2 rf fr col one (fX0_readHeader_66 kn dd0 pk0 (nI ld) (nI a) (nI n) fb pw ph dp (nI w) k) (fX9_readThird_58 (nI n) (nI a) (nI 0) (nI w) rf fr col one off l2 k) := by
  unfold fX0_readHeader_66 fX9_readThird_58
  simp only [zlit]
  have fin : ∀ (F b r1 r10 : Int32), (F = nI 0) = False → zS F (if r10 = nI 8 then fX9_readThird_99 (nI n) b F (nI w) r1 rf fr col one off l2 r10 else if r10 = nI 24 then fX9_readThird_99 (nI n) b F (nI w) r1 rf fr col one off l2 r10 else fX9_readThird_100 (nI n) b F (nI w) r1 rf fr col one off l2 r10 (nI 1)) := by
    intro F b r1 r10 hF
    unfold fX9_readThird_99
    exact zS_ite (zF100 hF) (zS_ite (zF100 hF) (zF100 hF))
  rcases zsd k with ⟨s1, s2⟩ | ⟨h, h1, h2, h3, s1, s2⟩
  · rw [zb2_of s1, if_neg (by decide), zb2_of s2, zb3_of (znumF zn3 (by decide)), zb1_of (zmustF zn3), zb3_of (znumF zn3 (by decide))]
    exact zH3_2 (fin _ _ _ _ zn3)
  · have hl3' : ld = 1 ↔ nI 0 ≤ l2 := by
      rcases hl3 with z | z
      · rw [z, nI_eq_nI (by decide) (by omega)] at h3
        omega
      · exact z
    rw [zb2_of s1, if_pos rfl, zb2_of s2]
    rcases @zlil n 2 a fb rf B hn (by decide) hB hB' ha with ⟨u, e1, e2, e3⟩ | ⟨e1, r, e2⟩
    · rw [zb3_of e1, if_pos rfl, zb3_of e2]
      unfold fX0_readHeader_86
      simp only [zlit]
      by_cases c1 : u = nI 1
      · subst c1
        rw [if_pos rfl, zb1_of zneed1, if_pos rfl, zb1_of zmust0]
        rcases @zlil n 2 (a + 2) fb rf B hn (by decide) hB hB' e3 with ⟨v, e4, e5, e6⟩ | ⟨e4, r, e5⟩
        · rw [zb3_of e4, if_pos rfl, zb3_of e5]
          unfold fX0_readHeader_117 fX9_readThird_99
          simp only [zlit]
          by_cases d1 : v = nI 8
          · subst d1
            rw [if_pos rfl, if_pos rfl]
            exact zh122 (dd := 8) hn hB hB' e6 (Or.inl rfl) hld hl2 hl3' w1 w2 h1 h2
          · rw [if_neg d1, if_neg d1]
            by_cases d2 : v = nI 24
            · subst d2
              rw [if_pos rfl, if_pos rfl]
              exact zh122 (dd := 24) hn hB hB' e6 (Or.inr rfl) hld hl2 hl3' w1 w2 h1 h2
            · rw [if_neg d2, if_neg d2]
              exact zh122N
        · rw [zb3_of e4, if_neg (by decide), zb3_of e5]
          exact zH3_1 (fin _ _ _ _ zn2)
      · rw [if_neg c1, zb1_of zneed0, if_neg (by decide), zb1_of (zmust1 c1), zb3_of (znumF zn3 (by decide))]
        exact zH3_2 (fin _ _ _ _ zn3)
    · rw [zb3_of e1, if_neg (by decide), zb3_of e2, zb1_of (zmustF zn2), zb3_of (znumF zn2 (by decide))]
      exact zH3_1 (fin _ _ _ _ zn2)
theorem zle_cases (v : Int32) : (v ≤ nI 0 ∧ ¬ nI 0 ≤ v) ∨ v = nI 0 ∨ (¬ v ≤ nI 0 ∧ nI 0 ≤ v) := by
  rw [Int32.le_iff_toInt_le, Int32.le_iff_toInt_le, nI_toInt (by decide)]
  rcases (show v.toInt < 0 ∨ v.toInt = 0 ∨ 0 < v.toInt by omega) with h | h | h
  · exact Or.inl ⟨by omega, by omega⟩
  · refine Or.inr (Or.inl ?_)
    apply Int32.toInt_inj.mp
    rw [nI_toInt (by decide)]
    exact h
  · exact Or.inr (Or.inr ⟨by omega, by omega⟩)
theorem zh0 {n a : Nat} {fb rf fr col one dp : Nat → Int32} {B : Nat → Nat} {off pw ph kn dd0 pk0 iu0 : Int32} (hn : n ≤ 800) (hB : zByt n fb B) (hB' : zByt n rf B) (ha : a ≤ n) :
    ∃ l2, zH3 n off l2 rf fr col one (fX0_readHeader kn dd0 pk0 iu0 (nI a) (nI n) fb pw ph dp) (zb3 (fX9_number (nI n) (nI a) (nI 0) rf (nI 4) (nI 0)) fun r8 u9 u10 => zb1 (fX9_must u10 r8 (nI 40)) fun u12 => zb3 (fX9_number (nI n) u9 u12 rf (nI 4) (nI 0)) fun r14 u15 u16 => zb2 (fX9_sideOf u16 r14) fun r18 u19 => zb3 (fX9_number (nI n) u15 u19 rf (nI 4) (nI 0)) fun r21 u22 u23 => if nI 0 ≤ r21 then fX9_readThird_58 (nI n) u22 u23 r18 rf fr col one off r21 r21 else fX9_readThird_58 (nI n) u22 u23 r18 rf fr col one off r21 (-r21)) := by
  have fin : ∀ (F b r18 r21 : Int32), (F = nI 0) = False → zS F (if nI 0 ≤ r21 then fX9_readThird_58 (nI n) b F r18 rf fr col one off r21 r21 else fX9_readThird_58 (nI n) b F r18 rf fr col one off r21 (-r21)) := fun F b r18 r21 hF => zS_ite (zF58 hF) (zF58 hF)
  unfold fX0_readHeader
  simp only [zlit]
  rcases @zlil n 4 a fb rf B hn (by decide) hB hB' ha with ⟨u, e1, e2, e3⟩ | ⟨e1, r, e2⟩
  · rw [zb3_of e1, if_pos rfl, zb3_of e2]
    unfold fX0_readHeader_16
    simp only [zlit]
    by_cases c1 : u = nI 40
    · subst c1
      rw [if_pos rfl, zb1_of zneed1, if_pos rfl, zb1_of zmust0]
      rcases @zlil n 4 (a + 4) fb rf B hn (by decide) hB hB' e3 with ⟨v, e4, e5, e6⟩ | ⟨e4, r, e5⟩
      · rw [zb3_of e4, if_pos rfl, zb3_of e5]
        rcases zsd v with ⟨s1, s2⟩ | ⟨w, w1, w2, w3, s1, s2⟩
        · rw [zb2_of s1, if_neg (by decide), zb2_of s2, zb3_of (znumF zn3 (by decide))]
          exact ⟨nI 0, zH3_2 (fin _ _ _ _ zn3)⟩
        · rw [zb2_of s1, if_pos rfl, zb2_of s2]
          rcases @zlil n 4 (a + 4 + 4) fb rf B hn (by decide) hB hB' e6 with ⟨x, e7, e8, e9⟩ | ⟨e7, r, e8⟩
          · rw [zb3_of e7, if_pos rfl, zb3_of e8]
            refine ⟨x, ?_⟩
            unfold fX0_readHeader_47
            simp only [zlit]
            have zb0 : ∀ {α : Type} (o : Option α), zbo (nI 0) o = o := fun o => rfl
            have zb1' : ∀ {α : Type} (o : Option α), zbo (nI 1) o = o := fun o => rfl
            rw [zb0, zb1', if_pos trivial, if_neg (show ¬ nI 1 = nI 0 by decide)]
            rcases zle_cases x with ⟨q1, q2⟩ | q | ⟨q1, q2⟩
            · rw [if_pos q1, if_neg q2]
              exact zh66 (ld := 0) hn hB hB' e9 (by decide) ⟨fun _ => q1, fun _ => rfl⟩ (Or.inr ⟨fun z => absurd z (by decide), fun z => absurd z q2⟩) w1 w2
            · subst q
              rw [if_pos (show nI 0 ≤ nI 0 by decide), if_pos (show nI 0 ≤ nI 0 by decide), show -(nI 0) = nI 0 by decide]
              exact zh66 (ld := 0) hn hB hB' e9 (by decide) ⟨fun _ => by decide, fun _ => rfl⟩ (Or.inl rfl) w1 w2
            · rw [if_neg q1, if_pos q2]
              exact zh66 (ld := 1) hn hB hB' e9 (by decide) ⟨fun z => absurd z (by decide), fun z => absurd z q1⟩ (Or.inr ⟨fun _ => q2, fun _ => rfl⟩) w1 w2
          · rw [zb3_of e7, if_neg (by decide), zb3_of e8]
            exact ⟨nI 0, zH3_1 (fin _ _ _ _ zn2)⟩
      · rw [zb3_of e4, if_neg (by decide), zb3_of e5, zb2_of (zsideF zn2), zb3_of (znumF zn2 (by decide))]
        exact ⟨nI 0, zH3_1 (fin _ _ _ _ zn2)⟩
    · rw [if_neg c1, zb1_of zneed0, if_neg (by decide), zb1_of (zmust1 c1), zb3_of (znumF zn3 (by decide)), zb2_of (zsideF zn3), zb3_of (znumF zn3 (by decide))]
      exact ⟨nI 0, zH3_2 (fin _ _ _ _ zn3)⟩
  · rw [zb3_of e1, if_neg (by decide), zb3_of e2, zb1_of (zmustF zn2), zb3_of (znumF zn2 (by decide)), zb2_of (zsideF zn2), zb3_of (znumF zn2 (by decide))]
    exact ⟨nI 0, zH3_1 (fin _ _ _ _ zn2)⟩
theorem zread3 {n : Nat} {fb rf dp fr col one tc : Nat → Int32} {B : Nat → Nat} {kn dd pk iu cc uu dw dh : Int32} (hn : n ≤ 800) (hB : zByt n fb B) (hB' : zByt n rf B) :
    zJ zg3 zq3 (fX0_read kn dd pk iu cc uu tc (nI 0) (nI n) fb dw dh dp) (fX9_readThird (nI n) (nI 0) (nI 0) rf fr col one) := by
  unfold fX0_read fX9_readThird
  simp only [zlit]
  have fin : ∀ (F b r18 r21 off : Int32), (F = nI 0) = False → zS F (if nI 0 ≤ r21 then fX9_readThird_58 (nI n) b F r18 rf fr col one off r21 r21 else fX9_readThird_58 (nI n) b F r18 rf fr col one off r21 (-r21)) := fun F b r18 r21 off hF => zS_ite (zF58 hF) (zF58 hF)
  by_cases c : 10 ≤ n
  · have p10 : fX7_pass (nI 0) (nI n) fb (nI 10) = some (0, nI 10) := zpass (k := 10) (a := 0) hn hB (by omega)
    have s10 : fX9_skip (nI n) (nI 0) (nI 0) rf (nI 10) = some (nI 10, nI 0) := zskip (k := 10) (a := 0) hn hB' (by omega)
    rw [zb2_of p10, if_pos rfl, zb2_of s10]
    rcases @zlil n 4 10 fb rf B hn (by decide) hB hB' c with ⟨off, e1, e2, e3⟩ | ⟨e1, r, e2⟩
    · rw [zb3_of e1, if_pos rfl, zb3_of e2]
      obtain ⟨l2, g⟩ := @zh0 n (10 + 4) fb rf fr col one dp B off dw dh kn dd pk iu hn hB hB' e3
      rcases g with ⟨t, z, t1, t2, t3⟩ | ⟨K, dd, pk, ld, w, h, a, dp', f1, f2, f3, f4, f5, f6, f7, f8, f9, f10, f11, f12, f13⟩
      · obtain ⟨z1, z2, z3, z4, z5, z6, z7, z8⟩ := z
        rw [zb9_of t2]
        rcases t1 with t1 | t1
        · subst t1
          rw [if_neg (by decide)]
          exact zJ1 t3
        · subst t1
          rw [if_neg (by decide)]
          exact zJ2 t3
      · rw [zb9_of f12, if_pos rfl, f13]
        rcases zpal (w := nI w) (h := nI h) (off := off) (l2 := l2) (l3 := nI dd) (l4 := nI pk) (dd := nI dd) (pk := nI pk) (iu := nI ld) (cc := cc) (uu := uu) (dp := dp') (fr := fr) (one := one) hn hB hB' f2 1000 1000 0 a tc col (by omega) (by omega) (by omega) f1 (fun m hm => absurd hm (Nat.not_lt_zero m)) with ⟨t, z, t1, t2, t3⟩ | ⟨a', f', tc', col', t1, t2, t3, t4⟩
        · rw [t2]
          rcases t1 with t1 | t1
          · subst t1
            exact zJ1 t3
          · subst t1
            exact zJ2 t3
        · rw [t1, t2]
          exact zoff3 f8 f9 f10 f11 hn hB hB' f3 f2 f4 f5 f6 f7 t4 t3
    · rw [zb3_of e1, if_neg (by decide), zb3_of e2, zb3_of (znumF zn2 (by decide)), zb1_of (zmustF zn2), zb3_of (znumF zn2 (by decide)), zb2_of (zsideF zn2), zb3_of (znumF zn2 (by decide))]
      exact zJ1 (fin _ _ _ _ _ zn2)
  · have p10 : fX7_pass (nI 0) (nI n) fb (nI 10) = some (1, nI n) := zpassE (k := 10) (a := 0) hn (by decide) hB (by omega) (by omega)
    have s10 : fX9_skip (nI n) (nI 0) (nI 0) rf (nI 10) = some (nI n, -(nI 2)) := zskipE (k := 10) (a := 0) hn (by decide) hB' (by omega) (by omega)
    rw [zb2_of p10, if_neg (by decide), zb2_of s10, zb3_of (znumF zn2 (by decide)), zb3_of (znumF zn2 (by decide)), zb1_of (zmustF zn2), zb3_of (znumF zn2 (by decide)), zb2_of (zsideF zn2), zb3_of (znumF zn2 (by decide))]
    exact zJ1 (fin _ _ _ _ _ zn2)
