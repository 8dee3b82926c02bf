/-! The first format's writers. -/
def zsgn (d : Int32) : Int32 := ((d + nI 128) &&& nI 255) - nI 128
theorem zsgn8 (d : Int32) : fX1_signed d = some (zsgn d) := by
  unfold fX1_signed zsgn
  simp (disch := omega) only [zlit, nI_lt_nI, nI_le_nI, nI_eq_nI, nI_add, pk_mul, pk_sub, pk_div, zrem_nI, zrd_nI, zwr_nI, zb1_some, zb2_some, zb3_some, zb4_some, zb5_some, zb6_some, zb7_some, zb8_some, zlet_eq, if_pos, if_neg, pk_us, pk_un, true_and, and_true, true_or, or_true, ↓reduceIte]
theorem zsgn_v (d : Int32) : zsgn d = (if d.toBitVec.toNat % 256 ≤ 127 then nI (d.toBitVec.toNat % 256) else nI (d.toBitVec.toNat % 256) - nI 256) := by
  unfold zsgn
  have hd := zp_nI d
  have hlt := d.toBitVec.isLt
  generalize d.toBitVec.toNat = u at hd hlt
  rw [hd, nI_add]
  have e : nI (u + 128) &&& nI 255 = nI ((u + 128) % 256) := by
    rcases (show u + 128 < 2 ^ 32 ∨ 2 ^ 32 ≤ u + 128 by omega) with q | q
    · exact zand255 q
    · have e1 : nI (u + 128) = nI (u + 128 - 2 ^ 32) := by
        apply Int32.toBitVec_inj.mp
        apply BitVec.eq_of_toNat_eq
        show (BitVec.ofNat 32 (u + 128)).toNat = (BitVec.ofNat 32 (u + 128 - 2 ^ 32)).toNat
        rw [BitVec.toNat_ofNat, BitVec.toNat_ofNat]
        omega
      rw [e1, zand255 (by omega)]
      exact congrArg nI (by omega)
  rw [e]
  by_cases c : u % 256 ≤ 127
  · rw [if_pos c, pk_sub (by omega)]
    exact congrArg nI (by omega)
  · rw [if_neg c, show (u + 128) % 256 = u % 256 - 128 by omega]
    have : nI (u % 256 - 128) = nI (u % 256) - nI 128 := (pk_sub (by omega)).symm
    rw [this]
    apply Int32.toBitVec_inj.mp
    show (nI (u % 256)).toBitVec - (nI 128).toBitVec - (nI 128).toBitVec = (nI (u % 256)).toBitVec - (nI 256).toBitVec
    generalize (nI (u % 256)).toBitVec = b
    have h1 : (nI 128).toBitVec = 128#32 := rfl
    have h2 : (nI 256).toBitVec = 256#32 := rfl
    rw [h1, h2]
    bv_omega
theorem zsgn9 (d : Int32) : fX9_signed d = some (zsgn d) := by
  unfold fX9_signed
  rw [zsgn_v]
  have hd := zp_nI d
  have hlt := d.toBitVec.isLt
  generalize d.toBitVec.toNat = u at hd hlt
  rw [hd]
  by_cases c : u % 256 ≤ 127
  · rw [if_pos c]; simp (disch := omega) only [zlit, nI_lt_nI, nI_le_nI, nI_eq_nI, nI_add, pk_mul, pk_sub, pk_div, zrem_nI, zrd_nI, zwr_nI, zb1_some, zb2_some, zb3_some, zb4_some, zb5_some, zb6_some, zb7_some, zb8_some, zlet_eq, if_pos, if_neg, pk_us, pk_un, true_and, and_true, true_or, or_true, ↓reduceIte, zand255]
  · rw [if_neg c]; simp (disch := omega) only [zlit, nI_lt_nI, nI_le_nI, nI_eq_nI, nI_add, pk_mul, pk_sub, pk_div, zrem_nI, zrd_nI, zwr_nI, zb1_some, zb2_some, zb3_some, zb4_some, zb5_some, zb6_some, zb7_some, zb8_some, zlet_eq, if_pos, if_neg, pk_us, pk_un, true_and, and_true, true_or, or_true, ↓reduceIte, zand255]
/-- within the bound -/
def zin (v : Int32) (b : Nat) : Bool := decide (¬ v < -(nI b)) && decide (¬ nI b ≤ v)
theorem zin8 (v : Int32) (b : Nat) : fX1_isWithin v (nI b) = some (zI (zin v b)) := by
  unfold fX1_isWithin zin
  by_cases c : v < -(nI b)
  · rw [if_pos c, decide_eq_false (fun r => r c)]; rfl
  · rw [if_neg c, decide_eq_true c]
    by_cases d : nI b ≤ v
    · rw [if_pos d, decide_eq_false (fun r => r d)]; rfl
    · rw [if_neg d, decide_eq_true d]; rfl
theorem zlt_le (v : Int32) {b : Nat} (hb : b < 1000) : (nI b < v) = (nI (b + 1) ≤ v) := by
  apply propext
  rw [Int32.lt_iff_toInt_lt, Int32.le_iff_toInt_le, nI_toInt (by omega), nI_toInt (by omega)]
  omega
theorem zin_nI {v : Int32} {b : Nat} (hb : b < 1000) (h : zin v b = true) : ∃ a : Nat, a < 2 * b ∧ v + nI b = nI a := by
  unfold zin at h
  rw [Bool.and_eq_true] at h
  have h1 := of_decide_eq_true h.1
  have h2 := of_decide_eq_true h.2
  rw [Int32.lt_iff_toInt_lt] at h1
  rw [Int32.le_iff_toInt_le, nI_toInt (by omega)] at h2
  have hn : (-(nI b)).toInt = -(b : Int) := by
    have : -(nI b) = nI 0 - nI b := by
      apply Int32.toBitVec_inj.mp
      show -(nI b).toBitVec = (nI 0).toBitVec - (nI b).toBitVec
      have : (nI 0).toBitVec = 0#32 := rfl
      rw [this]
      simp
    rw [this, pk_sub_toInt (by decide) (by omega)]
    simp
  rw [hn] at h1
  have hz : (v.toInt + b).toNat < 2 * b := by omega
  refine ⟨(v.toInt + b).toNat, hz, ?_⟩
  apply Int32.toInt_inj.mp
  rw [Int32.toInt_add, nI_toInt (by omega), nI_toInt (by omega)]
  rw [show (((v.toInt + b).toNat : Nat) : Int) = v.toInt + b by omega]
  apply Int.bmod_eq_of_le <;> omega
theorem zadd_v {x v b y : Int32} (h : v + b = y) : x + v = x + y - b := by
  subst h
  apply Int32.toBitVec_inj.mp
  show x.toBitVec + v.toBitVec = x.toBitVec + (v.toBitVec + b.toBitVec) - b.toBitVec
  generalize x.toBitVec = x
  generalize v.toBitVec = v
  generalize b.toBitVec = b
  bv_omega
theorem zmulc (a b : Int32) : a * b = b * a := Int32.mul_comm a b
theorem zassoc (a b c : Int32) : a + b + c = a + (b + c) := Int32.add_assoc a b c
/-- what is written for a pixel that differs from the last one in its colours only -/
def zCo (L p : Int32) (sr sg sb er eb : Int32) : List Nat :=
  if zin sr 2 && (zin sg 2 && zin sb 2) then [(nI 64 + (sr + nI 2) * nI 16 + (sg + nI 2) * nI 4 + sb + nI 2).toBitVec.toNat]
  else if zin sg 32 && (zin er 8 && zin eb 8) then [(nI 160 + sg).toBitVec.toNat, ((er + nI 8) * nI 16 + eb + nI 8).toBitVec.toNat]
  else [254, zch p 0, zch p 1, zch p 2]
theorem zCo_v {L p sr sg sb er eb : Int32} : ∀ u ∈ zCo L p sr sg sb er eb, u < 256 := by
  intro u hu
  unfold zCo at hu
  have b0 := zch_lt p 0
  have b1 := zch_lt p 1
  have b2 := zch_lt p 2
  split at hu
  · rename_i h
    rw [Bool.and_eq_true, Bool.and_eq_true] at h
    obtain ⟨a, ha, ea⟩ := zin_nI (by decide) h.1
    obtain ⟨b, hb, eb'⟩ := zin_nI (by decide) h.2.1
    obtain ⟨c, hc, ec⟩ := zin_nI (by decide) h.2.2
    rw [zassoc _ sb, ea, eb', ec, pk_mul, pk_mul, nI_add, nI_add, nI_add] at hu
    rw [ztn (by omega)] at hu
    simp at hu
    omega
  · split at hu
    · rename_i h
      rw [Bool.and_eq_true, Bool.and_eq_true] at h
      obtain ⟨a, ha, ea⟩ := zin_nI (by decide) h.1
      obtain ⟨b, hb, eb'⟩ := zin_nI (by decide) h.2.1
      obtain ⟨c, hc, ec⟩ := zin_nI (by decide) h.2.2
      rw [zadd_v ea, zassoc _ eb, eb', ec, pk_mul, nI_add, nI_add, pk_sub (by omega), ztn (by omega), ztn (by omega)] at hu
      simp at hu
      omega
    · simp at hu
      omega
theorem zCo_len {L p sr sg sb er eb : Int32} : (zCo L p sr sg sb er eb).length ≤ 4 := by
  unfold zCo
  split
  · simp
  · split
    · simp
    · simp
theorem zbig3 {f : Nat → Int32} {p : Int32} {l : List Nat} (h : l.length + 3 ≤ 800) : fX2_appendBig (nI l.length) (zw f l) (nI 3) (zushr p (nI 8)) = some (nI (l ++ [zch p 0, zch p 1, zch p 2]).length, zw f (l ++ [zch p 0, zch p 1, zch p 2])) := by
  have hlt := p.toBitVec.isLt
  unfold fX2_appendBig
  rw [zushr_n p 8 (by decide)]
  have e0 : p.toBitVec.toNat / 2 ^ 8 / 2 ^ (8 * 2) % 256 = zch p 0 := by unfold zch; simp only [Nat.reduceMul, Nat.reduceSub, Nat.reducePow]; omega
  have e1 : p.toBitVec.toNat / 2 ^ 8 / 2 ^ (8 * 1) % 256 = zch p 1 := by unfold zch; simp only [Nat.reduceMul, Nat.reduceSub, Nat.reducePow]; omega
  have e2 : p.toBitVec.toNat / 2 ^ 8 / 2 ^ (8 * 0) % 256 = zch p 2 := by unfold zch; simp only [Nat.reduceMul, Nat.reduceSub, Nat.reducePow]; omega
  simp (disch := omega) only [zlit, nI_lt_nI, nI_le_nI, nI_eq_nI, nI_add, pk_mul, pk_sub, pk_div, zrem_nI, zrd_nI, zwr_nI, zb1_some, zb2_some, zb3_some, zb4_some, zb5_some, zb6_some, zb7_some, zb8_some, zlet_eq, if_pos, if_neg, pk_us, pk_un, true_and, and_true, true_or, or_true, ↓reduceIte]
  rw [fX2_appendBig_4_s]
  simp (disch := first | omega | (simp only [List.length_append, List.length_cons, List.length_nil] <;> omega)) only [zlit, nI_lt_nI, nI_le_nI, nI_eq_nI, nI_add, pk_mul, pk_sub, pk_div, zrem_nI, zrd_nI, zwr_nI, zb1_some, zb2_some, zb3_some, zb4_some, zb5_some, zb6_some, zb7_some, zb8_some, zlet_eq, if_pos, if_neg, pk_us, pk_un, true_and, and_true, true_or, or_true, ↓reduceIte, List.append_assoc, List.cons_append, List.nil_append, zush_n, zand255, zap, e0, zm1_dec]
  rw [show zm1 2 = nI 1 from rfl, fX2_appendBig_4_s]
  simp (disch := first | omega | (simp only [List.length_append, List.length_cons, List.length_nil] <;> omega)) only [zlit, nI_lt_nI, nI_le_nI, nI_eq_nI, nI_add, pk_mul, pk_sub, pk_div, zrem_nI, zrd_nI, zwr_nI, zb1_some, zb2_some, zb3_some, zb4_some, zb5_some, zb6_some, zb7_some, zb8_some, zlet_eq, if_pos, if_neg, pk_us, pk_un, true_and, and_true, true_or, or_true, ↓reduceIte, List.append_assoc, List.cons_append, List.nil_append, zush_n, zand255, zap, e1, zm1_dec]
  rw [show zm1 1 = nI 0 from rfl, fX2_appendBig_4_s]
  simp (disch := first | omega | (simp only [List.length_append, List.length_cons, List.length_nil] <;> omega)) only [zlit, nI_lt_nI, nI_le_nI, nI_eq_nI, nI_add, pk_mul, pk_sub, pk_div, zrem_nI, zrd_nI, zwr_nI, zb1_some, zb2_some, zb3_some, zb4_some, zb5_some, zb6_some, zb7_some, zb8_some, zlet_eq, if_pos, if_neg, pk_us, pk_un, true_and, and_true, true_or, or_true, ↓reduceIte, List.append_assoc, List.cons_append, List.nil_append, zush_n, zand255, zap, e2, zm1_dec]
  rw [fX2_appendBig_4_s]
  simp (disch := omega) only [zlit, nI_lt_nI, nI_le_nI, nI_eq_nI, nI_add, pk_mul, pk_sub, pk_div, zrem_nI, zrd_nI, zwr_nI, zb1_some, zb2_some, zb3_some, zb4_some, zb5_some, zb6_some, zb7_some, zb8_some, zlet_eq, if_pos, if_neg, pk_us, pk_un, true_and, and_true, true_or, or_true, ↓reduceIte, zm1_0]
theorem zbig4 {f : Nat → Int32} {p : Int32} {l : List Nat} (h : l.length + 4 ≤ 800) : fX2_appendBig (nI l.length) (zw f l) (nI 4) p = some (nI (l ++ [zch p 0, zch p 1, zch p 2, zch p 3]).length, zw f (l ++ [zch p 0, zch p 1, zch p 2, zch p 3])) := by
  have hlt := p.toBitVec.isLt
  unfold fX2_appendBig
  have e0 := zush p 0 (by decide)
  have e1 := zush p 1 (by decide)
  have e2 := zush p 2 (by decide)
  have e3 := zush p 3 (by decide)
  simp only [Nat.reduceMul, Nat.reduceSub, Nat.sub_self, Nat.sub_zero] at e0 e1 e2 e3
  simp (disch := omega) only [zlit, nI_lt_nI, nI_le_nI, nI_eq_nI, nI_add, pk_mul, pk_sub, pk_div, zrem_nI, zrd_nI, zwr_nI, zb1_some, zb2_some, zb3_some, zb4_some, zb5_some, zb6_some, zb7_some, zb8_some, zlet_eq, if_pos, if_neg, pk_us, pk_un, true_and, and_true, true_or, or_true, ↓reduceIte]
  rw [fX2_appendBig_4_s]
  simp (disch := first | omega | (simp only [List.length_append, List.length_cons, List.length_nil] <;> omega)) only [zlit, nI_lt_nI, nI_le_nI, nI_eq_nI, nI_add, pk_mul, pk_sub, pk_div, zrem_nI, zrd_nI, zwr_nI, zb1_some, zb2_some, zb3_some, zb4_some, zb5_some, zb6_some, zb7_some, zb8_some, zlet_eq, if_pos, if_neg, pk_us, pk_un, true_and, and_true, true_or, or_true, ↓reduceIte, List.append_assoc, List.cons_append, List.nil_append, zap, e0, zm1_dec, Nat.reduceMul, Nat.reduceSub]
  rw [show zm1 3 = nI 2 from rfl, fX2_appendBig_4_s]
  simp (disch := first | omega | (simp only [List.length_append, List.length_cons, List.length_nil] <;> omega)) only [zlit, nI_lt_nI, nI_le_nI, nI_eq_nI, nI_add, pk_mul, pk_sub, pk_div, zrem_nI, zrd_nI, zwr_nI, zb1_some, zb2_some, zb3_some, zb4_some, zb5_some, zb6_some, zb7_some, zb8_some, zlet_eq, if_pos, if_neg, pk_us, pk_un, true_and, and_true, true_or, or_true, ↓reduceIte, List.append_assoc, List.cons_append, List.nil_append, zap, e1, zm1_dec, Nat.reduceMul]
  rw [show zm1 2 = nI 1 from rfl, fX2_appendBig_4_s]
  simp (disch := first | omega | (simp only [List.length_append, List.length_cons, List.length_nil] <;> omega)) only [zlit, nI_lt_nI, nI_le_nI, nI_eq_nI, nI_add, pk_mul, pk_sub, pk_div, zrem_nI, zrd_nI, zwr_nI, zb1_some, zb2_some, zb3_some, zb4_some, zb5_some, zb6_some, zb7_some, zb8_some, zlet_eq, if_pos, if_neg, pk_us, pk_un, true_and, and_true, true_or, or_true, ↓reduceIte, List.append_assoc, List.cons_append, List.nil_append, zap, e2, zm1_dec, Nat.reduceMul]
  rw [show zm1 1 = nI 0 from rfl, fX2_appendBig_4_s]
  simp (disch := first | omega | (simp only [List.length_append, List.length_cons, List.length_nil] <;> omega)) only [zlit, nI_lt_nI, nI_le_nI, nI_eq_nI, nI_add, pk_mul, pk_sub, pk_div, zrem_nI, zrd_nI, zwr_nI, zb1_some, zb2_some, zb3_some, zb4_some, zb5_some, zb6_some, zb7_some, zb8_some, zlet_eq, if_pos, if_neg, pk_us, pk_un, true_and, and_true, true_or, or_true, ↓reduceIte, List.append_assoc, List.cons_append, List.nil_append, zap, e3, zm1_dec, Nat.reduceMul, Nat.mul_zero]
  rw [fX2_appendBig_4_s]
  simp (disch := omega) only [zlit, nI_lt_nI, nI_le_nI, nI_eq_nI, nI_add, pk_mul, pk_sub, pk_div, zrem_nI, zrd_nI, zwr_nI, zb1_some, zb2_some, zb3_some, zb4_some, zb5_some, zb6_some, zb7_some, zb8_some, zlet_eq, if_pos, if_neg, pk_us, pk_un, true_and, and_true, true_or, or_true, ↓reduceIte, zm1_0]
theorem zbig4_9 {f : Nat → Int32} {v : Nat} {l : List Nat} (h : l.length + 4 ≤ 800) (hv : v < 256) : fX9_big (nI l.length) (zw f l) (nI v) = some (nI (l ++ [zch (nI v) 0, zch (nI v) 1, zch (nI v) 2, zch (nI v) 3]).length, zw f (l ++ [zch (nI v) 0, zch (nI v) 1, zch (nI v) 2, zch (nI v) 3])) := by
  unfold fX9_big
  have e : ∀ k, v / 2 ^ k < 2 ^ 32 := fun k => Nat.lt_of_le_of_lt (Nat.div_le_self _ _) (by omega)
  have e0 : v / 2 ^ (8 * 3) % 256 = zch (nI v) 0 := by unfold zch; rw [ztn (by omega)]
  have e1 : v / 2 ^ (8 * 2) % 256 = zch (nI v) 1 := by unfold zch; rw [ztn (by omega)]
  have e2 : v / 2 ^ (8 * 1) % 256 = zch (nI v) 2 := by unfold zch; rw [ztn (by omega)]
  have e3 : v / 2 ^ (8 * 0) % 256 = zch (nI v) 3 := by unfold zch; rw [ztn (by omega)]
  rw [fX9_big_2_s]
  simp (disch := first | omega | (simp only [List.length_append, List.length_cons, List.length_nil] <;> omega)) only [zlit, nI_lt_nI, nI_le_nI, nI_eq_nI, nI_add, pk_mul, pk_sub, pk_div, zrem_nI, zrd_nI, zwr_nI, zb1_some, zb2_some, zb3_some, zb4_some, zb5_some, zb6_some, zb7_some, zb8_some, zlet_eq, if_pos, if_neg, pk_us, pk_un, true_and, and_true, true_or, or_true, ↓reduceIte, List.append_assoc, List.cons_append, List.nil_append, zshr_n, zadd', e0, zm1_dec]
  rw [show zm1 3 = nI 2 from rfl, fX9_big_2_s]
  simp (disch := first | omega | (simp only [List.length_append, List.length_cons, List.length_nil] <;> omega)) only [zlit, nI_lt_nI, nI_le_nI, nI_eq_nI, nI_add, pk_mul, pk_sub, pk_div, zrem_nI, zrd_nI, zwr_nI, zb1_some, zb2_some, zb3_some, zb4_some, zb5_some, zb6_some, zb7_some, zb8_some, zlet_eq, if_pos, if_neg, pk_us, pk_un, true_and, and_true, true_or, or_true, ↓reduceIte, List.append_assoc, List.cons_append, List.nil_append, zshr_n, zadd', e1, zm1_dec]
  rw [show zm1 2 = nI 1 from rfl, fX9_big_2_s]
  simp (disch := first | omega | (simp only [List.length_append, List.length_cons, List.length_nil] <;> omega)) only [zlit, nI_lt_nI, nI_le_nI, nI_eq_nI, nI_add, pk_mul, pk_sub, pk_div, zrem_nI, zrd_nI, zwr_nI, zb1_some, zb2_some, zb3_some, zb4_some, zb5_some, zb6_some, zb7_some, zb8_some, zlet_eq, if_pos, if_neg, pk_us, pk_un, true_and, and_true, true_or, or_true, ↓reduceIte, List.append_assoc, List.cons_append, List.nil_append, zshr_n, zadd', e2, zm1_dec]
  rw [show zm1 1 = nI 0 from rfl, fX9_big_2_s]
  simp (disch := first | omega | (simp only [List.length_append, List.length_cons, List.length_nil] <;> omega)) only [zlit, nI_lt_nI, nI_le_nI, nI_eq_nI, nI_add, pk_mul, pk_sub, pk_div, zrem_nI, zrd_nI, zwr_nI, zb1_some, zb2_some, zb3_some, zb4_some, zb5_some, zb6_some, zb7_some, zb8_some, zlet_eq, if_pos, if_neg, pk_us, pk_un, true_and, and_true, true_or, or_true, ↓reduceIte, List.append_assoc, List.cons_append, List.nil_append, zshr_n, zadd', e3, zm1_dec]
  rw [fX9_big_2_s]
  simp (disch := omega) only [zlit, nI_lt_nI, nI_le_nI, nI_eq_nI, nI_add, pk_mul, pk_sub, pk_div, zrem_nI, zrd_nI, zwr_nI, zb1_some, zb2_some, zb3_some, zb4_some, zb5_some, zb6_some, zb7_some, zb8_some, zlet_eq, if_pos, if_neg, pk_us, pk_un, true_and, and_true, true_or, or_true, ↓reduceIte, zm1_0]
theorem zCo1 {L p sr sg sb er eb : Int32} (h : (zin sr 2 && (zin sg 2 && zin sb 2)) = true) : ∃ v, v < 256 ∧ nI 64 + (sr + nI 2) * nI 16 + (sg + nI 2) * nI 4 + sb + nI 2 = nI v ∧ zCo L p sr sg sb er eb = [v] := by
  have h' := h
  rw [Bool.and_eq_true, Bool.and_eq_true] at h'
  obtain ⟨a, ha, ea⟩ := zin_nI (by decide) h'.1
  obtain ⟨b, hb, eb'⟩ := zin_nI (by decide) h'.2.1
  obtain ⟨c, hc, ec⟩ := zin_nI (by decide) h'.2.2
  have e : nI 64 + (sr + nI 2) * nI 16 + (sg + nI 2) * nI 4 + sb + nI 2 = nI (64 + a * 16 + b * 4 + c) := by
    rw [zassoc _ sb, ea, eb', ec, pk_mul, pk_mul, nI_add, nI_add, nI_add]
  refine ⟨64 + a * 16 + b * 4 + c, by omega, e, ?_⟩
  unfold zCo
  rw [if_pos h, e, ztn (by omega)]
theorem zCo2 {L p sr sg sb er eb : Int32} (h1 : (zin sr 2 && (zin sg 2 && zin sb 2)) = false) (h : (zin sg 32 && (zin er 8 && zin eb 8)) = true) : ∃ u v, u < 256 ∧ v < 256 ∧ nI 160 + sg = nI u ∧ (er + nI 8) * nI 16 + eb + nI 8 = nI v ∧ zCo L p sr sg sb er eb = [u, v] := by
  have h' := h
  rw [Bool.and_eq_true, Bool.and_eq_true] at h'
  obtain ⟨a, ha, ea⟩ := zin_nI (by decide) h'.1
  obtain ⟨b, hb, eb'⟩ := zin_nI (by decide) h'.2.1
  obtain ⟨c, hc, ec⟩ := zin_nI (by decide) h'.2.2
  have e1 : nI 160 + sg = nI (160 + a - 32) := by rw [zadd_v ea, nI_add, pk_sub (by omega)]
  have e2 : (er + nI 8) * nI 16 + eb + nI 8 = nI (b * 16 + c) := by rw [zassoc _ eb, eb', ec, pk_mul, nI_add]
  refine ⟨160 + a - 32, b * 16 + c, by omega, by omega, e1, e2, ?_⟩
  unfold zCo
  rw [if_neg (by rw [h1]; decide), if_pos h, e1, e2, ztn (by omega), ztn (by omega)]
theorem zcol8 {f : Nat → Int32} {L p : Int32} {l : List Nat} (h : l.length + 4 ≤ 800) (sr sg sb er eb : Int32) (e1 : sr = zsgn (nI (zch p 0) - nI (zch L 0))) (e2 : sg = zsgn (nI (zch p 1) - nI (zch L 1))) (e3 : sb = zsgn (nI (zch p 2) - nI (zch L 2))) (e4 : er = zsgn (sr - sg)) (e5 : eb = zsgn (sb - sg)) :
    fX1_writeColours L (nI l.length) (zw f l) p = some (nI (l ++ zCo L p sr sg sb er eb).length, zw f (l ++ zCo L p sr sg sb er eb)) := by
  have last : (zin sr 2 && (zin sg 2 && zin sb 2)) = false → fX1_writeColours_124 (nI l.length) (zw f l) p sg er eb = some (nI (l ++ zCo L p sr sg sb er eb).length, zw f (l ++ zCo L p sr sg sb er eb)) := by
    intro hs
    have far : (zin sg 32 && (zin er 8 && zin eb 8)) = false → fX1_writeColours_187 (nI l.length) (zw f l) p = some (nI (l ++ zCo L p sr sg sb er eb).length, zw f (l ++ zCo L p sr sg sb er eb)) := by
      intro hm
      unfold fX1_writeColours_187 zCo
      rw [hs, hm]
      have b3 := @zbig3 f p (l ++ [254]) (by simp; omega)
      simp (disch := omega) only [zlit, nI_lt_nI, nI_le_nI, nI_eq_nI, nI_add, pk_mul, pk_sub, pk_div, zrem_nI, zrd_nI, zwr_nI, zb1_some, zb2_some, zb3_some, zb4_some, zb5_some, zb6_some, zb7_some, zb8_some, zlet_eq, if_pos, if_neg, pk_us, pk_un, true_and, and_true, true_or, or_true, ↓reduceIte, zap, b3, Bool.false_eq_true]
      simp only [List.append_assoc, List.cons_append, List.nil_append]
    unfold fX1_writeColours_124
    simp (disch := omega) only [zlit, nI_lt_nI, nI_le_nI, nI_eq_nI, nI_add, pk_mul, pk_sub, pk_div, zrem_nI, zrd_nI, zwr_nI, zb1_some, zb2_some, zb3_some, zb4_some, zb5_some, zb6_some, zb7_some, zb8_some, zlet_eq, if_pos, if_neg, pk_us, pk_un, true_and, and_true, true_or, or_true, ↓reduceIte, zin8]
    cases h1 : zin sg 32
    · rw [show zI false = nI 0 from rfl]; simp (disch := omega) only [zlit, nI_lt_nI, nI_le_nI, nI_eq_nI, nI_add, pk_mul, pk_sub, pk_div, zrem_nI, zrd_nI, zwr_nI, zb1_some, zb2_some, zb3_some, zb4_some, zb5_some, zb6_some, zb7_some, zb8_some, zlet_eq, if_pos, if_neg, pk_us, pk_un, true_and, and_true, true_or, or_true, ↓reduceIte]; exact far (by rw [h1]; rfl)
    · cases h2 : zin er 8
      · rw [show zI false = nI 0 from rfl, show zI true = nI 1 from rfl]; simp (disch := omega) only [zlit, nI_lt_nI, nI_le_nI, nI_eq_nI, nI_add, pk_mul, pk_sub, pk_div, zrem_nI, zrd_nI, zwr_nI, zb1_some, zb2_some, zb3_some, zb4_some, zb5_some, zb6_some, zb7_some, zb8_some, zlet_eq, if_pos, if_neg, pk_us, pk_un, true_and, and_true, true_or, or_true, ↓reduceIte]; exact far (by rw [h1, h2]; rfl)
      · cases h3 : zin eb 8
        · rw [show zI false = nI 0 from rfl, show zI true = nI 1 from rfl]; simp (disch := omega) only [zlit, nI_lt_nI, nI_le_nI, nI_eq_nI, nI_add, pk_mul, pk_sub, pk_div, zrem_nI, zrd_nI, zwr_nI, zb1_some, zb2_some, zb3_some, zb4_some, zb5_some, zb6_some, zb7_some, zb8_some, zlet_eq, if_pos, if_neg, pk_us, pk_un, true_and, and_true, true_or, or_true, ↓reduceIte]; exact far (by rw [h1, h2, h3]; rfl)
        · obtain ⟨u, v, hu, hv, q1, q2, q3⟩ := @zCo2 L p sr sg sb er eb hs (by rw [h1, h2, h3]; rfl)
          rw [show zI true = nI 1 from rfl, q1, q2, q3]
          simp (disch := first | omega | (simp only [List.length_append, List.length_cons, List.length_nil] <;> omega)) only [zlit, nI_lt_nI, nI_le_nI, nI_eq_nI, nI_add, pk_mul, pk_sub, pk_div, zrem_nI, zrd_nI, zwr_nI, zb1_some, zb2_some, zb3_some, zb4_some, zb5_some, zb6_some, zb7_some, zb8_some, zlet_eq, if_pos, if_neg, pk_us, pk_un, true_and, and_true, true_or, or_true, ↓reduceIte, List.append_assoc, List.cons_append, List.nil_append, zap]
  unfold fX1_writeColours
  simp (disch := omega) only [zlit, nI_lt_nI, nI_le_nI, nI_eq_nI, nI_add, pk_mul, pk_sub, pk_div, zrem_nI, zrd_nI, zwr_nI, zb1_some, zb2_some, zb3_some, zb4_some, zb5_some, zb6_some, zb7_some, zb8_some, zlet_eq, if_pos, if_neg, pk_us, pk_un, true_and, and_true, true_or, or_true, ↓reduceIte, zred, zgreen, zblue, zsgn8, zin8]
  rw [← e1, ← e2, ← e3, ← e4, ← e5]
  cases h1 : zin sr 2
  · rw [show zI false = nI 0 from rfl]; simp (disch := omega) only [zlit, nI_lt_nI, nI_le_nI, nI_eq_nI, nI_add, pk_mul, pk_sub, pk_div, zrem_nI, zrd_nI, zwr_nI, zb1_some, zb2_some, zb3_some, zb4_some, zb5_some, zb6_some, zb7_some, zb8_some, zlet_eq, if_pos, if_neg, pk_us, pk_un, true_and, and_true, true_or, or_true, ↓reduceIte]; exact last (by rw [h1]; rfl)
  · cases h2 : zin sg 2
    · rw [show zI false = nI 0 from rfl, show zI true = nI 1 from rfl]; simp (disch := omega) only [zlit, nI_lt_nI, nI_le_nI, nI_eq_nI, nI_add, pk_mul, pk_sub, pk_div, zrem_nI, zrd_nI, zwr_nI, zb1_some, zb2_some, zb3_some, zb4_some, zb5_some, zb6_some, zb7_some, zb8_some, zlet_eq, if_pos, if_neg, pk_us, pk_un, true_and, and_true, true_or, or_true, ↓reduceIte]; exact last (by rw [h1, h2]; rfl)
    · cases h3 : zin sb 2
      · rw [show zI false = nI 0 from rfl, show zI true = nI 1 from rfl]; simp (disch := omega) only [zlit, nI_lt_nI, nI_le_nI, nI_eq_nI, nI_add, pk_mul, pk_sub, pk_div, zrem_nI, zrd_nI, zwr_nI, zb1_some, zb2_some, zb3_some, zb4_some, zb5_some, zb6_some, zb7_some, zb8_some, zlet_eq, if_pos, if_neg, pk_us, pk_un, true_and, and_true, true_or, or_true, ↓reduceIte]; exact last (by rw [h1, h2, h3]; rfl)
      · obtain ⟨v, hv, q1, q3⟩ := @zCo1 L p sr sg sb er eb (by rw [h1, h2, h3]; rfl)
        rw [show zI true = nI 1 from rfl, q1, q3]
        simp (disch := first | omega | (simp only [List.length_append, List.length_cons, List.length_nil] <;> omega)) only [zlit, nI_lt_nI, nI_le_nI, nI_eq_nI, nI_add, pk_mul, pk_sub, pk_div, zrem_nI, zrd_nI, zwr_nI, zb1_some, zb2_some, zb3_some, zb4_some, zb5_some, zb6_some, zb7_some, zb8_some, zlet_eq, if_pos, if_neg, pk_us, pk_un, true_and, and_true, true_or, or_true, ↓reduceIte, List.append_assoc, List.cons_append, List.nil_append, zap]
/-- what the reference's last holds -/
def zLa (L : Int32) (la : Nat → Int32) : Prop := ∀ c, c < 4 → la c = nI (zch L c)
/-- what its table holds -/
def zTa (tb tr : Nat → Int32) : Prop := ∀ m c, m < 64 → c < 4 → tr (4 * m + c) = nI (zch (tb m) c)
theorem zd89 {w sz : Int32} {now fl : Nat → Int32} {k sr sg sb er eb s7 : Int32} : fX9_differs_89 w sz now fl k sr sg sb er eb s7 = fX9_differs_131 w sz now fl k sr sg sb er eb s7 (zI (zin sr 2 && (zin sg 2 && zin sb 2))) := by
  unfold fX9_differs_89 fX9_differs_130 zin
  simp (disch := omega) only [zlit, zlt_le]
  by_cases c1 : sr < -(nI 2)
  · rw [if_pos c1, decide_eq_false (fun r => r c1)]; rfl
  · rw [if_neg c1, decide_eq_true c1]
    by_cases c2 : nI (1 + 1) ≤ sr
    · rw [if_pos c2, decide_eq_false (fun r => r c2)]; rfl
    · rw [if_neg c2, decide_eq_true (show ¬ nI 2 ≤ sr from c2)]
      by_cases c3 : sg < -(nI 2)
      · rw [if_pos c3, decide_eq_false (fun r => r c3)]; rfl
      · rw [if_neg c3, decide_eq_true c3]
        by_cases c4 : nI (1 + 1) ≤ sg
        · rw [if_pos c4, decide_eq_false (fun r => r c4)]; rfl
        · rw [if_neg c4, decide_eq_true (show ¬ nI 2 ≤ sg from c4)]
          by_cases c5 : sb < -(nI 2)
          · rw [if_pos c5, decide_eq_false (fun r => r c5)]; rfl
          · rw [if_neg c5, decide_eq_true c5]
            by_cases c6 : nI (1 + 1) ≤ sb
            · rw [if_pos c6, decide_eq_false (fun r => r c6)]; rfl
            · rw [if_neg c6, decide_eq_true (show ¬ nI 2 ≤ sb from c6)]; rfl
theorem zd131 {w sz : Int32} {now fl : Nat → Int32} {k sr sg sb er eb s7 s8 : Int32} : fX9_differs_131 w sz now fl k sr sg sb er eb s7 s8 = fX9_differs_178 w sz now fl k sr sg sb er eb s7 s8 (zI (zin sg 32 && (zin er 8 && zin eb 8))) := by
  unfold fX9_differs_131 fX9_differs_177 zin
  simp (disch := omega) only [zlit, zlt_le]
  by_cases c1 : sg < -(nI 32)
  · rw [if_pos c1, decide_eq_false (fun r => r c1)]; rfl
  · rw [if_neg c1, decide_eq_true c1]
    by_cases c2 : nI (31 + 1) ≤ sg
    · rw [if_pos c2, decide_eq_false (fun r => r c2)]; rfl
    · rw [if_neg c2, decide_eq_true (show ¬ nI 32 ≤ sg from c2)]
      by_cases c3 : er < -(nI 8)
      · rw [if_pos c3, decide_eq_false (fun r => r c3)]; rfl
      · rw [if_neg c3, decide_eq_true c3]
        by_cases c4 : nI (7 + 1) ≤ er
        · rw [if_pos c4, decide_eq_false (fun r => r c4)]; rfl
        · rw [if_neg c4, decide_eq_true (show ¬ nI 8 ≤ er from c4)]
          by_cases c5 : eb < -(nI 8)
          · rw [if_pos c5, decide_eq_false (fun r => r c5)]; rfl
          · rw [if_neg c5, decide_eq_true c5]
            by_cases c6 : nI (7 + 1) ≤ eb
            · rw [if_pos c6, decide_eq_false (fun r => r c6)]; rfl
            · rw [if_neg c6, decide_eq_true (show ¬ nI 8 ≤ eb from c6)]; rfl
theorem zd257 {w h k : Nat} {px rn f : Nat → Int32} {l : List Nat} {b : Bool} (hw : w ≤ 8) (hh : h ≤ 8) (hP : zPic w h px rn) (hk : k < w * h) (hl : l.length + 5 ≤ 800) : fX9_differs_257 (nI w) (nI l.length) rn (zw f l) (nI k) (zI b) = some (nI (l ++ (if b then [254, zch (px k) 0, zch (px k) 1, zch (px k) 2] else [255, zch (px k) 0, zch (px k) 1, zch (px k) 2, zch (px k) 3])).length, zw f (l ++ (if b then [254, zch (px k) 0, zch (px k) 1, zch (px k) 2] else [255, zch (px k) 0, zch (px k) 1, zch (px k) 2, zch (px k) 3]))) := by
  have b0 := zch_lt (px k) 0
  have b1 := zch_lt (px k) 1
  have b2 := zch_lt (px k) 2
  have b3 := zch_lt (px k) 3
  unfold fX9_differs_257 fX9_differs_272
  cases b
  · rw [show zI false = nI 0 from rfl]
    simp (disch := first | omega | (simp only [List.length_append, List.length_cons, List.length_nil] <;> omega)) only [zlit, nI_lt_nI, nI_le_nI, nI_eq_nI, nI_add, pk_mul, pk_sub, pk_div, zrem_nI, zrd_nI, zwr_nI, zb1_some, zb2_some, zb3_some, zb4_some, zb5_some, zb6_some, zb7_some, zb8_some, zlet_eq, if_pos, if_neg, pk_us, pk_un, true_and, and_true, true_or, or_true, ↓reduceIte, List.append_assoc, List.cons_append, List.nil_append, zadd, Bool.false_eq_true]
    rw [fX9_differs_278_s]; unfold fX9_differs_290
    simp (disch := first | omega | (simp only [List.length_append, List.length_cons, List.length_nil] <;> omega)) only [zlit, nI_lt_nI, nI_le_nI, nI_eq_nI, nI_add, pk_mul, pk_sub, pk_div, zrem_nI, zrd_nI, zwr_nI, zb1_some, zb2_some, zb3_some, zb4_some, zb5_some, zb6_some, zb7_some, zb8_some, zlet_eq, if_pos, if_neg, pk_us, pk_un, true_and, and_true, true_or, or_true, ↓reduceIte, List.append_assoc, List.cons_append, List.nil_append, zadd, zchan hw hh hP]
    rw [fX9_differs_278_s]; unfold fX9_differs_290
    simp (disch := first | omega | (simp only [List.length_append, List.length_cons, List.length_nil] <;> omega)) only [zlit, nI_lt_nI, nI_le_nI, nI_eq_nI, nI_add, pk_mul, pk_sub, pk_div, zrem_nI, zrd_nI, zwr_nI, zb1_some, zb2_some, zb3_some, zb4_some, zb5_some, zb6_some, zb7_some, zb8_some, zlet_eq, if_pos, if_neg, pk_us, pk_un, true_and, and_true, true_or, or_true, ↓reduceIte, List.append_assoc, List.cons_append, List.nil_append, zadd, zchan hw hh hP]
    rw [fX9_differs_278_s]; unfold fX9_differs_290
    simp (disch := first | omega | (simp only [List.length_append, List.length_cons, List.length_nil] <;> omega)) only [zlit, nI_lt_nI, nI_le_nI, nI_eq_nI, nI_add, pk_mul, pk_sub, pk_div, zrem_nI, zrd_nI, zwr_nI, zb1_some, zb2_some, zb3_some, zb4_some, zb5_some, zb6_some, zb7_some, zb8_some, zlet_eq, if_pos, if_neg, pk_us, pk_un, true_and, and_true, true_or, or_true, ↓reduceIte, List.append_assoc, List.cons_append, List.nil_append, zadd, zchan hw hh hP]
    rw [fX9_differs_278_s]; unfold fX9_differs_290
    simp (disch := first | omega | (simp only [List.length_append, List.length_cons, List.length_nil] <;> omega)) only [zlit, nI_lt_nI, nI_le_nI, nI_eq_nI, nI_add, pk_mul, pk_sub, pk_div, zrem_nI, zrd_nI, zwr_nI, zb1_some, zb2_some, zb3_some, zb4_some, zb5_some, zb6_some, zb7_some, zb8_some, zlet_eq, if_pos, if_neg, pk_us, pk_un, true_and, and_true, true_or, or_true, ↓reduceIte, List.append_assoc, List.cons_append, List.nil_append, zadd, zchan hw hh hP]
    rw [fX9_differs_278_s]; unfold fX9_differs_290
    simp (disch := first | omega | (simp only [List.length_append, List.length_cons, List.length_nil] <;> omega)) only [zlit, nI_lt_nI, nI_le_nI, nI_eq_nI, nI_add, pk_mul, pk_sub, pk_div, zrem_nI, zrd_nI, zwr_nI, zb1_some, zb2_some, zb3_some, zb4_some, zb5_some, zb6_some, zb7_some, zb8_some, zlet_eq, if_pos, if_neg, pk_us, pk_un, true_and, and_true, true_or, or_true, ↓reduceIte, List.append_assoc, List.cons_append, List.nil_append]
  · rw [show zI true = nI 1 from rfl]
    simp (disch := first | omega | (simp only [List.length_append, List.length_cons, List.length_nil] <;> omega)) only [zlit, nI_lt_nI, nI_le_nI, nI_eq_nI, nI_add, pk_mul, pk_sub, pk_div, zrem_nI, zrd_nI, zwr_nI, zb1_some, zb2_some, zb3_some, zb4_some, zb5_some, zb6_some, zb7_some, zb8_some, zlet_eq, if_pos, if_neg, pk_us, pk_un, true_and, and_true, true_or, or_true, ↓reduceIte, List.append_assoc, List.cons_append, List.nil_append, zadd]
    rw [fX9_differs_278_s]; unfold fX9_differs_290
    simp (disch := first | omega | (simp only [List.length_append, List.length_cons, List.length_nil] <;> omega)) only [zlit, nI_lt_nI, nI_le_nI, nI_eq_nI, nI_add, pk_mul, pk_sub, pk_div, zrem_nI, zrd_nI, zwr_nI, zb1_some, zb2_some, zb3_some, zb4_some, zb5_some, zb6_some, zb7_some, zb8_some, zlet_eq, if_pos, if_neg, pk_us, pk_un, true_and, and_true, true_or, or_true, ↓reduceIte, List.append_assoc, List.cons_append, List.nil_append, zadd, zchan hw hh hP]
    rw [fX9_differs_278_s]; unfold fX9_differs_290
    simp (disch := first | omega | (simp only [List.length_append, List.length_cons, List.length_nil] <;> omega)) only [zlit, nI_lt_nI, nI_le_nI, nI_eq_nI, nI_add, pk_mul, pk_sub, pk_div, zrem_nI, zrd_nI, zwr_nI, zb1_some, zb2_some, zb3_some, zb4_some, zb5_some, zb6_some, zb7_some, zb8_some, zlet_eq, if_pos, if_neg, pk_us, pk_un, true_and, and_true, true_or, or_true, ↓reduceIte, List.append_assoc, List.cons_append, List.nil_append, zadd, zchan hw hh hP]
    rw [fX9_differs_278_s]; unfold fX9_differs_290
    simp (disch := first | omega | (simp only [List.length_append, List.length_cons, List.length_nil] <;> omega)) only [zlit, nI_lt_nI, nI_le_nI, nI_eq_nI, nI_add, pk_mul, pk_sub, pk_div, zrem_nI, zrd_nI, zwr_nI, zb1_some, zb2_some, zb3_some, zb4_some, zb5_some, zb6_some, zb7_some, zb8_some, zlet_eq, if_pos, if_neg, pk_us, pk_un, true_and, and_true, true_or, or_true, ↓reduceIte, List.append_assoc, List.cons_append, List.nil_append, zadd, zchan hw hh hP]
    rw [fX9_differs_278_s]; unfold fX9_differs_290
    simp (disch := first | omega | (simp only [List.length_append, List.length_cons, List.length_nil] <;> omega)) only [zlit, nI_lt_nI, nI_le_nI, nI_eq_nI, nI_add, pk_mul, pk_sub, pk_div, zrem_nI, zrd_nI, zwr_nI, zb1_some, zb2_some, zb3_some, zb4_some, zb5_some, zb6_some, zb7_some, zb8_some, zlet_eq, if_pos, if_neg, pk_us, pk_un, true_and, and_true, true_or, or_true, ↓reduceIte, List.append_assoc, List.cons_append, List.nil_append]
/-- what is written for a pixel that is neither the last nor known -/
def zDf (L p : Int32) : List Nat := if zch p 3 = zch L 3 then zCo L p (zsgn (nI (zch p 0) - nI (zch L 0))) (zsgn (nI (zch p 1) - nI (zch L 1))) (zsgn (nI (zch p 2) - nI (zch L 2))) (zsgn (zsgn (nI (zch p 0) - nI (zch L 0)) - zsgn (nI (zch p 1) - nI (zch L 1)))) (zsgn (zsgn (nI (zch p 2) - nI (zch L 2)) - zsgn (nI (zch p 1) - nI (zch L 1)))) else [255, zch p 0, zch p 1, zch p 2, zch p 3]
theorem zDf_len (L p : Int32) : (zDf L p).length ≤ 5 := by
  unfold zDf
  split
  · exact Nat.le_trans zCo_len (by decide)
  · exact Nat.le_of_ble_eq_true rfl
theorem zDf_all (L p : Int32) : ∀ u ∈ zDf L p, u < 256 := by
  intro u hu
  have b0 := zch_lt p 0
  have b1 := zch_lt p 1
  have b2 := zch_lt p 2
  have b3 := zch_lt p 3
  unfold zDf at hu
  split at hu
  · exact zCo_v u hu
  · simp at hu; omega
theorem zdif9 {w h k : Nat} {px rn f la : Nat → Int32} {l : List Nat} {L : Int32} (hw : w ≤ 8) (hh : h ≤ 8) (hP : zPic w h px rn) (hk : k < w * h) (hl : l.length + 5 ≤ 800) (hL : zLa L la) : fX9_differs (nI w) (nI l.length) rn (zw f l) la (nI k) = some (nI (l ++ zDf L (px k)).length, zw f (l ++ zDf L (px k))) := by
  have l0 := hL 0 (by decide)
  have l1 := hL 1 (by decide)
  have l2 := hL 2 (by decide)
  have l3 := hL 3 (by decide)
  have body : ∀ (b : Bool) (sr sg sb er eb : Int32), fX9_differs_178 (nI w) (nI l.length) rn (zw f l) (nI k) sr sg sb er eb (zI b) (zI (zin sr 2 && (zin sg 2 && zin sb 2))) (zI (zin sg 32 && (zin er 8 && zin eb 8))) = some (nI (l ++ (if b then zCo L (px k) sr sg sb er eb else [255, zch (px k) 0, zch (px k) 1, zch (px k) 2, zch (px k) 3])).length, zw f (l ++ (if b then zCo L (px k) sr sg sb er eb else [255, zch (px k) 0, zch (px k) 1, zch (px k) 2, zch (px k) 3]))) := by
    intro b sr sg sb er eb
    have far := @zd257 w h k px rn f l b hw hh hP hk hl
    unfold fX9_differs_178 fX9_differs_217
    cases b
    · rw [show zI false = nI 0 from rfl] at far ⊢
      simp (disch := omega) only [zlit, nI_lt_nI, nI_le_nI, nI_eq_nI, nI_add, pk_mul, pk_sub, pk_div, zrem_nI, zrd_nI, zwr_nI, zb1_some, zb2_some, zb3_some, zb4_some, zb5_some, zb6_some, zb7_some, zb8_some, zlet_eq, if_pos, if_neg, pk_us, pk_un, true_and, and_true, true_or, or_true, ↓reduceIte]
      exact far
    · rw [show zI true = nI 1 from rfl] at far ⊢
      cases h1 : zin sr 2 && (zin sg 2 && zin sb 2)
      · cases h2 : zin sg 32 && (zin er 8 && zin eb 8)
        · rw [show zI false = nI 0 from rfl]
          unfold zCo
          rw [h1, h2]
          simp only [Bool.false_eq_true, ↓reduceIte] at far ⊢
          simp (disch := omega) only [zlit, nI_lt_nI, nI_le_nI, nI_eq_nI, nI_add, pk_mul, pk_sub, pk_div, zrem_nI, zrd_nI, zwr_nI, zb1_some, zb2_some, zb3_some, zb4_some, zb5_some, zb6_some, zb7_some, zb8_some, zlet_eq, if_pos, if_neg, pk_us, pk_un, true_and, and_true, true_or, or_true, ↓reduceIte]
          exact far
        · rw [show zI false = nI 0 from rfl, show zI true = nI 1 from rfl]
          obtain ⟨u, v, hu, hv, q1, q2, q3⟩ := @zCo2 L (px k) sr sg sb er eb h1 h2
          rw [q3]
          have q2' : nI 16 * (er + nI 8) + eb + nI 8 = nI v := by rw [zmulc (nI 16)]; exact q2
          simp only [↓reduceIte]
          simp only [zlit]
          rw [q1, q2']
          simp (disch := first | omega | (simp only [List.length_append, List.length_cons, List.length_nil] <;> omega)) only [zlit, nI_lt_nI, nI_le_nI, nI_eq_nI, nI_add, pk_mul, pk_sub, pk_div, zrem_nI, zrd_nI, zwr_nI, zb1_some, zb2_some, zb3_some, zb4_some, zb5_some, zb6_some, zb7_some, zb8_some, zlet_eq, if_pos, if_neg, pk_us, pk_un, true_and, and_true, true_or, or_true, ↓reduceIte, List.append_assoc, List.cons_append, List.nil_append, zadd]
      · rw [show zI true = nI 1 from rfl]
        obtain ⟨v, hv, q1, q3⟩ := @zCo1 L (px k) sr sg sb er eb h1
        rw [q3]
        have q1' : nI 64 + nI 16 * (sr + nI 2) + nI 4 * (sg + nI 2) + sb + nI 2 = nI v := by rw [zmulc (nI 16), zmulc (nI 4)]; exact q1
        simp only [↓reduceIte]
        simp only [zlit]
        rw [q1']
        simp (disch := first | omega | (simp only [List.length_append, List.length_cons, List.length_nil] <;> omega)) only [zlit, nI_lt_nI, nI_le_nI, nI_eq_nI, nI_add, pk_mul, pk_sub, pk_div, zrem_nI, zrd_nI, zwr_nI, zb1_some, zb2_some, zb3_some, zb4_some, zb5_some, zb6_some, zb7_some, zb8_some, zlet_eq, if_pos, if_neg, pk_us, pk_un, true_and, and_true, true_or, or_true, ↓reduceIte, List.append_assoc, List.cons_append, List.nil_append, zadd]
  unfold fX9_differs
  simp (disch := omega) only [zlit, nI_lt_nI, nI_le_nI, nI_eq_nI, nI_add, pk_mul, pk_sub, pk_div, zrem_nI, zrd_nI, zwr_nI, zb1_some, zb2_some, zb3_some, zb4_some, zb5_some, zb6_some, zb7_some, zb8_some, zlet_eq, if_pos, if_neg, pk_us, pk_un, true_and, and_true, true_or, or_true, ↓reduceIte, zchan hw hh hP, l0, l1, l2, l3, zsgn9, zcz]
  unfold zDf
  by_cases c : zch (px k) 3 = zch L 3
  · rw [if_pos c, if_pos c, zd89, zd131]
    exact body true _ _ _ _ _
  · rw [if_neg c, if_neg c, zd89, zd131]
    exact body false _ _ _ _ _
/-- the place of a colour -/
def zpl (p : Int32) : Nat := (3 * zch p 0 + 5 * zch p 1 + 7 * zch p 2 + 11 * zch p 3) % 64
theorem zpl_lt (p : Int32) : zpl p < 64 := Nat.mod_lt _ (by decide)
theorem zpl8 (p : Int32) : fX1_placeOf p = some (nI (zpl p)) := by
  have b0 := zch_lt p 0
  have b1 := zch_lt p 1
  have b2 := zch_lt p 2
  have b3 := zch_lt p 3
  unfold fX1_placeOf zpl
  simp (disch := omega) only [zlit, nI_lt_nI, nI_le_nI, nI_eq_nI, nI_add, pk_mul, pk_sub, pk_div, zrem_nI, zrd_nI, zwr_nI, zb1_some, zb2_some, zb3_some, zb4_some, zb5_some, zb6_some, zb7_some, zb8_some, zlet_eq, if_pos, if_neg, pk_us, pk_un, true_and, and_true, true_or, or_true, ↓reduceIte, zred, zgreen, zblue, zalpha]
theorem zpl9 (p : Int32) : fX9_placeOf (nI (zch p 0)) (nI (zch p 1)) (nI (zch p 2)) (nI (zch p 3)) = some (nI (zpl p)) := by
  have b0 := zch_lt p 0
  have b1 := zch_lt p 1
  have b2 := zch_lt p 2
  have b3 := zch_lt p 3
  unfold fX9_placeOf zpl
  simp (disch := omega) only [zlit, nI_lt_nI, nI_le_nI, nI_eq_nI, nI_add, pk_mul, pk_sub, pk_div, zrem_nI, zrd_nI, zwr_nI, zb1_some, zb2_some, zb3_some, zb4_some, zb5_some, zb6_some, zb7_some, zb8_some, zlet_eq, if_pos, if_neg, pk_us, pk_un, true_and, and_true, true_or, or_true, ↓reduceIte]
/-- what is written for a pixel that is not the last one -/
def zOt (tb : Nat → Int32) (L p : Int32) : List Nat := if tb (zpl p) = p then [zpl p] else zDf L p
theorem zOt_len (tb : Nat → Int32) (L p : Int32) : (zOt tb L p).length ≤ 5 := by
  have := zDf_len L p
  unfold zOt
  split
  · simp
  · exact this
theorem zOt_all (tb : Nat → Int32) (L p : Int32) : ∀ u ∈ zOt tb L p, u < 256 := by
  have := zpl_lt p
  intro u hu
  unfold zOt at hu
  split at hu
  · simp at hu; omega
  · exact zDf_all L p u hu
theorem zoth8 {f tb : Nat → Int32} {L p : Int32} {l : List Nat} (hl : l.length + 5 ≤ 800) : ∃ tb', fX1_writeOther L tb (nI l.length) (zw f l) p = some (tb', nI (l ++ zOt tb L p).length, zw f (l ++ zOt tb L p)) ∧ ∀ m, m < 64 → tb' m = upd tb (zpl p) p m := by
  have hp := zpl_lt p
  unfold fX1_writeOther zOt
  by_cases c : tb (zpl p) = p
  · refine ⟨tb, ?_, fun m hm => ?_⟩
    · simp (disch := omega) only [zlit, nI_lt_nI, nI_le_nI, nI_eq_nI, nI_add, pk_mul, pk_sub, pk_div, zrem_nI, zrd_nI, zwr_nI, zb1_some, zb2_some, zb3_some, zb4_some, zb5_some, zb6_some, zb7_some, zb8_some, zlet_eq, if_pos, if_neg, pk_us, pk_un, true_and, and_true, true_or, or_true, ↓reduceIte, zpl8, c, zap]
    · by_cases q : m = zpl p
      · subst q; rw [pk_us]; exact c
      · rw [pk_un q]
  · refine ⟨upd tb (zpl p) p, ?_, fun m hm => rfl⟩
    unfold zDf
    by_cases d : zch p 3 = zch L 3
    · have t := @zcol8 f L p l (by omega) _ _ _ _ _ rfl rfl rfl rfl rfl
      simp (disch := omega) only [zlit, nI_lt_nI, nI_le_nI, nI_eq_nI, nI_add, pk_mul, pk_sub, pk_div, zrem_nI, zrd_nI, zwr_nI, zb1_some, zb2_some, zb3_some, zb4_some, zb5_some, zb6_some, zb7_some, zb8_some, zlet_eq, if_pos, if_neg, pk_us, pk_un, true_and, and_true, true_or, or_true, ↓reduceIte, zpl8, zalpha, zcz, t]
    · have t := @zbig4 f p (l ++ [255]) (by simp; omega)
      simp (disch := omega) only [zlit, nI_lt_nI, nI_le_nI, nI_eq_nI, nI_add, pk_mul, pk_sub, pk_div, zrem_nI, zrd_nI, zwr_nI, zb1_some, zb2_some, zb3_some, zb4_some, zb5_some, zb6_some, zb7_some, zb8_some, zlet_eq, if_pos, if_neg, pk_us, pk_un, true_and, and_true, true_or, or_true, ↓reduceIte, zpl8, zalpha, zcz, zap, t]
      simp only [List.append_assoc, List.cons_append, List.nil_append]
theorem zflags {w h k P : Nat} {px rn tr la : Nat → Int32} {fl : Nat → Int32} {sz l1 l2 : Int32} (hw : w ≤ 8) (hh : h ≤ 8) (hP : zPic w h px rn) (hk : k < w * h) (hPl : P + 4 ≤ 256) (X Y : Nat → Nat) (hX : ∀ c, c < 4 → la c = nI (X c) ∧ X c < 256) (hY : ∀ c, c < 4 → tr (P + c) = nI (Y c) ∧ Y c < 256) (rc : Int32 → Int32 → (Nat → Int32) → (Nat → Int32) → (Nat → Int32) → (Nat → Int32) → Int32 → Int32 → Int32 → Option (Int32 × (Nat → Int32) × (Nat → Int32) × (Nat → Int32))) : ∀ (n c : Nat) (a b : Bool), c ≤ 4 → 4 - c < n →
    fX9_writeFirst_112 rc n (nI w) sz rn fl tr la l1 l2 (nI k) (zI a) (nI P) (zI b) (nI c) = fX9_writeFirst_112 rc 1 (nI w) sz rn fl tr la l1 l2 (nI k) (zI (a && zall (fun c => decide (zch (px k) c = X c)) c (4 - c))) (nI P) (zI (b && zall (fun c => decide (zch (px k) c = Y c)) c (4 - c))) (nI 4) := by
  intro n
  induction n with
  | zero => intro c a b h1 h2; omega
  | succ n ih =>
    intro c a b h1 h2
    by_cases q : 4 ≤ c
    · have : c = 4 := by omega
      subst this
      rw [Nat.sub_self, zall_0, zall_0, Bool.and_true, Bool.and_true, fX9_writeFirst_112_s, fX9_writeFirst_112_s]
      simp (disch := omega) only [zlit, nI_lt_nI, nI_le_nI, nI_eq_nI, nI_add, pk_mul, pk_sub, pk_div, zrem_nI, zrd_nI, zwr_nI, zb1_some, zb2_some, zb3_some, zb4_some, zb5_some, zb6_some, zb7_some, zb8_some, zlet_eq, if_pos, if_neg, pk_us, pk_un, true_and, and_true, true_or, or_true, ↓reduceIte]
    · obtain ⟨x1, x2⟩ := hX c (by omega)
      obtain ⟨y1, y2⟩ := hY c (by omega)
      have bb := zch_lt (px k) c
      rw [show 4 - c = (4 - (c + 1)) + 1 by omega, zall_s, zall_s, fX9_writeFirst_112_s]
      have h145 : ∀ a' : Bool, fX9_writeFirst_145 rc (fX9_writeFirst_112 rc n) (nI w) sz rn fl tr la l1 l2 (nI k) (nI P) (zI b) (nI c) (zI a') = fX9_writeFirst_112 rc 1 (nI w) sz rn fl tr la l1 l2 (nI k) (zI (a' && zall (fun c => decide (zch (px k) c = X c)) (c + 1) (4 - (c + 1)))) (nI P) (zI (b && (decide (zch (px k) c = Y c) && zall (fun c => decide (zch (px k) c = Y c)) (c + 1) (4 - (c + 1))))) (nI 4) := by
        intro a'
        unfold fX9_writeFirst_145 fX9_writeFirst_176 fX9_writeFirst_177
        have g0 := ih (c + 1) a' false (by omega) (by omega)
        have g1 := ih (c + 1) a' true (by omega) (by omega)
        rw [Bool.false_and, show zI false = nI 0 from rfl] at g0
        rw [Bool.true_and, show zI true = nI 1 from rfl] at g1
        cases b
        · rw [Bool.false_and, show zI false = nI 0 from rfl]
          simp (disch := omega) only [zlit, nI_lt_nI, nI_le_nI, nI_eq_nI, nI_add, pk_mul, pk_sub, pk_div, zrem_nI, zrd_nI, zwr_nI, zb1_some, zb2_some, zb3_some, zb4_some, zb5_some, zb6_some, zb7_some, zb8_some, zlet_eq, if_pos, if_neg, pk_us, pk_un, true_and, and_true, true_or, or_true, ↓reduceIte]
          exact g0
        · rw [Bool.true_and, show zI true = nI 1 from rfl]
          by_cases e : zch (px k) c = Y c
          · rw [decide_eq_true e, Bool.true_and]
            simp (disch := omega) only [zlit, nI_lt_nI, nI_le_nI, nI_eq_nI, nI_add, pk_mul, pk_sub, pk_div, zrem_nI, zrd_nI, zwr_nI, zb1_some, zb2_some, zb3_some, zb4_some, zb5_some, zb6_some, zb7_some, zb8_some, zlet_eq, if_pos, if_neg, pk_us, pk_un, true_and, and_true, true_or, or_true, ↓reduceIte, zchan hw hh hP, y1]
            exact g1
          · rw [decide_eq_false e, Bool.false_and, show zI false = nI 0 from rfl]
            simp (disch := omega) only [zlit, nI_lt_nI, nI_le_nI, nI_eq_nI, nI_add, pk_mul, pk_sub, pk_div, zrem_nI, zrd_nI, zwr_nI, zb1_some, zb2_some, zb3_some, zb4_some, zb5_some, zb6_some, zb7_some, zb8_some, zlet_eq, if_pos, if_neg, pk_us, pk_un, true_and, and_true, true_or, or_true, ↓reduceIte, zchan hw hh hP, y1]
            exact g0
      unfold fX9_writeFirst_144
      cases a
      · have g := h145 false
        rw [Bool.false_and, show zI false = nI 0 from rfl] at g ⊢
        simp (disch := omega) only [zlit, nI_lt_nI, nI_le_nI, nI_eq_nI, nI_add, pk_mul, pk_sub, pk_div, zrem_nI, zrd_nI, zwr_nI, zb1_some, zb2_some, zb3_some, zb4_some, zb5_some, zb6_some, zb7_some, zb8_some, zlet_eq, if_pos, if_neg, pk_us, pk_un, true_and, and_true, true_or, or_true, ↓reduceIte]
        exact g
      · by_cases e : zch (px k) c = X c
        · have g := h145 true
          rw [Bool.true_and, show zI true = nI 1 from rfl] at g ⊢
          rw [decide_eq_true e, Bool.true_and]
          simp (disch := omega) only [zlit, nI_lt_nI, nI_le_nI, nI_eq_nI, nI_add, pk_mul, pk_sub, pk_div, zrem_nI, zrd_nI, zwr_nI, zb1_some, zb2_some, zb3_some, zb4_some, zb5_some, zb6_some, zb7_some, zb8_some, zlet_eq, if_pos, if_neg, pk_us, pk_un, true_and, and_true, true_or, or_true, ↓reduceIte, zchan hw hh hP, x1]
          exact g
        · have g := h145 false
          rw [Bool.false_and, show zI false = nI 0 from rfl] at g
          rw [decide_eq_false e, Bool.true_and, Bool.false_and, show zI true = nI 1 from rfl, show zI false = nI 0 from rfl]
          simp (disch := omega) only [zlit, nI_lt_nI, nI_le_nI, nI_eq_nI, nI_add, pk_mul, pk_sub, pk_div, zrem_nI, zrd_nI, zwr_nI, zb1_some, zb2_some, zb3_some, zb4_some, zb5_some, zb6_some, zb7_some, zb8_some, zlet_eq, if_pos, if_neg, pk_us, pk_un, true_and, and_true, true_or, or_true, ↓reduceIte, zchan hw hh hP, x1]
          exact g
theorem zupdl {w h k P : Nat} {px rn : Nat → Int32} {fl : Nat → Int32} {sz l1 l2 : Int32} {a : Bool} (hw : w ≤ 8) (hh : h ≤ 8) (hP : zPic w h px rn) (hk : k < w * h) (hPl : P + 4 ≤ 256) (rc : Int32 → Int32 → (Nat → Int32) → (Nat → Int32) → (Nat → Int32) → (Nat → Int32) → Int32 → Int32 → Int32 → Option (Int32 × (Nat → Int32) × (Nat → Int32) × (Nat → Int32))) : ∀ (n c : Nat) (tr la : Nat → Int32), c ≤ 4 → 4 - c < n →
    ∃ tr' la', fX9_writeFirst_246 rc n (nI w) sz rn fl tr la l1 l2 (nI k) (zI a) (nI P) (nI c) = rc (nI w) sz rn fl tr' la' l1 l2 (nI (k + 1)) ∧ (∀ j, tr' j = if a = false ∧ P + c ≤ j ∧ j < P + 4 then nI (zch (px k) (j - P)) else tr j) ∧ (∀ j, la' j = if c ≤ j ∧ j < 4 then nI (zch (px k) j) else la j) := by
  intro n
  induction n with
  | zero => intro c tr la h1 h2; omega
  | succ n ih =>
    intro c tr la h1 h2
    rw [fX9_writeFirst_246_s]
    by_cases q : 4 ≤ c
    · refine ⟨tr, la, by simp (disch := omega) only [zlit, nI_lt_nI, nI_le_nI, nI_eq_nI, nI_add, pk_mul, pk_sub, pk_div, zrem_nI, zrd_nI, zwr_nI, zb1_some, zb2_some, zb3_some, zb4_some, zb5_some, zb6_some, zb7_some, zb8_some, zlet_eq, if_pos, if_neg, pk_us, pk_un, true_and, and_true, true_or, or_true, ↓reduceIte], fun j => ?_, fun j => ?_⟩
      · rw [if_neg (by omega)]
      · rw [if_neg (by omega)]
    · unfold fX9_writeFirst_286
      cases a
      · obtain ⟨tr', la', e1, e2, e3⟩ := ih (c + 1) (upd tr (P + c) (nI (zch (px k) c))) (upd la c (nI (zch (px k) c))) (by omega) (by omega)
        refine ⟨tr', la', ?_, fun j => ?_, fun j => ?_⟩
        · rw [show zI false = nI 0 from rfl] at e1 ⊢
          simp (disch := omega) only [zlit, nI_lt_nI, nI_le_nI, nI_eq_nI, nI_add, pk_mul, pk_sub, pk_div, zrem_nI, zrd_nI, zwr_nI, zb1_some, zb2_some, zb3_some, zb4_some, zb5_some, zb6_some, zb7_some, zb8_some, zlet_eq, if_pos, if_neg, pk_us, pk_un, true_and, and_true, true_or, or_true, ↓reduceIte, zchan hw hh hP]
          exact e1
        · rw [e2 j]
          simp only [eq_self, true_and]
          by_cases r : j = P + c
          · subst r
            rw [if_neg (by omega), if_pos (by omega), pk_us, show P + c - P = c by omega]
          · rw [pk_un r]
            by_cases s : P + c ≤ j ∧ j < P + 4
            · rw [if_pos (by omega), if_pos (by omega)]
            · rw [if_neg (by omega), if_neg (by omega)]
        · rw [e3 j]
          by_cases r : j = c
          · subst r
            rw [if_neg (by omega), if_pos (by omega), pk_us]
          · rw [pk_un r]
            by_cases s : c ≤ j ∧ j < 4
            · rw [if_pos (by omega), if_pos s]
            · rw [if_neg (by omega), if_neg s]
      · obtain ⟨tr', la', e1, e2, e3⟩ := ih (c + 1) (upd tr (P + c) (tr (P + c))) (upd la c (nI (zch (px k) c))) (by omega) (by omega)
        refine ⟨tr', la', ?_, fun j => ?_, fun j => ?_⟩
        · rw [show zI true = nI 1 from rfl] at e1 ⊢
          simp (disch := omega) only [zlit, nI_lt_nI, nI_le_nI, nI_eq_nI, nI_add, pk_mul, pk_sub, pk_div, zrem_nI, zrd_nI, zwr_nI, zb1_some, zb2_some, zb3_some, zb4_some, zb5_some, zb6_some, zb7_some, zb8_some, zlet_eq, if_pos, if_neg, pk_us, pk_un, true_and, and_true, true_or, or_true, ↓reduceIte, zchan hw hh hP]
          exact e1
        · rw [e2 j, if_neg (fun z => by cases z.1), if_neg (fun z => by cases z.1)]
          by_cases r : j = P + c
          · subst r
            rw [pk_us]
          · rw [pk_un r]
        · rw [e3 j]
          by_cases r : j = c
          · subst r
            rw [if_neg (by omega), if_pos (by omega), pk_us]
          · rw [pk_un r]
            by_cases s : c ≤ j ∧ j < 4
            · rw [if_pos (by omega), if_pos s]
            · rw [if_neg (by omega), if_neg s]
theorem zalq4 (p q : Int32) : zall (fun c => decide (zch p c = zch q c)) 0 4 = decide (p = q) := by
  by_cases e : p = q
  · rw [decide_eq_true e]
    simp [zall, e]
  · rw [decide_eq_false e, Bool.eq_false_iff]
    intro r
    simp [zall] at r
    exact e (zch_ext r.1 r.2.1 r.2.2.1 r.2.2.2)
/-- the run that is written before another pixel -/
def zRn (run : Nat) : List Nat := if run = 0 then [] else [191 + run]
theorem zRn_len (run : Nat) : (zRn run).length ≤ 1 := by
  unfold zRn
  split <;> simp
theorem zcls_same {w h k n run : Nat} {px f tb : Nat → Int32} {l : List Nat} {L : Int32} (hw : w ≤ 8) (hh : h ≤ 8) (hk : k < w * h) (hr : run + 1 < 62) (e : px k = L) : fX1_writeChunks_9 (n + 1) L tb (nI w) (nI h) px (nI l.length) (zw f l) (nI run) (nI k) = fX1_writeChunks_9 n L tb (nI w) (nI h) px (nI l.length) (zw f l) (nI (run + 1)) (nI (k + 1)) := by
  have hs := zmul64 hw hh
  rw [fX1_writeChunks_9_s]
  unfold fX1_writeChunks_39 fX1_writeChunks_70 fX1_writeChunks_92
  simp (disch := omega) only [zlit, nI_lt_nI, nI_le_nI, nI_eq_nI, nI_add, pk_mul, pk_sub, pk_div, zrem_nI, zrd_nI, zwr_nI, zb1_some, zb2_some, zb3_some, zb4_some, zb5_some, zb6_some, zb7_some, zb8_some, zlet_eq, if_pos, if_neg, pk_us, pk_un, true_and, and_true, true_or, or_true, ↓reduceIte, zcount, e]
theorem zcls_same61 {w h k n : Nat} {px f tb : Nat → Int32} {l : List Nat} {L : Int32} (hw : w ≤ 8) (hh : h ≤ 8) (hk : k < w * h) (hl : l.length < 800) (e : px k = L) : fX1_writeChunks_9 (n + 1) L tb (nI w) (nI h) px (nI l.length) (zw f l) (nI 61) (nI k) = fX1_writeChunks_9 n L tb (nI w) (nI h) px (nI (l ++ [253]).length) (zw f (l ++ [253])) (nI 0) (nI (k + 1)) := by
  have hs := zmul64 hw hh
  rw [fX1_writeChunks_9_s]
  unfold fX1_writeChunks_39 fX1_writeChunks_58 fX1_writeChunks_70 fX1_writeChunks_92
  simp (disch := omega) only [zlit, nI_lt_nI, nI_le_nI, nI_eq_nI, nI_add, pk_mul, pk_sub, pk_div, zrem_nI, zrd_nI, zwr_nI, zb1_some, zb2_some, zb3_some, zb4_some, zb5_some, zb6_some, zb7_some, zb8_some, zlet_eq, if_pos, if_neg, pk_us, pk_un, true_and, and_true, true_or, or_true, ↓reduceIte, zcount, e, zap]
theorem zcls_other {w h k n run : Nat} {px f tb : Nat → Int32} {l : List Nat} {L : Int32} (hw : w ≤ 8) (hh : h ≤ 8) (hk : k < w * h) (hr : run < 62) (hl : l.length + 6 ≤ 800) (e : ¬ px k = L) : ∃ tb', fX1_writeChunks_9 (n + 1) L tb (nI w) (nI h) px (nI l.length) (zw f l) (nI run) (nI k) = fX1_writeChunks_9 n (px k) tb' (nI w) (nI h) px (nI (l ++ zRn run ++ zOt tb L (px k)).length) (zw f (l ++ zRn run ++ zOt tb L (px k))) (nI 0) (nI (k + 1)) ∧ ∀ m, m < 64 → tb' m = upd tb (zpl (px k)) (px k) m := by
  have hs := zmul64 hw hh
  have hq := zRn_len run
  obtain ⟨tb', e1, e2⟩ := @zoth8 f tb L (px k) (l ++ zRn run) (by rw [List.length_append]; omega)
  refine ⟨tb', ?_, e2⟩
  rw [fX1_writeChunks_9_s]
  unfold fX1_writeChunks_39 fX1_writeChunks_58 fX1_writeChunks_70 fX1_writeChunks_92
  unfold zRn at e1 ⊢
  by_cases c : run = 0
  · subst c
    simp only [↓reduceIte, List.append_nil] at e1 ⊢
    simp (disch := omega) only [zlit, nI_lt_nI, nI_le_nI, nI_eq_nI, nI_add, pk_mul, pk_sub, pk_div, zrem_nI, zrd_nI, zwr_nI, zb1_some, zb2_some, zb3_some, zb4_some, zb5_some, zb6_some, zb7_some, zb8_some, zlet_eq, if_pos, if_neg, pk_us, pk_un, true_and, and_true, true_or, or_true, ↓reduceIte, zcount, e, e1]
  · simp only [if_neg c] at e1 ⊢
    simp (disch := omega) only [zlit, nI_lt_nI, nI_le_nI, nI_eq_nI, nI_add, pk_mul, pk_sub, pk_div, zrem_nI, zrd_nI, zwr_nI, zb1_some, zb2_some, zb3_some, zb4_some, zb5_some, zb6_some, zb7_some, zb8_some, zlet_eq, if_pos, if_neg, pk_us, pk_un, true_and, and_true, true_or, or_true, ↓reduceIte, zcount, e, zap]
    simp (disch := omega) only [zlit, nI_lt_nI, nI_le_nI, nI_eq_nI, nI_add, pk_mul, pk_sub, pk_div, zrem_nI, zrd_nI, zwr_nI, zb1_some, zb2_some, zb3_some, zb4_some, zb5_some, zb6_some, zb7_some, zb8_some, zlet_eq, if_pos, if_neg, pk_us, pk_un, true_and, and_true, true_or, or_true, ↓reduceIte, e1]
theorem zref_flags {w h k n : Nat} {px rn tb tr la fl : Nat → Int32} {sz l1 L : Int32} (hw : w ≤ 8) (hh : h ≤ 8) (hP : zPic w h px rn) (hk : k < w * h) (hL : zLa L la) (hT : zTa tb tr) : fX9_writeFirst_67 (n + 1) (nI w) sz rn fl tr la l1 (nI (w * h)) (nI k) = fX9_writeFirst_112 (fX9_writeFirst_67 n) 1 (nI w) sz rn fl tr la l1 (nI (w * h)) (nI k) (zI (decide (px k = L))) (nI (4 * zpl (px k))) (zI (decide (px k = tb (zpl (px k))))) (nI 4) := by
  have hs := zmul64 hw hh
  have hp := zpl_lt (px k)
  have g := zflags (fl := fl) (sz := sz) (l1 := l1) (l2 := nI (w * h)) hw hh hP hk (P := 4 * zpl (px k)) (tr := tr) (la := la) (by omega) (zch L) (zch (tb (zpl (px k)))) (fun c hc => ⟨hL c hc, zch_lt _ _⟩) (fun c hc => ⟨hT _ c hp hc, zch_lt _ _⟩) (fX9_writeFirst_67 n) 1000 0 true true (by omega) (by omega)
  rw [Bool.true_and, Bool.true_and, Nat.sub_zero, zalq4, zalq4] at g
  rw [fX9_writeFirst_67_s]
  simp (disch := omega) only [zlit, nI_lt_nI, nI_le_nI, nI_eq_nI, nI_add, pk_mul, pk_sub, pk_div, zrem_nI, zrd_nI, zwr_nI, zb1_some, zb2_some, zb3_some, zb4_some, zb5_some, zb6_some, zb7_some, zb8_some, zlet_eq, if_pos, if_neg, pk_us, pk_un, true_and, and_true, true_or, or_true, ↓reduceIte, zchan hw hh hP, zpl9]
  exact g
theorem zref_same {w h k n run : Nat} {px rn tb tr la f : Nat → Int32} {l : List Nat} {L : Int32} (hw : w ≤ 8) (hh : h ≤ 8) (hP : zPic w h px rn) (hk : k < w * h) (hL : zLa L la) (hT : zTa tb tr) (hr : run < 62) (e : px k = L) : ∃ tr' la', fX9_writeFirst_67 (n + 1) (nI w) (nI l.length) rn (zw f l) tr la (nI run) (nI (w * h)) (nI k) = fX9_writeFirst_67 n (nI w) (nI l.length) rn (zw f l) tr' la' (nI (run + 1)) (nI (w * h)) (nI (k + 1)) ∧ zLa L la' ∧ zTa tb tr' := by
  have hs := zmul64 hw hh
  have hp := zpl_lt (px k)
  obtain ⟨tr', la', e1, e2, e3⟩ := zupdl (fl := zw f l) (sz := nI l.length) (l1 := nI (run + 1)) (l2 := nI (w * h)) (a := true) hw hh hP hk (P := 4 * zpl (px k)) (by omega) (fX9_writeFirst_67 n) 1000 0 tr la (by omega) (by omega)
  refine ⟨tr', la', ?_, fun c hc => ?_, fun m c hm hc => ?_⟩
  · rw [zref_flags hw hh hP hk hL hT, fX9_writeFirst_112_s]
    generalize zI (decide (px k = tb (zpl (px k)))) = kn
    rw [decide_eq_true e]
    rw [show zI true = nI 1 from rfl] at e1 ⊢
    unfold fX9_writeFirst_211 fX9_writeFirst_243
    by_cases q : run = 0
    · simp (disch := omega) only [zlit, nI_lt_nI, nI_le_nI, nI_eq_nI, nI_add, pk_mul, pk_sub, pk_div, zrem_nI, zrd_nI, zwr_nI, zb1_some, zb2_some, zb3_some, zb4_some, zb5_some, zb6_some, zb7_some, zb8_some, zlet_eq, if_pos, if_neg, pk_us, pk_un, true_and, and_true, true_or, or_true, ↓reduceIte]
      exact e1
    · simp (disch := omega) only [zlit, nI_lt_nI, nI_le_nI, nI_eq_nI, nI_add, pk_mul, pk_sub, pk_div, zrem_nI, zrd_nI, zwr_nI, zb1_some, zb2_some, zb3_some, zb4_some, zb5_some, zb6_some, zb7_some, zb8_some, zlet_eq, if_pos, if_neg, pk_us, pk_un, true_and, and_true, true_or, or_true, ↓reduceIte]
      exact e1
  · rw [e3 c, if_pos (by omega), e]
  · rw [e2, if_neg (fun z => by cases z.1)]
    exact hT m c hm hc
theorem zref_same62 {w h k n : Nat} {px rn tb tr la f : Nat → Int32} {l : List Nat} {L : Int32} (hw : w ≤ 8) (hh : h ≤ 8) (hP : zPic w h px rn) (hk : k < w * h) (hL : zLa L la) (hT : zTa tb tr) (hl : l.length < 800) (e : px k = L) : ∃ tr' la', fX9_writeFirst_67 (n + 1) (nI w) (nI l.length) rn (zw f l) tr la (nI 62) (nI (w * h)) (nI k) = fX9_writeFirst_67 n (nI w) (nI (l ++ [253]).length) rn (zw f (l ++ [253])) tr' la' (nI 1) (nI (w * h)) (nI (k + 1)) ∧ zLa L la' ∧ zTa tb tr' := by
  have hs := zmul64 hw hh
  have hp := zpl_lt (px k)
  obtain ⟨tr', la', e1, e2, e3⟩ := zupdl (fl := zw f (l ++ [253])) (sz := nI (l ++ [253]).length) (l1 := nI 1) (l2 := nI (w * h)) (a := true) hw hh hP hk (P := 4 * zpl (px k)) (by omega) (fX9_writeFirst_67 n) 1000 0 tr la (by omega) (by omega)
  refine ⟨tr', la', ?_, fun c hc => ?_, fun m c hm hc => ?_⟩
  · rw [zref_flags hw hh hP hk hL hT, fX9_writeFirst_112_s]
    generalize zI (decide (px k = tb (zpl (px k)))) = kn
    rw [decide_eq_true e]
    rw [show zI true = nI 1 from rfl] at e1 ⊢
    unfold fX9_writeFirst_200 fX9_writeFirst_211 fX9_writeFirst_243
    simp (disch := omega) only [zlit, nI_lt_nI, nI_le_nI, nI_eq_nI, nI_add, pk_mul, pk_sub, pk_div, zrem_nI, zrd_nI, zwr_nI, zb1_some, zb2_some, zb3_some, zb4_some, zb5_some, zb6_some, zb7_some, zb8_some, zlet_eq, if_pos, if_neg, pk_us, pk_un, true_and, and_true, true_or, or_true, ↓reduceIte, zadd]
    exact e1
  · rw [e3 c, if_pos (by omega), e]
  · rw [e2, if_neg (fun z => by cases z.1)]
    exact hT m c hm hc
theorem zref_other {w h k n run : Nat} {px rn tb tr la f : Nat → Int32} {l : List Nat} {L : Int32} (hw : w ≤ 8) (hh : h ≤ 8) (hP : zPic w h px rn) (hk : k < w * h) (hL : zLa L la) (hT : zTa tb tr) (hr : run ≤ 62) (hl : l.length + 6 ≤ 800) (e : ¬ px k = L) : ∃ tr' la', fX9_writeFirst_67 (n + 1) (nI w) (nI l.length) rn (zw f l) tr la (nI run) (nI (w * h)) (nI k) = fX9_writeFirst_67 n (nI w) (nI (l ++ zRn run ++ zOt tb L (px k)).length) rn (zw f (l ++ zRn run ++ zOt tb L (px k))) tr' la' (nI 0) (nI (w * h)) (nI (k + 1)) ∧ zLa (px k) la' ∧ zTa (upd tb (zpl (px k)) (px k)) tr' := by
  have hs := zmul64 hw hh
  have hp := zpl_lt (px k)
  have hq := zRn_len run
  obtain ⟨tr', la', e1, e2, e3⟩ := zupdl (fl := zw f (l ++ zRn run ++ zOt tb L (px k))) (sz := nI (l ++ zRn run ++ zOt tb L (px k)).length) (l1 := nI 0) (l2 := nI (w * h)) (a := false) hw hh hP hk (P := 4 * zpl (px k)) (by omega) (fX9_writeFirst_67 n) 1000 0 tr la (by omega) (by omega)
  refine ⟨tr', la', ?_, fun c hc => ?_, fun m c hm hc => ?_⟩
  · rw [zref_flags hw hh hP hk hL hT, fX9_writeFirst_112_s]
    have body : fX9_writeFirst_211 (fX9_writeFirst_67 n) (nI w) (nI (l ++ zRn run).length) rn (zw f (l ++ zRn run)) tr la (nI 0) (nI (w * h)) (nI k) (nI 0) (nI (4 * zpl (px k))) (zI (decide (px k = tb (zpl (px k))))) = fX9_writeFirst_67 n (nI w) (nI (l ++ zRn run ++ zOt tb L (px k)).length) rn (zw f (l ++ zRn run ++ zOt tb L (px k))) tr' la' (nI 0) (nI (w * h)) (nI (k + 1)) := by
      rw [show zI false = nI 0 from rfl] at e1
      have hl2 : (l ++ zRn run).length + 5 ≤ 800 := by rw [List.length_append]; omega
      have hd := zdif9 (f := f) (l := l ++ zRn run) hw hh hP hk hl2 hL
      unfold fX9_writeFirst_211 fX9_writeFirst_243
      unfold zOt at e1 ⊢
      by_cases c : tb (zpl (px k)) = px k
      · rw [decide_eq_true c.symm, show zI true = nI 1 from rfl]
        simp only [if_pos c] at e1 ⊢
        simp (disch := omega) only [zlit, nI_lt_nI, nI_le_nI, nI_eq_nI, nI_add, pk_mul, pk_sub, pk_div, zrem_nI, zrd_nI, zwr_nI, zb1_some, zb2_some, zb3_some, zb4_some, zb5_some, zb6_some, zb7_some, zb8_some, zlet_eq, if_pos, if_neg, pk_us, pk_un, true_and, and_true, true_or, or_true, ↓reduceIte, zadd, show 4 * zpl (px k) / 4 = zpl (px k) by omega]
        exact e1
      · rw [decide_eq_false (fun z => c z.symm), show zI false = nI 0 from rfl]
        simp only [if_neg c] at e1 ⊢
        simp (disch := omega) only [zlit, nI_lt_nI, nI_le_nI, nI_eq_nI, nI_add, pk_mul, pk_sub, pk_div, zrem_nI, zrd_nI, zwr_nI, zb1_some, zb2_some, zb3_some, zb4_some, zb5_some, zb6_some, zb7_some, zb8_some, zlet_eq, if_pos, if_neg, pk_us, pk_un, true_and, and_true, true_or, or_true, ↓reduceIte, hd]
        exact e1
    unfold fX9_writeFirst_200
    generalize zI (decide (px k = tb (zpl (px k)))) = kn at body ⊢
    rw [decide_eq_false e, show zI false = nI 0 from rfl]
    unfold zRn at body ⊢
    by_cases q : run = 0
    · subst q
      simp only [↓reduceIte, List.append_nil] at body ⊢
      simp (disch := omega) only [zlit, nI_lt_nI, nI_le_nI, nI_eq_nI, nI_add, pk_mul, pk_sub, pk_div, zrem_nI, zrd_nI, zwr_nI, zb1_some, zb2_some, zb3_some, zb4_some, zb5_some, zb6_some, zb7_some, zb8_some, zlet_eq, if_pos, if_neg, pk_us, pk_un, true_and, and_true, true_or, or_true, ↓reduceIte]
      exact body
    · simp only [if_neg q] at body ⊢
      simp (disch := omega) only [zlit, nI_lt_nI, nI_le_nI, nI_eq_nI, nI_add, pk_mul, pk_sub, pk_div, zrem_nI, zrd_nI, zwr_nI, zb1_some, zb2_some, zb3_some, zb4_some, zb5_some, zb6_some, zb7_some, zb8_some, zlet_eq, if_pos, if_neg, pk_us, pk_un, true_and, and_true, true_or, or_true, ↓reduceIte, zadd]
      exact body
  · rw [e3 c, if_pos (by omega)]
  · rw [e2]
    by_cases q : m = zpl (px k)
    · subst q
      rw [if_pos ⟨rfl, by omega, by omega⟩, pk_us, show 4 * zpl (px k) + c - 4 * zpl (px k) = c by omega]
    · rw [if_neg (fun z => by have := z.2; omega), pk_un q]
      exact hT m c hm hc
theorem zlock {w h : Nat} {px rn : Nat → Int32} (hw : w ≤ 8) (hh : h ≤ 8) (hP : zPic w h px rn) : ∀ (n k run run' : Nat) (L : Int32) (la tb tr f g : Nat → Int32) (l l' : List Nat), k ≤ w * h → w * h - k < n → zLa L la → zTa tb tr →
    ((run' < 62 ∧ run = run' ∧ l = l') ∨ (run' = 62 ∧ run = 0 ∧ l = l' ++ [253])) → l.length + (if run = 0 then 0 else 1) ≤ 14 + 5 * k → (∀ u ∈ l, u < 256) →
    ∃ (m : List Nat) (L' : Int32) (tb' tr' la' : Nat → Int32), fX1_writeChunks_9 n L tb (nI w) (nI h) px (nI l.length) (zw f l) (nI run) (nI k) = some (L', tb', nI m.length, zw f m) ∧ fX9_writeFirst_67 n (nI w) (nI l'.length) rn (zw g l') tr la (nI run') (nI (w * h)) (nI k) = fX9_writeFirst_326 (nI m.length) (zw g m) tr' la' ∧ m.length ≤ 14 + 5 * (w * h) ∧ ∀ u ∈ m, u < 256 := by
  have hs := zmul64 hw hh
  intro n
  induction n with
  | zero => intro k run run' L la tb tr f g l l' h1 h2; omega
  | succ n ih =>
    intro k run run' L la tb tr f g l l' h1 h2 hL hT hR hl hu
    by_cases q : w * h ≤ k
    · rw [fX1_writeChunks_9_s, fX9_writeFirst_67_s]
      have hk : k = w * h := by omega
      rcases hR with ⟨r1, r2, r3⟩ | ⟨r1, r2, r3⟩
      · subst r2 r3
        by_cases c : run = 0
        · subst c
          refine ⟨l, L, tb, tr, la, ?_, ?_, by rw [if_pos rfl] at hl; omega, hu⟩
          · simp (disch := omega) only [zlit, nI_lt_nI, nI_le_nI, nI_eq_nI, nI_add, pk_mul, pk_sub, pk_div, zrem_nI, zrd_nI, zwr_nI, zb1_some, zb2_some, zb3_some, zb4_some, zb5_some, zb6_some, zb7_some, zb8_some, zlet_eq, if_pos, if_neg, pk_us, pk_un, true_and, and_true, true_or, or_true, ↓reduceIte, zcount]
          · simp (disch := omega) only [zlit, nI_lt_nI, nI_le_nI, nI_eq_nI, nI_add, pk_mul, pk_sub, pk_div, zrem_nI, zrd_nI, zwr_nI, zb1_some, zb2_some, zb3_some, zb4_some, zb5_some, zb6_some, zb7_some, zb8_some, zlet_eq, if_pos, if_neg, pk_us, pk_un, true_and, and_true, true_or, or_true, ↓reduceIte]
        · rw [if_neg c] at hl
          refine ⟨l ++ [191 + run], L, tb, tr, la, ?_, ?_, by rw [List.length_append]; simp; omega, ?_⟩
          · simp (disch := omega) only [zlit, nI_lt_nI, nI_le_nI, nI_eq_nI, nI_add, pk_mul, pk_sub, pk_div, zrem_nI, zrd_nI, zwr_nI, zb1_some, zb2_some, zb3_some, zb4_some, zb5_some, zb6_some, zb7_some, zb8_some, zlet_eq, if_pos, if_neg, pk_us, pk_un, true_and, and_true, true_or, or_true, ↓reduceIte, zcount, zap]
          · simp (disch := omega) only [zlit, nI_lt_nI, nI_le_nI, nI_eq_nI, nI_add, pk_mul, pk_sub, pk_div, zrem_nI, zrd_nI, zwr_nI, zb1_some, zb2_some, zb3_some, zb4_some, zb5_some, zb6_some, zb7_some, zb8_some, zlet_eq, if_pos, if_neg, pk_us, pk_un, true_and, and_true, true_or, or_true, ↓reduceIte, zadd]
          · intro u hm
            rw [List.mem_append] at hm
            rcases hm with hm | hm
            · exact hu u hm
            · simp at hm; omega
      · subst r1 r2 r3
        rw [if_pos rfl, List.length_append] at hl
        simp at hl
        refine ⟨l' ++ [253], L, tb, tr, la, ?_, ?_, by rw [List.length_append]; simp; omega, hu⟩
        · simp (disch := omega) only [zlit, nI_lt_nI, nI_le_nI, nI_eq_nI, nI_add, pk_mul, pk_sub, pk_div, zrem_nI, zrd_nI, zwr_nI, zb1_some, zb2_some, zb3_some, zb4_some, zb5_some, zb6_some, zb7_some, zb8_some, zlet_eq, if_pos, if_neg, pk_us, pk_un, true_and, and_true, true_or, or_true, ↓reduceIte, zcount]
        · simp (disch := omega) only [zlit, nI_lt_nI, nI_le_nI, nI_eq_nI, nI_add, pk_mul, pk_sub, pk_div, zrem_nI, zrd_nI, zwr_nI, zb1_some, zb2_some, zb3_some, zb4_some, zb5_some, zb6_some, zb7_some, zb8_some, zlet_eq, if_pos, if_neg, pk_us, pk_un, true_and, and_true, true_or, or_true, ↓reduceIte, zadd]
    · have hk : k < w * h := by omega
      by_cases e : px k = L
      · rcases hR with ⟨r1, r2, r3⟩ | ⟨r1, r2, r3⟩
        · subst r2 r3
          obtain ⟨tr', la', a1, a2, a3⟩ := zref_same (n := n) (f := g) (l := l) hw hh hP hk hL hT r1 e
          rw [a1]
          have hl0 : l.length + 1 ≤ 14 + 5 * (k + 1) := by
            by_cases c : run = 0
            · rw [if_pos c] at hl; omega
            · rw [if_neg c] at hl; omega
          by_cases c : run = 61
          · subst c
            rw [zcls_same61 hw hh hk (by omega) e]
            refine ih (k + 1) 0 62 L la' tb tr' f g (l ++ [253]) l (by omega) (by omega) a2 a3 (Or.inr ⟨rfl, rfl, rfl⟩) ?_ ?_
            · rw [if_pos rfl, List.length_append]; simp; omega
            · intro u hm
              rw [List.mem_append] at hm
              rcases hm with hm | hm
              · exact hu u hm
              · simp at hm; omega
          · rw [zcls_same hw hh hk (by omega) e]
            refine ih (k + 1) (run + 1) (run + 1) L la' tb tr' f g l l (by omega) (by omega) a2 a3 (Or.inl ⟨by omega, rfl, rfl⟩) ?_ hu
            rw [if_neg (by omega)]; omega
        · subst r1 r2 r3
          rw [if_pos rfl] at hl
          have hl0 := hl
          rw [List.length_append] at hl0
          simp at hl0
          obtain ⟨tr', la', a1, a2, a3⟩ := zref_same62 (n := n) (f := g) (l := l') hw hh hP hk hL hT (by omega) e
          rw [a1, zcls_same hw hh hk (by omega) e]
          refine ih (k + 1) 1 1 L la' tb tr' f g (l' ++ [253]) (l' ++ [253]) (by omega) (by omega) a2 a3 (Or.inl ⟨by omega, rfl, rfl⟩) ?_ hu
          rw [if_neg (by omega)]; omega
      · have hoL := zOt_len tb L (px k)
        have hoA := zOt_all tb L (px k)
        rcases hR with ⟨r1, r2, r3⟩ | ⟨r1, r2, r3⟩
        · subst r2 r3
          have hq := zRn_len run
          have hl0 : l.length + (zRn run).length ≤ 14 + 5 * k := by
            unfold zRn
            by_cases c : run = 0
            · rw [if_pos c] at hl ⊢; exact hl
            · rw [if_neg c] at hl ⊢; exact hl
          obtain ⟨tr', la', a1, a2, a3⟩ := zref_other (n := n) (f := g) (l := l) (run := run) hw hh hP hk hL hT (by omega) (by omega) e
          obtain ⟨tb', b1, b2⟩ := zcls_other (n := n) (tb := tb) (f := f) (l := l) hw hh hk r1 (by omega) e
          rw [a1, b1]
          refine ih (k + 1) 0 0 (px k) la' tb' tr' f g _ _ (by omega) (by omega) a2 (fun m c hm hc => by rw [a3 m c hm hc, b2 m hm]) (Or.inl ⟨by omega, rfl, rfl⟩) ?_ ?_
          · rw [if_pos rfl, List.length_append, List.length_append]; omega
          · intro u hm
            rw [List.mem_append, List.mem_append] at hm
            rcases hm with (hm | hm) | hm
            · exact hu u hm
            · unfold zRn at hm
              split at hm
              · simp at hm
              · simp at hm; omega
            · exact hoA u hm
        · subst r1 r2 r3
          rw [if_pos rfl] at hl
          have hl0 := hl
          rw [List.length_append] at hl0
          simp at hl0
          obtain ⟨tr', la', a1, a2, a3⟩ := zref_other (n := n) (f := g) (l := l') hw hh hP hk hL hT (Nat.le_refl 62) (by omega) e
          obtain ⟨tb', b1, b2⟩ := zcls_other (n := n) (tb := tb) (f := f) (l := l' ++ [253]) hw hh hk (show 0 < 62 by omega) (by omega) e
          have z1 : l' ++ zRn 62 ++ zOt tb L (px k) = l' ++ [253] ++ zOt tb L (px k) := rfl
          have z2 : l' ++ [253] ++ zRn 0 ++ zOt tb L (px k) = l' ++ [253] ++ zOt tb L (px k) := by
            show l' ++ [253] ++ [] ++ zOt tb L (px k) = l' ++ [253] ++ zOt tb L (px k)
            rw [List.append_nil]
          rw [z1] at a1
          rw [z2] at b1
          rw [a1, b1]
          refine ih (k + 1) 0 0 (px k) la' tb' tr' f g _ _ (by omega) (by omega) a2 (fun m c hm hc => by rw [a3 m c hm hc, b2 m hm]) (Or.inl ⟨by omega, rfl, rfl⟩) ?_ ?_
          · rw [if_pos rfl, List.length_append, List.length_append]; simp; omega
          · intro u hm
            rw [List.mem_append] at hm
            rcases hm with hm | hm
            · exact hu u hm
            · exact hoA u hm
theorem zforget {tb : Nat → Int32} : fX1_forget tb = some (nI 255, fun j => if j < 64 then nI 0 else tb j) := by
  unfold fX1_forget fJ7_fill_53178 fX8_opaque
  have e := @zfill (nI 0) 1000 0 tb (by omega) (by omega)
  have c := @zcolour 0 0 0 255 (by decide) (by decide) (by decide) (by decide)
  simp (disch := omega) only [zlit, nI_lt_nI, nI_le_nI, nI_eq_nI, nI_add, pk_mul, pk_sub, pk_div, zrem_nI, zrd_nI, zwr_nI, zb1_some, zb2_some, zb3_some, zb4_some, zb5_some, zb6_some, zb7_some, zb8_some, zlet_eq, if_pos, if_neg, pk_us, pk_un, true_and, and_true, true_or, or_true, ↓reduceIte, e, c]
  simp only [Nat.zero_le, true_and]
  rfl
theorem zclr24 {tr : Nat → Int32} : ∀ (la : Nat → Int32), ∃ la', fX9_clearTable_24 1000 tr la (nI 0) = some (tr, la') ∧ zLa (nI 255) la' := by
  intro la
  refine ⟨upd (upd (upd (upd la 0 (nI 0)) 1 (nI 0)) 2 (nI 0)) 3 (nI 255), ?_, fun c hc => ?_⟩
  · rw [fX9_clearTable_24_s]; unfold fX9_clearTable_46
    simp (disch := omega) only [zlit, nI_lt_nI, nI_le_nI, nI_eq_nI, nI_add, pk_mul, pk_sub, pk_div, zrem_nI, zrd_nI, zwr_nI, zb1_some, zb2_some, zb3_some, zb4_some, zb5_some, zb6_some, zb7_some, zb8_some, zlet_eq, if_pos, if_neg, pk_us, pk_un, true_and, and_true, true_or, or_true, ↓reduceIte]
    rw [fX9_clearTable_24_s]; unfold fX9_clearTable_46
    simp (disch := omega) only [zlit, nI_lt_nI, nI_le_nI, nI_eq_nI, nI_add, pk_mul, pk_sub, pk_div, zrem_nI, zrd_nI, zwr_nI, zb1_some, zb2_some, zb3_some, zb4_some, zb5_some, zb6_some, zb7_some, zb8_some, zlet_eq, if_pos, if_neg, pk_us, pk_un, true_and, and_true, true_or, or_true, ↓reduceIte]
    rw [fX9_clearTable_24_s]; unfold fX9_clearTable_46
    simp (disch := omega) only [zlit, nI_lt_nI, nI_le_nI, nI_eq_nI, nI_add, pk_mul, pk_sub, pk_div, zrem_nI, zrd_nI, zwr_nI, zb1_some, zb2_some, zb3_some, zb4_some, zb5_some, zb6_some, zb7_some, zb8_some, zlet_eq, if_pos, if_neg, pk_us, pk_un, true_and, and_true, true_or, or_true, ↓reduceIte]
    rw [fX9_clearTable_24_s]; unfold fX9_clearTable_46
    simp (disch := omega) only [zlit, nI_lt_nI, nI_le_nI, nI_eq_nI, nI_add, pk_mul, pk_sub, pk_div, zrem_nI, zrd_nI, zwr_nI, zb1_some, zb2_some, zb3_some, zb4_some, zb5_some, zb6_some, zb7_some, zb8_some, zlet_eq, if_pos, if_neg, pk_us, pk_un, true_and, and_true, true_or, or_true, ↓reduceIte]
    rw [fX9_clearTable_24_s]; unfold fX9_clearTable_46
    simp (disch := omega) only [zlit, nI_lt_nI, nI_le_nI, nI_eq_nI, nI_add, pk_mul, pk_sub, pk_div, zrem_nI, zrd_nI, zwr_nI, zb1_some, zb2_some, zb3_some, zb4_some, zb5_some, zb6_some, zb7_some, zb8_some, zlet_eq, if_pos, if_neg, pk_us, pk_un, true_and, and_true, true_or, or_true, ↓reduceIte]
  · rcases (show c = 0 ∨ c = 1 ∨ c = 2 ∨ c = 3 by omega) with e | e | e | e
    · subst e; simp (disch := omega) only [zlit, nI_lt_nI, nI_le_nI, nI_eq_nI, nI_add, pk_mul, pk_sub, pk_div, zrem_nI, zrd_nI, zwr_nI, zb1_some, zb2_some, zb3_some, zb4_some, zb5_some, zb6_some, zb7_some, zb8_some, zlet_eq, if_pos, if_neg, pk_us, pk_un, true_and, and_true, true_or, or_true, ↓reduceIte]; rfl
    · subst e; simp (disch := omega) only [zlit, nI_lt_nI, nI_le_nI, nI_eq_nI, nI_add, pk_mul, pk_sub, pk_div, zrem_nI, zrd_nI, zwr_nI, zb1_some, zb2_some, zb3_some, zb4_some, zb5_some, zb6_some, zb7_some, zb8_some, zlet_eq, if_pos, if_neg, pk_us, pk_un, true_and, and_true, true_or, or_true, ↓reduceIte]; rfl
    · subst e; simp (disch := omega) only [zlit, nI_lt_nI, nI_le_nI, nI_eq_nI, nI_add, pk_mul, pk_sub, pk_div, zrem_nI, zrd_nI, zwr_nI, zb1_some, zb2_some, zb3_some, zb4_some, zb5_some, zb6_some, zb7_some, zb8_some, zlet_eq, if_pos, if_neg, pk_us, pk_un, true_and, and_true, true_or, or_true, ↓reduceIte]; rfl
    · subst e; simp (disch := omega) only [zlit, nI_lt_nI, nI_le_nI, nI_eq_nI, nI_add, pk_mul, pk_sub, pk_div, zrem_nI, zrd_nI, zwr_nI, zb1_some, zb2_some, zb3_some, zb4_some, zb5_some, zb6_some, zb7_some, zb8_some, zlet_eq, if_pos, if_neg, pk_us, pk_un, true_and, and_true, true_or, or_true, ↓reduceIte]; rfl
theorem zclr2 {la : Nat → Int32} : ∀ (n i : Nat) (tr : Nat → Int32), i ≤ 256 → 256 - i < n → fX9_clearTable_2 n tr la (nI i) = fX9_clearTable_24 1000 (fun j => if i ≤ j ∧ j < 256 then nI 0 else tr j) la (nI 0) := by
  intro n
  induction n with
  | zero => intro i tr h1 h2; omega
  | succ n ih =>
    intro i tr h1 h2
    rw [fX9_clearTable_2_s]
    by_cases q : 256 ≤ i
    · have e : (fun j => if i ≤ j ∧ j < 256 then nI 0 else tr j) = tr := by
        funext j
        rw [if_neg (by omega)]
      rw [e]
      simp (disch := omega) only [zlit, nI_lt_nI, nI_le_nI, nI_eq_nI, nI_add, pk_mul, pk_sub, pk_div, zrem_nI, zrd_nI, zwr_nI, zb1_some, zb2_some, zb3_some, zb4_some, zb5_some, zb6_some, zb7_some, zb8_some, zlet_eq, if_pos, if_neg, pk_us, pk_un, true_and, and_true, true_or, or_true, ↓reduceIte]
    · simp (disch := omega) only [zlit, nI_lt_nI, nI_le_nI, nI_eq_nI, nI_add, pk_mul, pk_sub, pk_div, zrem_nI, zrd_nI, zwr_nI, zb1_some, zb2_some, zb3_some, zb4_some, zb5_some, zb6_some, zb7_some, zb8_some, zlet_eq, if_pos, if_neg, pk_us, pk_un, true_and, and_true, true_or, or_true, ↓reduceIte]
      rw [ih (i + 1) _ (by omega) (by omega)]
      have e : (fun j => if i + 1 ≤ j ∧ j < 256 then nI 0 else upd tr i (nI 0) j) = (fun j => if i ≤ j ∧ j < 256 then nI 0 else tr j) := by
        funext j
        by_cases r : j = i
        · subst r
          rw [if_neg (by omega), if_pos (by omega), pk_us]
        · rw [pk_un r]
          by_cases s : i ≤ j ∧ j < 256
          · rw [if_pos (by omega), if_pos s]
          · rw [if_neg (by omega), if_neg s]
      rw [e]
theorem zclear {tr la tb : Nat → Int32} : ∃ tr' la', fX9_clearTable tr la = some (tr', la') ∧ zLa (nI 255) la' ∧ zTa (fun j => if j < 64 then nI 0 else tb j) tr' := by
  obtain ⟨la', e1, e2⟩ := @zclr24 (fun j => if 0 ≤ j ∧ j < 256 then nI 0 else tr j) la
  refine ⟨(fun j => if 0 ≤ j ∧ j < 256 then nI 0 else tr j), la', ?_, e2, fun m c hm hc => ?_⟩
  · unfold fX9_clearTable
    rw [show (0 : Int32) = nI 0 from rfl, zclr2 1000 0 tr (by omega) (by omega)]
    exact e1
  · show (if 0 ≤ 4 * m + c ∧ 4 * m + c < 256 then nI 0 else tr (4 * m + c)) = nI (zch (if m < 64 then nI 0 else tb m) c)
    rw [if_pos (by omega), if_pos hm]
    rcases (show c = 0 ∨ c = 1 ∨ c = 2 ∨ c = 3 by omega) with e | e | e | e <;> subst e <;> rfl
theorem zend9 {f tr la : Nat → Int32} : ∀ (n i : Nat) (l : List Nat), i ≤ 7 → 7 - i < n → l.length + (7 - i) < 800 → fX9_writeFirst_328 n (nI l.length) (zw f l) tr la (nI i) = some (nI (l ++ List.replicate (7 - i) 0 ++ [1]).length, zw f (l ++ List.replicate (7 - i) 0 ++ [1]), tr, la) := by
  intro n
  induction n with
  | zero => intro i l h1 h2; omega
  | succ n ih =>
    intro i l h1 h2 h3
    rw [fX9_writeFirst_328_s]
    by_cases q : 7 ≤ i
    · rw [show 7 - i = 0 by omega, List.replicate_zero, List.append_nil]
      simp (disch := omega) only [zlit, nI_lt_nI, nI_le_nI, nI_eq_nI, nI_add, pk_mul, pk_sub, pk_div, zrem_nI, zrd_nI, zwr_nI, zb1_some, zb2_some, zb3_some, zb4_some, zb5_some, zb6_some, zb7_some, zb8_some, zlet_eq, if_pos, if_neg, pk_us, pk_un, true_and, and_true, true_or, or_true, ↓reduceIte, zadd]
    · have g := ih (i + 1) (l ++ [0]) (by omega) (by omega) (by rw [List.length_append]; simp; omega)
      have e : l ++ [0] ++ List.replicate (7 - (i + 1)) 0 = l ++ List.replicate (7 - i) 0 := by
        rw [show 7 - i = (7 - (i + 1)) + 1 by omega, List.replicate_succ, List.append_assoc]
        rfl
      rw [e] at g
      simp (disch := omega) only [zlit, nI_lt_nI, nI_le_nI, nI_eq_nI, nI_add, pk_mul, pk_sub, pk_div, zrem_nI, zrd_nI, zwr_nI, zb1_some, zb2_some, zb3_some, zb4_some, zb5_some, zb6_some, zb7_some, zb8_some, zlet_eq, if_pos, if_neg, pk_us, pk_un, true_and, and_true, true_or, or_true, ↓reduceIte, zadd]
      exact g
/-- the head of a file of the first format -/
def zH0 (w h a : Nat) : List Nat := [113, 111, 105, 102, zch (nI w) 0, zch (nI w) 1, zch (nI w) 2, zch (nI w) 3, zch (nI h) 0, zch (nI h) 1, zch (nI h) 2, zch (nI h) 3, a, 0]
theorem zH0_all (w h : Nat) {a : Nat} (ha : a < 256) : ∀ u ∈ zH0 w h a, u < 256 := by
  have w0 := zch_lt (nI w) 0
  have w1 := zch_lt (nI w) 1
  have w2 := zch_lt (nI w) 2
  have w3 := zch_lt (nI w) 3
  have h0 := zch_lt (nI h) 0
  have h1 := zch_lt (nI h) 1
  have h2 := zch_lt (nI h) 2
  have h3 := zch_lt (nI h) 3
  intro u hu
  unfold zH0 at hu
  simp at hu
  omega
theorem zwrite0 {w h : Nat} {px rn fb rf tb tr la : Nat → Int32} (hw : w ≤ 8) (hh : h ≤ 8) (hP : zPic w h px rn) :
    ∃ (n : Nat) (K : Int32) (tb' tr' la' fb' rf' : Nat → Int32), fX1_write tb (nI w) (nI h) px (nI 0) fb = some (K, tb', nI n, fb') ∧ fX9_writeFirst (nI w) (nI h) (nI 0) rn rf tr la = some (nI n, rf', tr', la') ∧ n ≤ 800 ∧ zFil n fb' rf' := by
  have hs := zmul64 hw hh
  have main : ∀ a : Nat, a < 256 → ∃ (n : Nat) (K : Int32) (tb' tr' la' fb' rf' : Nat → Int32), fX1_write_59 tb (nI w) (nI h) px (nI (([113, 111, 105, 102] : List Nat) ++ [zch (nI w) 0, zch (nI w) 1, zch (nI w) 2, zch (nI w) 3] ++ [zch (nI h) 0, zch (nI h) 1, zch (nI h) 2, zch (nI h) 3]).length) (zw fb ([113, 111, 105, 102] ++ [zch (nI w) 0, zch (nI w) 1, zch (nI w) 2, zch (nI w) 3] ++ [zch (nI h) 0, zch (nI h) 1, zch (nI h) 2, zch (nI h) 3])) (nI a) = some (K, tb', nI n, fb') ∧ fX9_writeFirst_45 (nI w) (nI h) (nI (([113, 111, 105, 102] : List Nat) ++ [zch (nI w) 0, zch (nI w) 1, zch (nI w) 2, zch (nI w) 3] ++ [zch (nI h) 0, zch (nI h) 1, zch (nI h) 2, zch (nI h) 3]).length) rn (zw rf ([113, 111, 105, 102] ++ [zch (nI w) 0, zch (nI w) 1, zch (nI w) 2, zch (nI w) 3] ++ [zch (nI h) 0, zch (nI h) 1, zch (nI h) 2, zch (nI h) 3])) tr la (nI a) = some (nI n, rf', tr', la') ∧ n ≤ 800 ∧ zFil n fb' rf' := by
    intro a ha
    obtain ⟨tr0, la0, c1, c2, c3⟩ := @zclear tr la tb
    obtain ⟨m, L', tb', tr', la', e1, e2, e3, e4⟩ := zlock hw hh hP 1000 0 0 0 (nI 255) la0 (fun j => if j < 64 then nI 0 else tb j) tr0 fb rf (zH0 w h a) (zH0 w h a) (by omega) (by omega) c2 c3 (Or.inl ⟨by omega, rfl, rfl⟩) (by rw [if_pos rfl]; exact Nat.le_of_ble_eq_true rfl) (zH0_all w h ha)
    have hm : m.length + 8 ≤ 800 := by omega
    refine ⟨(m ++ List.replicate 7 0 ++ [1]).length, L', tb', tr', la', zw fb (m ++ List.replicate 7 0 ++ [1]), zw rf (m ++ List.replicate 7 0 ++ [1]), ?_, ?_, by simp; omega, zwFl ?_⟩
    · unfold fX1_write_59 fX1_writeChunks
      have z8 := @zzeros8 fb 7 m (by omega)
      have z1 := @zap fb (m ++ List.replicate 7 0) 1 (by simp; omega)
      have y1 := @zap fb ([113, 111, 105, 102] ++ [zch (nI w) 0, zch (nI w) 1, zch (nI w) 2, zch (nI w) 3] ++ [zch (nI h) 0, zch (nI h) 1, zch (nI h) 2, zch (nI h) 3]) a (by simp)
      have y2 := @zap fb ([113, 111, 105, 102] ++ [zch (nI w) 0, zch (nI w) 1, zch (nI w) 2, zch (nI w) 3] ++ [zch (nI h) 0, zch (nI h) 1, zch (nI h) 2, zch (nI h) 3] ++ [a]) 0 (by simp)
      have e1' : fX1_writeChunks_9 1000 (nI 255) (fun j => if j < 64 then nI 0 else tb j) (nI w) (nI h) px (nI ([113, 111, 105, 102] ++ [zch (nI w) 0, zch (nI w) 1, zch (nI w) 2, zch (nI w) 3] ++ [zch (nI h) 0, zch (nI h) 1, zch (nI h) 2, zch (nI h) 3] ++ [a] ++ [0]).length) (zw fb ([113, 111, 105, 102] ++ [zch (nI w) 0, zch (nI w) 1, zch (nI w) 2, zch (nI w) 3] ++ [zch (nI h) 0, zch (nI h) 1, zch (nI h) 2, zch (nI h) 3] ++ [a] ++ [0])) (nI 0) (nI 0) = some (L', tb', nI m.length, zw fb m) := e1
      rw [y1, zb3_some]
      simp only [zlit]
      rw [y2, zb3_some, zforget, zb2_some, e1', zb4_some, z8, zb2_some, z1, zb3_some]
    · unfold fX9_writeFirst_45
      have y1 := @zaddTwo rf ([113, 111, 105, 102] ++ [zch (nI w) 0, zch (nI w) 1, zch (nI w) 2, zch (nI w) 3] ++ [zch (nI h) 0, zch (nI h) 1, zch (nI h) 2, zch (nI h) 3]) a 0 (by simp) ha (by decide)
      have e2' : fX9_writeFirst_67 1000 (nI w) (nI ([113, 111, 105, 102] ++ [zch (nI w) 0, zch (nI w) 1, zch (nI w) 2, zch (nI w) 3] ++ [zch (nI h) 0, zch (nI h) 1, zch (nI h) 2, zch (nI h) 3] ++ [a, 0]).length) rn (zw rf ([113, 111, 105, 102] ++ [zch (nI w) 0, zch (nI w) 1, zch (nI w) 2, zch (nI w) 3] ++ [zch (nI h) 0, zch (nI h) 1, zch (nI h) 2, zch (nI h) 3] ++ [a, 0])) tr0 la0 (nI 0) (nI (w * h)) (nI 0) = fX9_writeFirst_326 (nI m.length) (zw rf m) tr' la' := e2
      have z := @zend9 rf tr' la' 1000 0 m (by omega) (by omega) (by omega)
      simp only [zlit]
      rw [y1, zb2_some, c1, zb2_some, pk_mul, zlet_eq, e2']
      exact z
    · intro u hu
      rw [List.mem_append, List.mem_append] at hu
      rcases hu with (hu | hu) | hu
      · exact e4 u hu
      · rw [List.eq_of_mem_replicate hu]; decide
      · simp at hu; omega
  unfold fX1_write fX9_writeFirst
  have p1 := @zap fb [] 113 (by decide)
  have p2 := @zap fb [113] 111 (by decide)
  have p3 := @zap fb [113, 111] 105 (by decide)
  have p4 := @zap fb [113, 111, 105] 102 (by decide)
  have q1 := @zaddTwo rf [] 113 111 (by decide) (by decide) (by decide)
  have q2 := @zaddTwo rf [113, 111] 105 102 (by decide) (by decide) (by decide)
  have p5 := @zbig4 fb (nI w) [113, 111, 105, 102] (by simp)
  have p6 := @zbig4 fb (nI h) ([113, 111, 105, 102] ++ [zch (nI w) 0, zch (nI w) 1, zch (nI w) 2, zch (nI w) 3]) (by simp)
  have q5 := @zbig4_9 rf w [113, 111, 105, 102] (by simp) (by omega)
  have q6 := @zbig4_9 rf h ([113, 111, 105, 102] ++ [zch (nI w) 0, zch (nI w) 1, zch (nI w) 2, zch (nI w) 3]) (by simp) (by omega)
  rw [List.nil_append] at p1 q1
  have p1' : fX2_append (nI 0) fb (nI 113) = some (nI 1, nI [113].length, zw fb [113]) := p1
  have q1' : fX9_addTwo (nI 0) rf (nI 113) (nI 111) = some (nI [113, 111].length, zw rf [113, 111]) := q1
  have j1 : ([113] : List Nat) ++ [111] = [113, 111] := rfl
  have j2 : ([113, 111] : List Nat) ++ [105] = [113, 111, 105] := rfl
  have j3 : ([113, 111, 105] : List Nat) ++ [102] = [113, 111, 105, 102] := rfl
  have j4 : ([113, 111] : List Nat) ++ [105, 102] = [113, 111, 105, 102] := rfl
  rw [j1] at p2
  rw [j2] at p3
  rw [j3] at p4
  rw [j4] at q2
  simp only [zlit]
  rw [p1', zb3_some, p2, zb3_some, p3, zb3_some, p4, zb3_some, p5, zb2_some, p6, zb2_some, zisop8 hs, zb1_some]
  rw [q1', zb2_some, q2, zb2_some, q5, zb2_some, q6, zb2_some, zisop9 hw hh hP, zb1_some]
  cases zall (zop px) 0 (w * h)
  · obtain ⟨n, K, tb', tr', la', fb', rf', e1, e2, e3, e4⟩ := main 4 (by decide)
    exact ⟨n, K, tb', tr', la', fb', rf', (if_pos rfl).trans e1, (if_pos rfl).trans e2, e3, e4⟩
  · obtain ⟨n, K, tb', tr', la', fb', rf', e1, e2, e3, e4⟩ := main 3 (by decide)
    exact ⟨n, K, tb', tr', la', fb', rf', (if_neg (by decide)).trans e1, (if_neg (by decide)).trans e2, e3, e4⟩
/-- encode, class and reference -/
theorem zo_encode {w h n : Nat} {px rn fb rf tb bc tr la : Nat → Int32} {cl bk kd : Int32} (hw : w ≤ 8) (hh1 : 1 ≤ h) (hh : h ≤ 8) (hP : zPic w h px rn) (hn : n ≤ 800) (hF : zFil n fb rf) (u v : Int32) :
    ∃ (r : Int32) (m : Nat) (fb' rf' tb' bc' tr' la' : Nat → Int32) (cl' bk' kd' : Int32), fX8_encode (nI w) (nI h) px (nI n) fb cl tb bk bc kd u v = some (r, nI m, fb', cl', tb', bk', bc', kd') ∧ fX9_encode (nI w) (nI h) (nI n) rn rf tr la u v = some (r, nI m, rf', tr', la') ∧ m ≤ 800 ∧ zFil m fb' rf' := by
  have hs := zmul64 hw hh
  have no : fX9_encode_22 (nI w) (nI h) (nI n) rn rf tr la u v = some (-(nI 1), nI n, rf, tr, la) := by
    unfold fX9_encode_22 fX9_encode_23
    simp (disch := omega) only [zlit, nI_lt_nI, nI_le_nI, nI_eq_nI, nI_add, pk_mul, pk_sub, pk_div, zrem_nI, zrd_nI, zwr_nI, zb1_some, zb2_some, zb3_some, zb4_some, zb5_some, zb6_some, zb7_some, zb8_some, zlet_eq, if_pos, if_neg, pk_us, pk_un, true_and, and_true, true_or, or_true, ↓reduceIte]
  unfold fX8_encode fX9_encode
  rcases zcase u with hu | ⟨j, hj, hu⟩
  · refine ⟨-(nI 1), n, fb, rf, tb, bc, tr, la, cl, bk, kd, ?_, ?_, hn, hF⟩
    · simp (disch := omega) only [zlit, nI_lt_nI, nI_le_nI, nI_eq_nI, nI_add, pk_mul, pk_sub, pk_div, zrem_nI, zrd_nI, zwr_nI, zb1_some, zb2_some, zb3_some, zb4_some, zb5_some, zb6_some, zb7_some, zb8_some, zlet_eq, if_pos, if_neg, pk_us, pk_un, true_and, and_true, true_or, or_true, ↓reduceIte, zneg0 hu]
    · simp (disch := omega) only [zlit, nI_lt_nI, nI_le_nI, nI_eq_nI, nI_add, pk_mul, pk_sub, pk_div, zrem_nI, zrd_nI, zwr_nI, zb1_some, zb2_some, zb3_some, zb4_some, zb5_some, zb6_some, zb7_some, zb8_some, zlet_eq, if_pos, if_neg, pk_us, pk_un, true_and, and_true, true_or, or_true, ↓reduceIte, zneg0 hu]; exact no
  · subst hu
    by_cases q : 4 ≤ j
    · refine ⟨-(nI 1), n, fb, rf, tb, bc, tr, la, cl, bk, kd, ?_, ?_, hn, hF⟩
      · simp (disch := omega) only [zlit, nI_lt_nI, nI_le_nI, nI_eq_nI, nI_add, pk_mul, pk_sub, pk_div, zrem_nI, zrd_nI, zwr_nI, zb1_some, zb2_some, zb3_some, zb4_some, zb5_some, zb6_some, zb7_some, zb8_some, zlet_eq, if_pos, if_neg, pk_us, pk_un, true_and, and_true, true_or, or_true, ↓reduceIte]
      · simp (disch := omega) only [zlit, nI_lt_nI, nI_le_nI, nI_eq_nI, nI_add, pk_mul, pk_sub, pk_div, zrem_nI, zrd_nI, zwr_nI, zb1_some, zb2_some, zb3_some, zb4_some, zb5_some, zb6_some, zb7_some, zb8_some, zlet_eq, if_pos, if_neg, pk_us, pk_un, true_and, and_true, true_or, or_true, ↓reduceIte]; exact no
    · rcases zcase v with hv | ⟨k, hk, hv⟩
      · refine ⟨-(nI 1), n, fb, rf, tb, bc, tr, la, cl, bk, kd, ?_, ?_, hn, hF⟩
        · simp (disch := omega) only [zlit, nI_lt_nI, nI_le_nI, nI_eq_nI, nI_add, pk_mul, pk_sub, pk_div, zrem_nI, zrd_nI, zwr_nI, zb1_some, zb2_some, zb3_some, zb4_some, zb5_some, zb6_some, zb7_some, zb8_some, zlet_eq, if_pos, if_neg, pk_us, pk_un, true_and, and_true, true_or, or_true, ↓reduceIte, zneg0 hv]
        · simp (disch := omega) only [zlit, nI_lt_nI, nI_le_nI, nI_eq_nI, nI_add, pk_mul, pk_sub, pk_div, zrem_nI, zrd_nI, zwr_nI, zb1_some, zb2_some, zb3_some, zb4_some, zb5_some, zb6_some, zb7_some, zb8_some, zlet_eq, if_pos, if_neg, pk_us, pk_un, true_and, and_true, true_or, or_true, ↓reduceIte, zneg0 hv]; exact no
      · subst hv
        by_cases q2 : 1 < k
        · refine ⟨-(nI 1), n, fb, rf, tb, bc, tr, la, cl, bk, kd, ?_, ?_, hn, hF⟩
          · simp (disch := omega) only [zlit, nI_lt_nI, nI_le_nI, nI_eq_nI, nI_add, pk_mul, pk_sub, pk_div, zrem_nI, zrd_nI, zwr_nI, zb1_some, zb2_some, zb3_some, zb4_some, zb5_some, zb6_some, zb7_some, zb8_some, zlet_eq, if_pos, if_neg, pk_us, pk_un, true_and, and_true, true_or, or_true, ↓reduceIte]
          · simp (disch := omega) only [zlit, nI_lt_nI, nI_le_nI, nI_eq_nI, nI_add, pk_mul, pk_sub, pk_div, zrem_nI, zrd_nI, zwr_nI, zb1_some, zb2_some, zb3_some, zb4_some, zb5_some, zb6_some, zb7_some, zb8_some, zlet_eq, if_pos, if_neg, pk_us, pk_un, true_and, and_true, true_or, or_true, ↓reduceIte]; exact no
        · have hk1 : k ≤ 1 := by omega
          unfold fX9_encode_23 fX9_encode_38
          rcases (show j = 0 ∨ j = 1 ∨ j = 2 ∨ j = 3 by omega) with e | e | e | e
          · subst e
            obtain ⟨m, K, tb', tr', la', fb', rf', e1, e2, e3, e4⟩ := @zwrite0 w h px rn fb rf tb tr la hw hh hP
            refine ⟨nI m, m, fb', rf', tb', bc, tr', la', K, bk, kd, ?_, ?_, e3, e4⟩
            · unfold fX1_canHold; simp (disch := omega) only [zlit, nI_lt_nI, nI_le_nI, nI_eq_nI, nI_add, pk_mul, pk_sub, pk_div, zrem_nI, zrd_nI, zwr_nI, zb1_some, zb2_some, zb3_some, zb4_some, zb5_some, zb6_some, zb7_some, zb8_some, zlet_eq, if_pos, if_neg, pk_us, pk_un, true_and, and_true, true_or, or_true, ↓reduceIte, e1]
            · unfold fX9_encode_47; simp (disch := omega) only [zlit, nI_lt_nI, nI_le_nI, nI_eq_nI, nI_add, pk_mul, pk_sub, pk_div, zrem_nI, zrd_nI, zwr_nI, zb1_some, zb2_some, zb3_some, zb4_some, zb5_some, zb6_some, zb7_some, zb8_some, zlet_eq, if_pos, if_neg, pk_us, pk_un, true_and, and_true, true_or, or_true, ↓reduceIte, e2]
          · subst e
            have e1 := @zwrite1_8 w h k px fb hw hh hk1
            have e2 := @zwrite1_9 w h k px rn rf hw hh hP hk1
            cases o : zall (zop px) 0 (w * h)
            · refine ⟨-(nI 1), n, fb, rf, tb, bc, tr, la, cl, bk, kd, ?_, ?_, hn, hF⟩
              · unfold fX6_canHold; simp (disch := omega) only [zlit, nI_lt_nI, nI_le_nI, nI_eq_nI, nI_add, pk_mul, pk_sub, pk_div, zrem_nI, zrd_nI, zwr_nI, zb1_some, zb2_some, zb3_some, zb4_some, zb5_some, zb6_some, zb7_some, zb8_some, zlet_eq, if_pos, if_neg, pk_us, pk_un, true_and, and_true, true_or, or_true, ↓reduceIte, zisop8 hs, zbo_I, o, zI_eq0]
              · simp (disch := omega) only [zlit, nI_lt_nI, nI_le_nI, nI_eq_nI, nI_add, pk_mul, pk_sub, pk_div, zrem_nI, zrd_nI, zwr_nI, zb1_some, zb2_some, zb3_some, zb4_some, zb5_some, zb6_some, zb7_some, zb8_some, zlet_eq, if_pos, if_neg, pk_us, pk_un, true_and, and_true, true_or, or_true, ↓reduceIte, zisop9 hw hh hP, o, zI_eq0]
            · refine ⟨nI (zW1 px w h k (!zgreyB px (w * h))).length, (zW1 px w h k (!zgreyB px (w * h))).length, zw fb (zW1 px w h k (!zgreyB px (w * h))), zw rf (zW1 px w h k (!zgreyB px (w * h))), tb, bc, tr, la, cl, bk, kd, ?_, ?_, zW1_len hw hh, zwFl (zW1_all hw hh)⟩
              · unfold fX6_canHold; simp (disch := omega) only [zlit, nI_lt_nI, nI_le_nI, nI_eq_nI, nI_add, pk_mul, pk_sub, pk_div, zrem_nI, zrd_nI, zwr_nI, zb1_some, zb2_some, zb3_some, zb4_some, zb5_some, zb6_some, zb7_some, zb8_some, zlet_eq, if_pos, if_neg, pk_us, pk_un, true_and, and_true, true_or, or_true, ↓reduceIte, zisop8 hs, zbo_I, o, zI_eq0, Bool.true_eq_false, e1]
              · unfold fX9_encode_47 fX9_encode_79
                rcases (show k = 0 ∨ k = 1 by omega) with e | e
                · subst e
                  simp (disch := omega) only [zlit, nI_lt_nI, nI_le_nI, nI_eq_nI, nI_add, pk_mul, pk_sub, pk_div, zrem_nI, zrd_nI, zwr_nI, zb1_some, zb2_some, zb3_some, zb4_some, zb5_some, zb6_some, zb7_some, zb8_some, zlet_eq, if_pos, if_neg, pk_us, pk_un, true_and, and_true, true_or, or_true, ↓reduceIte, zisop9 hw hh hP, o, zI_eq0, Bool.true_eq_false, e2]
                · subst e
                  simp (disch := omega) only [zlit, nI_lt_nI, nI_le_nI, nI_eq_nI, nI_add, pk_mul, pk_sub, pk_div, zrem_nI, zrd_nI, zwr_nI, zb1_some, zb2_some, zb3_some, zb4_some, zb5_some, zb6_some, zb7_some, zb8_some, zlet_eq, if_pos, if_neg, pk_us, pk_un, true_and, and_true, true_or, or_true, ↓reduceIte, zisop9 hw hh hP, o, zI_eq0, Bool.true_eq_false, e2]
          · subst e
            obtain ⟨m, K, bc', fb', rf', e1, e2, e3, e4⟩ := @zwrite2 w h k px rn fb rf bc hw hh1 hh hP hk1
            cases o : zall (zop px) 0 (w * h)
            · refine ⟨-(nI 1), n, fb, rf, tb, bc, tr, la, cl, bk, kd, ?_, ?_, hn, hF⟩
              · unfold fX0_canHold; simp (disch := omega) only [zlit, nI_lt_nI, nI_le_nI, nI_eq_nI, nI_add, pk_mul, pk_sub, pk_div, zrem_nI, zrd_nI, zwr_nI, zb1_some, zb2_some, zb3_some, zb4_some, zb5_some, zb6_some, zb7_some, zb8_some, zlet_eq, if_pos, if_neg, pk_us, pk_un, true_and, and_true, true_or, or_true, ↓reduceIte, zisop8 hs, zbo_I, o, zI_eq0]
              · simp (disch := omega) only [zlit, nI_lt_nI, nI_le_nI, nI_eq_nI, nI_add, pk_mul, pk_sub, pk_div, zrem_nI, zrd_nI, zwr_nI, zb1_some, zb2_some, zb3_some, zb4_some, zb5_some, zb6_some, zb7_some, zb8_some, zlet_eq, if_pos, if_neg, pk_us, pk_un, true_and, and_true, true_or, or_true, ↓reduceIte, zisop9 hw hh hP, o, zI_eq0]
            · refine ⟨nI m, m, fb', rf', tb, bc', tr, la, cl, K, kd, ?_, ?_, e3, e4⟩
              · unfold fX0_canHold; simp (disch := omega) only [zlit, nI_lt_nI, nI_le_nI, nI_eq_nI, nI_add, pk_mul, pk_sub, pk_div, zrem_nI, zrd_nI, zwr_nI, zb1_some, zb2_some, zb3_some, zb4_some, zb5_some, zb6_some, zb7_some, zb8_some, zlet_eq, if_pos, if_neg, pk_us, pk_un, true_and, and_true, true_or, or_true, ↓reduceIte, zisop8 hs, zbo_I, o, zI_eq0, Bool.true_eq_false, e1]
              · unfold fX9_encode_47 fX9_encode_101
                rcases (show k = 0 ∨ k = 1 by omega) with e | e
                · subst e
                  simp (disch := omega) only [zlit, nI_lt_nI, nI_le_nI, nI_eq_nI, nI_add, pk_mul, pk_sub, pk_div, zrem_nI, zrd_nI, zwr_nI, zb1_some, zb2_some, zb3_some, zb4_some, zb5_some, zb6_some, zb7_some, zb8_some, zlet_eq, if_pos, if_neg, pk_us, pk_un, true_and, and_true, true_or, or_true, ↓reduceIte, zisop9 hw hh hP, o, zI_eq0, Bool.true_eq_false, e2]
                · subst e
                  simp (disch := omega) only [zlit, nI_lt_nI, nI_le_nI, nI_eq_nI, nI_add, pk_mul, pk_sub, pk_div, zrem_nI, zrd_nI, zwr_nI, zb1_some, zb2_some, zb3_some, zb4_some, zb5_some, zb6_some, zb7_some, zb8_some, zlet_eq, if_pos, if_neg, pk_us, pk_un, true_and, and_true, true_or, or_true, ↓reduceIte, zisop9 hw hh hP, o, zI_eq0, Bool.true_eq_false, e2]
          · subst e
            obtain ⟨N, n1, n2, e1⟩ := @zwrite3_8 w h k px fb hw hh hk1
            have e2 := @zwrite3_9 w h k N px rn rf hw hh hh1 hP hk1 n2
            refine ⟨nI (zW3 px w h k N).length, (zW3 px w h k N).length, zw fb (zW3 px w h k N), zw rf (zW3 px w h k N), tb, bc, tr, la, cl, bk, nI (8 * N), ?_, ?_, zW3_len hw hh, zwFl (zW3_all hw hh n1)⟩
            · unfold fX4_canHold; simp (disch := omega) only [zlit, nI_lt_nI, nI_le_nI, nI_eq_nI, nI_add, pk_mul, pk_sub, pk_div, zrem_nI, zrd_nI, zwr_nI, zb1_some, zb2_some, zb3_some, zb4_some, zb5_some, zb6_some, zb7_some, zb8_some, zlet_eq, if_pos, if_neg, pk_us, pk_un, true_and, and_true, true_or, or_true, ↓reduceIte, e1]
            · unfold fX9_encode_47 fX9_encode_118
              rcases (show k = 0 ∨ k = 1 by omega) with e | e
              · subst e
                simp (disch := omega) only [zlit, nI_lt_nI, nI_le_nI, nI_eq_nI, nI_add, pk_mul, pk_sub, pk_div, zrem_nI, zrd_nI, zwr_nI, zb1_some, zb2_some, zb3_some, zb4_some, zb5_some, zb6_some, zb7_some, zb8_some, zlet_eq, if_pos, if_neg, pk_us, pk_un, true_and, and_true, true_or, or_true, ↓reduceIte, e2]
              · subst e
                simp (disch := omega) only [zlit, nI_lt_nI, nI_le_nI, nI_eq_nI, nI_add, pk_mul, pk_sub, pk_div, zrem_nI, zrd_nI, zwr_nI, zb1_some, zb2_some, zb3_some, zb4_some, zb5_some, zb6_some, zb7_some, zb8_some, zlet_eq, if_pos, if_neg, pk_us, pk_un, true_and, and_true, true_or, or_true, ↓reduceIte, e2]
