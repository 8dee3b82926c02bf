/-! The law's loop: class and reference answer alike. -/
theorem zb14_of {α1 α2 α3 α4 α5 α6 α7 α8 α9 α10 α11 α12 α13 α14 β : Type} {o : Option (α1 × α2 × α3 × α4 × α5 × α6 × α7 × α8 × α9 × α10 × α11 × α12 × α13 × α14)} {a1 : α1} {a2 : α2} {a3 : α3} {a4 : α4} {a5 : α5} {a6 : α6} {a7 : α7} {a8 : α8} {a9 : α9} {a10 : α10} {a11 : α11} {a12 : α12} {a13 : α13} {a14 : α14} {k : α1 → α2 → α3 → α4 → α5 → α6 → α7 → α8 → α9 → α10 → α11 → α12 → α13 → α14 → Option β} (h : o = some (a1, a2, a3, a4, a5, a6, a7, a8, a9, a10, a11, a12, a13, a14)) : zb14 o k = k a1 a2 a3 a4 a5 a6 a7 a8 a9 a10 a11 a12 a13 a14 := by
  subst h
  exact Eq.trans rfl rfl
theorem zb24_of {α1 α2 α3 α4 α5 α6 α7 α8 α9 α10 α11 α12 α13 α14 α15 α16 α17 α18 α19 α20 α21 α22 α23 α24 β : Type} {o : Option (α1 × α2 × α3 × α4 × α5 × α6 × α7 × α8 × α9 × α10 × α11 × α12 × α13 × α14 × α15 × α16 × α17 × α18 × α19 × α20 × α21 × α22 × α23 × α24)} {a1 : α1} {a2 : α2} {a3 : α3} {a4 : α4} {a5 : α5} {a6 : α6} {a7 : α7} {a8 : α8} {a9 : α9} {a10 : α10} {a11 : α11} {a12 : α12} {a13 : α13} {a14 : α14} {a15 : α15} {a16 : α16} {a17 : α17} {a18 : α18} {a19 : α19} {a20 : α20} {a21 : α21} {a22 : α22} {a23 : α23} {a24 : α24} {k : α1 → α2 → α3 → α4 → α5 → α6 → α7 → α8 → α9 → α10 → α11 → α12 → α13 → α14 → α15 → α16 → α17 → α18 → α19 → α20 → α21 → α22 → α23 → α24 → Option β} (h : o = some (a1, a2, a3, a4, a5, a6, a7, a8, a9, a10, a11, a12, a13, a14, a15, a16, a17, a18, a19, a20, a21, a22, a23, a24)) : zb24 o k = k a1 a2 a3 a4 a5 a6 a7 a8 a9 a10 a11 a12 a13 a14 a15 a16 a17 a18 a19 a20 a21 a22 a23 a24 := by
  subst h
  exact Eq.trans rfl rfl
theorem zand15g (x : Int32) : ∃ v, v < 16 ∧ x &&& nI 15 = nI v := by
  have hx := zp_nI x
  have hlt := x.toBitVec.isLt
  generalize x.toBitVec.toNat = u at hx hlt
  exact ⟨u % 16, Nat.mod_lt _ (by decide), by rw [hx]; exact pk_andN hlt 4 rfl⟩
theorem zL4 {L m : Nat} (hL : L ≤ 2048) (hm : m ≤ 4096) : (Int32.ofNat L - nI 4 < nI m) = (L < m + 4) := by
  apply propext
  show (nI L - nI 4 < nI m) ↔ _
  rw [Int32.lt_iff_toInt_lt, pk_sub_toInt (by omega) (by decide), nI_toInt (by omega)]
  omega
theorem zlaw {xs : Nat → Int32} {L : Nat} (hL : L ≤ 2048) : ∀ (f j kc : Nat) {p_wide : Int32} {p_high : Int32} {p_pixels : Nat → Int32} {d_wide : Int32} {d_high : Int32} {d_pixels : Nat → Int32} {s_place : Int32} {s_file_size : Int32} {s_file_bytes : Nat → Int32} {c_last : Int32} {c_table : Nat → Int32} {m_inDigits : Int32} {m_greatest : Int32} {b_known : Int32} {b_depth : Int32} {b_packing : Int32} {b_isUpward : Int32} {b_column : Int32} {b_up : Int32} {b_colours : Nat → Int32} {k_depth : Int32} {k_left : Int32} {k_isRepeated : Int32} {k_held : Int32} {r_wide : Int32} {r_high : Int32} {r_size : Int32} {r_at : Int32} {r_fault : Int32} {r_newWide : Int32} {r_newHigh : Int32} {r_colours : Int32} {r_now : Nat → Int32} {r_file : Nat → Int32} {r_fresh : Nat → Int32} {r_colour : Nat → Int32} {r_table : Nat → Int32} {r_last : Nat → Int32} {r_one : Nat → Int32}, kc ≤ j → j ≤ 512 → 512 - j < f → zInv p_wide p_high p_pixels s_file_size s_file_bytes r_wide r_high r_now r_size r_file → fL_law_18 f xs L p_wide p_high p_pixels d_wide d_high d_pixels s_place s_file_size s_file_bytes c_last c_table m_inDigits m_greatest b_known b_depth b_packing b_isUpward b_column b_up b_colours k_depth k_left k_isRepeated k_held r_wide r_high r_size r_at r_fault r_newWide r_newHigh r_colours r_now r_file r_fresh r_colour r_table r_last r_one kc (nI (4 * j)) = some (nI 1) := by
  intro f
  induction f with
  | zero => intro j kc; intros; omega
  | succ f ih =>
    intro j kc p_wide p_high p_pixels d_wide d_high d_pixels s_place s_file_size s_file_bytes c_last c_table m_inDigits m_greatest b_known b_depth b_packing b_isUpward b_column b_up b_colours k_depth k_left k_isRepeated k_held r_wide r_high r_size r_at r_fault r_newWide r_newHigh r_colours r_now r_file r_fresh r_colour r_table r_last r_one hk hj hf hI
    obtain ⟨w, h, n, hw1, hw, hh1, hh, hn, rfl, rfl, rfl, rfl, rfl, rfl, hP, hF⟩ := hI
    rw [fL_law_18_s]
    simp only [zlit]
    by_cases q : L < 4 * j + 4
    · rw [if_pos (by rw [zL4 hL (by omega)]; exact q)]
    · rw [if_neg (by rw [zL4 hL (by omega)]; exact q)]
      have r0 : ∀ {α : Type} {k : Int32 → Option α}, zrd xs L (nI (4 * j)) k = k (xs (4 * j)) := fun {α k} => zrd_nI (by omega) (by omega)
      have r1 : ∀ {α : Type} {k : Int32 → Option α}, zrd xs L (nI (4 * j) + nI 1) k = k (xs (4 * j + 1)) := fun {α k} => by rw [nI_add]; exact zrd_nI (by omega) (by omega)
      have r2 : ∀ {α : Type} {k : Int32 → Option α}, zrd xs L (nI (4 * j) + nI 2) k = k (xs (4 * j + 2)) := fun {α k} => by rw [nI_add]; exact zrd_nI (by omega) (by omega)
      have r3 : ∀ {α : Type} {k : Int32 → Option α}, zrd xs L (nI (4 * j) + nI 3) k = k (xs (4 * j + 3)) := fun {α k} => by rw [nI_add]; exact zrd_nI (by omega) (by omega)
      have hj2 : j + 1 ≤ 512 := by omega
      have hf2 : 512 - (j + 1) < f := by omega
      have hk2 : kc ≤ j + 1 := by omega
      have e4 : nI (4 * j) + nI 4 = nI (4 * (j + 1)) := by rw [nI_add]; exact congrArg nI (by omega)
      rw [r0]
      obtain ⟨v, hv, ev⟩ := zand15g (xs (4 * j))
      rw [ev, zlet_eq]
      unfold fL_law_436
      simp only [zlit, e4]
      rcases (show v = 0 ∨ v = 1 ∨ v = 2 ∨ v = 3 ∨ v = 4 ∨ v = 5 ∨ v = 6 ∨ v = 7 ∨ v = 8 ∨ v = 9 ∨ v = 10 ∨ v = 11 ∨ v = 12 ∨ v = 13 ∨ v = 14 ∨ v = 15 by omega) with e | e | e | e | e | e | e | e | e | e | e | e | e | e | e | e
      · subst e
        obtain ⟨r, w', h', px', rn', e1, e2, i1, i2, i3⟩ := zo_make hP ⟨hw1, hw⟩ ⟨hh1, hh⟩ (xs (4 * j + 1)) (xs (4 * j + 2))
        rw [if_pos rfl, r1, r2, zb4_of e1, r1, r2, zb4_of e2, if_pos rfl, zlet_eq]
        exact ih (j + 1) kc hk2 hj2 hf2 ⟨w', h', n, i1.1, i1.2, i2.1, i2.2, hn, rfl, rfl, rfl, rfl, rfl, rfl, i3, hF⟩
      · subst e
        obtain ⟨r, px', rn', e1, e2, i3⟩ := zo_put hP hw hh (xs (4 * j + 1)) (xs (4 * j + 2)) (xs (4 * j + 3))
        rw [if_neg (show ¬ nI 1 = nI 0 by decide), if_pos rfl, r1, r2, r3, zb2_of e1, r1, r2, r3, zb2_of e2, if_pos rfl, zlet_eq]
        exact ih (j + 1) kc hk2 hj2 hf2 ⟨w, h, n, hw1, hw, hh1, hh, hn, rfl, rfl, rfl, rfl, rfl, rfl, i3, hF⟩
      · subst e
        obtain ⟨r, e1, e2⟩ := zo_pixel hP hw hh (xs (4 * j + 1)) (xs (4 * j + 2))
        rw [if_neg (show ¬ nI 2 = nI 0 by decide), if_neg (show ¬ nI 2 = nI 1 by decide), if_pos rfl, r1, r2, zb1_of e1, r1, r2, zb1_of e2, if_pos rfl, zlet_eq]
        exact ih (j + 1) kc hk2 hj2 hf2 ⟨w, h, n, hw1, hw, hh1, hh, hn, rfl, rfl, rfl, rfl, rfl, rfl, hP, hF⟩
      · subst e
        have e1 : fX8_width (nI w) = some (nI w) := rfl
        have e2 : fX9_width (nI w) = some (nI w) := rfl
        rw [if_neg (show ¬ nI 3 = nI 0 by decide), if_neg (show ¬ nI 3 = nI 1 by decide), if_neg (show ¬ nI 3 = nI 2 by decide), if_pos rfl, zb1_of e1, zb1_of e2, if_pos rfl, zlet_eq]
        exact ih (j + 1) kc hk2 hj2 hf2 ⟨w, h, n, hw1, hw, hh1, hh, hn, rfl, rfl, rfl, rfl, rfl, rfl, hP, hF⟩
      · subst e
        have e1 : fX8_height (nI h) = some (nI h) := rfl
        have e2 : fX9_height (nI h) = some (nI h) := rfl
        rw [if_neg (show ¬ nI 4 = nI 0 by decide), if_neg (show ¬ nI 4 = nI 1 by decide), if_neg (show ¬ nI 4 = nI 2 by decide), if_neg (show ¬ nI 4 = nI 3 by decide), if_pos rfl, zb1_of e1, zb1_of e2, if_pos rfl, zlet_eq]
        exact ih (j + 1) kc hk2 hj2 hf2 ⟨w, h, n, hw1, hw, hh1, hh, hn, rfl, rfl, rfl, rfl, rfl, rfl, hP, hF⟩
      · subst e
        obtain ⟨r, w', h', px', rn', dp', fr', dw', dh', e1, e2, i1, i2, i3⟩ := zo_change (dp := d_pixels) (fr := r_fresh) (dw := d_wide) (dh := d_high) hP ⟨hw1, hw⟩ ⟨hh1, hh⟩ (xs (4 * j + 1))
        rw [if_neg (show ¬ nI 5 = nI 0 by decide), if_neg (show ¬ nI 5 = nI 1 by decide), if_neg (show ¬ nI 5 = nI 2 by decide), if_neg (show ¬ nI 5 = nI 3 by decide), if_neg (show ¬ nI 5 = nI 4 by decide), if_pos rfl, r1, zb7_of e1, r1, zb5_of e2, if_pos rfl, zlet_eq]
        exact ih (j + 1) kc hk2 hj2 hf2 ⟨w', h', n, i1.1, i1.2, i2.1, i2.2, hn, rfl, rfl, rfl, rfl, rfl, rfl, i3, hF⟩
      · subst e
        obtain ⟨r, n', fb', rf', e1, e2, i1, i2⟩ := zo_feed hn hF (xs (4 * j + 1))
        rw [if_neg (show ¬ nI 6 = nI 0 by decide), if_neg (show ¬ nI 6 = nI 1 by decide), if_neg (show ¬ nI 6 = nI 2 by decide), if_neg (show ¬ nI 6 = nI 3 by decide), if_neg (show ¬ nI 6 = nI 4 by decide), if_neg (show ¬ nI 6 = nI 5 by decide), if_pos rfl, r1, zb3_of e1, r1, zb3_of e2, if_pos rfl, zlet_eq]
        exact ih (j + 1) kc hk2 hj2 hf2 ⟨w, h, n', hw1, hw, hh1, hh, i1, rfl, rfl, rfl, rfl, rfl, rfl, hP, i2⟩
      · subst e
        obtain ⟨r, n', e1, e2, i1, i2⟩ := zo_cut hn hF (xs (4 * j + 1))
        rw [if_neg (show ¬ nI 7 = nI 0 by decide), if_neg (show ¬ nI 7 = nI 1 by decide), if_neg (show ¬ nI 7 = nI 2 by decide), if_neg (show ¬ nI 7 = nI 3 by decide), if_neg (show ¬ nI 7 = nI 4 by decide), if_neg (show ¬ nI 7 = nI 5 by decide), if_neg (show ¬ nI 7 = nI 6 by decide), if_pos rfl, r1, zb2_of e1, r1, zb2_of e2, if_pos rfl, zlet_eq]
        exact ih (j + 1) kc hk2 hj2 hf2 ⟨w, h, n', hw1, hw, hh1, hh, i1, rfl, rfl, rfl, rfl, rfl, rfl, hP, i2⟩
      · subst e
        obtain ⟨r, fb', rf', e1, e2, i2⟩ := zo_alter hn hF (xs (4 * j + 1)) (xs (4 * j + 2))
        rw [if_neg (show ¬ nI 8 = nI 0 by decide), if_neg (show ¬ nI 8 = nI 1 by decide), if_neg (show ¬ nI 8 = nI 2 by decide), if_neg (show ¬ nI 8 = nI 3 by decide), if_neg (show ¬ nI 8 = nI 4 by decide), if_neg (show ¬ nI 8 = nI 5 by decide), if_neg (show ¬ nI 8 = nI 6 by decide), if_neg (show ¬ nI 8 = nI 7 by decide), if_pos rfl, r1, r2, zb2_of e1, r1, r2, zb2_of e2, if_pos rfl, zlet_eq]
        exact ih (j + 1) kc hk2 hj2 hf2 ⟨w, h, n, hw1, hw, hh1, hh, hn, rfl, rfl, rfl, rfl, rfl, rfl, hP, i2⟩
      · subst e
        have e1 : fX8_length (nI n) = some (nI n) := rfl
        have e2 : fX9_length (nI n) = some (nI n) := rfl
        rw [if_neg (show ¬ nI 9 = nI 0 by decide), if_neg (show ¬ nI 9 = nI 1 by decide), if_neg (show ¬ nI 9 = nI 2 by decide), if_neg (show ¬ nI 9 = nI 3 by decide), if_neg (show ¬ nI 9 = nI 4 by decide), if_neg (show ¬ nI 9 = nI 5 by decide), if_neg (show ¬ nI 9 = nI 6 by decide), if_neg (show ¬ nI 9 = nI 7 by decide), if_neg (show ¬ nI 9 = nI 8 by decide), if_pos rfl, zb1_of e1, zb1_of e2, if_pos rfl, zlet_eq]
        exact ih (j + 1) kc hk2 hj2 hf2 ⟨w, h, n, hw1, hw, hh1, hh, hn, rfl, rfl, rfl, rfl, rfl, rfl, hP, hF⟩
      · subst e
        obtain ⟨r, e1, e2⟩ := zo_byteAt hn hF (xs (4 * j + 1))
        rw [if_neg (show ¬ nI 10 = nI 0 by decide), if_neg (show ¬ nI 10 = nI 1 by decide), if_neg (show ¬ nI 10 = nI 2 by decide), if_neg (show ¬ nI 10 = nI 3 by decide), if_neg (show ¬ nI 10 = nI 4 by decide), if_neg (show ¬ nI 10 = nI 5 by decide), if_neg (show ¬ nI 10 = nI 6 by decide), if_neg (show ¬ nI 10 = nI 7 by decide), if_neg (show ¬ nI 10 = nI 8 by decide), if_neg (show ¬ nI 10 = nI 9 by decide), if_pos rfl, r1, zb1_of e1, r1, zb1_of e2, if_pos rfl, zlet_eq]
        exact ih (j + 1) kc hk2 hj2 hf2 ⟨w, h, n, hw1, hw, hh1, hh, hn, rfl, rfl, rfl, rfl, rfl, rfl, hP, hF⟩
      · subst e
        obtain ⟨B, hB, hB'⟩ := zFil_byt hF
        rw [if_neg (show ¬ nI 11 = nI 0 by decide), if_neg (show ¬ nI 11 = nI 1 by decide), if_neg (show ¬ nI 11 = nI 2 by decide), if_neg (show ¬ nI 11 = nI 3 by decide), if_neg (show ¬ nI 11 = nI 4 by decide), if_neg (show ¬ nI 11 = nI 5 by decide), if_neg (show ¬ nI 11 = nI 6 by decide), if_neg (show ¬ nI 11 = nI 7 by decide), if_neg (show ¬ nI 11 = nI 8 by decide), if_neg (show ¬ nI 11 = nI 9 by decide), if_neg (show ¬ nI 11 = nI 10 by decide), if_pos rfl, zb1_of (zsniff8 hn hB), zb1_of (zsniff9 hn hB'), if_pos rfl, zlet_eq]
        exact ih (j + 1) kc hk2 hj2 hf2 ⟨w, h, n, hw1, hw, hh1, hh, hn, rfl, rfl, rfl, rfl, rfl, rfl, hP, hF⟩
      · subst e
        obtain ⟨r, m, fb', rf', tb', bc', tr', la', cl', bk', kd', e1, e2, i1, i2⟩ := zo_encode (tb := c_table) (bc := b_colours) (tr := r_table) (la := r_last) (cl := c_last) (bk := b_known) (kd := k_depth) hw hh1 hh hP hn hF (xs (4 * j + 1)) (xs (4 * j + 2))
        rw [if_neg (show ¬ nI 12 = nI 0 by decide), if_neg (show ¬ nI 12 = nI 1 by decide), if_neg (show ¬ nI 12 = nI 2 by decide), if_neg (show ¬ nI 12 = nI 3 by decide), if_neg (show ¬ nI 12 = nI 4 by decide), if_neg (show ¬ nI 12 = nI 5 by decide), if_neg (show ¬ nI 12 = nI 6 by decide), if_neg (show ¬ nI 12 = nI 7 by decide), if_neg (show ¬ nI 12 = nI 8 by decide), if_neg (show ¬ nI 12 = nI 9 by decide), if_neg (show ¬ nI 12 = nI 10 by decide), if_neg (show ¬ nI 12 = nI 11 by decide), if_pos rfl, r1, r2, zb8_of e1, r1, r2, zb5_of e2, if_pos rfl, zlet_eq]
        exact ih (j + 1) kc hk2 hj2 hf2 ⟨w, h, m, hw1, hw, hh1, hh, i1, rfl, rfl, rfl, rfl, rfl, rfl, hP, i2⟩
      · subst e
        obtain ⟨tg, r, w', h', px', a1, a2, a3, a4, a5, a6, a7, a8, a9, a10, a11, a12, a13, a14, a15, a16, a17, a18, a19, b1, b2, b3, b4, b5, rn', b6, b7, b8, b9, b10, e1, e2, i1, i2, i3, i4, i5⟩ := zo_decode (dp := d_pixels) (tb := c_table) (tc := b_colours) (fr := r_fresh) (col := r_colour) (tr := r_table) (la := r_last) (one := r_one) (dw := d_wide) (dh := d_high) (sp := s_place) (cl := c_last) (md := m_inDigits) (mg := m_greatest) (bk := b_known) (bd := b_depth) (bp := b_packing) (bi := b_isUpward) (bc := b_column) (bu := b_up) (kd := k_depth) (kl := k_left) (kr := k_isRepeated) (kh := k_held) (at' := r_at) (flt := r_fault) (nw := r_newWide) (nh := r_newHigh) (rc := r_colours) hw1 hw hh1 hh hn hP hF
        have ek : ∀ {α : Type} {o : Option α}, zkc kc o = o := fun {α o} => by unfold zkc; rw [if_pos (by omega)]
        rw [if_neg (show ¬ nI 13 = nI 0 by decide), if_neg (show ¬ nI 13 = nI 1 by decide), if_neg (show ¬ nI 13 = nI 2 by decide), if_neg (show ¬ nI 13 = nI 3 by decide), if_neg (show ¬ nI 13 = nI 4 by decide), if_neg (show ¬ nI 13 = nI 5 by decide), if_neg (show ¬ nI 13 = nI 6 by decide), if_neg (show ¬ nI 13 = nI 7 by decide), if_neg (show ¬ nI 13 = nI 8 by decide), if_neg (show ¬ nI 13 = nI 9 by decide), if_neg (show ¬ nI 13 = nI 10 by decide), if_neg (show ¬ nI 13 = nI 11 by decide), if_neg (show ¬ nI 13 = nI 12 by decide), if_pos rfl, zb24_of e1, ek, zb14_of e2, if_pos rfl, zlet_eq]
        exact ih (j + 1) (kc + 1) (by omega) hj2 hf2 ⟨w', h', n, i1, i2, i3, i4, hn, rfl, rfl, rfl, rfl, rfl, rfl, i5, hF⟩
      · subst e
        rw [if_neg (show ¬ nI 14 = nI 0 by decide), if_neg (show ¬ nI 14 = nI 1 by decide), if_neg (show ¬ nI 14 = nI 2 by decide), if_neg (show ¬ nI 14 = nI 3 by decide), if_neg (show ¬ nI 14 = nI 4 by decide), if_neg (show ¬ nI 14 = nI 5 by decide), if_neg (show ¬ nI 14 = nI 6 by decide), if_neg (show ¬ nI 14 = nI 7 by decide), if_neg (show ¬ nI 14 = nI 8 by decide), if_neg (show ¬ nI 14 = nI 9 by decide), if_neg (show ¬ nI 14 = nI 10 by decide), if_neg (show ¬ nI 14 = nI 11 by decide), if_neg (show ¬ nI 14 = nI 12 by decide), if_neg (show ¬ nI 14 = nI 13 by decide), zlet_eq]
        exact ih (j + 1) kc hk2 hj2 hf2 ⟨w, h, n, hw1, hw, hh1, hh, hn, rfl, rfl, rfl, rfl, rfl, rfl, hP, hF⟩
      · subst e
        rw [if_neg (show ¬ nI 15 = nI 0 by decide), if_neg (show ¬ nI 15 = nI 1 by decide), if_neg (show ¬ nI 15 = nI 2 by decide), if_neg (show ¬ nI 15 = nI 3 by decide), if_neg (show ¬ nI 15 = nI 4 by decide), if_neg (show ¬ nI 15 = nI 5 by decide), if_neg (show ¬ nI 15 = nI 6 by decide), if_neg (show ¬ nI 15 = nI 7 by decide), if_neg (show ¬ nI 15 = nI 8 by decide), if_neg (show ¬ nI 15 = nI 9 by decide), if_neg (show ¬ nI 15 = nI 10 by decide), if_neg (show ¬ nI 15 = nI 11 by decide), if_neg (show ¬ nI 15 = nI 12 by decide), if_neg (show ¬ nI 15 = nI 13 by decide), zlet_eq]
        exact ih (j + 1) kc hk2 hj2 hf2 ⟨w, h, n, hw1, hw, hh1, hh, hn, rfl, rfl, rfl, rfl, rfl, rfl, hP, hF⟩
