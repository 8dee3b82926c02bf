/-! Colours. -/
def zpk (r g b a : Nat) : Nat := 256 * (256 * (256 * r + g) + b) + a
theorem ztn {n : Nat} (h : n < 2 ^ 32) : (nI n).toBitVec.toNat = n := pk_tn h
theorem zor {a b : Nat} (k : Nat) (hb : b < 2 ^ k) (h : a * 2 ^ k + b < 2 ^ 32) : nI (a * 2 ^ k) ||| nI b = nI (a * 2 ^ k + b) := by
  apply Int32.toBitVec_inj.mp
  apply BitVec.eq_of_toNat_eq
  rw [Int32.toBitVec_or, BitVec.toNat_or, ztn (by omega), ztn (by omega), ztn h, Nat.mul_comm a, Nat.two_pow_add_eq_or_of_lt hb]
theorem zshl_n {n : Nat} (k : Nat) (hk : k < 32) (h : n * 2 ^ k < 2 ^ 32) : zshl (nI n) (nI k) = nI (n * 2 ^ k) := by
  unfold zshl
  refine pk_shlN _ k ?_ h
  have hh : ∀ k : Fin 32, (((nI k.val) &&& 31).toBitVec.smod 32).toNat = k.val := by decide
  exact hh ⟨k, hk⟩
theorem zcolour {r g b a : Nat} (hr : r < 256) (hg : g < 256) (hb : b < 256) (ha : a < 256) : fX8_colour (nI r) (nI g) (nI b) (nI a) = some (nI (zpk r g b a)) := by
  unfold fX8_colour zpk
  simp (disch := omega) only [zlit, nI_lt_nI, nI_le_nI, nI_eq_nI, nI_add, pk_mul, pk_sub, pk_div, zrem_nI, zrd_nI, zwr_nI, zb1_some, zb2_some, zb3_some, zb4_some, zb5_some, zb6_some, zb7_some, zb8_some, zlet_eq, if_pos, if_neg, pk_us, pk_un, true_and, and_true, true_or, or_true, ↓reduceIte, zshl_n]
  have e1 := @zor r (g * 2 ^ 16) 24 (by omega) (by omega)
  rw [e1]
  have e2 := @zor (r * 2 ^ 8 + g) (b * 2 ^ 8) 16 (by omega) (by omega)
  rw [show r * 2 ^ 24 + g * 2 ^ 16 = (r * 2 ^ 8 + g) * 2 ^ 16 by omega, e2]
  have e3 := @zor ((r * 2 ^ 8 + g) * 2 ^ 8 + b) a 8 (by omega) (by omega)
  rw [show (r * 2 ^ 8 + g) * 2 ^ 16 + b * 2 ^ 8 = ((r * 2 ^ 8 + g) * 2 ^ 8 + b) * 2 ^ 8 by omega, e3]
  exact congrArg (fun q => some (nI q)) (by omega)
theorem zch0 {r g b a : Nat} (hr : r < 256) (hg : g < 256) (hb : b < 256) (ha : a < 256) : zch (nI (zpk r g b a)) 0 = r := by
  unfold zch zpk
  rw [ztn (by omega)]
  simp only [Nat.reduceMul, Nat.reduceSub, Nat.reducePow]
  omega
theorem zch1 {r g b a : Nat} (hr : r < 256) (hg : g < 256) (hb : b < 256) (ha : a < 256) : zch (nI (zpk r g b a)) 1 = g := by
  unfold zch zpk
  rw [ztn (by omega)]
  simp only [Nat.reduceMul, Nat.reduceSub, Nat.reducePow]
  omega
theorem zch2 {r g b a : Nat} (hr : r < 256) (hg : g < 256) (hb : b < 256) (ha : a < 256) : zch (nI (zpk r g b a)) 2 = b := by
  unfold zch zpk
  rw [ztn (by omega)]
  simp only [Nat.reduceMul, Nat.reduceSub, Nat.reducePow]
  omega
theorem zch3 {r g b a : Nat} (hr : r < 256) (hg : g < 256) (hb : b < 256) (ha : a < 256) : zch (nI (zpk r g b a)) 3 = a := by
  unfold zch zpk
  rw [ztn (by omega)]
  simp only [Nat.reduceMul, Nat.reduceSub, Nat.reducePow, Nat.div_one]
  omega
theorem zch_zpk (p : Int32) : p = nI (zpk (zch p 0) (zch p 1) (zch p 2) (zch p 3)) := zch_pack p
theorem zch_ext {p q : Int32} (h0 : zch p 0 = zch q 0) (h1 : zch p 1 = zch q 1) (h2 : zch p 2 = zch q 2) (h3 : zch p 3 = zch q 3) : p = q := by
  rw [zch_zpk p, zch_zpk q, h0, h1, h2, h3]
theorem zred (p : Int32) : fX8_red p = some (nI (zch p 0)) := by
  unfold fX8_red zch
  have h := p.toBitVec.isLt
  simp (disch := omega) only [zlit, nI_lt_nI, nI_le_nI, nI_eq_nI, nI_add, pk_mul, pk_sub, pk_div, zrem_nI, zrd_nI, zwr_nI, zb1_some, zb2_some, zb3_some, zb4_some, zb5_some, zb6_some, zb7_some, zb8_some, zlet_eq, if_pos, if_neg, pk_us, pk_un, true_and, and_true, true_or, or_true, ↓reduceIte, zushr_n]
  rw [Nat.mod_eq_of_lt (by omega)]
theorem zgreen (p : Int32) : fX8_green p = some (nI (zch p 1)) := by
  unfold fX8_green
  have := zush p 1 (by decide)
  simp (disch := omega) only [zlit, nI_lt_nI, nI_le_nI, nI_eq_nI, nI_add, pk_mul, pk_sub, pk_div, zrem_nI, zrd_nI, zwr_nI, zb1_some, zb2_some, zb3_some, zb4_some, zb5_some, zb6_some, zb7_some, zb8_some, zlet_eq, if_pos, if_neg, pk_us, pk_un, true_and, and_true, true_or, or_true, ↓reduceIte]
  exact congrArg some this
theorem zblue (p : Int32) : fX8_blue p = some (nI (zch p 2)) := by
  unfold fX8_blue
  have := zush p 2 (by decide)
  simp (disch := omega) only [zlit, nI_lt_nI, nI_le_nI, nI_eq_nI, nI_add, pk_mul, pk_sub, pk_div, zrem_nI, zrd_nI, zwr_nI, zb1_some, zb2_some, zb3_some, zb4_some, zb5_some, zb6_some, zb7_some, zb8_some, zlet_eq, if_pos, if_neg, pk_us, pk_un, true_and, and_true, true_or, or_true, ↓reduceIte]
  exact congrArg some this
theorem zalpha (p : Int32) : fX8_alpha p = some (nI (zch p 3)) := by
  unfold fX8_alpha zch
  have h := p.toBitVec.isLt
  rw [zp_nI p]
  simp (disch := omega) only [zlit, nI_lt_nI, nI_le_nI, nI_eq_nI, nI_add, pk_mul, pk_sub, pk_div, zrem_nI, zrd_nI, zwr_nI, zb1_some, zb2_some, zb3_some, zb4_some, zb5_some, zb6_some, zb7_some, zb8_some, zlet_eq, if_pos, if_neg, pk_us, pk_un, true_and, and_true, true_or, or_true, ↓reduceIte, zand255]
  rw [ztn h]
  simp only [Nat.reduceMul, Nat.reduceSub, Nat.reducePow, Nat.div_one]
set_option maxRecDepth 8192 in
theorem zor255 (p : Int32) : p ||| nI 255 = nI (zpk (zch p 0) (zch p 1) (zch p 2) 255) := by
  have hp := zch_zpk p
  have h0 := zch_lt p 0
  have h1 := zch_lt p 1
  have h2 := zch_lt p 2
  have h3 := zch_lt p 3
  generalize zch p 0 = r at *
  generalize zch p 1 = g at *
  generalize zch p 2 = b at *
  generalize zch p 3 = a at *
  rw [hp]
  have ha : ∀ a : Fin 256, a.val ||| 255 = 255 := by decide
  have e : ∀ x y : Nat, y < 256 → 256 * x + y = 256 * x ||| y := fun x y hy => Nat.two_pow_add_eq_or_of_lt (i := 8) hy x
  apply Int32.toBitVec_inj.mp
  apply BitVec.eq_of_toNat_eq
  unfold zpk
  rw [Int32.toBitVec_or, BitVec.toNat_or, ztn (by omega), ztn (by decide), ztn (by omega), e _ a h3, e _ 255 (by decide), Nat.or_assoc, ha ⟨a, h3⟩]
/-! change: the class's side. -/
/-- the picture by columns and rows -/
def zR (w h : Nat) (f : Nat → Int32) (F : Nat → Nat → Int32) : Prop := ∀ x y : Nat, x < w → y < h → f (y * w + x) = F x y
theorem zR_upd {w h x y : Nat} {f : Nat → Int32} {F : Nat → Nat → Int32} {v : Int32} (H : zR w h f F) (hx : x < w) (hy : y < h) : zR w h (upd f (y * w + x) v) (fun x' y' => if x' = x ∧ y' = y then v else F x' y') := by
  intro x' y' hx' hy'
  show _ = (if x' = x ∧ y' = y then v else F x' y')
  by_cases c : x' = x ∧ y' = y
  · obtain ⟨rfl, rfl⟩ := c
    rw [if_pos ⟨rfl, rfl⟩, pk_us]
  · rw [if_neg c, pk_un (fun q => c (zidx_inj hx' hx q))]
    exact H x' y' hx' hy'
theorem zR_cong {w h : Nat} {f : Nat → Int32} {F G : Nat → Nat → Int32} (H : zR w h f F) (e : ∀ x y, x < w → y < h → F x y = G x y) : zR w h f G := fun x y hx hy => (H x y hx hy).trans (e x y hx hy)
theorem zR_self {w h : Nat} {f : Nat → Int32} : zR w h f (fun x y => f (y * w + x)) := fun _ _ _ _ => rfl
theorem zexch {i j : Nat} (hi : i < 64) (hj : j < 64) (f : Nat → Int32) : fX5_exchange f (nI i) (nI j) = some (upd (upd f i (f j)) j (f i)) := by
  unfold fX5_exchange
  simp (disch := omega) only [zlit, nI_lt_nI, nI_le_nI, nI_eq_nI, nI_add, pk_mul, pk_sub, pk_div, zrem_nI, zrd_nI, zwr_nI, zb1_some, zb2_some, zb3_some, zb4_some, zb5_some, zb6_some, zb7_some, zb8_some, zlet_eq, if_pos, if_neg, pk_us, pk_un, true_and, and_true, true_or, or_true, ↓reduceIte]
theorem zcols12 {w h y : Nat} (hw : w ≤ 8) (hh : h ≤ 8) (hy : y < h) (rc : Int32 → Int32 → (Nat → Int32) → Int32 → Option (Nat → Int32)) : ∀ (n x : Nat) (f : Nat → Int32) (F : Nat → Nat → Int32), x ≤ w / 2 → w / 2 - x < n → zR w h f F →
    ∃ f', fX5_exchangeColumns_12 rc n (nI w) (nI h) f (nI y) (nI x) = rc (nI w) (nI h) f' (nI (y + 1)) ∧ zR w h f' (fun x' y' => if y' = y ∧ x ≤ x' ∧ x ≤ w - 1 - x' then F (w - 1 - x') y else F x' y') := by
  intro n
  induction n with
  | zero => intro x f F h1 h2; omega
  | succ n ih =>
    intro x f F h1 h2 H
    rw [fX5_exchangeColumns_12_s]
    by_cases c : w / 2 ≤ x
    · refine ⟨f, by simp (disch := omega) only [zlit, nI_lt_nI, nI_le_nI, nI_eq_nI, nI_add, pk_mul, pk_sub, pk_div, zrem_nI, zrd_nI, zwr_nI, zb1_some, zb2_some, zb3_some, zb4_some, zb5_some, zb6_some, zb7_some, zb8_some, zlet_eq, if_pos, if_neg, pk_us, pk_un, true_and, and_true, true_or, or_true, ↓reduceIte], zR_cong H fun x' y' hx' hy' => ?_⟩
      show F x' y' = if y' = y ∧ x ≤ x' ∧ x ≤ w - 1 - x' then F (w - 1 - x') y else F x' y'
      by_cases d : y' = y ∧ x ≤ x' ∧ x ≤ w - 1 - x'
      · rw [if_pos d, d.1, show w - 1 - x' = x' by omega]
      · rw [if_neg d]
    · have hi : y * w + x < 64 := zidx hw hh (show x < w by omega) hy
      have hj : y * w + (w - 1 - x) < 64 := zidx hw hh (show w - 1 - x < w by omega) hy
      have e : y * w + w - 1 - x = y * w + (w - 1 - x) := by omega
      have H1 := zR_upd (v := F (w - 1 - x) y) H (show x < w by omega) hy
      have H2 := zR_upd (v := F x y) H1 (show w - 1 - x < w by omega) hy
      have hfi : f (y * w + x) = F x y := H x y (by omega) hy
      have hfj : f (y * w + (w - 1 - x)) = F (w - 1 - x) y := H (w - 1 - x) y (by omega) hy
      obtain ⟨f', e1, e2⟩ := ih (x + 1) (upd (upd f (y * w + x) (F (w - 1 - x) y)) (y * w + (w - 1 - x)) (F x y)) _ (by omega) (by omega) H2
      refine ⟨f', ?_, zR_cong e2 fun x' y' hx' hy' => ?_⟩
      · simp (disch := omega) only [zlit, nI_lt_nI, nI_le_nI, nI_eq_nI, nI_add, pk_mul, pk_sub, pk_div, zrem_nI, zrd_nI, zwr_nI, zb1_some, zb2_some, zb3_some, zb4_some, zb5_some, zb6_some, zb7_some, zb8_some, zlet_eq, if_pos, if_neg, pk_us, pk_un, true_and, and_true, true_or, or_true, ↓reduceIte]
        rw [e]
        simp (disch := omega) only [zlit, nI_lt_nI, nI_le_nI, nI_eq_nI, nI_add, pk_mul, pk_sub, pk_div, zrem_nI, zrd_nI, zwr_nI, zb1_some, zb2_some, zb3_some, zb4_some, zb5_some, zb6_some, zb7_some, zb8_some, zlet_eq, if_pos, if_neg, pk_us, pk_un, true_and, and_true, true_or, or_true, ↓reduceIte, zexch, hfi, hfj]
        exact e1
      · show (if y' = y ∧ x + 1 ≤ x' ∧ x + 1 ≤ w - 1 - x' then (if w - 1 - x' = w - 1 - x ∧ y = y then F x y else if w - 1 - x' = x ∧ y = y then F (w - 1 - x) y else F (w - 1 - x') y) else if x' = w - 1 - x ∧ y' = y then F x y else if x' = x ∧ y' = y then F (w - 1 - x) y else F x' y') = if y' = y ∧ x ≤ x' ∧ x ≤ w - 1 - x' then F (w - 1 - x') y else F x' y'
        by_cases d1 : y' = y
        · subst d1
          by_cases d2 : x' = x
          · subst d2
            simp (disch := omega) only [zlit, nI_lt_nI, nI_le_nI, nI_eq_nI, nI_add, pk_mul, pk_sub, pk_div, zrem_nI, zrd_nI, zwr_nI, zb1_some, zb2_some, zb3_some, zb4_some, zb5_some, zb6_some, zb7_some, zb8_some, zlet_eq, if_pos, if_neg, pk_us, pk_un, true_and, and_true, true_or, or_true, ↓reduceIte]
          · by_cases d3 : x' = w - 1 - x
            · have : w - 1 - x' = x := by omega
              simp (disch := omega) only [zlit, nI_lt_nI, nI_le_nI, nI_eq_nI, nI_add, pk_mul, pk_sub, pk_div, zrem_nI, zrd_nI, zwr_nI, zb1_some, zb2_some, zb3_some, zb4_some, zb5_some, zb6_some, zb7_some, zb8_some, zlet_eq, if_pos, if_neg, pk_us, pk_un, true_and, and_true, true_or, or_true, ↓reduceIte, this]
            · by_cases d4 : x ≤ x' ∧ x ≤ w - 1 - x'
              · simp (disch := omega) only [zlit, nI_lt_nI, nI_le_nI, nI_eq_nI, nI_add, pk_mul, pk_sub, pk_div, zrem_nI, zrd_nI, zwr_nI, zb1_some, zb2_some, zb3_some, zb4_some, zb5_some, zb6_some, zb7_some, zb8_some, zlet_eq, if_pos, if_neg, pk_us, pk_un, true_and, and_true, true_or, or_true, ↓reduceIte]
              · simp (disch := omega) only [zlit, nI_lt_nI, nI_le_nI, nI_eq_nI, nI_add, pk_mul, pk_sub, pk_div, zrem_nI, zrd_nI, zwr_nI, zb1_some, zb2_some, zb3_some, zb4_some, zb5_some, zb6_some, zb7_some, zb8_some, zlet_eq, if_pos, if_neg, pk_us, pk_un, true_and, and_true, true_or, or_true, ↓reduceIte]
        · simp (disch := omega) only [zlit, nI_lt_nI, nI_le_nI, nI_eq_nI, nI_add, pk_mul, pk_sub, pk_div, zrem_nI, zrd_nI, zwr_nI, zb1_some, zb2_some, zb3_some, zb4_some, zb5_some, zb6_some, zb7_some, zb8_some, zlet_eq, if_pos, if_neg, pk_us, pk_un, true_and, and_true, true_or, or_true, ↓reduceIte]
theorem zcols {w h : Nat} (hw : w ≤ 8) (hh : h ≤ 8) : ∀ (n y : Nat) (f : Nat → Int32) (F : Nat → Nat → Int32), y ≤ h → h - y < n → zR w h f F →
    ∃ f', fX5_exchangeColumns_2 n (nI w) (nI h) f (nI y) = some f' ∧ zR w h f' (fun x' y' => if y ≤ y' then F (w - 1 - x') y' else F x' y') := by
  intro n
  induction n with
  | zero => intro y f F h1 h2; omega
  | succ n ih =>
    intro y f F h1 h2 H
    rw [fX5_exchangeColumns_2_s]
    by_cases c : h ≤ y
    · refine ⟨f, by simp (disch := omega) only [zlit, nI_lt_nI, nI_le_nI, nI_eq_nI, nI_add, pk_mul, pk_sub, pk_div, zrem_nI, zrd_nI, zwr_nI, zb1_some, zb2_some, zb3_some, zb4_some, zb5_some, zb6_some, zb7_some, zb8_some, zlet_eq, if_pos, if_neg, pk_us, pk_un, true_and, and_true, true_or, or_true, ↓reduceIte], zR_cong H fun x' y' hx' hy' => ?_⟩
      show F x' y' = if y ≤ y' then F (w - 1 - x') y' else F x' y'
      rw [if_neg (by omega)]
    · obtain ⟨f1, e1, H1⟩ := zcols12 hw hh (show y < h by omega) (fX5_exchangeColumns_2 n) 1000 0 f F (by omega) (by omega) H
      obtain ⟨f2, e2, H2⟩ := ih (y + 1) f1 _ (by omega) (by omega) H1
      refine ⟨f2, ?_, zR_cong H2 fun x' y' hx' hy' => ?_⟩
      · simp (disch := omega) only [zlit, nI_lt_nI, nI_le_nI, nI_eq_nI, nI_add, pk_mul, pk_sub, pk_div, zrem_nI, zrd_nI, zwr_nI, zb1_some, zb2_some, zb3_some, zb4_some, zb5_some, zb6_some, zb7_some, zb8_some, zlet_eq, if_pos, if_neg, pk_us, pk_un, true_and, and_true, true_or, or_true, ↓reduceIte]
        rw [e1, e2]
      · show (if y + 1 ≤ y' then (if y' = y ∧ 0 ≤ w - 1 - x' ∧ 0 ≤ w - 1 - (w - 1 - x') then F (w - 1 - (w - 1 - x')) y else F (w - 1 - x') y') else if y' = y ∧ 0 ≤ x' ∧ 0 ≤ w - 1 - x' then F (w - 1 - x') y else F x' y') = if y ≤ y' then F (w - 1 - x') y' else F x' y'
        by_cases d1 : y' = y
        · subst d1
          simp (disch := omega) only [zlit, nI_lt_nI, nI_le_nI, nI_eq_nI, nI_add, pk_mul, pk_sub, pk_div, zrem_nI, zrd_nI, zwr_nI, zb1_some, zb2_some, zb3_some, zb4_some, zb5_some, zb6_some, zb7_some, zb8_some, zlet_eq, if_pos, if_neg, pk_us, pk_un, true_and, and_true, true_or, or_true, ↓reduceIte]
        · by_cases d2 : y ≤ y'
          · simp (disch := omega) only [zlit, nI_lt_nI, nI_le_nI, nI_eq_nI, nI_add, pk_mul, pk_sub, pk_div, zrem_nI, zrd_nI, zwr_nI, zb1_some, zb2_some, zb3_some, zb4_some, zb5_some, zb6_some, zb7_some, zb8_some, zlet_eq, if_pos, if_neg, pk_us, pk_un, true_and, and_true, true_or, or_true, ↓reduceIte]
          · simp (disch := omega) only [zlit, nI_lt_nI, nI_le_nI, nI_eq_nI, nI_add, pk_mul, pk_sub, pk_div, zrem_nI, zrd_nI, zwr_nI, zb1_some, zb2_some, zb3_some, zb4_some, zb5_some, zb6_some, zb7_some, zb8_some, zlet_eq, if_pos, if_neg, pk_us, pk_un, true_and, and_true, true_or, or_true, ↓reduceIte]
theorem zrows14 {w h y : Nat} (hw : w ≤ 8) (hh : h ≤ 8) (hy : y < h / 2) (rc : Int32 → Int32 → (Nat → Int32) → Int32 → Option (Nat → Int32)) : ∀ (n x : Nat) (f : Nat → Int32) (F : Nat → Nat → Int32), x ≤ w → w - x < n → zR w h f F →
    ∃ f', fX5_exchangeRows_14 rc n (nI w) (nI h) f (nI y) (nI x) = rc (nI w) (nI h) f' (nI (y + 1)) ∧ zR w h f' (fun x' y' => if (y' = y ∨ y' = h - 1 - y) ∧ x ≤ x' then F x' (h - 1 - y') else F x' y') := by
  intro n
  induction n with
  | zero => intro x f F h1 h2; omega
  | succ n ih =>
    intro x f F h1 h2 H
    rw [fX5_exchangeRows_14_s]
    by_cases c : w ≤ x
    · refine ⟨f, by simp (disch := omega) only [zlit, nI_lt_nI, nI_le_nI, nI_eq_nI, nI_add, pk_mul, pk_sub, pk_div, zrem_nI, zrd_nI, zwr_nI, zb1_some, zb2_some, zb3_some, zb4_some, zb5_some, zb6_some, zb7_some, zb8_some, zlet_eq, if_pos, if_neg, pk_us, pk_un, true_and, and_true, true_or, or_true, ↓reduceIte], zR_cong H fun x' y' hx' hy' => ?_⟩
      show F x' y' = if (y' = y ∨ y' = h - 1 - y) ∧ x ≤ x' then F x' (h - 1 - y') else F x' y'
      rw [if_neg (by omega)]
    · have hi : y * w + x < 64 := zidx hw hh (show x < w by omega) (show y < h by omega)
      have hj : (h - 1 - y) * w + x < 64 := zidx hw hh (show x < w by omega) (show h - 1 - y < h by omega)
      have H1 := zR_upd (v := F x (h - 1 - y)) H (show x < w by omega) (show y < h by omega)
      have H2 := zR_upd (v := F x y) H1 (show x < w by omega) (show h - 1 - y < h by omega)
      have hfi : f (y * w + x) = F x y := H x y (by omega) (by omega)
      have hfj : f ((h - 1 - y) * w + x) = F x (h - 1 - y) := H x (h - 1 - y) (by omega) (by omega)
      obtain ⟨f', e1, e2⟩ := ih (x + 1) (upd (upd f (y * w + x) (F x (h - 1 - y))) ((h - 1 - y) * w + x) (F x y)) _ (by omega) (by omega) H2
      refine ⟨f', ?_, zR_cong e2 fun x' y' hx' hy' => ?_⟩
      · simp (disch := omega) only [zlit, nI_lt_nI, nI_le_nI, nI_eq_nI, nI_add, pk_mul, pk_sub, pk_div, zrem_nI, zrd_nI, zwr_nI, zb1_some, zb2_some, zb3_some, zb4_some, zb5_some, zb6_some, zb7_some, zb8_some, zlet_eq, if_pos, if_neg, pk_us, pk_un, true_and, and_true, true_or, or_true, ↓reduceIte, zexch, hfi, hfj]
        exact e1
      · show (if (y' = y ∨ y' = h - 1 - y) ∧ x + 1 ≤ x' then (if x' = x ∧ h - 1 - y' = h - 1 - y then F x y else if x' = x ∧ h - 1 - y' = y then F x (h - 1 - y) else F x' (h - 1 - y')) else if x' = x ∧ y' = h - 1 - y then F x y else if x' = x ∧ y' = y then F x (h - 1 - y) else F x' y') = if (y' = y ∨ y' = h - 1 - y) ∧ x ≤ x' then F x' (h - 1 - y') else F x' y'
        by_cases d2 : x' = x
        · subst d2
          by_cases d1 : y' = y
          · subst d1
            simp (disch := omega) only [zlit, nI_lt_nI, nI_le_nI, nI_eq_nI, nI_add, pk_mul, pk_sub, pk_div, zrem_nI, zrd_nI, zwr_nI, zb1_some, zb2_some, zb3_some, zb4_some, zb5_some, zb6_some, zb7_some, zb8_some, zlet_eq, if_pos, if_neg, pk_us, pk_un, true_and, and_true, true_or, or_true, ↓reduceIte]
          · by_cases d3 : y' = h - 1 - y
            · have : h - 1 - y' = y := by omega
              simp (disch := omega) only [zlit, nI_lt_nI, nI_le_nI, nI_eq_nI, nI_add, pk_mul, pk_sub, pk_div, zrem_nI, zrd_nI, zwr_nI, zb1_some, zb2_some, zb3_some, zb4_some, zb5_some, zb6_some, zb7_some, zb8_some, zlet_eq, if_pos, if_neg, pk_us, pk_un, true_and, and_true, true_or, or_true, ↓reduceIte, this]
            · simp (disch := omega) only [zlit, nI_lt_nI, nI_le_nI, nI_eq_nI, nI_add, pk_mul, pk_sub, pk_div, zrem_nI, zrd_nI, zwr_nI, zb1_some, zb2_some, zb3_some, zb4_some, zb5_some, zb6_some, zb7_some, zb8_some, zlet_eq, if_pos, if_neg, pk_us, pk_un, true_and, and_true, true_or, or_true, ↓reduceIte]
        · by_cases d4 : (y' = y ∨ y' = h - 1 - y) ∧ x ≤ x'
          · simp (disch := omega) only [zlit, nI_lt_nI, nI_le_nI, nI_eq_nI, nI_add, pk_mul, pk_sub, pk_div, zrem_nI, zrd_nI, zwr_nI, zb1_some, zb2_some, zb3_some, zb4_some, zb5_some, zb6_some, zb7_some, zb8_some, zlet_eq, if_pos, if_neg, pk_us, pk_un, true_and, and_true, true_or, or_true, ↓reduceIte]
          · simp (disch := omega) only [zlit, nI_lt_nI, nI_le_nI, nI_eq_nI, nI_add, pk_mul, pk_sub, pk_div, zrem_nI, zrd_nI, zwr_nI, zb1_some, zb2_some, zb3_some, zb4_some, zb5_some, zb6_some, zb7_some, zb8_some, zlet_eq, if_pos, if_neg, pk_us, pk_un, true_and, and_true, true_or, or_true, ↓reduceIte]
theorem zrows {w h : Nat} (hw : w ≤ 8) (hh : h ≤ 8) : ∀ (n y : Nat) (f : Nat → Int32) (F : Nat → Nat → Int32), y ≤ h / 2 → h / 2 - y < n → zR w h f F →
    ∃ f', fX5_exchangeRows_2 n (nI w) (nI h) f (nI y) = some f' ∧ zR w h f' (fun x' y' => if y ≤ y' ∧ y ≤ h - 1 - y' then F x' (h - 1 - y') else F x' y') := by
  intro n
  induction n with
  | zero => intro y f F h1 h2; omega
  | succ n ih =>
    intro y f F h1 h2 H
    rw [fX5_exchangeRows_2_s]
    by_cases c : h / 2 ≤ y
    · refine ⟨f, by simp (disch := omega) only [zlit, nI_lt_nI, nI_le_nI, nI_eq_nI, nI_add, pk_mul, pk_sub, pk_div, zrem_nI, zrd_nI, zwr_nI, zb1_some, zb2_some, zb3_some, zb4_some, zb5_some, zb6_some, zb7_some, zb8_some, zlet_eq, if_pos, if_neg, pk_us, pk_un, true_and, and_true, true_or, or_true, ↓reduceIte], zR_cong H fun x' y' hx' hy' => ?_⟩
      show F x' y' = if y ≤ y' ∧ y ≤ h - 1 - y' then F x' (h - 1 - y') else F x' y'
      by_cases d : y ≤ y' ∧ y ≤ h - 1 - y'
      · rw [if_pos d, show h - 1 - y' = y' by omega]
      · rw [if_neg d]
    · obtain ⟨f1, e1, H1⟩ := zrows14 hw hh (show y < h / 2 by omega) (fX5_exchangeRows_2 n) 1000 0 f F (by omega) (by omega) H
      obtain ⟨f2, e2, H2⟩ := ih (y + 1) f1 _ (by omega) (by omega) H1
      refine ⟨f2, ?_, zR_cong H2 fun x' y' hx' hy' => ?_⟩
      · simp (disch := omega) only [zlit, nI_lt_nI, nI_le_nI, nI_eq_nI, nI_add, pk_mul, pk_sub, pk_div, zrem_nI, zrd_nI, zwr_nI, zb1_some, zb2_some, zb3_some, zb4_some, zb5_some, zb6_some, zb7_some, zb8_some, zlet_eq, if_pos, if_neg, pk_us, pk_un, true_and, and_true, true_or, or_true, ↓reduceIte]
        rw [e1, e2]
      · show (if y + 1 ≤ y' ∧ y + 1 ≤ h - 1 - y' then (if (h - 1 - y' = y ∨ h - 1 - y' = h - 1 - y) ∧ 0 ≤ x' then F x' (h - 1 - (h - 1 - y')) else F x' (h - 1 - y')) else if (y' = y ∨ y' = h - 1 - y) ∧ 0 ≤ x' then F x' (h - 1 - y') else F x' y') = if y ≤ y' ∧ y ≤ h - 1 - y' then F x' (h - 1 - y') else F x' y'
        by_cases d1 : y' = y ∨ y' = h - 1 - y
        · simp (disch := omega) only [zlit, nI_lt_nI, nI_le_nI, nI_eq_nI, nI_add, pk_mul, pk_sub, pk_div, zrem_nI, zrd_nI, zwr_nI, zb1_some, zb2_some, zb3_some, zb4_some, zb5_some, zb6_some, zb7_some, zb8_some, zlet_eq, if_pos, if_neg, pk_us, pk_un, true_and, and_true, true_or, or_true, ↓reduceIte]
        · by_cases d2 : y ≤ y' ∧ y ≤ h - 1 - y'
          · simp (disch := omega) only [zlit, nI_lt_nI, nI_le_nI, nI_eq_nI, nI_add, pk_mul, pk_sub, pk_div, zrem_nI, zrd_nI, zwr_nI, zb1_some, zb2_some, zb3_some, zb4_some, zb5_some, zb6_some, zb7_some, zb8_some, zlet_eq, if_pos, if_neg, pk_us, pk_un, true_and, and_true, true_or, or_true, ↓reduceIte]
          · simp (disch := omega) only [zlit, nI_lt_nI, nI_le_nI, nI_eq_nI, nI_add, pk_mul, pk_sub, pk_div, zrem_nI, zrd_nI, zwr_nI, zb1_some, zb2_some, zb3_some, zb4_some, zb5_some, zb6_some, zb7_some, zb8_some, zlet_eq, if_pos, if_neg, pk_us, pk_un, true_and, and_true, true_or, or_true, ↓reduceIte]
theorem zturn24 {w h y : Nat} {pp : Nat → Int32} (hw : w ≤ 8) (hh : h ≤ 8) (hy : y < h) (rc : Int32 → Int32 → (Nat → Int32) → Int32 → (Nat → Int32) → Int32 → Option (Int32 × Int32 × (Nat → Int32))) : ∀ (n x : Nat) (f : Nat → Int32) (F : Nat → Nat → Int32), x ≤ w → w - x < n → zR w h f F →
    ∃ f', fX5_becomeTurned_24 rc n (nI w) (nI h) f (nI h) pp (nI y) (nI x) = rc (nI w) (nI h) f' (nI h) pp (nI (y + 1)) ∧ zR w h f' (fun x' y' => if y' = y ∧ x ≤ x' then pp (x' * h + y') else F x' y') := by
  intro n
  induction n with
  | zero => intro x f F h1 h2; omega
  | succ n ih =>
    intro x f F h1 h2 H
    rw [fX5_becomeTurned_24_s]
    by_cases c : w ≤ x
    · refine ⟨f, by simp (disch := omega) only [zlit, nI_lt_nI, nI_le_nI, nI_eq_nI, nI_add, pk_mul, pk_sub, pk_div, zrem_nI, zrd_nI, zwr_nI, zb1_some, zb2_some, zb3_some, zb4_some, zb5_some, zb6_some, zb7_some, zb8_some, zlet_eq, if_pos, if_neg, pk_us, pk_un, true_and, and_true, true_or, or_true, ↓reduceIte], zR_cong H fun x' y' hx' hy' => ?_⟩
      show F x' y' = if y' = y ∧ x ≤ x' then pp (x' * h + y') else F x' y'
      rw [if_neg (by omega)]
    · have hi : y * w + x < 64 := zidx hw hh (show x < w by omega) hy
      have hj : x * h + y < 64 := zidx hh hw hy (show x < w by omega)
      have H1 := zR_upd (v := pp (x * h + y)) H (show x < w by omega) hy
      obtain ⟨f', e1, e2⟩ := ih (x + 1) (upd f (y * w + x) (pp (x * h + y))) _ (by omega) (by omega) H1
      refine ⟨f', ?_, zR_cong e2 fun x' y' hx' hy' => ?_⟩
      · unfold fX5_at fX5_set
        simp (disch := omega) only [zlit, nI_lt_nI, nI_le_nI, nI_eq_nI, nI_add, pk_mul, pk_sub, pk_div, zrem_nI, zrd_nI, zwr_nI, zb1_some, zb2_some, zb3_some, zb4_some, zb5_some, zb6_some, zb7_some, zb8_some, zlet_eq, if_pos, if_neg, pk_us, pk_un, true_and, and_true, true_or, or_true, ↓reduceIte]
        exact e1
      · show (if y' = y ∧ x + 1 ≤ x' then pp (x' * h + y') else if x' = x ∧ y' = y then pp (x * h + y) else F x' y') = if y' = y ∧ x ≤ x' then pp (x' * h + y') else F x' y'
        by_cases d2 : x' = x ∧ y' = y
        · obtain ⟨rfl, rfl⟩ := d2
          simp (disch := omega) only [zlit, nI_lt_nI, nI_le_nI, nI_eq_nI, nI_add, pk_mul, pk_sub, pk_div, zrem_nI, zrd_nI, zwr_nI, zb1_some, zb2_some, zb3_some, zb4_some, zb5_some, zb6_some, zb7_some, zb8_some, zlet_eq, if_pos, if_neg, pk_us, pk_un, true_and, and_true, true_or, or_true, ↓reduceIte]
        · by_cases d4 : y' = y ∧ x ≤ x'
          · simp (disch := omega) only [zlit, nI_lt_nI, nI_le_nI, nI_eq_nI, nI_add, pk_mul, pk_sub, pk_div, zrem_nI, zrd_nI, zwr_nI, zb1_some, zb2_some, zb3_some, zb4_some, zb5_some, zb6_some, zb7_some, zb8_some, zlet_eq, if_pos, if_neg, pk_us, pk_un, true_and, and_true, true_or, or_true, ↓reduceIte]
          · simp (disch := omega) only [zlit, nI_lt_nI, nI_le_nI, nI_eq_nI, nI_add, pk_mul, pk_sub, pk_div, zrem_nI, zrd_nI, zwr_nI, zb1_some, zb2_some, zb3_some, zb4_some, zb5_some, zb6_some, zb7_some, zb8_some, zlet_eq, if_pos, if_neg, pk_us, pk_un, true_and, and_true, true_or, or_true, ↓reduceIte]
theorem zturn {w h : Nat} {pp : Nat → Int32} (hw : w ≤ 8) (hh : h ≤ 8) : ∀ (n y : Nat) (f : Nat → Int32) (F : Nat → Nat → Int32), y ≤ h → h - y < n → zR w h f F →
    ∃ f', fX5_becomeTurned_14 n (nI w) (nI h) f (nI h) pp (nI y) = some (nI w, nI h, f') ∧ zR w h f' (fun x' y' => if y ≤ y' then pp (x' * h + y') else F x' y') := by
  intro n
  induction n with
  | zero => intro y f F h1 h2; omega
  | succ n ih =>
    intro y f F h1 h2 H
    rw [fX5_becomeTurned_14_s]
    by_cases c : h ≤ y
    · refine ⟨f, by simp (disch := omega) only [zlit, nI_lt_nI, nI_le_nI, nI_eq_nI, nI_add, pk_mul, pk_sub, pk_div, zrem_nI, zrd_nI, zwr_nI, zb1_some, zb2_some, zb3_some, zb4_some, zb5_some, zb6_some, zb7_some, zb8_some, zlet_eq, if_pos, if_neg, pk_us, pk_un, true_and, and_true, true_or, or_true, ↓reduceIte], zR_cong H fun x' y' hx' hy' => ?_⟩
      show F x' y' = if y ≤ y' then pp (x' * h + y') else F x' y'
      rw [if_neg (by omega)]
    · obtain ⟨f1, e1, H1⟩ := zturn24 (pp := pp) hw hh (show y < h by omega) (fX5_becomeTurned_14 n) 1000 0 f F (by omega) (by omega) H
      obtain ⟨f2, e2, H2⟩ := ih (y + 1) f1 _ (by omega) (by omega) H1
      refine ⟨f2, ?_, zR_cong H2 fun x' y' hx' hy' => ?_⟩
      · simp (disch := omega) only [zlit, nI_lt_nI, nI_le_nI, nI_eq_nI, nI_add, pk_mul, pk_sub, pk_div, zrem_nI, zrd_nI, zwr_nI, zb1_some, zb2_some, zb3_some, zb4_some, zb5_some, zb6_some, zb7_some, zb8_some, zlet_eq, if_pos, if_neg, pk_us, pk_un, true_and, and_true, true_or, or_true, ↓reduceIte]
        rw [e1, e2]
      · show (if y + 1 ≤ y' then pp (x' * h + y') else if y' = y ∧ 0 ≤ x' then pp (x' * h + y') else F x' y') = if y ≤ y' then pp (x' * h + y') else F x' y'
        by_cases d1 : y' = y
        · simp (disch := omega) only [zlit, nI_lt_nI, nI_le_nI, nI_eq_nI, nI_add, pk_mul, pk_sub, pk_div, zrem_nI, zrd_nI, zwr_nI, zb1_some, zb2_some, zb3_some, zb4_some, zb5_some, zb6_some, zb7_some, zb8_some, zlet_eq, if_pos, if_neg, pk_us, pk_un, true_and, and_true, true_or, or_true, ↓reduceIte]
        · by_cases d2 : y ≤ y'
          · simp (disch := omega) only [zlit, nI_lt_nI, nI_le_nI, nI_eq_nI, nI_add, pk_mul, pk_sub, pk_div, zrem_nI, zrd_nI, zwr_nI, zb1_some, zb2_some, zb3_some, zb4_some, zb5_some, zb6_some, zb7_some, zb8_some, zlet_eq, if_pos, if_neg, pk_us, pk_un, true_and, and_true, true_or, or_true, ↓reduceIte]
          · simp (disch := omega) only [zlit, nI_lt_nI, nI_le_nI, nI_eq_nI, nI_add, pk_mul, pk_sub, pk_div, zrem_nI, zrd_nI, zwr_nI, zb1_some, zb2_some, zb3_some, zb4_some, zb5_some, zb6_some, zb7_some, zb8_some, zlet_eq, if_pos, if_neg, pk_us, pk_un, true_and, and_true, true_or, or_true, ↓reduceIte]
/-- the grey of a pixel -/
def zgr (p : Int32) : Nat := (77 * zch p 0 + 150 * zch p 1 + 29 * zch p 2) / 256
theorem zgr_lt (p : Int32) : zgr p < 256 := by
  have h0 := zch_lt p 0
  have h1 := zch_lt p 1
  have h2 := zch_lt p 2
  unfold zgr
  omega
theorem zcount {w h : Nat} : fX5_count (nI w) (nI h) = some (nI (w * h)) := by
  unfold fX5_count
  simp (disch := omega) only [zlit, nI_lt_nI, nI_le_nI, nI_eq_nI, nI_add, pk_mul, pk_sub, pk_div, zrem_nI, zrd_nI, zwr_nI, zb1_some, zb2_some, zb3_some, zb4_some, zb5_some, zb6_some, zb7_some, zb8_some, zlet_eq, if_pos, if_neg, pk_us, pk_un, true_and, and_true, true_or, or_true, ↓reduceIte]
theorem zlose {w h : Nat} (hs : w * h ≤ 64) : ∀ (n i : Nat) (f : Nat → Int32), i ≤ w * h → w * h - i < n →
    ∃ f', fX5_loseColour_2 n (nI w) (nI h) f (nI i) = some f' ∧ ∀ j, f' j = if i ≤ j ∧ j < w * h then nI (zpk (zgr (f j)) (zgr (f j)) (zgr (f j)) (zch (f j) 3)) else f j := by
  intro n
  induction n with
  | zero => intro i f h1 h2; omega
  | succ n ih =>
    intro i f h1 h2
    rw [fX5_loseColour_2_s]
    by_cases c : w * h ≤ i
    · exact ⟨f, by simp (disch := omega) only [zlit, nI_lt_nI, nI_le_nI, nI_eq_nI, nI_add, pk_mul, pk_sub, pk_div, zrem_nI, zrd_nI, zwr_nI, zb1_some, zb2_some, zb3_some, zb4_some, zb5_some, zb6_some, zb7_some, zb8_some, zlet_eq, if_pos, if_neg, pk_us, pk_un, true_and, and_true, true_or, or_true, ↓reduceIte, zcount], fun j => by rw [if_neg (by omega)]⟩
    · have g := zgr_lt (f i)
      have h0 := zch_lt (f i) 0
      have h1' := zch_lt (f i) 1
      have h2' := zch_lt (f i) 2
      have h3 := zch_lt (f i) 3
      obtain ⟨f', e1, e2⟩ := ih (i + 1) (upd f i (nI (zpk (zgr (f i)) (zgr (f i)) (zgr (f i)) (zch (f i) 3)))) (by omega) (by omega)
      refine ⟨f', ?_, fun j => ?_⟩
      · have eg : (77 * zch (f i) 0 + 150 * zch (f i) 1 + 29 * zch (f i) 2) / 256 = zgr (f i) := rfl
        simp (disch := omega) only [zlit, nI_lt_nI, nI_le_nI, nI_eq_nI, nI_add, pk_mul, pk_sub, pk_div, zrem_nI, zrd_nI, zwr_nI, zb1_some, zb2_some, zb3_some, zb4_some, zb5_some, zb6_some, zb7_some, zb8_some, zlet_eq, if_pos, if_neg, pk_us, pk_un, true_and, and_true, true_or, or_true, ↓reduceIte, zcount, zred, zgreen, zblue, zalpha, eg, zcolour]
        exact e1
      · rw [e2 j]
        by_cases hj : j = i
        · subst hj
          rw [if_neg (by omega), if_pos (by omega), pk_us]
        · rw [pk_un hj]
          by_cases d : i ≤ j ∧ j < w * h
          · rw [if_pos (by omega), if_pos d]
          · rw [if_neg (by omega), if_neg d]
theorem zopq {w h : Nat} (hs : w * h ≤ 64) : ∀ (n i : Nat) (f : Nat → Int32), i ≤ w * h → w * h - i < n →
    ∃ f', fX5_becomeOpaque_2 n (nI w) (nI h) f (nI i) = some f' ∧ ∀ j, f' j = if i ≤ j ∧ j < w * h then nI (zpk (zch (f j) 0) (zch (f j) 1) (zch (f j) 2) 255) else f j := by
  intro n
  induction n with
  | zero => intro i f h1 h2; omega
  | succ n ih =>
    intro i f h1 h2
    rw [fX5_becomeOpaque_2_s]
    by_cases c : w * h ≤ i
    · exact ⟨f, by simp (disch := omega) only [zlit, nI_lt_nI, nI_le_nI, nI_eq_nI, nI_add, pk_mul, pk_sub, pk_div, zrem_nI, zrd_nI, zwr_nI, zb1_some, zb2_some, zb3_some, zb4_some, zb5_some, zb6_some, zb7_some, zb8_some, zlet_eq, if_pos, if_neg, pk_us, pk_un, true_and, and_true, true_or, or_true, ↓reduceIte, zcount], fun j => by rw [if_neg (by omega)]⟩
    · obtain ⟨f', e1, e2⟩ := ih (i + 1) (upd f i (nI (zpk (zch (f i) 0) (zch (f i) 1) (zch (f i) 2) 255))) (by omega) (by omega)
      refine ⟨f', ?_, fun j => ?_⟩
      · simp (disch := omega) only [zlit, nI_lt_nI, nI_le_nI, nI_eq_nI, nI_add, pk_mul, pk_sub, pk_div, zrem_nI, zrd_nI, zwr_nI, zb1_some, zb2_some, zb3_some, zb4_some, zb5_some, zb6_some, zb7_some, zb8_some, zlet_eq, if_pos, if_neg, pk_us, pk_un, true_and, and_true, true_or, or_true, ↓reduceIte, zcount, zor255]
        exact e1
      · rw [e2 j]
        by_cases hj : j = i
        · subst hj
          rw [if_neg (by omega), if_pos (by omega), pk_us]
        · rw [pk_un hj]
          by_cases d : i ≤ j ∧ j < w * h
          · rw [if_pos (by omega), if_pos d]
          · rw [if_neg (by omega), if_neg d]
