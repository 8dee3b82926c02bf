/-! Words and rows of my own for the walks that a program writes. -/
-- ===== pure words =====
def zlet {α β : Type} (a : α) (k : α → β) : β := k a
theorem zlet_in {α β : Type} {a x : α} {k : α → β} {r : β} (h : zlet a k = r) (e : x = a) : k x = r := by
  subst e; exact h
def zinb (i : Int32) (n : Nat) : Bool := decide (0 ≤ i.toInt) && decide (i.toInt < n)
theorem zinb_in {i : Int32} {n : Nat} (h : zinb i n = true) : vp_in i n := by
  unfold zinb at h
  rw [Bool.and_eq_true, decide_eq_true_eq, decide_eq_true_eq] at h
  exact vp_in_iff.mpr h
/-- an array of n places is read at i -/
def zrd {α : Type} (f : Nat → Int32) (n : Nat) (i : Int32) (k : Int32 → Option α) : Option α := if zinb i n = true then k (f i.toNatClampNeg) else none
theorem zrd_in {α : Type} {f : Nat → Int32} {n : Nat} {i : Int32} {k : Int32 → Option α} {r : α} (h : zrd f n i k = some r) : vp_in i n ∧ ∀ v, v = f i.toNatClampNeg → k v = some r := by
  unfold zrd at h
  by_cases c : zinb i n = true
  · rw [if_pos c] at h
    exact ⟨zinb_in c, fun v e => by rw [e]; exact h⟩
  · rw [if_neg c] at h; cases h
/-- an array of n places is written at i -/
def zwr {α : Type} (f : Nat → Int32) (n : Nat) (i x : Int32) (k : (Nat → Int32) → Option α) : Option α := if zinb i n = true then k (upd f i.toNatClampNeg x) else none
theorem zwr_in {α : Type} {f : Nat → Int32} {n : Nat} {i x : Int32} {k : (Nat → Int32) → Option α} {r : α} (h : zwr f n i x k = some r) : vp_in i n ∧ ∃ g, upd f i.toNatClampNeg x = g ∧ k g = some r := by
  unfold zwr at h
  by_cases c : zinb i n = true
  · rw [if_pos c] at h
    exact ⟨zinb_in c, _, rfl, h⟩
  · rw [if_neg c] at h; cases h
/-- a divisor that isn't 0 -/
def znz {α : Type} (y : Int32) (a : Option α) : Option α := if y = 0 then none else a
theorem znz_in {α : Type} {y : Int32} {a : Option α} {r : α} (h : znz y a = some r) : ¬ y = 0 ∧ a = some r := by
  unfold znz at h
  by_cases c : y = 0
  · rw [if_pos c] at h; cases h
  · rw [if_neg c] at h; exact ⟨c, h⟩
/-- 0 or 1 -/
def zbo {α : Type} (y : Int32) (a : Option α) : Option α := if y = 0 ∨ y = 1 then a else none
theorem zbo_in {α : Type} {y : Int32} {a : Option α} {r : α} (h : zbo y a = some r) : (narrow .boolean (.int y) = .int y ∧ fits .boolean (.int y) = true) ∧ a = some r := by
  unfold zbo at h
  by_cases c : y = 0 ∨ y = 1
  · rw [if_pos c] at h
    refine ⟨?_, h⟩
    rcases c with c | c <;> subst c <;> exact ⟨rfl, rfl⟩
  · rw [if_neg c] at h; cases h
theorem zif_t {α : Type} {c : Prop} [Decidable c] {a b r : α} (h : (if c then a else b) = r) (hc : c) : a = r := by
  rw [if_pos hc] at h; exact h
theorem zif_f {α : Type} {c : Prop} [Decidable c] {a b r : α} (h : (if c then a else b) = r) (hc : ¬ c) : b = r := by
  rw [if_neg hc] at h; exact h
def zrem (x y : Int32) : Int32 := x - x / y * y
def zushr (x y : Int32) : Int32 := (x.toUInt32 >>> (y.toUInt32 &&& Int32.toUInt32 31)).toInt32
def zshl (x y : Int32) : Int32 := x <<< (y &&& 31)
def zshr (x y : Int32) : Int32 := x >>> (y &&& 31)
def zb1 {α β : Type} (o : Option α) (k : α → Option β) : Option β := match o with | none => none | some x => k x
def zb2 {α1 α2 β : Type} (o : Option (α1 × α2)) (k : α1 → α2 → Option β) : Option β := match o with | none => none | some x => k x.1 x.2
def zb3 {α1 α2 α3 β : Type} (o : Option (α1 × α2 × α3)) (k : α1 → α2 → α3 → Option β) : Option β := match o with | none => none | some x => k x.1 x.2.1 x.2.2
def zb4 {α1 α2 α3 α4 β : Type} (o : Option (α1 × α2 × α3 × α4)) (k : α1 → α2 → α3 → α4 → Option β) : Option β := match o with | none => none | some x => k x.1 x.2.1 x.2.2.1 x.2.2.2
def zb5 {α1 α2 α3 α4 α5 β : Type} (o : Option (α1 × α2 × α3 × α4 × α5)) (k : α1 → α2 → α3 → α4 → α5 → Option β) : Option β := match o with | none => none | some x => k x.1 x.2.1 x.2.2.1 x.2.2.2.1 x.2.2.2.2
def zb6 {α1 α2 α3 α4 α5 α6 β : Type} (o : Option (α1 × α2 × α3 × α4 × α5 × α6)) (k : α1 → α2 → α3 → α4 → α5 → α6 → Option β) : Option β := match o with | none => none | some x => k x.1 x.2.1 x.2.2.1 x.2.2.2.1 x.2.2.2.2.1 x.2.2.2.2.2
def zb7 {α1 α2 α3 α4 α5 α6 α7 β : Type} (o : Option (α1 × α2 × α3 × α4 × α5 × α6 × α7)) (k : α1 → α2 → α3 → α4 → α5 → α6 → α7 → Option β) : Option β := match o with | none => none | some x => k x.1 x.2.1 x.2.2.1 x.2.2.2.1 x.2.2.2.2.1 x.2.2.2.2.2.1 x.2.2.2.2.2.2
def zb8 {α1 α2 α3 α4 α5 α6 α7 α8 β : Type} (o : Option (α1 × α2 × α3 × α4 × α5 × α6 × α7 × α8)) (k : α1 → α2 → α3 → α4 → α5 → α6 → α7 → α8 → Option β) : Option β := match o with | none => none | some x => k x.1 x.2.1 x.2.2.1 x.2.2.2.1 x.2.2.2.2.1 x.2.2.2.2.2.1 x.2.2.2.2.2.2.1 x.2.2.2.2.2.2.2
def zb9 {α1 α2 α3 α4 α5 α6 α7 α8 α9 β : Type} (o : Option (α1 × α2 × α3 × α4 × α5 × α6 × α7 × α8 × α9)) (k : α1 → α2 → α3 → α4 → α5 → α6 → α7 → α8 → α9 → Option β) : Option β := match o with | none => none | some x => k x.1 x.2.1 x.2.2.1 x.2.2.2.1 x.2.2.2.2.1 x.2.2.2.2.2.1 x.2.2.2.2.2.2.1 x.2.2.2.2.2.2.2.1 x.2.2.2.2.2.2.2.2
def zb10 {α1 α2 α3 α4 α5 α6 α7 α8 α9 α10 β : Type} (o : Option (α1 × α2 × α3 × α4 × α5 × α6 × α7 × α8 × α9 × α10)) (k : α1 → α2 → α3 → α4 → α5 → α6 → α7 → α8 → α9 → α10 → Option β) : Option β := match o with | none => none | some x => k x.1 x.2.1 x.2.2.1 x.2.2.2.1 x.2.2.2.2.1 x.2.2.2.2.2.1 x.2.2.2.2.2.2.1 x.2.2.2.2.2.2.2.1 x.2.2.2.2.2.2.2.2.1 x.2.2.2.2.2.2.2.2.2
def zb11 {α1 α2 α3 α4 α5 α6 α7 α8 α9 α10 α11 β : Type} (o : Option (α1 × α2 × α3 × α4 × α5 × α6 × α7 × α8 × α9 × α10 × α11)) (k : α1 → α2 → α3 → α4 → α5 → α6 → α7 → α8 → α9 → α10 → α11 → Option β) : Option β := match o with | none => none | some x => k x.1 x.2.1 x.2.2.1 x.2.2.2.1 x.2.2.2.2.1 x.2.2.2.2.2.1 x.2.2.2.2.2.2.1 x.2.2.2.2.2.2.2.1 x.2.2.2.2.2.2.2.2.1 x.2.2.2.2.2.2.2.2.2.1 x.2.2.2.2.2.2.2.2.2.2
theorem zb1_in {α β : Type} {o : Option α} {k : α → Option β} {r : β} (h : zb1 o k = some r) : ∃ a, o = some a ∧ k a = some r := by
  cases o with
  | none => cases h
  | some x => exact ⟨_, rfl, h⟩
theorem zb2_in {α1 α2 β : Type} {o : Option (α1 × α2)} {k : α1 → α2 → Option β} {r : β} (h : zb2 o k = some r) : ∃ a b, o = some (a, b) ∧ k a b = some r := by
  cases o with
  | none => cases h
  | some x => exact ⟨_, _, rfl, h⟩
theorem zb3_in {α1 α2 α3 β : Type} {o : Option (α1 × α2 × α3)} {k : α1 → α2 → α3 → Option β} {r : β} (h : zb3 o k = some r) : ∃ a b c, o = some (a, b, c) ∧ k a b c = some r := by
  cases o with
  | none => cases h
  | some x => exact ⟨_, _, _, rfl, h⟩
theorem zb4_in {α1 α2 α3 α4 β : Type} {o : Option (α1 × α2 × α3 × α4)} {k : α1 → α2 → α3 → α4 → Option β} {r : β} (h : zb4 o k = some r) : ∃ a b c d, o = some (a, b, c, d) ∧ k a b c d = some r := by
  cases o with
  | none => cases h
  | some x => exact ⟨_, _, _, _, rfl, h⟩
theorem zb5_in {α1 α2 α3 α4 α5 β : Type} {o : Option (α1 × α2 × α3 × α4 × α5)} {k : α1 → α2 → α3 → α4 → α5 → Option β} {r : β} (h : zb5 o k = some r) : ∃ a b c d e, o = some (a, b, c, d, e) ∧ k a b c d e = some r := by
  cases o with
  | none => cases h
  | some x => exact ⟨_, _, _, _, _, rfl, h⟩
theorem zb6_in {α1 α2 α3 α4 α5 α6 β : Type} {o : Option (α1 × α2 × α3 × α4 × α5 × α6)} {k : α1 → α2 → α3 → α4 → α5 → α6 → Option β} {r : β} (h : zb6 o k = some r) : ∃ a b c d e f, o = some (a, b, c, d, e, f) ∧ k a b c d e f = some r := by
  cases o with
  | none => cases h
  | some x => exact ⟨_, _, _, _, _, _, rfl, h⟩
theorem zb7_in {α1 α2 α3 α4 α5 α6 α7 β : Type} {o : Option (α1 × α2 × α3 × α4 × α5 × α6 × α7)} {k : α1 → α2 → α3 → α4 → α5 → α6 → α7 → Option β} {r : β} (h : zb7 o k = some r) : ∃ a b c d e f g, o = some (a, b, c, d, e, f, g) ∧ k a b c d e f g = some r := by
  cases o with
  | none => cases h
  | some x => exact ⟨_, _, _, _, _, _, _, rfl, h⟩
theorem zb8_in {α1 α2 α3 α4 α5 α6 α7 α8 β : Type} {o : Option (α1 × α2 × α3 × α4 × α5 × α6 × α7 × α8)} {k : α1 → α2 → α3 → α4 → α5 → α6 → α7 → α8 → Option β} {r : β} (h : zb8 o k = some r) : ∃ a b c d e f g i, o = some (a, b, c, d, e, f, g, i) ∧ k a b c d e f g i = some r := by
  cases o with
  | none => cases h
  | some x => exact ⟨_, _, _, _, _, _, _, _, rfl, h⟩
theorem zb9_in {α1 α2 α3 α4 α5 α6 α7 α8 α9 β : Type} {o : Option (α1 × α2 × α3 × α4 × α5 × α6 × α7 × α8 × α9)} {k : α1 → α2 → α3 → α4 → α5 → α6 → α7 → α8 → α9 → Option β} {r : β} (h : zb9 o k = some r) : ∃ a b c d e f g i j, o = some (a, b, c, d, e, f, g, i, j) ∧ k a b c d e f g i j = some r := by
  cases o with
  | none => cases h
  | some x => exact ⟨_, _, _, _, _, _, _, _, _, rfl, h⟩
theorem zb10_in {α1 α2 α3 α4 α5 α6 α7 α8 α9 α10 β : Type} {o : Option (α1 × α2 × α3 × α4 × α5 × α6 × α7 × α8 × α9 × α10)} {k : α1 → α2 → α3 → α4 → α5 → α6 → α7 → α8 → α9 → α10 → Option β} {r : β} (h : zb10 o k = some r) : ∃ a b c d e f g i j m, o = some (a, b, c, d, e, f, g, i, j, m) ∧ k a b c d e f g i j m = some r := by
  cases o with
  | none => cases h
  | some x => exact ⟨_, _, _, _, _, _, _, _, _, _, rfl, h⟩
theorem zb11_in {α1 α2 α3 α4 α5 α6 α7 α8 α9 α10 α11 β : Type} {o : Option (α1 × α2 × α3 × α4 × α5 × α6 × α7 × α8 × α9 × α10 × α11)} {k : α1 → α2 → α3 → α4 → α5 → α6 → α7 → α8 → α9 → α10 → α11 → Option β} {r : β} (h : zb11 o k = some r) : ∃ a b c d e f g i j m n, o = some (a, b, c, d, e, f, g, i, j, m, n) ∧ k a b c d e f g i j m n = some r := by
  cases o with
  | none => cases h
  | some x => exact ⟨_, _, _, _, _, _, _, _, _, _, _, rfl, h⟩
-- ===== the words that are no good words: links among nest mates, declared methods =====
def zk (w : Cond) : Bool := match w with
  | .fieldLinkNest .. => true
  | .methodLinkNest .. => true
  | .declares _ => true
  | .castable .. => true
  | _ => false
def zNW : List Cond := [.fieldLinkNest RX0 64 "FourPictureFiles$Picture" "pixels" "[I" RX8, .fieldLinkNest RX1 82 "FourPictureFiles$Picture" "pixels" "[I" RX8, .fieldLinkNest RX6 112 "FourPictureFiles$Picture" "pixels" "[I" RX8, .fieldLinkNest RX6 30 "FourPictureFiles$Picture" "wide" "I" RX8, .fieldLinkNest RX4 39 "FourPictureFiles$Picture" "wide" "I" RX8, .fieldLinkNest RX8 73 "FourPictureFiles$Picture" "wide" "I" RX8, .fieldLinkNest RX1 51 "FourPictureFiles$Picture" "wide" "I" RX8, .fieldLinkNest RX0 77 "FourPictureFiles$Picture" "wide" "I" RX8, .fieldLinkNest RX0 47 "FourPictureFiles$Picture" "high" "I" RX8, .fieldLinkNest RX6 38 "FourPictureFiles$Picture" "high" "I" RX8, .fieldLinkNest RX4 46 "FourPictureFiles$Picture" "high" "I" RX8, .fieldLinkNest RX8 77 "FourPictureFiles$Picture" "high" "I" RX8, .fieldLinkNest RX1 60 "FourPictureFiles$Picture" "high" "I" RX8, .fieldLinkNest RX7 29 "FourPictureFiles$FileRow" "bytes" "[I" RX8, .fieldLinkNest RX0 80 "FourPictureFiles$FileRow" "bytes" "[I" RX8, .fieldLinkNest RX8 108 "FourPictureFiles$FileRow" "bytes" "[I" RX8, .fieldLinkNest RX4 7 "FourPictureFiles$FileRow" "size" "I" RX8, .fieldLinkNest RX7 17 "FourPictureFiles$FileRow" "size" "I" RX8, .fieldLinkNest RX0 83 "FourPictureFiles$FileRow" "size" "I" RX8, .fieldLinkNest RX8 105 "FourPictureFiles$FileRow" "size" "I" RX8, .fieldLinkNest RX6 126 "FourPictureFiles$Source" "place" "I" RX8, .fieldLinkNest RX0 107 "FourPictureFiles$Source" "place" "I" RX8, .fieldLinkNest RX8 131 "FourPictureFiles$Source" "place" "I" RX8, .methodLinkNest RX8 9 yX5_init RX8, .methodLinkNest RX8 21 yX2_init RX8, .methodLinkNest RX8 28 yX7_init RX8, .methodLinkNest RX8 43 yX1_init RX8, .methodLinkNest RX1 1 yX3_init RX8, .methodLinkNest RX8 46 yX6_init RX8, .methodLinkNest RX6 3 yX3_init RX8, .methodLinkNest RX8 49 yX0_init RX8, .methodLinkNest RX0 3 yX3_init RX8, .methodLinkNest RX8 52 yX4_init RX8, .methodLinkNest RX4 1 yX3_init RX8, .methodLinkNest RX5 56 yX8_red RX8, .methodLinkNest RX5 60 yX8_green RX8, .methodLinkNest RX5 63 yX8_blue RX8, .methodLinkNest RX5 66 yX8_alpha RX8, .methodLinkNest RX5 69 yX8_colour RX8, .methodLinkNest RX2 23 yX8_blue RX8, .methodLinkNest RX2 27 yX8_green RX8, .methodLinkNest RX2 30 yX8_red RX8, .methodLinkNest RX1 19 yX8_opaque RX8, .methodLinkNest RX1 29 yX8_red RX8, .methodLinkNest RX1 33 yX8_green RX8, .methodLinkNest RX1 36 yX8_blue RX8, .methodLinkNest RX1 39 yX8_alpha RX8, .methodLinkNest RX4 64 yX8_red RX8, .methodLinkNest RX4 72 yX8_alpha RX8, .methodLinkNest RX6 48 yX8_red RX8, .methodLinkNest RX6 55 yX8_green RX8, .methodLinkNest RX6 58 yX8_blue RX8, .methodLinkNest RX7 38 yX8_isSide RX8, .methodLinkNest RX7 52 yX8_colour RX8, .methodLinkNest RX1 140 yX8_colour RX8, .methodLinkNest RX4 141 yX8_opaque RX8, .methodLinkNest RX6 116 yX8_opaque RX8, .declares ⟨RX3, "isThatOf", "(LFourPictureFiles$FileRow;)Z"⟩, .declares ⟨RX3, "canHold", "(LFourPictureFiles$Picture;)Z"⟩, .declares ⟨RX3, "write", "(LFourPictureFiles$Picture;ILFourPictureFiles$FileRow;)V"⟩, .declares ⟨RX3, "read", "(LFourPictureFiles$Source;LFourPictureFiles$Picture;)V"⟩, .castable RX1 RX3, .castable RX6 RX3, .castable RX0 RX3, .castable RX4 RX3, .castable "java/lang/IllegalStateException" "java/lang/IllegalStateException", .castable "java/lang/IllegalArgumentException" "java/lang/IllegalArgumentException", .declares ⟨"java/lang/RuntimeException", "<init>", "(Ljava/lang/String;)V"⟩, .declares ⟨"java/lang/Exception", "<init>", "(Ljava/lang/String;)V"⟩, .declares ⟨"java/lang/Throwable", "<init>", "(Ljava/lang/String;)V"⟩]
theorem zNW_k : ∀ w ∈ zNW, zk w = true := by decide +kernel
def zN (U : State) : Prop := ∀ w ∈ zNW, va_Nw w U
theorem zN.same {u U : State} (h : zN u) (hv : u.vm = U.vm) : zN U := by
  intro w hw
  have hk := zNW_k w hw
  have h1 := h w hw
  cases w <;> first | (exact va_Nw.same rfl hv h1) | (simp [zk] at hk; done)
theorem zN.warm {u U : State} (h : zN u) (hW : u.WarmedH U.vm) : zN U := by
  intro w hw
  have hk := zNW_k w hw
  have h1 := h w hw
  cases w <;> first | (exact va_Nw.warmF hW h1) | (exact va_Nw.warmM hW h1) | (exact va_Nw.warmD hW h1) | (exact va_Nw.warmC hW h1) | (simp [zk] at hk; done)
theorem zN.at {U : State} {A : Array Value} (h : zN U) {w : Cond} (i : Nat) (hi : zNW[i]? = some w) : w.before A U = true := by
  have hw : w ∈ zNW := List.mem_of_getElem? hi
  have hk := zNW_k w hw
  have h1 := h w hw
  cases w <;> first | (exact va_Nw.use rfl h1) | (simp [zk] at hk; done)
theorem zN.nw {U : State} (h : zN U) {w : Cond} (i : Nat) (hi : zNW[i]? = some w) : va_Nw w U := h w (List.mem_of_getElem? hi)
-- ===== contracts =====
/-- a contract's start: the world, the tables' words -/
def zP (D : va_G) (tys : List (ClassId × FieldType)) (ws : va_W) (sz : Nat) (U : State) : Prop := U.heap.size = sz ∧ va_P D vwCl ws U.heap ∧ va_K D vwCl tys U ∧ va_D (fun _ => True) ws ∧ zN U
theorem zP_blind {D : va_G} {tys : List (ClassId × FieldType)} {ws : va_W} {sz : Nat} {av : List Value} : FrameBlind (va_Pc av (zP D tys ws sz)) := by
  intro a U g mk q
  obtain ⟨h0, h1, h2, h3, h4, h5⟩ := q
  exact ⟨h0, h1, h2, va_K.moved (u := U) (U := U.calling g mk a) (Vm.Alike.refl U.vm) h3, h4, h5.same rfl⟩
/-- a contract's end: the world -/
def zB (D : va_G) (ws : va_W) (sz : Nat) (w1 : va_W) (t : State) : Prop := va_P D vwCl w1 t.heap ∧ va_D (va_A ws sz) w1
abbrev zQi (D : va_G) (ws : va_W) (sz : Nat) (r : Int32) (w1 : va_W) : Array Value → State → Outcome → State → Prop := va_Qi (fun (r' : Int32) (_ : Unit) => r' = r) (fun _ t => zB D ws sz w1 t) (va_A ws sz)
abbrev zQv (D : va_G) (ws : va_W) (sz : Nat) (w1 : va_W) : Array Value → State → Outcome → State → Prop := va_Qv (fun (_ : Unit) => True) (fun _ t => zB D ws sz w1 t) (va_A ws sz)
theorem zpre {D : va_G} {tys : List (ClassId × FieldType)} {ws wc : va_W} {A : Nat → Prop} {s : State} {H : Heap} (hK : va_K D vwCl tys s) (hN : zN s) (hP : va_P D vwCl ws H) (hD : va_D A ws) (isC : List Nat) (hn : va_nd isC = true) (hC : isC.map (fun i => ws[i]?) = wc.map some) {av : List Value} :
    ∀ U : State, U.heap = H → s.WarmedH U.vm → va_Pc av (zP D tys wc H.size) av.toArray U := by
  intro U hU hW
  have hs : isC.filterMap (fun i => ws[i]?) = wc := by
    have := congrArg (List.filterMap id) hC
    rw [List.filterMap_map, List.filterMap_map] at this
    simpa using this
  refine ⟨rfl, by rw [hU], ?_, va_K.moved hW.alike hK, (hD.sub isC hn hC).weaken (fun _ _ _ _ => trivial), hN.warm hW⟩
  rw [hU]; exact hP.sub isC hs
/-- what a walk owes at a method's end: an int, a boolean, nothing -/
def zEi (p : Program) (l : Launch) (e : Env) (R : Room) (s : State) (m : MethodId) (args : Array Value) (below : List Frame) (meth : Method) (c : Code) (cc : ByteArray) (D : va_G) (A : Nat → Prop) (Q : State → Prop) (w1 : va_W) (r : Int32) : Prop :=
  ∀ (H : Heap) (locs : List Loc) (pc : Nat) (ls : Array Slot), decode cc pc = .ok (.ireturn, 1) → va_P D vwCl w1 H → va_D A w1 → va_S A s.heap H locs → W p l e R s m args below meth c H locs 0 0 Q (F0 m pc ls [.int r])
def zEz (p : Program) (l : Launch) (e : Env) (R : Room) (s : State) (m : MethodId) (args : Array Value) (below : List Frame) (meth : Method) (c : Code) (cc : ByteArray) (D : va_G) (A : Nat → Prop) (Q : State → Prop) (w1 : va_W) (r : Int32) : Prop :=
  ∀ (H : Heap) (locs : List Loc) (pc : Nat) (ls : Array Slot), decode cc pc = .ok (.ireturn, 1) → narrow .boolean (.int r) = .int r → va_P D vwCl w1 H → va_D A w1 → va_S A s.heap H locs → W p l e R s m args below meth c H locs 0 0 Q (F0 m pc ls [.int r])
def zEv (p : Program) (l : Launch) (e : Env) (R : Room) (s : State) (m : MethodId) (args : Array Value) (below : List Frame) (meth : Method) (c : Code) (cc : ByteArray) (D : va_G) (A : Nat → Prop) (Q : State → Prop) (w1 : va_W) : Prop :=
  ∀ (H : Heap) (locs : List Loc) (pc : Nat) (ls : Array Slot), decode cc pc = .ok (.return_, 1) → va_P D vwCl w1 H → va_D A w1 → va_S A s.heap H locs → W p l e R s m args below meth c H locs 0 0 Q (F0 m pc ls [])
-- ===== the worlds' pieces =====
def zwA (cI : ClassId) (a n : Nat) (f : Nat → Int32) : va_W := [(a, .inl (cI, n, .inl f))]
def zwX8 (h a b c d e : Nat) : va_W := [(h, .inr (7, [.ref a, .ref b, .ref c, .ref d, .ref e]))]
def zwX5 (cI : ClassId) (h_t h_t_pixels : Nat) (t_wide : Int32) (t_high : Int32) (t_pixels : Nat → Int32) : va_W := [(h_t, .inr (4, [.ref h_t_pixels, .int t_wide, .int t_high])), (h_t_pixels, .inl (cI, 64, .inl t_pixels))]
def zwX2 (cI : ClassId) (h_t h_t_bytes : Nat) (t_size : Int32) (t_bytes : Nat → Int32) : va_W := [(h_t, .inr (2, [.ref h_t_bytes, .int t_size])), (h_t_bytes, .inl (cI, 800, .inl t_bytes))]
def zwX7 (cI : ClassId) (h_t h_t_file h_t_file_bytes : Nat) (t_place : Int32) (t_file_size : Int32) (t_file_bytes : Nat → Int32) : va_W := [(h_t, .inr (6, [.ref h_t_file, .int t_place])), (h_t_file, .inr (2, [.ref h_t_file_bytes, .int t_file_size])), (h_t_file_bytes, .inl (cI, 800, .inl t_file_bytes))]
def zwX1 (cI : ClassId) (h_t h_t_table : Nat) (t_last : Int32) (t_table : Nat → Int32) : va_W := [(h_t, .inr (1, [.ref h_t_table, .int t_last])), (h_t_table, .inl (cI, 64, .inl t_table))]
def zwX0 (cI : ClassId) (h_t h_t_colours : Nat) (t_known : Int32) (t_depth : Int32) (t_packing : Int32) (t_isUpward : Int32) (t_column : Int32) (t_up : Int32) (t_colours : Nat → Int32) : va_W := [(h_t, .inr (0, [.ref h_t_colours, .int t_known, .int t_depth, .int t_packing, .int t_isUpward, .int t_column, .int t_up])), (h_t_colours, .inl (cI, 64, .inl t_colours))]
def zwX4 (cI : ClassId) (h_t : Nat) (t_depth : Int32) (t_left : Int32) (t_isRepeated : Int32) (t_held : Int32) : va_W := [(h_t, .inr (3, [.int t_depth, .int t_left, .int t_isRepeated, .int t_held]))]
def zwX6 (cI : ClassId) (h_t : Nat) (t_inDigits : Int32) (t_greatest : Int32) : va_W := [(h_t, .inr (5, [.int t_inDigits, .int t_greatest]))]
def zwX9 (cI : ClassId) (h_t h_t_now h_t_file h_t_fresh h_t_colour h_t_table h_t_last h_t_one : Nat) (t_wide : Int32) (t_high : Int32) (t_size : Int32) (t_at : Int32) (t_fault : Int32) (t_newWide : Int32) (t_newHigh : Int32) (t_colours : Int32) (t_now : Nat → Int32) (t_file : Nat → Int32) (t_fresh : Nat → Int32) (t_colour : Nat → Int32) (t_table : Nat → Int32) (t_last : Nat → Int32) (t_one : Nat → Int32) : va_W := [(h_t, .inr (8, [.int t_wide, .int t_high, .ref h_t_now, .int t_size, .ref h_t_file, .int t_at, .int t_fault, .int t_newWide, .int t_newHigh, .ref h_t_fresh, .int t_colours, .ref h_t_colour, .ref h_t_table, .ref h_t_last, .ref h_t_one])), (h_t_now, .inl (cI, 256, .inl t_now)), (h_t_file, .inl (cI, 800, .inl t_file)), (h_t_fresh, .inl (cI, 256, .inl t_fresh)), (h_t_colour, .inl (cI, 256, .inl t_colour)), (h_t_table, .inl (cI, 256, .inl t_table)), (h_t_last, .inl (cI, 4, .inl t_last)), (h_t_one, .inl (cI, 4, .inl t_one))]
section ZC
variable {p : Program} {l : Launch} {e : Env} {R : Room} {s : State} {m : MethodId} {args : Array Value} {below : List Frame} {meth : Method} {c : Code} {H : Heap} {locs : List Loc} {cells slots : Nat} {Q : State → Prop}
variable {pc : Nat} {ls : Array Slot} {rest st0 : List Value} {a : Array Value} {A : Nat → Prop} {H0 : Heap} {mc ms : Nat}
theorem zrest {ws : va_W} : ∀ (isR : List Nat), isR.all (fun i => decide (i < ws.length)) = true → isR.map (fun i => ws[i]?) = (isR.filterMap (fun i => ws[i]?)).map some
  | [], _ => rfl
  | i :: l, h => by
    rw [List.all_cons, Bool.and_eq_true, decide_eq_true_eq] at h
    have h1 : ws[i]? = some ws[i] := List.getElem?_eq_getElem h.1
    rw [List.map_cons, List.filterMap_cons, h1, zrest l h.2]
    rfl
theorem zjoin {D : va_G} {ws wc w1 ws' : va_W} {H1 : Heap} {locs : List Loc} (hP : va_P D vwCl ws H) (hD : va_D A ws) (hS : va_S A H0 H locs) (hA : ∀ q, H0.size ≤ q → A q) (isC isR perm : List Nat) (hC : isC.map (fun i => ws[i]?) = wc.map some) (hR : isR.all (fun i => decide (i < ws.length)) = true)
    (hn : va_nd isR = true) (hdis : isR.all (fun i => !isC.contains i) = true) (hp : perm.map (fun i => (isR.filterMap (fun i => ws[i]?) ++ w1)[i]?) = ws'.map some) (hnd : va_nd perm = true)
    (hk : ∀ q : Nat, q < H.size → ¬ va_A wc H.size q → H1[q]? = H[q]?) (hP1 : va_P D vwCl w1 H1) (hD1 : va_D (va_A wc H.size) w1) : va_P D vwCl ws' H1 ∧ va_D A ws' := by
  have hdis' : ∀ i ∈ isR, i ∉ isC := by
    intro i hi hc
    have := List.all_eq_true.mp hdis i hi
    simp [hc] at this
  obtain ⟨q1, q2⟩ := va_join hP hD isC isR hC (zrest isR hR) hn hdis' hk (va_free hD hS hA isC hC) hP1 hD1
  have hs : perm.filterMap (fun i => (isR.filterMap (fun i => ws[i]?) ++ w1)[i]?) = ws' := by
    have := congrArg (List.filterMap id) hp
    rw [List.filterMap_map, List.filterMap_map] at this
    simpa using this
  exact ⟨q1.sub perm hs, q2.sub perm hnd hp⟩
theorem zc_i {D : va_G} {ws wc w1 ws' : va_W} {r : Int32} (hr : va_Run p l e R s m args below meth c H locs cells slots mc ms (F0 m pc ls st0) rest (zQi D wc H.size r w1 a) (va_A wc H.size))
    (hP : va_P D vwCl ws H) (hD : va_D A ws) (hS : va_S A H0 H locs) (hA : ∀ q, H0.size ≤ q → A q) (isC isR perm : List Nat) (hC : isC.map (fun i => ws[i]?) = wc.map some) (hR : isR.all (fun i => decide (i < ws.length)) = true)
    (hn : va_nd isR = true) (hdis : isR.all (fun i => !isC.contains i) = true) (hp : perm.map (fun i => (isR.filterMap (fun i => ws[i]?) ++ w1)[i]?) = ws'.map some) (hnd : va_nd perm = true)
    (kk : ∀ (H1 : Heap) (locs1 : List Loc), va_P D vwCl ws' H1 → va_D A ws' → va_S A H0 H1 locs1 → W p l e R s m args below meth c H1 locs1 (cells + mc) (slots + ms) Q (F0 m (pc + 3) ls (.int r :: rest))) : W p l e R s m args below meth c H locs cells slots Q (F0 m pc ls st0) := by
  have hF := va_free hD hS hA isC hC
  refine va_calli hr hS (fun q _ h => hF q h) hF (fun r' u t H1 locs1 ht hvm hw hB hz1 hk1 hS1 => ?_)
  subst hw
  obtain ⟨hP1, hD1⟩ := hB
  rw [ht] at hP1
  obtain ⟨q1, q2⟩ := zjoin hP hD hS hA isC isR perm hC hR hn hdis hp hnd hk1 hP1 hD1
  exact kk H1 locs1 q1 q2 hS1
theorem zc_v {D : va_G} {ws wc w1 ws' : va_W} (hr : va_Run p l e R s m args below meth c H locs cells slots mc ms (F0 m pc ls st0) rest (zQv D wc H.size w1 a) (va_A wc H.size))
    (hP : va_P D vwCl ws H) (hD : va_D A ws) (hS : va_S A H0 H locs) (hA : ∀ q, H0.size ≤ q → A q) (isC isR perm : List Nat) (hC : isC.map (fun i => ws[i]?) = wc.map some) (hR : isR.all (fun i => decide (i < ws.length)) = true)
    (hn : va_nd isR = true) (hdis : isR.all (fun i => !isC.contains i) = true) (hp : perm.map (fun i => (isR.filterMap (fun i => ws[i]?) ++ w1)[i]?) = ws'.map some) (hnd : va_nd perm = true)
    (kk : ∀ (H1 : Heap) (locs1 : List Loc), va_P D vwCl ws' H1 → va_D A ws' → va_S A H0 H1 locs1 → W p l e R s m args below meth c H1 locs1 (cells + mc) (slots + ms) Q (F0 m (pc + 3) ls rest)) : W p l e R s m args below meth c H locs cells slots Q (F0 m pc ls st0) := by
  have hF := va_free hD hS hA isC hC
  refine va_callv hr hS (fun q _ h => hF q h) hF (fun u t H1 locs1 ht hvm hw hB hz1 hk1 hS1 => ?_)
  obtain ⟨hP1, hD1⟩ := hB
  rw [ht] at hP1
  obtain ⟨q1, q2⟩ := zjoin hP hD hS hA isC isR perm hC hR hn hdis hp hnd hk1 hP1 hD1
  exact kk H1 locs1 q1 q2 hS1
/-- a method's ends, for the walks: an int, a boolean, nothing -/
theorem zend_i {D : va_G} {w0 w1 : va_W} {r : Int32} {cc : ByteArray} (hx : p.tables.exec = Jvm.exec) (hb : c.code = cc) (hr : meth.sig.returnType = some .int) (hlocks : meth.locks = false) {H : Heap} {locs : List Loc} {pc : Nat} {ls : Array Slot} (d : decode cc pc = .ok (.ireturn, 1)) (hP : va_P D vwCl w1 H) (hD : va_D (va_A w0 s.heap.size) w1) (hS : va_S (va_A w0 s.heap.size) s.heap H locs) :
    W p l e R s m args below meth c H locs 0 0 (MQ below (zQi D w0 s.heap.size r w1) args s 0 0 (va_A w0 s.heap.size)) (F0 m pc ls [.int r]) :=
  W.iret (v := r) hx hb hr (fun t ht hW => ⟨⟨r, (), rfl, rfl, by rw [ht]; exact hP, hD⟩, hS.F ht⟩) hS.2.2 d
theorem zend_z {D : va_G} {w0 w1 : va_W} {r : Int32} {cc : ByteArray} (hx : p.tables.exec = Jvm.exec) (hb : c.code = cc) (hr : meth.sig.returnType = some .boolean) (hlocks : meth.locks = false) {H : Heap} {locs : List Loc} {pc : Nat} {ls : Array Slot} (d : decode cc pc = .ok (.ireturn, 1)) (hn : narrow .boolean (.int r) = .int r) (hP : va_P D vwCl w1 H) (hD : va_D (va_A w0 s.heap.size) w1) (hS : va_S (va_A w0 s.heap.size) s.heap H locs) :
    W p l e R s m args below meth c H locs 0 0 (MQ below (zQi D w0 s.heap.size r w1) args s 0 0 (va_A w0 s.heap.size)) (F0 m pc ls [.int r]) :=
  W.zret (v := r) hx hb hr hn (fun t ht hW => ⟨⟨r, (), rfl, rfl, by rw [ht]; exact hP, hD⟩, hS.F ht⟩) hS.2.2 d
theorem zend_v {D : va_G} {w0 w1 : va_W} {cc : ByteArray} (hx : p.tables.exec = Jvm.exec) (hb : c.code = cc) (hr : meth.sig.returnType = none) (hlocks : meth.locks = false) {H : Heap} {locs : List Loc} {pc : Nat} {ls : Array Slot} (d : decode cc pc = .ok (.return_, 1)) (hP : va_P D vwCl w1 H) (hD : va_D (va_A w0 s.heap.size) w1) (hS : va_S (va_A w0 s.heap.size) s.heap H locs) :
    W p l e R s m args below meth c H locs 0 0 (MQ below (zQv D w0 s.heap.size w1) args s 0 0 (va_A w0 s.heap.size)) (F0 m pc ls []) :=
  W.vret hx hb hr (fun t ht hW => ⟨⟨(), rfl, trivial, by rw [ht]; exact hP, hD⟩, hS.F ht⟩) hS.2.2 d
end ZC
