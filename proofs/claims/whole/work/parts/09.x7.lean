def fX7_peek (t_place : Int32) (t_file_size : Int32) (t_file_bytes : Nat → Int32) : Option (Int32) :=
  if t_file_size ≤ t_place then
    some (-1)
  else
    zrd t_file_bytes 800 t_place fun x2 =>
    some x2
def fX7_isAtEnd (t_place : Int32) (t_file_size : Int32) : Option (Int32) :=
  if t_place < t_file_size then
    some 0
  else
    some 1
def fX7_next (t_place : Int32) (t_file_size : Int32) (t_file_bytes : Nat → Int32) : Option (Nat × Int32 × Int32) :=
  if t_place < t_file_size then
    zrd t_file_bytes 800 t_place fun x2 =>
    zlet (t_place + 1) fun x4 =>
    some (0, x2, x4)
  else
    some (1, 0, t_place)
def fX7_need (v0 : Int32) : Option (Nat) :=
  if v0 = 0 then
    some 2
  else
    some 0
def fX7_needSide (v0 : Int32) : Option (Nat × Int32) :=
  zb1 (fX8_isSide v0) fun r1 =>
  zb1 (fX7_need r1) fun tg3 =>
  if tg3 = 0 then
    some (0, v0)
  else
    some (tg3, 0)
def fX7_pass_2 : Nat → Int32 → Int32 → (Nat → Int32) → Int32 → Int32 → Option (Nat × Int32)
  | 0, _, _, _, _, _ => none
  | n + 1, t_place, t_file_size, t_file_bytes, l1, l2 =>
    if l1 ≤ l2 then
      some (0, t_place)
    else
      zb3 (fX7_next t_place t_file_size t_file_bytes) fun tg2 r3 u4 =>
      if tg2 = 0 then
        zlet (l2 + 1) fun x6 =>
        (fX7_pass_2 n) u4 t_file_size t_file_bytes l1 x6
      else
        some (tg2, u4)
theorem fX7_pass_2_s (n : Nat) (t_place : Int32) (t_file_size : Int32) (t_file_bytes : Nat → Int32) (l1 : Int32) (l2 : Int32) : fX7_pass_2 (n + 1) t_place t_file_size t_file_bytes l1 l2 =
    if l1 ≤ l2 then
      some (0, t_place)
    else
      zb3 (fX7_next t_place t_file_size t_file_bytes) fun tg2 r3 u4 =>
      if tg2 = 0 then
        zlet (l2 + 1) fun x6 =>
        (fX7_pass_2 n) u4 t_file_size t_file_bytes l1 x6
      else
        some (tg2, u4) := rfl
def fX7_pass (t_place : Int32) (t_file_size : Int32) (t_file_bytes : Nat → Int32) (v0 : Int32) : Option (Nat × Int32) :=
  fX7_pass_2 1000 t_place t_file_size t_file_bytes v0 0
def fX7_little_4 : Nat → Int32 → Int32 → (Nat → Int32) → Int32 → Int32 → Int32 → Option (Nat × Int32 × Int32)
  | 0, _, _, _, _, _, _ => none
  | n + 1, t_place, t_file_size, t_file_bytes, l1, l2, l3 =>
    if l1 ≤ l3 then
      some (0, l2, t_place)
    else
      zb3 (fX7_next t_place t_file_size t_file_bytes) fun tg2 r3 u4 =>
      if tg2 = 0 then
        zlet (l2 ||| (zshl r3 (8 * l3))) fun x6 =>
        zlet (l3 + 1) fun x7 =>
        (fX7_little_4 n) u4 t_file_size t_file_bytes l1 x6 x7
      else
        some (tg2, 0, u4)
theorem fX7_little_4_s (n : Nat) (t_place : Int32) (t_file_size : Int32) (t_file_bytes : Nat → Int32) (l1 : Int32) (l2 : Int32) (l3 : Int32) : fX7_little_4 (n + 1) t_place t_file_size t_file_bytes l1 l2 l3 =
    if l1 ≤ l3 then
      some (0, l2, t_place)
    else
      zb3 (fX7_next t_place t_file_size t_file_bytes) fun tg2 r3 u4 =>
      if tg2 = 0 then
        zlet (l2 ||| (zshl r3 (8 * l3))) fun x6 =>
        zlet (l3 + 1) fun x7 =>
        (fX7_little_4 n) u4 t_file_size t_file_bytes l1 x6 x7
      else
        some (tg2, 0, u4) := rfl
def fX7_little (t_place : Int32) (t_file_size : Int32) (t_file_bytes : Nat → Int32) (v0 : Int32) : Option (Nat × Int32 × Int32) :=
  fX7_little_4 1000 t_place t_file_size t_file_bytes v0 0 0
def fX7_big_4 : Nat → Int32 → Int32 → (Nat → Int32) → Int32 → Int32 → Int32 → Option (Nat × Int32 × Int32)
  | 0, _, _, _, _, _, _ => none
  | n + 1, t_place, t_file_size, t_file_bytes, l1, l2, l3 =>
    if l1 ≤ l3 then
      some (0, l2, t_place)
    else
      zb3 (fX7_next t_place t_file_size t_file_bytes) fun tg2 r3 u4 =>
      if tg2 = 0 then
        zlet ((zshl l2 8) ||| r3) fun x6 =>
        zlet (l3 + 1) fun x7 =>
        (fX7_big_4 n) u4 t_file_size t_file_bytes l1 x6 x7
      else
        some (tg2, 0, u4)
theorem fX7_big_4_s (n : Nat) (t_place : Int32) (t_file_size : Int32) (t_file_bytes : Nat → Int32) (l1 : Int32) (l2 : Int32) (l3 : Int32) : fX7_big_4 (n + 1) t_place t_file_size t_file_bytes l1 l2 l3 =
    if l1 ≤ l3 then
      some (0, l2, t_place)
    else
      zb3 (fX7_next t_place t_file_size t_file_bytes) fun tg2 r3 u4 =>
      if tg2 = 0 then
        zlet ((zshl l2 8) ||| r3) fun x6 =>
        zlet (l3 + 1) fun x7 =>
        (fX7_big_4 n) u4 t_file_size t_file_bytes l1 x6 x7
      else
        some (tg2, 0, u4) := rfl
def fX7_big (t_place : Int32) (t_file_size : Int32) (t_file_bytes : Nat → Int32) (v0 : Int32) : Option (Nat × Int32 × Int32) :=
  fX7_big_4 1000 t_place t_file_size t_file_bytes v0 0 0
def fX7_blueGreenRed (t_place : Int32) (t_file_size : Int32) (t_file_bytes : Nat → Int32) : Option (Nat × Int32 × Int32) :=
  zb3 (fX7_next t_place t_file_size t_file_bytes) fun tg1 r2 u3 =>
  if tg1 = 0 then
    zb3 (fX7_next u3 t_file_size t_file_bytes) fun tg5 r6 u7 =>
    if tg5 = 0 then
      zb3 (fX7_next u7 t_file_size t_file_bytes) fun tg9 r10 u11 =>
      if tg9 = 0 then
        zb1 (fX8_colour r10 r6 r2 255) fun r13 =>
        some (0, r13, u11)
      else
        some (tg9, 0, u11)
    else
      some (tg5, 0, u7)
  else
    some (tg1, 0, u3)
def rmX7_peek : Room := { frames := 0, cells := 0, slots := 0, locals := 0 }
theorem kX7_peek_7 {args : Array Value} {s : State} (h : ∀ w ∈ wsX7_peek, w.before args s = true) : (Cond.fieldLink RX7 7 "FourPictureFiles$Source" "file" "LFourPictureFiles$FileRow;").before args s = true := h _ (by decide +kernel)
theorem kX7_peek_13 {args : Array Value} {s : State} (h : ∀ w ∈ wsX7_peek, w.before args s = true) : (Cond.fieldLink RX7 13 "FourPictureFiles$Source" "place" "I").before args s = true := h _ (by decide +kernel)
theorem iX7_peek_X2 : ∀ w ∈ u_ws RX2 TX2 2, w ∈ wsX7_peek := by decide +kernel
theorem iX7_peek_X7 : ∀ w ∈ u_ws RX7 TX7 2, w ∈ wsX7_peek := by decide +kernel
set_option maxHeartbeats 4000000 in
set_option maxRecDepth 100000 in
theorem wX7_peek_0 {p : Program} {l : Launch} {e : Env} {s : State} {m : MethodId} {args : Array Value} {below : List Frame} {meth : Method} {c : Code} {D : va_G} {A : Nat → Prop} {Q : State → Prop} {cI : ClassId} {h_t h_t_file h_t_file_bytes : Nat} {t_place : Int32} {t_file_size : Int32} {t_file_bytes : Nat → Int32} {r0 : Int32} (C : CallFix p m c cX7_peek 1 s args wsX7_peek RX7) (hN : zN s) (hK : va_K D vwCl [(cI, .int)] s) (hA : ∀ q, s.heap.size ≤ q → A q) (hE : zEi p l e rmX7_peek s m args below meth c cX7_peek D A Q (zwX7 cI h_t h_t_file h_t_file_bytes t_place t_file_size t_file_bytes) r0) {H : Heap} {locs : List Loc} {ls : Array Slot} : fX7_peek t_place t_file_size t_file_bytes = some r0 → va_P D vwCl (zwX7 cI h_t h_t_file h_t_file_bytes t_place t_file_size t_file_bytes) H → va_D A (zwX7 cI h_t h_t_file h_t_file_bytes t_place t_file_size t_file_bytes) → va_S A s.heap H locs → lv_has ls 1 [(0, .ref h_t)] → W p l e rmX7_peek s m args below meth c H locs 0 0 Q (F0 m 0 ls []) := by
  intro hf hP hD hS hl
  obtain ⟨hx, hb, hml, hown, hts⟩ := id C
  unfold fX7_peek at hf
  refine lv_aload_n hx hb dX7_peek_0 rfl (lv_at hl 0 rfl) ?_
  refine va_get (D := D) (ci := 6) (v := .int t_place) (C := RX7) (T := TX7) (N := 2) hx hb hts iX7_peek_X7 hown hK hP 0 rfl rfl 1 (by decide) (kX7_peek_13 hts) (fun _ h9 => h9) rfl dX7_peek_1 ?_
  refine lv_aload_n hx hb dX7_peek_4 rfl (lv_at hl 0 rfl) ?_
  refine va_get (D := D) (ci := 6) (v := .ref h_t_file) (C := RX7) (T := TX7) (N := 2) hx hb hts iX7_peek_X7 hown hK hP 0 rfl rfl 0 (by decide) (kX7_peek_7 hts) (fun _ h9 => h9) rfl dX7_peek_5 ?_
  refine va_getN (D := D) (ci := 2) (v := .int t_file_size) (C := RX2) (T := TX2) (N := 2) hx hb hts iX7_peek_X2 hown hK hP 1 rfl rfl 1 (by decide) (hN.at 17 rfl) (fun _ h9 => h9) rfl dX7_peek_8 ?_
  refine lv_icmp_ge (tgt := 29) hx hb dX7_peek_11 (by decide) (fun c1 => ?_) (fun c1 => ?_)
  · replace hf := zif_t hf c1
    refine lv_iconst (v := (-1)) hx hb dX7_peek_29 (by decide) ?_
    cases hf
    exact hE _ _ _ _ dX7_peek_30 hP hD hS
  · replace hf := zif_f hf c1
    refine lv_aload_n hx hb dX7_peek_14 rfl (lv_at hl 0 rfl) ?_
    refine va_get (D := D) (ci := 6) (v := .ref h_t_file) (C := RX7) (T := TX7) (N := 2) hx hb hts iX7_peek_X7 hown hK hP 0 rfl rfl 0 (by decide) (kX7_peek_7 hts) (fun _ h9 => h9) rfl dX7_peek_15 ?_
    refine va_getN (D := D) (ci := 2) (v := .ref h_t_file_bytes) (C := RX2) (T := TX2) (N := 2) hx hb hts iX7_peek_X2 hown hK hP 1 rfl rfl 0 (by decide) (hN.at 13 rfl) (fun _ h9 => h9) rfl dX7_peek_18 ?_
    refine lv_aload_n hx hb dX7_peek_21 rfl (lv_at hl 0 rfl) ?_
    refine va_get (D := D) (ci := 6) (v := .int t_place) (C := RX7) (T := TX7) (N := 2) hx hb hts iX7_peek_X7 hown hK hP 0 rfl rfl 1 (by decide) (kX7_peek_13 hts) (fun _ h9 => h9) rfl dX7_peek_22 ?_
    obtain ⟨hg3, hf⟩ := zrd_in hf
    refine va_iald hx hb hK hP 2 0 rfl rfl hg3 dX7_peek_25 ?_
    refine lv_topi (fun x2 ex2 => ?_)
    replace hf := hf x2 ex2
    clear ex2
    refine lv_goto (tgt := 30) hx hb dX7_peek_26 (by decide) ?_
    cases hf
    exact hE _ _ _ _ dX7_peek_30 hP hD hS
set_option maxHeartbeats 4000000 in
set_option maxRecDepth 100000 in
theorem mX7_peek (l : Launch) (D : va_G) (cI : ClassId) (sz : Nat) (h_t h_t_file h_t_file_bytes : Nat) (t_place : Int32) (t_file_size : Int32) (t_file_bytes : Nat → Int32) (r0 : Int32) (hf : fX7_peek t_place t_file_size t_file_bytes = some r0) : Met l yX7_peek wsX7_peek rmX7_peek (va_Pc [.ref h_t] (zP D [(cI, .int)] (zwX7 cI h_t h_t_file h_t_file_bytes t_place t_file_size t_file_bytes) sz)) (zQi D (zwX7 cI h_t h_t_file h_t_file_bytes t_place t_file_size t_file_bytes) sz r0 (zwX7 cI h_t h_t_file h_t_file_bytes t_place t_file_size t_file_bytes)) 0 0 (va_A (zwX7 cI h_t h_t_file h_t_file_bytes t_place t_file_size t_file_bytes) sz) := by
  refine Met.ofW (cc := cX7_peek) (maxL := 1) (ret := (some .int)) (by decide) rfl ?_
  intro p e s m args below meth c s₁ B hml hv
  obtain ⟨rfl, hsz, hP, hK, hD0, hN⟩ := hv
  subst hsz
  have C : CallFix p m c cX7_peek 1 s [.ref h_t].toArray wsX7_peek RX7 := ⟨B.exec, B.bytes, hml, findClass_of_methodNamed B.named, atoms_spec (ws := wsX7_peek) B.pre⟩
  have hl := lv_entry ([.ref h_t]) (n := 1) (Nat.le_of_ble_eq_true rfl)
  rw [lg_entry_eq]
  exact wX7_peek_0 (A := va_A (zwX7 cI h_t h_t_file h_t_file_bytes t_place t_file_size t_file_bytes) s.heap.size) C hN hK (fun q h => Or.inr h) (fun H locs pc ls d hP hD hS => zend_i C.1 C.2.1 B.returns B.notSynchronized d hP hD hS) hf hP hD0.self va_S.rf hl
def rmX7_isAtEnd : Room := { frames := 0, cells := 0, slots := 0, locals := 0 }
theorem kX7_isAtEnd_7 {args : Array Value} {s : State} (h : ∀ w ∈ wsX7_isAtEnd, w.before args s = true) : (Cond.fieldLink RX7 7 "FourPictureFiles$Source" "file" "LFourPictureFiles$FileRow;").before args s = true := h _ (by decide +kernel)
theorem kX7_isAtEnd_13 {args : Array Value} {s : State} (h : ∀ w ∈ wsX7_isAtEnd, w.before args s = true) : (Cond.fieldLink RX7 13 "FourPictureFiles$Source" "place" "I").before args s = true := h _ (by decide +kernel)
theorem iX7_isAtEnd_X2 : ∀ w ∈ u_ws RX2 TX2 2, w ∈ wsX7_isAtEnd := by decide +kernel
theorem iX7_isAtEnd_X7 : ∀ w ∈ u_ws RX7 TX7 2, w ∈ wsX7_isAtEnd := by decide +kernel
set_option maxHeartbeats 4000000 in
set_option maxRecDepth 100000 in
theorem wX7_isAtEnd_0 {p : Program} {l : Launch} {e : Env} {s : State} {m : MethodId} {args : Array Value} {below : List Frame} {meth : Method} {c : Code} {D : va_G} {A : Nat → Prop} {Q : State → Prop} {cI : ClassId} {h_t h_t_file h_t_file_bytes : Nat} {t_place : Int32} {t_file_size : Int32} {t_file_bytes : Nat → Int32} {r0 : Int32} (C : CallFix p m c cX7_isAtEnd 1 s args wsX7_isAtEnd RX7) (hN : zN s) (hK : va_K D vwCl [(cI, .int)] s) (hA : ∀ q, s.heap.size ≤ q → A q) (hE : zEz p l e rmX7_isAtEnd s m args below meth c cX7_isAtEnd D A Q (zwX7 cI h_t h_t_file h_t_file_bytes t_place t_file_size t_file_bytes) r0) {H : Heap} {locs : List Loc} {ls : Array Slot} : fX7_isAtEnd t_place t_file_size = some r0 → va_P D vwCl (zwX7 cI h_t h_t_file h_t_file_bytes t_place t_file_size t_file_bytes) H → va_D A (zwX7 cI h_t h_t_file h_t_file_bytes t_place t_file_size t_file_bytes) → va_S A s.heap H locs → lv_has ls 1 [(0, .ref h_t)] → W p l e rmX7_isAtEnd s m args below meth c H locs 0 0 Q (F0 m 0 ls []) := by
  intro hf hP hD hS hl
  obtain ⟨hx, hb, hml, hown, hts⟩ := id C
  unfold fX7_isAtEnd at hf
  refine lv_aload_n hx hb dX7_isAtEnd_0 rfl (lv_at hl 0 rfl) ?_
  refine va_get (D := D) (ci := 6) (v := .int t_place) (C := RX7) (T := TX7) (N := 2) hx hb hts iX7_isAtEnd_X7 hown hK hP 0 rfl rfl 1 (by decide) (kX7_isAtEnd_13 hts) (fun _ h9 => h9) rfl dX7_isAtEnd_1 ?_
  refine lv_aload_n hx hb dX7_isAtEnd_4 rfl (lv_at hl 0 rfl) ?_
  refine va_get (D := D) (ci := 6) (v := .ref h_t_file) (C := RX7) (T := TX7) (N := 2) hx hb hts iX7_isAtEnd_X7 hown hK hP 0 rfl rfl 0 (by decide) (kX7_isAtEnd_7 hts) (fun _ h9 => h9) rfl dX7_isAtEnd_5 ?_
  refine va_getN (D := D) (ci := 2) (v := .int t_file_size) (C := RX2) (T := TX2) (N := 2) hx hb hts iX7_isAtEnd_X2 hown hK hP 1 rfl rfl 1 (by decide) (hN.at 17 rfl) (fun _ h9 => h9) rfl dX7_isAtEnd_8 ?_
  refine lv_icmp_lt (tgt := 18) hx hb dX7_isAtEnd_11 (by decide) (fun c1 => ?_) (fun c1 => ?_)
  · replace hf := zif_t hf c1
    refine lv_iconst (v := 0) hx hb dX7_isAtEnd_18 (by decide) ?_
    cases hf
    exact hE _ _ _ _ dX7_isAtEnd_19 rfl hP hD hS
  · replace hf := zif_f hf c1
    refine lv_iconst (v := 1) hx hb dX7_isAtEnd_14 (by decide) ?_
    refine lv_goto (tgt := 19) hx hb dX7_isAtEnd_15 (by decide) ?_
    cases hf
    exact hE _ _ _ _ dX7_isAtEnd_19 rfl hP hD hS
set_option maxHeartbeats 4000000 in
set_option maxRecDepth 100000 in
theorem mX7_isAtEnd (l : Launch) (D : va_G) (cI : ClassId) (sz : Nat) (h_t h_t_file h_t_file_bytes : Nat) (t_place : Int32) (t_file_size : Int32) (t_file_bytes : Nat → Int32) (r0 : Int32) (hf : fX7_isAtEnd t_place t_file_size = some r0) : Met l yX7_isAtEnd wsX7_isAtEnd rmX7_isAtEnd (va_Pc [.ref h_t] (zP D [(cI, .int)] (zwX7 cI h_t h_t_file h_t_file_bytes t_place t_file_size t_file_bytes) sz)) (zQi D (zwX7 cI h_t h_t_file h_t_file_bytes t_place t_file_size t_file_bytes) sz r0 (zwX7 cI h_t h_t_file h_t_file_bytes t_place t_file_size t_file_bytes)) 0 0 (va_A (zwX7 cI h_t h_t_file h_t_file_bytes t_place t_file_size t_file_bytes) sz) := by
  refine Met.ofW (cc := cX7_isAtEnd) (maxL := 1) (ret := (some .boolean)) (by decide) rfl ?_
  intro p e s m args below meth c s₁ B hml hv
  obtain ⟨rfl, hsz, hP, hK, hD0, hN⟩ := hv
  subst hsz
  have C : CallFix p m c cX7_isAtEnd 1 s [.ref h_t].toArray wsX7_isAtEnd RX7 := ⟨B.exec, B.bytes, hml, findClass_of_methodNamed B.named, atoms_spec (ws := wsX7_isAtEnd) B.pre⟩
  have hl := lv_entry ([.ref h_t]) (n := 1) (Nat.le_of_ble_eq_true rfl)
  rw [lg_entry_eq]
  exact wX7_isAtEnd_0 (A := va_A (zwX7 cI h_t h_t_file h_t_file_bytes t_place t_file_size t_file_bytes) s.heap.size) C hN hK (fun q h => Or.inr h) (fun H locs pc ls d hn hP hD hS => zend_z C.1 C.2.1 B.returns B.notSynchronized d hn hP hD hS) hf hP hD0.self va_S.rf hl
def rmX7_next (tg : Nat) : Room := { frames := 6, cells := zc tg, slots := zs tg, locals := 82 }
theorem kX7_next_7 {args : Array Value} {s : State} (h : ∀ w ∈ wsX7_next, w.before args s = true) : (Cond.fieldLink RX7 7 "FourPictureFiles$Source" "file" "LFourPictureFiles$FileRow;").before args s = true := h _ (by decide +kernel)
theorem kX7_next_13 {args : Array Value} {s : State} (h : ∀ w ∈ wsX7_next, w.before args s = true) : (Cond.fieldLink RX7 13 "FourPictureFiles$Source" "place" "I").before args s = true := h _ (by decide +kernel)
theorem iX7_next_X2 : ∀ w ∈ u_ws RX2 TX2 2, w ∈ wsX7_next := by decide +kernel
theorem iX7_next_X7 : ∀ w ∈ u_ws RX7 TX7 2, w ∈ wsX7_next := by decide +kernel
theorem zX7_next_at : ∀ w ∈ (vx_atS RX7 26 "java/lang/IllegalStateException" ["java/lang/RuntimeException", "java/lang/Exception"]).filter goodWord, w ∈ wsX7_next := by decide +kernel
theorem zX7_next_ot : ∀ w ∈ Cond.classLink RX7 22 "java/lang/IllegalStateException" :: Cond.initialized "java/lang/IllegalStateException" :: vx_atS RX7 26 "java/lang/IllegalStateException" ["java/lang/RuntimeException", "java/lang/Exception"], vx_ot w = true := by decide +kernel
set_option maxHeartbeats 4000000 in
set_option maxRecDepth 100000 in
theorem wX7_next_0 {p : Program} {l : Launch} {e : Env} {s : State} {m : MethodId} {args : Array Value} {below : List Frame} {meth : Method} {c : Code} {D : va_G} {A : Nat → Prop} {Q : State → Prop} {cI : ClassId} {h_t h_t_file h_t_file_bytes : Nat} {t_file_size : Int32} {t_file_bytes : Nat → Int32} {tg0 : Nat} {r0 : Int32} {zt_place : Int32} (C : CallFix p m c cX7_next 2 s args wsX7_next RX7) (hN : zN s) (hK : va_K D vwCl [(cI, .int)] s) (hA : ∀ q, s.heap.size ≤ q → A q) (hT : zTh A s) (hst : l.stackTraces = false) (hE : zTEi tg0 p l e (rmX7_next tg0) s m args below meth c cX7_next D A Q (zwX7 cI h_t h_t_file h_t_file_bytes zt_place t_file_size t_file_bytes) r0) (hX : zTX tg0 p l e (rmX7_next tg0) s m args below meth c D A Q (zwX7 cI h_t h_t_file h_t_file_bytes zt_place t_file_size t_file_bytes)) (hY : ∀ (H : Heap) (locs : List Loc) (ls : Array Slot), va_P D vwCl (zwX7 cI h_t h_t_file h_t_file_bytes zt_place t_file_size t_file_bytes) H → va_D A (zwX7 cI h_t h_t_file h_t_file_bytes zt_place t_file_size t_file_bytes) → va_S A s.heap H locs → ls.size = 2 → tg0 = 1 → W p l e (rmX7_next tg0) s m args below meth c H locs 0 0 Q (F0 m 14 ls [])) {t_place : Int32} {H : Heap} {locs : List Loc} {ls : Array Slot} : fX7_next t_place t_file_size t_file_bytes = some (tg0, r0, zt_place) → va_P D vwCl (zwX7 cI h_t h_t_file h_t_file_bytes t_place t_file_size t_file_bytes) H → va_D A (zwX7 cI h_t h_t_file h_t_file_bytes t_place t_file_size t_file_bytes) → va_S A s.heap H locs → lv_has ls 2 [(0, .ref h_t)] → W p l e (rmX7_next tg0) s m args below meth c H locs 0 0 Q (F0 m 0 ls []) := by
  intro hf hP hD hS hl
  obtain ⟨hx, hb, hml, hown, hts⟩ := id C
  unfold fX7_next at hf
  refine lv_aload_n hx hb dX7_next_0 rfl (lv_at hl 0 rfl) ?_
  refine va_get (D := D) (ci := 6) (v := .int t_place) (C := RX7) (T := TX7) (N := 2) hx hb hts iX7_next_X7 hown hK hP 0 rfl rfl 1 (by decide) (kX7_next_13 hts) (fun _ h9 => h9) rfl dX7_next_1 ?_
  refine lv_aload_n hx hb dX7_next_4 rfl (lv_at hl 0 rfl) ?_
  refine va_get (D := D) (ci := 6) (v := .ref h_t_file) (C := RX7) (T := TX7) (N := 2) hx hb hts iX7_next_X7 hown hK hP 0 rfl rfl 0 (by decide) (kX7_next_7 hts) (fun _ h9 => h9) rfl dX7_next_5 ?_
  refine va_getN (D := D) (ci := 2) (v := .int t_file_size) (C := RX2) (T := TX2) (N := 2) hx hb hts iX7_next_X2 hown hK hP 1 rfl rfl 1 (by decide) (hN.at 17 rfl) (fun _ h9 => h9) rfl dX7_next_8 ?_
  refine lv_icmp_lt (tgt := 24) hx hb dX7_next_11 (by decide) (fun c1 => ?_) (fun c1 => ?_)
  · replace hf := zif_t hf c1
    refine lv_aload_n hx hb dX7_next_24 rfl (lv_at hl 0 rfl) ?_
    refine va_get (D := D) (ci := 6) (v := .ref h_t_file) (C := RX7) (T := TX7) (N := 2) hx hb hts iX7_next_X7 hown hK hP 0 rfl rfl 0 (by decide) (kX7_next_7 hts) (fun _ h9 => h9) rfl dX7_next_25 ?_
    refine va_getN (D := D) (ci := 2) (v := .ref h_t_file_bytes) (C := RX2) (T := TX2) (N := 2) hx hb hts iX7_next_X2 hown hK hP 1 rfl rfl 0 (by decide) (hN.at 13 rfl) (fun _ h9 => h9) rfl dX7_next_28 ?_
    refine lv_aload_n hx hb dX7_next_31 rfl (lv_at hl 0 rfl) ?_
    refine va_get (D := D) (ci := 6) (v := .int t_place) (C := RX7) (T := TX7) (N := 2) hx hb hts iX7_next_X7 hown hK hP 0 rfl rfl 1 (by decide) (kX7_next_13 hts) (fun _ h9 => h9) rfl dX7_next_32 ?_
    obtain ⟨hg3, hf⟩ := zrd_in hf
    refine va_iald hx hb hK hP 2 0 rfl rfl hg3 dX7_next_35 ?_
    refine lv_topi (fun x2 ex2 => ?_)
    replace hf := hf x2 ex2
    clear ex2
    refine lv_istore_n (lv' := [(1, .int x2), (0, .ref h_t)]) hx hb dX7_next_36 rfl hl (by decide) rfl (fun ls hl => ?_)
    refine lv_aload_n hx hb dX7_next_37 rfl (lv_at hl 1 rfl) ?_
    refine lv_dup hx hb dX7_next_38 rfl ?_
    refine va_get (D := D) (ci := 6) (v := .int t_place) (C := RX7) (T := TX7) (N := 2) hx hb hts iX7_next_X7 hown hK hP 0 rfl rfl 1 (by decide) (kX7_next_13 hts) (fun _ h9 => h9) rfl dX7_next_39 ?_
    refine lv_iconst (v := 1) hx hb dX7_next_42 (by decide) ?_
    refine lv_iadd hx hb dX7_next_43 ?_
    refine lv_topi (fun x4 ex4 => ?_)
    replace hf := zlet_in hf ex4
    clear ex4
    refine va_put (D := D) (ci := 6) (v := .int x4) (ty := .int) (C := RX7) (T := TX7) (N := 2) hx hb hts iX7_next_X7 tyX7 tyX7_ok nmX7 hown hK hP hD hS 0 rfl rfl 1 (by decide) (kX7_next_13 hts) (fun _ h9 => h9) rfl (by decide +kernel) rfl rfl (Nat.le_of_ble_eq_true rfl) dX7_next_44 (fun H locs hP hD hS => ?_)
    replace hP : va_P D vwCl (zwX7 cI h_t h_t_file h_t_file_bytes x4 t_file_size t_file_bytes) H := hP
    replace hD : va_D A (zwX7 cI h_t h_t_file h_t_file_bytes x4 t_file_size t_file_bytes) := hD
    refine lv_iload_n hx hb dX7_next_47 rfl (lv_at hl 0 rfl) ?_
    cases hf
    exact hE rfl _ _ _ _ dX7_next_48 hP hD hS
  · replace hf := zif_f hf c1
    cases hf
    exact hY _ _ _ hP hD hS hl.1 rfl
set_option maxHeartbeats 4000000 in
set_option maxRecDepth 100000 in
theorem mX7_next (l : Launch) (hst : l.stackTraces = false) (D : va_G) (cI : ClassId) (sz : Nat) (h_t h_t_file h_t_file_bytes : Nat) (t_place : Int32) (t_file_size : Int32) (t_file_bytes : Nat → Int32) (tg0 : Nat) (r0 : Int32) (zt_place : Int32) (hf : fX7_next t_place t_file_size t_file_bytes = some (tg0, r0, zt_place)) : vx_Met l yX7_next wsX7_next (rmX7_next tg0) (va_Pc [.ref h_t] (zPT D [(cI, .int)] (zwX7 cI h_t h_t_file h_t_file_bytes t_place t_file_size t_file_bytes) sz)) (zQTi D (zwX7 cI h_t h_t_file h_t_file_bytes t_place t_file_size t_file_bytes) sz tg0 r0 (zwX7 cI h_t h_t_file h_t_file_bytes zt_place t_file_size t_file_bytes)) (zXT D (zwX7 cI h_t h_t_file h_t_file_bytes t_place t_file_size t_file_bytes) sz tg0 (zwX7 cI h_t h_t_file h_t_file_bytes zt_place t_file_size t_file_bytes)) (zc tg0) (zs tg0) (va_A (zwX7 cI h_t h_t_file h_t_file_bytes t_place t_file_size t_file_bytes) sz) := by
  refine vx_ofW (cc := cX7_next) (maxL := 2) (ret := (some .int)) (by decide) rfl ?_
  intro p e s m args below meth c s₁ B hml htab hv
  obtain ⟨rfl, ⟨hsz, hP, hK, hD0, hN⟩, hT⟩ := hv
  subst hsz
  have C : CallFix p m c cX7_next 2 s [.ref h_t].toArray wsX7_next RX7 := ⟨B.exec, B.bytes, hml, findClass_of_methodNamed B.named, atoms_spec (ws := wsX7_next) B.pre⟩
  have hl := lv_entry ([.ref h_t]) (n := 2) (Nat.le_of_ble_eq_true rfl)
  rw [lg_entry_eq]
  have hY : ∀ (H : Heap) (locs : List Loc) (ls : Array Slot), va_P D vwCl (zwX7 cI h_t h_t_file h_t_file_bytes zt_place t_file_size t_file_bytes) H → va_D (va_A (zwX7 cI h_t h_t_file h_t_file_bytes t_place t_file_size t_file_bytes) s.heap.size) (zwX7 cI h_t h_t_file h_t_file_bytes zt_place t_file_size t_file_bytes) → va_S (va_A (zwX7 cI h_t h_t_file h_t_file_bytes t_place t_file_size t_file_bytes) s.heap.size) s.heap H locs → ls.size = 2 → tg0 = 1 → W p l e (rmX7_next tg0) s m [.ref h_t].toArray below meth c H locs 0 0 (vx_MQ below (zQTi D (zwX7 cI h_t h_t_file h_t_file_bytes t_place t_file_size t_file_bytes) s.heap.size tg0 r0 (zwX7 cI h_t h_t_file h_t_file_bytes zt_place t_file_size t_file_bytes)) (zXT D (zwX7 cI h_t h_t_file h_t_file_bytes t_place t_file_size t_file_bytes) s.heap.size tg0 (zwX7 cI h_t h_t_file h_t_file_bytes zt_place t_file_size t_file_bytes)) [.ref h_t].toArray s (zc tg0) (zs tg0) (va_A (zwX7 cI h_t h_t_file h_t_file_bytes t_place t_file_size t_file_bytes) s.heap.size)) (F0 m 14 ls []) := by
    intro H locs ls hP hD hS hsz ht
    subst ht
    obtain ⟨sa, hstr⟩ := hT.2.2.1
    have hts := C.2.2.2.2
    exact zthr hst C hts hstr hT.1 hT.2.1 (hts (.classLink RX7 22 "java/lang/IllegalStateException") (by decide +kernel)) (hts (.initialized "java/lang/IllegalStateException") (by decide +kernel)) (vx_hat (B := [.castable "java/lang/IllegalStateException" "java/lang/IllegalStateException", .declares ⟨"java/lang/RuntimeException", "<init>", "(Ljava/lang/String;)V"⟩, .declares ⟨"java/lang/Exception", "<init>", "(Ljava/lang/String;)V"⟩, .declares ⟨"java/lang/Throwable", "<init>", "(Ljava/lang/String;)V"⟩]) (fun w hw => hts w (zX7_next_at w hw)) (by decide +kernel) (vx_c (hN.at 65 rfl) (vx_c (hN.at 67 rfl) (vx_c (hN.at 68 rfl) (vx_c (hN.at 69 rfl) vx_n))))) zX7_next_ot (by decide +kernel) (by decide +kernel) hP hD hS hsz dX7_next_14 dX7_next_17 dX7_next_18 dX7_next_20 dX7_next_23 htab B.notSynchronized (Nat.le_of_ble_eq_true rfl) (Nat.le_of_ble_eq_true rfl) rfl rfl rfl (by decide)
  exact wX7_next_0 (A := va_A (zwX7 cI h_t h_t_file h_t_file_bytes t_place t_file_size t_file_bytes) s.heap.size) C hN hK (fun q h => Or.inr h) hT hst (fun h0 H locs pc ls d hP hD hS => zendT_i C.1 C.2.1 B.returns B.notSynchronized h0 d hP hD hS) (fun H locs pc ls rest q9 ce h0 hP hD hS hq hv hcl => zoutT htab B.notSynchronized h0 hP hD hS hq hv hcl) hY hf hP hD0.self va_S.rf hl
def rmX7_need (tg : Nat) : Room := { frames := 6, cells := zc tg, slots := zs tg, locals := 82 }
theorem zX7_need_at : ∀ w ∈ (vx_atS RX7 37 "java/lang/IllegalArgumentException" ["java/lang/RuntimeException", "java/lang/Exception"]).filter goodWord, w ∈ wsX7_need := by decide +kernel
theorem zX7_need_ot : ∀ w ∈ Cond.classLink RX7 33 "java/lang/IllegalArgumentException" :: Cond.initialized "java/lang/IllegalArgumentException" :: vx_atS RX7 37 "java/lang/IllegalArgumentException" ["java/lang/RuntimeException", "java/lang/Exception"], vx_ot w = true := by decide +kernel
set_option maxHeartbeats 4000000 in
set_option maxRecDepth 100000 in
theorem wX7_need_0 {p : Program} {l : Launch} {e : Env} {s : State} {m : MethodId} {args : Array Value} {below : List Frame} {meth : Method} {c : Code} {D : va_G} {A : Nat → Prop} {Q : State → Prop} {cI : ClassId} {h_t h_t_file h_t_file_bytes : Nat} {t_place : Int32} {t_file_size : Int32} {t_file_bytes : Nat → Int32} {tg0 : Nat} (C : CallFix p m c cX7_need 2 s args wsX7_need RX7) (hN : zN s) (hK : va_K D vwCl [(cI, .int)] s) (hA : ∀ q, s.heap.size ≤ q → A q) (hT : zTh A s) (hst : l.stackTraces = false) (hE : zTEv tg0 p l e (rmX7_need tg0) s m args below meth c cX7_need D A Q (zwX7 cI h_t h_t_file h_t_file_bytes t_place t_file_size t_file_bytes)) (hX : zTX tg0 p l e (rmX7_need tg0) s m args below meth c D A Q (zwX7 cI h_t h_t_file h_t_file_bytes t_place t_file_size t_file_bytes)) (hY : ∀ (H : Heap) (locs : List Loc) (ls : Array Slot), va_P D vwCl (zwX7 cI h_t h_t_file h_t_file_bytes t_place t_file_size t_file_bytes) H → va_D A (zwX7 cI h_t h_t_file h_t_file_bytes t_place t_file_size t_file_bytes) → va_S A s.heap H locs → ls.size = 2 → tg0 = 2 → W p l e (rmX7_need tg0) s m args below meth c H locs 0 0 Q (F0 m 4 ls [])) {v0 : Int32} {H : Heap} {locs : List Loc} {ls : Array Slot} : fX7_need v0 = some tg0 → va_P D vwCl (zwX7 cI h_t h_t_file h_t_file_bytes t_place t_file_size t_file_bytes) H → va_D A (zwX7 cI h_t h_t_file h_t_file_bytes t_place t_file_size t_file_bytes) → va_S A s.heap H locs → lv_has ls 2 [(0, .ref h_t), (1, .int v0)] → W p l e (rmX7_need tg0) s m args below meth c H locs 0 0 Q (F0 m 0 ls []) := by
  intro hf hP hD hS hl
  obtain ⟨hx, hb, hml, hown, hts⟩ := id C
  unfold fX7_need at hf
  refine lv_iload_n hx hb dX7_need_0 rfl (lv_at hl 1 rfl) ?_
  refine lv_if_ne (tgt := 14) hx hb dX7_need_1 (by decide) (fun c1 => ?_) (fun c1 => ?_)
  · replace hf := zif_f hf c1
    cases hf
    exact hE rfl _ _ _ _ dX7_need_14 hP hD hS
  · replace hf := zif_t hf c1
    cases hf
    exact hY _ _ _ hP hD hS hl.1 rfl
set_option maxHeartbeats 4000000 in
set_option maxRecDepth 100000 in
theorem mX7_need (l : Launch) (hst : l.stackTraces = false) (D : va_G) (cI : ClassId) (sz : Nat) (h_t h_t_file h_t_file_bytes : Nat) (t_place : Int32) (t_file_size : Int32) (t_file_bytes : Nat → Int32) (v0 : Int32) (tg0 : Nat) (hf : fX7_need v0 = some tg0) : vx_Met l yX7_need wsX7_need (rmX7_need tg0) (va_Pc [.ref h_t, .int v0] (zPT D [(cI, .int)] (zwX7 cI h_t h_t_file h_t_file_bytes t_place t_file_size t_file_bytes) sz)) (zQTv D (zwX7 cI h_t h_t_file h_t_file_bytes t_place t_file_size t_file_bytes) sz tg0 (zwX7 cI h_t h_t_file h_t_file_bytes t_place t_file_size t_file_bytes)) (zXT D (zwX7 cI h_t h_t_file h_t_file_bytes t_place t_file_size t_file_bytes) sz tg0 (zwX7 cI h_t h_t_file h_t_file_bytes t_place t_file_size t_file_bytes)) (zc tg0) (zs tg0) (va_A (zwX7 cI h_t h_t_file h_t_file_bytes t_place t_file_size t_file_bytes) sz) := by
  refine vx_ofW (cc := cX7_need) (maxL := 2) (ret := none) (by decide) rfl ?_
  intro p e s m args below meth c s₁ B hml htab hv
  obtain ⟨rfl, ⟨hsz, hP, hK, hD0, hN⟩, hT⟩ := hv
  subst hsz
  have C : CallFix p m c cX7_need 2 s [.ref h_t, .int v0].toArray wsX7_need RX7 := ⟨B.exec, B.bytes, hml, findClass_of_methodNamed B.named, atoms_spec (ws := wsX7_need) B.pre⟩
  have hl := lv_entry ([.ref h_t, .int v0]) (n := 2) (Nat.le_of_ble_eq_true rfl)
  rw [lg_entry_eq]
  have hY : ∀ (H : Heap) (locs : List Loc) (ls : Array Slot), va_P D vwCl (zwX7 cI h_t h_t_file h_t_file_bytes t_place t_file_size t_file_bytes) H → va_D (va_A (zwX7 cI h_t h_t_file h_t_file_bytes t_place t_file_size t_file_bytes) s.heap.size) (zwX7 cI h_t h_t_file h_t_file_bytes t_place t_file_size t_file_bytes) → va_S (va_A (zwX7 cI h_t h_t_file h_t_file_bytes t_place t_file_size t_file_bytes) s.heap.size) s.heap H locs → ls.size = 2 → tg0 = 2 → W p l e (rmX7_need tg0) s m [.ref h_t, .int v0].toArray below meth c H locs 0 0 (vx_MQ below (zQTv D (zwX7 cI h_t h_t_file h_t_file_bytes t_place t_file_size t_file_bytes) s.heap.size tg0 (zwX7 cI h_t h_t_file h_t_file_bytes t_place t_file_size t_file_bytes)) (zXT D (zwX7 cI h_t h_t_file h_t_file_bytes t_place t_file_size t_file_bytes) s.heap.size tg0 (zwX7 cI h_t h_t_file h_t_file_bytes t_place t_file_size t_file_bytes)) [.ref h_t, .int v0].toArray s (zc tg0) (zs tg0) (va_A (zwX7 cI h_t h_t_file h_t_file_bytes t_place t_file_size t_file_bytes) s.heap.size)) (F0 m 4 ls []) := by
    intro H locs ls hP hD hS hsz ht
    subst ht
    obtain ⟨sa, hstr⟩ := hT.2.2.2
    have hts := C.2.2.2.2
    exact zthr hst C hts hstr hT.1 hT.2.1 (hts (.classLink RX7 33 "java/lang/IllegalArgumentException") (by decide +kernel)) (hts (.initialized "java/lang/IllegalArgumentException") (by decide +kernel)) (vx_hat (B := [.castable "java/lang/IllegalArgumentException" "java/lang/IllegalArgumentException", .declares ⟨"java/lang/RuntimeException", "<init>", "(Ljava/lang/String;)V"⟩, .declares ⟨"java/lang/Exception", "<init>", "(Ljava/lang/String;)V"⟩, .declares ⟨"java/lang/Throwable", "<init>", "(Ljava/lang/String;)V"⟩]) (fun w hw => hts w (zX7_need_at w hw)) (by decide +kernel) (vx_c (hN.at 66 rfl) (vx_c (hN.at 67 rfl) (vx_c (hN.at 68 rfl) (vx_c (hN.at 69 rfl) vx_n))))) zX7_need_ot (by decide +kernel) (by decide +kernel) hP hD hS hsz dX7_need_4 dX7_need_7 dX7_need_8 dX7_need_10 dX7_need_13 htab B.notSynchronized (Nat.le_of_ble_eq_true rfl) (Nat.le_of_ble_eq_true rfl) rfl rfl rfl (by decide)
  exact wX7_need_0 (A := va_A (zwX7 cI h_t h_t_file h_t_file_bytes t_place t_file_size t_file_bytes) s.heap.size) C hN hK (fun q h => Or.inr h) hT hst (fun h0 H locs pc ls d hP hD hS => zendT_v C.1 C.2.1 B.returns B.notSynchronized h0 d hP hD hS) (fun H locs pc ls rest q9 ce h0 hP hD hS hq hv hcl => zoutT htab B.notSynchronized h0 hP hD hS hq hv hcl) hY hf hP hD0.self va_S.rf hl
def rmX7_needSide (tg : Nat) : Room := { frames := 7, cells := zc tg, slots := zs tg, locals := 103 }
theorem qX7_needSide_X7_need_44 {args : Array Value} {s : State} {tg0 : Nat} {tg : Nat} (hts : ∀ w ∈ wsX7_needSide, w.before args s = true) : CallW (rmX7_needSide tg0) s args RX7 RX7 44 yX7_need cX7_need 2 none wsX7_need (rmX7_need tg) (zc tg) (zs tg) 1 := cwV 1 hts gX7_needSide_X7_need rfl rfl rfl (by decide +kernel) ⟨Nat.le_of_ble_eq_true rfl, Nat.le_of_ble_eq_true rfl⟩
theorem qX7_needSide_X8_isSide_38 {args : Array Value} {s : State} {tg0 : Nat} (hts : ∀ w ∈ wsX7_needSide, w.before args s = true) (hN : zN s) : va_CN (rmX7_needSide tg0) s args RX7 38 yX8_isSide RX8 cX8_isSide 1 (some .boolean) wsX8_isSide rmX8_isSide 0 0 1 ∧ (Cond.static yX8_isSide).before args s = true ∧ True := ⟨va_cnB 1 hts gX7_needSide_X8_isSide_n38 rfl rfl rfl (hN.nw 52 rfl) (hts (.initialized RX8) (by decide +kernel)) (by decide +kernel) ⟨Nat.le_of_ble_eq_true rfl, Nat.le_of_ble_eq_true rfl⟩, hts (.static yX8_isSide) (by decide +kernel), trivial⟩
set_option maxHeartbeats 4000000 in
set_option maxRecDepth 100000 in
theorem wX7_needSide_0 {p : Program} {l : Launch} {e : Env} {s : State} {m : MethodId} {args : Array Value} {below : List Frame} {meth : Method} {c : Code} {D : va_G} {A : Nat → Prop} {Q : State → Prop} {cI : ClassId} {h_t h_t_file h_t_file_bytes : Nat} {t_place : Int32} {t_file_size : Int32} {t_file_bytes : Nat → Int32} {tg0 : Nat} {r0 : Int32} (C : CallFix p m c cX7_needSide 2 s args wsX7_needSide RX7) (hN : zN s) (hK : va_K D vwCl [(cI, .int)] s) (hA : ∀ q, s.heap.size ≤ q → A q) (hT : zTh A s) (hst : l.stackTraces = false) (hE : zTEi tg0 p l e (rmX7_needSide tg0) s m args below meth c cX7_needSide D A Q (zwX7 cI h_t h_t_file h_t_file_bytes t_place t_file_size t_file_bytes) r0) (hX : zTX tg0 p l e (rmX7_needSide tg0) s m args below meth c D A Q (zwX7 cI h_t h_t_file h_t_file_bytes t_place t_file_size t_file_bytes)) {v0 : Int32} {H : Heap} {locs : List Loc} {ls : Array Slot} : fX7_needSide v0 = some (tg0, r0) → va_P D vwCl (zwX7 cI h_t h_t_file h_t_file_bytes t_place t_file_size t_file_bytes) H → va_D A (zwX7 cI h_t h_t_file h_t_file_bytes t_place t_file_size t_file_bytes) → va_S A s.heap H locs → lv_has ls 2 [(0, .ref h_t), (1, .int v0)] → W p l e (rmX7_needSide tg0) s m args below meth c H locs 0 0 Q (F0 m 0 ls []) := by
  intro hf hP hD hS hl
  obtain ⟨hx, hb, hml, hown, hts⟩ := id C
  unfold fX7_needSide at hf
  refine lv_aload_n hx hb dX7_needSide_0 rfl (lv_at hl 0 rfl) ?_
  refine lv_iload_n hx hb dX7_needSide_1 rfl (lv_at hl 1 rfl) ?_
  obtain ⟨r1, hc2, hf⟩ := zb1_in hf
  refine zc_i (va_runSN (As := [.int v0]) (rest := [.ref h_t]) C (mX8_isSide l D cI H.size v0 r1 hc2) (qX7_needSide_X8_isSide_38 hts hN) ⟨zP_blind, zpre hK hN hP hD [] rfl rfl⟩ rfl rfl hl.1 rfl (lv_room (Nat.le_of_ble_eq_true rfl)) dX7_needSide_2 ⟨Nat.zero_le _, Nat.zero_le _⟩) hP hD hS hA [] [0, 1, 2] [0, 1, 2] (ws' := zwX7 cI h_t h_t_file h_t_file_bytes t_place t_file_size t_file_bytes) rfl rfl rfl rfl rfl rfl (fun H locs hP hD hS => ?_)
  obtain ⟨tg3, hc4, hf⟩ := zb1_in hf
  have hle := zT_le hf
  refine zcx_v (vx_runV (As := [.int r1]) (rest := []) C (mX7_need l hst D cI H.size h_t h_t_file h_t_file_bytes t_place t_file_size t_file_bytes r1 tg3 hc4) (qX7_needSide_X7_need_44 hts) ⟨zPT_blind, va_recv hK hP (ci := 6) (q0 := 0) rfl rfl, zpreT hK hN hT hA hS hP hD [0, 1, 2] rfl rfl⟩ rfl rfl hl.1 rfl (lv_room (Nat.le_of_ble_eq_true rfl)) dX7_needSide_5 hle) hP hD hS hA [0, 1, 2] [] [0, 1, 2] (ws' := zwX7 cI h_t h_t_file h_t_file_bytes t_place t_file_size t_file_bytes) rfl rfl rfl rfl rfl rfl (fun ht H locs q9 ce hP hD hS hq hv hcl => ?_) (fun ht H locs hP hD hS => ?_)
  · replace hf := zif_f hf ht
    cases hf
    exact hX _ _ _ _ _ _ _ ht hP hD hS hq hv hcl
  · replace hf := zif_t hf ht
    clear hle
    refine lv_iload_n hx hb dX7_needSide_8 rfl (lv_at hl 1 rfl) ?_
    cases hf
    exact hE rfl _ _ _ _ dX7_needSide_9 hP hD hS
set_option maxHeartbeats 4000000 in
set_option maxRecDepth 100000 in
theorem mX7_needSide (l : Launch) (hst : l.stackTraces = false) (D : va_G) (cI : ClassId) (sz : Nat) (h_t h_t_file h_t_file_bytes : Nat) (t_place : Int32) (t_file_size : Int32) (t_file_bytes : Nat → Int32) (v0 : Int32) (tg0 : Nat) (r0 : Int32) (hf : fX7_needSide v0 = some (tg0, r0)) : vx_Met l yX7_needSide wsX7_needSide (rmX7_needSide tg0) (va_Pc [.ref h_t, .int v0] (zPT D [(cI, .int)] (zwX7 cI h_t h_t_file h_t_file_bytes t_place t_file_size t_file_bytes) sz)) (zQTi D (zwX7 cI h_t h_t_file h_t_file_bytes t_place t_file_size t_file_bytes) sz tg0 r0 (zwX7 cI h_t h_t_file h_t_file_bytes t_place t_file_size t_file_bytes)) (zXT D (zwX7 cI h_t h_t_file h_t_file_bytes t_place t_file_size t_file_bytes) sz tg0 (zwX7 cI h_t h_t_file h_t_file_bytes t_place t_file_size t_file_bytes)) (zc tg0) (zs tg0) (va_A (zwX7 cI h_t h_t_file h_t_file_bytes t_place t_file_size t_file_bytes) sz) := by
  refine vx_ofW (cc := cX7_needSide) (maxL := 2) (ret := (some .int)) (by decide) rfl ?_
  intro p e s m args below meth c s₁ B hml htab hv
  obtain ⟨rfl, ⟨hsz, hP, hK, hD0, hN⟩, hT⟩ := hv
  subst hsz
  have C : CallFix p m c cX7_needSide 2 s [.ref h_t, .int v0].toArray wsX7_needSide RX7 := ⟨B.exec, B.bytes, hml, findClass_of_methodNamed B.named, atoms_spec (ws := wsX7_needSide) B.pre⟩
  have hl := lv_entry ([.ref h_t, .int v0]) (n := 2) (Nat.le_of_ble_eq_true rfl)
  rw [lg_entry_eq]
  exact wX7_needSide_0 (A := va_A (zwX7 cI h_t h_t_file h_t_file_bytes t_place t_file_size t_file_bytes) s.heap.size) C hN hK (fun q h => Or.inr h) hT hst (fun h0 H locs pc ls d hP hD hS => zendT_i C.1 C.2.1 B.returns B.notSynchronized h0 d hP hD hS) (fun H locs pc ls rest q9 ce h0 hP hD hS hq hv hcl => zoutT htab B.notSynchronized h0 hP hD hS hq hv hcl) hf hP hD0.self va_S.rf hl
def rmX7_pass (tg : Nat) : Room := { frames := 7, cells := zc tg, slots := zs tg, locals := 103 }
theorem qX7_pass_X7_next_48 {args : Array Value} {s : State} {tg0 : Nat} {tg : Nat} (hts : ∀ w ∈ wsX7_pass, w.before args s = true) : CallW (rmX7_pass tg0) s args RX7 RX7 48 yX7_next cX7_next 2 (some .int) wsX7_next (rmX7_next tg) (zc tg) (zs tg) 0 := cwV 0 hts gX7_pass_X7_next rfl rfl rfl (by decide +kernel) ⟨Nat.le_of_ble_eq_true rfl, Nat.le_of_ble_eq_true rfl⟩
set_option maxHeartbeats 4000000 in
set_option maxRecDepth 100000 in
theorem wX7_pass_2 {p : Program} {l : Launch} {e : Env} {s : State} {m : MethodId} {args : Array Value} {below : List Frame} {meth : Method} {c : Code} {D : va_G} {A : Nat → Prop} {Q : State → Prop} {cI : ClassId} {h_t h_t_file h_t_file_bytes : Nat} {t_file_size : Int32} {t_file_bytes : Nat → Int32} {tg0 : Nat} {zt_place : Int32} (C : CallFix p m c cX7_pass 3 s args wsX7_pass RX7) (hN : zN s) (hK : va_K D vwCl [(cI, .int)] s) (hA : ∀ q, s.heap.size ≤ q → A q) (hT : zTh A s) (hst : l.stackTraces = false) (hE : zTEv tg0 p l e (rmX7_pass tg0) s m args below meth c cX7_pass D A Q (zwX7 cI h_t h_t_file h_t_file_bytes zt_place t_file_size t_file_bytes)) (hX : zTX tg0 p l e (rmX7_pass tg0) s m args below meth c D A Q (zwX7 cI h_t h_t_file h_t_file_bytes zt_place t_file_size t_file_bytes)) (n : Nat) : ∀ {t_place : Int32} {l1 : Int32} {l2 : Int32} {H : Heap} {locs : List Loc} {ls : Array Slot}, fX7_pass_2 n t_place t_file_size t_file_bytes l1 l2 = some (tg0, zt_place) → va_P D vwCl (zwX7 cI h_t h_t_file h_t_file_bytes t_place t_file_size t_file_bytes) H → va_D A (zwX7 cI h_t h_t_file h_t_file_bytes t_place t_file_size t_file_bytes) → va_S A s.heap H locs → lv_has ls 3 [(0, .ref h_t), (1, .int l1), (2, .int l2)] → W p l e (rmX7_pass tg0) s m args below meth c H locs 0 0 Q (F0 m 2 ls []) := by
  obtain ⟨hx, hb, hml, hown, hts⟩ := id C
  induction n with
  | zero =>
    intro t_place l1 l2 H locs ls hf
    cases hf
  | succ n hr_2 =>
    intro t_place l1 l2 H locs ls hf hP hD hS hl
    rw [fX7_pass_2_s] at hf
    refine lv_iload_n hx hb dX7_pass_2 rfl (lv_at hl 2 rfl) ?_
    refine lv_iload_n hx hb dX7_pass_3 rfl (lv_at hl 1 rfl) ?_
    refine lv_icmp_ge (tgt := 18) hx hb dX7_pass_4 (by decide) (fun c1 => ?_) (fun c1 => ?_)
    · replace hf := zif_t hf c1
      cases hf
      exact hE rfl _ _ _ _ dX7_pass_18 hP hD hS
    · replace hf := zif_f hf c1
      refine lv_aload_n hx hb dX7_pass_7 rfl (lv_at hl 0 rfl) ?_
      obtain ⟨tg2, r3, u4, hc5, hf⟩ := zb3_in hf
      have hle := zT_le hf
      refine zcx_i (vx_runV (As := []) (rest := []) C (mX7_next l hst D cI H.size h_t h_t_file h_t_file_bytes t_place t_file_size t_file_bytes tg2 r3 u4 hc5) (qX7_pass_X7_next_48 hts) ⟨zPT_blind, va_recv hK hP (ci := 6) (q0 := 0) rfl rfl, zpreT hK hN hT hA hS hP hD [0, 1, 2] rfl rfl⟩ rfl rfl hl.1 rfl (lv_room (Nat.le_of_ble_eq_true rfl)) dX7_pass_8 hle) hP hD hS hA [0, 1, 2] [] [0, 1, 2] (ws' := zwX7 cI h_t h_t_file h_t_file_bytes u4 t_file_size t_file_bytes) rfl rfl rfl rfl rfl rfl (fun ht H locs q9 ce hP hD hS hq hv hcl => ?_) (fun ht H locs hP hD hS => ?_)
      · replace hf := zif_f hf ht
        cases hf
        exact hX _ _ _ _ _ _ _ ht hP hD hS hq hv hcl
      · replace hf := zif_t hf ht
        clear hle
        refine lv_pop hx hb dX7_pass_11 rfl ?_
        obtain ⟨x6, ex6⟩ : ∃ y : Int32, y = l2 + 1 := ⟨_, rfl⟩
        replace hf := zlet_in hf ex6
        refine lv_iinc (v := x6) (lv' := [(2, .int x6), (0, .ref h_t), (1, .int l1)]) hx hb dX7_pass_12 hl (k := 2) rfl (by rw [ex6]; rfl) (by decide) rfl (fun ls hl => ?_)
        clear ex6
        refine lv_goto (tgt := 2) hx hb dX7_pass_15 (by decide) ?_
        exact hr_2 hf hP hD hS (lv_sub hl [1, 2, 0] rfl)
set_option maxHeartbeats 4000000 in
set_option maxRecDepth 100000 in
theorem wX7_pass_0 {p : Program} {l : Launch} {e : Env} {s : State} {m : MethodId} {args : Array Value} {below : List Frame} {meth : Method} {c : Code} {D : va_G} {A : Nat → Prop} {Q : State → Prop} {cI : ClassId} {h_t h_t_file h_t_file_bytes : Nat} {t_file_size : Int32} {t_file_bytes : Nat → Int32} {tg0 : Nat} {zt_place : Int32} (C : CallFix p m c cX7_pass 3 s args wsX7_pass RX7) (hN : zN s) (hK : va_K D vwCl [(cI, .int)] s) (hA : ∀ q, s.heap.size ≤ q → A q) (hT : zTh A s) (hst : l.stackTraces = false) (hE : zTEv tg0 p l e (rmX7_pass tg0) s m args below meth c cX7_pass D A Q (zwX7 cI h_t h_t_file h_t_file_bytes zt_place t_file_size t_file_bytes)) (hX : zTX tg0 p l e (rmX7_pass tg0) s m args below meth c D A Q (zwX7 cI h_t h_t_file h_t_file_bytes zt_place t_file_size t_file_bytes)) {t_place : Int32} {v0 : Int32} {H : Heap} {locs : List Loc} {ls : Array Slot} : fX7_pass t_place t_file_size t_file_bytes v0 = some (tg0, zt_place) → va_P D vwCl (zwX7 cI h_t h_t_file h_t_file_bytes t_place t_file_size t_file_bytes) H → va_D A (zwX7 cI h_t h_t_file h_t_file_bytes t_place t_file_size t_file_bytes) → va_S A s.heap H locs → lv_has ls 3 [(0, .ref h_t), (1, .int v0)] → W p l e (rmX7_pass tg0) s m args below meth c H locs 0 0 Q (F0 m 0 ls []) := by
  intro hf hP hD hS hl
  obtain ⟨hx, hb, hml, hown, hts⟩ := id C
  unfold fX7_pass at hf
  refine lv_iconst (v := 0) hx hb dX7_pass_0 (by decide) ?_
  refine lv_istore_n (lv' := [(2, .int 0), (0, .ref h_t), (1, .int v0)]) hx hb dX7_pass_1 rfl hl (by decide) rfl (fun ls hl => ?_)
  exact wX7_pass_2 C hN hK hA hT hst hE hX 1000 hf hP hD hS (lv_sub hl [1, 2, 0] rfl)
set_option maxHeartbeats 4000000 in
set_option maxRecDepth 100000 in
theorem mX7_pass (l : Launch) (hst : l.stackTraces = false) (D : va_G) (cI : ClassId) (sz : Nat) (h_t h_t_file h_t_file_bytes : Nat) (t_place : Int32) (t_file_size : Int32) (t_file_bytes : Nat → Int32) (v0 : Int32) (tg0 : Nat) (zt_place : Int32) (hf : fX7_pass t_place t_file_size t_file_bytes v0 = some (tg0, zt_place)) : vx_Met l yX7_pass wsX7_pass (rmX7_pass tg0) (va_Pc [.ref h_t, .int v0] (zPT D [(cI, .int)] (zwX7 cI h_t h_t_file h_t_file_bytes t_place t_file_size t_file_bytes) sz)) (zQTv D (zwX7 cI h_t h_t_file h_t_file_bytes t_place t_file_size t_file_bytes) sz tg0 (zwX7 cI h_t h_t_file h_t_file_bytes zt_place t_file_size t_file_bytes)) (zXT D (zwX7 cI h_t h_t_file h_t_file_bytes t_place t_file_size t_file_bytes) sz tg0 (zwX7 cI h_t h_t_file h_t_file_bytes zt_place t_file_size t_file_bytes)) (zc tg0) (zs tg0) (va_A (zwX7 cI h_t h_t_file h_t_file_bytes t_place t_file_size t_file_bytes) sz) := by
  refine vx_ofW (cc := cX7_pass) (maxL := 3) (ret := none) (by decide) rfl ?_
  intro p e s m args below meth c s₁ B hml htab hv
  obtain ⟨rfl, ⟨hsz, hP, hK, hD0, hN⟩, hT⟩ := hv
  subst hsz
  have C : CallFix p m c cX7_pass 3 s [.ref h_t, .int v0].toArray wsX7_pass RX7 := ⟨B.exec, B.bytes, hml, findClass_of_methodNamed B.named, atoms_spec (ws := wsX7_pass) B.pre⟩
  have hl := lv_entry ([.ref h_t, .int v0]) (n := 3) (Nat.le_of_ble_eq_true rfl)
  rw [lg_entry_eq]
  exact wX7_pass_0 (A := va_A (zwX7 cI h_t h_t_file h_t_file_bytes t_place t_file_size t_file_bytes) s.heap.size) C hN hK (fun q h => Or.inr h) hT hst (fun h0 H locs pc ls d hP hD hS => zendT_v C.1 C.2.1 B.returns B.notSynchronized h0 d hP hD hS) (fun H locs pc ls rest q9 ce h0 hP hD hS hq hv hcl => zoutT htab B.notSynchronized h0 hP hD hS hq hv hcl) hf hP hD0.self va_S.rf hl
def rmX7_little (tg : Nat) : Room := { frames := 7, cells := zc tg, slots := zs tg, locals := 103 }
theorem qX7_little_X7_next_48 {args : Array Value} {s : State} {tg0 : Nat} {tg : Nat} (hts : ∀ w ∈ wsX7_little, w.before args s = true) : CallW (rmX7_little tg0) s args RX7 RX7 48 yX7_next cX7_next 2 (some .int) wsX7_next (rmX7_next tg) (zc tg) (zs tg) 0 := cwV 0 hts gX7_little_X7_next rfl rfl rfl (by decide +kernel) ⟨Nat.le_of_ble_eq_true rfl, Nat.le_of_ble_eq_true rfl⟩
set_option maxHeartbeats 4000000 in
set_option maxRecDepth 100000 in
theorem wX7_little_4 {p : Program} {l : Launch} {e : Env} {s : State} {m : MethodId} {args : Array Value} {below : List Frame} {meth : Method} {c : Code} {D : va_G} {A : Nat → Prop} {Q : State → Prop} {cI : ClassId} {h_t h_t_file h_t_file_bytes : Nat} {t_file_size : Int32} {t_file_bytes : Nat → Int32} {tg0 : Nat} {r0 : Int32} {zt_place : Int32} (C : CallFix p m c cX7_little 4 s args wsX7_little RX7) (hN : zN s) (hK : va_K D vwCl [(cI, .int)] s) (hA : ∀ q, s.heap.size ≤ q → A q) (hT : zTh A s) (hst : l.stackTraces = false) (hE : zTEi tg0 p l e (rmX7_little tg0) s m args below meth c cX7_little D A Q (zwX7 cI h_t h_t_file h_t_file_bytes zt_place t_file_size t_file_bytes) r0) (hX : zTX tg0 p l e (rmX7_little tg0) s m args below meth c D A Q (zwX7 cI h_t h_t_file h_t_file_bytes zt_place t_file_size t_file_bytes)) (n : Nat) : ∀ {t_place : Int32} {l1 : Int32} {l2 : Int32} {l3 : Int32} {H : Heap} {locs : List Loc} {ls : Array Slot}, fX7_little_4 n t_place t_file_size t_file_bytes l1 l2 l3 = some (tg0, r0, zt_place) → va_P D vwCl (zwX7 cI h_t h_t_file h_t_file_bytes t_place t_file_size t_file_bytes) H → va_D A (zwX7 cI h_t h_t_file h_t_file_bytes t_place t_file_size t_file_bytes) → va_S A s.heap H locs → lv_has ls 4 [(0, .ref h_t), (1, .int l1), (2, .int l2), (3, .int l3)] → W p l e (rmX7_little tg0) s m args below meth c H locs 0 0 Q (F0 m 4 ls []) := by
  obtain ⟨hx, hb, hml, hown, hts⟩ := id C
  induction n with
  | zero =>
    intro t_place l1 l2 l3 H locs ls hf
    cases hf
  | succ n hr_4 =>
    intro t_place l1 l2 l3 H locs ls hf hP hD hS hl
    rw [fX7_little_4_s] at hf
    refine lv_iload_n hx hb dX7_little_4 rfl (lv_at hl 3 rfl) ?_
    refine lv_iload_n hx hb dX7_little_5 rfl (lv_at hl 1 rfl) ?_
    refine lv_icmp_ge (tgt := 27) hx hb dX7_little_6 (by decide) (fun c1 => ?_) (fun c1 => ?_)
    · replace hf := zif_t hf c1
      refine lv_iload_n hx hb dX7_little_27 rfl (lv_at hl 2 rfl) ?_
      cases hf
      exact hE rfl _ _ _ _ dX7_little_28 hP hD hS
    · replace hf := zif_f hf c1
      refine lv_iload_n hx hb dX7_little_9 rfl (lv_at hl 2 rfl) ?_
      refine lv_aload_n hx hb dX7_little_10 rfl (lv_at hl 0 rfl) ?_
      obtain ⟨tg2, r3, u4, hc5, hf⟩ := zb3_in hf
      have hle := zT_le hf
      refine zcx_i (vx_runV (As := []) (rest := [.int l2]) C (mX7_next l hst D cI H.size h_t h_t_file h_t_file_bytes t_place t_file_size t_file_bytes tg2 r3 u4 hc5) (qX7_little_X7_next_48 hts) ⟨zPT_blind, va_recv hK hP (ci := 6) (q0 := 0) rfl rfl, zpreT hK hN hT hA hS hP hD [0, 1, 2] rfl rfl⟩ rfl rfl hl.1 rfl (lv_room (Nat.le_of_ble_eq_true rfl)) dX7_little_11 hle) hP hD hS hA [0, 1, 2] [] [0, 1, 2] (ws' := zwX7 cI h_t h_t_file h_t_file_bytes u4 t_file_size t_file_bytes) rfl rfl rfl rfl rfl rfl (fun ht H locs q9 ce hP hD hS hq hv hcl => ?_) (fun ht H locs hP hD hS => ?_)
      · replace hf := zif_f hf ht
        cases hf
        exact hX _ _ _ _ _ _ _ ht hP hD hS hq hv hcl
      · replace hf := zif_t hf ht
        clear hle
        refine lv_bipush (v := 8) hx hb dX7_little_14 (by decide) ?_
        refine lv_iload_n hx hb dX7_little_16 rfl (lv_at hl 3 rfl) ?_
        refine lv_imul hx hb dX7_little_17 ?_
        refine lv_ishl hx hb dX7_little_18 ?_
        refine lv_ior hx hb dX7_little_19 ?_
        refine lv_topi (fun x6 ex6 => ?_)
        replace hf := zlet_in hf ex6
        clear ex6
        refine lv_istore_n (lv' := [(2, .int x6), (0, .ref h_t), (1, .int l1), (3, .int l3)]) hx hb dX7_little_20 rfl hl (by decide) rfl (fun ls hl => ?_)
        obtain ⟨x7, ex7⟩ : ∃ y : Int32, y = l3 + 1 := ⟨_, rfl⟩
        replace hf := zlet_in hf ex7
        refine lv_iinc (v := x7) (lv' := [(3, .int x7), (2, .int x6), (0, .ref h_t), (1, .int l1)]) hx hb dX7_little_21 hl (k := 3) rfl (by rw [ex7]; rfl) (by decide) rfl (fun ls hl => ?_)
        clear ex7
        refine lv_goto (tgt := 4) hx hb dX7_little_24 (by decide) ?_
        exact hr_4 hf hP hD hS (lv_sub hl [2, 3, 1, 0] rfl)
set_option maxHeartbeats 4000000 in
set_option maxRecDepth 100000 in
theorem wX7_little_0 {p : Program} {l : Launch} {e : Env} {s : State} {m : MethodId} {args : Array Value} {below : List Frame} {meth : Method} {c : Code} {D : va_G} {A : Nat → Prop} {Q : State → Prop} {cI : ClassId} {h_t h_t_file h_t_file_bytes : Nat} {t_file_size : Int32} {t_file_bytes : Nat → Int32} {tg0 : Nat} {r0 : Int32} {zt_place : Int32} (C : CallFix p m c cX7_little 4 s args wsX7_little RX7) (hN : zN s) (hK : va_K D vwCl [(cI, .int)] s) (hA : ∀ q, s.heap.size ≤ q → A q) (hT : zTh A s) (hst : l.stackTraces = false) (hE : zTEi tg0 p l e (rmX7_little tg0) s m args below meth c cX7_little D A Q (zwX7 cI h_t h_t_file h_t_file_bytes zt_place t_file_size t_file_bytes) r0) (hX : zTX tg0 p l e (rmX7_little tg0) s m args below meth c D A Q (zwX7 cI h_t h_t_file h_t_file_bytes zt_place t_file_size t_file_bytes)) {t_place : Int32} {v0 : Int32} {H : Heap} {locs : List Loc} {ls : Array Slot} : fX7_little t_place t_file_size t_file_bytes v0 = some (tg0, r0, zt_place) → va_P D vwCl (zwX7 cI h_t h_t_file h_t_file_bytes t_place t_file_size t_file_bytes) H → va_D A (zwX7 cI h_t h_t_file h_t_file_bytes t_place t_file_size t_file_bytes) → va_S A s.heap H locs → lv_has ls 4 [(0, .ref h_t), (1, .int v0)] → W p l e (rmX7_little tg0) s m args below meth c H locs 0 0 Q (F0 m 0 ls []) := by
  intro hf hP hD hS hl
  obtain ⟨hx, hb, hml, hown, hts⟩ := id C
  unfold fX7_little at hf
  refine lv_iconst (v := 0) hx hb dX7_little_0 (by decide) ?_
  refine lv_istore_n (lv' := [(2, .int 0), (0, .ref h_t), (1, .int v0)]) hx hb dX7_little_1 rfl hl (by decide) rfl (fun ls hl => ?_)
  refine lv_iconst (v := 0) hx hb dX7_little_2 (by decide) ?_
  refine lv_istore_n (lv' := [(3, .int 0), (2, .int 0), (0, .ref h_t), (1, .int v0)]) hx hb dX7_little_3 rfl hl (by decide) rfl (fun ls hl => ?_)
  exact wX7_little_4 C hN hK hA hT hst hE hX 1000 hf hP hD hS (lv_sub hl [2, 3, 1, 0] rfl)
set_option maxHeartbeats 4000000 in
set_option maxRecDepth 100000 in
theorem mX7_little (l : Launch) (hst : l.stackTraces = false) (D : va_G) (cI : ClassId) (sz : Nat) (h_t h_t_file h_t_file_bytes : Nat) (t_place : Int32) (t_file_size : Int32) (t_file_bytes : Nat → Int32) (v0 : Int32) (tg0 : Nat) (r0 : Int32) (zt_place : Int32) (hf : fX7_little t_place t_file_size t_file_bytes v0 = some (tg0, r0, zt_place)) : vx_Met l yX7_little wsX7_little (rmX7_little tg0) (va_Pc [.ref h_t, .int v0] (zPT D [(cI, .int)] (zwX7 cI h_t h_t_file h_t_file_bytes t_place t_file_size t_file_bytes) sz)) (zQTi D (zwX7 cI h_t h_t_file h_t_file_bytes t_place t_file_size t_file_bytes) sz tg0 r0 (zwX7 cI h_t h_t_file h_t_file_bytes zt_place t_file_size t_file_bytes)) (zXT D (zwX7 cI h_t h_t_file h_t_file_bytes t_place t_file_size t_file_bytes) sz tg0 (zwX7 cI h_t h_t_file h_t_file_bytes zt_place t_file_size t_file_bytes)) (zc tg0) (zs tg0) (va_A (zwX7 cI h_t h_t_file h_t_file_bytes t_place t_file_size t_file_bytes) sz) := by
  refine vx_ofW (cc := cX7_little) (maxL := 4) (ret := (some .int)) (by decide) rfl ?_
  intro p e s m args below meth c s₁ B hml htab hv
  obtain ⟨rfl, ⟨hsz, hP, hK, hD0, hN⟩, hT⟩ := hv
  subst hsz
  have C : CallFix p m c cX7_little 4 s [.ref h_t, .int v0].toArray wsX7_little RX7 := ⟨B.exec, B.bytes, hml, findClass_of_methodNamed B.named, atoms_spec (ws := wsX7_little) B.pre⟩
  have hl := lv_entry ([.ref h_t, .int v0]) (n := 4) (Nat.le_of_ble_eq_true rfl)
  rw [lg_entry_eq]
  exact wX7_little_0 (A := va_A (zwX7 cI h_t h_t_file h_t_file_bytes t_place t_file_size t_file_bytes) s.heap.size) C hN hK (fun q h => Or.inr h) hT hst (fun h0 H locs pc ls d hP hD hS => zendT_i C.1 C.2.1 B.returns B.notSynchronized h0 d hP hD hS) (fun H locs pc ls rest q9 ce h0 hP hD hS hq hv hcl => zoutT htab B.notSynchronized h0 hP hD hS hq hv hcl) hf hP hD0.self va_S.rf hl
def rmX7_big (tg : Nat) : Room := { frames := 7, cells := zc tg, slots := zs tg, locals := 103 }
theorem qX7_big_X7_next_48 {args : Array Value} {s : State} {tg0 : Nat} {tg : Nat} (hts : ∀ w ∈ wsX7_big, w.before args s = true) : CallW (rmX7_big tg0) s args RX7 RX7 48 yX7_next cX7_next 2 (some .int) wsX7_next (rmX7_next tg) (zc tg) (zs tg) 0 := cwV 0 hts gX7_big_X7_next rfl rfl rfl (by decide +kernel) ⟨Nat.le_of_ble_eq_true rfl, Nat.le_of_ble_eq_true rfl⟩
set_option maxHeartbeats 4000000 in
set_option maxRecDepth 100000 in
theorem wX7_big_4 {p : Program} {l : Launch} {e : Env} {s : State} {m : MethodId} {args : Array Value} {below : List Frame} {meth : Method} {c : Code} {D : va_G} {A : Nat → Prop} {Q : State → Prop} {cI : ClassId} {h_t h_t_file h_t_file_bytes : Nat} {t_file_size : Int32} {t_file_bytes : Nat → Int32} {tg0 : Nat} {r0 : Int32} {zt_place : Int32} (C : CallFix p m c cX7_big 4 s args wsX7_big RX7) (hN : zN s) (hK : va_K D vwCl [(cI, .int)] s) (hA : ∀ q, s.heap.size ≤ q → A q) (hT : zTh A s) (hst : l.stackTraces = false) (hE : zTEi tg0 p l e (rmX7_big tg0) s m args below meth c cX7_big D A Q (zwX7 cI h_t h_t_file h_t_file_bytes zt_place t_file_size t_file_bytes) r0) (hX : zTX tg0 p l e (rmX7_big tg0) s m args below meth c D A Q (zwX7 cI h_t h_t_file h_t_file_bytes zt_place t_file_size t_file_bytes)) (n : Nat) : ∀ {t_place : Int32} {l1 : Int32} {l2 : Int32} {l3 : Int32} {H : Heap} {locs : List Loc} {ls : Array Slot}, fX7_big_4 n t_place t_file_size t_file_bytes l1 l2 l3 = some (tg0, r0, zt_place) → va_P D vwCl (zwX7 cI h_t h_t_file h_t_file_bytes t_place t_file_size t_file_bytes) H → va_D A (zwX7 cI h_t h_t_file h_t_file_bytes t_place t_file_size t_file_bytes) → va_S A s.heap H locs → lv_has ls 4 [(0, .ref h_t), (1, .int l1), (2, .int l2), (3, .int l3)] → W p l e (rmX7_big tg0) s m args below meth c H locs 0 0 Q (F0 m 4 ls []) := by
  obtain ⟨hx, hb, hml, hown, hts⟩ := id C
  induction n with
  | zero =>
    intro t_place l1 l2 l3 H locs ls hf
    cases hf
  | succ n hr_4 =>
    intro t_place l1 l2 l3 H locs ls hf hP hD hS hl
    rw [fX7_big_4_s] at hf
    refine lv_iload_n hx hb dX7_big_4 rfl (lv_at hl 3 rfl) ?_
    refine lv_iload_n hx hb dX7_big_5 rfl (lv_at hl 1 rfl) ?_
    refine lv_icmp_ge (tgt := 25) hx hb dX7_big_6 (by decide) (fun c1 => ?_) (fun c1 => ?_)
    · replace hf := zif_t hf c1
      refine lv_iload_n hx hb dX7_big_25 rfl (lv_at hl 2 rfl) ?_
      cases hf
      exact hE rfl _ _ _ _ dX7_big_26 hP hD hS
    · replace hf := zif_f hf c1
      refine lv_iload_n hx hb dX7_big_9 rfl (lv_at hl 2 rfl) ?_
      refine lv_bipush (v := 8) hx hb dX7_big_10 (by decide) ?_
      refine lv_ishl hx hb dX7_big_12 ?_
      refine lv_aload_n hx hb dX7_big_13 rfl (lv_at hl 0 rfl) ?_
      obtain ⟨tg2, r3, u4, hc5, hf⟩ := zb3_in hf
      have hle := zT_le hf
      refine zcx_i (vx_runV (As := []) (rest := [.int (zshl l2 8)]) C (mX7_next l hst D cI H.size h_t h_t_file h_t_file_bytes t_place t_file_size t_file_bytes tg2 r3 u4 hc5) (qX7_big_X7_next_48 hts) ⟨zPT_blind, va_recv hK hP (ci := 6) (q0 := 0) rfl rfl, zpreT hK hN hT hA hS hP hD [0, 1, 2] rfl rfl⟩ rfl rfl hl.1 rfl (lv_room (Nat.le_of_ble_eq_true rfl)) dX7_big_14 hle) hP hD hS hA [0, 1, 2] [] [0, 1, 2] (ws' := zwX7 cI h_t h_t_file h_t_file_bytes u4 t_file_size t_file_bytes) rfl rfl rfl rfl rfl rfl (fun ht H locs q9 ce hP hD hS hq hv hcl => ?_) (fun ht H locs hP hD hS => ?_)
      · replace hf := zif_f hf ht
        cases hf
        exact hX _ _ _ _ _ _ _ ht hP hD hS hq hv hcl
      · replace hf := zif_t hf ht
        clear hle
        refine lv_ior hx hb dX7_big_17 ?_
        refine lv_topi (fun x6 ex6 => ?_)
        replace hf := zlet_in hf ex6
        clear ex6
        refine lv_istore_n (lv' := [(2, .int x6), (0, .ref h_t), (1, .int l1), (3, .int l3)]) hx hb dX7_big_18 rfl hl (by decide) rfl (fun ls hl => ?_)
        obtain ⟨x7, ex7⟩ : ∃ y : Int32, y = l3 + 1 := ⟨_, rfl⟩
        replace hf := zlet_in hf ex7
        refine lv_iinc (v := x7) (lv' := [(3, .int x7), (2, .int x6), (0, .ref h_t), (1, .int l1)]) hx hb dX7_big_19 hl (k := 3) rfl (by rw [ex7]; rfl) (by decide) rfl (fun ls hl => ?_)
        clear ex7
        refine lv_goto (tgt := 4) hx hb dX7_big_22 (by decide) ?_
        exact hr_4 hf hP hD hS (lv_sub hl [2, 3, 1, 0] rfl)
set_option maxHeartbeats 4000000 in
set_option maxRecDepth 100000 in
theorem wX7_big_0 {p : Program} {l : Launch} {e : Env} {s : State} {m : MethodId} {args : Array Value} {below : List Frame} {meth : Method} {c : Code} {D : va_G} {A : Nat → Prop} {Q : State → Prop} {cI : ClassId} {h_t h_t_file h_t_file_bytes : Nat} {t_file_size : Int32} {t_file_bytes : Nat → Int32} {tg0 : Nat} {r0 : Int32} {zt_place : Int32} (C : CallFix p m c cX7_big 4 s args wsX7_big RX7) (hN : zN s) (hK : va_K D vwCl [(cI, .int)] s) (hA : ∀ q, s.heap.size ≤ q → A q) (hT : zTh A s) (hst : l.stackTraces = false) (hE : zTEi tg0 p l e (rmX7_big tg0) s m args below meth c cX7_big D A Q (zwX7 cI h_t h_t_file h_t_file_bytes zt_place t_file_size t_file_bytes) r0) (hX : zTX tg0 p l e (rmX7_big tg0) s m args below meth c D A Q (zwX7 cI h_t h_t_file h_t_file_bytes zt_place t_file_size t_file_bytes)) {t_place : Int32} {v0 : Int32} {H : Heap} {locs : List Loc} {ls : Array Slot} : fX7_big t_place t_file_size t_file_bytes v0 = some (tg0, r0, zt_place) → va_P D vwCl (zwX7 cI h_t h_t_file h_t_file_bytes t_place t_file_size t_file_bytes) H → va_D A (zwX7 cI h_t h_t_file h_t_file_bytes t_place t_file_size t_file_bytes) → va_S A s.heap H locs → lv_has ls 4 [(0, .ref h_t), (1, .int v0)] → W p l e (rmX7_big tg0) s m args below meth c H locs 0 0 Q (F0 m 0 ls []) := by
  intro hf hP hD hS hl
  obtain ⟨hx, hb, hml, hown, hts⟩ := id C
  unfold fX7_big at hf
  refine lv_iconst (v := 0) hx hb dX7_big_0 (by decide) ?_
  refine lv_istore_n (lv' := [(2, .int 0), (0, .ref h_t), (1, .int v0)]) hx hb dX7_big_1 rfl hl (by decide) rfl (fun ls hl => ?_)
  refine lv_iconst (v := 0) hx hb dX7_big_2 (by decide) ?_
  refine lv_istore_n (lv' := [(3, .int 0), (2, .int 0), (0, .ref h_t), (1, .int v0)]) hx hb dX7_big_3 rfl hl (by decide) rfl (fun ls hl => ?_)
  exact wX7_big_4 C hN hK hA hT hst hE hX 1000 hf hP hD hS (lv_sub hl [2, 3, 1, 0] rfl)
set_option maxHeartbeats 4000000 in
set_option maxRecDepth 100000 in
theorem mX7_big (l : Launch) (hst : l.stackTraces = false) (D : va_G) (cI : ClassId) (sz : Nat) (h_t h_t_file h_t_file_bytes : Nat) (t_place : Int32) (t_file_size : Int32) (t_file_bytes : Nat → Int32) (v0 : Int32) (tg0 : Nat) (r0 : Int32) (zt_place : Int32) (hf : fX7_big t_place t_file_size t_file_bytes v0 = some (tg0, r0, zt_place)) : vx_Met l yX7_big wsX7_big (rmX7_big tg0) (va_Pc [.ref h_t, .int v0] (zPT D [(cI, .int)] (zwX7 cI h_t h_t_file h_t_file_bytes t_place t_file_size t_file_bytes) sz)) (zQTi D (zwX7 cI h_t h_t_file h_t_file_bytes t_place t_file_size t_file_bytes) sz tg0 r0 (zwX7 cI h_t h_t_file h_t_file_bytes zt_place t_file_size t_file_bytes)) (zXT D (zwX7 cI h_t h_t_file h_t_file_bytes t_place t_file_size t_file_bytes) sz tg0 (zwX7 cI h_t h_t_file h_t_file_bytes zt_place t_file_size t_file_bytes)) (zc tg0) (zs tg0) (va_A (zwX7 cI h_t h_t_file h_t_file_bytes t_place t_file_size t_file_bytes) sz) := by
  refine vx_ofW (cc := cX7_big) (maxL := 4) (ret := (some .int)) (by decide) rfl ?_
  intro p e s m args below meth c s₁ B hml htab hv
  obtain ⟨rfl, ⟨hsz, hP, hK, hD0, hN⟩, hT⟩ := hv
  subst hsz
  have C : CallFix p m c cX7_big 4 s [.ref h_t, .int v0].toArray wsX7_big RX7 := ⟨B.exec, B.bytes, hml, findClass_of_methodNamed B.named, atoms_spec (ws := wsX7_big) B.pre⟩
  have hl := lv_entry ([.ref h_t, .int v0]) (n := 4) (Nat.le_of_ble_eq_true rfl)
  rw [lg_entry_eq]
  exact wX7_big_0 (A := va_A (zwX7 cI h_t h_t_file h_t_file_bytes t_place t_file_size t_file_bytes) s.heap.size) C hN hK (fun q h => Or.inr h) hT hst (fun h0 H locs pc ls d hP hD hS => zendT_i C.1 C.2.1 B.returns B.notSynchronized h0 d hP hD hS) (fun H locs pc ls rest q9 ce h0 hP hD hS hq hv hcl => zoutT htab B.notSynchronized h0 hP hD hS hq hv hcl) hf hP hD0.self va_S.rf hl
def rmX7_blueGreenRed (tg : Nat) : Room := { frames := 7, cells := zc tg, slots := zs tg, locals := 103 }
theorem qX7_blueGreenRed_X7_next_48 {args : Array Value} {s : State} {tg0 : Nat} {tg : Nat} (hts : ∀ w ∈ wsX7_blueGreenRed, w.before args s = true) : CallW (rmX7_blueGreenRed tg0) s args RX7 RX7 48 yX7_next cX7_next 2 (some .int) wsX7_next (rmX7_next tg) (zc tg) (zs tg) 0 := cwV 0 hts gX7_blueGreenRed_X7_next rfl rfl rfl (by decide +kernel) ⟨Nat.le_of_ble_eq_true rfl, Nat.le_of_ble_eq_true rfl⟩
theorem qX7_blueGreenRed_X8_colour_52 {args : Array Value} {s : State} {tg0 : Nat} (hts : ∀ w ∈ wsX7_blueGreenRed, w.before args s = true) (hN : zN s) : va_CN (rmX7_blueGreenRed tg0) s args RX7 52 yX8_colour RX8 cX8_colour 4 (some .int) wsX8_colour rmX8_colour 0 0 4 ∧ (Cond.static yX8_colour).before args s = true ∧ True := ⟨va_cnB 4 hts gX7_blueGreenRed_X8_colour_n52 rfl rfl rfl (hN.nw 53 rfl) (hts (.initialized RX8) (by decide +kernel)) (by decide +kernel) ⟨Nat.le_of_ble_eq_true rfl, Nat.le_of_ble_eq_true rfl⟩, hts (.static yX8_colour) (by decide +kernel), trivial⟩
set_option maxHeartbeats 4000000 in
set_option maxRecDepth 100000 in
theorem wX7_blueGreenRed_0 {p : Program} {l : Launch} {e : Env} {s : State} {m : MethodId} {args : Array Value} {below : List Frame} {meth : Method} {c : Code} {D : va_G} {A : Nat → Prop} {Q : State → Prop} {cI : ClassId} {h_t h_t_file h_t_file_bytes : Nat} {t_file_size : Int32} {t_file_bytes : Nat → Int32} {tg0 : Nat} {r0 : Int32} {zt_place : Int32} (C : CallFix p m c cX7_blueGreenRed 3 s args wsX7_blueGreenRed RX7) (hN : zN s) (hK : va_K D vwCl [(cI, .int)] s) (hA : ∀ q, s.heap.size ≤ q → A q) (hT : zTh A s) (hst : l.stackTraces = false) (hE : zTEi tg0 p l e (rmX7_blueGreenRed tg0) s m args below meth c cX7_blueGreenRed D A Q (zwX7 cI h_t h_t_file h_t_file_bytes zt_place t_file_size t_file_bytes) r0) (hX : zTX tg0 p l e (rmX7_blueGreenRed tg0) s m args below meth c D A Q (zwX7 cI h_t h_t_file h_t_file_bytes zt_place t_file_size t_file_bytes)) {t_place : Int32} {H : Heap} {locs : List Loc} {ls : Array Slot} : fX7_blueGreenRed t_place t_file_size t_file_bytes = some (tg0, r0, zt_place) → va_P D vwCl (zwX7 cI h_t h_t_file h_t_file_bytes t_place t_file_size t_file_bytes) H → va_D A (zwX7 cI h_t h_t_file h_t_file_bytes t_place t_file_size t_file_bytes) → va_S A s.heap H locs → lv_has ls 3 [(0, .ref h_t)] → W p l e (rmX7_blueGreenRed tg0) s m args below meth c H locs 0 0 Q (F0 m 0 ls []) := by
  intro hf hP hD hS hl
  obtain ⟨hx, hb, hml, hown, hts⟩ := id C
  unfold fX7_blueGreenRed at hf
  refine lv_aload_n hx hb dX7_blueGreenRed_0 rfl (lv_at hl 0 rfl) ?_
  obtain ⟨tg1, r2, u3, hc4, hf⟩ := zb3_in hf
  have hle := zT_le hf
  refine zcx_i (vx_runV (As := []) (rest := []) C (mX7_next l hst D cI H.size h_t h_t_file h_t_file_bytes t_place t_file_size t_file_bytes tg1 r2 u3 hc4) (qX7_blueGreenRed_X7_next_48 hts) ⟨zPT_blind, va_recv hK hP (ci := 6) (q0 := 0) rfl rfl, zpreT hK hN hT hA hS hP hD [0, 1, 2] rfl rfl⟩ rfl rfl hl.1 rfl (lv_room (Nat.le_of_ble_eq_true rfl)) dX7_blueGreenRed_1 hle) hP hD hS hA [0, 1, 2] [] [0, 1, 2] (ws' := zwX7 cI h_t h_t_file h_t_file_bytes u3 t_file_size t_file_bytes) rfl rfl rfl rfl rfl rfl (fun ht H locs q9 ce hP hD hS hq hv hcl => ?_) (fun ht H locs hP hD hS => ?_)
  · replace hf := zif_f hf ht
    cases hf
    exact hX _ _ _ _ _ _ _ ht hP hD hS hq hv hcl
  · replace hf := zif_t hf ht
    clear hle
    refine lv_istore_n (lv' := [(1, .int r2), (0, .ref h_t)]) hx hb dX7_blueGreenRed_4 rfl hl (by decide) rfl (fun ls hl => ?_)
    refine lv_aload_n hx hb dX7_blueGreenRed_5 rfl (lv_at hl 1 rfl) ?_
    obtain ⟨tg5, r6, u7, hc8, hf⟩ := zb3_in hf
    have hle := zT_le hf
    refine zcx_i (vx_runV (As := []) (rest := []) C (mX7_next l hst D cI H.size h_t h_t_file h_t_file_bytes u3 t_file_size t_file_bytes tg5 r6 u7 hc8) (qX7_blueGreenRed_X7_next_48 hts) ⟨zPT_blind, va_recv hK hP (ci := 6) (q0 := 0) rfl rfl, zpreT hK hN hT hA hS hP hD [0, 1, 2] rfl rfl⟩ rfl rfl hl.1 rfl (lv_room (Nat.le_of_ble_eq_true rfl)) dX7_blueGreenRed_6 hle) hP hD hS hA [0, 1, 2] [] [0, 1, 2] (ws' := zwX7 cI h_t h_t_file h_t_file_bytes u7 t_file_size t_file_bytes) rfl rfl rfl rfl rfl rfl (fun ht H locs q9 ce hP hD hS hq hv hcl => ?_) (fun ht H locs hP hD hS => ?_)
    · replace hf := zif_f hf ht
      cases hf
      exact hX _ _ _ _ _ _ _ ht hP hD hS hq hv hcl
    · replace hf := zif_t hf ht
      clear hle
      refine lv_istore_n (lv' := [(2, .int r6), (1, .int r2), (0, .ref h_t)]) hx hb dX7_blueGreenRed_9 rfl hl (by decide) rfl (fun ls hl => ?_)
      refine lv_aload_n hx hb dX7_blueGreenRed_10 rfl (lv_at hl 2 rfl) ?_
      obtain ⟨tg9, r10, u11, hc12, hf⟩ := zb3_in hf
      have hle := zT_le hf
      refine zcx_i (vx_runV (As := []) (rest := []) C (mX7_next l hst D cI H.size h_t h_t_file h_t_file_bytes u7 t_file_size t_file_bytes tg9 r10 u11 hc12) (qX7_blueGreenRed_X7_next_48 hts) ⟨zPT_blind, va_recv hK hP (ci := 6) (q0 := 0) rfl rfl, zpreT hK hN hT hA hS hP hD [0, 1, 2] rfl rfl⟩ rfl rfl hl.1 rfl (lv_room (Nat.le_of_ble_eq_true rfl)) dX7_blueGreenRed_11 hle) hP hD hS hA [0, 1, 2] [] [0, 1, 2] (ws' := zwX7 cI h_t h_t_file h_t_file_bytes u11 t_file_size t_file_bytes) rfl rfl rfl rfl rfl rfl (fun ht H locs q9 ce hP hD hS hq hv hcl => ?_) (fun ht H locs hP hD hS => ?_)
      · replace hf := zif_f hf ht
        cases hf
        exact hX _ _ _ _ _ _ _ ht hP hD hS hq hv hcl
      · replace hf := zif_t hf ht
        clear hle
        refine lv_iload_n hx hb dX7_blueGreenRed_14 rfl (lv_at hl 0 rfl) ?_
        refine lv_iload_n hx hb dX7_blueGreenRed_15 rfl (lv_at hl 1 rfl) ?_
        refine lv_sipush (v := 255) hx hb dX7_blueGreenRed_16 (by decide) ?_
        obtain ⟨r13, hc14, hf⟩ := zb1_in hf
        refine zc_i (va_runSN (As := [.int r10, .int r6, .int r2, .int 255]) (rest := []) C (mX8_colour l D cI H.size r10 r6 r2 255 r13 hc14) (qX7_blueGreenRed_X8_colour_52 hts hN) ⟨zP_blind, zpre hK hN hP hD [] rfl rfl⟩ rfl rfl hl.1 rfl (lv_room (Nat.le_of_ble_eq_true rfl)) dX7_blueGreenRed_19 ⟨Nat.zero_le _, Nat.zero_le _⟩) hP hD hS hA [] [0, 1, 2] [0, 1, 2] (ws' := zwX7 cI h_t h_t_file h_t_file_bytes u11 t_file_size t_file_bytes) rfl rfl rfl rfl rfl rfl (fun H locs hP hD hS => ?_)
        cases hf
        exact hE rfl _ _ _ _ dX7_blueGreenRed_22 hP hD hS
set_option maxHeartbeats 4000000 in
set_option maxRecDepth 100000 in
theorem mX7_blueGreenRed (l : Launch) (hst : l.stackTraces = false) (D : va_G) (cI : ClassId) (sz : Nat) (h_t h_t_file h_t_file_bytes : Nat) (t_place : Int32) (t_file_size : Int32) (t_file_bytes : Nat → Int32) (tg0 : Nat) (r0 : Int32) (zt_place : Int32) (hf : fX7_blueGreenRed t_place t_file_size t_file_bytes = some (tg0, r0, zt_place)) : vx_Met l yX7_blueGreenRed wsX7_blueGreenRed (rmX7_blueGreenRed tg0) (va_Pc [.ref h_t] (zPT D [(cI, .int)] (zwX7 cI h_t h_t_file h_t_file_bytes t_place t_file_size t_file_bytes) sz)) (zQTi D (zwX7 cI h_t h_t_file h_t_file_bytes t_place t_file_size t_file_bytes) sz tg0 r0 (zwX7 cI h_t h_t_file h_t_file_bytes zt_place t_file_size t_file_bytes)) (zXT D (zwX7 cI h_t h_t_file h_t_file_bytes t_place t_file_size t_file_bytes) sz tg0 (zwX7 cI h_t h_t_file h_t_file_bytes zt_place t_file_size t_file_bytes)) (zc tg0) (zs tg0) (va_A (zwX7 cI h_t h_t_file h_t_file_bytes t_place t_file_size t_file_bytes) sz) := by
  refine vx_ofW (cc := cX7_blueGreenRed) (maxL := 3) (ret := (some .int)) (by decide) rfl ?_
  intro p e s m args below meth c s₁ B hml htab hv
  obtain ⟨rfl, ⟨hsz, hP, hK, hD0, hN⟩, hT⟩ := hv
  subst hsz
  have C : CallFix p m c cX7_blueGreenRed 3 s [.ref h_t].toArray wsX7_blueGreenRed RX7 := ⟨B.exec, B.bytes, hml, findClass_of_methodNamed B.named, atoms_spec (ws := wsX7_blueGreenRed) B.pre⟩
  have hl := lv_entry ([.ref h_t]) (n := 3) (Nat.le_of_ble_eq_true rfl)
  rw [lg_entry_eq]
  exact wX7_blueGreenRed_0 (A := va_A (zwX7 cI h_t h_t_file h_t_file_bytes t_place t_file_size t_file_bytes) s.heap.size) C hN hK (fun q h => Or.inr h) hT hst (fun h0 H locs pc ls d hP hD hS => zendT_i C.1 C.2.1 B.returns B.notSynchronized h0 d hP hD hS) (fun H locs pc ls rest q9 ce h0 hP hD hS hq hv hcl => zoutT htab B.notSynchronized h0 hP hD hS hq hv hcl) hf hP hD0.self va_S.rf hl
