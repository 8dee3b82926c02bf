def fX1_forget (t_table : Nat → Int32) : Option (Int32 × (Nat → Int32)) :=
  zb1 (fJ7_fill_53178 t_table 0) fun u1 =>
  zb1 (fX8_opaque 0 0 0) fun r3 =>
  some (r3, u1)
def fX1_placeOf (v0 : Int32) : Option (Int32) :=
  zb1 (fX8_red v0) fun r1 =>
  zb1 (fX8_green v0) fun r3 =>
  zb1 (fX8_blue v0) fun r5 =>
  zb1 (fX8_alpha v0) fun r7 =>
  some (zrem ((((3 * r1) + (5 * r3)) + (7 * r5)) + (11 * r7)) 64)
def fX1_signed (v0 : Int32) : Option (Int32) :=
  some (((v0 + 128) &&& 255) - 128)
def fX1_isWithin (v0 : Int32) (v1 : Int32) : Option (Int32) :=
  if v0 < (-v1) then
    some 0
  else
    if v1 ≤ v0 then
      some 0
    else
      some 1
def fX1_isThatOf (f_size : Int32) (f_bytes : Nat → Int32) : Option (Int32) :=
  zb1 (fX2_at f_size f_bytes 0) fun r1 =>
  if r1 = 113 then
    zb1 (fX2_at f_size f_bytes 1) fun r4 =>
    if r4 = 111 then
      zb1 (fX2_at f_size f_bytes 2) fun r7 =>
      if r7 = 105 then
        zb1 (fX2_at f_size f_bytes 3) fun r10 =>
        if r10 = 102 then
          some 1
        else
          some 0
      else
        some 0
    else
      some 0
  else
    some 0
def fX1_canHold : Option (Int32) :=
  some 1
def fX1_lastPlus (t_last : Int32) (v0 : Int32) (v1 : Int32) (v2 : Int32) : Option (Int32) :=
  zb1 (fX8_red t_last) fun r1 =>
  zb1 (fX8_green t_last) fun r3 =>
  zb1 (fX8_blue t_last) fun r5 =>
  zb1 (fX8_alpha t_last) fun r7 =>
  zb1 (fX8_colour ((r1 + v0) &&& 255) ((r3 + v1) &&& 255) ((r5 + v2) &&& 255) r7) fun r9 =>
  some r9
def fX1_writeColours_187 (f_size : Int32) (f_bytes : Nat → Int32) (l1 : Int32) : Option (Int32 × (Nat → Int32)) :=
  zb3 (fX2_append f_size f_bytes 254) fun r1 u2 u3 =>
  zb2 (fX2_appendBig u2 u3 3 (zushr l1 8)) fun u5 u6 =>
  some (u5, u6)
def fX1_writeColours_124 (f_size : Int32) (f_bytes : Nat → Int32) (l1 : Int32) (l4 : Int32) (l6 : Int32) (l7 : Int32) : Option (Int32 × (Nat → Int32)) :=
  zb1 (fX1_isWithin l4 32) fun r1 =>
  if r1 = 0 then
    fX1_writeColours_187 f_size f_bytes l1
  else
    zb1 (fX1_isWithin l6 8) fun r4 =>
    if r4 = 0 then
      fX1_writeColours_187 f_size f_bytes l1
    else
      zb1 (fX1_isWithin l7 8) fun r7 =>
      if r7 = 0 then
        fX1_writeColours_187 f_size f_bytes l1
      else
        zb3 (fX2_append f_size f_bytes (160 + l4)) fun r10 u11 u12 =>
        zb3 (fX2_append u11 u12 ((((l6 + 8) * 16) + l7) + 8)) fun r14 u15 u16 =>
        some (u15, u16)
def fX1_writeColours (t_last : Int32) (f_size : Int32) (f_bytes : Nat → Int32) (v0 : Int32) : Option (Int32 × (Nat → Int32)) :=
  zb1 (fX8_red v0) fun r1 =>
  zb1 (fX8_red t_last) fun r3 =>
  zb1 (fX1_signed (r1 - r3)) fun r5 =>
  zb1 (fX8_green v0) fun r7 =>
  zb1 (fX8_green t_last) fun r9 =>
  zb1 (fX1_signed (r7 - r9)) fun r11 =>
  zb1 (fX8_blue v0) fun r13 =>
  zb1 (fX8_blue t_last) fun r15 =>
  zb1 (fX1_signed (r13 - r15)) fun r17 =>
  zb1 (fX1_signed (r5 - r11)) fun r19 =>
  zb1 (fX1_signed (r17 - r11)) fun r21 =>
  zb1 (fX1_isWithin r5 2) fun r23 =>
  if r23 = 0 then
    fX1_writeColours_124 f_size f_bytes v0 r11 r19 r21
  else
    zb1 (fX1_isWithin r11 2) fun r26 =>
    if r26 = 0 then
      fX1_writeColours_124 f_size f_bytes v0 r11 r19 r21
    else
      zb1 (fX1_isWithin r17 2) fun r29 =>
      if r29 = 0 then
        fX1_writeColours_124 f_size f_bytes v0 r11 r19 r21
      else
        zb3 (fX2_append f_size f_bytes ((((64 + ((r5 + 2) * 16)) + ((r11 + 2) * 4)) + r17) + 2)) fun r32 u33 u34 =>
        some (u33, u34)
def fX1_writeOther (t_last : Int32) (t_table : Nat → Int32) (f_size : Int32) (f_bytes : Nat → Int32) (v0 : Int32) : Option ((Nat → Int32) × Int32 × (Nat → Int32)) :=
  zb1 (fX1_placeOf v0) fun r1 =>
  zrd t_table 64 r1 fun x3 =>
  if x3 = v0 then
    zb3 (fX2_append f_size f_bytes r1) fun r23 u24 u25 =>
    some (t_table, u24, u25)
  else
    zwr t_table 64 r1 v0 fun g6 =>
    zb1 (fX8_alpha v0) fun r8 =>
    zb1 (fX8_alpha t_last) fun r10 =>
    if r8 = r10 then
      zb2 (fX1_writeColours t_last f_size f_bytes v0) fun u20 u21 =>
      some (g6, u20, u21)
    else
      zb3 (fX2_append f_size f_bytes 255) fun r13 u14 u15 =>
      zb2 (fX2_appendBig u14 u15 4 v0) fun u17 u18 =>
      some (g6, u17, u18)
def fX1_writeChunks_92 (rc9 : Int32 → (Nat → Int32) → Int32 → Int32 → (Nat → Int32) → Int32 → (Nat → Int32) → Int32 → Int32 → Option (Int32 × (Nat → Int32) × Int32 × (Nat → Int32))) (t_last : Int32) (t_table : Nat → Int32) (p_wide : Int32) (p_high : Int32) (p_pixels : Nat → Int32) (f_size : Int32) (f_bytes : Nat → Int32) (l3 : Int32) (l4 : Int32) : Option (Int32 × (Nat → Int32) × Int32 × (Nat → Int32)) :=
  zlet (l4 + 1) fun x1 =>
  rc9 t_last t_table p_wide p_high p_pixels f_size f_bytes l3 x1
def fX1_writeChunks_70 (rc9 : Int32 → (Nat → Int32) → Int32 → Int32 → (Nat → Int32) → Int32 → (Nat → Int32) → Int32 → Int32 → Option (Int32 × (Nat → Int32) × Int32 × (Nat → Int32))) (t_last : Int32) (t_table : Nat → Int32) (p_wide : Int32) (p_high : Int32) (p_pixels : Nat → Int32) (f_size : Int32) (f_bytes : Nat → Int32) (l3 : Int32) (l4 : Int32) (l5 : Int32) : Option (Int32 × (Nat → Int32) × Int32 × (Nat → Int32)) :=
  if l5 = t_last then
    fX1_writeChunks_92 rc9 t_last t_table p_wide p_high p_pixels f_size f_bytes l3 l4
  else
    zb3 (fX1_writeOther t_last t_table f_size f_bytes l5) fun u2 u3 u4 =>
    fX1_writeChunks_92 rc9 l5 u2 p_wide p_high p_pixels u3 u4 l3 l4
def fX1_writeChunks_58 (rc9 : Int32 → (Nat → Int32) → Int32 → Int32 → (Nat → Int32) → Int32 → (Nat → Int32) → Int32 → Int32 → Option (Int32 × (Nat → Int32) × Int32 × (Nat → Int32))) (t_last : Int32) (t_table : Nat → Int32) (p_wide : Int32) (p_high : Int32) (p_pixels : Nat → Int32) (f_size : Int32) (f_bytes : Nat → Int32) (l3 : Int32) (l4 : Int32) (l5 : Int32) : Option (Int32 × (Nat → Int32) × Int32 × (Nat → Int32)) :=
  zb3 (fX2_append f_size f_bytes (191 + l3)) fun r1 u2 u3 =>
  fX1_writeChunks_70 rc9 t_last t_table p_wide p_high p_pixels u2 u3 0 l4 l5
def fX1_writeChunks_39 (rc9 : Int32 → (Nat → Int32) → Int32 → Int32 → (Nat → Int32) → Int32 → (Nat → Int32) → Int32 → Int32 → Option (Int32 × (Nat → Int32) × Int32 × (Nat → Int32))) (t_last : Int32) (t_table : Nat → Int32) (p_wide : Int32) (p_high : Int32) (p_pixels : Nat → Int32) (f_size : Int32) (f_bytes : Nat → Int32) (l3 : Int32) (l4 : Int32) (l5 : Int32) : Option (Int32 × (Nat → Int32) × Int32 × (Nat → Int32)) :=
  if l3 = 62 then
    fX1_writeChunks_58 rc9 t_last t_table p_wide p_high p_pixels f_size f_bytes l3 l4 l5
  else
    if l3 ≤ 0 then
      fX1_writeChunks_70 rc9 t_last t_table p_wide p_high p_pixels f_size f_bytes l3 l4 l5
    else
      if l5 = t_last then
        fX1_writeChunks_70 rc9 t_last t_table p_wide p_high p_pixels f_size f_bytes l3 l4 l5
      else
        fX1_writeChunks_58 rc9 t_last t_table p_wide p_high p_pixels f_size f_bytes l3 l4 l5
def fX1_writeChunks_9 : Nat → Int32 → (Nat → Int32) → Int32 → Int32 → (Nat → Int32) → Int32 → (Nat → Int32) → Int32 → Int32 → Option (Int32 × (Nat → Int32) × Int32 × (Nat → Int32))
  | 0, _, _, _, _, _, _, _, _, _ => none
  | n + 1, t_last, t_table, p_wide, p_high, p_pixels, f_size, f_bytes, l3, l4 =>
    zb1 (fX5_count p_wide p_high) fun r1 =>
    if r1 ≤ l4 then
      if l3 ≤ 0 then
        some (t_last, t_table, f_size, f_bytes)
      else
        zb3 (fX2_append f_size f_bytes (191 + l3)) fun r5 u6 u7 =>
        some (t_last, t_table, u6, u7)
    else
      zrd p_pixels 64 l4 fun x9 =>
      if x9 = t_last then
        zlet (l3 + 1) fun x12 =>
        fX1_writeChunks_39 (fX1_writeChunks_9 n) t_last t_table p_wide p_high p_pixels f_size f_bytes x12 l4 x9
      else
        fX1_writeChunks_39 (fX1_writeChunks_9 n) t_last t_table p_wide p_high p_pixels f_size f_bytes l3 l4 x9
theorem fX1_writeChunks_9_s (n : Nat) (t_last : Int32) (t_table : Nat → Int32) (p_wide : Int32) (p_high : Int32) (p_pixels : Nat → Int32) (f_size : Int32) (f_bytes : Nat → Int32) (l3 : Int32) (l4 : Int32) : fX1_writeChunks_9 (n + 1) t_last t_table p_wide p_high p_pixels f_size f_bytes l3 l4 =
    zb1 (fX5_count p_wide p_high) fun r1 =>
    if r1 ≤ l4 then
      if l3 ≤ 0 then
        some (t_last, t_table, f_size, f_bytes)
      else
        zb3 (fX2_append f_size f_bytes (191 + l3)) fun r5 u6 u7 =>
        some (t_last, t_table, u6, u7)
    else
      zrd p_pixels 64 l4 fun x9 =>
      if x9 = t_last then
        zlet (l3 + 1) fun x12 =>
        fX1_writeChunks_39 (fX1_writeChunks_9 n) t_last t_table p_wide p_high p_pixels f_size f_bytes x12 l4 x9
      else
        fX1_writeChunks_39 (fX1_writeChunks_9 n) t_last t_table p_wide p_high p_pixels f_size f_bytes l3 l4 x9 := rfl
def fX1_writeChunks (t_table : Nat → Int32) (p_wide : Int32) (p_high : Int32) (p_pixels : Nat → Int32) (f_size : Int32) (f_bytes : Nat → Int32) : Option (Int32 × (Nat → Int32) × Int32 × (Nat → Int32)) :=
  zb2 (fX1_forget t_table) fun u1 u2 =>
  fX1_writeChunks_9 1000 u1 u2 p_wide p_high p_pixels f_size f_bytes 0 0
def fX1_write_59 (t_table : Nat → Int32) (p_wide : Int32) (p_high : Int32) (p_pixels : Nat → Int32) (f_size : Int32) (f_bytes : Nat → Int32) (k1 : Int32) : Option (Int32 × (Nat → Int32) × Int32 × (Nat → Int32)) :=
  zb3 (fX2_append f_size f_bytes k1) fun r1 u2 u3 =>
  zb3 (fX2_append u2 u3 0) fun r5 u6 u7 =>
  zb4 (fX1_writeChunks t_table p_wide p_high p_pixels u6 u7) fun u9 u10 u11 u12 =>
  zb2 (fX2_appendZeros u11 u12 7) fun u14 u15 =>
  zb3 (fX2_append u14 u15 1) fun r17 u18 u19 =>
  some (u9, u10, u18, u19)
def fX1_write (t_table : Nat → Int32) (p_wide : Int32) (p_high : Int32) (p_pixels : Nat → Int32) (f_size : Int32) (f_bytes : Nat → Int32) : Option (Int32 × (Nat → Int32) × Int32 × (Nat → Int32)) :=
  zb3 (fX2_append f_size f_bytes 113) fun r1 u2 u3 =>
  zb3 (fX2_append u2 u3 111) fun r5 u6 u7 =>
  zb3 (fX2_append u6 u7 105) fun r9 u10 u11 =>
  zb3 (fX2_append u10 u11 102) fun r13 u14 u15 =>
  zb2 (fX2_appendBig u14 u15 4 p_wide) fun u17 u18 =>
  zb2 (fX2_appendBig u17 u18 4 p_high) fun u20 u21 =>
  zb1 (fX5_isOpaque p_wide p_high p_pixels) fun r23 =>
  if r23 = 0 then
    fX1_write_59 t_table p_wide p_high p_pixels u20 u21 4
  else
    fX1_write_59 t_table p_wide p_high p_pixels u20 u21 3
def rmX1_forget : Room := { frames := 2, cells := 0, slots := 0, locals := 45 }
theorem kX1_forget_9 {args : Array Value} {s : State} (h : ∀ w ∈ wsX1_forget, w.before args s = true) : (Cond.fieldLink RX1 9 "FourPictureFiles$ChunkFormat" "table" "[I").before args s = true := h _ (by decide +kernel)
theorem kX1_forget_25 {args : Array Value} {s : State} (h : ∀ w ∈ wsX1_forget, w.before args s = true) : (Cond.fieldLink RX1 25 "FourPictureFiles$ChunkFormat" "last" "I").before args s = true := h _ (by decide +kernel)
theorem iX1_forget_X1 : ∀ w ∈ u_ws RX1 TX1 2, w ∈ wsX1_forget := by decide +kernel
theorem qX1_forget_J7_fill_53178_13 {args : Array Value} {s : State} (hts : ∀ w ∈ wsX1_forget, w.before args s = true) : CallB rmX1_forget s args RX1 13 yJ7_fill_53178 cJ7_fill_53178 4 none wsJ7_fill_53178 rmJ7_fill_53178 0 0 2 ∧ (Cond.static yJ7_fill_53178).before args s = true := va_cwS 2 hts gX1_forget_J7_fill_53178 rfl rfl rfl (by decide +kernel) ⟨Nat.le_of_ble_eq_true rfl, Nat.le_of_ble_eq_true rfl⟩
theorem qX1_forget_X8_opaque_19 {args : Array Value} {s : State} (hts : ∀ w ∈ wsX1_forget, w.before args s = true) (hN : zN s) : va_CN rmX1_forget s args RX1 19 yX8_opaque RX8 cX8_opaque 3 (some .int) wsX8_opaque rmX8_opaque 0 0 3 ∧ (Cond.static yX8_opaque).before args s = true ∧ True := ⟨va_cnB 3 hts gX1_forget_X8_opaque_n19 rfl rfl rfl (hN.nw 42 rfl) (hts (.initialized RX8) (by decide +kernel)) (by decide +kernel) ⟨Nat.le_of_ble_eq_true rfl, Nat.le_of_ble_eq_true rfl⟩, hts (.static yX8_opaque) (by decide +kernel), trivial⟩
set_option maxHeartbeats 4000000 in
set_option maxRecDepth 100000 in
theorem wX1_forget_0 {p : Program} {l : Launch} {e : Env} {s : State} {m : MethodId} {args : Array Value} {below : List Frame} {meth : Method} {c : Code} {D : va_G} {A : Nat → Prop} {Q : State → Prop} {cI : ClassId} {h_t h_t_table : Nat} {zt_last : Int32} {zt_table : Nat → Int32} (C : CallFix p m c cX1_forget 1 s args wsX1_forget RX1) (hN : zN s) (hK : va_K D vwCl [(cI, .int)] s) (hA : ∀ q, s.heap.size ≤ q → A q) (hE : zEv p l e rmX1_forget s m args below meth c cX1_forget D A Q (zwX1 cI h_t h_t_table zt_last zt_table)) {t_last : Int32} {t_table : Nat → Int32} {H : Heap} {locs : List Loc} {ls : Array Slot} : fX1_forget t_table = some (zt_last, zt_table) → va_P D vwCl (zwX1 cI h_t h_t_table t_last t_table) H → va_D A (zwX1 cI h_t h_t_table t_last t_table) → va_S A s.heap H locs → lv_has ls 1 [(0, .ref h_t)] → W p l e rmX1_forget s m args below meth c H locs 0 0 Q (F0 m 0 ls []) := by
  intro hf hP hD hS hl
  obtain ⟨hx, hb, hml, hown, hts⟩ := id C
  unfold fX1_forget at hf
  refine lv_aload_n hx hb dX1_forget_0 rfl (lv_at hl 0 rfl) ?_
  refine va_get (D := D) (ci := 1) (v := .ref h_t_table) (C := RX1) (T := TX1) (N := 2) hx hb hts iX1_forget_X1 hown hK hP 0 rfl rfl 0 (by decide) (kX1_forget_9 hts) (fun _ h9 => h9) rfl dX1_forget_1 ?_
  refine lv_iconst (v := 0) hx hb dX1_forget_4 (by decide) ?_
  obtain ⟨u1, hc2, hf⟩ := zb1_in hf
  refine zc_v (va_runS (As := [.ref h_t_table, .int 0]) (rest := []) C (mJ7_fill_53178 l D cI H.size h_t_table t_table 0 u1 hc2) (qX1_forget_J7_fill_53178_13 hts) ⟨zP_blind, zpre hK hN hP hD [1] rfl rfl⟩ rfl rfl hl.1 rfl (lv_room (Nat.le_of_ble_eq_true rfl)) dX1_forget_5 ⟨Nat.zero_le _, Nat.zero_le _⟩) hP hD hS hA [1] [0] [0, 1] (ws' := zwX1 cI h_t h_t_table t_last u1) rfl rfl rfl rfl rfl rfl (fun H locs hP hD hS => ?_)
  refine lv_aload_n hx hb dX1_forget_8 rfl (lv_at hl 0 rfl) ?_
  refine lv_iconst (v := 0) hx hb dX1_forget_9 (by decide) ?_
  refine lv_iconst (v := 0) hx hb dX1_forget_10 (by decide) ?_
  refine lv_iconst (v := 0) hx hb dX1_forget_11 (by decide) ?_
  obtain ⟨r3, hc4, hf⟩ := zb1_in hf
  refine zc_i (va_runSN (As := [.int 0, .int 0, .int 0]) (rest := [.ref h_t]) C (mX8_opaque l D cI H.size 0 0 0 r3 hc4) (qX1_forget_X8_opaque_19 hts hN) ⟨zP_blind, zpre hK hN hP hD [] rfl rfl⟩ rfl rfl hl.1 rfl (lv_room (Nat.le_of_ble_eq_true rfl)) dX1_forget_12 ⟨Nat.zero_le _, Nat.zero_le _⟩) hP hD hS hA [] [0, 1] [0, 1] (ws' := zwX1 cI h_t h_t_table t_last u1) rfl rfl rfl rfl rfl rfl (fun H locs hP hD hS => ?_)
  refine va_put (D := D) (ci := 1) (v := .int r3) (ty := .int) (C := RX1) (T := TX1) (N := 2) hx hb hts iX1_forget_X1 tyX1 tyX1_ok nmX1 hown hK hP hD hS 0 rfl rfl 1 (by decide) (kX1_forget_25 hts) (fun _ h9 => h9) rfl (by decide +kernel) rfl rfl (Nat.le_of_ble_eq_true rfl) dX1_forget_15 (fun H locs hP hD hS => ?_)
  replace hP : va_P D vwCl (zwX1 cI h_t h_t_table r3 u1) H := hP
  replace hD : va_D A (zwX1 cI h_t h_t_table r3 u1) := hD
  cases hf
  exact hE _ _ _ _ dX1_forget_18 hP hD hS
set_option maxHeartbeats 4000000 in
set_option maxRecDepth 100000 in
theorem mX1_forget (l : Launch) (D : va_G) (cI : ClassId) (sz : Nat) (h_t h_t_table : Nat) (t_last : Int32) (t_table : Nat → Int32) (zt_last : Int32) (zt_table : Nat → Int32) (hf : fX1_forget t_table = some (zt_last, zt_table)) : Met l yX1_forget wsX1_forget rmX1_forget (va_Pc [.ref h_t] (zP D [(cI, .int)] (zwX1 cI h_t h_t_table t_last t_table) sz)) (zQv D (zwX1 cI h_t h_t_table t_last t_table) sz (zwX1 cI h_t h_t_table zt_last zt_table)) 0 0 (va_A (zwX1 cI h_t h_t_table t_last t_table) sz) := by
  refine Met.ofW (cc := cX1_forget) (maxL := 1) (ret := none) (by decide) rfl ?_
  intro p e s m args below meth c s₁ B hml hv
  obtain ⟨rfl, hsz, hP, hK, hD0, hN⟩ := hv
  subst hsz
  have C : CallFix p m c cX1_forget 1 s [.ref h_t].toArray wsX1_forget RX1 := ⟨B.exec, B.bytes, hml, findClass_of_methodNamed B.named, atoms_spec (ws := wsX1_forget) B.pre⟩
  have hl := lv_entry ([.ref h_t]) (n := 1) (Nat.le_of_ble_eq_true rfl)
  rw [lg_entry_eq]
  exact wX1_forget_0 (A := va_A (zwX1 cI h_t h_t_table t_last t_table) s.heap.size) C hN hK (fun q h => Or.inr h) (fun H locs pc ls d hP hD hS => zend_v C.1 C.2.1 B.returns B.notSynchronized d hP hD hS) hf hP hD0.self va_S.rf hl
def rmX1_placeOf : Room := { frames := 1, cells := 0, slots := 0, locals := 20 }
theorem qX1_placeOf_X8_alpha_39 {args : Array Value} {s : State} (hts : ∀ w ∈ wsX1_placeOf, w.before args s = true) (hN : zN s) : va_CN rmX1_placeOf s args RX1 39 yX8_alpha RX8 cX8_alpha 1 (some .int) wsX8_alpha rmX8_alpha 0 0 1 ∧ (Cond.static yX8_alpha).before args s = true ∧ True := ⟨va_cnB 1 hts gX1_placeOf_X8_alpha_n39 rfl rfl rfl (hN.nw 46 rfl) (hts (.initialized RX8) (by decide +kernel)) (by decide +kernel) ⟨Nat.le_of_ble_eq_true rfl, Nat.le_of_ble_eq_true rfl⟩, hts (.static yX8_alpha) (by decide +kernel), trivial⟩
theorem qX1_placeOf_X8_blue_36 {args : Array Value} {s : State} (hts : ∀ w ∈ wsX1_placeOf, w.before args s = true) (hN : zN s) : va_CN rmX1_placeOf s args RX1 36 yX8_blue RX8 cX8_blue 1 (some .int) wsX8_blue rmX8_blue 0 0 1 ∧ (Cond.static yX8_blue).before args s = true ∧ True := ⟨va_cnB 1 hts gX1_placeOf_X8_blue_n36 rfl rfl rfl (hN.nw 45 rfl) (hts (.initialized RX8) (by decide +kernel)) (by decide +kernel) ⟨Nat.le_of_ble_eq_true rfl, Nat.le_of_ble_eq_true rfl⟩, hts (.static yX8_blue) (by decide +kernel), trivial⟩
theorem qX1_placeOf_X8_green_33 {args : Array Value} {s : State} (hts : ∀ w ∈ wsX1_placeOf, w.before args s = true) (hN : zN s) : va_CN rmX1_placeOf s args RX1 33 yX8_green RX8 cX8_green 1 (some .int) wsX8_green rmX8_green 0 0 1 ∧ (Cond.static yX8_green).before args s = true ∧ True := ⟨va_cnB 1 hts gX1_placeOf_X8_green_n33 rfl rfl rfl (hN.nw 44 rfl) (hts (.initialized RX8) (by decide +kernel)) (by decide +kernel) ⟨Nat.le_of_ble_eq_true rfl, Nat.le_of_ble_eq_true rfl⟩, hts (.static yX8_green) (by decide +kernel), trivial⟩
theorem qX1_placeOf_X8_red_29 {args : Array Value} {s : State} (hts : ∀ w ∈ wsX1_placeOf, w.before args s = true) (hN : zN s) : va_CN rmX1_placeOf s args RX1 29 yX8_red RX8 cX8_red 1 (some .int) wsX8_red rmX8_red 0 0 1 ∧ (Cond.static yX8_red).before args s = true ∧ True := ⟨va_cnB 1 hts gX1_placeOf_X8_red_n29 rfl rfl rfl (hN.nw 43 rfl) (hts (.initialized RX8) (by decide +kernel)) (by decide +kernel) ⟨Nat.le_of_ble_eq_true rfl, Nat.le_of_ble_eq_true rfl⟩, hts (.static yX8_red) (by decide +kernel), trivial⟩
set_option maxHeartbeats 4000000 in
set_option maxRecDepth 100000 in
theorem wX1_placeOf_0 {p : Program} {l : Launch} {e : Env} {s : State} {m : MethodId} {args : Array Value} {below : List Frame} {meth : Method} {c : Code} {D : va_G} {A : Nat → Prop} {Q : State → Prop} {cI : ClassId} {r0 : Int32} (C : CallFix p m c cX1_placeOf 1 s args wsX1_placeOf RX1) (hN : zN s) (hK : va_K D vwCl [(cI, .int)] s) (hA : ∀ q, s.heap.size ≤ q → A q) (hE : zEi p l e rmX1_placeOf s m args below meth c cX1_placeOf D A Q (([] : va_W)) r0) {v0 : Int32} {H : Heap} {locs : List Loc} {ls : Array Slot} : fX1_placeOf v0 = some r0 → va_P D vwCl (([] : va_W)) H → va_D A (([] : va_W)) → va_S A s.heap H locs → lv_has ls 1 [(0, .int v0)] → W p l e rmX1_placeOf s m args below meth c H locs 0 0 Q (F0 m 0 ls []) := by
  intro hf hP hD hS hl
  obtain ⟨hx, hb, hml, hown, hts⟩ := id C
  unfold fX1_placeOf at hf
  refine lv_iconst (v := 3) hx hb dX1_placeOf_0 (by decide) ?_
  refine lv_iload_n hx hb dX1_placeOf_1 rfl (lv_at hl 0 rfl) ?_
  obtain ⟨r1, hc2, hf⟩ := zb1_in hf
  refine zc_i (va_runSN (As := [.int v0]) (rest := [.int 3]) C (mX8_red l D cI H.size v0 r1 hc2) (qX1_placeOf_X8_red_29 hts hN) ⟨zP_blind, zpre hK hN hP hD [] rfl rfl⟩ rfl rfl hl.1 rfl (lv_room (Nat.le_of_ble_eq_true rfl)) dX1_placeOf_2 ⟨Nat.zero_le _, Nat.zero_le _⟩) hP hD hS hA [] [] [] (ws' := ([] : va_W)) rfl rfl rfl rfl rfl rfl (fun H locs hP hD hS => ?_)
  refine lv_imul hx hb dX1_placeOf_5 ?_
  refine lv_iconst (v := 5) hx hb dX1_placeOf_6 (by decide) ?_
  refine lv_iload_n hx hb dX1_placeOf_7 rfl (lv_at hl 0 rfl) ?_
  obtain ⟨r3, hc4, hf⟩ := zb1_in hf
  refine zc_i (va_runSN (As := [.int v0]) (rest := [.int 5, .int (3 * r1)]) C (mX8_green l D cI H.size v0 r3 hc4) (qX1_placeOf_X8_green_33 hts hN) ⟨zP_blind, zpre hK hN hP hD [] rfl rfl⟩ rfl rfl hl.1 rfl (lv_room (Nat.le_of_ble_eq_true rfl)) dX1_placeOf_8 ⟨Nat.zero_le _, Nat.zero_le _⟩) hP hD hS hA [] [] [] (ws' := ([] : va_W)) rfl rfl rfl rfl rfl rfl (fun H locs hP hD hS => ?_)
  refine lv_imul hx hb dX1_placeOf_11 ?_
  refine lv_iadd hx hb dX1_placeOf_12 ?_
  refine lv_bipush (v := 7) hx hb dX1_placeOf_13 (by decide) ?_
  refine lv_iload_n hx hb dX1_placeOf_15 rfl (lv_at hl 0 rfl) ?_
  obtain ⟨r5, hc6, hf⟩ := zb1_in hf
  refine zc_i (va_runSN (As := [.int v0]) (rest := [.int 7, .int ((3 * r1) + (5 * r3))]) C (mX8_blue l D cI H.size v0 r5 hc6) (qX1_placeOf_X8_blue_36 hts hN) ⟨zP_blind, zpre hK hN hP hD [] rfl rfl⟩ rfl rfl hl.1 rfl (lv_room (Nat.le_of_ble_eq_true rfl)) dX1_placeOf_16 ⟨Nat.zero_le _, Nat.zero_le _⟩) hP hD hS hA [] [] [] (ws' := ([] : va_W)) rfl rfl rfl rfl rfl rfl (fun H locs hP hD hS => ?_)
  refine lv_imul hx hb dX1_placeOf_19 ?_
  refine lv_iadd hx hb dX1_placeOf_20 ?_
  refine lv_bipush (v := 11) hx hb dX1_placeOf_21 (by decide) ?_
  refine lv_iload_n hx hb dX1_placeOf_23 rfl (lv_at hl 0 rfl) ?_
  obtain ⟨r7, hc8, hf⟩ := zb1_in hf
  refine zc_i (va_runSN (As := [.int v0]) (rest := [.int 11, .int (((3 * r1) + (5 * r3)) + (7 * r5))]) C (mX8_alpha l D cI H.size v0 r7 hc8) (qX1_placeOf_X8_alpha_39 hts hN) ⟨zP_blind, zpre hK hN hP hD [] rfl rfl⟩ rfl rfl hl.1 rfl (lv_room (Nat.le_of_ble_eq_true rfl)) dX1_placeOf_24 ⟨Nat.zero_le _, Nat.zero_le _⟩) hP hD hS hA [] [] [] (ws' := ([] : va_W)) rfl rfl rfl rfl rfl rfl (fun H locs hP hD hS => ?_)
  refine lv_imul hx hb dX1_placeOf_27 ?_
  refine lv_iadd hx hb dX1_placeOf_28 ?_
  refine lv_bipush (v := 64) hx hb dX1_placeOf_29 (by decide) ?_
  refine lv_irem hx hb dX1_placeOf_31 (by decide) ?_
  cases hf
  exact hE _ _ _ _ dX1_placeOf_32 hP hD hS
set_option maxHeartbeats 4000000 in
set_option maxRecDepth 100000 in
theorem mX1_placeOf (l : Launch) (D : va_G) (cI : ClassId) (sz : Nat) (v0 : Int32) (r0 : Int32) (hf : fX1_placeOf v0 = some r0) : Met l yX1_placeOf wsX1_placeOf rmX1_placeOf (va_Pc [.int v0] (zP D [(cI, .int)] (([] : va_W)) sz)) (zQi D (([] : va_W)) sz r0 (([] : va_W))) 0 0 (va_A (([] : va_W)) sz) := by
  refine Met.ofW (cc := cX1_placeOf) (maxL := 1) (ret := (some .int)) (by decide) rfl ?_
  intro p e s m args below meth c s₁ B hml hv
  obtain ⟨rfl, hsz, hP, hK, hD0, hN⟩ := hv
  subst hsz
  have C : CallFix p m c cX1_placeOf 1 s [.int v0].toArray wsX1_placeOf RX1 := ⟨B.exec, B.bytes, hml, findClass_of_methodNamed B.named, atoms_spec (ws := wsX1_placeOf) B.pre⟩
  have hl := lv_entry ([.int v0]) (n := 1) (Nat.le_of_ble_eq_true rfl)
  rw [lg_entry_eq]
  exact wX1_placeOf_0 (A := va_A (([] : va_W)) s.heap.size) C hN hK (fun q h => Or.inr h) (fun H locs pc ls d hP hD hS => zend_i C.1 C.2.1 B.returns B.notSynchronized d hP hD hS) hf hP hD0.self va_S.rf hl
def rmX1_signed : Room := { frames := 0, cells := 0, slots := 0, locals := 0 }
set_option maxHeartbeats 4000000 in
set_option maxRecDepth 100000 in
theorem wX1_signed_0 {p : Program} {l : Launch} {e : Env} {s : State} {m : MethodId} {args : Array Value} {below : List Frame} {meth : Method} {c : Code} {D : va_G} {A : Nat → Prop} {Q : State → Prop} {cI : ClassId} {r0 : Int32} (C : CallFix p m c cX1_signed 1 s args wsX1_signed RX1) (hN : zN s) (hK : va_K D vwCl [(cI, .int)] s) (hA : ∀ q, s.heap.size ≤ q → A q) (hE : zEi p l e rmX1_signed s m args below meth c cX1_signed D A Q (([] : va_W)) r0) {v0 : Int32} {H : Heap} {locs : List Loc} {ls : Array Slot} : fX1_signed v0 = some r0 → va_P D vwCl (([] : va_W)) H → va_D A (([] : va_W)) → va_S A s.heap H locs → lv_has ls 1 [(0, .int v0)] → W p l e rmX1_signed s m args below meth c H locs 0 0 Q (F0 m 0 ls []) := by
  intro hf hP hD hS hl
  obtain ⟨hx, hb, hml, hown, hts⟩ := id C
  unfold fX1_signed at hf
  refine lv_iload_n hx hb dX1_signed_0 rfl (lv_at hl 0 rfl) ?_
  refine lv_sipush (v := 128) hx hb dX1_signed_1 (by decide) ?_
  refine lv_iadd hx hb dX1_signed_4 ?_
  refine lv_sipush (v := 255) hx hb dX1_signed_5 (by decide) ?_
  refine lv_iand hx hb dX1_signed_8 ?_
  refine lv_sipush (v := 128) hx hb dX1_signed_9 (by decide) ?_
  refine lv_isub hx hb dX1_signed_12 ?_
  cases hf
  exact hE _ _ _ _ dX1_signed_13 hP hD hS
set_option maxHeartbeats 4000000 in
set_option maxRecDepth 100000 in
theorem mX1_signed (l : Launch) (D : va_G) (cI : ClassId) (sz : Nat) (v0 : Int32) (r0 : Int32) (hf : fX1_signed v0 = some r0) : Met l yX1_signed wsX1_signed rmX1_signed (va_Pc [.int v0] (zP D [(cI, .int)] (([] : va_W)) sz)) (zQi D (([] : va_W)) sz r0 (([] : va_W))) 0 0 (va_A (([] : va_W)) sz) := by
  refine Met.ofW (cc := cX1_signed) (maxL := 1) (ret := (some .int)) (by decide) rfl ?_
  intro p e s m args below meth c s₁ B hml hv
  obtain ⟨rfl, hsz, hP, hK, hD0, hN⟩ := hv
  subst hsz
  have C : CallFix p m c cX1_signed 1 s [.int v0].toArray wsX1_signed RX1 := ⟨B.exec, B.bytes, hml, findClass_of_methodNamed B.named, atoms_spec (ws := wsX1_signed) B.pre⟩
  have hl := lv_entry ([.int v0]) (n := 1) (Nat.le_of_ble_eq_true rfl)
  rw [lg_entry_eq]
  exact wX1_signed_0 (A := va_A (([] : va_W)) s.heap.size) C hN hK (fun q h => Or.inr h) (fun H locs pc ls d hP hD hS => zend_i C.1 C.2.1 B.returns B.notSynchronized d hP hD hS) hf hP hD0.self va_S.rf hl
def rmX1_isWithin : Room := { frames := 0, cells := 0, slots := 0, locals := 0 }
set_option maxHeartbeats 4000000 in
set_option maxRecDepth 100000 in
theorem wX1_isWithin_0 {p : Program} {l : Launch} {e : Env} {s : State} {m : MethodId} {args : Array Value} {below : List Frame} {meth : Method} {c : Code} {D : va_G} {A : Nat → Prop} {Q : State → Prop} {cI : ClassId} {r0 : Int32} (C : CallFix p m c cX1_isWithin 2 s args wsX1_isWithin RX1) (hN : zN s) (hK : va_K D vwCl [(cI, .int)] s) (hA : ∀ q, s.heap.size ≤ q → A q) (hE : zEz p l e rmX1_isWithin s m args below meth c cX1_isWithin D A Q (([] : va_W)) r0) {v0 : Int32} {v1 : Int32} {H : Heap} {locs : List Loc} {ls : Array Slot} : fX1_isWithin v0 v1 = some r0 → va_P D vwCl (([] : va_W)) H → va_D A (([] : va_W)) → va_S A s.heap H locs → lv_has ls 2 [(0, .int v0), (1, .int v1)] → W p l e rmX1_isWithin s m args below meth c H locs 0 0 Q (F0 m 0 ls []) := by
  intro hf hP hD hS hl
  obtain ⟨hx, hb, hml, hown, hts⟩ := id C
  unfold fX1_isWithin at hf
  refine lv_iload_n hx hb dX1_isWithin_0 rfl (lv_at hl 0 rfl) ?_
  refine lv_iload_n hx hb dX1_isWithin_1 rfl (lv_at hl 1 rfl) ?_
  refine lv_ineg hx hb dX1_isWithin_2 ?_
  refine lv_icmp_lt (tgt := 15) hx hb dX1_isWithin_3 (by decide) (fun c1 => ?_) (fun c1 => ?_)
  · replace hf := zif_t hf c1
    refine lv_iconst (v := 0) hx hb dX1_isWithin_15 (by decide) ?_
    cases hf
    exact hE _ _ _ _ dX1_isWithin_16 rfl hP hD hS
  · replace hf := zif_f hf c1
    refine lv_iload_n hx hb dX1_isWithin_6 rfl (lv_at hl 0 rfl) ?_
    refine lv_iload_n hx hb dX1_isWithin_7 rfl (lv_at hl 1 rfl) ?_
    refine lv_icmp_ge (tgt := 15) hx hb dX1_isWithin_8 (by decide) (fun c2 => ?_) (fun c2 => ?_)
    · replace hf := zif_t hf c2
      refine lv_iconst (v := 0) hx hb dX1_isWithin_15 (by decide) ?_
      cases hf
      exact hE _ _ _ _ dX1_isWithin_16 rfl hP hD hS
    · replace hf := zif_f hf c2
      refine lv_iconst (v := 1) hx hb dX1_isWithin_11 (by decide) ?_
      refine lv_goto (tgt := 16) hx hb dX1_isWithin_12 (by decide) ?_
      cases hf
      exact hE _ _ _ _ dX1_isWithin_16 rfl hP hD hS
set_option maxHeartbeats 4000000 in
set_option maxRecDepth 100000 in
theorem mX1_isWithin (l : Launch) (D : va_G) (cI : ClassId) (sz : Nat) (v0 v1 : Int32) (r0 : Int32) (hf : fX1_isWithin v0 v1 = some r0) : Met l yX1_isWithin wsX1_isWithin rmX1_isWithin (va_Pc [.int v0, .int v1] (zP D [(cI, .int)] (([] : va_W)) sz)) (zQi D (([] : va_W)) sz r0 (([] : va_W))) 0 0 (va_A (([] : va_W)) sz) := by
  refine Met.ofW (cc := cX1_isWithin) (maxL := 2) (ret := (some .boolean)) (by decide) rfl ?_
  intro p e s m args below meth c s₁ B hml hv
  obtain ⟨rfl, hsz, hP, hK, hD0, hN⟩ := hv
  subst hsz
  have C : CallFix p m c cX1_isWithin 2 s [.int v0, .int v1].toArray wsX1_isWithin RX1 := ⟨B.exec, B.bytes, hml, findClass_of_methodNamed B.named, atoms_spec (ws := wsX1_isWithin) B.pre⟩
  have hl := lv_entry ([.int v0, .int v1]) (n := 2) (Nat.le_of_ble_eq_true rfl)
  rw [lg_entry_eq]
  exact wX1_isWithin_0 (A := va_A (([] : va_W)) s.heap.size) C hN hK (fun q h => Or.inr h) (fun H locs pc ls d hn hP hD hS => zend_z C.1 C.2.1 B.returns B.notSynchronized d hn hP hD hS) hf hP hD0.self va_S.rf hl
def rmX1_isThatOf : Room := { frames := 1, cells := 0, slots := 0, locals := 21 }
theorem qX1_isThatOf_X2_at_42 {args : Array Value} {s : State} (hts : ∀ w ∈ wsX1_isThatOf, w.before args s = true) : CallW rmX1_isThatOf s args RX1 RX2 42 yX2_at cX2_at 2 (some .int) wsX2_at rmX2_at 0 0 1 := cwV 1 hts gX1_isThatOf_X2_at rfl rfl rfl (by decide +kernel) ⟨Nat.le_of_ble_eq_true rfl, Nat.le_of_ble_eq_true rfl⟩
set_option maxHeartbeats 4000000 in
set_option maxRecDepth 100000 in
theorem wX1_isThatOf_0 {p : Program} {l : Launch} {e : Env} {s : State} {m : MethodId} {args : Array Value} {below : List Frame} {meth : Method} {c : Code} {D : va_G} {A : Nat → Prop} {Q : State → Prop} {cI : ClassId} {h_t h_t_table h_f h_f_bytes : Nat} {t_last : Int32} {t_table : Nat → Int32} {f_size : Int32} {f_bytes : Nat → Int32} {r0 : Int32} (C : CallFix p m c cX1_isThatOf 2 s args wsX1_isThatOf RX1) (hN : zN s) (hK : va_K D vwCl [(cI, .int)] s) (hA : ∀ q, s.heap.size ≤ q → A q) (hE : zEz p l e rmX1_isThatOf s m args below meth c cX1_isThatOf D A Q (zwX1 cI h_t h_t_table t_last t_table ++ zwX2 cI h_f h_f_bytes f_size f_bytes) r0) {H : Heap} {locs : List Loc} {ls : Array Slot} : fX1_isThatOf f_size f_bytes = some r0 → va_P D vwCl (zwX1 cI h_t h_t_table t_last t_table ++ zwX2 cI h_f h_f_bytes f_size f_bytes) H → va_D A (zwX1 cI h_t h_t_table t_last t_table ++ zwX2 cI h_f h_f_bytes f_size f_bytes) → va_S A s.heap H locs → lv_has ls 2 [(0, .ref h_t), (1, .ref h_f)] → W p l e rmX1_isThatOf s m args below meth c H locs 0 0 Q (F0 m 0 ls []) := by
  intro hf hP hD hS hl
  obtain ⟨hx, hb, hml, hown, hts⟩ := id C
  unfold fX1_isThatOf at hf
  refine lv_aload_n hx hb dX1_isThatOf_0 rfl (lv_at hl 1 rfl) ?_
  refine lv_iconst (v := 0) hx hb dX1_isThatOf_1 (by decide) ?_
  obtain ⟨r1, hc2, hf⟩ := zb1_in hf
  refine zc_i (va_runV (As := [.int 0]) (rest := []) C (mX2_at l D cI H.size h_f h_f_bytes f_size f_bytes 0 r1 hc2) (qX1_isThatOf_X2_at_42 hts) ⟨zP_blind, va_recv hK hP (ci := 2) (q0 := 2) rfl rfl, zpre hK hN hP hD [2, 3] rfl rfl⟩ rfl rfl hl.1 rfl (lv_room (Nat.le_of_ble_eq_true rfl)) dX1_isThatOf_2 ⟨Nat.zero_le _, Nat.zero_le _⟩) hP hD hS hA [2, 3] [0, 1] [0, 1, 2, 3] (ws' := zwX1 cI h_t h_t_table t_last t_table ++ zwX2 cI h_f h_f_bytes f_size f_bytes) rfl rfl rfl rfl rfl rfl (fun H locs hP hD hS => ?_)
  refine lv_bipush (v := 113) hx hb dX1_isThatOf_5 (by decide) ?_
  refine lv_icmp_ne (tgt := 44) hx hb dX1_isThatOf_7 (by decide) (fun c3 => ?_) (fun c3 => ?_)
  · replace hf := zif_f hf c3
    refine lv_iconst (v := 0) hx hb dX1_isThatOf_44 (by decide) ?_
    cases hf
    exact hE _ _ _ _ dX1_isThatOf_45 rfl hP hD hS
  · replace hf := zif_t hf c3
    refine lv_aload_n hx hb dX1_isThatOf_10 rfl (lv_at hl 1 rfl) ?_
    refine lv_iconst (v := 1) hx hb dX1_isThatOf_11 (by decide) ?_
    obtain ⟨r4, hc5, hf⟩ := zb1_in hf
    refine zc_i (va_runV (As := [.int 1]) (rest := []) C (mX2_at l D cI H.size h_f h_f_bytes f_size f_bytes 1 r4 hc5) (qX1_isThatOf_X2_at_42 hts) ⟨zP_blind, va_recv hK hP (ci := 2) (q0 := 2) rfl rfl, zpre hK hN hP hD [2, 3] rfl rfl⟩ rfl rfl hl.1 rfl (lv_room (Nat.le_of_ble_eq_true rfl)) dX1_isThatOf_12 ⟨Nat.zero_le _, Nat.zero_le _⟩) hP hD hS hA [2, 3] [0, 1] [0, 1, 2, 3] (ws' := zwX1 cI h_t h_t_table t_last t_table ++ zwX2 cI h_f h_f_bytes f_size f_bytes) rfl rfl rfl rfl rfl rfl (fun H locs hP hD hS => ?_)
    refine lv_bipush (v := 111) hx hb dX1_isThatOf_15 (by decide) ?_
    refine lv_icmp_ne (tgt := 44) hx hb dX1_isThatOf_17 (by decide) (fun c6 => ?_) (fun c6 => ?_)
    · replace hf := zif_f hf c6
      refine lv_iconst (v := 0) hx hb dX1_isThatOf_44 (by decide) ?_
      cases hf
      exact hE _ _ _ _ dX1_isThatOf_45 rfl hP hD hS
    · replace hf := zif_t hf c6
      refine lv_aload_n hx hb dX1_isThatOf_20 rfl (lv_at hl 1 rfl) ?_
      refine lv_iconst (v := 2) hx hb dX1_isThatOf_21 (by decide) ?_
      obtain ⟨r7, hc8, hf⟩ := zb1_in hf
      refine zc_i (va_runV (As := [.int 2]) (rest := []) C (mX2_at l D cI H.size h_f h_f_bytes f_size f_bytes 2 r7 hc8) (qX1_isThatOf_X2_at_42 hts) ⟨zP_blind, va_recv hK hP (ci := 2) (q0 := 2) rfl rfl, zpre hK hN hP hD [2, 3] rfl rfl⟩ rfl rfl hl.1 rfl (lv_room (Nat.le_of_ble_eq_true rfl)) dX1_isThatOf_22 ⟨Nat.zero_le _, Nat.zero_le _⟩) hP hD hS hA [2, 3] [0, 1] [0, 1, 2, 3] (ws' := zwX1 cI h_t h_t_table t_last t_table ++ zwX2 cI h_f h_f_bytes f_size f_bytes) rfl rfl rfl rfl rfl rfl (fun H locs hP hD hS => ?_)
      refine lv_bipush (v := 105) hx hb dX1_isThatOf_25 (by decide) ?_
      refine lv_icmp_ne (tgt := 44) hx hb dX1_isThatOf_27 (by decide) (fun c9 => ?_) (fun c9 => ?_)
      · replace hf := zif_f hf c9
        refine lv_iconst (v := 0) hx hb dX1_isThatOf_44 (by decide) ?_
        cases hf
        exact hE _ _ _ _ dX1_isThatOf_45 rfl hP hD hS
      · replace hf := zif_t hf c9
        refine lv_aload_n hx hb dX1_isThatOf_30 rfl (lv_at hl 1 rfl) ?_
        refine lv_iconst (v := 3) hx hb dX1_isThatOf_31 (by decide) ?_
        obtain ⟨r10, hc11, hf⟩ := zb1_in hf
        refine zc_i (va_runV (As := [.int 3]) (rest := []) C (mX2_at l D cI H.size h_f h_f_bytes f_size f_bytes 3 r10 hc11) (qX1_isThatOf_X2_at_42 hts) ⟨zP_blind, va_recv hK hP (ci := 2) (q0 := 2) rfl rfl, zpre hK hN hP hD [2, 3] rfl rfl⟩ rfl rfl hl.1 rfl (lv_room (Nat.le_of_ble_eq_true rfl)) dX1_isThatOf_32 ⟨Nat.zero_le _, Nat.zero_le _⟩) hP hD hS hA [2, 3] [0, 1] [0, 1, 2, 3] (ws' := zwX1 cI h_t h_t_table t_last t_table ++ zwX2 cI h_f h_f_bytes f_size f_bytes) rfl rfl rfl rfl rfl rfl (fun H locs hP hD hS => ?_)
        refine lv_bipush (v := 102) hx hb dX1_isThatOf_35 (by decide) ?_
        refine lv_icmp_ne (tgt := 44) hx hb dX1_isThatOf_37 (by decide) (fun c12 => ?_) (fun c12 => ?_)
        · replace hf := zif_f hf c12
          refine lv_iconst (v := 0) hx hb dX1_isThatOf_44 (by decide) ?_
          cases hf
          exact hE _ _ _ _ dX1_isThatOf_45 rfl hP hD hS
        · replace hf := zif_t hf c12
          refine lv_iconst (v := 1) hx hb dX1_isThatOf_40 (by decide) ?_
          refine lv_goto (tgt := 45) hx hb dX1_isThatOf_41 (by decide) ?_
          cases hf
          exact hE _ _ _ _ dX1_isThatOf_45 rfl hP hD hS
set_option maxHeartbeats 4000000 in
set_option maxRecDepth 100000 in
theorem mX1_isThatOf (l : Launch) (D : va_G) (cI : ClassId) (sz : Nat) (h_t h_t_table h_f h_f_bytes : Nat) (t_last : Int32) (t_table : Nat → Int32) (f_size : Int32) (f_bytes : Nat → Int32) (r0 : Int32) (hf : fX1_isThatOf f_size f_bytes = some r0) : Met l yX1_isThatOf wsX1_isThatOf rmX1_isThatOf (va_Pc [.ref h_t, .ref h_f] (zP D [(cI, .int)] (zwX1 cI h_t h_t_table t_last t_table ++ zwX2 cI h_f h_f_bytes f_size f_bytes) sz)) (zQi D (zwX1 cI h_t h_t_table t_last t_table ++ zwX2 cI h_f h_f_bytes f_size f_bytes) sz r0 (zwX1 cI h_t h_t_table t_last t_table ++ zwX2 cI h_f h_f_bytes f_size f_bytes)) 0 0 (va_A (zwX1 cI h_t h_t_table t_last t_table ++ zwX2 cI h_f h_f_bytes f_size f_bytes) sz) := by
  refine Met.ofW (cc := cX1_isThatOf) (maxL := 2) (ret := (some .boolean)) (by decide) rfl ?_
  intro p e s m args below meth c s₁ B hml hv
  obtain ⟨rfl, hsz, hP, hK, hD0, hN⟩ := hv
  subst hsz
  have C : CallFix p m c cX1_isThatOf 2 s [.ref h_t, .ref h_f].toArray wsX1_isThatOf RX1 := ⟨B.exec, B.bytes, hml, findClass_of_methodNamed B.named, atoms_spec (ws := wsX1_isThatOf) B.pre⟩
  have hl := lv_entry ([.ref h_t, .ref h_f]) (n := 2) (Nat.le_of_ble_eq_true rfl)
  rw [lg_entry_eq]
  exact wX1_isThatOf_0 (A := va_A (zwX1 cI h_t h_t_table t_last t_table ++ zwX2 cI h_f h_f_bytes f_size f_bytes) s.heap.size) C hN hK (fun q h => Or.inr h) (fun H locs pc ls d hn hP hD hS => zend_z C.1 C.2.1 B.returns B.notSynchronized d hn hP hD hS) hf hP hD0.self va_S.rf hl
def rmX1_canHold : Room := { frames := 0, cells := 0, slots := 0, locals := 0 }
set_option maxHeartbeats 4000000 in
set_option maxRecDepth 100000 in
theorem wX1_canHold_0 {p : Program} {l : Launch} {e : Env} {s : State} {m : MethodId} {args : Array Value} {below : List Frame} {meth : Method} {c : Code} {D : va_G} {A : Nat → Prop} {Q : State → Prop} {cI : ClassId} {h_t h_t_table h_p h_p_pixels : Nat} {t_last : Int32} {t_table : Nat → Int32} {p_wide : Int32} {p_high : Int32} {p_pixels : Nat → Int32} {r0 : Int32} (C : CallFix p m c cX1_canHold 2 s args wsX1_canHold RX1) (hN : zN s) (hK : va_K D vwCl [(cI, .int)] s) (hA : ∀ q, s.heap.size ≤ q → A q) (hE : zEz p l e rmX1_canHold s m args below meth c cX1_canHold D A Q (zwX1 cI h_t h_t_table t_last t_table ++ zwX5 cI h_p h_p_pixels p_wide p_high p_pixels) r0) {H : Heap} {locs : List Loc} {ls : Array Slot} : fX1_canHold = some r0 → va_P D vwCl (zwX1 cI h_t h_t_table t_last t_table ++ zwX5 cI h_p h_p_pixels p_wide p_high p_pixels) H → va_D A (zwX1 cI h_t h_t_table t_last t_table ++ zwX5 cI h_p h_p_pixels p_wide p_high p_pixels) → va_S A s.heap H locs → lv_has ls 2 [(0, .ref h_t), (1, .ref h_p)] → W p l e rmX1_canHold s m args below meth c H locs 0 0 Q (F0 m 0 ls []) := by
  intro hf hP hD hS hl
  obtain ⟨hx, hb, hml, hown, hts⟩ := id C
  unfold fX1_canHold at hf
  refine lv_iconst (v := 1) hx hb dX1_canHold_0 (by decide) ?_
  cases hf
  exact hE _ _ _ _ dX1_canHold_1 rfl hP hD hS
set_option maxHeartbeats 4000000 in
set_option maxRecDepth 100000 in
theorem mX1_canHold (l : Launch) (D : va_G) (cI : ClassId) (sz : Nat) (h_t h_t_table h_p h_p_pixels : Nat) (t_last : Int32) (t_table : Nat → Int32) (p_wide : Int32) (p_high : Int32) (p_pixels : Nat → Int32) (r0 : Int32) (hf : fX1_canHold = some r0) : Met l yX1_canHold wsX1_canHold rmX1_canHold (va_Pc [.ref h_t, .ref h_p] (zP D [(cI, .int)] (zwX1 cI h_t h_t_table t_last t_table ++ zwX5 cI h_p h_p_pixels p_wide p_high p_pixels) sz)) (zQi D (zwX1 cI h_t h_t_table t_last t_table ++ zwX5 cI h_p h_p_pixels p_wide p_high p_pixels) sz r0 (zwX1 cI h_t h_t_table t_last t_table ++ zwX5 cI h_p h_p_pixels p_wide p_high p_pixels)) 0 0 (va_A (zwX1 cI h_t h_t_table t_last t_table ++ zwX5 cI h_p h_p_pixels p_wide p_high p_pixels) sz) := by
  refine Met.ofW (cc := cX1_canHold) (maxL := 2) (ret := (some .boolean)) (by decide) rfl ?_
  intro p e s m args below meth c s₁ B hml hv
  obtain ⟨rfl, hsz, hP, hK, hD0, hN⟩ := hv
  subst hsz
  have C : CallFix p m c cX1_canHold 2 s [.ref h_t, .ref h_p].toArray wsX1_canHold RX1 := ⟨B.exec, B.bytes, hml, findClass_of_methodNamed B.named, atoms_spec (ws := wsX1_canHold) B.pre⟩
  have hl := lv_entry ([.ref h_t, .ref h_p]) (n := 2) (Nat.le_of_ble_eq_true rfl)
  rw [lg_entry_eq]
  exact wX1_canHold_0 (A := va_A (zwX1 cI h_t h_t_table t_last t_table ++ zwX5 cI h_p h_p_pixels p_wide p_high p_pixels) s.heap.size) C hN hK (fun q h => Or.inr h) (fun H locs pc ls d hn hP hD hS => zend_z C.1 C.2.1 B.returns B.notSynchronized d hn hP hD hS) hf hP hD0.self va_S.rf hl
def rmX1_lastPlus : Room := { frames := 1, cells := 0, slots := 0, locals := 23 }
theorem kX1_lastPlus_25 {args : Array Value} {s : State} (h : ∀ w ∈ wsX1_lastPlus, w.before args s = true) : (Cond.fieldLink RX1 25 "FourPictureFiles$ChunkFormat" "last" "I").before args s = true := h _ (by decide +kernel)
theorem iX1_lastPlus_X1 : ∀ w ∈ u_ws RX1 TX1 2, w ∈ wsX1_lastPlus := by decide +kernel
theorem qX1_lastPlus_X8_alpha_39 {args : Array Value} {s : State} (hts : ∀ w ∈ wsX1_lastPlus, w.before args s = true) (hN : zN s) : va_CN rmX1_lastPlus s args RX1 39 yX8_alpha RX8 cX8_alpha 1 (some .int) wsX8_alpha rmX8_alpha 0 0 1 ∧ (Cond.static yX8_alpha).before args s = true ∧ True := ⟨va_cnB 1 hts gX1_lastPlus_X8_alpha_n39 rfl rfl rfl (hN.nw 46 rfl) (hts (.initialized RX8) (by decide +kernel)) (by decide +kernel) ⟨Nat.le_of_ble_eq_true rfl, Nat.le_of_ble_eq_true rfl⟩, hts (.static yX8_alpha) (by decide +kernel), trivial⟩
theorem qX1_lastPlus_X8_blue_36 {args : Array Value} {s : State} (hts : ∀ w ∈ wsX1_lastPlus, w.before args s = true) (hN : zN s) : va_CN rmX1_lastPlus s args RX1 36 yX8_blue RX8 cX8_blue 1 (some .int) wsX8_blue rmX8_blue 0 0 1 ∧ (Cond.static yX8_blue).before args s = true ∧ True := ⟨va_cnB 1 hts gX1_lastPlus_X8_blue_n36 rfl rfl rfl (hN.nw 45 rfl) (hts (.initialized RX8) (by decide +kernel)) (by decide +kernel) ⟨Nat.le_of_ble_eq_true rfl, Nat.le_of_ble_eq_true rfl⟩, hts (.static yX8_blue) (by decide +kernel), trivial⟩
theorem qX1_lastPlus_X8_colour_140 {args : Array Value} {s : State} (hts : ∀ w ∈ wsX1_lastPlus, w.before args s = true) (hN : zN s) : va_CN rmX1_lastPlus s args RX1 140 yX8_colour RX8 cX8_colour 4 (some .int) wsX8_colour rmX8_colour 0 0 4 ∧ (Cond.static yX8_colour).before args s = true ∧ True := ⟨va_cnB 4 hts gX1_lastPlus_X8_colour_n140 rfl rfl rfl (hN.nw 54 rfl) (hts (.initialized RX8) (by decide +kernel)) (by decide +kernel) ⟨Nat.le_of_ble_eq_true rfl, Nat.le_of_ble_eq_true rfl⟩, hts (.static yX8_colour) (by decide +kernel), trivial⟩
theorem qX1_lastPlus_X8_green_33 {args : Array Value} {s : State} (hts : ∀ w ∈ wsX1_lastPlus, w.before args s = true) (hN : zN s) : va_CN rmX1_lastPlus s args RX1 33 yX8_green RX8 cX8_green 1 (some .int) wsX8_green rmX8_green 0 0 1 ∧ (Cond.static yX8_green).before args s = true ∧ True := ⟨va_cnB 1 hts gX1_lastPlus_X8_green_n33 rfl rfl rfl (hN.nw 44 rfl) (hts (.initialized RX8) (by decide +kernel)) (by decide +kernel) ⟨Nat.le_of_ble_eq_true rfl, Nat.le_of_ble_eq_true rfl⟩, hts (.static yX8_green) (by decide +kernel), trivial⟩
theorem qX1_lastPlus_X8_red_29 {args : Array Value} {s : State} (hts : ∀ w ∈ wsX1_lastPlus, w.before args s = true) (hN : zN s) : va_CN rmX1_lastPlus s args RX1 29 yX8_red RX8 cX8_red 1 (some .int) wsX8_red rmX8_red 0 0 1 ∧ (Cond.static yX8_red).before args s = true ∧ True := ⟨va_cnB 1 hts gX1_lastPlus_X8_red_n29 rfl rfl rfl (hN.nw 43 rfl) (hts (.initialized RX8) (by decide +kernel)) (by decide +kernel) ⟨Nat.le_of_ble_eq_true rfl, Nat.le_of_ble_eq_true rfl⟩, hts (.static yX8_red) (by decide +kernel), trivial⟩
set_option maxHeartbeats 4000000 in
set_option maxRecDepth 100000 in
theorem wX1_lastPlus_0 {p : Program} {l : Launch} {e : Env} {s : State} {m : MethodId} {args : Array Value} {below : List Frame} {meth : Method} {c : Code} {D : va_G} {A : Nat → Prop} {Q : State → Prop} {cI : ClassId} {h_t h_t_table : Nat} {t_last : Int32} {t_table : Nat → Int32} {r0 : Int32} (C : CallFix p m c cX1_lastPlus 4 s args wsX1_lastPlus RX1) (hN : zN s) (hK : va_K D vwCl [(cI, .int)] s) (hA : ∀ q, s.heap.size ≤ q → A q) (hE : zEi p l e rmX1_lastPlus s m args below meth c cX1_lastPlus D A Q (zwX1 cI h_t h_t_table t_last t_table) r0) {v0 : Int32} {v1 : Int32} {v2 : Int32} {H : Heap} {locs : List Loc} {ls : Array Slot} : fX1_lastPlus t_last v0 v1 v2 = some r0 → va_P D vwCl (zwX1 cI h_t h_t_table t_last t_table) H → va_D A (zwX1 cI h_t h_t_table t_last t_table) → va_S A s.heap H locs → lv_has ls 4 [(0, .ref h_t), (1, .int v0), (2, .int v1), (3, .int v2)] → W p l e rmX1_lastPlus s m args below meth c H locs 0 0 Q (F0 m 0 ls []) := by
  intro hf hP hD hS hl
  obtain ⟨hx, hb, hml, hown, hts⟩ := id C
  unfold fX1_lastPlus at hf
  refine lv_aload_n hx hb dX1_lastPlus_0 rfl (lv_at hl 0 rfl) ?_
  refine va_get (D := D) (ci := 1) (v := .int t_last) (C := RX1) (T := TX1) (N := 2) hx hb hts iX1_lastPlus_X1 hown hK hP 0 rfl rfl 1 (by decide) (kX1_lastPlus_25 hts) (fun _ h9 => h9) rfl dX1_lastPlus_1 ?_
  obtain ⟨r1, hc2, hf⟩ := zb1_in hf
  refine zc_i (va_runSN (As := [.int t_last]) (rest := []) C (mX8_red l D cI H.size t_last r1 hc2) (qX1_lastPlus_X8_red_29 hts hN) ⟨zP_blind, zpre hK hN hP hD [] rfl rfl⟩ rfl rfl hl.1 rfl (lv_room (Nat.le_of_ble_eq_true rfl)) dX1_lastPlus_4 ⟨Nat.zero_le _, Nat.zero_le _⟩) hP hD hS hA [] [0, 1] [0, 1] (ws' := zwX1 cI h_t h_t_table t_last t_table) rfl rfl rfl rfl rfl rfl (fun H locs hP hD hS => ?_)
  refine lv_iload_n hx hb dX1_lastPlus_7 rfl (lv_at hl 1 rfl) ?_
  refine lv_iadd hx hb dX1_lastPlus_8 ?_
  refine lv_sipush (v := 255) hx hb dX1_lastPlus_9 (by decide) ?_
  refine lv_iand hx hb dX1_lastPlus_12 ?_
  refine lv_aload_n hx hb dX1_lastPlus_13 rfl (lv_at hl 0 rfl) ?_
  refine va_get (D := D) (ci := 1) (v := .int t_last) (C := RX1) (T := TX1) (N := 2) hx hb hts iX1_lastPlus_X1 hown hK hP 0 rfl rfl 1 (by decide) (kX1_lastPlus_25 hts) (fun _ h9 => h9) rfl dX1_lastPlus_14 ?_
  obtain ⟨r3, hc4, hf⟩ := zb1_in hf
  refine zc_i (va_runSN (As := [.int t_last]) (rest := [.int ((r1 + v0) &&& 255)]) C (mX8_green l D cI H.size t_last r3 hc4) (qX1_lastPlus_X8_green_33 hts hN) ⟨zP_blind, zpre hK hN hP hD [] rfl rfl⟩ rfl rfl hl.1 rfl (lv_room (Nat.le_of_ble_eq_true rfl)) dX1_lastPlus_17 ⟨Nat.zero_le _, Nat.zero_le _⟩) hP hD hS hA [] [0, 1] [0, 1] (ws' := zwX1 cI h_t h_t_table t_last t_table) rfl rfl rfl rfl rfl rfl (fun H locs hP hD hS => ?_)
  refine lv_iload_n hx hb dX1_lastPlus_20 rfl (lv_at hl 2 rfl) ?_
  refine lv_iadd hx hb dX1_lastPlus_21 ?_
  refine lv_sipush (v := 255) hx hb dX1_lastPlus_22 (by decide) ?_
  refine lv_iand hx hb dX1_lastPlus_25 ?_
  refine lv_aload_n hx hb dX1_lastPlus_26 rfl (lv_at hl 0 rfl) ?_
  refine va_get (D := D) (ci := 1) (v := .int t_last) (C := RX1) (T := TX1) (N := 2) hx hb hts iX1_lastPlus_X1 hown hK hP 0 rfl rfl 1 (by decide) (kX1_lastPlus_25 hts) (fun _ h9 => h9) rfl dX1_lastPlus_27 ?_
  obtain ⟨r5, hc6, hf⟩ := zb1_in hf
  refine zc_i (va_runSN (As := [.int t_last]) (rest := [.int ((r3 + v1) &&& 255), .int ((r1 + v0) &&& 255)]) C (mX8_blue l D cI H.size t_last r5 hc6) (qX1_lastPlus_X8_blue_36 hts hN) ⟨zP_blind, zpre hK hN hP hD [] rfl rfl⟩ rfl rfl hl.1 rfl (lv_room (Nat.le_of_ble_eq_true rfl)) dX1_lastPlus_30 ⟨Nat.zero_le _, Nat.zero_le _⟩) hP hD hS hA [] [0, 1] [0, 1] (ws' := zwX1 cI h_t h_t_table t_last t_table) rfl rfl rfl rfl rfl rfl (fun H locs hP hD hS => ?_)
  refine lv_iload_n hx hb dX1_lastPlus_33 rfl (lv_at hl 3 rfl) ?_
  refine lv_iadd hx hb dX1_lastPlus_34 ?_
  refine lv_sipush (v := 255) hx hb dX1_lastPlus_35 (by decide) ?_
  refine lv_iand hx hb dX1_lastPlus_38 ?_
  refine lv_aload_n hx hb dX1_lastPlus_39 rfl (lv_at hl 0 rfl) ?_
  refine va_get (D := D) (ci := 1) (v := .int t_last) (C := RX1) (T := TX1) (N := 2) hx hb hts iX1_lastPlus_X1 hown hK hP 0 rfl rfl 1 (by decide) (kX1_lastPlus_25 hts) (fun _ h9 => h9) rfl dX1_lastPlus_40 ?_
  obtain ⟨r7, hc8, hf⟩ := zb1_in hf
  refine zc_i (va_runSN (As := [.int t_last]) (rest := [.int ((r5 + v2) &&& 255), .int ((r3 + v1) &&& 255), .int ((r1 + v0) &&& 255)]) C (mX8_alpha l D cI H.size t_last r7 hc8) (qX1_lastPlus_X8_alpha_39 hts hN) ⟨zP_blind, zpre hK hN hP hD [] rfl rfl⟩ rfl rfl hl.1 rfl (lv_room (Nat.le_of_ble_eq_true rfl)) dX1_lastPlus_43 ⟨Nat.zero_le _, Nat.zero_le _⟩) hP hD hS hA [] [0, 1] [0, 1] (ws' := zwX1 cI h_t h_t_table t_last t_table) rfl rfl rfl rfl rfl rfl (fun H locs hP hD hS => ?_)
  obtain ⟨r9, hc10, hf⟩ := zb1_in hf
  refine zc_i (va_runSN (As := [.int ((r1 + v0) &&& 255), .int ((r3 + v1) &&& 255), .int ((r5 + v2) &&& 255), .int r7]) (rest := []) C (mX8_colour l D cI H.size ((r1 + v0) &&& 255) ((r3 + v1) &&& 255) ((r5 + v2) &&& 255) r7 r9 hc10) (qX1_lastPlus_X8_colour_140 hts hN) ⟨zP_blind, zpre hK hN hP hD [] rfl rfl⟩ rfl rfl hl.1 rfl (lv_room (Nat.le_of_ble_eq_true rfl)) dX1_lastPlus_46 ⟨Nat.zero_le _, Nat.zero_le _⟩) hP hD hS hA [] [0, 1] [0, 1] (ws' := zwX1 cI h_t h_t_table t_last t_table) rfl rfl rfl rfl rfl rfl (fun H locs hP hD hS => ?_)
  cases hf
  exact hE _ _ _ _ dX1_lastPlus_49 hP hD hS
set_option maxHeartbeats 4000000 in
set_option maxRecDepth 100000 in
theorem mX1_lastPlus (l : Launch) (D : va_G) (cI : ClassId) (sz : Nat) (h_t h_t_table : Nat) (t_last : Int32) (t_table : Nat → Int32) (v0 v1 v2 : Int32) (r0 : Int32) (hf : fX1_lastPlus t_last v0 v1 v2 = some r0) : Met l yX1_lastPlus wsX1_lastPlus rmX1_lastPlus (va_Pc [.ref h_t, .int v0, .int v1, .int v2] (zP D [(cI, .int)] (zwX1 cI h_t h_t_table t_last t_table) sz)) (zQi D (zwX1 cI h_t h_t_table t_last t_table) sz r0 (zwX1 cI h_t h_t_table t_last t_table)) 0 0 (va_A (zwX1 cI h_t h_t_table t_last t_table) sz) := by
  refine Met.ofW (cc := cX1_lastPlus) (maxL := 4) (ret := (some .int)) (by decide) rfl ?_
  intro p e s m args below meth c s₁ B hml hv
  obtain ⟨rfl, hsz, hP, hK, hD0, hN⟩ := hv
  subst hsz
  have C : CallFix p m c cX1_lastPlus 4 s [.ref h_t, .int v0, .int v1, .int v2].toArray wsX1_lastPlus RX1 := ⟨B.exec, B.bytes, hml, findClass_of_methodNamed B.named, atoms_spec (ws := wsX1_lastPlus) B.pre⟩
  have hl := lv_entry ([.ref h_t, .int v0, .int v1, .int v2]) (n := 4) (Nat.le_of_ble_eq_true rfl)
  rw [lg_entry_eq]
  exact wX1_lastPlus_0 (A := va_A (zwX1 cI h_t h_t_table t_last t_table) s.heap.size) C hN hK (fun q h => Or.inr h) (fun H locs pc ls d hP hD hS => zend_i C.1 C.2.1 B.returns B.notSynchronized d hP hD hS) hf hP hD0.self va_S.rf hl
def rmX1_writeColours : Room := { frames := 2, cells := 0, slots := 0, locals := 44 }
theorem kX1_writeColours_25 {args : Array Value} {s : State} (h : ∀ w ∈ wsX1_writeColours, w.before args s = true) : (Cond.fieldLink RX1 25 "FourPictureFiles$ChunkFormat" "last" "I").before args s = true := h _ (by decide +kernel)
theorem iX1_writeColours_X1 : ∀ w ∈ u_ws RX1 TX1 2, w ∈ wsX1_writeColours := by decide +kernel
theorem qX1_writeColours_X1_isWithin_98 {args : Array Value} {s : State} (hts : ∀ w ∈ wsX1_writeColours, w.before args s = true) : CallB rmX1_writeColours s args RX1 98 yX1_isWithin cX1_isWithin 2 (some .boolean) wsX1_isWithin rmX1_isWithin 0 0 2 ∧ (Cond.static yX1_isWithin).before args s = true := va_cwS 2 hts gX1_writeColours_X1_isWithin rfl rfl rfl (by decide +kernel) ⟨Nat.le_of_ble_eq_true rfl, Nat.le_of_ble_eq_true rfl⟩
theorem qX1_writeColours_X1_signed_95 {args : Array Value} {s : State} (hts : ∀ w ∈ wsX1_writeColours, w.before args s = true) : CallB rmX1_writeColours s args RX1 95 yX1_signed cX1_signed 1 (some .int) wsX1_signed rmX1_signed 0 0 1 ∧ (Cond.static yX1_signed).before args s = true := va_cwS 1 hts gX1_writeColours_X1_signed rfl rfl rfl (by decide +kernel) ⟨Nat.le_of_ble_eq_true rfl, Nat.le_of_ble_eq_true rfl⟩
theorem qX1_writeColours_X2_append_47 {args : Array Value} {s : State} (hts : ∀ w ∈ wsX1_writeColours, w.before args s = true) : CallW rmX1_writeColours s args RX1 RX2 47 yX2_append cX2_append 2 (some .boolean) wsX2_append rmX2_append 0 0 1 := cwV 1 hts gX1_writeColours_X2_append rfl rfl rfl (by decide +kernel) ⟨Nat.le_of_ble_eq_true rfl, Nat.le_of_ble_eq_true rfl⟩
theorem qX1_writeColours_X2_appendBig_56 {args : Array Value} {s : State} (hts : ∀ w ∈ wsX1_writeColours, w.before args s = true) : CallW rmX1_writeColours s args RX1 RX2 56 yX2_appendBig cX2_appendBig 4 none wsX2_appendBig rmX2_appendBig 0 0 2 := cwV 2 hts gX1_writeColours_X2_appendBig rfl rfl rfl (by decide +kernel) ⟨Nat.le_of_ble_eq_true rfl, Nat.le_of_ble_eq_true rfl⟩
theorem qX1_writeColours_X8_blue_36 {args : Array Value} {s : State} (hts : ∀ w ∈ wsX1_writeColours, w.before args s = true) (hN : zN s) : va_CN rmX1_writeColours s args RX1 36 yX8_blue RX8 cX8_blue 1 (some .int) wsX8_blue rmX8_blue 0 0 1 ∧ (Cond.static yX8_blue).before args s = true ∧ True := ⟨va_cnB 1 hts gX1_writeColours_X8_blue_n36 rfl rfl rfl (hN.nw 45 rfl) (hts (.initialized RX8) (by decide +kernel)) (by decide +kernel) ⟨Nat.le_of_ble_eq_true rfl, Nat.le_of_ble_eq_true rfl⟩, hts (.static yX8_blue) (by decide +kernel), trivial⟩
theorem qX1_writeColours_X8_green_33 {args : Array Value} {s : State} (hts : ∀ w ∈ wsX1_writeColours, w.before args s = true) (hN : zN s) : va_CN rmX1_writeColours s args RX1 33 yX8_green RX8 cX8_green 1 (some .int) wsX8_green rmX8_green 0 0 1 ∧ (Cond.static yX8_green).before args s = true ∧ True := ⟨va_cnB 1 hts gX1_writeColours_X8_green_n33 rfl rfl rfl (hN.nw 44 rfl) (hts (.initialized RX8) (by decide +kernel)) (by decide +kernel) ⟨Nat.le_of_ble_eq_true rfl, Nat.le_of_ble_eq_true rfl⟩, hts (.static yX8_green) (by decide +kernel), trivial⟩
theorem qX1_writeColours_X8_red_29 {args : Array Value} {s : State} (hts : ∀ w ∈ wsX1_writeColours, w.before args s = true) (hN : zN s) : va_CN rmX1_writeColours s args RX1 29 yX8_red RX8 cX8_red 1 (some .int) wsX8_red rmX8_red 0 0 1 ∧ (Cond.static yX8_red).before args s = true ∧ True := ⟨va_cnB 1 hts gX1_writeColours_X8_red_n29 rfl rfl rfl (hN.nw 43 rfl) (hts (.initialized RX8) (by decide +kernel)) (by decide +kernel) ⟨Nat.le_of_ble_eq_true rfl, Nat.le_of_ble_eq_true rfl⟩, hts (.static yX8_red) (by decide +kernel), trivial⟩
set_option maxHeartbeats 4000000 in
set_option maxRecDepth 100000 in
theorem wX1_writeColours_187 {p : Program} {l : Launch} {e : Env} {s : State} {m : MethodId} {args : Array Value} {below : List Frame} {meth : Method} {c : Code} {D : va_G} {A : Nat → Prop} {Q : State → Prop} {cI : ClassId} {h_t h_t_table h_f h_f_bytes : Nat} {t_last : Int32} {t_table : Nat → Int32} {zf_size : Int32} {zf_bytes : Nat → Int32} (C : CallFix p m c cX1_writeColours 8 s args wsX1_writeColours RX1) (hN : zN s) (hK : va_K D vwCl [(cI, .int)] s) (hA : ∀ q, s.heap.size ≤ q → A q) (hE : zEv p l e rmX1_writeColours s m args below meth c cX1_writeColours D A Q (zwX1 cI h_t h_t_table t_last t_table ++ zwX2 cI h_f h_f_bytes zf_size zf_bytes)) {f_size : Int32} {f_bytes : Nat → Int32} {l1 : Int32} {l3 : Int32} {l4 : Int32} {l5 : Int32} {l6 : Int32} {l7 : Int32} {H : Heap} {locs : List Loc} {ls : Array Slot} : fX1_writeColours_187 f_size f_bytes l1 = some (zf_size, zf_bytes) → va_P D vwCl (zwX1 cI h_t h_t_table t_last t_table ++ zwX2 cI h_f h_f_bytes f_size f_bytes) H → va_D A (zwX1 cI h_t h_t_table t_last t_table ++ zwX2 cI h_f h_f_bytes f_size f_bytes) → va_S A s.heap H locs → lv_has ls 8 [(0, .ref h_t), (1, .int l1), (2, .ref h_f), (3, .int l3), (4, .int l4), (5, .int l5), (6, .int l6), (7, .int l7)] → W p l e rmX1_writeColours s m args below meth c H locs 0 0 Q (F0 m 187 ls []) := by
  intro hf hP hD hS hl
  obtain ⟨hx, hb, hml, hown, hts⟩ := id C
  unfold fX1_writeColours_187 at hf
  refine lv_aload_n hx hb dX1_writeColours_187 rfl (lv_at hl 2 rfl) ?_
  refine lv_sipush (v := 254) hx hb dX1_writeColours_188 (by decide) ?_
  obtain ⟨r1, u2, u3, hc4, hf⟩ := zb3_in hf
  refine zc_i (va_runV (As := [.int 254]) (rest := []) C (mX2_append l D cI H.size h_f h_f_bytes f_size f_bytes 254 r1 u2 u3 hc4) (qX1_writeColours_X2_append_47 hts) ⟨zP_blind, va_recv hK hP (ci := 2) (q0 := 2) rfl rfl, zpre hK hN hP hD [2, 3] rfl rfl⟩ rfl rfl hl.1 rfl (lv_room (Nat.le_of_ble_eq_true rfl)) dX1_writeColours_191 ⟨Nat.zero_le _, Nat.zero_le _⟩) hP hD hS hA [2, 3] [0, 1] [0, 1, 2, 3] (ws' := zwX1 cI h_t h_t_table t_last t_table ++ zwX2 cI h_f h_f_bytes u2 u3) rfl rfl rfl rfl rfl rfl (fun H locs hP hD hS => ?_)
  refine lv_pop hx hb dX1_writeColours_194 rfl ?_
  refine lv_aload_n hx hb dX1_writeColours_195 rfl (lv_at hl 2 rfl) ?_
  refine lv_iconst (v := 3) hx hb dX1_writeColours_196 (by decide) ?_
  refine lv_iload_n hx hb dX1_writeColours_197 rfl (lv_at hl 1 rfl) ?_
  refine lv_bipush (v := 8) hx hb dX1_writeColours_198 (by decide) ?_
  refine lv_iushr (v := zushr l1 8) hx hb dX1_writeColours_200 rfl ?_
  obtain ⟨u5, u6, hc7, hf⟩ := zb2_in hf
  refine zc_v (va_runV (As := [.int 3, .int (zushr l1 8)]) (rest := []) C (mX2_appendBig l D cI H.size h_f h_f_bytes u2 u3 3 (zushr l1 8) u5 u6 hc7) (qX1_writeColours_X2_appendBig_56 hts) ⟨zP_blind, va_recv hK hP (ci := 2) (q0 := 2) rfl rfl, zpre hK hN hP hD [2, 3] rfl rfl⟩ rfl rfl hl.1 rfl (lv_room (Nat.le_of_ble_eq_true rfl)) dX1_writeColours_201 ⟨Nat.zero_le _, Nat.zero_le _⟩) hP hD hS hA [2, 3] [0, 1] [0, 1, 2, 3] (ws' := zwX1 cI h_t h_t_table t_last t_table ++ zwX2 cI h_f h_f_bytes u5 u6) rfl rfl rfl rfl rfl rfl (fun H locs hP hD hS => ?_)
  cases hf
  exact hE _ _ _ _ dX1_writeColours_204 hP hD hS
set_option maxHeartbeats 4000000 in
set_option maxRecDepth 100000 in
theorem wX1_writeColours_124 {p : Program} {l : Launch} {e : Env} {s : State} {m : MethodId} {args : Array Value} {below : List Frame} {meth : Method} {c : Code} {D : va_G} {A : Nat → Prop} {Q : State → Prop} {cI : ClassId} {h_t h_t_table h_f h_f_bytes : Nat} {t_last : Int32} {t_table : Nat → Int32} {zf_size : Int32} {zf_bytes : Nat → Int32} (C : CallFix p m c cX1_writeColours 8 s args wsX1_writeColours RX1) (hN : zN s) (hK : va_K D vwCl [(cI, .int)] s) (hA : ∀ q, s.heap.size ≤ q → A q) (hE : zEv p l e rmX1_writeColours s m args below meth c cX1_writeColours D A Q (zwX1 cI h_t h_t_table t_last t_table ++ zwX2 cI h_f h_f_bytes zf_size zf_bytes)) {f_size : Int32} {f_bytes : Nat → Int32} {l1 : Int32} {l3 : Int32} {l4 : Int32} {l5 : Int32} {l6 : Int32} {l7 : Int32} {H : Heap} {locs : List Loc} {ls : Array Slot} : fX1_writeColours_124 f_size f_bytes l1 l4 l6 l7 = some (zf_size, zf_bytes) → va_P D vwCl (zwX1 cI h_t h_t_table t_last t_table ++ zwX2 cI h_f h_f_bytes f_size f_bytes) H → va_D A (zwX1 cI h_t h_t_table t_last t_table ++ zwX2 cI h_f h_f_bytes f_size f_bytes) → va_S A s.heap H locs → lv_has ls 8 [(0, .ref h_t), (1, .int l1), (2, .ref h_f), (3, .int l3), (4, .int l4), (5, .int l5), (6, .int l6), (7, .int l7)] → W p l e rmX1_writeColours s m args below meth c H locs 0 0 Q (F0 m 124 ls []) := by
  intro hf hP hD hS hl
  obtain ⟨hx, hb, hml, hown, hts⟩ := id C
  unfold fX1_writeColours_124 at hf
  refine lv_iload hx hb dX1_writeColours_124 (lv_at hl 4 rfl) ?_
  refine lv_bipush (v := 32) hx hb dX1_writeColours_126 (by decide) ?_
  obtain ⟨r1, hc2, hf⟩ := zb1_in hf
  refine zc_i (va_runS (As := [.int l4, .int 32]) (rest := []) C (mX1_isWithin l D cI H.size l4 32 r1 hc2) (qX1_writeColours_X1_isWithin_98 hts) ⟨zP_blind, zpre hK hN hP hD [] rfl rfl⟩ rfl rfl hl.1 rfl (lv_room (Nat.le_of_ble_eq_true rfl)) dX1_writeColours_128 ⟨Nat.zero_le _, Nat.zero_le _⟩) hP hD hS hA [] [0, 1, 2, 3] [0, 1, 2, 3] (ws' := zwX1 cI h_t h_t_table t_last t_table ++ zwX2 cI h_f h_f_bytes f_size f_bytes) rfl rfl rfl rfl rfl rfl (fun H locs hP hD hS => ?_)
  refine lv_if_eq (tgt := 187) hx hb dX1_writeColours_131 (by decide) (fun c3 => ?_) (fun c3 => ?_)
  · replace hf := zif_t hf c3
    exact wX1_writeColours_187 C hN hK hA hE hf hP hD hS (lv_sub hl [0, 1, 2, 3, 4, 5, 6, 7] rfl)
  · replace hf := zif_f hf c3
    refine lv_iload hx hb dX1_writeColours_134 (lv_at hl 6 rfl) ?_
    refine lv_bipush (v := 8) hx hb dX1_writeColours_136 (by decide) ?_
    obtain ⟨r4, hc5, hf⟩ := zb1_in hf
    refine zc_i (va_runS (As := [.int l6, .int 8]) (rest := []) C (mX1_isWithin l D cI H.size l6 8 r4 hc5) (qX1_writeColours_X1_isWithin_98 hts) ⟨zP_blind, zpre hK hN hP hD [] rfl rfl⟩ rfl rfl hl.1 rfl (lv_room (Nat.le_of_ble_eq_true rfl)) dX1_writeColours_138 ⟨Nat.zero_le _, Nat.zero_le _⟩) hP hD hS hA [] [0, 1, 2, 3] [0, 1, 2, 3] (ws' := zwX1 cI h_t h_t_table t_last t_table ++ zwX2 cI h_f h_f_bytes f_size f_bytes) rfl rfl rfl rfl rfl rfl (fun H locs hP hD hS => ?_)
    refine lv_if_eq (tgt := 187) hx hb dX1_writeColours_141 (by decide) (fun c6 => ?_) (fun c6 => ?_)
    · replace hf := zif_t hf c6
      exact wX1_writeColours_187 C hN hK hA hE hf hP hD hS (lv_sub hl [0, 1, 2, 3, 4, 5, 6, 7] rfl)
    · replace hf := zif_f hf c6
      refine lv_iload hx hb dX1_writeColours_144 (lv_at hl 7 rfl) ?_
      refine lv_bipush (v := 8) hx hb dX1_writeColours_146 (by decide) ?_
      obtain ⟨r7, hc8, hf⟩ := zb1_in hf
      refine zc_i (va_runS (As := [.int l7, .int 8]) (rest := []) C (mX1_isWithin l D cI H.size l7 8 r7 hc8) (qX1_writeColours_X1_isWithin_98 hts) ⟨zP_blind, zpre hK hN hP hD [] rfl rfl⟩ rfl rfl hl.1 rfl (lv_room (Nat.le_of_ble_eq_true rfl)) dX1_writeColours_148 ⟨Nat.zero_le _, Nat.zero_le _⟩) hP hD hS hA [] [0, 1, 2, 3] [0, 1, 2, 3] (ws' := zwX1 cI h_t h_t_table t_last t_table ++ zwX2 cI h_f h_f_bytes f_size f_bytes) rfl rfl rfl rfl rfl rfl (fun H locs hP hD hS => ?_)
      refine lv_if_eq (tgt := 187) hx hb dX1_writeColours_151 (by decide) (fun c9 => ?_) (fun c9 => ?_)
      · replace hf := zif_t hf c9
        exact wX1_writeColours_187 C hN hK hA hE hf hP hD hS (lv_sub hl [0, 1, 2, 3, 4, 5, 6, 7] rfl)
      · replace hf := zif_f hf c9
        refine lv_aload_n hx hb dX1_writeColours_154 rfl (lv_at hl 2 rfl) ?_
        refine lv_sipush (v := 160) hx hb dX1_writeColours_155 (by decide) ?_
        refine lv_iload hx hb dX1_writeColours_158 (lv_at hl 4 rfl) ?_
        refine lv_iadd hx hb dX1_writeColours_160 ?_
        obtain ⟨r10, u11, u12, hc13, hf⟩ := zb3_in hf
        refine zc_i (va_runV (As := [.int (160 + l4)]) (rest := []) C (mX2_append l D cI H.size h_f h_f_bytes f_size f_bytes (160 + l4) r10 u11 u12 hc13) (qX1_writeColours_X2_append_47 hts) ⟨zP_blind, va_recv hK hP (ci := 2) (q0 := 2) rfl rfl, zpre hK hN hP hD [2, 3] rfl rfl⟩ rfl rfl hl.1 rfl (lv_room (Nat.le_of_ble_eq_true rfl)) dX1_writeColours_161 ⟨Nat.zero_le _, Nat.zero_le _⟩) hP hD hS hA [2, 3] [0, 1] [0, 1, 2, 3] (ws' := zwX1 cI h_t h_t_table t_last t_table ++ zwX2 cI h_f h_f_bytes u11 u12) rfl rfl rfl rfl rfl rfl (fun H locs hP hD hS => ?_)
        refine lv_pop hx hb dX1_writeColours_164 rfl ?_
        refine lv_aload_n hx hb dX1_writeColours_165 rfl (lv_at hl 2 rfl) ?_
        refine lv_iload hx hb dX1_writeColours_166 (lv_at hl 6 rfl) ?_
        refine lv_bipush (v := 8) hx hb dX1_writeColours_168 (by decide) ?_
        refine lv_iadd hx hb dX1_writeColours_170 ?_
        refine lv_bipush (v := 16) hx hb dX1_writeColours_171 (by decide) ?_
        refine lv_imul hx hb dX1_writeColours_173 ?_
        refine lv_iload hx hb dX1_writeColours_174 (lv_at hl 7 rfl) ?_
        refine lv_iadd hx hb dX1_writeColours_176 ?_
        refine lv_bipush (v := 8) hx hb dX1_writeColours_177 (by decide) ?_
        refine lv_iadd hx hb dX1_writeColours_179 ?_
        obtain ⟨r14, u15, u16, hc17, hf⟩ := zb3_in hf
        refine zc_i (va_runV (As := [.int ((((l6 + 8) * 16) + l7) + 8)]) (rest := []) C (mX2_append l D cI H.size h_f h_f_bytes u11 u12 ((((l6 + 8) * 16) + l7) + 8) r14 u15 u16 hc17) (qX1_writeColours_X2_append_47 hts) ⟨zP_blind, va_recv hK hP (ci := 2) (q0 := 2) rfl rfl, zpre hK hN hP hD [2, 3] rfl rfl⟩ rfl rfl hl.1 rfl (lv_room (Nat.le_of_ble_eq_true rfl)) dX1_writeColours_180 ⟨Nat.zero_le _, Nat.zero_le _⟩) hP hD hS hA [2, 3] [0, 1] [0, 1, 2, 3] (ws' := zwX1 cI h_t h_t_table t_last t_table ++ zwX2 cI h_f h_f_bytes u15 u16) rfl rfl rfl rfl rfl rfl (fun H locs hP hD hS => ?_)
        refine lv_pop hx hb dX1_writeColours_183 rfl ?_
        refine lv_goto (tgt := 204) hx hb dX1_writeColours_184 (by decide) ?_
        cases hf
        exact hE _ _ _ _ dX1_writeColours_204 hP hD hS
set_option maxHeartbeats 4000000 in
set_option maxRecDepth 100000 in
theorem wX1_writeColours_0 {p : Program} {l : Launch} {e : Env} {s : State} {m : MethodId} {args : Array Value} {below : List Frame} {meth : Method} {c : Code} {D : va_G} {A : Nat → Prop} {Q : State → Prop} {cI : ClassId} {h_t h_t_table h_f h_f_bytes : Nat} {t_last : Int32} {t_table : Nat → Int32} {zf_size : Int32} {zf_bytes : Nat → Int32} (C : CallFix p m c cX1_writeColours 8 s args wsX1_writeColours RX1) (hN : zN s) (hK : va_K D vwCl [(cI, .int)] s) (hA : ∀ q, s.heap.size ≤ q → A q) (hE : zEv p l e rmX1_writeColours s m args below meth c cX1_writeColours D A Q (zwX1 cI h_t h_t_table t_last t_table ++ zwX2 cI h_f h_f_bytes zf_size zf_bytes)) {f_size : Int32} {f_bytes : Nat → Int32} {v0 : Int32} {H : Heap} {locs : List Loc} {ls : Array Slot} : fX1_writeColours t_last f_size f_bytes v0 = some (zf_size, zf_bytes) → va_P D vwCl (zwX1 cI h_t h_t_table t_last t_table ++ zwX2 cI h_f h_f_bytes f_size f_bytes) H → va_D A (zwX1 cI h_t h_t_table t_last t_table ++ zwX2 cI h_f h_f_bytes f_size f_bytes) → va_S A s.heap H locs → lv_has ls 8 [(0, .ref h_t), (1, .int v0), (2, .ref h_f)] → W p l e rmX1_writeColours s m args below meth c H locs 0 0 Q (F0 m 0 ls []) := by
  intro hf hP hD hS hl
  obtain ⟨hx, hb, hml, hown, hts⟩ := id C
  unfold fX1_writeColours at hf
  refine lv_iload_n hx hb dX1_writeColours_0 rfl (lv_at hl 1 rfl) ?_
  obtain ⟨r1, hc2, hf⟩ := zb1_in hf
  refine zc_i (va_runSN (As := [.int v0]) (rest := []) C (mX8_red l D cI H.size v0 r1 hc2) (qX1_writeColours_X8_red_29 hts hN) ⟨zP_blind, zpre hK hN hP hD [] rfl rfl⟩ rfl rfl hl.1 rfl (lv_room (Nat.le_of_ble_eq_true rfl)) dX1_writeColours_1 ⟨Nat.zero_le _, Nat.zero_le _⟩) hP hD hS hA [] [0, 1, 2, 3] [0, 1, 2, 3] (ws' := zwX1 cI h_t h_t_table t_last t_table ++ zwX2 cI h_f h_f_bytes f_size f_bytes) rfl rfl rfl rfl rfl rfl (fun H locs hP hD hS => ?_)
  refine lv_aload_n hx hb dX1_writeColours_4 rfl (lv_at hl 0 rfl) ?_
  refine va_get (D := D) (ci := 1) (v := .int t_last) (C := RX1) (T := TX1) (N := 2) hx hb hts iX1_writeColours_X1 hown hK hP 0 rfl rfl 1 (by decide) (kX1_writeColours_25 hts) (fun _ h9 => h9) rfl dX1_writeColours_5 ?_
  obtain ⟨r3, hc4, hf⟩ := zb1_in hf
  refine zc_i (va_runSN (As := [.int t_last]) (rest := [.int r1]) C (mX8_red l D cI H.size t_last r3 hc4) (qX1_writeColours_X8_red_29 hts hN) ⟨zP_blind, zpre hK hN hP hD [] rfl rfl⟩ rfl rfl hl.1 rfl (lv_room (Nat.le_of_ble_eq_true rfl)) dX1_writeColours_8 ⟨Nat.zero_le _, Nat.zero_le _⟩) hP hD hS hA [] [0, 1, 2, 3] [0, 1, 2, 3] (ws' := zwX1 cI h_t h_t_table t_last t_table ++ zwX2 cI h_f h_f_bytes f_size f_bytes) rfl rfl rfl rfl rfl rfl (fun H locs hP hD hS => ?_)
  refine lv_isub hx hb dX1_writeColours_11 ?_
  obtain ⟨r5, hc6, hf⟩ := zb1_in hf
  refine zc_i (va_runS (As := [.int (r1 - r3)]) (rest := []) C (mX1_signed l D cI H.size (r1 - r3) r5 hc6) (qX1_writeColours_X1_signed_95 hts) ⟨zP_blind, zpre hK hN hP hD [] rfl rfl⟩ rfl rfl hl.1 rfl (lv_room (Nat.le_of_ble_eq_true rfl)) dX1_writeColours_12 ⟨Nat.zero_le _, Nat.zero_le _⟩) hP hD hS hA [] [0, 1, 2, 3] [0, 1, 2, 3] (ws' := zwX1 cI h_t h_t_table t_last t_table ++ zwX2 cI h_f h_f_bytes f_size f_bytes) rfl rfl rfl rfl rfl rfl (fun H locs hP hD hS => ?_)
  refine lv_istore_n (lv' := [(3, .int r5), (0, .ref h_t), (1, .int v0), (2, .ref h_f)]) hx hb dX1_writeColours_15 rfl hl (by decide) rfl (fun ls hl => ?_)
  refine lv_iload_n hx hb dX1_writeColours_16 rfl (lv_at hl 2 rfl) ?_
  obtain ⟨r7, hc8, hf⟩ := zb1_in hf
  refine zc_i (va_runSN (As := [.int v0]) (rest := []) C (mX8_green l D cI H.size v0 r7 hc8) (qX1_writeColours_X8_green_33 hts hN) ⟨zP_blind, zpre hK hN hP hD [] rfl rfl⟩ rfl rfl hl.1 rfl (lv_room (Nat.le_of_ble_eq_true rfl)) dX1_writeColours_17 ⟨Nat.zero_le _, Nat.zero_le _⟩) hP hD hS hA [] [0, 1, 2, 3] [0, 1, 2, 3] (ws' := zwX1 cI h_t h_t_table t_last t_table ++ zwX2 cI h_f h_f_bytes f_size f_bytes) rfl rfl rfl rfl rfl rfl (fun H locs hP hD hS => ?_)
  refine lv_aload_n hx hb dX1_writeColours_20 rfl (lv_at hl 1 rfl) ?_
  refine va_get (D := D) (ci := 1) (v := .int t_last) (C := RX1) (T := TX1) (N := 2) hx hb hts iX1_writeColours_X1 hown hK hP 0 rfl rfl 1 (by decide) (kX1_writeColours_25 hts) (fun _ h9 => h9) rfl dX1_writeColours_21 ?_
  obtain ⟨r9, hc10, hf⟩ := zb1_in hf
  refine zc_i (va_runSN (As := [.int t_last]) (rest := [.int r7]) C (mX8_green l D cI H.size t_last r9 hc10) (qX1_writeColours_X8_green_33 hts hN) ⟨zP_blind, zpre hK hN hP hD [] rfl rfl⟩ rfl rfl hl.1 rfl (lv_room (Nat.le_of_ble_eq_true rfl)) dX1_writeColours_24 ⟨Nat.zero_le _, Nat.zero_le _⟩) hP hD hS hA [] [0, 1, 2, 3] [0, 1, 2, 3] (ws' := zwX1 cI h_t h_t_table t_last t_table ++ zwX2 cI h_f h_f_bytes f_size f_bytes) rfl rfl rfl rfl rfl rfl (fun H locs hP hD hS => ?_)
  refine lv_isub hx hb dX1_writeColours_27 ?_
  obtain ⟨r11, hc12, hf⟩ := zb1_in hf
  refine zc_i (va_runS (As := [.int (r7 - r9)]) (rest := []) C (mX1_signed l D cI H.size (r7 - r9) r11 hc12) (qX1_writeColours_X1_signed_95 hts) ⟨zP_blind, zpre hK hN hP hD [] rfl rfl⟩ rfl rfl hl.1 rfl (lv_room (Nat.le_of_ble_eq_true rfl)) dX1_writeColours_28 ⟨Nat.zero_le _, Nat.zero_le _⟩) hP hD hS hA [] [0, 1, 2, 3] [0, 1, 2, 3] (ws' := zwX1 cI h_t h_t_table t_last t_table ++ zwX2 cI h_f h_f_bytes f_size f_bytes) rfl rfl rfl rfl rfl rfl (fun H locs hP hD hS => ?_)
  refine lv_istore (lv' := [(4, .int r11), (3, .int r5), (0, .ref h_t), (1, .int v0), (2, .ref h_f)]) hx hb dX1_writeColours_31 hl (by decide) rfl (fun ls hl => ?_)
  refine lv_iload_n hx hb dX1_writeColours_33 rfl (lv_at hl 3 rfl) ?_
  obtain ⟨r13, hc14, hf⟩ := zb1_in hf
  refine zc_i (va_runSN (As := [.int v0]) (rest := []) C (mX8_blue l D cI H.size v0 r13 hc14) (qX1_writeColours_X8_blue_36 hts hN) ⟨zP_blind, zpre hK hN hP hD [] rfl rfl⟩ rfl rfl hl.1 rfl (lv_room (Nat.le_of_ble_eq_true rfl)) dX1_writeColours_34 ⟨Nat.zero_le _, Nat.zero_le _⟩) hP hD hS hA [] [0, 1, 2, 3] [0, 1, 2, 3] (ws' := zwX1 cI h_t h_t_table t_last t_table ++ zwX2 cI h_f h_f_bytes f_size f_bytes) rfl rfl rfl rfl rfl rfl (fun H locs hP hD hS => ?_)
  refine lv_aload_n hx hb dX1_writeColours_37 rfl (lv_at hl 2 rfl) ?_
  refine va_get (D := D) (ci := 1) (v := .int t_last) (C := RX1) (T := TX1) (N := 2) hx hb hts iX1_writeColours_X1 hown hK hP 0 rfl rfl 1 (by decide) (kX1_writeColours_25 hts) (fun _ h9 => h9) rfl dX1_writeColours_38 ?_
  obtain ⟨r15, hc16, hf⟩ := zb1_in hf
  refine zc_i (va_runSN (As := [.int t_last]) (rest := [.int r13]) C (mX8_blue l D cI H.size t_last r15 hc16) (qX1_writeColours_X8_blue_36 hts hN) ⟨zP_blind, zpre hK hN hP hD [] rfl rfl⟩ rfl rfl hl.1 rfl (lv_room (Nat.le_of_ble_eq_true rfl)) dX1_writeColours_41 ⟨Nat.zero_le _, Nat.zero_le _⟩) hP hD hS hA [] [0, 1, 2, 3] [0, 1, 2, 3] (ws' := zwX1 cI h_t h_t_table t_last t_table ++ zwX2 cI h_f h_f_bytes f_size f_bytes) rfl rfl rfl rfl rfl rfl (fun H locs hP hD hS => ?_)
  refine lv_isub hx hb dX1_writeColours_44 ?_
  obtain ⟨r17, hc18, hf⟩ := zb1_in hf
  refine zc_i (va_runS (As := [.int (r13 - r15)]) (rest := []) C (mX1_signed l D cI H.size (r13 - r15) r17 hc18) (qX1_writeColours_X1_signed_95 hts) ⟨zP_blind, zpre hK hN hP hD [] rfl rfl⟩ rfl rfl hl.1 rfl (lv_room (Nat.le_of_ble_eq_true rfl)) dX1_writeColours_45 ⟨Nat.zero_le _, Nat.zero_le _⟩) hP hD hS hA [] [0, 1, 2, 3] [0, 1, 2, 3] (ws' := zwX1 cI h_t h_t_table t_last t_table ++ zwX2 cI h_f h_f_bytes f_size f_bytes) rfl rfl rfl rfl rfl rfl (fun H locs hP hD hS => ?_)
  refine lv_istore (lv' := [(5, .int r17), (4, .int r11), (3, .int r5), (0, .ref h_t), (1, .int v0), (2, .ref h_f)]) hx hb dX1_writeColours_48 hl (by decide) rfl (fun ls hl => ?_)
  refine lv_iload_n hx hb dX1_writeColours_50 rfl (lv_at hl 2 rfl) ?_
  refine lv_iload hx hb dX1_writeColours_51 (lv_at hl 1 rfl) ?_
  refine lv_isub hx hb dX1_writeColours_53 ?_
  obtain ⟨r19, hc20, hf⟩ := zb1_in hf
  refine zc_i (va_runS (As := [.int (r5 - r11)]) (rest := []) C (mX1_signed l D cI H.size (r5 - r11) r19 hc20) (qX1_writeColours_X1_signed_95 hts) ⟨zP_blind, zpre hK hN hP hD [] rfl rfl⟩ rfl rfl hl.1 rfl (lv_room (Nat.le_of_ble_eq_true rfl)) dX1_writeColours_54 ⟨Nat.zero_le _, Nat.zero_le _⟩) hP hD hS hA [] [0, 1, 2, 3] [0, 1, 2, 3] (ws' := zwX1 cI h_t h_t_table t_last t_table ++ zwX2 cI h_f h_f_bytes f_size f_bytes) rfl rfl rfl rfl rfl rfl (fun H locs hP hD hS => ?_)
  refine lv_istore (lv' := [(6, .int r19), (5, .int r17), (4, .int r11), (3, .int r5), (0, .ref h_t), (1, .int v0), (2, .ref h_f)]) hx hb dX1_writeColours_57 hl (by decide) rfl (fun ls hl => ?_)
  refine lv_iload hx hb dX1_writeColours_59 (lv_at hl 1 rfl) ?_
  refine lv_iload hx hb dX1_writeColours_61 (lv_at hl 2 rfl) ?_
  refine lv_isub hx hb dX1_writeColours_63 ?_
  obtain ⟨r21, hc22, hf⟩ := zb1_in hf
  refine zc_i (va_runS (As := [.int (r17 - r11)]) (rest := []) C (mX1_signed l D cI H.size (r17 - r11) r21 hc22) (qX1_writeColours_X1_signed_95 hts) ⟨zP_blind, zpre hK hN hP hD [] rfl rfl⟩ rfl rfl hl.1 rfl (lv_room (Nat.le_of_ble_eq_true rfl)) dX1_writeColours_64 ⟨Nat.zero_le _, Nat.zero_le _⟩) hP hD hS hA [] [0, 1, 2, 3] [0, 1, 2, 3] (ws' := zwX1 cI h_t h_t_table t_last t_table ++ zwX2 cI h_f h_f_bytes f_size f_bytes) rfl rfl rfl rfl rfl rfl (fun H locs hP hD hS => ?_)
  refine lv_istore (lv' := [(7, .int r21), (6, .int r19), (5, .int r17), (4, .int r11), (3, .int r5), (0, .ref h_t), (1, .int v0), (2, .ref h_f)]) hx hb dX1_writeColours_67 hl (by decide) rfl (fun ls hl => ?_)
  refine lv_iload_n hx hb dX1_writeColours_69 rfl (lv_at hl 4 rfl) ?_
  refine lv_iconst (v := 2) hx hb dX1_writeColours_70 (by decide) ?_
  obtain ⟨r23, hc24, hf⟩ := zb1_in hf
  refine zc_i (va_runS (As := [.int r5, .int 2]) (rest := []) C (mX1_isWithin l D cI H.size r5 2 r23 hc24) (qX1_writeColours_X1_isWithin_98 hts) ⟨zP_blind, zpre hK hN hP hD [] rfl rfl⟩ rfl rfl hl.1 rfl (lv_room (Nat.le_of_ble_eq_true rfl)) dX1_writeColours_71 ⟨Nat.zero_le _, Nat.zero_le _⟩) hP hD hS hA [] [0, 1, 2, 3] [0, 1, 2, 3] (ws' := zwX1 cI h_t h_t_table t_last t_table ++ zwX2 cI h_f h_f_bytes f_size f_bytes) rfl rfl rfl rfl rfl rfl (fun H locs hP hD hS => ?_)
  refine lv_if_eq (tgt := 124) hx hb dX1_writeColours_74 (by decide) (fun c25 => ?_) (fun c25 => ?_)
  · replace hf := zif_t hf c25
    exact wX1_writeColours_124 C hN hK hA hE hf hP hD hS (lv_sub hl [5, 6, 7, 4, 3, 2, 1, 0] rfl)
  · replace hf := zif_f hf c25
    refine lv_iload hx hb dX1_writeColours_77 (lv_at hl 3 rfl) ?_
    refine lv_iconst (v := 2) hx hb dX1_writeColours_79 (by decide) ?_
    obtain ⟨r26, hc27, hf⟩ := zb1_in hf
    refine zc_i (va_runS (As := [.int r11, .int 2]) (rest := []) C (mX1_isWithin l D cI H.size r11 2 r26 hc27) (qX1_writeColours_X1_isWithin_98 hts) ⟨zP_blind, zpre hK hN hP hD [] rfl rfl⟩ rfl rfl hl.1 rfl (lv_room (Nat.le_of_ble_eq_true rfl)) dX1_writeColours_80 ⟨Nat.zero_le _, Nat.zero_le _⟩) hP hD hS hA [] [0, 1, 2, 3] [0, 1, 2, 3] (ws' := zwX1 cI h_t h_t_table t_last t_table ++ zwX2 cI h_f h_f_bytes f_size f_bytes) rfl rfl rfl rfl rfl rfl (fun H locs hP hD hS => ?_)
    refine lv_if_eq (tgt := 124) hx hb dX1_writeColours_83 (by decide) (fun c28 => ?_) (fun c28 => ?_)
    · replace hf := zif_t hf c28
      exact wX1_writeColours_124 C hN hK hA hE hf hP hD hS (lv_sub hl [5, 6, 7, 4, 3, 2, 1, 0] rfl)
    · replace hf := zif_f hf c28
      refine lv_iload hx hb dX1_writeColours_86 (lv_at hl 2 rfl) ?_
      refine lv_iconst (v := 2) hx hb dX1_writeColours_88 (by decide) ?_
      obtain ⟨r29, hc30, hf⟩ := zb1_in hf
      refine zc_i (va_runS (As := [.int r17, .int 2]) (rest := []) C (mX1_isWithin l D cI H.size r17 2 r29 hc30) (qX1_writeColours_X1_isWithin_98 hts) ⟨zP_blind, zpre hK hN hP hD [] rfl rfl⟩ rfl rfl hl.1 rfl (lv_room (Nat.le_of_ble_eq_true rfl)) dX1_writeColours_89 ⟨Nat.zero_le _, Nat.zero_le _⟩) hP hD hS hA [] [0, 1, 2, 3] [0, 1, 2, 3] (ws' := zwX1 cI h_t h_t_table t_last t_table ++ zwX2 cI h_f h_f_bytes f_size f_bytes) rfl rfl rfl rfl rfl rfl (fun H locs hP hD hS => ?_)
      refine lv_if_eq (tgt := 124) hx hb dX1_writeColours_92 (by decide) (fun c31 => ?_) (fun c31 => ?_)
      · replace hf := zif_t hf c31
        exact wX1_writeColours_124 C hN hK hA hE hf hP hD hS (lv_sub hl [5, 6, 7, 4, 3, 2, 1, 0] rfl)
      · replace hf := zif_f hf c31
        refine lv_aload_n hx hb dX1_writeColours_95 rfl (lv_at hl 7 rfl) ?_
        refine lv_bipush (v := 64) hx hb dX1_writeColours_96 (by decide) ?_
        refine lv_iload_n hx hb dX1_writeColours_98 rfl (lv_at hl 4 rfl) ?_
        refine lv_iconst (v := 2) hx hb dX1_writeColours_99 (by decide) ?_
        refine lv_iadd hx hb dX1_writeColours_100 ?_
        refine lv_bipush (v := 16) hx hb dX1_writeColours_101 (by decide) ?_
        refine lv_imul hx hb dX1_writeColours_103 ?_
        refine lv_iadd hx hb dX1_writeColours_104 ?_
        refine lv_iload hx hb dX1_writeColours_105 (lv_at hl 3 rfl) ?_
        refine lv_iconst (v := 2) hx hb dX1_writeColours_107 (by decide) ?_
        refine lv_iadd hx hb dX1_writeColours_108 ?_
        refine lv_iconst (v := 4) hx hb dX1_writeColours_109 (by decide) ?_
        refine lv_imul hx hb dX1_writeColours_110 ?_
        refine lv_iadd hx hb dX1_writeColours_111 ?_
        refine lv_iload hx hb dX1_writeColours_112 (lv_at hl 2 rfl) ?_
        refine lv_iadd hx hb dX1_writeColours_114 ?_
        refine lv_iconst (v := 2) hx hb dX1_writeColours_115 (by decide) ?_
        refine lv_iadd hx hb dX1_writeColours_116 ?_
        obtain ⟨r32, u33, u34, hc35, hf⟩ := zb3_in hf
        refine zc_i (va_runV (As := [.int ((((64 + ((r5 + 2) * 16)) + ((r11 + 2) * 4)) + r17) + 2)]) (rest := []) C (mX2_append l D cI H.size h_f h_f_bytes f_size f_bytes ((((64 + ((r5 + 2) * 16)) + ((r11 + 2) * 4)) + r17) + 2) r32 u33 u34 hc35) (qX1_writeColours_X2_append_47 hts) ⟨zP_blind, va_recv hK hP (ci := 2) (q0 := 2) rfl rfl, zpre hK hN hP hD [2, 3] rfl rfl⟩ rfl rfl hl.1 rfl (lv_room (Nat.le_of_ble_eq_true rfl)) dX1_writeColours_117 ⟨Nat.zero_le _, Nat.zero_le _⟩) hP hD hS hA [2, 3] [0, 1] [0, 1, 2, 3] (ws' := zwX1 cI h_t h_t_table t_last t_table ++ zwX2 cI h_f h_f_bytes u33 u34) rfl rfl rfl rfl rfl rfl (fun H locs hP hD hS => ?_)
        refine lv_pop hx hb dX1_writeColours_120 rfl ?_
        refine lv_goto (tgt := 204) hx hb dX1_writeColours_121 (by decide) ?_
        cases hf
        exact hE _ _ _ _ dX1_writeColours_204 hP hD hS
set_option maxHeartbeats 4000000 in
set_option maxRecDepth 100000 in
theorem mX1_writeColours (l : Launch) (D : va_G) (cI : ClassId) (sz : Nat) (h_t h_t_table h_f h_f_bytes : Nat) (t_last : Int32) (t_table : Nat → Int32) (f_size : Int32) (f_bytes : Nat → Int32) (v0 : Int32) (zf_size : Int32) (zf_bytes : Nat → Int32) (hf : fX1_writeColours t_last f_size f_bytes v0 = some (zf_size, zf_bytes)) : Met l yX1_writeColours wsX1_writeColours rmX1_writeColours (va_Pc [.ref h_t, .int v0, .ref h_f] (zP D [(cI, .int)] (zwX1 cI h_t h_t_table t_last t_table ++ zwX2 cI h_f h_f_bytes f_size f_bytes) sz)) (zQv D (zwX1 cI h_t h_t_table t_last t_table ++ zwX2 cI h_f h_f_bytes f_size f_bytes) sz (zwX1 cI h_t h_t_table t_last t_table ++ zwX2 cI h_f h_f_bytes zf_size zf_bytes)) 0 0 (va_A (zwX1 cI h_t h_t_table t_last t_table ++ zwX2 cI h_f h_f_bytes f_size f_bytes) sz) := by
  refine Met.ofW (cc := cX1_writeColours) (maxL := 8) (ret := none) (by decide) rfl ?_
  intro p e s m args below meth c s₁ B hml hv
  obtain ⟨rfl, hsz, hP, hK, hD0, hN⟩ := hv
  subst hsz
  have C : CallFix p m c cX1_writeColours 8 s [.ref h_t, .int v0, .ref h_f].toArray wsX1_writeColours RX1 := ⟨B.exec, B.bytes, hml, findClass_of_methodNamed B.named, atoms_spec (ws := wsX1_writeColours) B.pre⟩
  have hl := lv_entry ([.ref h_t, .int v0, .ref h_f]) (n := 8) (Nat.le_of_ble_eq_true rfl)
  rw [lg_entry_eq]
  exact wX1_writeColours_0 (A := va_A (zwX1 cI h_t h_t_table t_last t_table ++ zwX2 cI h_f h_f_bytes f_size f_bytes) s.heap.size) C hN hK (fun q h => Or.inr h) (fun H locs pc ls d hP hD hS => zend_v C.1 C.2.1 B.returns B.notSynchronized d hP hD hS) hf hP hD0.self va_S.rf hl
def rmX1_writeOther : Room := { frames := 3, cells := 0, slots := 0, locals := 71 }
theorem kX1_writeOther_9 {args : Array Value} {s : State} (h : ∀ w ∈ wsX1_writeOther, w.before args s = true) : (Cond.fieldLink RX1 9 "FourPictureFiles$ChunkFormat" "table" "[I").before args s = true := h _ (by decide +kernel)
theorem kX1_writeOther_25 {args : Array Value} {s : State} (h : ∀ w ∈ wsX1_writeOther, w.before args s = true) : (Cond.fieldLink RX1 25 "FourPictureFiles$ChunkFormat" "last" "I").before args s = true := h _ (by decide +kernel)
theorem iX1_writeOther_X1 : ∀ w ∈ u_ws RX1 TX1 2, w ∈ wsX1_writeOther := by decide +kernel
theorem qX1_writeOther_X1_placeOf_89 {args : Array Value} {s : State} (hts : ∀ w ∈ wsX1_writeOther, w.before args s = true) : CallB rmX1_writeOther s args RX1 89 yX1_placeOf cX1_placeOf 1 (some .int) wsX1_placeOf rmX1_placeOf 0 0 1 ∧ (Cond.static yX1_placeOf).before args s = true := va_cwS 1 hts gX1_writeOther_X1_placeOf rfl rfl rfl (by decide +kernel) ⟨Nat.le_of_ble_eq_true rfl, Nat.le_of_ble_eq_true rfl⟩
theorem qX1_writeOther_X1_writeColours_92 {args : Array Value} {s : State} (hts : ∀ w ∈ wsX1_writeOther, w.before args s = true) : CallW rmX1_writeOther s args RX1 RX1 92 yX1_writeColours cX1_writeColours 8 none wsX1_writeColours rmX1_writeColours 0 0 2 := cwV 2 hts gX1_writeOther_X1_writeColours rfl rfl rfl (by decide +kernel) ⟨Nat.le_of_ble_eq_true rfl, Nat.le_of_ble_eq_true rfl⟩
theorem qX1_writeOther_X2_append_47 {args : Array Value} {s : State} (hts : ∀ w ∈ wsX1_writeOther, w.before args s = true) : CallW rmX1_writeOther s args RX1 RX2 47 yX2_append cX2_append 2 (some .boolean) wsX2_append rmX2_append 0 0 1 := cwV 1 hts gX1_writeOther_X2_append rfl rfl rfl (by decide +kernel) ⟨Nat.le_of_ble_eq_true rfl, Nat.le_of_ble_eq_true rfl⟩
theorem qX1_writeOther_X2_appendBig_56 {args : Array Value} {s : State} (hts : ∀ w ∈ wsX1_writeOther, w.before args s = true) : CallW rmX1_writeOther s args RX1 RX2 56 yX2_appendBig cX2_appendBig 4 none wsX2_appendBig rmX2_appendBig 0 0 2 := cwV 2 hts gX1_writeOther_X2_appendBig rfl rfl rfl (by decide +kernel) ⟨Nat.le_of_ble_eq_true rfl, Nat.le_of_ble_eq_true rfl⟩
theorem qX1_writeOther_X8_alpha_39 {args : Array Value} {s : State} (hts : ∀ w ∈ wsX1_writeOther, w.before args s = true) (hN : zN s) : va_CN rmX1_writeOther s args RX1 39 yX8_alpha RX8 cX8_alpha 1 (some .int) wsX8_alpha rmX8_alpha 0 0 1 ∧ (Cond.static yX8_alpha).before args s = true ∧ True := ⟨va_cnB 1 hts gX1_writeOther_X8_alpha_n39 rfl rfl rfl (hN.nw 46 rfl) (hts (.initialized RX8) (by decide +kernel)) (by decide +kernel) ⟨Nat.le_of_ble_eq_true rfl, Nat.le_of_ble_eq_true rfl⟩, hts (.static yX8_alpha) (by decide +kernel), trivial⟩
set_option maxHeartbeats 4000000 in
set_option maxRecDepth 100000 in
theorem wX1_writeOther_0 {p : Program} {l : Launch} {e : Env} {s : State} {m : MethodId} {args : Array Value} {below : List Frame} {meth : Method} {c : Code} {D : va_G} {A : Nat → Prop} {Q : State → Prop} {cI : ClassId} {h_t h_t_table h_f h_f_bytes : Nat} {t_last : Int32} {zt_table : Nat → Int32} {zf_size : Int32} {zf_bytes : Nat → Int32} (C : CallFix p m c cX1_writeOther 4 s args wsX1_writeOther RX1) (hN : zN s) (hK : va_K D vwCl [(cI, .int)] s) (hA : ∀ q, s.heap.size ≤ q → A q) (hE : zEv p l e rmX1_writeOther s m args below meth c cX1_writeOther D A Q (zwX1 cI h_t h_t_table t_last zt_table ++ zwX2 cI h_f h_f_bytes zf_size zf_bytes)) {t_table : Nat → Int32} {f_size : Int32} {f_bytes : Nat → Int32} {v0 : Int32} {H : Heap} {locs : List Loc} {ls : Array Slot} : fX1_writeOther t_last t_table f_size f_bytes v0 = some (zt_table, zf_size, zf_bytes) → va_P D vwCl (zwX1 cI h_t h_t_table t_last t_table ++ zwX2 cI h_f h_f_bytes f_size f_bytes) H → va_D A (zwX1 cI h_t h_t_table t_last t_table ++ zwX2 cI h_f h_f_bytes f_size f_bytes) → va_S A s.heap H locs → lv_has ls 4 [(0, .ref h_t), (1, .int v0), (2, .ref h_f)] → W p l e rmX1_writeOther s m args below meth c H locs 0 0 Q (F0 m 0 ls []) := by
  intro hf hP hD hS hl
  obtain ⟨hx, hb, hml, hown, hts⟩ := id C
  unfold fX1_writeOther at hf
  refine lv_iload_n hx hb dX1_writeOther_0 rfl (lv_at hl 1 rfl) ?_
  obtain ⟨r1, hc2, hf⟩ := zb1_in hf
  refine zc_i (va_runS (As := [.int v0]) (rest := []) C (mX1_placeOf l D cI H.size v0 r1 hc2) (qX1_writeOther_X1_placeOf_89 hts) ⟨zP_blind, zpre hK hN hP hD [] rfl rfl⟩ rfl rfl hl.1 rfl (lv_room (Nat.le_of_ble_eq_true rfl)) dX1_writeOther_1 ⟨Nat.zero_le _, Nat.zero_le _⟩) hP hD hS hA [] [0, 1, 2, 3] [0, 1, 2, 3] (ws' := zwX1 cI h_t h_t_table t_last t_table ++ zwX2 cI h_f h_f_bytes f_size f_bytes) rfl rfl rfl rfl rfl rfl (fun H locs hP hD hS => ?_)
  refine lv_istore_n (lv' := [(3, .int r1), (0, .ref h_t), (1, .int v0), (2, .ref h_f)]) hx hb dX1_writeOther_4 rfl hl (by decide) rfl (fun ls hl => ?_)
  refine lv_aload_n hx hb dX1_writeOther_5 rfl (lv_at hl 1 rfl) ?_
  refine va_get (D := D) (ci := 1) (v := .ref h_t_table) (C := RX1) (T := TX1) (N := 2) hx hb hts iX1_writeOther_X1 hown hK hP 0 rfl rfl 0 (by decide) (kX1_writeOther_9 hts) (fun _ h9 => h9) rfl dX1_writeOther_6 ?_
  refine lv_iload_n hx hb dX1_writeOther_9 rfl (lv_at hl 0 rfl) ?_
  obtain ⟨hg4, hf⟩ := zrd_in hf
  refine va_iald hx hb hK hP 1 0 rfl rfl hg4 dX1_writeOther_10 ?_
  refine lv_topi (fun x3 ex3 => ?_)
  replace hf := hf x3 ex3
  clear ex3
  refine lv_iload_n hx hb dX1_writeOther_11 rfl (lv_at hl 2 rfl) ?_
  refine lv_icmp_ne (tgt := 22) hx hb dX1_writeOther_12 (by decide) (fun c5 => ?_) (fun c5 => ?_)
  · replace hf := zif_f hf c5
    refine lv_aload_n hx hb dX1_writeOther_22 rfl (lv_at hl 1 rfl) ?_
    refine va_get (D := D) (ci := 1) (v := .ref h_t_table) (C := RX1) (T := TX1) (N := 2) hx hb hts iX1_writeOther_X1 hown hK hP 0 rfl rfl 0 (by decide) (kX1_writeOther_9 hts) (fun _ h9 => h9) rfl dX1_writeOther_23 ?_
    refine lv_iload_n hx hb dX1_writeOther_26 rfl (lv_at hl 0 rfl) ?_
    refine lv_iload_n hx hb dX1_writeOther_27 rfl (lv_at hl 2 rfl) ?_
    obtain ⟨hg7, g6, eg6, hf⟩ := zwr_in hf
    refine va_iast hx hb hK hP hD hS 1 0 rfl rfl hg7 dX1_writeOther_28 (fun H locs hP hD hS => ?_)
    replace hP : va_P D vwCl (zwX1 cI h_t h_t_table t_last g6 ++ zwX2 cI h_f h_f_bytes f_size f_bytes) H := by rw [← eg6]; exact hP
    replace hD : va_D A (zwX1 cI h_t h_t_table t_last g6 ++ zwX2 cI h_f h_f_bytes f_size f_bytes) := by rw [← eg6]; exact hD
    clear eg6
    refine lv_iload_n hx hb dX1_writeOther_29 rfl (lv_at hl 2 rfl) ?_
    obtain ⟨r8, hc9, hf⟩ := zb1_in hf
    refine zc_i (va_runSN (As := [.int v0]) (rest := []) C (mX8_alpha l D cI H.size v0 r8 hc9) (qX1_writeOther_X8_alpha_39 hts hN) ⟨zP_blind, zpre hK hN hP hD [] rfl rfl⟩ rfl rfl hl.1 rfl (lv_room (Nat.le_of_ble_eq_true rfl)) dX1_writeOther_30 ⟨Nat.zero_le _, Nat.zero_le _⟩) hP hD hS hA [] [0, 1, 2, 3] [0, 1, 2, 3] (ws' := zwX1 cI h_t h_t_table t_last g6 ++ zwX2 cI h_f h_f_bytes f_size f_bytes) rfl rfl rfl rfl rfl rfl (fun H locs hP hD hS => ?_)
    refine lv_aload_n hx hb dX1_writeOther_33 rfl (lv_at hl 1 rfl) ?_
    refine va_get (D := D) (ci := 1) (v := .int t_last) (C := RX1) (T := TX1) (N := 2) hx hb hts iX1_writeOther_X1 hown hK hP 0 rfl rfl 1 (by decide) (kX1_writeOther_25 hts) (fun _ h9 => h9) rfl dX1_writeOther_34 ?_
    obtain ⟨r10, hc11, hf⟩ := zb1_in hf
    refine zc_i (va_runSN (As := [.int t_last]) (rest := [.int r8]) C (mX8_alpha l D cI H.size t_last r10 hc11) (qX1_writeOther_X8_alpha_39 hts hN) ⟨zP_blind, zpre hK hN hP hD [] rfl rfl⟩ rfl rfl hl.1 rfl (lv_room (Nat.le_of_ble_eq_true rfl)) dX1_writeOther_37 ⟨Nat.zero_le _, Nat.zero_le _⟩) hP hD hS hA [] [0, 1, 2, 3] [0, 1, 2, 3] (ws' := zwX1 cI h_t h_t_table t_last g6 ++ zwX2 cI h_f h_f_bytes f_size f_bytes) rfl rfl rfl rfl rfl rfl (fun H locs hP hD hS => ?_)
    refine lv_icmp_ne (tgt := 52) hx hb dX1_writeOther_40 (by decide) (fun c12 => ?_) (fun c12 => ?_)
    · replace hf := zif_f hf c12
      refine lv_aload_n hx hb dX1_writeOther_52 rfl (lv_at hl 3 rfl) ?_
      refine lv_sipush (v := 255) hx hb dX1_writeOther_53 (by decide) ?_
      obtain ⟨r13, u14, u15, hc16, hf⟩ := zb3_in hf
      refine zc_i (va_runV (As := [.int 255]) (rest := []) C (mX2_append l D cI H.size h_f h_f_bytes f_size f_bytes 255 r13 u14 u15 hc16) (qX1_writeOther_X2_append_47 hts) ⟨zP_blind, va_recv hK hP (ci := 2) (q0 := 2) rfl rfl, zpre hK hN hP hD [2, 3] rfl rfl⟩ rfl rfl hl.1 rfl (lv_room (Nat.le_of_ble_eq_true rfl)) dX1_writeOther_56 ⟨Nat.zero_le _, Nat.zero_le _⟩) hP hD hS hA [2, 3] [0, 1] [0, 1, 2, 3] (ws' := zwX1 cI h_t h_t_table t_last g6 ++ zwX2 cI h_f h_f_bytes u14 u15) rfl rfl rfl rfl rfl rfl (fun H locs hP hD hS => ?_)
      refine lv_pop hx hb dX1_writeOther_59 rfl ?_
      refine lv_aload_n hx hb dX1_writeOther_60 rfl (lv_at hl 3 rfl) ?_
      refine lv_iconst (v := 4) hx hb dX1_writeOther_61 (by decide) ?_
      refine lv_iload_n hx hb dX1_writeOther_62 rfl (lv_at hl 2 rfl) ?_
      obtain ⟨u17, u18, hc19, hf⟩ := zb2_in hf
      refine zc_v (va_runV (As := [.int 4, .int v0]) (rest := []) C (mX2_appendBig l D cI H.size h_f h_f_bytes u14 u15 4 v0 u17 u18 hc19) (qX1_writeOther_X2_appendBig_56 hts) ⟨zP_blind, va_recv hK hP (ci := 2) (q0 := 2) rfl rfl, zpre hK hN hP hD [2, 3] rfl rfl⟩ rfl rfl hl.1 rfl (lv_room (Nat.le_of_ble_eq_true rfl)) dX1_writeOther_63 ⟨Nat.zero_le _, Nat.zero_le _⟩) hP hD hS hA [2, 3] [0, 1] [0, 1, 2, 3] (ws' := zwX1 cI h_t h_t_table t_last g6 ++ zwX2 cI h_f h_f_bytes u17 u18) rfl rfl rfl rfl rfl rfl (fun H locs hP hD hS => ?_)
      cases hf
      exact hE _ _ _ _ dX1_writeOther_66 hP hD hS
    · replace hf := zif_t hf c12
      refine lv_aload_n hx hb dX1_writeOther_43 rfl (lv_at hl 1 rfl) ?_
      refine lv_iload_n hx hb dX1_writeOther_44 rfl (lv_at hl 2 rfl) ?_
      refine lv_aload_n hx hb dX1_writeOther_45 rfl (lv_at hl 3 rfl) ?_
      obtain ⟨u20, u21, hc22, hf⟩ := zb2_in hf
      refine zc_v (va_runV (As := [.int v0, .ref h_f]) (rest := []) C (mX1_writeColours l D cI H.size h_t h_t_table h_f h_f_bytes t_last g6 f_size f_bytes v0 u20 u21 hc22) (qX1_writeOther_X1_writeColours_92 hts) ⟨zP_blind, va_recv hK hP (ci := 1) (q0 := 0) rfl rfl, zpre hK hN hP hD [0, 1, 2, 3] rfl rfl⟩ rfl rfl hl.1 rfl (lv_room (Nat.le_of_ble_eq_true rfl)) dX1_writeOther_46 ⟨Nat.zero_le _, Nat.zero_le _⟩) hP hD hS hA [0, 1, 2, 3] [] [0, 1, 2, 3] (ws' := zwX1 cI h_t h_t_table t_last g6 ++ zwX2 cI h_f h_f_bytes u20 u21) rfl rfl rfl rfl rfl rfl (fun H locs hP hD hS => ?_)
      refine lv_goto (tgt := 66) hx hb dX1_writeOther_49 (by decide) ?_
      cases hf
      exact hE _ _ _ _ dX1_writeOther_66 hP hD hS
  · replace hf := zif_t hf c5
    refine lv_aload_n hx hb dX1_writeOther_15 rfl (lv_at hl 3 rfl) ?_
    refine lv_iload_n hx hb dX1_writeOther_16 rfl (lv_at hl 0 rfl) ?_
    obtain ⟨r23, u24, u25, hc26, hf⟩ := zb3_in hf
    refine zc_i (va_runV (As := [.int r1]) (rest := []) C (mX2_append l D cI H.size h_f h_f_bytes f_size f_bytes r1 r23 u24 u25 hc26) (qX1_writeOther_X2_append_47 hts) ⟨zP_blind, va_recv hK hP (ci := 2) (q0 := 2) rfl rfl, zpre hK hN hP hD [2, 3] rfl rfl⟩ rfl rfl hl.1 rfl (lv_room (Nat.le_of_ble_eq_true rfl)) dX1_writeOther_17 ⟨Nat.zero_le _, Nat.zero_le _⟩) hP hD hS hA [2, 3] [0, 1] [0, 1, 2, 3] (ws' := zwX1 cI h_t h_t_table t_last t_table ++ zwX2 cI h_f h_f_bytes u24 u25) rfl rfl rfl rfl rfl rfl (fun H locs hP hD hS => ?_)
    refine lv_pop hx hb dX1_writeOther_20 rfl ?_
    cases hf
    exact hE _ _ _ _ dX1_writeOther_21 hP hD hS
set_option maxHeartbeats 4000000 in
set_option maxRecDepth 100000 in
theorem mX1_writeOther (l : Launch) (D : va_G) (cI : ClassId) (sz : Nat) (h_t h_t_table h_f h_f_bytes : Nat) (t_last : Int32) (t_table : Nat → Int32) (f_size : Int32) (f_bytes : Nat → Int32) (v0 : Int32) (zt_table : Nat → Int32) (zf_size : Int32) (zf_bytes : Nat → Int32) (hf : fX1_writeOther t_last t_table f_size f_bytes v0 = some (zt_table, zf_size, zf_bytes)) : Met l yX1_writeOther wsX1_writeOther rmX1_writeOther (va_Pc [.ref h_t, .int v0, .ref h_f] (zP D [(cI, .int)] (zwX1 cI h_t h_t_table t_last t_table ++ zwX2 cI h_f h_f_bytes f_size f_bytes) sz)) (zQv D (zwX1 cI h_t h_t_table t_last t_table ++ zwX2 cI h_f h_f_bytes f_size f_bytes) sz (zwX1 cI h_t h_t_table t_last zt_table ++ zwX2 cI h_f h_f_bytes zf_size zf_bytes)) 0 0 (va_A (zwX1 cI h_t h_t_table t_last t_table ++ zwX2 cI h_f h_f_bytes f_size f_bytes) sz) := by
  refine Met.ofW (cc := cX1_writeOther) (maxL := 4) (ret := none) (by decide) rfl ?_
  intro p e s m args below meth c s₁ B hml hv
  obtain ⟨rfl, hsz, hP, hK, hD0, hN⟩ := hv
  subst hsz
  have C : CallFix p m c cX1_writeOther 4 s [.ref h_t, .int v0, .ref h_f].toArray wsX1_writeOther RX1 := ⟨B.exec, B.bytes, hml, findClass_of_methodNamed B.named, atoms_spec (ws := wsX1_writeOther) B.pre⟩
  have hl := lv_entry ([.ref h_t, .int v0, .ref h_f]) (n := 4) (Nat.le_of_ble_eq_true rfl)
  rw [lg_entry_eq]
  exact wX1_writeOther_0 (A := va_A (zwX1 cI h_t h_t_table t_last t_table ++ zwX2 cI h_f h_f_bytes f_size f_bytes) s.heap.size) C hN hK (fun q h => Or.inr h) (fun H locs pc ls d hP hD hS => zend_v C.1 C.2.1 B.returns B.notSynchronized d hP hD hS) hf hP hD0.self va_S.rf hl
def rmX1_writeChunks : Room := { frames := 4, cells := 0, slots := 0, locals := 94 }
theorem kX1_writeChunks_25 {args : Array Value} {s : State} (h : ∀ w ∈ wsX1_writeChunks, w.before args s = true) : (Cond.fieldLink RX1 25 "FourPictureFiles$ChunkFormat" "last" "I").before args s = true := h _ (by decide +kernel)
theorem iX1_writeChunks_X1 : ∀ w ∈ u_ws RX1 TX1 2, w ∈ wsX1_writeChunks := by decide +kernel
theorem iX1_writeChunks_X5 : ∀ w ∈ u_ws RX5 TX5 3, w ∈ wsX1_writeChunks := by decide +kernel
theorem qX1_writeChunks_X1_forget_75 {args : Array Value} {s : State} (hts : ∀ w ∈ wsX1_writeChunks, w.before args s = true) : CallW rmX1_writeChunks s args RX1 RX1 75 yX1_forget cX1_forget 1 none wsX1_forget rmX1_forget 0 0 0 := cwV 0 hts gX1_writeChunks_X1_forget rfl rfl rfl (by decide +kernel) ⟨Nat.le_of_ble_eq_true rfl, Nat.le_of_ble_eq_true rfl⟩
theorem qX1_writeChunks_X1_writeOther_85 {args : Array Value} {s : State} (hts : ∀ w ∈ wsX1_writeChunks, w.before args s = true) : CallW rmX1_writeChunks s args RX1 RX1 85 yX1_writeOther cX1_writeOther 4 none wsX1_writeOther rmX1_writeOther 0 0 2 := cwV 2 hts gX1_writeChunks_X1_writeOther rfl rfl rfl (by decide +kernel) ⟨Nat.le_of_ble_eq_true rfl, Nat.le_of_ble_eq_true rfl⟩
theorem qX1_writeChunks_X2_append_47 {args : Array Value} {s : State} (hts : ∀ w ∈ wsX1_writeChunks, w.before args s = true) : CallW rmX1_writeChunks s args RX1 RX2 47 yX2_append cX2_append 2 (some .boolean) wsX2_append rmX2_append 0 0 1 := cwV 1 hts gX1_writeChunks_X2_append rfl rfl rfl (by decide +kernel) ⟨Nat.le_of_ble_eq_true rfl, Nat.le_of_ble_eq_true rfl⟩
theorem qX1_writeChunks_X5_count_78 {args : Array Value} {s : State} (hts : ∀ w ∈ wsX1_writeChunks, w.before args s = true) : CallW rmX1_writeChunks s args RX1 RX5 78 yX5_count cX5_count 1 (some .int) wsX5_count rmX5_count 0 0 0 := cwV 0 hts gX1_writeChunks_X5_count rfl rfl rfl (by decide +kernel) ⟨Nat.le_of_ble_eq_true rfl, Nat.le_of_ble_eq_true rfl⟩
set_option maxHeartbeats 4000000 in
set_option maxRecDepth 100000 in
theorem wX1_writeChunks_92 {p : Program} {l : Launch} {e : Env} {s : State} {m : MethodId} {args : Array Value} {below : List Frame} {meth : Method} {c : Code} {D : va_G} {A : Nat → Prop} {Q : State → Prop} {cI : ClassId} {h_t h_t_table h_p h_p_pixels h_f h_f_bytes : Nat} {p_wide : Int32} {p_high : Int32} {p_pixels : Nat → Int32} {zt_last : Int32} {zt_table : Nat → Int32} {zf_size : Int32} {zf_bytes : Nat → Int32} (C : CallFix p m c cX1_writeChunks 6 s args wsX1_writeChunks RX1) (hN : zN s) (hK : va_K D vwCl [(cI, .int)] s) (hA : ∀ q, s.heap.size ≤ q → A q) (hE : zEv p l e rmX1_writeChunks s m args below meth c cX1_writeChunks D A Q (zwX1 cI h_t h_t_table zt_last zt_table ++ zwX5 cI h_p h_p_pixels p_wide p_high p_pixels ++ zwX2 cI h_f h_f_bytes zf_size zf_bytes)) {rc9 : Int32 → (Nat → Int32) → Int32 → Int32 → (Nat → Int32) → Int32 → (Nat → Int32) → Int32 → Int32 → Option (Int32 × (Nat → Int32) × Int32 × (Nat → Int32))} (hr_9 : ∀ {t_last : Int32} {t_table : Nat → Int32} {f_size : Int32} {f_bytes : Nat → Int32} {l3 : Int32} {l4 : Int32} {H : Heap} {locs : List Loc} {ls : Array Slot}, rc9 t_last t_table p_wide p_high p_pixels f_size f_bytes l3 l4 = some (zt_last, zt_table, zf_size, zf_bytes) → va_P D vwCl (zwX1 cI h_t h_t_table t_last t_table ++ zwX5 cI h_p h_p_pixels p_wide p_high p_pixels ++ zwX2 cI h_f h_f_bytes f_size f_bytes) H → va_D A (zwX1 cI h_t h_t_table t_last t_table ++ zwX5 cI h_p h_p_pixels p_wide p_high p_pixels ++ zwX2 cI h_f h_f_bytes f_size f_bytes) → va_S A s.heap H locs → lv_has ls 6 [(0, .ref h_t), (1, .ref h_p), (2, .ref h_f), (3, .int l3), (4, .int l4)] → W p l e rmX1_writeChunks s m args below meth c H locs 0 0 Q (F0 m 9 ls [])) {t_last : Int32} {t_table : Nat → Int32} {f_size : Int32} {f_bytes : Nat → Int32} {l3 : Int32} {l4 : Int32} {l5 : Int32} {H : Heap} {locs : List Loc} {ls : Array Slot} : fX1_writeChunks_92 rc9 t_last t_table p_wide p_high p_pixels f_size f_bytes l3 l4 = some (zt_last, zt_table, zf_size, zf_bytes) → va_P D vwCl (zwX1 cI h_t h_t_table t_last t_table ++ zwX5 cI h_p h_p_pixels p_wide p_high p_pixels ++ zwX2 cI h_f h_f_bytes f_size f_bytes) H → va_D A (zwX1 cI h_t h_t_table t_last t_table ++ zwX5 cI h_p h_p_pixels p_wide p_high p_pixels ++ zwX2 cI h_f h_f_bytes f_size f_bytes) → va_S A s.heap H locs → lv_has ls 6 [(0, .ref h_t), (1, .ref h_p), (2, .ref h_f), (3, .int l3), (4, .int l4), (5, .int l5)] → W p l e rmX1_writeChunks s m args below meth c H locs 0 0 Q (F0 m 92 ls []) := by
  intro hf hP hD hS hl
  obtain ⟨hx, hb, hml, hown, hts⟩ := id C
  unfold fX1_writeChunks_92 at hf
  obtain ⟨x1, ex1⟩ : ∃ y : Int32, y = l4 + 1 := ⟨_, rfl⟩
  replace hf := zlet_in hf ex1
  refine lv_iinc (v := x1) (lv' := [(4, .int x1), (0, .ref h_t), (1, .ref h_p), (2, .ref h_f), (3, .int l3), (5, .int l5)]) hx hb dX1_writeChunks_92 hl (k := 4) rfl (by rw [ex1]; rfl) (by decide) rfl (fun ls hl => ?_)
  clear ex1
  refine lv_goto (tgt := 9) hx hb dX1_writeChunks_95 (by decide) ?_
  exact hr_9 hf hP hD hS (lv_sub hl [1, 2, 3, 4, 0] rfl)
set_option maxHeartbeats 4000000 in
set_option maxRecDepth 100000 in
theorem wX1_writeChunks_70 {p : Program} {l : Launch} {e : Env} {s : State} {m : MethodId} {args : Array Value} {below : List Frame} {meth : Method} {c : Code} {D : va_G} {A : Nat → Prop} {Q : State → Prop} {cI : ClassId} {h_t h_t_table h_p h_p_pixels h_f h_f_bytes : Nat} {p_wide : Int32} {p_high : Int32} {p_pixels : Nat → Int32} {zt_last : Int32} {zt_table : Nat → Int32} {zf_size : Int32} {zf_bytes : Nat → Int32} (C : CallFix p m c cX1_writeChunks 6 s args wsX1_writeChunks RX1) (hN : zN s) (hK : va_K D vwCl [(cI, .int)] s) (hA : ∀ q, s.heap.size ≤ q → A q) (hE : zEv p l e rmX1_writeChunks s m args below meth c cX1_writeChunks D A Q (zwX1 cI h_t h_t_table zt_last zt_table ++ zwX5 cI h_p h_p_pixels p_wide p_high p_pixels ++ zwX2 cI h_f h_f_bytes zf_size zf_bytes)) {rc9 : Int32 → (Nat → Int32) → Int32 → Int32 → (Nat → Int32) → Int32 → (Nat → Int32) → Int32 → Int32 → Option (Int32 × (Nat → Int32) × Int32 × (Nat → Int32))} (hr_9 : ∀ {t_last : Int32} {t_table : Nat → Int32} {f_size : Int32} {f_bytes : Nat → Int32} {l3 : Int32} {l4 : Int32} {H : Heap} {locs : List Loc} {ls : Array Slot}, rc9 t_last t_table p_wide p_high p_pixels f_size f_bytes l3 l4 = some (zt_last, zt_table, zf_size, zf_bytes) → va_P D vwCl (zwX1 cI h_t h_t_table t_last t_table ++ zwX5 cI h_p h_p_pixels p_wide p_high p_pixels ++ zwX2 cI h_f h_f_bytes f_size f_bytes) H → va_D A (zwX1 cI h_t h_t_table t_last t_table ++ zwX5 cI h_p h_p_pixels p_wide p_high p_pixels ++ zwX2 cI h_f h_f_bytes f_size f_bytes) → va_S A s.heap H locs → lv_has ls 6 [(0, .ref h_t), (1, .ref h_p), (2, .ref h_f), (3, .int l3), (4, .int l4)] → W p l e rmX1_writeChunks s m args below meth c H locs 0 0 Q (F0 m 9 ls [])) {t_last : Int32} {t_table : Nat → Int32} {f_size : Int32} {f_bytes : Nat → Int32} {l3 : Int32} {l4 : Int32} {l5 : Int32} {H : Heap} {locs : List Loc} {ls : Array Slot} : fX1_writeChunks_70 rc9 t_last t_table p_wide p_high p_pixels f_size f_bytes l3 l4 l5 = some (zt_last, zt_table, zf_size, zf_bytes) → va_P D vwCl (zwX1 cI h_t h_t_table t_last t_table ++ zwX5 cI h_p h_p_pixels p_wide p_high p_pixels ++ zwX2 cI h_f h_f_bytes f_size f_bytes) H → va_D A (zwX1 cI h_t h_t_table t_last t_table ++ zwX5 cI h_p h_p_pixels p_wide p_high p_pixels ++ zwX2 cI h_f h_f_bytes f_size f_bytes) → va_S A s.heap H locs → lv_has ls 6 [(0, .ref h_t), (1, .ref h_p), (2, .ref h_f), (3, .int l3), (4, .int l4), (5, .int l5)] → W p l e rmX1_writeChunks s m args below meth c H locs 0 0 Q (F0 m 70 ls []) := by
  intro hf hP hD hS hl
  obtain ⟨hx, hb, hml, hown, hts⟩ := id C
  unfold fX1_writeChunks_70 at hf
  refine lv_iload hx hb dX1_writeChunks_70 (lv_at hl 5 rfl) ?_
  refine lv_aload_n hx hb dX1_writeChunks_72 rfl (lv_at hl 0 rfl) ?_
  refine va_get (D := D) (ci := 1) (v := .int t_last) (C := RX1) (T := TX1) (N := 2) hx hb hts iX1_writeChunks_X1 hown hK hP 0 rfl rfl 1 (by decide) (kX1_writeChunks_25 hts) (fun _ h9 => h9) rfl dX1_writeChunks_73 ?_
  refine lv_icmp_eq (tgt := 92) hx hb dX1_writeChunks_76 (by decide) (fun c1 => ?_) (fun c1 => ?_)
  · replace hf := zif_t hf c1
    exact wX1_writeChunks_92 C hN hK hA hE hr_9 hf hP hD hS (lv_sub hl [0, 1, 2, 3, 4, 5] rfl)
  · replace hf := zif_f hf c1
    refine lv_aload_n hx hb dX1_writeChunks_79 rfl (lv_at hl 0 rfl) ?_
    refine lv_iload hx hb dX1_writeChunks_80 (lv_at hl 5 rfl) ?_
    refine lv_aload_n hx hb dX1_writeChunks_82 rfl (lv_at hl 2 rfl) ?_
    obtain ⟨u2, u3, u4, hc5, hf⟩ := zb3_in hf
    refine zc_v (va_runV (As := [.int l5, .ref h_f]) (rest := []) C (mX1_writeOther l D cI H.size h_t h_t_table h_f h_f_bytes t_last t_table f_size f_bytes l5 u2 u3 u4 hc5) (qX1_writeChunks_X1_writeOther_85 hts) ⟨zP_blind, va_recv hK hP (ci := 1) (q0 := 0) rfl rfl, zpre hK hN hP hD [0, 1, 4, 5] rfl rfl⟩ rfl rfl hl.1 rfl (lv_room (Nat.le_of_ble_eq_true rfl)) dX1_writeChunks_83 ⟨Nat.zero_le _, Nat.zero_le _⟩) hP hD hS hA [0, 1, 4, 5] [2, 3] [2, 3, 0, 1, 4, 5] (ws' := zwX1 cI h_t h_t_table t_last u2 ++ zwX5 cI h_p h_p_pixels p_wide p_high p_pixels ++ zwX2 cI h_f h_f_bytes u3 u4) rfl rfl rfl rfl rfl rfl (fun H locs hP hD hS => ?_)
    refine lv_aload_n hx hb dX1_writeChunks_86 rfl (lv_at hl 0 rfl) ?_
    refine lv_iload hx hb dX1_writeChunks_87 (lv_at hl 5 rfl) ?_
    refine va_put (D := D) (ci := 1) (v := .int l5) (ty := .int) (C := RX1) (T := TX1) (N := 2) hx hb hts iX1_writeChunks_X1 tyX1 tyX1_ok nmX1 hown hK hP hD hS 0 rfl rfl 1 (by decide) (kX1_writeChunks_25 hts) (fun _ h9 => h9) rfl (by decide +kernel) rfl rfl (Nat.le_of_ble_eq_true rfl) dX1_writeChunks_89 (fun H locs hP hD hS => ?_)
    replace hP : va_P D vwCl (zwX1 cI h_t h_t_table l5 u2 ++ zwX5 cI h_p h_p_pixels p_wide p_high p_pixels ++ zwX2 cI h_f h_f_bytes u3 u4) H := hP
    replace hD : va_D A (zwX1 cI h_t h_t_table l5 u2 ++ zwX5 cI h_p h_p_pixels p_wide p_high p_pixels ++ zwX2 cI h_f h_f_bytes u3 u4) := hD
    exact wX1_writeChunks_92 C hN hK hA hE hr_9 hf hP hD hS (lv_sub hl [0, 1, 2, 3, 4, 5] rfl)
set_option maxHeartbeats 4000000 in
set_option maxRecDepth 100000 in
theorem wX1_writeChunks_58 {p : Program} {l : Launch} {e : Env} {s : State} {m : MethodId} {args : Array Value} {below : List Frame} {meth : Method} {c : Code} {D : va_G} {A : Nat → Prop} {Q : State → Prop} {cI : ClassId} {h_t h_t_table h_p h_p_pixels h_f h_f_bytes : Nat} {p_wide : Int32} {p_high : Int32} {p_pixels : Nat → Int32} {zt_last : Int32} {zt_table : Nat → Int32} {zf_size : Int32} {zf_bytes : Nat → Int32} (C : CallFix p m c cX1_writeChunks 6 s args wsX1_writeChunks RX1) (hN : zN s) (hK : va_K D vwCl [(cI, .int)] s) (hA : ∀ q, s.heap.size ≤ q → A q) (hE : zEv p l e rmX1_writeChunks s m args below meth c cX1_writeChunks D A Q (zwX1 cI h_t h_t_table zt_last zt_table ++ zwX5 cI h_p h_p_pixels p_wide p_high p_pixels ++ zwX2 cI h_f h_f_bytes zf_size zf_bytes)) {rc9 : Int32 → (Nat → Int32) → Int32 → Int32 → (Nat → Int32) → Int32 → (Nat → Int32) → Int32 → Int32 → Option (Int32 × (Nat → Int32) × Int32 × (Nat → Int32))} (hr_9 : ∀ {t_last : Int32} {t_table : Nat → Int32} {f_size : Int32} {f_bytes : Nat → Int32} {l3 : Int32} {l4 : Int32} {H : Heap} {locs : List Loc} {ls : Array Slot}, rc9 t_last t_table p_wide p_high p_pixels f_size f_bytes l3 l4 = some (zt_last, zt_table, zf_size, zf_bytes) → va_P D vwCl (zwX1 cI h_t h_t_table t_last t_table ++ zwX5 cI h_p h_p_pixels p_wide p_high p_pixels ++ zwX2 cI h_f h_f_bytes f_size f_bytes) H → va_D A (zwX1 cI h_t h_t_table t_last t_table ++ zwX5 cI h_p h_p_pixels p_wide p_high p_pixels ++ zwX2 cI h_f h_f_bytes f_size f_bytes) → va_S A s.heap H locs → lv_has ls 6 [(0, .ref h_t), (1, .ref h_p), (2, .ref h_f), (3, .int l3), (4, .int l4)] → W p l e rmX1_writeChunks s m args below meth c H locs 0 0 Q (F0 m 9 ls [])) {t_last : Int32} {t_table : Nat → Int32} {f_size : Int32} {f_bytes : Nat → Int32} {l3 : Int32} {l4 : Int32} {l5 : Int32} {H : Heap} {locs : List Loc} {ls : Array Slot} : fX1_writeChunks_58 rc9 t_last t_table p_wide p_high p_pixels f_size f_bytes l3 l4 l5 = some (zt_last, zt_table, zf_size, zf_bytes) → va_P D vwCl (zwX1 cI h_t h_t_table t_last t_table ++ zwX5 cI h_p h_p_pixels p_wide p_high p_pixels ++ zwX2 cI h_f h_f_bytes f_size f_bytes) H → va_D A (zwX1 cI h_t h_t_table t_last t_table ++ zwX5 cI h_p h_p_pixels p_wide p_high p_pixels ++ zwX2 cI h_f h_f_bytes f_size f_bytes) → va_S A s.heap H locs → lv_has ls 6 [(0, .ref h_t), (1, .ref h_p), (2, .ref h_f), (3, .int l3), (4, .int l4), (5, .int l5)] → W p l e rmX1_writeChunks s m args below meth c H locs 0 0 Q (F0 m 58 ls []) := by
  intro hf hP hD hS hl
  obtain ⟨hx, hb, hml, hown, hts⟩ := id C
  unfold fX1_writeChunks_58 at hf
  refine lv_aload_n hx hb dX1_writeChunks_58 rfl (lv_at hl 2 rfl) ?_
  refine lv_sipush (v := 191) hx hb dX1_writeChunks_59 (by decide) ?_
  refine lv_iload_n hx hb dX1_writeChunks_62 rfl (lv_at hl 3 rfl) ?_
  refine lv_iadd hx hb dX1_writeChunks_63 ?_
  obtain ⟨r1, u2, u3, hc4, hf⟩ := zb3_in hf
  refine zc_i (va_runV (As := [.int (191 + l3)]) (rest := []) C (mX2_append l D cI H.size h_f h_f_bytes f_size f_bytes (191 + l3) r1 u2 u3 hc4) (qX1_writeChunks_X2_append_47 hts) ⟨zP_blind, va_recv hK hP (ci := 2) (q0 := 4) rfl rfl, zpre hK hN hP hD [4, 5] rfl rfl⟩ rfl rfl hl.1 rfl (lv_room (Nat.le_of_ble_eq_true rfl)) dX1_writeChunks_64 ⟨Nat.zero_le _, Nat.zero_le _⟩) hP hD hS hA [4, 5] [0, 1, 2, 3] [0, 1, 2, 3, 4, 5] (ws' := zwX1 cI h_t h_t_table t_last t_table ++ zwX5 cI h_p h_p_pixels p_wide p_high p_pixels ++ zwX2 cI h_f h_f_bytes u2 u3) rfl rfl rfl rfl rfl rfl (fun H locs hP hD hS => ?_)
  refine lv_pop hx hb dX1_writeChunks_67 rfl ?_
  refine lv_iconst (v := 0) hx hb dX1_writeChunks_68 (by decide) ?_
  refine lv_istore_n (lv' := [(3, .int 0), (0, .ref h_t), (1, .ref h_p), (2, .ref h_f), (4, .int l4), (5, .int l5)]) hx hb dX1_writeChunks_69 rfl hl (by decide) rfl (fun ls hl => ?_)
  exact wX1_writeChunks_70 C hN hK hA hE hr_9 hf hP hD hS (lv_sub hl [1, 2, 3, 0, 4, 5] rfl)
set_option maxHeartbeats 4000000 in
set_option maxRecDepth 100000 in
theorem wX1_writeChunks_39 {p : Program} {l : Launch} {e : Env} {s : State} {m : MethodId} {args : Array Value} {below : List Frame} {meth : Method} {c : Code} {D : va_G} {A : Nat → Prop} {Q : State → Prop} {cI : ClassId} {h_t h_t_table h_p h_p_pixels h_f h_f_bytes : Nat} {p_wide : Int32} {p_high : Int32} {p_pixels : Nat → Int32} {zt_last : Int32} {zt_table : Nat → Int32} {zf_size : Int32} {zf_bytes : Nat → Int32} (C : CallFix p m c cX1_writeChunks 6 s args wsX1_writeChunks RX1) (hN : zN s) (hK : va_K D vwCl [(cI, .int)] s) (hA : ∀ q, s.heap.size ≤ q → A q) (hE : zEv p l e rmX1_writeChunks s m args below meth c cX1_writeChunks D A Q (zwX1 cI h_t h_t_table zt_last zt_table ++ zwX5 cI h_p h_p_pixels p_wide p_high p_pixels ++ zwX2 cI h_f h_f_bytes zf_size zf_bytes)) {rc9 : Int32 → (Nat → Int32) → Int32 → Int32 → (Nat → Int32) → Int32 → (Nat → Int32) → Int32 → Int32 → Option (Int32 × (Nat → Int32) × Int32 × (Nat → Int32))} (hr_9 : ∀ {t_last : Int32} {t_table : Nat → Int32} {f_size : Int32} {f_bytes : Nat → Int32} {l3 : Int32} {l4 : Int32} {H : Heap} {locs : List Loc} {ls : Array Slot}, rc9 t_last t_table p_wide p_high p_pixels f_size f_bytes l3 l4 = some (zt_last, zt_table, zf_size, zf_bytes) → va_P D vwCl (zwX1 cI h_t h_t_table t_last t_table ++ zwX5 cI h_p h_p_pixels p_wide p_high p_pixels ++ zwX2 cI h_f h_f_bytes f_size f_bytes) H → va_D A (zwX1 cI h_t h_t_table t_last t_table ++ zwX5 cI h_p h_p_pixels p_wide p_high p_pixels ++ zwX2 cI h_f h_f_bytes f_size f_bytes) → va_S A s.heap H locs → lv_has ls 6 [(0, .ref h_t), (1, .ref h_p), (2, .ref h_f), (3, .int l3), (4, .int l4)] → W p l e rmX1_writeChunks s m args below meth c H locs 0 0 Q (F0 m 9 ls [])) {t_last : Int32} {t_table : Nat → Int32} {f_size : Int32} {f_bytes : Nat → Int32} {l3 : Int32} {l4 : Int32} {l5 : Int32} {H : Heap} {locs : List Loc} {ls : Array Slot} : fX1_writeChunks_39 rc9 t_last t_table p_wide p_high p_pixels f_size f_bytes l3 l4 l5 = some (zt_last, zt_table, zf_size, zf_bytes) → va_P D vwCl (zwX1 cI h_t h_t_table t_last t_table ++ zwX5 cI h_p h_p_pixels p_wide p_high p_pixels ++ zwX2 cI h_f h_f_bytes f_size f_bytes) H → va_D A (zwX1 cI h_t h_t_table t_last t_table ++ zwX5 cI h_p h_p_pixels p_wide p_high p_pixels ++ zwX2 cI h_f h_f_bytes f_size f_bytes) → va_S A s.heap H locs → lv_has ls 6 [(0, .ref h_t), (1, .ref h_p), (2, .ref h_f), (3, .int l3), (4, .int l4), (5, .int l5)] → W p l e rmX1_writeChunks s m args below meth c H locs 0 0 Q (F0 m 39 ls []) := by
  intro hf hP hD hS hl
  obtain ⟨hx, hb, hml, hown, hts⟩ := id C
  unfold fX1_writeChunks_39 at hf
  refine lv_iload_n hx hb dX1_writeChunks_39 rfl (lv_at hl 3 rfl) ?_
  refine lv_bipush (v := 62) hx hb dX1_writeChunks_40 (by decide) ?_
  refine lv_icmp_eq (tgt := 58) hx hb dX1_writeChunks_42 (by decide) (fun c1 => ?_) (fun c1 => ?_)
  · replace hf := zif_t hf c1
    exact wX1_writeChunks_58 C hN hK hA hE hr_9 hf hP hD hS (lv_sub hl [0, 1, 2, 3, 4, 5] rfl)
  · replace hf := zif_f hf c1
    refine lv_iload_n hx hb dX1_writeChunks_45 rfl (lv_at hl 3 rfl) ?_
    refine lv_if_le (tgt := 70) hx hb dX1_writeChunks_46 (by decide) (fun c2 => ?_) (fun c2 => ?_)
    · replace hf := zif_t hf c2
      exact wX1_writeChunks_70 C hN hK hA hE hr_9 hf hP hD hS (lv_sub hl [0, 1, 2, 3, 4, 5] rfl)
    · replace hf := zif_f hf c2
      refine lv_iload hx hb dX1_writeChunks_49 (lv_at hl 5 rfl) ?_
      refine lv_aload_n hx hb dX1_writeChunks_51 rfl (lv_at hl 0 rfl) ?_
      refine va_get (D := D) (ci := 1) (v := .int t_last) (C := RX1) (T := TX1) (N := 2) hx hb hts iX1_writeChunks_X1 hown hK hP 0 rfl rfl 1 (by decide) (kX1_writeChunks_25 hts) (fun _ h9 => h9) rfl dX1_writeChunks_52 ?_
      refine lv_icmp_eq (tgt := 70) hx hb dX1_writeChunks_55 (by decide) (fun c3 => ?_) (fun c3 => ?_)
      · replace hf := zif_t hf c3
        exact wX1_writeChunks_70 C hN hK hA hE hr_9 hf hP hD hS (lv_sub hl [0, 1, 2, 3, 4, 5] rfl)
      · replace hf := zif_f hf c3
        exact wX1_writeChunks_58 C hN hK hA hE hr_9 hf hP hD hS (lv_sub hl [0, 1, 2, 3, 4, 5] rfl)
set_option maxHeartbeats 4000000 in
set_option maxRecDepth 100000 in
theorem wX1_writeChunks_9 {p : Program} {l : Launch} {e : Env} {s : State} {m : MethodId} {args : Array Value} {below : List Frame} {meth : Method} {c : Code} {D : va_G} {A : Nat → Prop} {Q : State → Prop} {cI : ClassId} {h_t h_t_table h_p h_p_pixels h_f h_f_bytes : Nat} {p_wide : Int32} {p_high : Int32} {p_pixels : Nat → Int32} {zt_last : Int32} {zt_table : Nat → Int32} {zf_size : Int32} {zf_bytes : Nat → Int32} (C : CallFix p m c cX1_writeChunks 6 s args wsX1_writeChunks RX1) (hN : zN s) (hK : va_K D vwCl [(cI, .int)] s) (hA : ∀ q, s.heap.size ≤ q → A q) (hE : zEv p l e rmX1_writeChunks s m args below meth c cX1_writeChunks D A Q (zwX1 cI h_t h_t_table zt_last zt_table ++ zwX5 cI h_p h_p_pixels p_wide p_high p_pixels ++ zwX2 cI h_f h_f_bytes zf_size zf_bytes)) (n : Nat) : ∀ {t_last : Int32} {t_table : Nat → Int32} {f_size : Int32} {f_bytes : Nat → Int32} {l3 : Int32} {l4 : Int32} {H : Heap} {locs : List Loc} {ls : Array Slot}, fX1_writeChunks_9 n t_last t_table p_wide p_high p_pixels f_size f_bytes l3 l4 = some (zt_last, zt_table, zf_size, zf_bytes) → va_P D vwCl (zwX1 cI h_t h_t_table t_last t_table ++ zwX5 cI h_p h_p_pixels p_wide p_high p_pixels ++ zwX2 cI h_f h_f_bytes f_size f_bytes) H → va_D A (zwX1 cI h_t h_t_table t_last t_table ++ zwX5 cI h_p h_p_pixels p_wide p_high p_pixels ++ zwX2 cI h_f h_f_bytes f_size f_bytes) → va_S A s.heap H locs → lv_has ls 6 [(0, .ref h_t), (1, .ref h_p), (2, .ref h_f), (3, .int l3), (4, .int l4)] → W p l e rmX1_writeChunks s m args below meth c H locs 0 0 Q (F0 m 9 ls []) := by
  obtain ⟨hx, hb, hml, hown, hts⟩ := id C
  induction n with
  | zero =>
    intro t_last t_table f_size f_bytes l3 l4 H locs ls hf
    cases hf
  | succ n hr_9 =>
    intro t_last t_table f_size f_bytes l3 l4 H locs ls hf hP hD hS hl
    rw [fX1_writeChunks_9_s] at hf
    refine lv_iload hx hb dX1_writeChunks_9 (lv_at hl 4 rfl) ?_
    refine lv_aload_n hx hb dX1_writeChunks_11 rfl (lv_at hl 1 rfl) ?_
    obtain ⟨r1, hc2, hf⟩ := zb1_in hf
    refine zc_i (va_runV (As := []) (rest := [.int l4]) C (mX5_count l D cI H.size h_p h_p_pixels p_wide p_high p_pixels r1 hc2) (qX1_writeChunks_X5_count_78 hts) ⟨zP_blind, va_recv hK hP (ci := 4) (q0 := 2) rfl rfl, zpre hK hN hP hD [2, 3] rfl rfl⟩ rfl rfl hl.1 rfl (lv_room (Nat.le_of_ble_eq_true rfl)) dX1_writeChunks_12 ⟨Nat.zero_le _, Nat.zero_le _⟩) hP hD hS hA [2, 3] [0, 1, 4, 5] [0, 1, 4, 5, 2, 3] (ws' := zwX1 cI h_t h_t_table t_last t_table ++ zwX5 cI h_p h_p_pixels p_wide p_high p_pixels ++ zwX2 cI h_f h_f_bytes f_size f_bytes) rfl rfl rfl rfl rfl rfl (fun H locs hP hD hS => ?_)
    refine lv_icmp_ge (tgt := 98) hx hb dX1_writeChunks_15 (by decide) (fun c3 => ?_) (fun c3 => ?_)
    · replace hf := zif_t hf c3
      refine lv_iload_n hx hb dX1_writeChunks_98 rfl (lv_at hl 3 rfl) ?_
      refine lv_if_le (tgt := 112) hx hb dX1_writeChunks_99 (by decide) (fun c4 => ?_) (fun c4 => ?_)
      · replace hf := zif_t hf c4
        cases hf
        exact hE _ _ _ _ dX1_writeChunks_112 hP hD hS
      · replace hf := zif_f hf c4
        refine lv_aload_n hx hb dX1_writeChunks_102 rfl (lv_at hl 2 rfl) ?_
        refine lv_sipush (v := 191) hx hb dX1_writeChunks_103 (by decide) ?_
        refine lv_iload_n hx hb dX1_writeChunks_106 rfl (lv_at hl 3 rfl) ?_
        refine lv_iadd hx hb dX1_writeChunks_107 ?_
        obtain ⟨r5, u6, u7, hc8, hf⟩ := zb3_in hf
        refine zc_i (va_runV (As := [.int (191 + l3)]) (rest := []) C (mX2_append l D cI H.size h_f h_f_bytes f_size f_bytes (191 + l3) r5 u6 u7 hc8) (qX1_writeChunks_X2_append_47 hts) ⟨zP_blind, va_recv hK hP (ci := 2) (q0 := 4) rfl rfl, zpre hK hN hP hD [4, 5] rfl rfl⟩ rfl rfl hl.1 rfl (lv_room (Nat.le_of_ble_eq_true rfl)) dX1_writeChunks_108 ⟨Nat.zero_le _, Nat.zero_le _⟩) hP hD hS hA [4, 5] [0, 1, 2, 3] [0, 1, 2, 3, 4, 5] (ws' := zwX1 cI h_t h_t_table t_last t_table ++ zwX5 cI h_p h_p_pixels p_wide p_high p_pixels ++ zwX2 cI h_f h_f_bytes u6 u7) rfl rfl rfl rfl rfl rfl (fun H locs hP hD hS => ?_)
        refine lv_pop hx hb dX1_writeChunks_111 rfl ?_
        cases hf
        exact hE _ _ _ _ dX1_writeChunks_112 hP hD hS
    · replace hf := zif_f hf c3
      refine lv_aload_n hx hb dX1_writeChunks_18 rfl (lv_at hl 1 rfl) ?_
      refine va_getN (D := D) (ci := 4) (v := .ref h_p_pixels) (C := RX5) (T := TX5) (N := 3) hx hb hts iX1_writeChunks_X5 hown hK hP 2 rfl rfl 0 (by decide) (hN.at 1 rfl) (fun _ h9 => h9) rfl dX1_writeChunks_19 ?_
      refine lv_iload hx hb dX1_writeChunks_22 (lv_at hl 4 rfl) ?_
      obtain ⟨hg10, hf⟩ := zrd_in hf
      refine va_iald hx hb hK hP 3 0 rfl rfl hg10 dX1_writeChunks_24 ?_
      refine lv_topi (fun x9 ex9 => ?_)
      replace hf := hf x9 ex9
      clear ex9
      refine lv_istore (lv' := [(5, .int x9), (0, .ref h_t), (1, .ref h_p), (2, .ref h_f), (3, .int l3), (4, .int l4)]) hx hb dX1_writeChunks_25 hl (by decide) rfl (fun ls hl => ?_)
      refine lv_iload hx hb dX1_writeChunks_27 (lv_at hl 0 rfl) ?_
      refine lv_aload_n hx hb dX1_writeChunks_29 rfl (lv_at hl 1 rfl) ?_
      refine va_get (D := D) (ci := 1) (v := .int t_last) (C := RX1) (T := TX1) (N := 2) hx hb hts iX1_writeChunks_X1 hown hK hP 0 rfl rfl 1 (by decide) (kX1_writeChunks_25 hts) (fun _ h9 => h9) rfl dX1_writeChunks_30 ?_
      refine lv_icmp_ne (tgt := 39) hx hb dX1_writeChunks_33 (by decide) (fun c11 => ?_) (fun c11 => ?_)
      · replace hf := zif_f hf c11
        exact wX1_writeChunks_39 C hN hK hA hE hr_9 hf hP hD hS (lv_sub hl [1, 2, 3, 4, 5, 0] rfl)
      · replace hf := zif_t hf c11
        obtain ⟨x12, ex12⟩ : ∃ y : Int32, y = l3 + 1 := ⟨_, rfl⟩
        replace hf := zlet_in hf ex12
        refine lv_iinc (v := x12) (lv' := [(3, .int x12), (5, .int x9), (0, .ref h_t), (1, .ref h_p), (2, .ref h_f), (4, .int l4)]) hx hb dX1_writeChunks_36 hl (k := 4) rfl (by rw [ex12]; rfl) (by decide) rfl (fun ls hl => ?_)
        clear ex12
        exact wX1_writeChunks_39 C hN hK hA hE hr_9 hf hP hD hS (lv_sub hl [2, 3, 4, 0, 5, 1] rfl)
set_option maxHeartbeats 4000000 in
set_option maxRecDepth 100000 in
theorem wX1_writeChunks_0 {p : Program} {l : Launch} {e : Env} {s : State} {m : MethodId} {args : Array Value} {below : List Frame} {meth : Method} {c : Code} {D : va_G} {A : Nat → Prop} {Q : State → Prop} {cI : ClassId} {h_t h_t_table h_p h_p_pixels h_f h_f_bytes : Nat} {p_wide : Int32} {p_high : Int32} {p_pixels : Nat → Int32} {zt_last : Int32} {zt_table : Nat → Int32} {zf_size : Int32} {zf_bytes : Nat → Int32} (C : CallFix p m c cX1_writeChunks 6 s args wsX1_writeChunks RX1) (hN : zN s) (hK : va_K D vwCl [(cI, .int)] s) (hA : ∀ q, s.heap.size ≤ q → A q) (hE : zEv p l e rmX1_writeChunks s m args below meth c cX1_writeChunks D A Q (zwX1 cI h_t h_t_table zt_last zt_table ++ zwX5 cI h_p h_p_pixels p_wide p_high p_pixels ++ zwX2 cI h_f h_f_bytes zf_size zf_bytes)) {t_last : Int32} {t_table : Nat → Int32} {f_size : Int32} {f_bytes : Nat → Int32} {H : Heap} {locs : List Loc} {ls : Array Slot} : fX1_writeChunks t_table p_wide p_high p_pixels f_size f_bytes = some (zt_last, zt_table, zf_size, zf_bytes) → va_P D vwCl (zwX1 cI h_t h_t_table t_last t_table ++ zwX5 cI h_p h_p_pixels p_wide p_high p_pixels ++ zwX2 cI h_f h_f_bytes f_size f_bytes) H → va_D A (zwX1 cI h_t h_t_table t_last t_table ++ zwX5 cI h_p h_p_pixels p_wide p_high p_pixels ++ zwX2 cI h_f h_f_bytes f_size f_bytes) → va_S A s.heap H locs → lv_has ls 6 [(0, .ref h_t), (1, .ref h_p), (2, .ref h_f)] → W p l e rmX1_writeChunks s m args below meth c H locs 0 0 Q (F0 m 0 ls []) := by
  intro hf hP hD hS hl
  obtain ⟨hx, hb, hml, hown, hts⟩ := id C
  unfold fX1_writeChunks at hf
  refine lv_aload_n hx hb dX1_writeChunks_0 rfl (lv_at hl 0 rfl) ?_
  obtain ⟨u1, u2, hc3, hf⟩ := zb2_in hf
  refine zc_v (va_runV (As := []) (rest := []) C (mX1_forget l D cI H.size h_t h_t_table t_last t_table u1 u2 hc3) (qX1_writeChunks_X1_forget_75 hts) ⟨zP_blind, va_recv hK hP (ci := 1) (q0 := 0) rfl rfl, zpre hK hN hP hD [0, 1] rfl rfl⟩ rfl rfl hl.1 rfl (lv_room (Nat.le_of_ble_eq_true rfl)) dX1_writeChunks_1 ⟨Nat.zero_le _, Nat.zero_le _⟩) hP hD hS hA [0, 1] [2, 3, 4, 5] [4, 5, 0, 1, 2, 3] (ws' := zwX1 cI h_t h_t_table u1 u2 ++ zwX5 cI h_p h_p_pixels p_wide p_high p_pixels ++ zwX2 cI h_f h_f_bytes f_size f_bytes) rfl rfl rfl rfl rfl rfl (fun H locs hP hD hS => ?_)
  refine lv_iconst (v := 0) hx hb dX1_writeChunks_4 (by decide) ?_
  refine lv_istore_n (lv' := [(3, .int 0), (0, .ref h_t), (1, .ref h_p), (2, .ref h_f)]) hx hb dX1_writeChunks_5 rfl hl (by decide) rfl (fun ls hl => ?_)
  refine lv_iconst (v := 0) hx hb dX1_writeChunks_6 (by decide) ?_
  refine lv_istore (lv' := [(4, .int 0), (3, .int 0), (0, .ref h_t), (1, .ref h_p), (2, .ref h_f)]) hx hb dX1_writeChunks_7 hl (by decide) rfl (fun ls hl => ?_)
  exact wX1_writeChunks_9 C hN hK hA hE 1000 hf hP hD hS (lv_sub hl [2, 3, 4, 1, 0] rfl)
set_option maxHeartbeats 4000000 in
set_option maxRecDepth 100000 in
theorem mX1_writeChunks (l : Launch) (D : va_G) (cI : ClassId) (sz : Nat) (h_t h_t_table h_p h_p_pixels h_f h_f_bytes : Nat) (t_last : Int32) (t_table : Nat → Int32) (p_wide : Int32) (p_high : Int32) (p_pixels : Nat → Int32) (f_size : Int32) (f_bytes : Nat → Int32) (zt_last : Int32) (zt_table : Nat → Int32) (zf_size : Int32) (zf_bytes : Nat → Int32) (hf : fX1_writeChunks t_table p_wide p_high p_pixels f_size f_bytes = some (zt_last, zt_table, zf_size, zf_bytes)) : Met l yX1_writeChunks wsX1_writeChunks rmX1_writeChunks (va_Pc [.ref h_t, .ref h_p, .ref h_f] (zP D [(cI, .int)] (zwX1 cI h_t h_t_table t_last t_table ++ zwX5 cI h_p h_p_pixels p_wide p_high p_pixels ++ zwX2 cI h_f h_f_bytes f_size f_bytes) sz)) (zQv D (zwX1 cI h_t h_t_table t_last t_table ++ zwX5 cI h_p h_p_pixels p_wide p_high p_pixels ++ zwX2 cI h_f h_f_bytes f_size f_bytes) sz (zwX1 cI h_t h_t_table zt_last zt_table ++ zwX5 cI h_p h_p_pixels p_wide p_high p_pixels ++ zwX2 cI h_f h_f_bytes zf_size zf_bytes)) 0 0 (va_A (zwX1 cI h_t h_t_table t_last t_table ++ zwX5 cI h_p h_p_pixels p_wide p_high p_pixels ++ zwX2 cI h_f h_f_bytes f_size f_bytes) sz) := by
  refine Met.ofW (cc := cX1_writeChunks) (maxL := 6) (ret := none) (by decide) rfl ?_
  intro p e s m args below meth c s₁ B hml hv
  obtain ⟨rfl, hsz, hP, hK, hD0, hN⟩ := hv
  subst hsz
  have C : CallFix p m c cX1_writeChunks 6 s [.ref h_t, .ref h_p, .ref h_f].toArray wsX1_writeChunks RX1 := ⟨B.exec, B.bytes, hml, findClass_of_methodNamed B.named, atoms_spec (ws := wsX1_writeChunks) B.pre⟩
  have hl := lv_entry ([.ref h_t, .ref h_p, .ref h_f]) (n := 6) (Nat.le_of_ble_eq_true rfl)
  rw [lg_entry_eq]
  exact wX1_writeChunks_0 (A := va_A (zwX1 cI h_t h_t_table t_last t_table ++ zwX5 cI h_p h_p_pixels p_wide p_high p_pixels ++ zwX2 cI h_f h_f_bytes f_size f_bytes) s.heap.size) C hN hK (fun q h => Or.inr h) (fun H locs pc ls d hP hD hS => zend_v C.1 C.2.1 B.returns B.notSynchronized d hP hD hS) hf hP hD0.self va_S.rf hl
def rmX1_write : Room := { frames := 5, cells := 0, slots := 0, locals := 119 }
theorem iX1_write_X5 : ∀ w ∈ u_ws RX5 TX5 3, w ∈ wsX1_write := by decide +kernel
theorem qX1_write_X1_writeChunks_67 {args : Array Value} {s : State} (hts : ∀ w ∈ wsX1_write, w.before args s = true) : CallW rmX1_write s args RX1 RX1 67 yX1_writeChunks cX1_writeChunks 6 none wsX1_writeChunks rmX1_writeChunks 0 0 2 := cwV 2 hts gX1_write_X1_writeChunks rfl rfl rfl (by decide +kernel) ⟨Nat.le_of_ble_eq_true rfl, Nat.le_of_ble_eq_true rfl⟩
theorem qX1_write_X2_append_47 {args : Array Value} {s : State} (hts : ∀ w ∈ wsX1_write, w.before args s = true) : CallW rmX1_write s args RX1 RX2 47 yX2_append cX2_append 2 (some .boolean) wsX2_append rmX2_append 0 0 1 := cwV 1 hts gX1_write_X2_append rfl rfl rfl (by decide +kernel) ⟨Nat.le_of_ble_eq_true rfl, Nat.le_of_ble_eq_true rfl⟩
theorem qX1_write_X2_appendBig_56 {args : Array Value} {s : State} (hts : ∀ w ∈ wsX1_write, w.before args s = true) : CallW rmX1_write s args RX1 RX2 56 yX2_appendBig cX2_appendBig 4 none wsX2_appendBig rmX2_appendBig 0 0 2 := cwV 2 hts gX1_write_X2_appendBig rfl rfl rfl (by decide +kernel) ⟨Nat.le_of_ble_eq_true rfl, Nat.le_of_ble_eq_true rfl⟩
theorem qX1_write_X2_appendZeros_71 {args : Array Value} {s : State} (hts : ∀ w ∈ wsX1_write, w.before args s = true) : CallW rmX1_write s args RX1 RX2 71 yX2_appendZeros cX2_appendZeros 3 none wsX2_appendZeros rmX2_appendZeros 0 0 1 := cwV 1 hts gX1_write_X2_appendZeros rfl rfl rfl (by decide +kernel) ⟨Nat.le_of_ble_eq_true rfl, Nat.le_of_ble_eq_true rfl⟩
theorem qX1_write_X5_isOpaque_63 {args : Array Value} {s : State} (hts : ∀ w ∈ wsX1_write, w.before args s = true) : CallW rmX1_write s args RX1 RX5 63 yX5_isOpaque cX5_isOpaque 2 (some .boolean) wsX5_isOpaque rmX5_isOpaque 0 0 0 := cwV 0 hts gX1_write_X5_isOpaque rfl rfl rfl (by decide +kernel) ⟨Nat.le_of_ble_eq_true rfl, Nat.le_of_ble_eq_true rfl⟩
set_option maxHeartbeats 4000000 in
set_option maxRecDepth 100000 in
theorem wX1_write_59 {p : Program} {l : Launch} {e : Env} {s : State} {m : MethodId} {args : Array Value} {below : List Frame} {meth : Method} {c : Code} {D : va_G} {A : Nat → Prop} {Q : State → Prop} {cI : ClassId} {h_t h_t_table h_p h_p_pixels h_f h_f_bytes : Nat} {p_wide : Int32} {p_high : Int32} {p_pixels : Nat → Int32} {zt_last : Int32} {zt_table : Nat → Int32} {zf_size : Int32} {zf_bytes : Nat → Int32} (C : CallFix p m c cX1_write 4 s args wsX1_write RX1) (hN : zN s) (hK : va_K D vwCl [(cI, .int)] s) (hA : ∀ q, s.heap.size ≤ q → A q) (hE : zEv p l e rmX1_write s m args below meth c cX1_write D A Q (zwX1 cI h_t h_t_table zt_last zt_table ++ zwX5 cI h_p h_p_pixels p_wide p_high p_pixels ++ zwX2 cI h_f h_f_bytes zf_size zf_bytes)) {t_last : Int32} {t_table : Nat → Int32} {f_size : Int32} {f_bytes : Nat → Int32} {l2 : Int32} {k1 : Int32} {H : Heap} {locs : List Loc} {ls : Array Slot} : fX1_write_59 t_table p_wide p_high p_pixels f_size f_bytes k1 = some (zt_last, zt_table, zf_size, zf_bytes) → va_P D vwCl (zwX1 cI h_t h_t_table t_last t_table ++ zwX5 cI h_p h_p_pixels p_wide p_high p_pixels ++ zwX2 cI h_f h_f_bytes f_size f_bytes) H → va_D A (zwX1 cI h_t h_t_table t_last t_table ++ zwX5 cI h_p h_p_pixels p_wide p_high p_pixels ++ zwX2 cI h_f h_f_bytes f_size f_bytes) → va_S A s.heap H locs → lv_has ls 4 [(0, .ref h_t), (1, .ref h_p), (2, .int l2), (3, .ref h_f)] → W p l e rmX1_write s m args below meth c H locs 0 0 Q (F0 m 59 ls [.int k1, .ref h_f]) := by
  intro hf hP hD hS hl
  obtain ⟨hx, hb, hml, hown, hts⟩ := id C
  unfold fX1_write_59 at hf
  obtain ⟨r1, u2, u3, hc4, hf⟩ := zb3_in hf
  refine zc_i (va_runV (As := [.int k1]) (rest := []) C (mX2_append l D cI H.size h_f h_f_bytes f_size f_bytes k1 r1 u2 u3 hc4) (qX1_write_X2_append_47 hts) ⟨zP_blind, va_recv hK hP (ci := 2) (q0 := 4) rfl rfl, zpre hK hN hP hD [4, 5] rfl rfl⟩ rfl rfl hl.1 rfl (lv_room (Nat.le_of_ble_eq_true rfl)) dX1_write_59 ⟨Nat.zero_le _, Nat.zero_le _⟩) hP hD hS hA [4, 5] [0, 1, 2, 3] [0, 1, 2, 3, 4, 5] (ws' := zwX1 cI h_t h_t_table t_last t_table ++ zwX5 cI h_p h_p_pixels p_wide p_high p_pixels ++ zwX2 cI h_f h_f_bytes u2 u3) rfl rfl rfl rfl rfl rfl (fun H locs hP hD hS => ?_)
  refine lv_pop hx hb dX1_write_62 rfl ?_
  refine lv_aload_n hx hb dX1_write_63 rfl (lv_at hl 3 rfl) ?_
  refine lv_iconst (v := 0) hx hb dX1_write_64 (by decide) ?_
  obtain ⟨r5, u6, u7, hc8, hf⟩ := zb3_in hf
  refine zc_i (va_runV (As := [.int 0]) (rest := []) C (mX2_append l D cI H.size h_f h_f_bytes u2 u3 0 r5 u6 u7 hc8) (qX1_write_X2_append_47 hts) ⟨zP_blind, va_recv hK hP (ci := 2) (q0 := 4) rfl rfl, zpre hK hN hP hD [4, 5] rfl rfl⟩ rfl rfl hl.1 rfl (lv_room (Nat.le_of_ble_eq_true rfl)) dX1_write_65 ⟨Nat.zero_le _, Nat.zero_le _⟩) hP hD hS hA [4, 5] [0, 1, 2, 3] [0, 1, 2, 3, 4, 5] (ws' := zwX1 cI h_t h_t_table t_last t_table ++ zwX5 cI h_p h_p_pixels p_wide p_high p_pixels ++ zwX2 cI h_f h_f_bytes u6 u7) rfl rfl rfl rfl rfl rfl (fun H locs hP hD hS => ?_)
  refine lv_pop hx hb dX1_write_68 rfl ?_
  refine lv_aload_n hx hb dX1_write_69 rfl (lv_at hl 0 rfl) ?_
  refine lv_aload_n hx hb dX1_write_70 rfl (lv_at hl 1 rfl) ?_
  refine lv_aload_n hx hb dX1_write_71 rfl (lv_at hl 3 rfl) ?_
  obtain ⟨u9, u10, u11, u12, hc13, hf⟩ := zb4_in hf
  refine zc_v (va_runV (As := [.ref h_p, .ref h_f]) (rest := []) C (mX1_writeChunks l D cI H.size h_t h_t_table h_p h_p_pixels h_f h_f_bytes t_last t_table p_wide p_high p_pixels u6 u7 u9 u10 u11 u12 hc13) (qX1_write_X1_writeChunks_67 hts) ⟨zP_blind, va_recv hK hP (ci := 1) (q0 := 0) rfl rfl, zpre hK hN hP hD [0, 1, 2, 3, 4, 5] rfl rfl⟩ rfl rfl hl.1 rfl (lv_room (Nat.le_of_ble_eq_true rfl)) dX1_write_72 ⟨Nat.zero_le _, Nat.zero_le _⟩) hP hD hS hA [0, 1, 2, 3, 4, 5] [] [0, 1, 2, 3, 4, 5] (ws' := zwX1 cI h_t h_t_table u9 u10 ++ zwX5 cI h_p h_p_pixels p_wide p_high p_pixels ++ zwX2 cI h_f h_f_bytes u11 u12) rfl rfl rfl rfl rfl rfl (fun H locs hP hD hS => ?_)
  refine lv_aload_n hx hb dX1_write_75 rfl (lv_at hl 3 rfl) ?_
  refine lv_bipush (v := 7) hx hb dX1_write_76 (by decide) ?_
  obtain ⟨u14, u15, hc16, hf⟩ := zb2_in hf
  refine zc_v (va_runV (As := [.int 7]) (rest := []) C (mX2_appendZeros l D cI H.size h_f h_f_bytes u11 u12 7 u14 u15 hc16) (qX1_write_X2_appendZeros_71 hts) ⟨zP_blind, va_recv hK hP (ci := 2) (q0 := 4) rfl rfl, zpre hK hN hP hD [4, 5] rfl rfl⟩ rfl rfl hl.1 rfl (lv_room (Nat.le_of_ble_eq_true rfl)) dX1_write_78 ⟨Nat.zero_le _, Nat.zero_le _⟩) hP hD hS hA [4, 5] [0, 1, 2, 3] [0, 1, 2, 3, 4, 5] (ws' := zwX1 cI h_t h_t_table u9 u10 ++ zwX5 cI h_p h_p_pixels p_wide p_high p_pixels ++ zwX2 cI h_f h_f_bytes u14 u15) rfl rfl rfl rfl rfl rfl (fun H locs hP hD hS => ?_)
  refine lv_aload_n hx hb dX1_write_81 rfl (lv_at hl 3 rfl) ?_
  refine lv_iconst (v := 1) hx hb dX1_write_82 (by decide) ?_
  obtain ⟨r17, u18, u19, hc20, hf⟩ := zb3_in hf
  refine zc_i (va_runV (As := [.int 1]) (rest := []) C (mX2_append l D cI H.size h_f h_f_bytes u14 u15 1 r17 u18 u19 hc20) (qX1_write_X2_append_47 hts) ⟨zP_blind, va_recv hK hP (ci := 2) (q0 := 4) rfl rfl, zpre hK hN hP hD [4, 5] rfl rfl⟩ rfl rfl hl.1 rfl (lv_room (Nat.le_of_ble_eq_true rfl)) dX1_write_83 ⟨Nat.zero_le _, Nat.zero_le _⟩) hP hD hS hA [4, 5] [0, 1, 2, 3] [0, 1, 2, 3, 4, 5] (ws' := zwX1 cI h_t h_t_table u9 u10 ++ zwX5 cI h_p h_p_pixels p_wide p_high p_pixels ++ zwX2 cI h_f h_f_bytes u18 u19) rfl rfl rfl rfl rfl rfl (fun H locs hP hD hS => ?_)
  refine lv_pop hx hb dX1_write_86 rfl ?_
  cases hf
  exact hE _ _ _ _ dX1_write_87 hP hD hS
set_option maxHeartbeats 4000000 in
set_option maxRecDepth 100000 in
theorem wX1_write_0 {p : Program} {l : Launch} {e : Env} {s : State} {m : MethodId} {args : Array Value} {below : List Frame} {meth : Method} {c : Code} {D : va_G} {A : Nat → Prop} {Q : State → Prop} {cI : ClassId} {h_t h_t_table h_p h_p_pixels h_f h_f_bytes : Nat} {p_wide : Int32} {p_high : Int32} {p_pixels : Nat → Int32} {zt_last : Int32} {zt_table : Nat → Int32} {zf_size : Int32} {zf_bytes : Nat → Int32} (C : CallFix p m c cX1_write 4 s args wsX1_write RX1) (hN : zN s) (hK : va_K D vwCl [(cI, .int)] s) (hA : ∀ q, s.heap.size ≤ q → A q) (hE : zEv p l e rmX1_write s m args below meth c cX1_write D A Q (zwX1 cI h_t h_t_table zt_last zt_table ++ zwX5 cI h_p h_p_pixels p_wide p_high p_pixels ++ zwX2 cI h_f h_f_bytes zf_size zf_bytes)) {t_last : Int32} {t_table : Nat → Int32} {f_size : Int32} {f_bytes : Nat → Int32} {v1 : Int32} {H : Heap} {locs : List Loc} {ls : Array Slot} : fX1_write t_table p_wide p_high p_pixels f_size f_bytes = some (zt_last, zt_table, zf_size, zf_bytes) → va_P D vwCl (zwX1 cI h_t h_t_table t_last t_table ++ zwX5 cI h_p h_p_pixels p_wide p_high p_pixels ++ zwX2 cI h_f h_f_bytes f_size f_bytes) H → va_D A (zwX1 cI h_t h_t_table t_last t_table ++ zwX5 cI h_p h_p_pixels p_wide p_high p_pixels ++ zwX2 cI h_f h_f_bytes f_size f_bytes) → va_S A s.heap H locs → lv_has ls 4 [(0, .ref h_t), (1, .ref h_p), (2, .int v1), (3, .ref h_f)] → W p l e rmX1_write s m args below meth c H locs 0 0 Q (F0 m 0 ls []) := by
  intro hf hP hD hS hl
  obtain ⟨hx, hb, hml, hown, hts⟩ := id C
  unfold fX1_write at hf
  refine lv_aload_n hx hb dX1_write_0 rfl (lv_at hl 3 rfl) ?_
  refine lv_bipush (v := 113) hx hb dX1_write_1 (by decide) ?_
  obtain ⟨r1, u2, u3, hc4, hf⟩ := zb3_in hf
  refine zc_i (va_runV (As := [.int 113]) (rest := []) C (mX2_append l D cI H.size h_f h_f_bytes f_size f_bytes 113 r1 u2 u3 hc4) (qX1_write_X2_append_47 hts) ⟨zP_blind, va_recv hK hP (ci := 2) (q0 := 4) rfl rfl, zpre hK hN hP hD [4, 5] rfl rfl⟩ rfl rfl hl.1 rfl (lv_room (Nat.le_of_ble_eq_true rfl)) dX1_write_3 ⟨Nat.zero_le _, Nat.zero_le _⟩) hP hD hS hA [4, 5] [0, 1, 2, 3] [0, 1, 2, 3, 4, 5] (ws' := zwX1 cI h_t h_t_table t_last t_table ++ zwX5 cI h_p h_p_pixels p_wide p_high p_pixels ++ zwX2 cI h_f h_f_bytes u2 u3) rfl rfl rfl rfl rfl rfl (fun H locs hP hD hS => ?_)
  refine lv_pop hx hb dX1_write_6 rfl ?_
  refine lv_aload_n hx hb dX1_write_7 rfl (lv_at hl 3 rfl) ?_
  refine lv_bipush (v := 111) hx hb dX1_write_8 (by decide) ?_
  obtain ⟨r5, u6, u7, hc8, hf⟩ := zb3_in hf
  refine zc_i (va_runV (As := [.int 111]) (rest := []) C (mX2_append l D cI H.size h_f h_f_bytes u2 u3 111 r5 u6 u7 hc8) (qX1_write_X2_append_47 hts) ⟨zP_blind, va_recv hK hP (ci := 2) (q0 := 4) rfl rfl, zpre hK hN hP hD [4, 5] rfl rfl⟩ rfl rfl hl.1 rfl (lv_room (Nat.le_of_ble_eq_true rfl)) dX1_write_10 ⟨Nat.zero_le _, Nat.zero_le _⟩) hP hD hS hA [4, 5] [0, 1, 2, 3] [0, 1, 2, 3, 4, 5] (ws' := zwX1 cI h_t h_t_table t_last t_table ++ zwX5 cI h_p h_p_pixels p_wide p_high p_pixels ++ zwX2 cI h_f h_f_bytes u6 u7) rfl rfl rfl rfl rfl rfl (fun H locs hP hD hS => ?_)
  refine lv_pop hx hb dX1_write_13 rfl ?_
  refine lv_aload_n hx hb dX1_write_14 rfl (lv_at hl 3 rfl) ?_
  refine lv_bipush (v := 105) hx hb dX1_write_15 (by decide) ?_
  obtain ⟨r9, u10, u11, hc12, hf⟩ := zb3_in hf
  refine zc_i (va_runV (As := [.int 105]) (rest := []) C (mX2_append l D cI H.size h_f h_f_bytes u6 u7 105 r9 u10 u11 hc12) (qX1_write_X2_append_47 hts) ⟨zP_blind, va_recv hK hP (ci := 2) (q0 := 4) rfl rfl, zpre hK hN hP hD [4, 5] rfl rfl⟩ rfl rfl hl.1 rfl (lv_room (Nat.le_of_ble_eq_true rfl)) dX1_write_17 ⟨Nat.zero_le _, Nat.zero_le _⟩) hP hD hS hA [4, 5] [0, 1, 2, 3] [0, 1, 2, 3, 4, 5] (ws' := zwX1 cI h_t h_t_table t_last t_table ++ zwX5 cI h_p h_p_pixels p_wide p_high p_pixels ++ zwX2 cI h_f h_f_bytes u10 u11) rfl rfl rfl rfl rfl rfl (fun H locs hP hD hS => ?_)
  refine lv_pop hx hb dX1_write_20 rfl ?_
  refine lv_aload_n hx hb dX1_write_21 rfl (lv_at hl 3 rfl) ?_
  refine lv_bipush (v := 102) hx hb dX1_write_22 (by decide) ?_
  obtain ⟨r13, u14, u15, hc16, hf⟩ := zb3_in hf
  refine zc_i (va_runV (As := [.int 102]) (rest := []) C (mX2_append l D cI H.size h_f h_f_bytes u10 u11 102 r13 u14 u15 hc16) (qX1_write_X2_append_47 hts) ⟨zP_blind, va_recv hK hP (ci := 2) (q0 := 4) rfl rfl, zpre hK hN hP hD [4, 5] rfl rfl⟩ rfl rfl hl.1 rfl (lv_room (Nat.le_of_ble_eq_true rfl)) dX1_write_24 ⟨Nat.zero_le _, Nat.zero_le _⟩) hP hD hS hA [4, 5] [0, 1, 2, 3] [0, 1, 2, 3, 4, 5] (ws' := zwX1 cI h_t h_t_table t_last t_table ++ zwX5 cI h_p h_p_pixels p_wide p_high p_pixels ++ zwX2 cI h_f h_f_bytes u14 u15) rfl rfl rfl rfl rfl rfl (fun H locs hP hD hS => ?_)
  refine lv_pop hx hb dX1_write_27 rfl ?_
  refine lv_aload_n hx hb dX1_write_28 rfl (lv_at hl 3 rfl) ?_
  refine lv_iconst (v := 4) hx hb dX1_write_29 (by decide) ?_
  refine lv_aload_n hx hb dX1_write_30 rfl (lv_at hl 1 rfl) ?_
  refine va_getN (D := D) (ci := 4) (v := .int p_wide) (C := RX5) (T := TX5) (N := 3) hx hb hts iX1_write_X5 hown hK hP 2 rfl rfl 1 (by decide) (hN.at 6 rfl) (fun _ h9 => h9) rfl dX1_write_31 ?_
  obtain ⟨u17, u18, hc19, hf⟩ := zb2_in hf
  refine zc_v (va_runV (As := [.int 4, .int p_wide]) (rest := []) C (mX2_appendBig l D cI H.size h_f h_f_bytes u14 u15 4 p_wide u17 u18 hc19) (qX1_write_X2_appendBig_56 hts) ⟨zP_blind, va_recv hK hP (ci := 2) (q0 := 4) rfl rfl, zpre hK hN hP hD [4, 5] rfl rfl⟩ rfl rfl hl.1 rfl (lv_room (Nat.le_of_ble_eq_true rfl)) dX1_write_34 ⟨Nat.zero_le _, Nat.zero_le _⟩) hP hD hS hA [4, 5] [0, 1, 2, 3] [0, 1, 2, 3, 4, 5] (ws' := zwX1 cI h_t h_t_table t_last t_table ++ zwX5 cI h_p h_p_pixels p_wide p_high p_pixels ++ zwX2 cI h_f h_f_bytes u17 u18) rfl rfl rfl rfl rfl rfl (fun H locs hP hD hS => ?_)
  refine lv_aload_n hx hb dX1_write_37 rfl (lv_at hl 3 rfl) ?_
  refine lv_iconst (v := 4) hx hb dX1_write_38 (by decide) ?_
  refine lv_aload_n hx hb dX1_write_39 rfl (lv_at hl 1 rfl) ?_
  refine va_getN (D := D) (ci := 4) (v := .int p_high) (C := RX5) (T := TX5) (N := 3) hx hb hts iX1_write_X5 hown hK hP 2 rfl rfl 2 (by decide) (hN.at 12 rfl) (fun _ h9 => h9) rfl dX1_write_40 ?_
  obtain ⟨u20, u21, hc22, hf⟩ := zb2_in hf
  refine zc_v (va_runV (As := [.int 4, .int p_high]) (rest := []) C (mX2_appendBig l D cI H.size h_f h_f_bytes u17 u18 4 p_high u20 u21 hc22) (qX1_write_X2_appendBig_56 hts) ⟨zP_blind, va_recv hK hP (ci := 2) (q0 := 4) rfl rfl, zpre hK hN hP hD [4, 5] rfl rfl⟩ rfl rfl hl.1 rfl (lv_room (Nat.le_of_ble_eq_true rfl)) dX1_write_43 ⟨Nat.zero_le _, Nat.zero_le _⟩) hP hD hS hA [4, 5] [0, 1, 2, 3] [0, 1, 2, 3, 4, 5] (ws' := zwX1 cI h_t h_t_table t_last t_table ++ zwX5 cI h_p h_p_pixels p_wide p_high p_pixels ++ zwX2 cI h_f h_f_bytes u20 u21) rfl rfl rfl rfl rfl rfl (fun H locs hP hD hS => ?_)
  refine lv_aload_n hx hb dX1_write_46 rfl (lv_at hl 3 rfl) ?_
  refine lv_aload_n hx hb dX1_write_47 rfl (lv_at hl 1 rfl) ?_
  obtain ⟨r23, hc24, hf⟩ := zb1_in hf
  refine zc_i (va_runV (As := []) (rest := [.ref h_f]) C (mX5_isOpaque l D cI H.size h_p h_p_pixels p_wide p_high p_pixels r23 hc24) (qX1_write_X5_isOpaque_63 hts) ⟨zP_blind, va_recv hK hP (ci := 4) (q0 := 2) rfl rfl, zpre hK hN hP hD [2, 3] rfl rfl⟩ rfl rfl hl.1 rfl (lv_room (Nat.le_of_ble_eq_true rfl)) dX1_write_48 ⟨Nat.zero_le _, Nat.zero_le _⟩) hP hD hS hA [2, 3] [0, 1, 4, 5] [0, 1, 4, 5, 2, 3] (ws' := zwX1 cI h_t h_t_table t_last t_table ++ zwX5 cI h_p h_p_pixels p_wide p_high p_pixels ++ zwX2 cI h_f h_f_bytes u20 u21) rfl rfl rfl rfl rfl rfl (fun H locs hP hD hS => ?_)
  refine lv_if_eq (tgt := 58) hx hb dX1_write_51 (by decide) (fun c25 => ?_) (fun c25 => ?_)
  · replace hf := zif_t hf c25
    refine lv_iconst (v := 4) hx hb dX1_write_58 (by decide) ?_
    exact wX1_write_59 C hN hK hA hE hf hP hD hS (lv_sub hl [0, 1, 2, 3] rfl)
  · replace hf := zif_f hf c25
    refine lv_iconst (v := 3) hx hb dX1_write_54 (by decide) ?_
    refine lv_goto (tgt := 59) hx hb dX1_write_55 (by decide) ?_
    exact wX1_write_59 C hN hK hA hE hf hP hD hS (lv_sub hl [0, 1, 2, 3] rfl)
set_option maxHeartbeats 4000000 in
set_option maxRecDepth 100000 in
theorem mX1_write (l : Launch) (D : va_G) (cI : ClassId) (sz : Nat) (h_t h_t_table h_p h_p_pixels h_f h_f_bytes : Nat) (t_last : Int32) (t_table : Nat → Int32) (p_wide : Int32) (p_high : Int32) (p_pixels : Nat → Int32) (f_size : Int32) (f_bytes : Nat → Int32) (v1 : Int32) (zt_last : Int32) (zt_table : Nat → Int32) (zf_size : Int32) (zf_bytes : Nat → Int32) (hf : fX1_write t_table p_wide p_high p_pixels f_size f_bytes = some (zt_last, zt_table, zf_size, zf_bytes)) : Met l yX1_write wsX1_write rmX1_write (va_Pc [.ref h_t, .ref h_p, .int v1, .ref h_f] (zP D [(cI, .int)] (zwX1 cI h_t h_t_table t_last t_table ++ zwX5 cI h_p h_p_pixels p_wide p_high p_pixels ++ zwX2 cI h_f h_f_bytes f_size f_bytes) sz)) (zQv D (zwX1 cI h_t h_t_table t_last t_table ++ zwX5 cI h_p h_p_pixels p_wide p_high p_pixels ++ zwX2 cI h_f h_f_bytes f_size f_bytes) sz (zwX1 cI h_t h_t_table zt_last zt_table ++ zwX5 cI h_p h_p_pixels p_wide p_high p_pixels ++ zwX2 cI h_f h_f_bytes zf_size zf_bytes)) 0 0 (va_A (zwX1 cI h_t h_t_table t_last t_table ++ zwX5 cI h_p h_p_pixels p_wide p_high p_pixels ++ zwX2 cI h_f h_f_bytes f_size f_bytes) sz) := by
  refine Met.ofW (cc := cX1_write) (maxL := 4) (ret := none) (by decide) rfl ?_
  intro p e s m args below meth c s₁ B hml hv
  obtain ⟨rfl, hsz, hP, hK, hD0, hN⟩ := hv
  subst hsz
  have C : CallFix p m c cX1_write 4 s [.ref h_t, .ref h_p, .int v1, .ref h_f].toArray wsX1_write RX1 := ⟨B.exec, B.bytes, hml, findClass_of_methodNamed B.named, atoms_spec (ws := wsX1_write) B.pre⟩
  have hl := lv_entry ([.ref h_t, .ref h_p, .int v1, .ref h_f]) (n := 4) (Nat.le_of_ble_eq_true rfl)
  rw [lg_entry_eq]
  exact wX1_write_0 (A := va_A (zwX1 cI h_t h_t_table t_last t_table ++ zwX5 cI h_p h_p_pixels p_wide p_high p_pixels ++ zwX2 cI h_f h_f_bytes f_size f_bytes) s.heap.size) C hN hK (fun q h => Or.inr h) (fun H locs pc ls d hP hD hS => zend_v C.1 C.2.1 B.returns B.notSynchronized d hP hD hS) hf hP hD0.self va_S.rf hl
