def fX9_broken_21 (k1 : Int32) : Option (Int32) :=
  some k1
def fX9_broken_17 (t_fault : Int32) : Option (Int32) :=
  fX9_broken_21 t_fault
def fX9_broken (t_fault : Int32) (v0 : Int32) : Option (Int32) :=
  if t_fault = 0 then
    if v0 = 0 then
      fX9_broken_17 t_fault
    else
      fX9_broken_21 (-3)
  else
    fX9_broken_17 t_fault
def fX9_next_24 (t_at : Int32) (t_fault : Int32) (t_file : Nat → Int32) : Option (Int32 × Int32 × Int32) :=
  if t_fault = 0 then
    zlet (t_at + 1) fun x2 =>
    zrd t_file 800 (x2 - 1) fun x3 =>
    some (x3, x2, t_fault)
  else
    some (0, t_at, t_fault)
def fX9_next (t_size : Int32) (t_at : Int32) (t_fault : Int32) (t_file : Nat → Int32) : Option (Int32 × Int32 × Int32) :=
  if t_fault = 0 then
    if t_at = t_size then
      fX9_next_24 t_at (-2) t_file
    else
      fX9_next_24 t_at t_fault t_file
  else
    fX9_next_24 t_at t_fault t_file
def fX9_skip_2 : Nat → Int32 → Int32 → Int32 → (Nat → Int32) → Int32 → Int32 → Option (Int32 × Int32)
  | 0, _, _, _, _, _, _ => none
  | n + 1, t_size, t_at, t_fault, t_file, l1, l2 =>
    if l1 ≤ l2 then
      some (t_at, t_fault)
    else
      if t_fault = 0 then
        zb3 (fX9_next t_size t_at t_fault t_file) fun r3 u4 u5 =>
        zlet (l2 + 1) fun x7 =>
        (fX9_skip_2 n) t_size u4 u5 t_file l1 x7
      else
        some (t_at, t_fault)
theorem fX9_skip_2_s (n : Nat) (t_size : Int32) (t_at : Int32) (t_fault : Int32) (t_file : Nat → Int32) (l1 : Int32) (l2 : Int32) : fX9_skip_2 (n + 1) t_size t_at t_fault t_file l1 l2 =
    if l1 ≤ l2 then
      some (t_at, t_fault)
    else
      if t_fault = 0 then
        zb3 (fX9_next t_size t_at t_fault t_file) fun r3 u4 u5 =>
        zlet (l2 + 1) fun x7 =>
        (fX9_skip_2 n) t_size u4 u5 t_file l1 x7
      else
        some (t_at, t_fault) := rfl
def fX9_skip (t_size : Int32) (t_at : Int32) (t_fault : Int32) (t_file : Nat → Int32) (v0 : Int32) : Option (Int32 × Int32) :=
  fX9_skip_2 1000 t_size t_at t_fault t_file v0 0
def fX9_number_41 (rc5 : Int32 → Int32 → Int32 → (Nat → Int32) → Int32 → Int32 → Int32 → Int32 → Option (Int32 × Int32 × Int32)) (t_size : Int32) (t_at : Int32) (t_fault : Int32) (t_file : Nat → Int32) (l1 : Int32) (l2 : Int32) (l4 : Int32) (k0 : Int32) : Option (Int32 × Int32 × Int32) :=
  zlet (l4 + 1) fun x1 =>
  rc5 t_size t_at t_fault t_file l1 l2 k0 x1
def fX9_number_5 : Nat → Int32 → Int32 → Int32 → (Nat → Int32) → Int32 → Int32 → Int32 → Int32 → Option (Int32 × Int32 × Int32)
  | 0, _, _, _, _, _, _, _, _ => none
  | n + 1, t_size, t_at, t_fault, t_file, l1, l2, l3, l4 =>
    if l1 ≤ l4 then
      some (l3, t_at, t_fault)
    else
      zb3 (fX9_next t_size t_at t_fault t_file) fun r2 u3 u4 =>
      if l2 = 0 then
        fX9_number_41 (fX9_number_5 n) t_size u3 u4 t_file l1 l2 l4 (l3 ||| (zshl r2 (8 * l4)))
      else
        fX9_number_41 (fX9_number_5 n) t_size u3 u4 t_file l1 l2 l4 ((zshl l3 8) ||| r2)
theorem fX9_number_5_s (n : Nat) (t_size : Int32) (t_at : Int32) (t_fault : Int32) (t_file : Nat → Int32) (l1 : Int32) (l2 : Int32) (l3 : Int32) (l4 : Int32) : fX9_number_5 (n + 1) t_size t_at t_fault t_file l1 l2 l3 l4 =
    if l1 ≤ l4 then
      some (l3, t_at, t_fault)
    else
      zb3 (fX9_next t_size t_at t_fault t_file) fun r2 u3 u4 =>
      if l2 = 0 then
        fX9_number_41 (fX9_number_5 n) t_size u3 u4 t_file l1 l2 l4 (l3 ||| (zshl r2 (8 * l4)))
      else
        fX9_number_41 (fX9_number_5 n) t_size u3 u4 t_file l1 l2 l4 ((zshl l3 8) ||| r2) := rfl
def fX9_number (t_size : Int32) (t_at : Int32) (t_fault : Int32) (t_file : Nat → Int32) (v0 : Int32) (v1 : Int32) : Option (Int32 × Int32 × Int32) :=
  fX9_number_5 1000 t_size t_at t_fault t_file v0 v1 0 0
def fX9_sideOf_13 (t_fault : Int32) (l1 : Int32) (k1 : Int32) : Option (Int32 × Int32) :=
  zb1 (fX9_broken t_fault k1) fun u1 =>
  some (l1, u1)
def fX9_sideOf (t_fault : Int32) (v0 : Int32) : Option (Int32 × Int32) :=
  zb1 (fX9_side v0) fun r1 =>
  if r1 = 0 then
    fX9_sideOf_13 t_fault v0 1
  else
    fX9_sideOf_13 t_fault v0 0
def fX9_must_11 (t_fault : Int32) (k1 : Int32) : Option (Int32) :=
  zb1 (fX9_broken t_fault k1) fun u1 =>
  some u1
def fX9_must (t_fault : Int32) (v0 : Int32) (v1 : Int32) : Option (Int32) :=
  if v0 = v1 then
    fX9_must_11 t_fault 0
  else
    fX9_must_11 t_fault 1
def fX9_set_9 : Nat → Int32 → (Nat → Int32) → (Nat → Int32) → Int32 → Int32 → Option ((Nat → Int32))
  | 0, _, _, _, _, _ => none
  | n + 1, t_newWide, t_fresh, t_one, l1, l2 =>
    if 4 ≤ l2 then
      some t_fresh
    else
      znz t_newWide <|
      znz t_newWide <|
      zrd t_one 4 l2 fun x4 =>
      zwr t_fresh 256 ((4 * ((8 * (l1 / t_newWide)) + (zrem l1 t_newWide))) + l2) x4 fun g6 =>
      zlet (l2 + 1) fun x8 =>
      (fX9_set_9 n) t_newWide g6 t_one l1 x8
theorem fX9_set_9_s (n : Nat) (t_newWide : Int32) (t_fresh : Nat → Int32) (t_one : Nat → Int32) (l1 : Int32) (l2 : Int32) : fX9_set_9 (n + 1) t_newWide t_fresh t_one l1 l2 =
    if 4 ≤ l2 then
      some t_fresh
    else
      znz t_newWide <|
      znz t_newWide <|
      zrd t_one 4 l2 fun x4 =>
      zwr t_fresh 256 ((4 * ((8 * (l1 / t_newWide)) + (zrem l1 t_newWide))) + l2) x4 fun g6 =>
      zlet (l2 + 1) fun x8 =>
      (fX9_set_9 n) t_newWide g6 t_one l1 x8 := rfl
def fX9_set (t_fault : Int32) (t_newWide : Int32) (t_fresh : Nat → Int32) (t_one : Nat → Int32) (v0 : Int32) : Option ((Nat → Int32)) :=
  if t_fault = 0 then
    fX9_set_9 1000 t_newWide t_fresh t_one v0 0
  else
    some t_fresh
def fX9_tone (t_one : Nat → Int32) (v0 : Int32) (v1 : Int32) (v2 : Int32) (v3 : Int32) : Option ((Nat → Int32)) :=
  zwr t_one 4 0 v0 fun g1 =>
  zwr g1 4 1 v1 fun g3 =>
  zwr g3 4 2 v2 fun g5 =>
  zwr g5 4 3 v3 fun g7 =>
  some g7
def fX9_reds (t_last : Nat → Int32) (t_one : Nat → Int32) (v0 : Int32) (v1 : Int32) (v2 : Int32) : Option ((Nat → Int32)) :=
  zrd t_last 4 0 fun x1 =>
  zrd t_last 4 1 fun x3 =>
  zrd t_last 4 2 fun x5 =>
  zrd t_last 4 3 fun x7 =>
  zb1 (fX9_tone t_one ((x1 + v0) &&& 255) ((x3 + v1) &&& 255) ((x5 + v2) &&& 255) x7) fun u9 =>
  some u9
def fX9_chunk_205 : Nat → Int32 → Int32 → (Nat → Int32) → (Nat → Int32) → (Nat → Int32) → Int32 → Int32 → Option (Int32 × Int32 × (Nat → Int32) × (Nat → Int32) × (Nat → Int32))
  | 0, _, _, _, _, _, _, _ => none
  | n + 1, t_at, t_fault, t_table, t_last, t_one, l2, l3 =>
    if 4 ≤ l3 then
      some (t_at, t_fault, t_table, t_last, t_one)
    else
      zrd t_one 4 l3 fun x2 =>
      zwr t_last 4 l3 x2 fun g4 =>
      zrd t_one 4 l3 fun x6 =>
      zwr t_table 256 (l2 + l3) x6 fun g8 =>
      zlet (l3 + 1) fun x10 =>
      (fX9_chunk_205 n) t_at t_fault g8 g4 t_one l2 x10
theorem fX9_chunk_205_s (n : Nat) (t_at : Int32) (t_fault : Int32) (t_table : Nat → Int32) (t_last : Nat → Int32) (t_one : Nat → Int32) (l2 : Int32) (l3 : Int32) : fX9_chunk_205 (n + 1) t_at t_fault t_table t_last t_one l2 l3 =
    if 4 ≤ l3 then
      some (t_at, t_fault, t_table, t_last, t_one)
    else
      zrd t_one 4 l3 fun x2 =>
      zwr t_last 4 l3 x2 fun g4 =>
      zrd t_one 4 l3 fun x6 =>
      zwr t_table 256 (l2 + l3) x6 fun g8 =>
      zlet (l3 + 1) fun x10 =>
      (fX9_chunk_205 n) t_at t_fault g8 g4 t_one l2 x10 := rfl
def fX9_chunk_173 (t_at : Int32) (t_fault : Int32) (t_table : Nat → Int32) (t_last : Nat → Int32) (t_one : Nat → Int32) : Option (Int32 × Int32 × (Nat → Int32) × (Nat → Int32) × (Nat → Int32)) :=
  zrd t_one 4 0 fun x1 =>
  zrd t_one 4 1 fun x3 =>
  zrd t_one 4 2 fun x5 =>
  zrd t_one 4 3 fun x7 =>
  zb1 (fX9_placeOf x1 x3 x5 x7) fun r9 =>
  zlet (4 * r9) fun x11 =>
  fX9_chunk_205 1000 t_at t_fault t_table t_last t_one x11 0
def fX9_chunk_48 (t_at : Int32) (t_fault : Int32) (t_table : Nat → Int32) (t_last : Nat → Int32) (t_one : Nat → Int32) (k1 : Int32) (k2 : Int32) (k3 : Int32) (k4 : Int32) : Option (Int32 × Int32 × (Nat → Int32) × (Nat → Int32) × (Nat → Int32)) :=
  zb1 (fX9_tone t_one k1 k2 k3 k4) fun u1 =>
  fX9_chunk_173 t_at t_fault t_table t_last u1
def fX9_chunk (t_size : Int32) (t_at : Int32) (t_fault : Int32) (t_file : Nat → Int32) (t_table : Nat → Int32) (t_last : Nat → Int32) (t_one : Nat → Int32) (v0 : Int32) : Option (Int32 × Int32 × (Nat → Int32) × (Nat → Int32) × (Nat → Int32)) :=
  if v0 < 254 then
    if 64 ≤ v0 then
      if 128 ≤ v0 then
        zlet (v0 - 160) fun x4 =>
        zb3 (fX9_next t_size t_at t_fault t_file) fun r5 u6 u7 =>
        zb1 (fX9_reds t_last t_one ((x4 + (r5 / 16)) - 8) x4 ((x4 + (zrem r5 16)) - 8)) fun u9 =>
        fX9_chunk_173 u6 u7 t_table t_last u9
      else
        zb1 (fX9_reds t_last t_one ((zrem (v0 / 16) 4) - 2) ((zrem (v0 / 4) 4) - 2) ((zrem v0 4) - 2)) fun u11 =>
        fX9_chunk_173 t_at t_fault t_table t_last u11
    else
      zrd t_table 256 (4 * v0) fun x13 =>
      zrd t_table 256 ((4 * v0) + 1) fun x15 =>
      zrd t_table 256 ((4 * v0) + 2) fun x17 =>
      zrd t_table 256 ((4 * v0) + 3) fun x19 =>
      zb1 (fX9_tone t_one x13 x15 x17 x19) fun u21 =>
      fX9_chunk_173 t_at t_fault t_table t_last u21
  else
    zb3 (fX9_next t_size t_at t_fault t_file) fun r23 u24 u25 =>
    zb3 (fX9_next t_size u24 u25 t_file) fun r27 u28 u29 =>
    zb3 (fX9_next t_size u28 u29 t_file) fun r31 u32 u33 =>
    if v0 = 255 then
      zb3 (fX9_next t_size u32 u33 t_file) fun r38 u39 u40 =>
      fX9_chunk_48 u39 u40 t_table t_last t_one r23 r27 r31 r38
    else
      zrd t_last 4 3 fun x36 =>
      fX9_chunk_48 u32 u33 t_table t_last t_one r23 r27 r31 x36
def fX9_readFirst_303 (t_at : Int32) (t_fault : Int32) (t_newWide : Int32) (t_newHigh : Int32) (t_fresh : Nat → Int32) (t_table : Nat → Int32) (t_last : Nat → Int32) (t_one : Nat → Int32) (k1 : Int32) : Option (Int32 × Int32 × Int32 × Int32 × (Nat → Int32) × (Nat → Int32) × (Nat → Int32) × (Nat → Int32)) :=
  zb1 (fX9_broken t_fault k1) fun u1 =>
  some (t_at, u1, t_newWide, t_newHigh, t_fresh, t_table, t_last, t_one)
def fX9_readFirst_277 (rc255 : Int32 → Int32 → Int32 → Int32 → Int32 → (Nat → Int32) → (Nat → Int32) → (Nat → Int32) → (Nat → Int32) → (Nat → Int32) → Int32 → Option (Int32 × Int32 × Int32 × Int32 × (Nat → Int32) × (Nat → Int32) × (Nat → Int32) × (Nat → Int32))) (t_size : Int32) (t_at : Int32) (t_fault : Int32) (t_newWide : Int32) (t_newHigh : Int32) (t_file : Nat → Int32) (t_fresh : Nat → Int32) (t_table : Nat → Int32) (t_last : Nat → Int32) (t_one : Nat → Int32) (l3 : Int32) (k1 : Int32) (k2 : Int32) : Option (Int32 × Int32 × Int32 × Int32 × (Nat → Int32) × (Nat → Int32) × (Nat → Int32) × (Nat → Int32)) :=
  zb1 (fX9_must t_fault k1 k2) fun u1 =>
  zlet (l3 + 1) fun x3 =>
  rc255 t_size t_at u1 t_newWide t_newHigh t_file t_fresh t_table t_last t_one x3
def fX9_readFirst_255 : Nat → Int32 → Int32 → Int32 → Int32 → Int32 → (Nat → Int32) → (Nat → Int32) → (Nat → Int32) → (Nat → Int32) → (Nat → Int32) → Int32 → Option (Int32 × Int32 × Int32 × Int32 × (Nat → Int32) × (Nat → Int32) × (Nat → Int32) × (Nat → Int32))
  | 0, _, _, _, _, _, _, _, _, _, _, _ => none
  | n + 1, t_size, t_at, t_fault, t_newWide, t_newHigh, t_file, t_fresh, t_table, t_last, t_one, l3 =>
    if 8 ≤ l3 then
      if t_size ≤ t_at then
        fX9_readFirst_303 t_at t_fault t_newWide t_newHigh t_fresh t_table t_last t_one 0
      else
        fX9_readFirst_303 t_at t_fault t_newWide t_newHigh t_fresh t_table t_last t_one 1
    else
      zb3 (fX9_next t_size t_at t_fault t_file) fun r3 u4 u5 =>
      if l3 = 7 then
        fX9_readFirst_277 (fX9_readFirst_255 n) t_size u4 u5 t_newWide t_newHigh t_file t_fresh t_table t_last t_one l3 r3 1
      else
        fX9_readFirst_277 (fX9_readFirst_255 n) t_size u4 u5 t_newWide t_newHigh t_file t_fresh t_table t_last t_one l3 r3 0
theorem fX9_readFirst_255_s (n : Nat) (t_size : Int32) (t_at : Int32) (t_fault : Int32) (t_newWide : Int32) (t_newHigh : Int32) (t_file : Nat → Int32) (t_fresh : Nat → Int32) (t_table : Nat → Int32) (t_last : Nat → Int32) (t_one : Nat → Int32) (l3 : Int32) : fX9_readFirst_255 (n + 1) t_size t_at t_fault t_newWide t_newHigh t_file t_fresh t_table t_last t_one l3 =
    if 8 ≤ l3 then
      if t_size ≤ t_at then
        fX9_readFirst_303 t_at t_fault t_newWide t_newHigh t_fresh t_table t_last t_one 0
      else
        fX9_readFirst_303 t_at t_fault t_newWide t_newHigh t_fresh t_table t_last t_one 1
    else
      zb3 (fX9_next t_size t_at t_fault t_file) fun r3 u4 u5 =>
      if l3 = 7 then
        fX9_readFirst_277 (fX9_readFirst_255 n) t_size u4 u5 t_newWide t_newHigh t_file t_fresh t_table t_last t_one l3 r3 1
      else
        fX9_readFirst_277 (fX9_readFirst_255 n) t_size u4 u5 t_newWide t_newHigh t_file t_fresh t_table t_last t_one l3 r3 0 := rfl
def fX9_readFirst_253 (t_size : Int32) (t_at : Int32) (t_fault : Int32) (t_newWide : Int32) (t_newHigh : Int32) (t_file : Nat → Int32) (t_fresh : Nat → Int32) (t_table : Nat → Int32) (t_last : Nat → Int32) (t_one : Nat → Int32) : Option (Int32 × Int32 × Int32 × Int32 × (Nat → Int32) × (Nat → Int32) × (Nat → Int32) × (Nat → Int32)) :=
  fX9_readFirst_255 1000 t_size t_at t_fault t_newWide t_newHigh t_file t_fresh t_table t_last t_one 0
def fX9_readFirst_250 (rc80 : Int32 → Int32 → Int32 → Int32 → Int32 → (Nat → Int32) → (Nat → Int32) → (Nat → Int32) → (Nat → Int32) → (Nat → Int32) → Int32 → Option (Int32 × Int32 × Int32 × Int32 × (Nat → Int32) × (Nat → Int32) × (Nat → Int32) × (Nat → Int32))) (t_size : Int32) (t_at : Int32) (t_fault : Int32) (t_newWide : Int32) (t_newHigh : Int32) (t_file : Nat → Int32) (t_fresh : Nat → Int32) (t_table : Nat → Int32) (t_last : Nat → Int32) (t_one : Nat → Int32) (l2 : Int32) : Option (Int32 × Int32 × Int32 × Int32 × (Nat → Int32) × (Nat → Int32) × (Nat → Int32) × (Nat → Int32)) :=
  rc80 t_size t_at t_fault t_newWide t_newHigh t_file t_fresh t_table t_last t_one l2
def fX9_readFirst_222 (rc80 : Int32 → Int32 → Int32 → Int32 → Int32 → (Nat → Int32) → (Nat → Int32) → (Nat → Int32) → (Nat → Int32) → (Nat → Int32) → Int32 → Option (Int32 × Int32 × Int32 × Int32 × (Nat → Int32) × (Nat → Int32) × (Nat → Int32) × (Nat → Int32))) : Nat → Int32 → Int32 → Int32 → Int32 → Int32 → (Nat → Int32) → (Nat → Int32) → (Nat → Int32) → (Nat → Int32) → (Nat → Int32) → Int32 → Int32 → Int32 → Option (Int32 × Int32 × Int32 × Int32 × (Nat → Int32) × (Nat → Int32) × (Nat → Int32) × (Nat → Int32))
  | 0, _, _, _, _, _, _, _, _, _, _, _, _, _ => none
  | n + 1, t_size, t_at, t_fault, t_newWide, t_newHigh, t_file, t_fresh, t_table, t_last, t_one, l2, l4, l5 =>
    if l4 ≤ l5 then
      fX9_readFirst_250 rc80 t_size t_at t_fault t_newWide t_newHigh t_file t_fresh t_table t_last t_one l2
    else
      if t_fault = 0 then
        zb1 (fX9_set t_fault t_newWide t_fresh t_one l2) fun u3 =>
        zlet (l2 + 1) fun x5 =>
        zlet (l5 + 1) fun x6 =>
        (fX9_readFirst_222 rc80 n) t_size t_at t_fault t_newWide t_newHigh t_file u3 t_table t_last t_one x5 l4 x6
      else
        fX9_readFirst_250 rc80 t_size t_at t_fault t_newWide t_newHigh t_file t_fresh t_table t_last t_one l2
theorem fX9_readFirst_222_s (rc80 : Int32 → Int32 → Int32 → Int32 → Int32 → (Nat → Int32) → (Nat → Int32) → (Nat → Int32) → (Nat → Int32) → (Nat → Int32) → Int32 → Option (Int32 × Int32 × Int32 × Int32 × (Nat → Int32) × (Nat → Int32) × (Nat → Int32) × (Nat → Int32))) (n : Nat) (t_size : Int32) (t_at : Int32) (t_fault : Int32) (t_newWide : Int32) (t_newHigh : Int32) (t_file : Nat → Int32) (t_fresh : Nat → Int32) (t_table : Nat → Int32) (t_last : Nat → Int32) (t_one : Nat → Int32) (l2 : Int32) (l4 : Int32) (l5 : Int32) : fX9_readFirst_222 rc80 (n + 1) t_size t_at t_fault t_newWide t_newHigh t_file t_fresh t_table t_last t_one l2 l4 l5 =
    if l4 ≤ l5 then
      fX9_readFirst_250 rc80 t_size t_at t_fault t_newWide t_newHigh t_file t_fresh t_table t_last t_one l2
    else
      if t_fault = 0 then
        zb1 (fX9_set t_fault t_newWide t_fresh t_one l2) fun u3 =>
        zlet (l2 + 1) fun x5 =>
        zlet (l5 + 1) fun x6 =>
        (fX9_readFirst_222 rc80 n) t_size t_at t_fault t_newWide t_newHigh t_file u3 t_table t_last t_one x5 l4 x6
      else
        fX9_readFirst_250 rc80 t_size t_at t_fault t_newWide t_newHigh t_file t_fresh t_table t_last t_one l2 := rfl
def fX9_readFirst_219 (rc80 : Int32 → Int32 → Int32 → Int32 → Int32 → (Nat → Int32) → (Nat → Int32) → (Nat → Int32) → (Nat → Int32) → (Nat → Int32) → Int32 → Option (Int32 × Int32 × Int32 × Int32 × (Nat → Int32) × (Nat → Int32) × (Nat → Int32) × (Nat → Int32))) (t_size : Int32) (t_at : Int32) (t_fault : Int32) (t_newWide : Int32) (t_newHigh : Int32) (t_file : Nat → Int32) (t_fresh : Nat → Int32) (t_table : Nat → Int32) (t_last : Nat → Int32) (t_one : Nat → Int32) (l2 : Int32) (l4 : Int32) : Option (Int32 × Int32 × Int32 × Int32 × (Nat → Int32) × (Nat → Int32) × (Nat → Int32) × (Nat → Int32)) :=
  fX9_readFirst_222 rc80 1000 t_size t_at t_fault t_newWide t_newHigh t_file t_fresh t_table t_last t_one l2 l4 0
def fX9_readFirst_207 (rc80 : Int32 → Int32 → Int32 → Int32 → Int32 → (Nat → Int32) → (Nat → Int32) → (Nat → Int32) → (Nat → Int32) → (Nat → Int32) → Int32 → Option (Int32 × Int32 × Int32 × Int32 × (Nat → Int32) × (Nat → Int32) × (Nat → Int32) × (Nat → Int32))) (t_size : Int32) (t_at : Int32) (t_fault : Int32) (t_newWide : Int32) (t_newHigh : Int32) (t_file : Nat → Int32) (t_fresh : Nat → Int32) (t_table : Nat → Int32) (t_last : Nat → Int32) (t_one : Nat → Int32) (l2 : Int32) (l3 : Int32) (l4 : Int32) : Option (Int32 × Int32 × Int32 × Int32 × (Nat → Int32) × (Nat → Int32) × (Nat → Int32) × (Nat → Int32)) :=
  if t_fault = 0 then
    zb5 (fX9_chunk t_size t_at t_fault t_file t_table t_last t_one l3) fun u2 u3 u4 u5 u6 =>
    fX9_readFirst_219 rc80 t_size u2 u3 t_newWide t_newHigh t_file t_fresh u4 u5 u6 l2 l4
  else
    fX9_readFirst_219 rc80 t_size t_at t_fault t_newWide t_newHigh t_file t_fresh t_table t_last t_one l2 l4
def fX9_readFirst_152 (rc80 : Int32 → Int32 → Int32 → Int32 → Int32 → (Nat → Int32) → (Nat → Int32) → (Nat → Int32) → (Nat → Int32) → (Nat → Int32) → Int32 → Option (Int32 × Int32 × Int32 × Int32 × (Nat → Int32) × (Nat → Int32) × (Nat → Int32) × (Nat → Int32))) (t_size : Int32) (t_at : Int32) (t_fault : Int32) (t_newWide : Int32) (t_newHigh : Int32) (t_file : Nat → Int32) (t_fresh : Nat → Int32) (t_table : Nat → Int32) (t_last : Nat → Int32) (t_one : Nat → Int32) (l2 : Int32) (l3 : Int32) (l4 : Int32) (k1 : Int32) : Option (Int32 × Int32 × Int32 × Int32 × (Nat → Int32) × (Nat → Int32) × (Nat → Int32) × (Nat → Int32)) :=
  zb1 (fX9_broken t_fault k1) fun u1 =>
  if u1 = 0 then
    if l3 < 192 then
      fX9_readFirst_207 rc80 t_size t_at u1 t_newWide t_newHigh t_file t_fresh t_table t_last t_one l2 l3 l4
    else
      if 254 ≤ l3 then
        fX9_readFirst_207 rc80 t_size t_at u1 t_newWide t_newHigh t_file t_fresh t_table t_last t_one l2 l3 l4
      else
        zrd t_last 4 0 fun x6 =>
        zrd t_last 4 1 fun x8 =>
        zrd t_last 4 2 fun x10 =>
        zrd t_last 4 3 fun x12 =>
        zb1 (fX9_tone t_one x6 x8 x10 x12) fun u14 =>
        fX9_readFirst_219 rc80 t_size t_at u1 t_newWide t_newHigh t_file t_fresh t_table t_last u14 l2 l4
  else
    fX9_readFirst_207 rc80 t_size t_at u1 t_newWide t_newHigh t_file t_fresh t_table t_last t_one l2 l3 l4
def fX9_readFirst_128 (rc80 : Int32 → Int32 → Int32 → Int32 → Int32 → (Nat → Int32) → (Nat → Int32) → (Nat → Int32) → (Nat → Int32) → (Nat → Int32) → Int32 → Option (Int32 × Int32 × Int32 × Int32 × (Nat → Int32) × (Nat → Int32) × (Nat → Int32) × (Nat → Int32))) (t_size : Int32) (t_at : Int32) (t_fault : Int32) (t_newWide : Int32) (t_newHigh : Int32) (t_file : Nat → Int32) (t_fresh : Nat → Int32) (t_table : Nat → Int32) (t_last : Nat → Int32) (t_one : Nat → Int32) (l2 : Int32) (l3 : Int32) (k0 : Int32) : Option (Int32 × Int32 × Int32 × Int32 × (Nat → Int32) × (Nat → Int32) × (Nat → Int32) × (Nat → Int32)) :=
  if k0 ≤ ((t_newWide * t_newHigh) - l2) then
    fX9_readFirst_152 rc80 t_size t_at t_fault t_newWide t_newHigh t_file t_fresh t_table t_last t_one l2 l3 k0 0
  else
    fX9_readFirst_152 rc80 t_size t_at t_fault t_newWide t_newHigh t_file t_fresh t_table t_last t_one l2 l3 k0 1
def fX9_readFirst_127 (rc80 : Int32 → Int32 → Int32 → Int32 → Int32 → (Nat → Int32) → (Nat → Int32) → (Nat → Int32) → (Nat → Int32) → (Nat → Int32) → Int32 → Option (Int32 × Int32 × Int32 × Int32 × (Nat → Int32) × (Nat → Int32) × (Nat → Int32) × (Nat → Int32))) (t_size : Int32) (t_at : Int32) (t_fault : Int32) (t_newWide : Int32) (t_newHigh : Int32) (t_file : Nat → Int32) (t_fresh : Nat → Int32) (t_table : Nat → Int32) (t_last : Nat → Int32) (t_one : Nat → Int32) (l2 : Int32) (l3 : Int32) : Option (Int32 × Int32 × Int32 × Int32 × (Nat → Int32) × (Nat → Int32) × (Nat → Int32) × (Nat → Int32)) :=
  fX9_readFirst_128 rc80 t_size t_at t_fault t_newWide t_newHigh t_file t_fresh t_table t_last t_one l2 l3 1
def fX9_readFirst_80 : Nat → Int32 → Int32 → Int32 → Int32 → Int32 → (Nat → Int32) → (Nat → Int32) → (Nat → Int32) → (Nat → Int32) → (Nat → Int32) → Int32 → Option (Int32 × Int32 × Int32 × Int32 × (Nat → Int32) × (Nat → Int32) × (Nat → Int32) × (Nat → Int32))
  | 0, _, _, _, _, _, _, _, _, _, _, _ => none
  | n + 1, t_size, t_at, t_fault, t_newWide, t_newHigh, t_file, t_fresh, t_table, t_last, t_one, l2 =>
    if t_fault = 0 then
      if (t_newWide * t_newHigh) ≤ l2 then
        fX9_readFirst_253 t_size t_at t_fault t_newWide t_newHigh t_file t_fresh t_table t_last t_one
      else
        zb3 (fX9_next t_size t_at t_fault t_file) fun r3 u4 u5 =>
        if r3 < 192 then
          fX9_readFirst_127 (fX9_readFirst_80 n) t_size u4 u5 t_newWide t_newHigh t_file t_fresh t_table t_last t_one l2 r3
        else
          if 254 ≤ r3 then
            fX9_readFirst_127 (fX9_readFirst_80 n) t_size u4 u5 t_newWide t_newHigh t_file t_fresh t_table t_last t_one l2 r3
          else
            fX9_readFirst_128 (fX9_readFirst_80 n) t_size u4 u5 t_newWide t_newHigh t_file t_fresh t_table t_last t_one l2 r3 (r3 - 191)
    else
      fX9_readFirst_253 t_size t_at t_fault t_newWide t_newHigh t_file t_fresh t_table t_last t_one
theorem fX9_readFirst_80_s (n : Nat) (t_size : Int32) (t_at : Int32) (t_fault : Int32) (t_newWide : Int32) (t_newHigh : Int32) (t_file : Nat → Int32) (t_fresh : Nat → Int32) (t_table : Nat → Int32) (t_last : Nat → Int32) (t_one : Nat → Int32) (l2 : Int32) : fX9_readFirst_80 (n + 1) t_size t_at t_fault t_newWide t_newHigh t_file t_fresh t_table t_last t_one l2 =
    if t_fault = 0 then
      if (t_newWide * t_newHigh) ≤ l2 then
        fX9_readFirst_253 t_size t_at t_fault t_newWide t_newHigh t_file t_fresh t_table t_last t_one
      else
        zb3 (fX9_next t_size t_at t_fault t_file) fun r3 u4 u5 =>
        if r3 < 192 then
          fX9_readFirst_127 (fX9_readFirst_80 n) t_size u4 u5 t_newWide t_newHigh t_file t_fresh t_table t_last t_one l2 r3
        else
          if 254 ≤ r3 then
            fX9_readFirst_127 (fX9_readFirst_80 n) t_size u4 u5 t_newWide t_newHigh t_file t_fresh t_table t_last t_one l2 r3
          else
            fX9_readFirst_128 (fX9_readFirst_80 n) t_size u4 u5 t_newWide t_newHigh t_file t_fresh t_table t_last t_one l2 r3 (r3 - 191)
    else
      fX9_readFirst_253 t_size t_at t_fault t_newWide t_newHigh t_file t_fresh t_table t_last t_one := rfl
def fX9_readFirst_71 (t_size : Int32) (t_at : Int32) (t_fault : Int32) (t_newWide : Int32) (t_newHigh : Int32) (t_file : Nat → Int32) (t_fresh : Nat → Int32) (t_table : Nat → Int32) (t_last : Nat → Int32) (t_one : Nat → Int32) (k1 : Int32) : Option (Int32 × Int32 × Int32 × Int32 × (Nat → Int32) × (Nat → Int32) × (Nat → Int32) × (Nat → Int32)) :=
  zb1 (fX9_broken t_fault k1) fun u1 =>
  zb2 (fX9_clearTable t_table t_last) fun u3 u4 =>
  fX9_readFirst_80 1000 t_size t_at u1 t_newWide t_newHigh t_file t_fresh u3 u4 t_one 0
def fX9_readFirst_54 (t_size : Int32) (t_at : Int32) (t_fault : Int32) (t_newWide : Int32) (t_newHigh : Int32) (t_file : Nat → Int32) (t_fresh : Nat → Int32) (t_table : Nat → Int32) (t_last : Nat → Int32) (t_one : Nat → Int32) (k1 : Int32) : Option (Int32 × Int32 × Int32 × Int32 × (Nat → Int32) × (Nat → Int32) × (Nat → Int32) × (Nat → Int32)) :=
  zb1 (fX9_broken t_fault k1) fun u1 =>
  zb3 (fX9_next t_size t_at u1 t_file) fun r3 u4 u5 =>
  if r3 ≤ 1 then
    fX9_readFirst_71 t_size u4 u5 t_newWide t_newHigh t_file t_fresh t_table t_last t_one 0
  else
    fX9_readFirst_71 t_size u4 u5 t_newWide t_newHigh t_file t_fresh t_table t_last t_one 1
def fX9_readFirst_53 (t_size : Int32) (t_at : Int32) (t_fault : Int32) (t_newWide : Int32) (t_newHigh : Int32) (t_file : Nat → Int32) (t_fresh : Nat → Int32) (t_table : Nat → Int32) (t_last : Nat → Int32) (t_one : Nat → Int32) : Option (Int32 × Int32 × Int32 × Int32 × (Nat → Int32) × (Nat → Int32) × (Nat → Int32) × (Nat → Int32)) :=
  fX9_readFirst_54 t_size t_at t_fault t_newWide t_newHigh t_file t_fresh t_table t_last t_one 0
def fX9_readFirst (t_size : Int32) (t_at : Int32) (t_fault : Int32) (t_file : Nat → Int32) (t_fresh : Nat → Int32) (t_table : Nat → Int32) (t_last : Nat → Int32) (t_one : Nat → Int32) : Option (Int32 × Int32 × Int32 × Int32 × (Nat → Int32) × (Nat → Int32) × (Nat → Int32) × (Nat → Int32)) :=
  zb2 (fX9_skip t_size t_at t_fault t_file 4) fun u1 u2 =>
  zb3 (fX9_number t_size u1 u2 t_file 4 1) fun r4 u5 u6 =>
  zb2 (fX9_sideOf u6 r4) fun r8 u9 =>
  zb3 (fX9_number t_size u5 u9 t_file 4 1) fun r11 u12 u13 =>
  zb2 (fX9_sideOf u13 r11) fun r15 u16 =>
  zb3 (fX9_next t_size u12 u16 t_file) fun r18 u19 u20 =>
  if r18 = 3 then
    fX9_readFirst_53 t_size u19 u20 r8 r15 t_file t_fresh t_table t_last t_one
  else
    if r18 = 4 then
      fX9_readFirst_53 t_size u19 u20 r8 r15 t_file t_fresh t_table t_last t_one
    else
      fX9_readFirst_54 t_size u19 u20 r8 r15 t_file t_fresh t_table t_last t_one 1
def rmX9_broken : Room := { frames := 0, cells := 0, slots := 0, locals := 0 }
theorem kX9_broken_129 {args : Array Value} {s : State} (h : ∀ w ∈ wsX9_broken, w.before args s = true) : (Cond.fieldLink RX9 129 "FourPictureFilesModel" "fault" "I").before args s = true := h _ (by decide +kernel)
theorem iX9_broken_X9 : ∀ w ∈ u_ws RX9 TX9 15, w ∈ wsX9_broken := by decide +kernel
set_option maxHeartbeats 4000000 in
set_option maxRecDepth 100000 in
theorem wX9_broken_21 {p : Program} {l : Launch} {e : Env} {s : State} {m : MethodId} {args : Array Value} {below : List Frame} {meth : Method} {c : Code} {D : va_G} {A : Nat → Prop} {Q : State → Prop} {cI : ClassId} {h_t h_t_now h_t_file h_t_fresh h_t_colour h_t_table h_t_last h_t_one : Nat} {t_wide : Int32} {t_high : Int32} {t_size : Int32} {t_at : Int32} {t_newWide : Int32} {t_newHigh : Int32} {t_colours : Int32} {t_now : Nat → Int32} {t_file : Nat → Int32} {t_fresh : Nat → Int32} {t_colour : Nat → Int32} {t_table : Nat → Int32} {t_last : Nat → Int32} {t_one : Nat → Int32} {zt_fault : Int32} (C : CallFix p m c cX9_broken 2 s args wsX9_broken RX9) (hN : zN s) (hK : va_K D vwCl [(cI, .int)] s) (hA : ∀ q, s.heap.size ≤ q → A q) (hE : zEv p l e rmX9_broken s m args below meth c cX9_broken D A Q (zwX9 cI h_t h_t_now h_t_file h_t_fresh h_t_colour h_t_table h_t_last h_t_one t_wide t_high t_size t_at zt_fault t_newWide t_newHigh t_colours t_now t_file t_fresh t_colour t_table t_last t_one)) {t_fault : Int32} {l1 : Int32} {k1 : Int32} {H : Heap} {locs : List Loc} {ls : Array Slot} : fX9_broken_21 k1 = some zt_fault → va_P D vwCl (zwX9 cI h_t h_t_now h_t_file h_t_fresh h_t_colour h_t_table h_t_last h_t_one t_wide t_high t_size t_at t_fault t_newWide t_newHigh t_colours t_now t_file t_fresh t_colour t_table t_last t_one) H → va_D A (zwX9 cI h_t h_t_now h_t_file h_t_fresh h_t_colour h_t_table h_t_last h_t_one t_wide t_high t_size t_at t_fault t_newWide t_newHigh t_colours t_now t_file t_fresh t_colour t_table t_last t_one) → va_S A s.heap H locs → lv_has ls 2 [(0, .ref h_t), (1, .int l1)] → W p l e rmX9_broken s m args below meth c H locs 0 0 Q (F0 m 21 ls [.int k1, .ref h_t]) := by
  intro hf hP hD hS hl
  obtain ⟨hx, hb, hml, hown, hts⟩ := id C
  unfold fX9_broken_21 at hf
  refine va_put (D := D) (ci := 8) (v := .int k1) (ty := .int) (C := RX9) (T := TX9) (N := 15) hx hb hts iX9_broken_X9 tyX9 tyX9_ok nmX9 hown hK hP hD hS 0 rfl rfl 6 (by decide) (kX9_broken_129 hts) (fun _ h9 => h9) rfl (by decide +kernel) rfl rfl (Nat.le_of_ble_eq_true rfl) dX9_broken_21 (fun H locs hP hD hS => ?_)
  replace hP : va_P D vwCl (zwX9 cI h_t h_t_now h_t_file h_t_fresh h_t_colour h_t_table h_t_last h_t_one t_wide t_high t_size t_at k1 t_newWide t_newHigh t_colours t_now t_file t_fresh t_colour t_table t_last t_one) H := hP
  replace hD : va_D A (zwX9 cI h_t h_t_now h_t_file h_t_fresh h_t_colour h_t_table h_t_last h_t_one t_wide t_high t_size t_at k1 t_newWide t_newHigh t_colours t_now t_file t_fresh t_colour t_table t_last t_one) := hD
  cases hf
  exact hE _ _ _ _ dX9_broken_24 hP hD hS
set_option maxHeartbeats 4000000 in
set_option maxRecDepth 100000 in
theorem wX9_broken_17 {p : Program} {l : Launch} {e : Env} {s : State} {m : MethodId} {args : Array Value} {below : List Frame} {meth : Method} {c : Code} {D : va_G} {A : Nat → Prop} {Q : State → Prop} {cI : ClassId} {h_t h_t_now h_t_file h_t_fresh h_t_colour h_t_table h_t_last h_t_one : Nat} {t_wide : Int32} {t_high : Int32} {t_size : Int32} {t_at : Int32} {t_newWide : Int32} {t_newHigh : Int32} {t_colours : Int32} {t_now : Nat → Int32} {t_file : Nat → Int32} {t_fresh : Nat → Int32} {t_colour : Nat → Int32} {t_table : Nat → Int32} {t_last : Nat → Int32} {t_one : Nat → Int32} {zt_fault : Int32} (C : CallFix p m c cX9_broken 2 s args wsX9_broken RX9) (hN : zN s) (hK : va_K D vwCl [(cI, .int)] s) (hA : ∀ q, s.heap.size ≤ q → A q) (hE : zEv p l e rmX9_broken s m args below meth c cX9_broken D A Q (zwX9 cI h_t h_t_now h_t_file h_t_fresh h_t_colour h_t_table h_t_last h_t_one t_wide t_high t_size t_at zt_fault t_newWide t_newHigh t_colours t_now t_file t_fresh t_colour t_table t_last t_one)) {t_fault : Int32} {l1 : Int32} {H : Heap} {locs : List Loc} {ls : Array Slot} : fX9_broken_17 t_fault = some zt_fault → va_P D vwCl (zwX9 cI h_t h_t_now h_t_file h_t_fresh h_t_colour h_t_table h_t_last h_t_one t_wide t_high t_size t_at t_fault t_newWide t_newHigh t_colours t_now t_file t_fresh t_colour t_table t_last t_one) H → va_D A (zwX9 cI h_t h_t_now h_t_file h_t_fresh h_t_colour h_t_table h_t_last h_t_one t_wide t_high t_size t_at t_fault t_newWide t_newHigh t_colours t_now t_file t_fresh t_colour t_table t_last t_one) → va_S A s.heap H locs → lv_has ls 2 [(0, .ref h_t), (1, .int l1)] → W p l e rmX9_broken s m args below meth c H locs 0 0 Q (F0 m 17 ls [.ref h_t]) := by
  intro hf hP hD hS hl
  obtain ⟨hx, hb, hml, hown, hts⟩ := id C
  unfold fX9_broken_17 at hf
  refine lv_aload_n hx hb dX9_broken_17 rfl (lv_at hl 0 rfl) ?_
  refine va_get (D := D) (ci := 8) (v := .int t_fault) (C := RX9) (T := TX9) (N := 15) hx hb hts iX9_broken_X9 hown hK hP 0 rfl rfl 6 (by decide) (kX9_broken_129 hts) (fun _ h9 => h9) rfl dX9_broken_18 ?_
  exact wX9_broken_21 C hN hK hA hE hf hP hD hS (lv_sub hl [0, 1] rfl)
set_option maxHeartbeats 4000000 in
set_option maxRecDepth 100000 in
theorem wX9_broken_0 {p : Program} {l : Launch} {e : Env} {s : State} {m : MethodId} {args : Array Value} {below : List Frame} {meth : Method} {c : Code} {D : va_G} {A : Nat → Prop} {Q : State → Prop} {cI : ClassId} {h_t h_t_now h_t_file h_t_fresh h_t_colour h_t_table h_t_last h_t_one : Nat} {t_wide : Int32} {t_high : Int32} {t_size : Int32} {t_at : Int32} {t_newWide : Int32} {t_newHigh : Int32} {t_colours : Int32} {t_now : Nat → Int32} {t_file : Nat → Int32} {t_fresh : Nat → Int32} {t_colour : Nat → Int32} {t_table : Nat → Int32} {t_last : Nat → Int32} {t_one : Nat → Int32} {zt_fault : Int32} (C : CallFix p m c cX9_broken 2 s args wsX9_broken RX9) (hN : zN s) (hK : va_K D vwCl [(cI, .int)] s) (hA : ∀ q, s.heap.size ≤ q → A q) (hE : zEv p l e rmX9_broken s m args below meth c cX9_broken D A Q (zwX9 cI h_t h_t_now h_t_file h_t_fresh h_t_colour h_t_table h_t_last h_t_one t_wide t_high t_size t_at zt_fault t_newWide t_newHigh t_colours t_now t_file t_fresh t_colour t_table t_last t_one)) {t_fault : Int32} {v0 : Int32} {H : Heap} {locs : List Loc} {ls : Array Slot} : fX9_broken t_fault v0 = some zt_fault → va_P D vwCl (zwX9 cI h_t h_t_now h_t_file h_t_fresh h_t_colour h_t_table h_t_last h_t_one t_wide t_high t_size t_at t_fault t_newWide t_newHigh t_colours t_now t_file t_fresh t_colour t_table t_last t_one) H → va_D A (zwX9 cI h_t h_t_now h_t_file h_t_fresh h_t_colour h_t_table h_t_last h_t_one t_wide t_high t_size t_at t_fault t_newWide t_newHigh t_colours t_now t_file t_fresh t_colour t_table t_last t_one) → va_S A s.heap H locs → lv_has ls 2 [(0, .ref h_t), (1, .int v0)] → W p l e rmX9_broken s m args below meth c H locs 0 0 Q (F0 m 0 ls []) := by
  intro hf hP hD hS hl
  obtain ⟨hx, hb, hml, hown, hts⟩ := id C
  unfold fX9_broken at hf
  refine lv_aload_n hx hb dX9_broken_0 rfl (lv_at hl 0 rfl) ?_
  refine lv_aload_n hx hb dX9_broken_1 rfl (lv_at hl 0 rfl) ?_
  refine va_get (D := D) (ci := 8) (v := .int t_fault) (C := RX9) (T := TX9) (N := 15) hx hb hts iX9_broken_X9 hown hK hP 0 rfl rfl 6 (by decide) (kX9_broken_129 hts) (fun _ h9 => h9) rfl dX9_broken_2 ?_
  refine lv_if_ne (tgt := 17) hx hb dX9_broken_5 (by decide) (fun c1 => ?_) (fun c1 => ?_)
  · replace hf := zif_f hf c1
    exact wX9_broken_17 C hN hK hA hE hf hP hD hS (lv_sub hl [0, 1] rfl)
  · replace hf := zif_t hf c1
    refine lv_iload_n hx hb dX9_broken_8 rfl (lv_at hl 1 rfl) ?_
    refine lv_if_eq (tgt := 17) hx hb dX9_broken_9 (by decide) (fun c2 => ?_) (fun c2 => ?_)
    · replace hf := zif_t hf c2
      exact wX9_broken_17 C hN hK hA hE hf hP hD hS (lv_sub hl [0, 1] rfl)
    · replace hf := zif_f hf c2
      refine lv_bipush (v := (-3)) hx hb dX9_broken_12 (by decide) ?_
      refine lv_goto (tgt := 21) hx hb dX9_broken_14 (by decide) ?_
      exact wX9_broken_21 C hN hK hA hE hf hP hD hS (lv_sub hl [0, 1] rfl)
set_option maxHeartbeats 4000000 in
set_option maxRecDepth 100000 in
theorem mX9_broken (l : Launch) (D : va_G) (cI : ClassId) (sz : Nat) (h_t h_t_now h_t_file h_t_fresh h_t_colour h_t_table h_t_last h_t_one : Nat) (t_wide : Int32) (t_high : Int32) (t_size : Int32) (t_at : Int32) (t_fault : Int32) (t_newWide : Int32) (t_newHigh : Int32) (t_colours : Int32) (t_now : Nat → Int32) (t_file : Nat → Int32) (t_fresh : Nat → Int32) (t_colour : Nat → Int32) (t_table : Nat → Int32) (t_last : Nat → Int32) (t_one : Nat → Int32) (v0 : Int32) (zt_fault : Int32) (hf : fX9_broken t_fault v0 = some zt_fault) : Met l yX9_broken wsX9_broken rmX9_broken (va_Pc [.ref h_t, .int v0] (zP D [(cI, .int)] (zwX9 cI h_t h_t_now h_t_file h_t_fresh h_t_colour h_t_table h_t_last h_t_one t_wide t_high t_size t_at t_fault t_newWide t_newHigh t_colours t_now t_file t_fresh t_colour t_table t_last t_one) sz)) (zQv D (zwX9 cI h_t h_t_now h_t_file h_t_fresh h_t_colour h_t_table h_t_last h_t_one t_wide t_high t_size t_at t_fault t_newWide t_newHigh t_colours t_now t_file t_fresh t_colour t_table t_last t_one) sz (zwX9 cI h_t h_t_now h_t_file h_t_fresh h_t_colour h_t_table h_t_last h_t_one t_wide t_high t_size t_at zt_fault t_newWide t_newHigh t_colours t_now t_file t_fresh t_colour t_table t_last t_one)) 0 0 (va_A (zwX9 cI h_t h_t_now h_t_file h_t_fresh h_t_colour h_t_table h_t_last h_t_one t_wide t_high t_size t_at t_fault t_newWide t_newHigh t_colours t_now t_file t_fresh t_colour t_table t_last t_one) sz) := by
  refine Met.ofW (cc := cX9_broken) (maxL := 2) (ret := none) (by decide) rfl ?_
  intro p e s m args below meth c s₁ B hml hv
  obtain ⟨rfl, hsz, hP, hK, hD0, hN⟩ := hv
  subst hsz
  have C : CallFix p m c cX9_broken 2 s [.ref h_t, .int v0].toArray wsX9_broken RX9 := ⟨B.exec, B.bytes, hml, findClass_of_methodNamed B.named, atoms_spec (ws := wsX9_broken) B.pre⟩
  have hl := lv_entry ([.ref h_t, .int v0]) (n := 2) (Nat.le_of_ble_eq_true rfl)
  rw [lg_entry_eq]
  exact wX9_broken_0 (A := va_A (zwX9 cI h_t h_t_now h_t_file h_t_fresh h_t_colour h_t_table h_t_last h_t_one t_wide t_high t_size t_at t_fault t_newWide t_newHigh t_colours t_now t_file t_fresh t_colour t_table t_last t_one) s.heap.size) C hN hK (fun q h => Or.inr h) (fun H locs pc ls d hP hD hS => zend_v C.1 C.2.1 B.returns B.notSynchronized d hP hD hS) hf hP hD0.self va_S.rf hl
def rmX9_next : Room := { frames := 0, cells := 0, slots := 0, locals := 0 }
theorem kX9_next_20 {args : Array Value} {s : State} (h : ∀ w ∈ wsX9_next, w.before args s = true) : (Cond.fieldLink RX9 20 "FourPictureFilesModel" "file" "[I").before args s = true := h _ (by decide +kernel)
theorem kX9_next_57 {args : Array Value} {s : State} (h : ∀ w ∈ wsX9_next, w.before args s = true) : (Cond.fieldLink RX9 57 "FourPictureFilesModel" "size" "I").before args s = true := h _ (by decide +kernel)
theorem kX9_next_129 {args : Array Value} {s : State} (h : ∀ w ∈ wsX9_next, w.before args s = true) : (Cond.fieldLink RX9 129 "FourPictureFilesModel" "fault" "I").before args s = true := h _ (by decide +kernel)
theorem kX9_next_132 {args : Array Value} {s : State} (h : ∀ w ∈ wsX9_next, w.before args s = true) : (Cond.fieldLink RX9 132 "FourPictureFilesModel" "at" "I").before args s = true := h _ (by decide +kernel)
theorem iX9_next_X9 : ∀ w ∈ u_ws RX9 TX9 15, w ∈ wsX9_next := by decide +kernel
set_option maxHeartbeats 4000000 in
set_option maxRecDepth 100000 in
theorem wX9_next_24 {p : Program} {l : Launch} {e : Env} {s : State} {m : MethodId} {args : Array Value} {below : List Frame} {meth : Method} {c : Code} {D : va_G} {A : Nat → Prop} {Q : State → Prop} {cI : ClassId} {h_t h_t_now h_t_file h_t_fresh h_t_colour h_t_table h_t_last h_t_one : Nat} {t_wide : Int32} {t_high : Int32} {t_size : Int32} {t_newWide : Int32} {t_newHigh : Int32} {t_colours : Int32} {t_now : Nat → Int32} {t_file : Nat → Int32} {t_fresh : Nat → Int32} {t_colour : Nat → Int32} {t_table : Nat → Int32} {t_last : Nat → Int32} {t_one : Nat → Int32} {r0 : Int32} {zt_at : Int32} {zt_fault : Int32} (C : CallFix p m c cX9_next 1 s args wsX9_next RX9) (hN : zN s) (hK : va_K D vwCl [(cI, .int)] s) (hA : ∀ q, s.heap.size ≤ q → A q) (hE : zEi p l e rmX9_next s m args below meth c cX9_next D A Q (zwX9 cI h_t h_t_now h_t_file h_t_fresh h_t_colour h_t_table h_t_last h_t_one t_wide t_high t_size zt_at zt_fault t_newWide t_newHigh t_colours t_now t_file t_fresh t_colour t_table t_last t_one) r0) {t_at : Int32} {t_fault : Int32} {H : Heap} {locs : List Loc} {ls : Array Slot} : fX9_next_24 t_at t_fault t_file = some (r0, zt_at, zt_fault) → va_P D vwCl (zwX9 cI h_t h_t_now h_t_file h_t_fresh h_t_colour h_t_table h_t_last h_t_one t_wide t_high t_size t_at t_fault t_newWide t_newHigh t_colours t_now t_file t_fresh t_colour t_table t_last t_one) H → va_D A (zwX9 cI h_t h_t_now h_t_file h_t_fresh h_t_colour h_t_table h_t_last h_t_one t_wide t_high t_size t_at t_fault t_newWide t_newHigh t_colours t_now t_file t_fresh t_colour t_table t_last t_one) → va_S A s.heap H locs → lv_has ls 1 [(0, .ref h_t)] → W p l e rmX9_next s m args below meth c H locs 0 0 Q (F0 m 24 ls []) := by
  intro hf hP hD hS hl
  obtain ⟨hx, hb, hml, hown, hts⟩ := id C
  unfold fX9_next_24 at hf
  refine lv_aload_n hx hb dX9_next_24 rfl (lv_at hl 0 rfl) ?_
  refine va_get (D := D) (ci := 8) (v := .int t_fault) (C := RX9) (T := TX9) (N := 15) hx hb hts iX9_next_X9 hown hK hP 0 rfl rfl 6 (by decide) (kX9_next_129 hts) (fun _ h9 => h9) rfl dX9_next_25 ?_
  refine lv_if_eq (tgt := 33) hx hb dX9_next_28 (by decide) (fun c1 => ?_) (fun c1 => ?_)
  · replace hf := zif_t hf c1
    refine lv_aload_n hx hb dX9_next_33 rfl (lv_at hl 0 rfl) ?_
    refine lv_dup hx hb dX9_next_34 rfl ?_
    refine va_get (D := D) (ci := 8) (v := .int t_at) (C := RX9) (T := TX9) (N := 15) hx hb hts iX9_next_X9 hown hK hP 0 rfl rfl 5 (by decide) (kX9_next_132 hts) (fun _ h9 => h9) rfl dX9_next_35 ?_
    refine lv_iconst (v := 1) hx hb dX9_next_38 (by decide) ?_
    refine lv_iadd hx hb dX9_next_39 ?_
    refine lv_topi (fun x2 ex2 => ?_)
    replace hf := zlet_in hf ex2
    clear ex2
    refine va_put (D := D) (ci := 8) (v := .int x2) (ty := .int) (C := RX9) (T := TX9) (N := 15) hx hb hts iX9_next_X9 tyX9 tyX9_ok nmX9 hown hK hP hD hS 0 rfl rfl 5 (by decide) (kX9_next_132 hts) (fun _ h9 => h9) rfl (by decide +kernel) rfl rfl (Nat.le_of_ble_eq_true rfl) dX9_next_40 (fun H locs hP hD hS => ?_)
    replace hP : va_P D vwCl (zwX9 cI h_t h_t_now h_t_file h_t_fresh h_t_colour h_t_table h_t_last h_t_one t_wide t_high t_size x2 t_fault t_newWide t_newHigh t_colours t_now t_file t_fresh t_colour t_table t_last t_one) H := hP
    replace hD : va_D A (zwX9 cI h_t h_t_now h_t_file h_t_fresh h_t_colour h_t_table h_t_last h_t_one t_wide t_high t_size x2 t_fault t_newWide t_newHigh t_colours t_now t_file t_fresh t_colour t_table t_last t_one) := hD
    refine lv_aload_n hx hb dX9_next_43 rfl (lv_at hl 0 rfl) ?_
    refine va_get (D := D) (ci := 8) (v := .ref h_t_file) (C := RX9) (T := TX9) (N := 15) hx hb hts iX9_next_X9 hown hK hP 0 rfl rfl 4 (by decide) (kX9_next_20 hts) (fun _ h9 => h9) rfl dX9_next_44 ?_
    refine lv_aload_n hx hb dX9_next_47 rfl (lv_at hl 0 rfl) ?_
    refine va_get (D := D) (ci := 8) (v := .int x2) (C := RX9) (T := TX9) (N := 15) hx hb hts iX9_next_X9 hown hK hP 0 rfl rfl 5 (by decide) (kX9_next_132 hts) (fun _ h9 => h9) rfl dX9_next_48 ?_
    refine lv_iconst (v := 1) hx hb dX9_next_51 (by decide) ?_
    refine lv_isub hx hb dX9_next_52 ?_
    obtain ⟨hg4, hf⟩ := zrd_in hf
    refine va_iald hx hb hK hP 2 0 rfl rfl hg4 dX9_next_53 ?_
    refine lv_topi (fun x3 ex3 => ?_)
    replace hf := hf x3 ex3
    clear ex3
    cases hf
    exact hE _ _ _ _ dX9_next_54 hP hD hS
  · replace hf := zif_f hf c1
    refine lv_iconst (v := 0) hx hb dX9_next_31 (by decide) ?_
    cases hf
    exact hE _ _ _ _ dX9_next_32 hP hD hS
set_option maxHeartbeats 4000000 in
set_option maxRecDepth 100000 in
theorem wX9_next_0 {p : Program} {l : Launch} {e : Env} {s : State} {m : MethodId} {args : Array Value} {below : List Frame} {meth : Method} {c : Code} {D : va_G} {A : Nat → Prop} {Q : State → Prop} {cI : ClassId} {h_t h_t_now h_t_file h_t_fresh h_t_colour h_t_table h_t_last h_t_one : Nat} {t_wide : Int32} {t_high : Int32} {t_size : Int32} {t_newWide : Int32} {t_newHigh : Int32} {t_colours : Int32} {t_now : Nat → Int32} {t_file : Nat → Int32} {t_fresh : Nat → Int32} {t_colour : Nat → Int32} {t_table : Nat → Int32} {t_last : Nat → Int32} {t_one : Nat → Int32} {r0 : Int32} {zt_at : Int32} {zt_fault : Int32} (C : CallFix p m c cX9_next 1 s args wsX9_next RX9) (hN : zN s) (hK : va_K D vwCl [(cI, .int)] s) (hA : ∀ q, s.heap.size ≤ q → A q) (hE : zEi p l e rmX9_next s m args below meth c cX9_next D A Q (zwX9 cI h_t h_t_now h_t_file h_t_fresh h_t_colour h_t_table h_t_last h_t_one t_wide t_high t_size zt_at zt_fault t_newWide t_newHigh t_colours t_now t_file t_fresh t_colour t_table t_last t_one) r0) {t_at : Int32} {t_fault : Int32} {H : Heap} {locs : List Loc} {ls : Array Slot} : fX9_next t_size t_at t_fault t_file = some (r0, zt_at, zt_fault) → va_P D vwCl (zwX9 cI h_t h_t_now h_t_file h_t_fresh h_t_colour h_t_table h_t_last h_t_one t_wide t_high t_size t_at t_fault t_newWide t_newHigh t_colours t_now t_file t_fresh t_colour t_table t_last t_one) H → va_D A (zwX9 cI h_t h_t_now h_t_file h_t_fresh h_t_colour h_t_table h_t_last h_t_one t_wide t_high t_size t_at t_fault t_newWide t_newHigh t_colours t_now t_file t_fresh t_colour t_table t_last t_one) → va_S A s.heap H locs → lv_has ls 1 [(0, .ref h_t)] → W p l e rmX9_next s m args below meth c H locs 0 0 Q (F0 m 0 ls []) := by
  intro hf hP hD hS hl
  obtain ⟨hx, hb, hml, hown, hts⟩ := id C
  unfold fX9_next at hf
  refine lv_aload_n hx hb dX9_next_0 rfl (lv_at hl 0 rfl) ?_
  refine va_get (D := D) (ci := 8) (v := .int t_fault) (C := RX9) (T := TX9) (N := 15) hx hb hts iX9_next_X9 hown hK hP 0 rfl rfl 6 (by decide) (kX9_next_129 hts) (fun _ h9 => h9) rfl dX9_next_1 ?_
  refine lv_if_ne (tgt := 24) hx hb dX9_next_4 (by decide) (fun c1 => ?_) (fun c1 => ?_)
  · replace hf := zif_f hf c1
    exact wX9_next_24 C hN hK hA hE hf hP hD hS (lv_sub hl [0] rfl)
  · replace hf := zif_t hf c1
    refine lv_aload_n hx hb dX9_next_7 rfl (lv_at hl 0 rfl) ?_
    refine va_get (D := D) (ci := 8) (v := .int t_at) (C := RX9) (T := TX9) (N := 15) hx hb hts iX9_next_X9 hown hK hP 0 rfl rfl 5 (by decide) (kX9_next_132 hts) (fun _ h9 => h9) rfl dX9_next_8 ?_
    refine lv_aload_n hx hb dX9_next_11 rfl (lv_at hl 0 rfl) ?_
    refine va_get (D := D) (ci := 8) (v := .int t_size) (C := RX9) (T := TX9) (N := 15) hx hb hts iX9_next_X9 hown hK hP 0 rfl rfl 3 (by decide) (kX9_next_57 hts) (fun _ h9 => h9) rfl dX9_next_12 ?_
    refine lv_icmp_ne (tgt := 24) hx hb dX9_next_15 (by decide) (fun c2 => ?_) (fun c2 => ?_)
    · replace hf := zif_f hf c2
      exact wX9_next_24 C hN hK hA hE hf hP hD hS (lv_sub hl [0] rfl)
    · replace hf := zif_t hf c2
      refine lv_aload_n hx hb dX9_next_18 rfl (lv_at hl 0 rfl) ?_
      refine lv_bipush (v := (-2)) hx hb dX9_next_19 (by decide) ?_
      refine va_put (D := D) (ci := 8) (v := .int (-2)) (ty := .int) (C := RX9) (T := TX9) (N := 15) hx hb hts iX9_next_X9 tyX9 tyX9_ok nmX9 hown hK hP hD hS 0 rfl rfl 6 (by decide) (kX9_next_129 hts) (fun _ h9 => h9) rfl (by decide +kernel) rfl rfl (Nat.le_of_ble_eq_true rfl) dX9_next_21 (fun H locs hP hD hS => ?_)
      replace hP : va_P D vwCl (zwX9 cI h_t h_t_now h_t_file h_t_fresh h_t_colour h_t_table h_t_last h_t_one t_wide t_high t_size t_at (-2) t_newWide t_newHigh t_colours t_now t_file t_fresh t_colour t_table t_last t_one) H := hP
      replace hD : va_D A (zwX9 cI h_t h_t_now h_t_file h_t_fresh h_t_colour h_t_table h_t_last h_t_one t_wide t_high t_size t_at (-2) t_newWide t_newHigh t_colours t_now t_file t_fresh t_colour t_table t_last t_one) := hD
      exact wX9_next_24 C hN hK hA hE hf hP hD hS (lv_sub hl [0] rfl)
set_option maxHeartbeats 4000000 in
set_option maxRecDepth 100000 in
theorem mX9_next (l : Launch) (D : va_G) (cI : ClassId) (sz : Nat) (h_t h_t_now h_t_file h_t_fresh h_t_colour h_t_table h_t_last h_t_one : Nat) (t_wide : Int32) (t_high : Int32) (t_size : Int32) (t_at : Int32) (t_fault : Int32) (t_newWide : Int32) (t_newHigh : Int32) (t_colours : Int32) (t_now : Nat → Int32) (t_file : Nat → Int32) (t_fresh : Nat → Int32) (t_colour : Nat → Int32) (t_table : Nat → Int32) (t_last : Nat → Int32) (t_one : Nat → Int32) (r0 : Int32) (zt_at : Int32) (zt_fault : Int32) (hf : fX9_next t_size t_at t_fault t_file = some (r0, zt_at, zt_fault)) : Met l yX9_next wsX9_next rmX9_next (va_Pc [.ref h_t] (zP D [(cI, .int)] (zwX9 cI h_t h_t_now h_t_file h_t_fresh h_t_colour h_t_table h_t_last h_t_one t_wide t_high t_size t_at t_fault t_newWide t_newHigh t_colours t_now t_file t_fresh t_colour t_table t_last t_one) sz)) (zQi D (zwX9 cI h_t h_t_now h_t_file h_t_fresh h_t_colour h_t_table h_t_last h_t_one t_wide t_high t_size t_at t_fault t_newWide t_newHigh t_colours t_now t_file t_fresh t_colour t_table t_last t_one) sz r0 (zwX9 cI h_t h_t_now h_t_file h_t_fresh h_t_colour h_t_table h_t_last h_t_one t_wide t_high t_size zt_at zt_fault t_newWide t_newHigh t_colours t_now t_file t_fresh t_colour t_table t_last t_one)) 0 0 (va_A (zwX9 cI h_t h_t_now h_t_file h_t_fresh h_t_colour h_t_table h_t_last h_t_one t_wide t_high t_size t_at t_fault t_newWide t_newHigh t_colours t_now t_file t_fresh t_colour t_table t_last t_one) sz) := by
  refine Met.ofW (cc := cX9_next) (maxL := 1) (ret := (some .int)) (by decide) rfl ?_
  intro p e s m args below meth c s₁ B hml hv
  obtain ⟨rfl, hsz, hP, hK, hD0, hN⟩ := hv
  subst hsz
  have C : CallFix p m c cX9_next 1 s [.ref h_t].toArray wsX9_next RX9 := ⟨B.exec, B.bytes, hml, findClass_of_methodNamed B.named, atoms_spec (ws := wsX9_next) B.pre⟩
  have hl := lv_entry ([.ref h_t]) (n := 1) (Nat.le_of_ble_eq_true rfl)
  rw [lg_entry_eq]
  exact wX9_next_0 (A := va_A (zwX9 cI h_t h_t_now h_t_file h_t_fresh h_t_colour h_t_table h_t_last h_t_one t_wide t_high t_size t_at t_fault t_newWide t_newHigh t_colours t_now t_file t_fresh t_colour t_table t_last t_one) s.heap.size) C hN hK (fun q h => Or.inr h) (fun H locs pc ls d hP hD hS => zend_i C.1 C.2.1 B.returns B.notSynchronized d hP hD hS) hf hP hD0.self va_S.rf hl
def rmX9_skip : Room := { frames := 1, cells := 0, slots := 0, locals := 20 }
theorem kX9_skip_129 {args : Array Value} {s : State} (h : ∀ w ∈ wsX9_skip, w.before args s = true) : (Cond.fieldLink RX9 129 "FourPictureFilesModel" "fault" "I").before args s = true := h _ (by decide +kernel)
theorem iX9_skip_X9 : ∀ w ∈ u_ws RX9 TX9 15, w ∈ wsX9_skip := by decide +kernel
theorem qX9_skip_X9_next_135 {args : Array Value} {s : State} (hts : ∀ w ∈ wsX9_skip, w.before args s = true) : CallW rmX9_skip s args RX9 RX9 135 yX9_next cX9_next 1 (some .int) wsX9_next rmX9_next 0 0 0 := cwV 0 hts gX9_skip_X9_next rfl rfl rfl (by decide +kernel) ⟨Nat.le_of_ble_eq_true rfl, Nat.le_of_ble_eq_true rfl⟩
set_option maxHeartbeats 4000000 in
set_option maxRecDepth 100000 in
theorem wX9_skip_2 {p : Program} {l : Launch} {e : Env} {s : State} {m : MethodId} {args : Array Value} {below : List Frame} {meth : Method} {c : Code} {D : va_G} {A : Nat → Prop} {Q : State → Prop} {cI : ClassId} {h_t h_t_now h_t_file h_t_fresh h_t_colour h_t_table h_t_last h_t_one : Nat} {t_wide : Int32} {t_high : Int32} {t_size : Int32} {t_newWide : Int32} {t_newHigh : Int32} {t_colours : Int32} {t_now : Nat → Int32} {t_file : Nat → Int32} {t_fresh : Nat → Int32} {t_colour : Nat → Int32} {t_table : Nat → Int32} {t_last : Nat → Int32} {t_one : Nat → Int32} {zt_at : Int32} {zt_fault : Int32} (C : CallFix p m c cX9_skip 3 s args wsX9_skip RX9) (hN : zN s) (hK : va_K D vwCl [(cI, .int)] s) (hA : ∀ q, s.heap.size ≤ q → A q) (hE : zEv p l e rmX9_skip s m args below meth c cX9_skip D A Q (zwX9 cI h_t h_t_now h_t_file h_t_fresh h_t_colour h_t_table h_t_last h_t_one t_wide t_high t_size zt_at zt_fault t_newWide t_newHigh t_colours t_now t_file t_fresh t_colour t_table t_last t_one)) (n : Nat) : ∀ {t_at : Int32} {t_fault : Int32} {l1 : Int32} {l2 : Int32} {H : Heap} {locs : List Loc} {ls : Array Slot}, fX9_skip_2 n t_size t_at t_fault t_file l1 l2 = some (zt_at, zt_fault) → va_P D vwCl (zwX9 cI h_t h_t_now h_t_file h_t_fresh h_t_colour h_t_table h_t_last h_t_one t_wide t_high t_size t_at t_fault t_newWide t_newHigh t_colours t_now t_file t_fresh t_colour t_table t_last t_one) H → va_D A (zwX9 cI h_t h_t_now h_t_file h_t_fresh h_t_colour h_t_table h_t_last h_t_one t_wide t_high t_size t_at t_fault t_newWide t_newHigh t_colours t_now t_file t_fresh t_colour t_table t_last t_one) → va_S A s.heap H locs → lv_has ls 3 [(0, .ref h_t), (1, .int l1), (2, .int l2)] → W p l e rmX9_skip s m args below meth c H locs 0 0 Q (F0 m 2 ls []) := by
  obtain ⟨hx, hb, hml, hown, hts⟩ := id C
  induction n with
  | zero =>
    intro t_at t_fault l1 l2 H locs ls hf
    cases hf
  | succ n hr_2 =>
    intro t_at t_fault l1 l2 H locs ls hf hP hD hS hl
    rw [fX9_skip_2_s] at hf
    refine lv_iload_n hx hb dX9_skip_2 rfl (lv_at hl 2 rfl) ?_
    refine lv_iload_n hx hb dX9_skip_3 rfl (lv_at hl 1 rfl) ?_
    refine lv_icmp_ge (tgt := 25) hx hb dX9_skip_4 (by decide) (fun c1 => ?_) (fun c1 => ?_)
    · replace hf := zif_t hf c1
      cases hf
      exact hE _ _ _ _ dX9_skip_25 hP hD hS
    · replace hf := zif_f hf c1
      refine lv_aload_n hx hb dX9_skip_7 rfl (lv_at hl 0 rfl) ?_
      refine va_get (D := D) (ci := 8) (v := .int t_fault) (C := RX9) (T := TX9) (N := 15) hx hb hts iX9_skip_X9 hown hK hP 0 rfl rfl 6 (by decide) (kX9_skip_129 hts) (fun _ h9 => h9) rfl dX9_skip_8 ?_
      refine lv_if_ne (tgt := 25) hx hb dX9_skip_11 (by decide) (fun c2 => ?_) (fun c2 => ?_)
      · replace hf := zif_f hf c2
        cases hf
        exact hE _ _ _ _ dX9_skip_25 hP hD hS
      · replace hf := zif_t hf c2
        refine lv_aload_n hx hb dX9_skip_14 rfl (lv_at hl 0 rfl) ?_
        obtain ⟨r3, u4, u5, hc6, hf⟩ := zb3_in hf
        refine zc_i (va_runV (As := []) (rest := []) C (mX9_next l D cI H.size h_t h_t_now h_t_file h_t_fresh h_t_colour h_t_table h_t_last h_t_one t_wide t_high t_size t_at t_fault t_newWide t_newHigh t_colours t_now t_file t_fresh t_colour t_table t_last t_one r3 u4 u5 hc6) (qX9_skip_X9_next_135 hts) ⟨zP_blind, va_recv hK hP (ci := 8) (q0 := 0) rfl rfl, zpre hK hN hP hD [0, 1, 2, 3, 4, 5, 6, 7] rfl rfl⟩ rfl rfl hl.1 rfl (lv_room (Nat.le_of_ble_eq_true rfl)) dX9_skip_15 ⟨Nat.zero_le _, Nat.zero_le _⟩) hP hD hS hA [0, 1, 2, 3, 4, 5, 6, 7] [] [0, 1, 2, 3, 4, 5, 6, 7] (ws' := zwX9 cI h_t h_t_now h_t_file h_t_fresh h_t_colour h_t_table h_t_last h_t_one t_wide t_high t_size u4 u5 t_newWide t_newHigh t_colours t_now t_file t_fresh t_colour t_table t_last t_one) rfl rfl rfl rfl rfl rfl (fun H locs hP hD hS => ?_)
        refine lv_pop hx hb dX9_skip_18 rfl ?_
        obtain ⟨x7, ex7⟩ : ∃ y : Int32, y = l2 + 1 := ⟨_, rfl⟩
        replace hf := zlet_in hf ex7
        refine lv_iinc (v := x7) (lv' := [(2, .int x7), (0, .ref h_t), (1, .int l1)]) hx hb dX9_skip_19 hl (k := 2) rfl (by rw [ex7]; rfl) (by decide) rfl (fun ls hl => ?_)
        clear ex7
        refine lv_goto (tgt := 2) hx hb dX9_skip_22 (by decide) ?_
        exact hr_2 hf hP hD hS (lv_sub hl [1, 2, 0] rfl)
set_option maxHeartbeats 4000000 in
set_option maxRecDepth 100000 in
theorem wX9_skip_0 {p : Program} {l : Launch} {e : Env} {s : State} {m : MethodId} {args : Array Value} {below : List Frame} {meth : Method} {c : Code} {D : va_G} {A : Nat → Prop} {Q : State → Prop} {cI : ClassId} {h_t h_t_now h_t_file h_t_fresh h_t_colour h_t_table h_t_last h_t_one : Nat} {t_wide : Int32} {t_high : Int32} {t_size : Int32} {t_newWide : Int32} {t_newHigh : Int32} {t_colours : Int32} {t_now : Nat → Int32} {t_file : Nat → Int32} {t_fresh : Nat → Int32} {t_colour : Nat → Int32} {t_table : Nat → Int32} {t_last : Nat → Int32} {t_one : Nat → Int32} {zt_at : Int32} {zt_fault : Int32} (C : CallFix p m c cX9_skip 3 s args wsX9_skip RX9) (hN : zN s) (hK : va_K D vwCl [(cI, .int)] s) (hA : ∀ q, s.heap.size ≤ q → A q) (hE : zEv p l e rmX9_skip s m args below meth c cX9_skip D A Q (zwX9 cI h_t h_t_now h_t_file h_t_fresh h_t_colour h_t_table h_t_last h_t_one t_wide t_high t_size zt_at zt_fault t_newWide t_newHigh t_colours t_now t_file t_fresh t_colour t_table t_last t_one)) {t_at : Int32} {t_fault : Int32} {v0 : Int32} {H : Heap} {locs : List Loc} {ls : Array Slot} : fX9_skip t_size t_at t_fault t_file v0 = some (zt_at, zt_fault) → va_P D vwCl (zwX9 cI h_t h_t_now h_t_file h_t_fresh h_t_colour h_t_table h_t_last h_t_one t_wide t_high t_size t_at t_fault t_newWide t_newHigh t_colours t_now t_file t_fresh t_colour t_table t_last t_one) H → va_D A (zwX9 cI h_t h_t_now h_t_file h_t_fresh h_t_colour h_t_table h_t_last h_t_one t_wide t_high t_size t_at t_fault t_newWide t_newHigh t_colours t_now t_file t_fresh t_colour t_table t_last t_one) → va_S A s.heap H locs → lv_has ls 3 [(0, .ref h_t), (1, .int v0)] → W p l e rmX9_skip s m args below meth c H locs 0 0 Q (F0 m 0 ls []) := by
  intro hf hP hD hS hl
  obtain ⟨hx, hb, hml, hown, hts⟩ := id C
  unfold fX9_skip at hf
  refine lv_iconst (v := 0) hx hb dX9_skip_0 (by decide) ?_
  refine lv_istore_n (lv' := [(2, .int 0), (0, .ref h_t), (1, .int v0)]) hx hb dX9_skip_1 rfl hl (by decide) rfl (fun ls hl => ?_)
  exact wX9_skip_2 C hN hK hA hE 1000 hf hP hD hS (lv_sub hl [1, 2, 0] rfl)
set_option maxHeartbeats 4000000 in
set_option maxRecDepth 100000 in
theorem mX9_skip (l : Launch) (D : va_G) (cI : ClassId) (sz : Nat) (h_t h_t_now h_t_file h_t_fresh h_t_colour h_t_table h_t_last h_t_one : Nat) (t_wide : Int32) (t_high : Int32) (t_size : Int32) (t_at : Int32) (t_fault : Int32) (t_newWide : Int32) (t_newHigh : Int32) (t_colours : Int32) (t_now : Nat → Int32) (t_file : Nat → Int32) (t_fresh : Nat → Int32) (t_colour : Nat → Int32) (t_table : Nat → Int32) (t_last : Nat → Int32) (t_one : Nat → Int32) (v0 : Int32) (zt_at : Int32) (zt_fault : Int32) (hf : fX9_skip t_size t_at t_fault t_file v0 = some (zt_at, zt_fault)) : Met l yX9_skip wsX9_skip rmX9_skip (va_Pc [.ref h_t, .int v0] (zP D [(cI, .int)] (zwX9 cI h_t h_t_now h_t_file h_t_fresh h_t_colour h_t_table h_t_last h_t_one t_wide t_high t_size t_at t_fault t_newWide t_newHigh t_colours t_now t_file t_fresh t_colour t_table t_last t_one) sz)) (zQv D (zwX9 cI h_t h_t_now h_t_file h_t_fresh h_t_colour h_t_table h_t_last h_t_one t_wide t_high t_size t_at t_fault t_newWide t_newHigh t_colours t_now t_file t_fresh t_colour t_table t_last t_one) sz (zwX9 cI h_t h_t_now h_t_file h_t_fresh h_t_colour h_t_table h_t_last h_t_one t_wide t_high t_size zt_at zt_fault t_newWide t_newHigh t_colours t_now t_file t_fresh t_colour t_table t_last t_one)) 0 0 (va_A (zwX9 cI h_t h_t_now h_t_file h_t_fresh h_t_colour h_t_table h_t_last h_t_one t_wide t_high t_size t_at t_fault t_newWide t_newHigh t_colours t_now t_file t_fresh t_colour t_table t_last t_one) sz) := by
  refine Met.ofW (cc := cX9_skip) (maxL := 3) (ret := none) (by decide) rfl ?_
  intro p e s m args below meth c s₁ B hml hv
  obtain ⟨rfl, hsz, hP, hK, hD0, hN⟩ := hv
  subst hsz
  have C : CallFix p m c cX9_skip 3 s [.ref h_t, .int v0].toArray wsX9_skip RX9 := ⟨B.exec, B.bytes, hml, findClass_of_methodNamed B.named, atoms_spec (ws := wsX9_skip) B.pre⟩
  have hl := lv_entry ([.ref h_t, .int v0]) (n := 3) (Nat.le_of_ble_eq_true rfl)
  rw [lg_entry_eq]
  exact wX9_skip_0 (A := va_A (zwX9 cI h_t h_t_now h_t_file h_t_fresh h_t_colour h_t_table h_t_last h_t_one t_wide t_high t_size t_at t_fault t_newWide t_newHigh t_colours t_now t_file t_fresh t_colour t_table t_last t_one) s.heap.size) C hN hK (fun q h => Or.inr h) (fun H locs pc ls d hP hD hS => zend_v C.1 C.2.1 B.returns B.notSynchronized d hP hD hS) hf hP hD0.self va_S.rf hl
def rmX9_number : Room := { frames := 1, cells := 0, slots := 0, locals := 20 }
theorem qX9_number_X9_next_135 {args : Array Value} {s : State} (hts : ∀ w ∈ wsX9_number, w.before args s = true) : CallW rmX9_number s args RX9 RX9 135 yX9_next cX9_next 1 (some .int) wsX9_next rmX9_next 0 0 0 := cwV 0 hts gX9_number_X9_next rfl rfl rfl (by decide +kernel) ⟨Nat.le_of_ble_eq_true rfl, Nat.le_of_ble_eq_true rfl⟩
set_option maxHeartbeats 4000000 in
set_option maxRecDepth 100000 in
theorem wX9_number_41 {p : Program} {l : Launch} {e : Env} {s : State} {m : MethodId} {args : Array Value} {below : List Frame} {meth : Method} {c : Code} {D : va_G} {A : Nat → Prop} {Q : State → Prop} {cI : ClassId} {h_t h_t_now h_t_file h_t_fresh h_t_colour h_t_table h_t_last h_t_one : Nat} {t_wide : Int32} {t_high : Int32} {t_size : Int32} {t_newWide : Int32} {t_newHigh : Int32} {t_colours : Int32} {t_now : Nat → Int32} {t_file : Nat → Int32} {t_fresh : Nat → Int32} {t_colour : Nat → Int32} {t_table : Nat → Int32} {t_last : Nat → Int32} {t_one : Nat → Int32} {r0 : Int32} {zt_at : Int32} {zt_fault : Int32} (C : CallFix p m c cX9_number 6 s args wsX9_number RX9) (hN : zN s) (hK : va_K D vwCl [(cI, .int)] s) (hA : ∀ q, s.heap.size ≤ q → A q) (hE : zEi p l e rmX9_number s m args below meth c cX9_number D A Q (zwX9 cI h_t h_t_now h_t_file h_t_fresh h_t_colour h_t_table h_t_last h_t_one t_wide t_high t_size zt_at zt_fault t_newWide t_newHigh t_colours t_now t_file t_fresh t_colour t_table t_last t_one) r0) {rc5 : Int32 → Int32 → Int32 → (Nat → Int32) → Int32 → Int32 → Int32 → Int32 → Option (Int32 × Int32 × Int32)} (hr_5 : ∀ {t_at : Int32} {t_fault : Int32} {l1 : Int32} {l2 : Int32} {l3 : Int32} {l4 : Int32} {H : Heap} {locs : List Loc} {ls : Array Slot}, rc5 t_size t_at t_fault t_file l1 l2 l3 l4 = some (r0, zt_at, zt_fault) → va_P D vwCl (zwX9 cI h_t h_t_now h_t_file h_t_fresh h_t_colour h_t_table h_t_last h_t_one t_wide t_high t_size t_at t_fault t_newWide t_newHigh t_colours t_now t_file t_fresh t_colour t_table t_last t_one) H → va_D A (zwX9 cI h_t h_t_now h_t_file h_t_fresh h_t_colour h_t_table h_t_last h_t_one t_wide t_high t_size t_at t_fault t_newWide t_newHigh t_colours t_now t_file t_fresh t_colour t_table t_last t_one) → va_S A s.heap H locs → lv_has ls 6 [(0, .ref h_t), (1, .int l1), (2, .int l2), (3, .int l3), (4, .int l4)] → W p l e rmX9_number s m args below meth c H locs 0 0 Q (F0 m 5 ls [])) {t_at : Int32} {t_fault : Int32} {l1 : Int32} {l2 : Int32} {l3 : Int32} {l4 : Int32} {l5 : Int32} {k0 : Int32} {H : Heap} {locs : List Loc} {ls : Array Slot} : fX9_number_41 rc5 t_size t_at t_fault t_file l1 l2 l4 k0 = some (r0, zt_at, zt_fault) → va_P D vwCl (zwX9 cI h_t h_t_now h_t_file h_t_fresh h_t_colour h_t_table h_t_last h_t_one t_wide t_high t_size t_at t_fault t_newWide t_newHigh t_colours t_now t_file t_fresh t_colour t_table t_last t_one) H → va_D A (zwX9 cI h_t h_t_now h_t_file h_t_fresh h_t_colour h_t_table h_t_last h_t_one t_wide t_high t_size t_at t_fault t_newWide t_newHigh t_colours t_now t_file t_fresh t_colour t_table t_last t_one) → va_S A s.heap H locs → lv_has ls 6 [(0, .ref h_t), (1, .int l1), (2, .int l2), (3, .int l3), (4, .int l4), (5, .int l5)] → W p l e rmX9_number s m args below meth c H locs 0 0 Q (F0 m 41 ls [.int k0]) := by
  intro hf hP hD hS hl
  obtain ⟨hx, hb, hml, hown, hts⟩ := id C
  unfold fX9_number_41 at hf
  refine lv_istore_n (lv' := [(3, .int k0), (0, .ref h_t), (1, .int l1), (2, .int l2), (4, .int l4), (5, .int l5)]) hx hb dX9_number_41 rfl hl (by decide) rfl (fun ls hl => ?_)
  obtain ⟨x1, ex1⟩ : ∃ y : Int32, y = l4 + 1 := ⟨_, rfl⟩
  replace hf := zlet_in hf ex1
  refine lv_iinc (v := x1) (lv' := [(4, .int x1), (3, .int k0), (0, .ref h_t), (1, .int l1), (2, .int l2), (5, .int l5)]) hx hb dX9_number_42 hl (k := 4) rfl (by rw [ex1]; rfl) (by decide) rfl (fun ls hl => ?_)
  clear ex1
  refine lv_goto (tgt := 5) hx hb dX9_number_45 (by decide) ?_
  exact hr_5 hf hP hD hS (lv_sub hl [2, 3, 4, 1, 0] rfl)
set_option maxHeartbeats 4000000 in
set_option maxRecDepth 100000 in
theorem wX9_number_5 {p : Program} {l : Launch} {e : Env} {s : State} {m : MethodId} {args : Array Value} {below : List Frame} {meth : Method} {c : Code} {D : va_G} {A : Nat → Prop} {Q : State → Prop} {cI : ClassId} {h_t h_t_now h_t_file h_t_fresh h_t_colour h_t_table h_t_last h_t_one : Nat} {t_wide : Int32} {t_high : Int32} {t_size : Int32} {t_newWide : Int32} {t_newHigh : Int32} {t_colours : Int32} {t_now : Nat → Int32} {t_file : Nat → Int32} {t_fresh : Nat → Int32} {t_colour : Nat → Int32} {t_table : Nat → Int32} {t_last : Nat → Int32} {t_one : Nat → Int32} {r0 : Int32} {zt_at : Int32} {zt_fault : Int32} (C : CallFix p m c cX9_number 6 s args wsX9_number RX9) (hN : zN s) (hK : va_K D vwCl [(cI, .int)] s) (hA : ∀ q, s.heap.size ≤ q → A q) (hE : zEi p l e rmX9_number s m args below meth c cX9_number D A Q (zwX9 cI h_t h_t_now h_t_file h_t_fresh h_t_colour h_t_table h_t_last h_t_one t_wide t_high t_size zt_at zt_fault t_newWide t_newHigh t_colours t_now t_file t_fresh t_colour t_table t_last t_one) r0) (n : Nat) : ∀ {t_at : Int32} {t_fault : Int32} {l1 : Int32} {l2 : Int32} {l3 : Int32} {l4 : Int32} {H : Heap} {locs : List Loc} {ls : Array Slot}, fX9_number_5 n t_size t_at t_fault t_file l1 l2 l3 l4 = some (r0, zt_at, zt_fault) → va_P D vwCl (zwX9 cI h_t h_t_now h_t_file h_t_fresh h_t_colour h_t_table h_t_last h_t_one t_wide t_high t_size t_at t_fault t_newWide t_newHigh t_colours t_now t_file t_fresh t_colour t_table t_last t_one) H → va_D A (zwX9 cI h_t h_t_now h_t_file h_t_fresh h_t_colour h_t_table h_t_last h_t_one t_wide t_high t_size t_at t_fault t_newWide t_newHigh t_colours t_now t_file t_fresh t_colour t_table t_last t_one) → va_S A s.heap H locs → lv_has ls 6 [(0, .ref h_t), (1, .int l1), (2, .int l2), (3, .int l3), (4, .int l4)] → W p l e rmX9_number s m args below meth c H locs 0 0 Q (F0 m 5 ls []) := by
  obtain ⟨hx, hb, hml, hown, hts⟩ := id C
  induction n with
  | zero =>
    intro t_at t_fault l1 l2 l3 l4 H locs ls hf
    cases hf
  | succ n hr_5 =>
    intro t_at t_fault l1 l2 l3 l4 H locs ls hf hP hD hS hl
    rw [fX9_number_5_s] at hf
    refine lv_iload hx hb dX9_number_5 (lv_at hl 4 rfl) ?_
    refine lv_iload_n hx hb dX9_number_7 rfl (lv_at hl 1 rfl) ?_
    refine lv_icmp_ge (tgt := 48) hx hb dX9_number_8 (by decide) (fun c1 => ?_) (fun c1 => ?_)
    · replace hf := zif_t hf c1
      refine lv_iload_n hx hb dX9_number_48 rfl (lv_at hl 3 rfl) ?_
      cases hf
      exact hE _ _ _ _ dX9_number_49 hP hD hS
    · replace hf := zif_f hf c1
      refine lv_aload_n hx hb dX9_number_11 rfl (lv_at hl 0 rfl) ?_
      obtain ⟨r2, u3, u4, hc5, hf⟩ := zb3_in hf
      refine zc_i (va_runV (As := []) (rest := []) C (mX9_next l D cI H.size h_t h_t_now h_t_file h_t_fresh h_t_colour h_t_table h_t_last h_t_one t_wide t_high t_size t_at t_fault t_newWide t_newHigh t_colours t_now t_file t_fresh t_colour t_table t_last t_one r2 u3 u4 hc5) (qX9_number_X9_next_135 hts) ⟨zP_blind, va_recv hK hP (ci := 8) (q0 := 0) rfl rfl, zpre hK hN hP hD [0, 1, 2, 3, 4, 5, 6, 7] rfl rfl⟩ rfl rfl hl.1 rfl (lv_room (Nat.le_of_ble_eq_true rfl)) dX9_number_12 ⟨Nat.zero_le _, Nat.zero_le _⟩) hP hD hS hA [0, 1, 2, 3, 4, 5, 6, 7] [] [0, 1, 2, 3, 4, 5, 6, 7] (ws' := zwX9 cI h_t h_t_now h_t_file h_t_fresh h_t_colour h_t_table h_t_last h_t_one t_wide t_high t_size u3 u4 t_newWide t_newHigh t_colours t_now t_file t_fresh t_colour t_table t_last t_one) rfl rfl rfl rfl rfl rfl (fun H locs hP hD hS => ?_)
      refine lv_istore (lv' := [(5, .int r2), (0, .ref h_t), (1, .int l1), (2, .int l2), (3, .int l3), (4, .int l4)]) hx hb dX9_number_15 hl (by decide) rfl (fun ls hl => ?_)
      refine lv_iload_n hx hb dX9_number_17 rfl (lv_at hl 3 rfl) ?_
      refine lv_if_eq (tgt := 31) hx hb dX9_number_18 (by decide) (fun c6 => ?_) (fun c6 => ?_)
      · replace hf := zif_t hf c6
        refine lv_iload_n hx hb dX9_number_31 rfl (lv_at hl 4 rfl) ?_
        refine lv_iload hx hb dX9_number_32 (lv_at hl 0 rfl) ?_
        refine lv_bipush (v := 8) hx hb dX9_number_34 (by decide) ?_
        refine lv_iload hx hb dX9_number_36 (lv_at hl 5 rfl) ?_
        refine lv_imul hx hb dX9_number_38 ?_
        refine lv_ishl hx hb dX9_number_39 ?_
        refine lv_ior hx hb dX9_number_40 ?_
        exact wX9_number_41 C hN hK hA hE hr_5 hf hP hD hS (lv_sub hl [1, 2, 3, 4, 5, 0] rfl)
      · replace hf := zif_f hf c6
        refine lv_iload_n hx hb dX9_number_21 rfl (lv_at hl 4 rfl) ?_
        refine lv_bipush (v := 8) hx hb dX9_number_22 (by decide) ?_
        refine lv_ishl hx hb dX9_number_24 ?_
        refine lv_iload hx hb dX9_number_25 (lv_at hl 0 rfl) ?_
        refine lv_ior hx hb dX9_number_27 ?_
        refine lv_goto (tgt := 41) hx hb dX9_number_28 (by decide) ?_
        exact wX9_number_41 C hN hK hA hE hr_5 hf hP hD hS (lv_sub hl [1, 2, 3, 4, 5, 0] rfl)
set_option maxHeartbeats 4000000 in
set_option maxRecDepth 100000 in
theorem wX9_number_0 {p : Program} {l : Launch} {e : Env} {s : State} {m : MethodId} {args : Array Value} {below : List Frame} {meth : Method} {c : Code} {D : va_G} {A : Nat → Prop} {Q : State → Prop} {cI : ClassId} {h_t h_t_now h_t_file h_t_fresh h_t_colour h_t_table h_t_last h_t_one : Nat} {t_wide : Int32} {t_high : Int32} {t_size : Int32} {t_newWide : Int32} {t_newHigh : Int32} {t_colours : Int32} {t_now : Nat → Int32} {t_file : Nat → Int32} {t_fresh : Nat → Int32} {t_colour : Nat → Int32} {t_table : Nat → Int32} {t_last : Nat → Int32} {t_one : Nat → Int32} {r0 : Int32} {zt_at : Int32} {zt_fault : Int32} (C : CallFix p m c cX9_number 6 s args wsX9_number RX9) (hN : zN s) (hK : va_K D vwCl [(cI, .int)] s) (hA : ∀ q, s.heap.size ≤ q → A q) (hE : zEi p l e rmX9_number s m args below meth c cX9_number D A Q (zwX9 cI h_t h_t_now h_t_file h_t_fresh h_t_colour h_t_table h_t_last h_t_one t_wide t_high t_size zt_at zt_fault t_newWide t_newHigh t_colours t_now t_file t_fresh t_colour t_table t_last t_one) r0) {t_at : Int32} {t_fault : Int32} {v0 : Int32} {v1 : Int32} {H : Heap} {locs : List Loc} {ls : Array Slot} : fX9_number t_size t_at t_fault t_file v0 v1 = some (r0, zt_at, zt_fault) → va_P D vwCl (zwX9 cI h_t h_t_now h_t_file h_t_fresh h_t_colour h_t_table h_t_last h_t_one t_wide t_high t_size t_at t_fault t_newWide t_newHigh t_colours t_now t_file t_fresh t_colour t_table t_last t_one) H → va_D A (zwX9 cI h_t h_t_now h_t_file h_t_fresh h_t_colour h_t_table h_t_last h_t_one t_wide t_high t_size t_at t_fault t_newWide t_newHigh t_colours t_now t_file t_fresh t_colour t_table t_last t_one) → va_S A s.heap H locs → lv_has ls 6 [(0, .ref h_t), (1, .int v0), (2, .int v1)] → W p l e rmX9_number s m args below meth c H locs 0 0 Q (F0 m 0 ls []) := by
  intro hf hP hD hS hl
  obtain ⟨hx, hb, hml, hown, hts⟩ := id C
  unfold fX9_number at hf
  refine lv_iconst (v := 0) hx hb dX9_number_0 (by decide) ?_
  refine lv_istore_n (lv' := [(3, .int 0), (0, .ref h_t), (1, .int v0), (2, .int v1)]) hx hb dX9_number_1 rfl hl (by decide) rfl (fun ls hl => ?_)
  refine lv_iconst (v := 0) hx hb dX9_number_2 (by decide) ?_
  refine lv_istore (lv' := [(4, .int 0), (3, .int 0), (0, .ref h_t), (1, .int v0), (2, .int v1)]) hx hb dX9_number_3 hl (by decide) rfl (fun ls hl => ?_)
  exact wX9_number_5 C hN hK hA hE 1000 hf hP hD hS (lv_sub hl [2, 3, 4, 1, 0] rfl)
set_option maxHeartbeats 4000000 in
set_option maxRecDepth 100000 in
theorem mX9_number (l : Launch) (D : va_G) (cI : ClassId) (sz : Nat) (h_t h_t_now h_t_file h_t_fresh h_t_colour h_t_table h_t_last h_t_one : Nat) (t_wide : Int32) (t_high : Int32) (t_size : Int32) (t_at : Int32) (t_fault : Int32) (t_newWide : Int32) (t_newHigh : Int32) (t_colours : Int32) (t_now : Nat → Int32) (t_file : Nat → Int32) (t_fresh : Nat → Int32) (t_colour : Nat → Int32) (t_table : Nat → Int32) (t_last : Nat → Int32) (t_one : Nat → Int32) (v0 v1 : Int32) (r0 : Int32) (zt_at : Int32) (zt_fault : Int32) (hf : fX9_number t_size t_at t_fault t_file v0 v1 = some (r0, zt_at, zt_fault)) : Met l yX9_number wsX9_number rmX9_number (va_Pc [.ref h_t, .int v0, .int v1] (zP D [(cI, .int)] (zwX9 cI h_t h_t_now h_t_file h_t_fresh h_t_colour h_t_table h_t_last h_t_one t_wide t_high t_size t_at t_fault t_newWide t_newHigh t_colours t_now t_file t_fresh t_colour t_table t_last t_one) sz)) (zQi D (zwX9 cI h_t h_t_now h_t_file h_t_fresh h_t_colour h_t_table h_t_last h_t_one t_wide t_high t_size t_at t_fault t_newWide t_newHigh t_colours t_now t_file t_fresh t_colour t_table t_last t_one) sz r0 (zwX9 cI h_t h_t_now h_t_file h_t_fresh h_t_colour h_t_table h_t_last h_t_one t_wide t_high t_size zt_at zt_fault t_newWide t_newHigh t_colours t_now t_file t_fresh t_colour t_table t_last t_one)) 0 0 (va_A (zwX9 cI h_t h_t_now h_t_file h_t_fresh h_t_colour h_t_table h_t_last h_t_one t_wide t_high t_size t_at t_fault t_newWide t_newHigh t_colours t_now t_file t_fresh t_colour t_table t_last t_one) sz) := by
  refine Met.ofW (cc := cX9_number) (maxL := 6) (ret := (some .int)) (by decide) rfl ?_
  intro p e s m args below meth c s₁ B hml hv
  obtain ⟨rfl, hsz, hP, hK, hD0, hN⟩ := hv
  subst hsz
  have C : CallFix p m c cX9_number 6 s [.ref h_t, .int v0, .int v1].toArray wsX9_number RX9 := ⟨B.exec, B.bytes, hml, findClass_of_methodNamed B.named, atoms_spec (ws := wsX9_number) B.pre⟩
  have hl := lv_entry ([.ref h_t, .int v0, .int v1]) (n := 6) (Nat.le_of_ble_eq_true rfl)
  rw [lg_entry_eq]
  exact wX9_number_0 (A := va_A (zwX9 cI h_t h_t_now h_t_file h_t_fresh h_t_colour h_t_table h_t_last h_t_one t_wide t_high t_size t_at t_fault t_newWide t_newHigh t_colours t_now t_file t_fresh t_colour t_table t_last t_one) s.heap.size) C hN hK (fun q h => Or.inr h) (fun H locs pc ls d hP hD hS => zend_i C.1 C.2.1 B.returns B.notSynchronized d hP hD hS) hf hP hD0.self va_S.rf hl
def rmX9_sideOf : Room := { frames := 1, cells := 0, slots := 0, locals := 21 }
theorem qX9_sideOf_X9_broken_139 {args : Array Value} {s : State} (hts : ∀ w ∈ wsX9_sideOf, w.before args s = true) : CallW rmX9_sideOf s args RX9 RX9 139 yX9_broken cX9_broken 2 none wsX9_broken rmX9_broken 0 0 1 := cwV 1 hts gX9_sideOf_X9_broken rfl rfl rfl (by decide +kernel) ⟨Nat.le_of_ble_eq_true rfl, Nat.le_of_ble_eq_true rfl⟩
theorem qX9_sideOf_X9_side_38 {args : Array Value} {s : State} (hts : ∀ w ∈ wsX9_sideOf, w.before args s = true) : CallB rmX9_sideOf s args RX9 38 yX9_side cX9_side 1 (some .boolean) wsX9_side rmX9_side 0 0 1 ∧ (Cond.static yX9_side).before args s = true := va_cwS 1 hts gX9_sideOf_X9_side rfl rfl rfl (by decide +kernel) ⟨Nat.le_of_ble_eq_true rfl, Nat.le_of_ble_eq_true rfl⟩
set_option maxHeartbeats 4000000 in
set_option maxRecDepth 100000 in
theorem wX9_sideOf_13 {p : Program} {l : Launch} {e : Env} {s : State} {m : MethodId} {args : Array Value} {below : List Frame} {meth : Method} {c : Code} {D : va_G} {A : Nat → Prop} {Q : State → Prop} {cI : ClassId} {h_t h_t_now h_t_file h_t_fresh h_t_colour h_t_table h_t_last h_t_one : Nat} {t_wide : Int32} {t_high : Int32} {t_size : Int32} {t_at : Int32} {t_newWide : Int32} {t_newHigh : Int32} {t_colours : Int32} {t_now : Nat → Int32} {t_file : Nat → Int32} {t_fresh : Nat → Int32} {t_colour : Nat → Int32} {t_table : Nat → Int32} {t_last : Nat → Int32} {t_one : Nat → Int32} {r0 : Int32} {zt_fault : Int32} (C : CallFix p m c cX9_sideOf 2 s args wsX9_sideOf RX9) (hN : zN s) (hK : va_K D vwCl [(cI, .int)] s) (hA : ∀ q, s.heap.size ≤ q → A q) (hE : zEi p l e rmX9_sideOf s m args below meth c cX9_sideOf D A Q (zwX9 cI h_t h_t_now h_t_file h_t_fresh h_t_colour h_t_table h_t_last h_t_one t_wide t_high t_size t_at zt_fault t_newWide t_newHigh t_colours t_now t_file t_fresh t_colour t_table t_last t_one) r0) {t_fault : Int32} {l1 : Int32} {k1 : Int32} {H : Heap} {locs : List Loc} {ls : Array Slot} : fX9_sideOf_13 t_fault l1 k1 = some (r0, zt_fault) → va_P D vwCl (zwX9 cI h_t h_t_now h_t_file h_t_fresh h_t_colour h_t_table h_t_last h_t_one t_wide t_high t_size t_at t_fault t_newWide t_newHigh t_colours t_now t_file t_fresh t_colour t_table t_last t_one) H → va_D A (zwX9 cI h_t h_t_now h_t_file h_t_fresh h_t_colour h_t_table h_t_last h_t_one t_wide t_high t_size t_at t_fault t_newWide t_newHigh t_colours t_now t_file t_fresh t_colour t_table t_last t_one) → va_S A s.heap H locs → lv_has ls 2 [(0, .ref h_t), (1, .int l1)] → W p l e rmX9_sideOf s m args below meth c H locs 0 0 Q (F0 m 13 ls [.int k1, .ref h_t]) := by
  intro hf hP hD hS hl
  obtain ⟨hx, hb, hml, hown, hts⟩ := id C
  unfold fX9_sideOf_13 at hf
  obtain ⟨u1, hc2, hf⟩ := zb1_in hf
  refine zc_v (va_runV (As := [.int k1]) (rest := []) C (mX9_broken l D cI H.size h_t h_t_now h_t_file h_t_fresh h_t_colour h_t_table h_t_last h_t_one t_wide t_high t_size t_at t_fault t_newWide t_newHigh t_colours t_now t_file t_fresh t_colour t_table t_last t_one k1 u1 hc2) (qX9_sideOf_X9_broken_139 hts) ⟨zP_blind, va_recv hK hP (ci := 8) (q0 := 0) rfl rfl, zpre hK hN hP hD [0, 1, 2, 3, 4, 5, 6, 7] rfl rfl⟩ rfl rfl hl.1 rfl (lv_room (Nat.le_of_ble_eq_true rfl)) dX9_sideOf_13 ⟨Nat.zero_le _, Nat.zero_le _⟩) hP hD hS hA [0, 1, 2, 3, 4, 5, 6, 7] [] [0, 1, 2, 3, 4, 5, 6, 7] (ws' := zwX9 cI h_t h_t_now h_t_file h_t_fresh h_t_colour h_t_table h_t_last h_t_one t_wide t_high t_size t_at u1 t_newWide t_newHigh t_colours t_now t_file t_fresh t_colour t_table t_last t_one) rfl rfl rfl rfl rfl rfl (fun H locs hP hD hS => ?_)
  refine lv_iload_n hx hb dX9_sideOf_16 rfl (lv_at hl 1 rfl) ?_
  cases hf
  exact hE _ _ _ _ dX9_sideOf_17 hP hD hS
set_option maxHeartbeats 4000000 in
set_option maxRecDepth 100000 in
theorem wX9_sideOf_0 {p : Program} {l : Launch} {e : Env} {s : State} {m : MethodId} {args : Array Value} {below : List Frame} {meth : Method} {c : Code} {D : va_G} {A : Nat → Prop} {Q : State → Prop} {cI : ClassId} {h_t h_t_now h_t_file h_t_fresh h_t_colour h_t_table h_t_last h_t_one : Nat} {t_wide : Int32} {t_high : Int32} {t_size : Int32} {t_at : Int32} {t_newWide : Int32} {t_newHigh : Int32} {t_colours : Int32} {t_now : Nat → Int32} {t_file : Nat → Int32} {t_fresh : Nat → Int32} {t_colour : Nat → Int32} {t_table : Nat → Int32} {t_last : Nat → Int32} {t_one : Nat → Int32} {r0 : Int32} {zt_fault : Int32} (C : CallFix p m c cX9_sideOf 2 s args wsX9_sideOf RX9) (hN : zN s) (hK : va_K D vwCl [(cI, .int)] s) (hA : ∀ q, s.heap.size ≤ q → A q) (hE : zEi p l e rmX9_sideOf s m args below meth c cX9_sideOf D A Q (zwX9 cI h_t h_t_now h_t_file h_t_fresh h_t_colour h_t_table h_t_last h_t_one t_wide t_high t_size t_at zt_fault t_newWide t_newHigh t_colours t_now t_file t_fresh t_colour t_table t_last t_one) r0) {t_fault : Int32} {v0 : Int32} {H : Heap} {locs : List Loc} {ls : Array Slot} : fX9_sideOf t_fault v0 = some (r0, zt_fault) → va_P D vwCl (zwX9 cI h_t h_t_now h_t_file h_t_fresh h_t_colour h_t_table h_t_last h_t_one t_wide t_high t_size t_at t_fault t_newWide t_newHigh t_colours t_now t_file t_fresh t_colour t_table t_last t_one) H → va_D A (zwX9 cI h_t h_t_now h_t_file h_t_fresh h_t_colour h_t_table h_t_last h_t_one t_wide t_high t_size t_at t_fault t_newWide t_newHigh t_colours t_now t_file t_fresh t_colour t_table t_last t_one) → va_S A s.heap H locs → lv_has ls 2 [(0, .ref h_t), (1, .int v0)] → W p l e rmX9_sideOf s m args below meth c H locs 0 0 Q (F0 m 0 ls []) := by
  intro hf hP hD hS hl
  obtain ⟨hx, hb, hml, hown, hts⟩ := id C
  unfold fX9_sideOf at hf
  refine lv_aload_n hx hb dX9_sideOf_0 rfl (lv_at hl 0 rfl) ?_
  refine lv_iload_n hx hb dX9_sideOf_1 rfl (lv_at hl 1 rfl) ?_
  obtain ⟨r1, hc2, hf⟩ := zb1_in hf
  refine zc_i (va_runS (As := [.int v0]) (rest := [.ref h_t]) C (mX9_side l D cI H.size v0 r1 hc2) (qX9_sideOf_X9_side_38 hts) ⟨zP_blind, zpre hK hN hP hD [] rfl rfl⟩ rfl rfl hl.1 rfl (lv_room (Nat.le_of_ble_eq_true rfl)) dX9_sideOf_2 ⟨Nat.zero_le _, Nat.zero_le _⟩) hP hD hS hA [] [0, 1, 2, 3, 4, 5, 6, 7] [0, 1, 2, 3, 4, 5, 6, 7] (ws' := zwX9 cI h_t h_t_now h_t_file h_t_fresh h_t_colour h_t_table h_t_last h_t_one t_wide t_high t_size t_at t_fault t_newWide t_newHigh t_colours t_now t_file t_fresh t_colour t_table t_last t_one) rfl rfl rfl rfl rfl rfl (fun H locs hP hD hS => ?_)
  refine lv_if_ne (tgt := 12) hx hb dX9_sideOf_5 (by decide) (fun c3 => ?_) (fun c3 => ?_)
  · replace hf := zif_f hf c3
    refine lv_iconst (v := 0) hx hb dX9_sideOf_12 (by decide) ?_
    exact wX9_sideOf_13 C hN hK hA hE hf hP hD hS (lv_sub hl [0, 1] rfl)
  · replace hf := zif_t hf c3
    refine lv_iconst (v := 1) hx hb dX9_sideOf_8 (by decide) ?_
    refine lv_goto (tgt := 13) hx hb dX9_sideOf_9 (by decide) ?_
    exact wX9_sideOf_13 C hN hK hA hE hf hP hD hS (lv_sub hl [0, 1] rfl)
set_option maxHeartbeats 4000000 in
set_option maxRecDepth 100000 in
theorem mX9_sideOf (l : Launch) (D : va_G) (cI : ClassId) (sz : Nat) (h_t h_t_now h_t_file h_t_fresh h_t_colour h_t_table h_t_last h_t_one : Nat) (t_wide : Int32) (t_high : Int32) (t_size : Int32) (t_at : Int32) (t_fault : Int32) (t_newWide : Int32) (t_newHigh : Int32) (t_colours : Int32) (t_now : Nat → Int32) (t_file : Nat → Int32) (t_fresh : Nat → Int32) (t_colour : Nat → Int32) (t_table : Nat → Int32) (t_last : Nat → Int32) (t_one : Nat → Int32) (v0 : Int32) (r0 : Int32) (zt_fault : Int32) (hf : fX9_sideOf t_fault v0 = some (r0, zt_fault)) : Met l yX9_sideOf wsX9_sideOf rmX9_sideOf (va_Pc [.ref h_t, .int v0] (zP D [(cI, .int)] (zwX9 cI h_t h_t_now h_t_file h_t_fresh h_t_colour h_t_table h_t_last h_t_one t_wide t_high t_size t_at t_fault t_newWide t_newHigh t_colours t_now t_file t_fresh t_colour t_table t_last t_one) sz)) (zQi D (zwX9 cI h_t h_t_now h_t_file h_t_fresh h_t_colour h_t_table h_t_last h_t_one t_wide t_high t_size t_at t_fault t_newWide t_newHigh t_colours t_now t_file t_fresh t_colour t_table t_last t_one) sz r0 (zwX9 cI h_t h_t_now h_t_file h_t_fresh h_t_colour h_t_table h_t_last h_t_one t_wide t_high t_size t_at zt_fault t_newWide t_newHigh t_colours t_now t_file t_fresh t_colour t_table t_last t_one)) 0 0 (va_A (zwX9 cI h_t h_t_now h_t_file h_t_fresh h_t_colour h_t_table h_t_last h_t_one t_wide t_high t_size t_at t_fault t_newWide t_newHigh t_colours t_now t_file t_fresh t_colour t_table t_last t_one) sz) := by
  refine Met.ofW (cc := cX9_sideOf) (maxL := 2) (ret := (some .int)) (by decide) rfl ?_
  intro p e s m args below meth c s₁ B hml hv
  obtain ⟨rfl, hsz, hP, hK, hD0, hN⟩ := hv
  subst hsz
  have C : CallFix p m c cX9_sideOf 2 s [.ref h_t, .int v0].toArray wsX9_sideOf RX9 := ⟨B.exec, B.bytes, hml, findClass_of_methodNamed B.named, atoms_spec (ws := wsX9_sideOf) B.pre⟩
  have hl := lv_entry ([.ref h_t, .int v0]) (n := 2) (Nat.le_of_ble_eq_true rfl)
  rw [lg_entry_eq]
  exact wX9_sideOf_0 (A := va_A (zwX9 cI h_t h_t_now h_t_file h_t_fresh h_t_colour h_t_table h_t_last h_t_one t_wide t_high t_size t_at t_fault t_newWide t_newHigh t_colours t_now t_file t_fresh t_colour t_table t_last t_one) s.heap.size) C hN hK (fun q h => Or.inr h) (fun H locs pc ls d hP hD hS => zend_i C.1 C.2.1 B.returns B.notSynchronized d hP hD hS) hf hP hD0.self va_S.rf hl
def rmX9_must : Room := { frames := 1, cells := 0, slots := 0, locals := 21 }
theorem qX9_must_X9_broken_139 {args : Array Value} {s : State} (hts : ∀ w ∈ wsX9_must, w.before args s = true) : CallW rmX9_must s args RX9 RX9 139 yX9_broken cX9_broken 2 none wsX9_broken rmX9_broken 0 0 1 := cwV 1 hts gX9_must_X9_broken rfl rfl rfl (by decide +kernel) ⟨Nat.le_of_ble_eq_true rfl, Nat.le_of_ble_eq_true rfl⟩
set_option maxHeartbeats 4000000 in
set_option maxRecDepth 100000 in
theorem wX9_must_11 {p : Program} {l : Launch} {e : Env} {s : State} {m : MethodId} {args : Array Value} {below : List Frame} {meth : Method} {c : Code} {D : va_G} {A : Nat → Prop} {Q : State → Prop} {cI : ClassId} {h_t h_t_now h_t_file h_t_fresh h_t_colour h_t_table h_t_last h_t_one : Nat} {t_wide : Int32} {t_high : Int32} {t_size : Int32} {t_at : Int32} {t_newWide : Int32} {t_newHigh : Int32} {t_colours : Int32} {t_now : Nat → Int32} {t_file : Nat → Int32} {t_fresh : Nat → Int32} {t_colour : Nat → Int32} {t_table : Nat → Int32} {t_last : Nat → Int32} {t_one : Nat → Int32} {zt_fault : Int32} (C : CallFix p m c cX9_must 3 s args wsX9_must RX9) (hN : zN s) (hK : va_K D vwCl [(cI, .int)] s) (hA : ∀ q, s.heap.size ≤ q → A q) (hE : zEv p l e rmX9_must s m args below meth c cX9_must D A Q (zwX9 cI h_t h_t_now h_t_file h_t_fresh h_t_colour h_t_table h_t_last h_t_one t_wide t_high t_size t_at zt_fault t_newWide t_newHigh t_colours t_now t_file t_fresh t_colour t_table t_last t_one)) {t_fault : Int32} {l1 : Int32} {l2 : Int32} {k1 : Int32} {H : Heap} {locs : List Loc} {ls : Array Slot} : fX9_must_11 t_fault k1 = some zt_fault → va_P D vwCl (zwX9 cI h_t h_t_now h_t_file h_t_fresh h_t_colour h_t_table h_t_last h_t_one t_wide t_high t_size t_at t_fault t_newWide t_newHigh t_colours t_now t_file t_fresh t_colour t_table t_last t_one) H → va_D A (zwX9 cI h_t h_t_now h_t_file h_t_fresh h_t_colour h_t_table h_t_last h_t_one t_wide t_high t_size t_at t_fault t_newWide t_newHigh t_colours t_now t_file t_fresh t_colour t_table t_last t_one) → va_S A s.heap H locs → lv_has ls 3 [(0, .ref h_t), (1, .int l1), (2, .int l2)] → W p l e rmX9_must s m args below meth c H locs 0 0 Q (F0 m 11 ls [.int k1, .ref h_t]) := by
  intro hf hP hD hS hl
  obtain ⟨hx, hb, hml, hown, hts⟩ := id C
  unfold fX9_must_11 at hf
  obtain ⟨u1, hc2, hf⟩ := zb1_in hf
  refine zc_v (va_runV (As := [.int k1]) (rest := []) C (mX9_broken l D cI H.size h_t h_t_now h_t_file h_t_fresh h_t_colour h_t_table h_t_last h_t_one t_wide t_high t_size t_at t_fault t_newWide t_newHigh t_colours t_now t_file t_fresh t_colour t_table t_last t_one k1 u1 hc2) (qX9_must_X9_broken_139 hts) ⟨zP_blind, va_recv hK hP (ci := 8) (q0 := 0) rfl rfl, zpre hK hN hP hD [0, 1, 2, 3, 4, 5, 6, 7] rfl rfl⟩ rfl rfl hl.1 rfl (lv_room (Nat.le_of_ble_eq_true rfl)) dX9_must_11 ⟨Nat.zero_le _, Nat.zero_le _⟩) hP hD hS hA [0, 1, 2, 3, 4, 5, 6, 7] [] [0, 1, 2, 3, 4, 5, 6, 7] (ws' := zwX9 cI h_t h_t_now h_t_file h_t_fresh h_t_colour h_t_table h_t_last h_t_one t_wide t_high t_size t_at u1 t_newWide t_newHigh t_colours t_now t_file t_fresh t_colour t_table t_last t_one) rfl rfl rfl rfl rfl rfl (fun H locs hP hD hS => ?_)
  cases hf
  exact hE _ _ _ _ dX9_must_14 hP hD hS
set_option maxHeartbeats 4000000 in
set_option maxRecDepth 100000 in
theorem wX9_must_0 {p : Program} {l : Launch} {e : Env} {s : State} {m : MethodId} {args : Array Value} {below : List Frame} {meth : Method} {c : Code} {D : va_G} {A : Nat → Prop} {Q : State → Prop} {cI : ClassId} {h_t h_t_now h_t_file h_t_fresh h_t_colour h_t_table h_t_last h_t_one : Nat} {t_wide : Int32} {t_high : Int32} {t_size : Int32} {t_at : Int32} {t_newWide : Int32} {t_newHigh : Int32} {t_colours : Int32} {t_now : Nat → Int32} {t_file : Nat → Int32} {t_fresh : Nat → Int32} {t_colour : Nat → Int32} {t_table : Nat → Int32} {t_last : Nat → Int32} {t_one : Nat → Int32} {zt_fault : Int32} (C : CallFix p m c cX9_must 3 s args wsX9_must RX9) (hN : zN s) (hK : va_K D vwCl [(cI, .int)] s) (hA : ∀ q, s.heap.size ≤ q → A q) (hE : zEv p l e rmX9_must s m args below meth c cX9_must D A Q (zwX9 cI h_t h_t_now h_t_file h_t_fresh h_t_colour h_t_table h_t_last h_t_one t_wide t_high t_size t_at zt_fault t_newWide t_newHigh t_colours t_now t_file t_fresh t_colour t_table t_last t_one)) {t_fault : Int32} {v0 : Int32} {v1 : Int32} {H : Heap} {locs : List Loc} {ls : Array Slot} : fX9_must t_fault v0 v1 = some zt_fault → va_P D vwCl (zwX9 cI h_t h_t_now h_t_file h_t_fresh h_t_colour h_t_table h_t_last h_t_one t_wide t_high t_size t_at t_fault t_newWide t_newHigh t_colours t_now t_file t_fresh t_colour t_table t_last t_one) H → va_D A (zwX9 cI h_t h_t_now h_t_file h_t_fresh h_t_colour h_t_table h_t_last h_t_one t_wide t_high t_size t_at t_fault t_newWide t_newHigh t_colours t_now t_file t_fresh t_colour t_table t_last t_one) → va_S A s.heap H locs → lv_has ls 3 [(0, .ref h_t), (1, .int v0), (2, .int v1)] → W p l e rmX9_must s m args below meth c H locs 0 0 Q (F0 m 0 ls []) := by
  intro hf hP hD hS hl
  obtain ⟨hx, hb, hml, hown, hts⟩ := id C
  unfold fX9_must at hf
  refine lv_aload_n hx hb dX9_must_0 rfl (lv_at hl 0 rfl) ?_
  refine lv_iload_n hx hb dX9_must_1 rfl (lv_at hl 1 rfl) ?_
  refine lv_iload_n hx hb dX9_must_2 rfl (lv_at hl 2 rfl) ?_
  refine lv_icmp_eq (tgt := 10) hx hb dX9_must_3 (by decide) (fun c1 => ?_) (fun c1 => ?_)
  · replace hf := zif_t hf c1
    refine lv_iconst (v := 0) hx hb dX9_must_10 (by decide) ?_
    exact wX9_must_11 C hN hK hA hE hf hP hD hS (lv_sub hl [0, 1, 2] rfl)
  · replace hf := zif_f hf c1
    refine lv_iconst (v := 1) hx hb dX9_must_6 (by decide) ?_
    refine lv_goto (tgt := 11) hx hb dX9_must_7 (by decide) ?_
    exact wX9_must_11 C hN hK hA hE hf hP hD hS (lv_sub hl [0, 1, 2] rfl)
set_option maxHeartbeats 4000000 in
set_option maxRecDepth 100000 in
theorem mX9_must (l : Launch) (D : va_G) (cI : ClassId) (sz : Nat) (h_t h_t_now h_t_file h_t_fresh h_t_colour h_t_table h_t_last h_t_one : Nat) (t_wide : Int32) (t_high : Int32) (t_size : Int32) (t_at : Int32) (t_fault : Int32) (t_newWide : Int32) (t_newHigh : Int32) (t_colours : Int32) (t_now : Nat → Int32) (t_file : Nat → Int32) (t_fresh : Nat → Int32) (t_colour : Nat → Int32) (t_table : Nat → Int32) (t_last : Nat → Int32) (t_one : Nat → Int32) (v0 v1 : Int32) (zt_fault : Int32) (hf : fX9_must t_fault v0 v1 = some zt_fault) : Met l yX9_must wsX9_must rmX9_must (va_Pc [.ref h_t, .int v0, .int v1] (zP D [(cI, .int)] (zwX9 cI h_t h_t_now h_t_file h_t_fresh h_t_colour h_t_table h_t_last h_t_one t_wide t_high t_size t_at t_fault t_newWide t_newHigh t_colours t_now t_file t_fresh t_colour t_table t_last t_one) sz)) (zQv D (zwX9 cI h_t h_t_now h_t_file h_t_fresh h_t_colour h_t_table h_t_last h_t_one t_wide t_high t_size t_at t_fault t_newWide t_newHigh t_colours t_now t_file t_fresh t_colour t_table t_last t_one) sz (zwX9 cI h_t h_t_now h_t_file h_t_fresh h_t_colour h_t_table h_t_last h_t_one t_wide t_high t_size t_at zt_fault t_newWide t_newHigh t_colours t_now t_file t_fresh t_colour t_table t_last t_one)) 0 0 (va_A (zwX9 cI h_t h_t_now h_t_file h_t_fresh h_t_colour h_t_table h_t_last h_t_one t_wide t_high t_size t_at t_fault t_newWide t_newHigh t_colours t_now t_file t_fresh t_colour t_table t_last t_one) sz) := by
  refine Met.ofW (cc := cX9_must) (maxL := 3) (ret := none) (by decide) rfl ?_
  intro p e s m args below meth c s₁ B hml hv
  obtain ⟨rfl, hsz, hP, hK, hD0, hN⟩ := hv
  subst hsz
  have C : CallFix p m c cX9_must 3 s [.ref h_t, .int v0, .int v1].toArray wsX9_must RX9 := ⟨B.exec, B.bytes, hml, findClass_of_methodNamed B.named, atoms_spec (ws := wsX9_must) B.pre⟩
  have hl := lv_entry ([.ref h_t, .int v0, .int v1]) (n := 3) (Nat.le_of_ble_eq_true rfl)
  rw [lg_entry_eq]
  exact wX9_must_0 (A := va_A (zwX9 cI h_t h_t_now h_t_file h_t_fresh h_t_colour h_t_table h_t_last h_t_one t_wide t_high t_size t_at t_fault t_newWide t_newHigh t_colours t_now t_file t_fresh t_colour t_table t_last t_one) s.heap.size) C hN hK (fun q h => Or.inr h) (fun H locs pc ls d hP hD hS => zend_v C.1 C.2.1 B.returns B.notSynchronized d hP hD hS) hf hP hD0.self va_S.rf hl
def rmX9_set : Room := { frames := 0, cells := 0, slots := 0, locals := 0 }
theorem kX9_set_23 {args : Array Value} {s : State} (h : ∀ w ∈ wsX9_set, w.before args s = true) : (Cond.fieldLink RX9 23 "FourPictureFilesModel" "fresh" "[I").before args s = true := h _ (by decide +kernel)
theorem kX9_set_35 {args : Array Value} {s : State} (h : ∀ w ∈ wsX9_set, w.before args s = true) : (Cond.fieldLink RX9 35 "FourPictureFilesModel" "one" "[I").before args s = true := h _ (by decide +kernel)
theorem kX9_set_129 {args : Array Value} {s : State} (h : ∀ w ∈ wsX9_set, w.before args s = true) : (Cond.fieldLink RX9 129 "FourPictureFilesModel" "fault" "I").before args s = true := h _ (by decide +kernel)
theorem kX9_set_142 {args : Array Value} {s : State} (h : ∀ w ∈ wsX9_set, w.before args s = true) : (Cond.fieldLink RX9 142 "FourPictureFilesModel" "newWide" "I").before args s = true := h _ (by decide +kernel)
theorem iX9_set_X9 : ∀ w ∈ u_ws RX9 TX9 15, w ∈ wsX9_set := by decide +kernel
set_option maxHeartbeats 4000000 in
set_option maxRecDepth 100000 in
theorem wX9_set_9 {p : Program} {l : Launch} {e : Env} {s : State} {m : MethodId} {args : Array Value} {below : List Frame} {meth : Method} {c : Code} {D : va_G} {A : Nat → Prop} {Q : State → Prop} {cI : ClassId} {h_t h_t_now h_t_file h_t_fresh h_t_colour h_t_table h_t_last h_t_one : Nat} {t_wide : Int32} {t_high : Int32} {t_size : Int32} {t_at : Int32} {t_fault : Int32} {t_newWide : Int32} {t_newHigh : Int32} {t_colours : Int32} {t_now : Nat → Int32} {t_file : Nat → Int32} {t_colour : Nat → Int32} {t_table : Nat → Int32} {t_last : Nat → Int32} {t_one : Nat → Int32} {zt_fresh : Nat → Int32} (C : CallFix p m c cX9_set 3 s args wsX9_set RX9) (hN : zN s) (hK : va_K D vwCl [(cI, .int)] s) (hA : ∀ q, s.heap.size ≤ q → A q) (hE : zEv p l e rmX9_set s m args below meth c cX9_set D A Q (zwX9 cI h_t h_t_now h_t_file h_t_fresh h_t_colour h_t_table h_t_last h_t_one t_wide t_high t_size t_at t_fault t_newWide t_newHigh t_colours t_now t_file zt_fresh t_colour t_table t_last t_one)) (n : Nat) : ∀ {t_fresh : Nat → Int32} {l1 : Int32} {l2 : Int32} {H : Heap} {locs : List Loc} {ls : Array Slot}, fX9_set_9 n t_newWide t_fresh t_one l1 l2 = some zt_fresh → va_P D vwCl (zwX9 cI h_t h_t_now h_t_file h_t_fresh h_t_colour h_t_table h_t_last h_t_one t_wide t_high t_size t_at t_fault t_newWide t_newHigh t_colours t_now t_file t_fresh t_colour t_table t_last t_one) H → va_D A (zwX9 cI h_t h_t_now h_t_file h_t_fresh h_t_colour h_t_table h_t_last h_t_one t_wide t_high t_size t_at t_fault t_newWide t_newHigh t_colours t_now t_file t_fresh t_colour t_table t_last t_one) → va_S A s.heap H locs → lv_has ls 3 [(0, .ref h_t), (1, .int l1), (2, .int l2)] → W p l e rmX9_set s m args below meth c H locs 0 0 Q (F0 m 9 ls []) := by
  obtain ⟨hx, hb, hml, hown, hts⟩ := id C
  induction n with
  | zero =>
    intro t_fresh l1 l2 H locs ls hf
    cases hf
  | succ n hr_9 =>
    intro t_fresh l1 l2 H locs ls hf hP hD hS hl
    rw [fX9_set_9_s] at hf
    refine lv_iload_n hx hb dX9_set_9 rfl (lv_at hl 2 rfl) ?_
    refine lv_iconst (v := 4) hx hb dX9_set_10 (by decide) ?_
    refine lv_icmp_ge (tgt := 51) hx hb dX9_set_11 (by decide) (fun c1 => ?_) (fun c1 => ?_)
    · replace hf := zif_t hf c1
      cases hf
      exact hE _ _ _ _ dX9_set_51 hP hD hS
    · replace hf := zif_f hf c1
      refine lv_aload_n hx hb dX9_set_14 rfl (lv_at hl 0 rfl) ?_
      refine va_get (D := D) (ci := 8) (v := .ref h_t_fresh) (C := RX9) (T := TX9) (N := 15) hx hb hts iX9_set_X9 hown hK hP 0 rfl rfl 9 (by decide) (kX9_set_23 hts) (fun _ h9 => h9) rfl dX9_set_15 ?_
      refine lv_iconst (v := 4) hx hb dX9_set_18 (by decide) ?_
      refine lv_bipush (v := 8) hx hb dX9_set_19 (by decide) ?_
      refine lv_iload_n hx hb dX9_set_21 rfl (lv_at hl 1 rfl) ?_
      refine lv_aload_n hx hb dX9_set_22 rfl (lv_at hl 0 rfl) ?_
      refine va_get (D := D) (ci := 8) (v := .int t_newWide) (C := RX9) (T := TX9) (N := 15) hx hb hts iX9_set_X9 hown hK hP 0 rfl rfl 7 (by decide) (kX9_set_142 hts) (fun _ h9 => h9) rfl dX9_set_23 ?_
      obtain ⟨hg2, hf⟩ := znz_in hf
      refine lv_idiv hx hb dX9_set_26 hg2 ?_
      refine lv_imul hx hb dX9_set_27 ?_
      refine lv_iload_n hx hb dX9_set_28 rfl (lv_at hl 1 rfl) ?_
      refine lv_aload_n hx hb dX9_set_29 rfl (lv_at hl 0 rfl) ?_
      refine va_get (D := D) (ci := 8) (v := .int t_newWide) (C := RX9) (T := TX9) (N := 15) hx hb hts iX9_set_X9 hown hK hP 0 rfl rfl 7 (by decide) (kX9_set_142 hts) (fun _ h9 => h9) rfl dX9_set_30 ?_
      obtain ⟨hg3, hf⟩ := znz_in hf
      refine lv_irem hx hb dX9_set_33 hg3 ?_
      refine lv_iadd hx hb dX9_set_34 ?_
      refine lv_imul hx hb dX9_set_35 ?_
      refine lv_iload_n hx hb dX9_set_36 rfl (lv_at hl 2 rfl) ?_
      refine lv_iadd hx hb dX9_set_37 ?_
      refine lv_aload_n hx hb dX9_set_38 rfl (lv_at hl 0 rfl) ?_
      refine va_get (D := D) (ci := 8) (v := .ref h_t_one) (C := RX9) (T := TX9) (N := 15) hx hb hts iX9_set_X9 hown hK hP 0 rfl rfl 14 (by decide) (kX9_set_35 hts) (fun _ h9 => h9) rfl dX9_set_39 ?_
      refine lv_iload_n hx hb dX9_set_42 rfl (lv_at hl 2 rfl) ?_
      obtain ⟨hg5, hf⟩ := zrd_in hf
      refine va_iald hx hb hK hP 7 0 rfl rfl hg5 dX9_set_43 ?_
      refine lv_topi (fun x4 ex4 => ?_)
      replace hf := hf x4 ex4
      clear ex4
      obtain ⟨hg7, g6, eg6, hf⟩ := zwr_in hf
      refine va_iast hx hb hK hP hD hS 3 0 rfl rfl hg7 dX9_set_44 (fun H locs hP hD hS => ?_)
      replace hP : va_P D vwCl (zwX9 cI h_t h_t_now h_t_file h_t_fresh h_t_colour h_t_table h_t_last h_t_one t_wide t_high t_size t_at t_fault t_newWide t_newHigh t_colours t_now t_file g6 t_colour t_table t_last t_one) H := by rw [← eg6]; exact hP
      replace hD : va_D A (zwX9 cI h_t h_t_now h_t_file h_t_fresh h_t_colour h_t_table h_t_last h_t_one t_wide t_high t_size t_at t_fault t_newWide t_newHigh t_colours t_now t_file g6 t_colour t_table t_last t_one) := by rw [← eg6]; exact hD
      clear eg6
      obtain ⟨x8, ex8⟩ : ∃ y : Int32, y = l2 + 1 := ⟨_, rfl⟩
      replace hf := zlet_in hf ex8
      refine lv_iinc (v := x8) (lv' := [(2, .int x8), (0, .ref h_t), (1, .int l1)]) hx hb dX9_set_45 hl (k := 2) rfl (by rw [ex8]; rfl) (by decide) rfl (fun ls hl => ?_)
      clear ex8
      refine lv_goto (tgt := 9) hx hb dX9_set_48 (by decide) ?_
      exact hr_9 hf hP hD hS (lv_sub hl [1, 2, 0] rfl)
set_option maxHeartbeats 4000000 in
set_option maxRecDepth 100000 in
theorem wX9_set_0 {p : Program} {l : Launch} {e : Env} {s : State} {m : MethodId} {args : Array Value} {below : List Frame} {meth : Method} {c : Code} {D : va_G} {A : Nat → Prop} {Q : State → Prop} {cI : ClassId} {h_t h_t_now h_t_file h_t_fresh h_t_colour h_t_table h_t_last h_t_one : Nat} {t_wide : Int32} {t_high : Int32} {t_size : Int32} {t_at : Int32} {t_fault : Int32} {t_newWide : Int32} {t_newHigh : Int32} {t_colours : Int32} {t_now : Nat → Int32} {t_file : Nat → Int32} {t_colour : Nat → Int32} {t_table : Nat → Int32} {t_last : Nat → Int32} {t_one : Nat → Int32} {zt_fresh : Nat → Int32} (C : CallFix p m c cX9_set 3 s args wsX9_set RX9) (hN : zN s) (hK : va_K D vwCl [(cI, .int)] s) (hA : ∀ q, s.heap.size ≤ q → A q) (hE : zEv p l e rmX9_set s m args below meth c cX9_set D A Q (zwX9 cI h_t h_t_now h_t_file h_t_fresh h_t_colour h_t_table h_t_last h_t_one t_wide t_high t_size t_at t_fault t_newWide t_newHigh t_colours t_now t_file zt_fresh t_colour t_table t_last t_one)) {t_fresh : Nat → Int32} {v0 : Int32} {H : Heap} {locs : List Loc} {ls : Array Slot} : fX9_set t_fault t_newWide t_fresh t_one v0 = some zt_fresh → va_P D vwCl (zwX9 cI h_t h_t_now h_t_file h_t_fresh h_t_colour h_t_table h_t_last h_t_one t_wide t_high t_size t_at t_fault t_newWide t_newHigh t_colours t_now t_file t_fresh t_colour t_table t_last t_one) H → va_D A (zwX9 cI h_t h_t_now h_t_file h_t_fresh h_t_colour h_t_table h_t_last h_t_one t_wide t_high t_size t_at t_fault t_newWide t_newHigh t_colours t_now t_file t_fresh t_colour t_table t_last t_one) → va_S A s.heap H locs → lv_has ls 3 [(0, .ref h_t), (1, .int v0)] → W p l e rmX9_set s m args below meth c H locs 0 0 Q (F0 m 0 ls []) := by
  intro hf hP hD hS hl
  obtain ⟨hx, hb, hml, hown, hts⟩ := id C
  unfold fX9_set at hf
  refine lv_aload_n hx hb dX9_set_0 rfl (lv_at hl 0 rfl) ?_
  refine va_get (D := D) (ci := 8) (v := .int t_fault) (C := RX9) (T := TX9) (N := 15) hx hb hts iX9_set_X9 hown hK hP 0 rfl rfl 6 (by decide) (kX9_set_129 hts) (fun _ h9 => h9) rfl dX9_set_1 ?_
  refine lv_if_ne (tgt := 51) hx hb dX9_set_4 (by decide) (fun c1 => ?_) (fun c1 => ?_)
  · replace hf := zif_f hf c1
    cases hf
    exact hE _ _ _ _ dX9_set_51 hP hD hS
  · replace hf := zif_t hf c1
    refine lv_iconst (v := 0) hx hb dX9_set_7 (by decide) ?_
    refine lv_istore_n (lv' := [(2, .int 0), (0, .ref h_t), (1, .int v0)]) hx hb dX9_set_8 rfl hl (by decide) rfl (fun ls hl => ?_)
    exact wX9_set_9 C hN hK hA hE 1000 hf hP hD hS (lv_sub hl [1, 2, 0] rfl)
set_option maxHeartbeats 4000000 in
set_option maxRecDepth 100000 in
theorem mX9_set (l : Launch) (D : va_G) (cI : ClassId) (sz : Nat) (h_t h_t_now h_t_file h_t_fresh h_t_colour h_t_table h_t_last h_t_one : Nat) (t_wide : Int32) (t_high : Int32) (t_size : Int32) (t_at : Int32) (t_fault : Int32) (t_newWide : Int32) (t_newHigh : Int32) (t_colours : Int32) (t_now : Nat → Int32) (t_file : Nat → Int32) (t_fresh : Nat → Int32) (t_colour : Nat → Int32) (t_table : Nat → Int32) (t_last : Nat → Int32) (t_one : Nat → Int32) (v0 : Int32) (zt_fresh : Nat → Int32) (hf : fX9_set t_fault t_newWide t_fresh t_one v0 = some zt_fresh) : Met l yX9_set wsX9_set rmX9_set (va_Pc [.ref h_t, .int v0] (zP D [(cI, .int)] (zwX9 cI h_t h_t_now h_t_file h_t_fresh h_t_colour h_t_table h_t_last h_t_one t_wide t_high t_size t_at t_fault t_newWide t_newHigh t_colours t_now t_file t_fresh t_colour t_table t_last t_one) sz)) (zQv D (zwX9 cI h_t h_t_now h_t_file h_t_fresh h_t_colour h_t_table h_t_last h_t_one t_wide t_high t_size t_at t_fault t_newWide t_newHigh t_colours t_now t_file t_fresh t_colour t_table t_last t_one) sz (zwX9 cI h_t h_t_now h_t_file h_t_fresh h_t_colour h_t_table h_t_last h_t_one t_wide t_high t_size t_at t_fault t_newWide t_newHigh t_colours t_now t_file zt_fresh t_colour t_table t_last t_one)) 0 0 (va_A (zwX9 cI h_t h_t_now h_t_file h_t_fresh h_t_colour h_t_table h_t_last h_t_one t_wide t_high t_size t_at t_fault t_newWide t_newHigh t_colours t_now t_file t_fresh t_colour t_table t_last t_one) sz) := by
  refine Met.ofW (cc := cX9_set) (maxL := 3) (ret := none) (by decide) rfl ?_
  intro p e s m args below meth c s₁ B hml hv
  obtain ⟨rfl, hsz, hP, hK, hD0, hN⟩ := hv
  subst hsz
  have C : CallFix p m c cX9_set 3 s [.ref h_t, .int v0].toArray wsX9_set RX9 := ⟨B.exec, B.bytes, hml, findClass_of_methodNamed B.named, atoms_spec (ws := wsX9_set) B.pre⟩
  have hl := lv_entry ([.ref h_t, .int v0]) (n := 3) (Nat.le_of_ble_eq_true rfl)
  rw [lg_entry_eq]
  exact wX9_set_0 (A := va_A (zwX9 cI h_t h_t_now h_t_file h_t_fresh h_t_colour h_t_table h_t_last h_t_one t_wide t_high t_size t_at t_fault t_newWide t_newHigh t_colours t_now t_file t_fresh t_colour t_table t_last t_one) s.heap.size) C hN hK (fun q h => Or.inr h) (fun H locs pc ls d hP hD hS => zend_v C.1 C.2.1 B.returns B.notSynchronized d hP hD hS) hf hP hD0.self va_S.rf hl
def rmX9_tone : Room := { frames := 0, cells := 0, slots := 0, locals := 0 }
theorem kX9_tone_35 {args : Array Value} {s : State} (h : ∀ w ∈ wsX9_tone, w.before args s = true) : (Cond.fieldLink RX9 35 "FourPictureFilesModel" "one" "[I").before args s = true := h _ (by decide +kernel)
theorem iX9_tone_X9 : ∀ w ∈ u_ws RX9 TX9 15, w ∈ wsX9_tone := by decide +kernel
set_option maxHeartbeats 4000000 in
set_option maxRecDepth 100000 in
theorem wX9_tone_0 {p : Program} {l : Launch} {e : Env} {s : State} {m : MethodId} {args : Array Value} {below : List Frame} {meth : Method} {c : Code} {D : va_G} {A : Nat → Prop} {Q : State → Prop} {cI : ClassId} {h_t h_t_now h_t_file h_t_fresh h_t_colour h_t_table h_t_last h_t_one : Nat} {t_wide : Int32} {t_high : Int32} {t_size : Int32} {t_at : Int32} {t_fault : Int32} {t_newWide : Int32} {t_newHigh : Int32} {t_colours : Int32} {t_now : Nat → Int32} {t_file : Nat → Int32} {t_fresh : Nat → Int32} {t_colour : Nat → Int32} {t_table : Nat → Int32} {t_last : Nat → Int32} {zt_one : Nat → Int32} (C : CallFix p m c cX9_tone 5 s args wsX9_tone RX9) (hN : zN s) (hK : va_K D vwCl [(cI, .int)] s) (hA : ∀ q, s.heap.size ≤ q → A q) (hE : zEv p l e rmX9_tone s m args below meth c cX9_tone D A Q (zwX9 cI h_t h_t_now h_t_file h_t_fresh h_t_colour h_t_table h_t_last h_t_one t_wide t_high t_size t_at t_fault t_newWide t_newHigh t_colours t_now t_file t_fresh t_colour t_table t_last zt_one)) {t_one : Nat → Int32} {v0 : Int32} {v1 : Int32} {v2 : Int32} {v3 : Int32} {H : Heap} {locs : List Loc} {ls : Array Slot} : fX9_tone t_one v0 v1 v2 v3 = some zt_one → va_P D vwCl (zwX9 cI h_t h_t_now h_t_file h_t_fresh h_t_colour h_t_table h_t_last h_t_one t_wide t_high t_size t_at t_fault t_newWide t_newHigh t_colours t_now t_file t_fresh t_colour t_table t_last t_one) H → va_D A (zwX9 cI h_t h_t_now h_t_file h_t_fresh h_t_colour h_t_table h_t_last h_t_one t_wide t_high t_size t_at t_fault t_newWide t_newHigh t_colours t_now t_file t_fresh t_colour t_table t_last t_one) → va_S A s.heap H locs → lv_has ls 5 [(0, .ref h_t), (1, .int v0), (2, .int v1), (3, .int v2), (4, .int v3)] → W p l e rmX9_tone s m args below meth c H locs 0 0 Q (F0 m 0 ls []) := by
  intro hf hP hD hS hl
  obtain ⟨hx, hb, hml, hown, hts⟩ := id C
  unfold fX9_tone at hf
  refine lv_aload_n hx hb dX9_tone_0 rfl (lv_at hl 0 rfl) ?_
  refine va_get (D := D) (ci := 8) (v := .ref h_t_one) (C := RX9) (T := TX9) (N := 15) hx hb hts iX9_tone_X9 hown hK hP 0 rfl rfl 14 (by decide) (kX9_tone_35 hts) (fun _ h9 => h9) rfl dX9_tone_1 ?_
  refine lv_iconst (v := 0) hx hb dX9_tone_4 (by decide) ?_
  refine lv_iload_n hx hb dX9_tone_5 rfl (lv_at hl 1 rfl) ?_
  obtain ⟨hg2, g1, eg1, hf⟩ := zwr_in hf
  refine va_iast hx hb hK hP hD hS 7 0 rfl rfl hg2 dX9_tone_6 (fun H locs hP hD hS => ?_)
  replace hP : va_P D vwCl (zwX9 cI h_t h_t_now h_t_file h_t_fresh h_t_colour h_t_table h_t_last h_t_one t_wide t_high t_size t_at t_fault t_newWide t_newHigh t_colours t_now t_file t_fresh t_colour t_table t_last g1) H := by rw [← eg1]; exact hP
  replace hD : va_D A (zwX9 cI h_t h_t_now h_t_file h_t_fresh h_t_colour h_t_table h_t_last h_t_one t_wide t_high t_size t_at t_fault t_newWide t_newHigh t_colours t_now t_file t_fresh t_colour t_table t_last g1) := by rw [← eg1]; exact hD
  clear eg1
  refine lv_aload_n hx hb dX9_tone_7 rfl (lv_at hl 0 rfl) ?_
  refine va_get (D := D) (ci := 8) (v := .ref h_t_one) (C := RX9) (T := TX9) (N := 15) hx hb hts iX9_tone_X9 hown hK hP 0 rfl rfl 14 (by decide) (kX9_tone_35 hts) (fun _ h9 => h9) rfl dX9_tone_8 ?_
  refine lv_iconst (v := 1) hx hb dX9_tone_11 (by decide) ?_
  refine lv_iload_n hx hb dX9_tone_12 rfl (lv_at hl 2 rfl) ?_
  obtain ⟨hg4, g3, eg3, hf⟩ := zwr_in hf
  refine va_iast hx hb hK hP hD hS 7 0 rfl rfl hg4 dX9_tone_13 (fun H locs hP hD hS => ?_)
  replace hP : va_P D vwCl (zwX9 cI h_t h_t_now h_t_file h_t_fresh h_t_colour h_t_table h_t_last h_t_one t_wide t_high t_size t_at t_fault t_newWide t_newHigh t_colours t_now t_file t_fresh t_colour t_table t_last g3) H := by rw [← eg3]; exact hP
  replace hD : va_D A (zwX9 cI h_t h_t_now h_t_file h_t_fresh h_t_colour h_t_table h_t_last h_t_one t_wide t_high t_size t_at t_fault t_newWide t_newHigh t_colours t_now t_file t_fresh t_colour t_table t_last g3) := by rw [← eg3]; exact hD
  clear eg3
  refine lv_aload_n hx hb dX9_tone_14 rfl (lv_at hl 0 rfl) ?_
  refine va_get (D := D) (ci := 8) (v := .ref h_t_one) (C := RX9) (T := TX9) (N := 15) hx hb hts iX9_tone_X9 hown hK hP 0 rfl rfl 14 (by decide) (kX9_tone_35 hts) (fun _ h9 => h9) rfl dX9_tone_15 ?_
  refine lv_iconst (v := 2) hx hb dX9_tone_18 (by decide) ?_
  refine lv_iload_n hx hb dX9_tone_19 rfl (lv_at hl 3 rfl) ?_
  obtain ⟨hg6, g5, eg5, hf⟩ := zwr_in hf
  refine va_iast hx hb hK hP hD hS 7 0 rfl rfl hg6 dX9_tone_20 (fun H locs hP hD hS => ?_)
  replace hP : va_P D vwCl (zwX9 cI h_t h_t_now h_t_file h_t_fresh h_t_colour h_t_table h_t_last h_t_one t_wide t_high t_size t_at t_fault t_newWide t_newHigh t_colours t_now t_file t_fresh t_colour t_table t_last g5) H := by rw [← eg5]; exact hP
  replace hD : va_D A (zwX9 cI h_t h_t_now h_t_file h_t_fresh h_t_colour h_t_table h_t_last h_t_one t_wide t_high t_size t_at t_fault t_newWide t_newHigh t_colours t_now t_file t_fresh t_colour t_table t_last g5) := by rw [← eg5]; exact hD
  clear eg5
  refine lv_aload_n hx hb dX9_tone_21 rfl (lv_at hl 0 rfl) ?_
  refine va_get (D := D) (ci := 8) (v := .ref h_t_one) (C := RX9) (T := TX9) (N := 15) hx hb hts iX9_tone_X9 hown hK hP 0 rfl rfl 14 (by decide) (kX9_tone_35 hts) (fun _ h9 => h9) rfl dX9_tone_22 ?_
  refine lv_iconst (v := 3) hx hb dX9_tone_25 (by decide) ?_
  refine lv_iload hx hb dX9_tone_26 (lv_at hl 4 rfl) ?_
  obtain ⟨hg8, g7, eg7, hf⟩ := zwr_in hf
  refine va_iast hx hb hK hP hD hS 7 0 rfl rfl hg8 dX9_tone_28 (fun H locs hP hD hS => ?_)
  replace hP : va_P D vwCl (zwX9 cI h_t h_t_now h_t_file h_t_fresh h_t_colour h_t_table h_t_last h_t_one t_wide t_high t_size t_at t_fault t_newWide t_newHigh t_colours t_now t_file t_fresh t_colour t_table t_last g7) H := by rw [← eg7]; exact hP
  replace hD : va_D A (zwX9 cI h_t h_t_now h_t_file h_t_fresh h_t_colour h_t_table h_t_last h_t_one t_wide t_high t_size t_at t_fault t_newWide t_newHigh t_colours t_now t_file t_fresh t_colour t_table t_last g7) := by rw [← eg7]; exact hD
  clear eg7
  cases hf
  exact hE _ _ _ _ dX9_tone_29 hP hD hS
set_option maxHeartbeats 4000000 in
set_option maxRecDepth 100000 in
theorem mX9_tone (l : Launch) (D : va_G) (cI : ClassId) (sz : Nat) (h_t h_t_now h_t_file h_t_fresh h_t_colour h_t_table h_t_last h_t_one : Nat) (t_wide : Int32) (t_high : Int32) (t_size : Int32) (t_at : Int32) (t_fault : Int32) (t_newWide : Int32) (t_newHigh : Int32) (t_colours : Int32) (t_now : Nat → Int32) (t_file : Nat → Int32) (t_fresh : Nat → Int32) (t_colour : Nat → Int32) (t_table : Nat → Int32) (t_last : Nat → Int32) (t_one : Nat → Int32) (v0 v1 v2 v3 : Int32) (zt_one : Nat → Int32) (hf : fX9_tone t_one v0 v1 v2 v3 = some zt_one) : Met l yX9_tone wsX9_tone rmX9_tone (va_Pc [.ref h_t, .int v0, .int v1, .int v2, .int v3] (zP D [(cI, .int)] (zwX9 cI h_t h_t_now h_t_file h_t_fresh h_t_colour h_t_table h_t_last h_t_one t_wide t_high t_size t_at t_fault t_newWide t_newHigh t_colours t_now t_file t_fresh t_colour t_table t_last t_one) sz)) (zQv D (zwX9 cI h_t h_t_now h_t_file h_t_fresh h_t_colour h_t_table h_t_last h_t_one t_wide t_high t_size t_at t_fault t_newWide t_newHigh t_colours t_now t_file t_fresh t_colour t_table t_last t_one) sz (zwX9 cI h_t h_t_now h_t_file h_t_fresh h_t_colour h_t_table h_t_last h_t_one t_wide t_high t_size t_at t_fault t_newWide t_newHigh t_colours t_now t_file t_fresh t_colour t_table t_last zt_one)) 0 0 (va_A (zwX9 cI h_t h_t_now h_t_file h_t_fresh h_t_colour h_t_table h_t_last h_t_one t_wide t_high t_size t_at t_fault t_newWide t_newHigh t_colours t_now t_file t_fresh t_colour t_table t_last t_one) sz) := by
  refine Met.ofW (cc := cX9_tone) (maxL := 5) (ret := none) (by decide) rfl ?_
  intro p e s m args below meth c s₁ B hml hv
  obtain ⟨rfl, hsz, hP, hK, hD0, hN⟩ := hv
  subst hsz
  have C : CallFix p m c cX9_tone 5 s [.ref h_t, .int v0, .int v1, .int v2, .int v3].toArray wsX9_tone RX9 := ⟨B.exec, B.bytes, hml, findClass_of_methodNamed B.named, atoms_spec (ws := wsX9_tone) B.pre⟩
  have hl := lv_entry ([.ref h_t, .int v0, .int v1, .int v2, .int v3]) (n := 5) (Nat.le_of_ble_eq_true rfl)
  rw [lg_entry_eq]
  exact wX9_tone_0 (A := va_A (zwX9 cI h_t h_t_now h_t_file h_t_fresh h_t_colour h_t_table h_t_last h_t_one t_wide t_high t_size t_at t_fault t_newWide t_newHigh t_colours t_now t_file t_fresh t_colour t_table t_last t_one) s.heap.size) C hN hK (fun q h => Or.inr h) (fun H locs pc ls d hP hD hS => zend_v C.1 C.2.1 B.returns B.notSynchronized d hP hD hS) hf hP hD0.self va_S.rf hl
def rmX9_reds : Room := { frames := 1, cells := 0, slots := 0, locals := 24 }
theorem kX9_reds_32 {args : Array Value} {s : State} (h : ∀ w ∈ wsX9_reds, w.before args s = true) : (Cond.fieldLink RX9 32 "FourPictureFilesModel" "last" "[I").before args s = true := h _ (by decide +kernel)
theorem iX9_reds_X9 : ∀ w ∈ u_ws RX9 TX9 15, w ∈ wsX9_reds := by decide +kernel
theorem qX9_reds_X9_tone_145 {args : Array Value} {s : State} (hts : ∀ w ∈ wsX9_reds, w.before args s = true) : CallW rmX9_reds s args RX9 RX9 145 yX9_tone cX9_tone 5 none wsX9_tone rmX9_tone 0 0 4 := cwV 4 hts gX9_reds_X9_tone rfl rfl rfl (by decide +kernel) ⟨Nat.le_of_ble_eq_true rfl, Nat.le_of_ble_eq_true rfl⟩
set_option maxHeartbeats 4000000 in
set_option maxRecDepth 100000 in
theorem wX9_reds_0 {p : Program} {l : Launch} {e : Env} {s : State} {m : MethodId} {args : Array Value} {below : List Frame} {meth : Method} {c : Code} {D : va_G} {A : Nat → Prop} {Q : State → Prop} {cI : ClassId} {h_t h_t_now h_t_file h_t_fresh h_t_colour h_t_table h_t_last h_t_one : Nat} {t_wide : Int32} {t_high : Int32} {t_size : Int32} {t_at : Int32} {t_fault : Int32} {t_newWide : Int32} {t_newHigh : Int32} {t_colours : Int32} {t_now : Nat → Int32} {t_file : Nat → Int32} {t_fresh : Nat → Int32} {t_colour : Nat → Int32} {t_table : Nat → Int32} {t_last : Nat → Int32} {zt_one : Nat → Int32} (C : CallFix p m c cX9_reds 4 s args wsX9_reds RX9) (hN : zN s) (hK : va_K D vwCl [(cI, .int)] s) (hA : ∀ q, s.heap.size ≤ q → A q) (hE : zEv p l e rmX9_reds s m args below meth c cX9_reds D A Q (zwX9 cI h_t h_t_now h_t_file h_t_fresh h_t_colour h_t_table h_t_last h_t_one t_wide t_high t_size t_at t_fault t_newWide t_newHigh t_colours t_now t_file t_fresh t_colour t_table t_last zt_one)) {t_one : Nat → Int32} {v0 : Int32} {v1 : Int32} {v2 : Int32} {H : Heap} {locs : List Loc} {ls : Array Slot} : fX9_reds t_last t_one v0 v1 v2 = some zt_one → va_P D vwCl (zwX9 cI h_t h_t_now h_t_file h_t_fresh h_t_colour h_t_table h_t_last h_t_one t_wide t_high t_size t_at t_fault t_newWide t_newHigh t_colours t_now t_file t_fresh t_colour t_table t_last t_one) H → va_D A (zwX9 cI h_t h_t_now h_t_file h_t_fresh h_t_colour h_t_table h_t_last h_t_one t_wide t_high t_size t_at t_fault t_newWide t_newHigh t_colours t_now t_file t_fresh t_colour t_table t_last t_one) → va_S A s.heap H locs → lv_has ls 4 [(0, .ref h_t), (1, .int v0), (2, .int v1), (3, .int v2)] → W p l e rmX9_reds s m args below meth c H locs 0 0 Q (F0 m 0 ls []) := by
  intro hf hP hD hS hl
  obtain ⟨hx, hb, hml, hown, hts⟩ := id C
  unfold fX9_reds at hf
  refine lv_aload_n hx hb dX9_reds_0 rfl (lv_at hl 0 rfl) ?_
  refine lv_aload_n hx hb dX9_reds_1 rfl (lv_at hl 0 rfl) ?_
  refine va_get (D := D) (ci := 8) (v := .ref h_t_last) (C := RX9) (T := TX9) (N := 15) hx hb hts iX9_reds_X9 hown hK hP 0 rfl rfl 13 (by decide) (kX9_reds_32 hts) (fun _ h9 => h9) rfl dX9_reds_2 ?_
  refine lv_iconst (v := 0) hx hb dX9_reds_5 (by decide) ?_
  obtain ⟨hg2, hf⟩ := zrd_in hf
  refine va_iald hx hb hK hP 6 0 rfl rfl hg2 dX9_reds_6 ?_
  refine lv_topi (fun x1 ex1 => ?_)
  replace hf := hf x1 ex1
  clear ex1
  refine lv_iload_n hx hb dX9_reds_7 rfl (lv_at hl 1 rfl) ?_
  refine lv_iadd hx hb dX9_reds_8 ?_
  refine lv_sipush (v := 255) hx hb dX9_reds_9 (by decide) ?_
  refine lv_iand hx hb dX9_reds_12 ?_
  refine lv_aload_n hx hb dX9_reds_13 rfl (lv_at hl 0 rfl) ?_
  refine va_get (D := D) (ci := 8) (v := .ref h_t_last) (C := RX9) (T := TX9) (N := 15) hx hb hts iX9_reds_X9 hown hK hP 0 rfl rfl 13 (by decide) (kX9_reds_32 hts) (fun _ h9 => h9) rfl dX9_reds_14 ?_
  refine lv_iconst (v := 1) hx hb dX9_reds_17 (by decide) ?_
  obtain ⟨hg4, hf⟩ := zrd_in hf
  refine va_iald hx hb hK hP 6 0 rfl rfl hg4 dX9_reds_18 ?_
  refine lv_topi (fun x3 ex3 => ?_)
  replace hf := hf x3 ex3
  clear ex3
  refine lv_iload_n hx hb dX9_reds_19 rfl (lv_at hl 2 rfl) ?_
  refine lv_iadd hx hb dX9_reds_20 ?_
  refine lv_sipush (v := 255) hx hb dX9_reds_21 (by decide) ?_
  refine lv_iand hx hb dX9_reds_24 ?_
  refine lv_aload_n hx hb dX9_reds_25 rfl (lv_at hl 0 rfl) ?_
  refine va_get (D := D) (ci := 8) (v := .ref h_t_last) (C := RX9) (T := TX9) (N := 15) hx hb hts iX9_reds_X9 hown hK hP 0 rfl rfl 13 (by decide) (kX9_reds_32 hts) (fun _ h9 => h9) rfl dX9_reds_26 ?_
  refine lv_iconst (v := 2) hx hb dX9_reds_29 (by decide) ?_
  obtain ⟨hg6, hf⟩ := zrd_in hf
  refine va_iald hx hb hK hP 6 0 rfl rfl hg6 dX9_reds_30 ?_
  refine lv_topi (fun x5 ex5 => ?_)
  replace hf := hf x5 ex5
  clear ex5
  refine lv_iload_n hx hb dX9_reds_31 rfl (lv_at hl 3 rfl) ?_
  refine lv_iadd hx hb dX9_reds_32 ?_
  refine lv_sipush (v := 255) hx hb dX9_reds_33 (by decide) ?_
  refine lv_iand hx hb dX9_reds_36 ?_
  refine lv_aload_n hx hb dX9_reds_37 rfl (lv_at hl 0 rfl) ?_
  refine va_get (D := D) (ci := 8) (v := .ref h_t_last) (C := RX9) (T := TX9) (N := 15) hx hb hts iX9_reds_X9 hown hK hP 0 rfl rfl 13 (by decide) (kX9_reds_32 hts) (fun _ h9 => h9) rfl dX9_reds_38 ?_
  refine lv_iconst (v := 3) hx hb dX9_reds_41 (by decide) ?_
  obtain ⟨hg8, hf⟩ := zrd_in hf
  refine va_iald hx hb hK hP 6 0 rfl rfl hg8 dX9_reds_42 ?_
  refine lv_topi (fun x7 ex7 => ?_)
  replace hf := hf x7 ex7
  clear ex7
  obtain ⟨u9, hc10, hf⟩ := zb1_in hf
  refine zc_v (va_runV (As := [.int ((x1 + v0) &&& 255), .int ((x3 + v1) &&& 255), .int ((x5 + v2) &&& 255), .int x7]) (rest := []) C (mX9_tone l D cI H.size h_t h_t_now h_t_file h_t_fresh h_t_colour h_t_table h_t_last h_t_one t_wide t_high t_size t_at t_fault t_newWide t_newHigh t_colours t_now t_file t_fresh t_colour t_table t_last t_one ((x1 + v0) &&& 255) ((x3 + v1) &&& 255) ((x5 + v2) &&& 255) x7 u9 hc10) (qX9_reds_X9_tone_145 hts) ⟨zP_blind, va_recv hK hP (ci := 8) (q0 := 0) rfl rfl, zpre hK hN hP hD [0, 1, 2, 3, 4, 5, 6, 7] rfl rfl⟩ rfl rfl hl.1 rfl (lv_room (Nat.le_of_ble_eq_true rfl)) dX9_reds_43 ⟨Nat.zero_le _, Nat.zero_le _⟩) hP hD hS hA [0, 1, 2, 3, 4, 5, 6, 7] [] [0, 1, 2, 3, 4, 5, 6, 7] (ws' := zwX9 cI h_t h_t_now h_t_file h_t_fresh h_t_colour h_t_table h_t_last h_t_one t_wide t_high t_size t_at t_fault t_newWide t_newHigh t_colours t_now t_file t_fresh t_colour t_table t_last u9) rfl rfl rfl rfl rfl rfl (fun H locs hP hD hS => ?_)
  cases hf
  exact hE _ _ _ _ dX9_reds_46 hP hD hS
set_option maxHeartbeats 4000000 in
set_option maxRecDepth 100000 in
theorem mX9_reds (l : Launch) (D : va_G) (cI : ClassId) (sz : Nat) (h_t h_t_now h_t_file h_t_fresh h_t_colour h_t_table h_t_last h_t_one : Nat) (t_wide : Int32) (t_high : Int32) (t_size : Int32) (t_at : Int32) (t_fault : Int32) (t_newWide : Int32) (t_newHigh : Int32) (t_colours : Int32) (t_now : Nat → Int32) (t_file : Nat → Int32) (t_fresh : Nat → Int32) (t_colour : Nat → Int32) (t_table : Nat → Int32) (t_last : Nat → Int32) (t_one : Nat → Int32) (v0 v1 v2 : Int32) (zt_one : Nat → Int32) (hf : fX9_reds t_last t_one v0 v1 v2 = some zt_one) : Met l yX9_reds wsX9_reds rmX9_reds (va_Pc [.ref h_t, .int v0, .int v1, .int v2] (zP D [(cI, .int)] (zwX9 cI h_t h_t_now h_t_file h_t_fresh h_t_colour h_t_table h_t_last h_t_one t_wide t_high t_size t_at t_fault t_newWide t_newHigh t_colours t_now t_file t_fresh t_colour t_table t_last t_one) sz)) (zQv D (zwX9 cI h_t h_t_now h_t_file h_t_fresh h_t_colour h_t_table h_t_last h_t_one t_wide t_high t_size t_at t_fault t_newWide t_newHigh t_colours t_now t_file t_fresh t_colour t_table t_last t_one) sz (zwX9 cI h_t h_t_now h_t_file h_t_fresh h_t_colour h_t_table h_t_last h_t_one t_wide t_high t_size t_at t_fault t_newWide t_newHigh t_colours t_now t_file t_fresh t_colour t_table t_last zt_one)) 0 0 (va_A (zwX9 cI h_t h_t_now h_t_file h_t_fresh h_t_colour h_t_table h_t_last h_t_one t_wide t_high t_size t_at t_fault t_newWide t_newHigh t_colours t_now t_file t_fresh t_colour t_table t_last t_one) sz) := by
  refine Met.ofW (cc := cX9_reds) (maxL := 4) (ret := none) (by decide) rfl ?_
  intro p e s m args below meth c s₁ B hml hv
  obtain ⟨rfl, hsz, hP, hK, hD0, hN⟩ := hv
  subst hsz
  have C : CallFix p m c cX9_reds 4 s [.ref h_t, .int v0, .int v1, .int v2].toArray wsX9_reds RX9 := ⟨B.exec, B.bytes, hml, findClass_of_methodNamed B.named, atoms_spec (ws := wsX9_reds) B.pre⟩
  have hl := lv_entry ([.ref h_t, .int v0, .int v1, .int v2]) (n := 4) (Nat.le_of_ble_eq_true rfl)
  rw [lg_entry_eq]
  exact wX9_reds_0 (A := va_A (zwX9 cI h_t h_t_now h_t_file h_t_fresh h_t_colour h_t_table h_t_last h_t_one t_wide t_high t_size t_at t_fault t_newWide t_newHigh t_colours t_now t_file t_fresh t_colour t_table t_last t_one) s.heap.size) C hN hK (fun q h => Or.inr h) (fun H locs pc ls d hP hD hS => zend_v C.1 C.2.1 B.returns B.notSynchronized d hP hD hS) hf hP hD0.self va_S.rf hl
def rmX9_chunk : Room := { frames := 2, cells := 0, slots := 0, locals := 47 }
theorem kX9_chunk_29 {args : Array Value} {s : State} (h : ∀ w ∈ wsX9_chunk, w.before args s = true) : (Cond.fieldLink RX9 29 "FourPictureFilesModel" "table" "[I").before args s = true := h _ (by decide +kernel)
theorem kX9_chunk_32 {args : Array Value} {s : State} (h : ∀ w ∈ wsX9_chunk, w.before args s = true) : (Cond.fieldLink RX9 32 "FourPictureFilesModel" "last" "[I").before args s = true := h _ (by decide +kernel)
theorem kX9_chunk_35 {args : Array Value} {s : State} (h : ∀ w ∈ wsX9_chunk, w.before args s = true) : (Cond.fieldLink RX9 35 "FourPictureFilesModel" "one" "[I").before args s = true := h _ (by decide +kernel)
theorem iX9_chunk_X9 : ∀ w ∈ u_ws RX9 TX9 15, w ∈ wsX9_chunk := by decide +kernel
theorem qX9_chunk_X9_next_135 {args : Array Value} {s : State} (hts : ∀ w ∈ wsX9_chunk, w.before args s = true) : CallW rmX9_chunk s args RX9 RX9 135 yX9_next cX9_next 1 (some .int) wsX9_next rmX9_next 0 0 0 := cwV 0 hts gX9_chunk_X9_next rfl rfl rfl (by decide +kernel) ⟨Nat.le_of_ble_eq_true rfl, Nat.le_of_ble_eq_true rfl⟩
theorem qX9_chunk_X9_placeOf_81 {args : Array Value} {s : State} (hts : ∀ w ∈ wsX9_chunk, w.before args s = true) : CallB rmX9_chunk s args RX9 81 yX9_placeOf cX9_placeOf 4 (some .int) wsX9_placeOf rmX9_placeOf 0 0 4 ∧ (Cond.static yX9_placeOf).before args s = true := va_cwS 4 hts gX9_chunk_X9_placeOf rfl rfl rfl (by decide +kernel) ⟨Nat.le_of_ble_eq_true rfl, Nat.le_of_ble_eq_true rfl⟩
theorem qX9_chunk_X9_reds_149 {args : Array Value} {s : State} (hts : ∀ w ∈ wsX9_chunk, w.before args s = true) : CallW rmX9_chunk s args RX9 RX9 149 yX9_reds cX9_reds 4 none wsX9_reds rmX9_reds 0 0 3 := cwV 3 hts gX9_chunk_X9_reds rfl rfl rfl (by decide +kernel) ⟨Nat.le_of_ble_eq_true rfl, Nat.le_of_ble_eq_true rfl⟩
theorem qX9_chunk_X9_tone_145 {args : Array Value} {s : State} (hts : ∀ w ∈ wsX9_chunk, w.before args s = true) : CallW rmX9_chunk s args RX9 RX9 145 yX9_tone cX9_tone 5 none wsX9_tone rmX9_tone 0 0 4 := cwV 4 hts gX9_chunk_X9_tone rfl rfl rfl (by decide +kernel) ⟨Nat.le_of_ble_eq_true rfl, Nat.le_of_ble_eq_true rfl⟩
set_option maxHeartbeats 4000000 in
set_option maxRecDepth 100000 in
theorem wX9_chunk_205 {p : Program} {l : Launch} {e : Env} {s : State} {m : MethodId} {args : Array Value} {below : List Frame} {meth : Method} {c : Code} {D : va_G} {A : Nat → Prop} {Q : State → Prop} {cI : ClassId} {h_t h_t_now h_t_file h_t_fresh h_t_colour h_t_table h_t_last h_t_one : Nat} {t_wide : Int32} {t_high : Int32} {t_size : Int32} {t_newWide : Int32} {t_newHigh : Int32} {t_colours : Int32} {t_now : Nat → Int32} {t_file : Nat → Int32} {t_fresh : Nat → Int32} {t_colour : Nat → Int32} {zt_at : Int32} {zt_fault : Int32} {zt_table : Nat → Int32} {zt_last : Nat → Int32} {zt_one : Nat → Int32} (C : CallFix p m c cX9_chunk 5 s args wsX9_chunk RX9) (hN : zN s) (hK : va_K D vwCl [(cI, .int)] s) (hA : ∀ q, s.heap.size ≤ q → A q) (hE : zEv p l e rmX9_chunk s m args below meth c cX9_chunk D A Q (zwX9 cI h_t h_t_now h_t_file h_t_fresh h_t_colour h_t_table h_t_last h_t_one t_wide t_high t_size zt_at zt_fault t_newWide t_newHigh t_colours t_now t_file t_fresh t_colour zt_table zt_last zt_one)) (n : Nat) : ∀ {t_at : Int32} {t_fault : Int32} {t_table : Nat → Int32} {t_last : Nat → Int32} {t_one : Nat → Int32} {l1 : Int32} {l2 : Int32} {l3 : Int32} {H : Heap} {locs : List Loc} {ls : Array Slot}, fX9_chunk_205 n t_at t_fault t_table t_last t_one l2 l3 = some (zt_at, zt_fault, zt_table, zt_last, zt_one) → va_P D vwCl (zwX9 cI h_t h_t_now h_t_file h_t_fresh h_t_colour h_t_table h_t_last h_t_one t_wide t_high t_size t_at t_fault t_newWide t_newHigh t_colours t_now t_file t_fresh t_colour t_table t_last t_one) H → va_D A (zwX9 cI h_t h_t_now h_t_file h_t_fresh h_t_colour h_t_table h_t_last h_t_one t_wide t_high t_size t_at t_fault t_newWide t_newHigh t_colours t_now t_file t_fresh t_colour t_table t_last t_one) → va_S A s.heap H locs → lv_has ls 5 [(0, .ref h_t), (1, .int l1), (2, .int l2), (3, .int l3)] → W p l e rmX9_chunk s m args below meth c H locs 0 0 Q (F0 m 205 ls []) := by
  obtain ⟨hx, hb, hml, hown, hts⟩ := id C
  induction n with
  | zero =>
    intro t_at t_fault t_table t_last t_one l1 l2 l3 H locs ls hf
    cases hf
  | succ n hr_205 =>
    intro t_at t_fault t_table t_last t_one l1 l2 l3 H locs ls hf hP hD hS hl
    rw [fX9_chunk_205_s] at hf
    refine lv_iload_n hx hb dX9_chunk_205 rfl (lv_at hl 3 rfl) ?_
    refine lv_iconst (v := 4) hx hb dX9_chunk_206 (by decide) ?_
    refine lv_icmp_ge (tgt := 242) hx hb dX9_chunk_207 (by decide) (fun c1 => ?_) (fun c1 => ?_)
    · replace hf := zif_t hf c1
      cases hf
      exact hE _ _ _ _ dX9_chunk_242 hP hD hS
    · replace hf := zif_f hf c1
      refine lv_aload_n hx hb dX9_chunk_210 rfl (lv_at hl 0 rfl) ?_
      refine va_get (D := D) (ci := 8) (v := .ref h_t_last) (C := RX9) (T := TX9) (N := 15) hx hb hts iX9_chunk_X9 hown hK hP 0 rfl rfl 13 (by decide) (kX9_chunk_32 hts) (fun _ h9 => h9) rfl dX9_chunk_211 ?_
      refine lv_iload_n hx hb dX9_chunk_214 rfl (lv_at hl 3 rfl) ?_
      refine lv_aload_n hx hb dX9_chunk_215 rfl (lv_at hl 0 rfl) ?_
      refine va_get (D := D) (ci := 8) (v := .ref h_t_one) (C := RX9) (T := TX9) (N := 15) hx hb hts iX9_chunk_X9 hown hK hP 0 rfl rfl 14 (by decide) (kX9_chunk_35 hts) (fun _ h9 => h9) rfl dX9_chunk_216 ?_
      refine lv_iload_n hx hb dX9_chunk_219 rfl (lv_at hl 3 rfl) ?_
      obtain ⟨hg3, hf⟩ := zrd_in hf
      refine va_iald hx hb hK hP 7 0 rfl rfl hg3 dX9_chunk_220 ?_
      refine lv_topi (fun x2 ex2 => ?_)
      replace hf := hf x2 ex2
      clear ex2
      obtain ⟨hg5, g4, eg4, hf⟩ := zwr_in hf
      refine va_iast hx hb hK hP hD hS 6 0 rfl rfl hg5 dX9_chunk_221 (fun H locs hP hD hS => ?_)
      replace hP : va_P D vwCl (zwX9 cI h_t h_t_now h_t_file h_t_fresh h_t_colour h_t_table h_t_last h_t_one t_wide t_high t_size t_at t_fault t_newWide t_newHigh t_colours t_now t_file t_fresh t_colour t_table g4 t_one) H := by rw [← eg4]; exact hP
      replace hD : va_D A (zwX9 cI h_t h_t_now h_t_file h_t_fresh h_t_colour h_t_table h_t_last h_t_one t_wide t_high t_size t_at t_fault t_newWide t_newHigh t_colours t_now t_file t_fresh t_colour t_table g4 t_one) := by rw [← eg4]; exact hD
      clear eg4
      refine lv_aload_n hx hb dX9_chunk_222 rfl (lv_at hl 0 rfl) ?_
      refine va_get (D := D) (ci := 8) (v := .ref h_t_table) (C := RX9) (T := TX9) (N := 15) hx hb hts iX9_chunk_X9 hown hK hP 0 rfl rfl 12 (by decide) (kX9_chunk_29 hts) (fun _ h9 => h9) rfl dX9_chunk_223 ?_
      refine lv_iload_n hx hb dX9_chunk_226 rfl (lv_at hl 2 rfl) ?_
      refine lv_iload_n hx hb dX9_chunk_227 rfl (lv_at hl 3 rfl) ?_
      refine lv_iadd hx hb dX9_chunk_228 ?_
      refine lv_aload_n hx hb dX9_chunk_229 rfl (lv_at hl 0 rfl) ?_
      refine va_get (D := D) (ci := 8) (v := .ref h_t_one) (C := RX9) (T := TX9) (N := 15) hx hb hts iX9_chunk_X9 hown hK hP 0 rfl rfl 14 (by decide) (kX9_chunk_35 hts) (fun _ h9 => h9) rfl dX9_chunk_230 ?_
      refine lv_iload_n hx hb dX9_chunk_233 rfl (lv_at hl 3 rfl) ?_
      obtain ⟨hg7, hf⟩ := zrd_in hf
      refine va_iald hx hb hK hP 7 0 rfl rfl hg7 dX9_chunk_234 ?_
      refine lv_topi (fun x6 ex6 => ?_)
      replace hf := hf x6 ex6
      clear ex6
      obtain ⟨hg9, g8, eg8, hf⟩ := zwr_in hf
      refine va_iast hx hb hK hP hD hS 5 0 rfl rfl hg9 dX9_chunk_235 (fun H locs hP hD hS => ?_)
      replace hP : va_P D vwCl (zwX9 cI h_t h_t_now h_t_file h_t_fresh h_t_colour h_t_table h_t_last h_t_one t_wide t_high t_size t_at t_fault t_newWide t_newHigh t_colours t_now t_file t_fresh t_colour g8 g4 t_one) H := by rw [← eg8]; exact hP
      replace hD : va_D A (zwX9 cI h_t h_t_now h_t_file h_t_fresh h_t_colour h_t_table h_t_last h_t_one t_wide t_high t_size t_at t_fault t_newWide t_newHigh t_colours t_now t_file t_fresh t_colour g8 g4 t_one) := by rw [← eg8]; exact hD
      clear eg8
      obtain ⟨x10, ex10⟩ : ∃ y : Int32, y = l3 + 1 := ⟨_, rfl⟩
      replace hf := zlet_in hf ex10
      refine lv_iinc (v := x10) (lv' := [(3, .int x10), (0, .ref h_t), (1, .int l1), (2, .int l2)]) hx hb dX9_chunk_236 hl (k := 3) rfl (by rw [ex10]; rfl) (by decide) rfl (fun ls hl => ?_)
      clear ex10
      refine lv_goto (tgt := 205) hx hb dX9_chunk_239 (by decide) ?_
      exact hr_205 hf hP hD hS (lv_sub hl [1, 2, 3, 0] rfl)
set_option maxHeartbeats 4000000 in
set_option maxRecDepth 100000 in
theorem wX9_chunk_173 {p : Program} {l : Launch} {e : Env} {s : State} {m : MethodId} {args : Array Value} {below : List Frame} {meth : Method} {c : Code} {D : va_G} {A : Nat → Prop} {Q : State → Prop} {cI : ClassId} {h_t h_t_now h_t_file h_t_fresh h_t_colour h_t_table h_t_last h_t_one : Nat} {t_wide : Int32} {t_high : Int32} {t_size : Int32} {t_newWide : Int32} {t_newHigh : Int32} {t_colours : Int32} {t_now : Nat → Int32} {t_file : Nat → Int32} {t_fresh : Nat → Int32} {t_colour : Nat → Int32} {zt_at : Int32} {zt_fault : Int32} {zt_table : Nat → Int32} {zt_last : Nat → Int32} {zt_one : Nat → Int32} (C : CallFix p m c cX9_chunk 5 s args wsX9_chunk RX9) (hN : zN s) (hK : va_K D vwCl [(cI, .int)] s) (hA : ∀ q, s.heap.size ≤ q → A q) (hE : zEv p l e rmX9_chunk s m args below meth c cX9_chunk D A Q (zwX9 cI h_t h_t_now h_t_file h_t_fresh h_t_colour h_t_table h_t_last h_t_one t_wide t_high t_size zt_at zt_fault t_newWide t_newHigh t_colours t_now t_file t_fresh t_colour zt_table zt_last zt_one)) {t_at : Int32} {t_fault : Int32} {t_table : Nat → Int32} {t_last : Nat → Int32} {t_one : Nat → Int32} {l1 : Int32} {H : Heap} {locs : List Loc} {ls : Array Slot} : fX9_chunk_173 t_at t_fault t_table t_last t_one = some (zt_at, zt_fault, zt_table, zt_last, zt_one) → va_P D vwCl (zwX9 cI h_t h_t_now h_t_file h_t_fresh h_t_colour h_t_table h_t_last h_t_one t_wide t_high t_size t_at t_fault t_newWide t_newHigh t_colours t_now t_file t_fresh t_colour t_table t_last t_one) H → va_D A (zwX9 cI h_t h_t_now h_t_file h_t_fresh h_t_colour h_t_table h_t_last h_t_one t_wide t_high t_size t_at t_fault t_newWide t_newHigh t_colours t_now t_file t_fresh t_colour t_table t_last t_one) → va_S A s.heap H locs → lv_has ls 5 [(0, .ref h_t), (1, .int l1)] → W p l e rmX9_chunk s m args below meth c H locs 0 0 Q (F0 m 173 ls []) := by
  intro hf hP hD hS hl
  obtain ⟨hx, hb, hml, hown, hts⟩ := id C
  unfold fX9_chunk_173 at hf
  refine lv_iconst (v := 4) hx hb dX9_chunk_173 (by decide) ?_
  refine lv_aload_n hx hb dX9_chunk_174 rfl (lv_at hl 0 rfl) ?_
  refine va_get (D := D) (ci := 8) (v := .ref h_t_one) (C := RX9) (T := TX9) (N := 15) hx hb hts iX9_chunk_X9 hown hK hP 0 rfl rfl 14 (by decide) (kX9_chunk_35 hts) (fun _ h9 => h9) rfl dX9_chunk_175 ?_
  refine lv_iconst (v := 0) hx hb dX9_chunk_178 (by decide) ?_
  obtain ⟨hg2, hf⟩ := zrd_in hf
  refine va_iald hx hb hK hP 7 0 rfl rfl hg2 dX9_chunk_179 ?_
  refine lv_topi (fun x1 ex1 => ?_)
  replace hf := hf x1 ex1
  clear ex1
  refine lv_aload_n hx hb dX9_chunk_180 rfl (lv_at hl 0 rfl) ?_
  refine va_get (D := D) (ci := 8) (v := .ref h_t_one) (C := RX9) (T := TX9) (N := 15) hx hb hts iX9_chunk_X9 hown hK hP 0 rfl rfl 14 (by decide) (kX9_chunk_35 hts) (fun _ h9 => h9) rfl dX9_chunk_181 ?_
  refine lv_iconst (v := 1) hx hb dX9_chunk_184 (by decide) ?_
  obtain ⟨hg4, hf⟩ := zrd_in hf
  refine va_iald hx hb hK hP 7 0 rfl rfl hg4 dX9_chunk_185 ?_
  refine lv_topi (fun x3 ex3 => ?_)
  replace hf := hf x3 ex3
  clear ex3
  refine lv_aload_n hx hb dX9_chunk_186 rfl (lv_at hl 0 rfl) ?_
  refine va_get (D := D) (ci := 8) (v := .ref h_t_one) (C := RX9) (T := TX9) (N := 15) hx hb hts iX9_chunk_X9 hown hK hP 0 rfl rfl 14 (by decide) (kX9_chunk_35 hts) (fun _ h9 => h9) rfl dX9_chunk_187 ?_
  refine lv_iconst (v := 2) hx hb dX9_chunk_190 (by decide) ?_
  obtain ⟨hg6, hf⟩ := zrd_in hf
  refine va_iald hx hb hK hP 7 0 rfl rfl hg6 dX9_chunk_191 ?_
  refine lv_topi (fun x5 ex5 => ?_)
  replace hf := hf x5 ex5
  clear ex5
  refine lv_aload_n hx hb dX9_chunk_192 rfl (lv_at hl 0 rfl) ?_
  refine va_get (D := D) (ci := 8) (v := .ref h_t_one) (C := RX9) (T := TX9) (N := 15) hx hb hts iX9_chunk_X9 hown hK hP 0 rfl rfl 14 (by decide) (kX9_chunk_35 hts) (fun _ h9 => h9) rfl dX9_chunk_193 ?_
  refine lv_iconst (v := 3) hx hb dX9_chunk_196 (by decide) ?_
  obtain ⟨hg8, hf⟩ := zrd_in hf
  refine va_iald hx hb hK hP 7 0 rfl rfl hg8 dX9_chunk_197 ?_
  refine lv_topi (fun x7 ex7 => ?_)
  replace hf := hf x7 ex7
  clear ex7
  obtain ⟨r9, hc10, hf⟩ := zb1_in hf
  refine zc_i (va_runS (As := [.int x1, .int x3, .int x5, .int x7]) (rest := [.int 4]) C (mX9_placeOf l D cI H.size x1 x3 x5 x7 r9 hc10) (qX9_chunk_X9_placeOf_81 hts) ⟨zP_blind, zpre hK hN hP hD [] rfl rfl⟩ rfl rfl hl.1 rfl (lv_room (Nat.le_of_ble_eq_true rfl)) dX9_chunk_198 ⟨Nat.zero_le _, Nat.zero_le _⟩) hP hD hS hA [] [0, 1, 2, 3, 4, 5, 6, 7] [0, 1, 2, 3, 4, 5, 6, 7] (ws' := zwX9 cI h_t h_t_now h_t_file h_t_fresh h_t_colour h_t_table h_t_last h_t_one t_wide t_high t_size t_at t_fault t_newWide t_newHigh t_colours t_now t_file t_fresh t_colour t_table t_last t_one) rfl rfl rfl rfl rfl rfl (fun H locs hP hD hS => ?_)
  refine lv_imul hx hb dX9_chunk_201 ?_
  refine lv_topi (fun x11 ex11 => ?_)
  replace hf := zlet_in hf ex11
  clear ex11
  refine lv_istore_n (lv' := [(2, .int x11), (0, .ref h_t), (1, .int l1)]) hx hb dX9_chunk_202 rfl hl (by decide) rfl (fun ls hl => ?_)
  refine lv_iconst (v := 0) hx hb dX9_chunk_203 (by decide) ?_
  refine lv_istore_n (lv' := [(3, .int 0), (2, .int x11), (0, .ref h_t), (1, .int l1)]) hx hb dX9_chunk_204 rfl hl (by decide) rfl (fun ls hl => ?_)
  exact wX9_chunk_205 C hN hK hA hE 1000 hf hP hD hS (lv_sub hl [2, 3, 1, 0] rfl)
set_option maxHeartbeats 4000000 in
set_option maxRecDepth 100000 in
theorem wX9_chunk_48 {p : Program} {l : Launch} {e : Env} {s : State} {m : MethodId} {args : Array Value} {below : List Frame} {meth : Method} {c : Code} {D : va_G} {A : Nat → Prop} {Q : State → Prop} {cI : ClassId} {h_t h_t_now h_t_file h_t_fresh h_t_colour h_t_table h_t_last h_t_one : Nat} {t_wide : Int32} {t_high : Int32} {t_size : Int32} {t_newWide : Int32} {t_newHigh : Int32} {t_colours : Int32} {t_now : Nat → Int32} {t_file : Nat → Int32} {t_fresh : Nat → Int32} {t_colour : Nat → Int32} {zt_at : Int32} {zt_fault : Int32} {zt_table : Nat → Int32} {zt_last : Nat → Int32} {zt_one : Nat → Int32} (C : CallFix p m c cX9_chunk 5 s args wsX9_chunk RX9) (hN : zN s) (hK : va_K D vwCl [(cI, .int)] s) (hA : ∀ q, s.heap.size ≤ q → A q) (hE : zEv p l e rmX9_chunk s m args below meth c cX9_chunk D A Q (zwX9 cI h_t h_t_now h_t_file h_t_fresh h_t_colour h_t_table h_t_last h_t_one t_wide t_high t_size zt_at zt_fault t_newWide t_newHigh t_colours t_now t_file t_fresh t_colour zt_table zt_last zt_one)) {t_at : Int32} {t_fault : Int32} {t_table : Nat → Int32} {t_last : Nat → Int32} {t_one : Nat → Int32} {l1 : Int32} {l2 : Int32} {l3 : Int32} {l4 : Int32} {k1 : Int32} {k2 : Int32} {k3 : Int32} {k4 : Int32} {H : Heap} {locs : List Loc} {ls : Array Slot} : fX9_chunk_48 t_at t_fault t_table t_last t_one k1 k2 k3 k4 = some (zt_at, zt_fault, zt_table, zt_last, zt_one) → va_P D vwCl (zwX9 cI h_t h_t_now h_t_file h_t_fresh h_t_colour h_t_table h_t_last h_t_one t_wide t_high t_size t_at t_fault t_newWide t_newHigh t_colours t_now t_file t_fresh t_colour t_table t_last t_one) H → va_D A (zwX9 cI h_t h_t_now h_t_file h_t_fresh h_t_colour h_t_table h_t_last h_t_one t_wide t_high t_size t_at t_fault t_newWide t_newHigh t_colours t_now t_file t_fresh t_colour t_table t_last t_one) → va_S A s.heap H locs → lv_has ls 5 [(0, .ref h_t), (1, .int l1), (2, .int l2), (3, .int l3), (4, .int l4)] → W p l e rmX9_chunk s m args below meth c H locs 0 0 Q (F0 m 48 ls [.int k4, .int k3, .int k2, .int k1, .ref h_t]) := by
  intro hf hP hD hS hl
  obtain ⟨hx, hb, hml, hown, hts⟩ := id C
  unfold fX9_chunk_48 at hf
  obtain ⟨u1, hc2, hf⟩ := zb1_in hf
  refine zc_v (va_runV (As := [.int k1, .int k2, .int k3, .int k4]) (rest := []) C (mX9_tone l D cI H.size h_t h_t_now h_t_file h_t_fresh h_t_colour h_t_table h_t_last h_t_one t_wide t_high t_size t_at t_fault t_newWide t_newHigh t_colours t_now t_file t_fresh t_colour t_table t_last t_one k1 k2 k3 k4 u1 hc2) (qX9_chunk_X9_tone_145 hts) ⟨zP_blind, va_recv hK hP (ci := 8) (q0 := 0) rfl rfl, zpre hK hN hP hD [0, 1, 2, 3, 4, 5, 6, 7] rfl rfl⟩ rfl rfl hl.1 rfl (lv_room (Nat.le_of_ble_eq_true rfl)) dX9_chunk_48 ⟨Nat.zero_le _, Nat.zero_le _⟩) hP hD hS hA [0, 1, 2, 3, 4, 5, 6, 7] [] [0, 1, 2, 3, 4, 5, 6, 7] (ws' := zwX9 cI h_t h_t_now h_t_file h_t_fresh h_t_colour h_t_table h_t_last h_t_one t_wide t_high t_size t_at t_fault t_newWide t_newHigh t_colours t_now t_file t_fresh t_colour t_table t_last u1) rfl rfl rfl rfl rfl rfl (fun H locs hP hD hS => ?_)
  refine lv_goto (tgt := 173) hx hb dX9_chunk_51 (by decide) ?_
  exact wX9_chunk_173 C hN hK hA hE hf hP hD hS (lv_sub hl [0, 1] rfl)
set_option maxHeartbeats 4000000 in
set_option maxRecDepth 100000 in
theorem wX9_chunk_0 {p : Program} {l : Launch} {e : Env} {s : State} {m : MethodId} {args : Array Value} {below : List Frame} {meth : Method} {c : Code} {D : va_G} {A : Nat → Prop} {Q : State → Prop} {cI : ClassId} {h_t h_t_now h_t_file h_t_fresh h_t_colour h_t_table h_t_last h_t_one : Nat} {t_wide : Int32} {t_high : Int32} {t_size : Int32} {t_newWide : Int32} {t_newHigh : Int32} {t_colours : Int32} {t_now : Nat → Int32} {t_file : Nat → Int32} {t_fresh : Nat → Int32} {t_colour : Nat → Int32} {zt_at : Int32} {zt_fault : Int32} {zt_table : Nat → Int32} {zt_last : Nat → Int32} {zt_one : Nat → Int32} (C : CallFix p m c cX9_chunk 5 s args wsX9_chunk RX9) (hN : zN s) (hK : va_K D vwCl [(cI, .int)] s) (hA : ∀ q, s.heap.size ≤ q → A q) (hE : zEv p l e rmX9_chunk s m args below meth c cX9_chunk D A Q (zwX9 cI h_t h_t_now h_t_file h_t_fresh h_t_colour h_t_table h_t_last h_t_one t_wide t_high t_size zt_at zt_fault t_newWide t_newHigh t_colours t_now t_file t_fresh t_colour zt_table zt_last zt_one)) {t_at : Int32} {t_fault : Int32} {t_table : Nat → Int32} {t_last : Nat → Int32} {t_one : Nat → Int32} {v0 : Int32} {H : Heap} {locs : List Loc} {ls : Array Slot} : fX9_chunk t_size t_at t_fault t_file t_table t_last t_one v0 = some (zt_at, zt_fault, zt_table, zt_last, zt_one) → va_P D vwCl (zwX9 cI h_t h_t_now h_t_file h_t_fresh h_t_colour h_t_table h_t_last h_t_one t_wide t_high t_size t_at t_fault t_newWide t_newHigh t_colours t_now t_file t_fresh t_colour t_table t_last t_one) H → va_D A (zwX9 cI h_t h_t_now h_t_file h_t_fresh h_t_colour h_t_table h_t_last h_t_one t_wide t_high t_size t_at t_fault t_newWide t_newHigh t_colours t_now t_file t_fresh t_colour t_table t_last t_one) → va_S A s.heap H locs → lv_has ls 5 [(0, .ref h_t), (1, .int v0)] → W p l e rmX9_chunk s m args below meth c H locs 0 0 Q (F0 m 0 ls []) := by
  intro hf hP hD hS hl
  obtain ⟨hx, hb, hml, hown, hts⟩ := id C
  unfold fX9_chunk at hf
  refine lv_iload_n hx hb dX9_chunk_0 rfl (lv_at hl 1 rfl) ?_
  refine lv_sipush (v := 254) hx hb dX9_chunk_1 (by decide) ?_
  refine lv_icmp_lt (tgt := 54) hx hb dX9_chunk_4 (by decide) (fun c1 => ?_) (fun c1 => ?_)
  · replace hf := zif_t hf c1
    refine lv_iload_n hx hb dX9_chunk_54 rfl (lv_at hl 1 rfl) ?_
    refine lv_bipush (v := 64) hx hb dX9_chunk_55 (by decide) ?_
    refine lv_icmp_ge (tgt := 105) hx hb dX9_chunk_57 (by decide) (fun c2 => ?_) (fun c2 => ?_)
    · replace hf := zif_t hf c2
      refine lv_iload_n hx hb dX9_chunk_105 rfl (lv_at hl 1 rfl) ?_
      refine lv_sipush (v := 128) hx hb dX9_chunk_106 (by decide) ?_
      refine lv_icmp_ge (tgt := 139) hx hb dX9_chunk_109 (by decide) (fun c3 => ?_) (fun c3 => ?_)
      · replace hf := zif_t hf c3
        refine lv_iload_n hx hb dX9_chunk_139 rfl (lv_at hl 1 rfl) ?_
        refine lv_sipush (v := 160) hx hb dX9_chunk_140 (by decide) ?_
        refine lv_isub hx hb dX9_chunk_143 ?_
        refine lv_topi (fun x4 ex4 => ?_)
        replace hf := zlet_in hf ex4
        clear ex4
        refine lv_istore_n (lv' := [(2, .int x4), (0, .ref h_t), (1, .int v0)]) hx hb dX9_chunk_144 rfl hl (by decide) rfl (fun ls hl => ?_)
        refine lv_aload_n hx hb dX9_chunk_145 rfl (lv_at hl 1 rfl) ?_
        obtain ⟨r5, u6, u7, hc8, hf⟩ := zb3_in hf
        refine zc_i (va_runV (As := []) (rest := []) C (mX9_next l D cI H.size h_t h_t_now h_t_file h_t_fresh h_t_colour h_t_table h_t_last h_t_one t_wide t_high t_size t_at t_fault t_newWide t_newHigh t_colours t_now t_file t_fresh t_colour t_table t_last t_one r5 u6 u7 hc8) (qX9_chunk_X9_next_135 hts) ⟨zP_blind, va_recv hK hP (ci := 8) (q0 := 0) rfl rfl, zpre hK hN hP hD [0, 1, 2, 3, 4, 5, 6, 7] rfl rfl⟩ rfl rfl hl.1 rfl (lv_room (Nat.le_of_ble_eq_true rfl)) dX9_chunk_146 ⟨Nat.zero_le _, Nat.zero_le _⟩) hP hD hS hA [0, 1, 2, 3, 4, 5, 6, 7] [] [0, 1, 2, 3, 4, 5, 6, 7] (ws' := zwX9 cI h_t h_t_now h_t_file h_t_fresh h_t_colour h_t_table h_t_last h_t_one t_wide t_high t_size u6 u7 t_newWide t_newHigh t_colours t_now t_file t_fresh t_colour t_table t_last t_one) rfl rfl rfl rfl rfl rfl (fun H locs hP hD hS => ?_)
        refine lv_istore_n (lv' := [(3, .int r5), (2, .int x4), (0, .ref h_t), (1, .int v0)]) hx hb dX9_chunk_149 rfl hl (by decide) rfl (fun ls hl => ?_)
        refine lv_aload_n hx hb dX9_chunk_150 rfl (lv_at hl 2 rfl) ?_
        refine lv_iload_n hx hb dX9_chunk_151 rfl (lv_at hl 1 rfl) ?_
        refine lv_iload_n hx hb dX9_chunk_152 rfl (lv_at hl 0 rfl) ?_
        refine lv_bipush (v := 16) hx hb dX9_chunk_153 (by decide) ?_
        refine lv_idiv hx hb dX9_chunk_155 (by decide) ?_
        refine lv_iadd hx hb dX9_chunk_156 ?_
        refine lv_bipush (v := 8) hx hb dX9_chunk_157 (by decide) ?_
        refine lv_isub hx hb dX9_chunk_159 ?_
        refine lv_iload_n hx hb dX9_chunk_160 rfl (lv_at hl 1 rfl) ?_
        refine lv_iload_n hx hb dX9_chunk_161 rfl (lv_at hl 1 rfl) ?_
        refine lv_iload_n hx hb dX9_chunk_162 rfl (lv_at hl 0 rfl) ?_
        refine lv_bipush (v := 16) hx hb dX9_chunk_163 (by decide) ?_
        refine lv_irem hx hb dX9_chunk_165 (by decide) ?_
        refine lv_iadd hx hb dX9_chunk_166 ?_
        refine lv_bipush (v := 8) hx hb dX9_chunk_167 (by decide) ?_
        refine lv_isub hx hb dX9_chunk_169 ?_
        obtain ⟨u9, hc10, hf⟩ := zb1_in hf
        refine zc_v (va_runV (As := [.int ((x4 + (r5 / 16)) - 8), .int x4, .int ((x4 + (zrem r5 16)) - 8)]) (rest := []) C (mX9_reds l D cI H.size h_t h_t_now h_t_file h_t_fresh h_t_colour h_t_table h_t_last h_t_one t_wide t_high t_size u6 u7 t_newWide t_newHigh t_colours t_now t_file t_fresh t_colour t_table t_last t_one ((x4 + (r5 / 16)) - 8) x4 ((x4 + (zrem r5 16)) - 8) u9 hc10) (qX9_chunk_X9_reds_149 hts) ⟨zP_blind, va_recv hK hP (ci := 8) (q0 := 0) rfl rfl, zpre hK hN hP hD [0, 1, 2, 3, 4, 5, 6, 7] rfl rfl⟩ rfl rfl hl.1 rfl (lv_room (Nat.le_of_ble_eq_true rfl)) dX9_chunk_170 ⟨Nat.zero_le _, Nat.zero_le _⟩) hP hD hS hA [0, 1, 2, 3, 4, 5, 6, 7] [] [0, 1, 2, 3, 4, 5, 6, 7] (ws' := zwX9 cI h_t h_t_now h_t_file h_t_fresh h_t_colour h_t_table h_t_last h_t_one t_wide t_high t_size u6 u7 t_newWide t_newHigh t_colours t_now t_file t_fresh t_colour t_table t_last u9) rfl rfl rfl rfl rfl rfl (fun H locs hP hD hS => ?_)
        exact wX9_chunk_173 C hN hK hA hE hf hP hD hS (lv_sub hl [2, 3] rfl)
      · replace hf := zif_f hf c3
        refine lv_aload_n hx hb dX9_chunk_112 rfl (lv_at hl 0 rfl) ?_
        refine lv_iload_n hx hb dX9_chunk_113 rfl (lv_at hl 1 rfl) ?_
        refine lv_bipush (v := 16) hx hb dX9_chunk_114 (by decide) ?_
        refine lv_idiv hx hb dX9_chunk_116 (by decide) ?_
        refine lv_iconst (v := 4) hx hb dX9_chunk_117 (by decide) ?_
        refine lv_irem hx hb dX9_chunk_118 (by decide) ?_
        refine lv_iconst (v := 2) hx hb dX9_chunk_119 (by decide) ?_
        refine lv_isub hx hb dX9_chunk_120 ?_
        refine lv_iload_n hx hb dX9_chunk_121 rfl (lv_at hl 1 rfl) ?_
        refine lv_iconst (v := 4) hx hb dX9_chunk_122 (by decide) ?_
        refine lv_idiv hx hb dX9_chunk_123 (by decide) ?_
        refine lv_iconst (v := 4) hx hb dX9_chunk_124 (by decide) ?_
        refine lv_irem hx hb dX9_chunk_125 (by decide) ?_
        refine lv_iconst (v := 2) hx hb dX9_chunk_126 (by decide) ?_
        refine lv_isub hx hb dX9_chunk_127 ?_
        refine lv_iload_n hx hb dX9_chunk_128 rfl (lv_at hl 1 rfl) ?_
        refine lv_iconst (v := 4) hx hb dX9_chunk_129 (by decide) ?_
        refine lv_irem hx hb dX9_chunk_130 (by decide) ?_
        refine lv_iconst (v := 2) hx hb dX9_chunk_131 (by decide) ?_
        refine lv_isub hx hb dX9_chunk_132 ?_
        obtain ⟨u11, hc12, hf⟩ := zb1_in hf
        refine zc_v (va_runV (As := [.int ((zrem (v0 / 16) 4) - 2), .int ((zrem (v0 / 4) 4) - 2), .int ((zrem v0 4) - 2)]) (rest := []) C (mX9_reds l D cI H.size h_t h_t_now h_t_file h_t_fresh h_t_colour h_t_table h_t_last h_t_one t_wide t_high t_size t_at t_fault t_newWide t_newHigh t_colours t_now t_file t_fresh t_colour t_table t_last t_one ((zrem (v0 / 16) 4) - 2) ((zrem (v0 / 4) 4) - 2) ((zrem v0 4) - 2) u11 hc12) (qX9_chunk_X9_reds_149 hts) ⟨zP_blind, va_recv hK hP (ci := 8) (q0 := 0) rfl rfl, zpre hK hN hP hD [0, 1, 2, 3, 4, 5, 6, 7] rfl rfl⟩ rfl rfl hl.1 rfl (lv_room (Nat.le_of_ble_eq_true rfl)) dX9_chunk_133 ⟨Nat.zero_le _, Nat.zero_le _⟩) hP hD hS hA [0, 1, 2, 3, 4, 5, 6, 7] [] [0, 1, 2, 3, 4, 5, 6, 7] (ws' := zwX9 cI h_t h_t_now h_t_file h_t_fresh h_t_colour h_t_table h_t_last h_t_one t_wide t_high t_size t_at t_fault t_newWide t_newHigh t_colours t_now t_file t_fresh t_colour t_table t_last u11) rfl rfl rfl rfl rfl rfl (fun H locs hP hD hS => ?_)
        refine lv_goto (tgt := 173) hx hb dX9_chunk_136 (by decide) ?_
        exact wX9_chunk_173 C hN hK hA hE hf hP hD hS (lv_sub hl [0, 1] rfl)
    · replace hf := zif_f hf c2
      refine lv_aload_n hx hb dX9_chunk_60 rfl (lv_at hl 0 rfl) ?_
      refine lv_aload_n hx hb dX9_chunk_61 rfl (lv_at hl 0 rfl) ?_
      refine va_get (D := D) (ci := 8) (v := .ref h_t_table) (C := RX9) (T := TX9) (N := 15) hx hb hts iX9_chunk_X9 hown hK hP 0 rfl rfl 12 (by decide) (kX9_chunk_29 hts) (fun _ h9 => h9) rfl dX9_chunk_62 ?_
      refine lv_iconst (v := 4) hx hb dX9_chunk_65 (by decide) ?_
      refine lv_iload_n hx hb dX9_chunk_66 rfl (lv_at hl 1 rfl) ?_
      refine lv_imul hx hb dX9_chunk_67 ?_
      obtain ⟨hg14, hf⟩ := zrd_in hf
      refine va_iald hx hb hK hP 5 0 rfl rfl hg14 dX9_chunk_68 ?_
      refine lv_topi (fun x13 ex13 => ?_)
      replace hf := hf x13 ex13
      clear ex13
      refine lv_aload_n hx hb dX9_chunk_69 rfl (lv_at hl 0 rfl) ?_
      refine va_get (D := D) (ci := 8) (v := .ref h_t_table) (C := RX9) (T := TX9) (N := 15) hx hb hts iX9_chunk_X9 hown hK hP 0 rfl rfl 12 (by decide) (kX9_chunk_29 hts) (fun _ h9 => h9) rfl dX9_chunk_70 ?_
      refine lv_iconst (v := 4) hx hb dX9_chunk_73 (by decide) ?_
      refine lv_iload_n hx hb dX9_chunk_74 rfl (lv_at hl 1 rfl) ?_
      refine lv_imul hx hb dX9_chunk_75 ?_
      refine lv_iconst (v := 1) hx hb dX9_chunk_76 (by decide) ?_
      refine lv_iadd hx hb dX9_chunk_77 ?_
      obtain ⟨hg16, hf⟩ := zrd_in hf
      refine va_iald hx hb hK hP 5 0 rfl rfl hg16 dX9_chunk_78 ?_
      refine lv_topi (fun x15 ex15 => ?_)
      replace hf := hf x15 ex15
      clear ex15
      refine lv_aload_n hx hb dX9_chunk_79 rfl (lv_at hl 0 rfl) ?_
      refine va_get (D := D) (ci := 8) (v := .ref h_t_table) (C := RX9) (T := TX9) (N := 15) hx hb hts iX9_chunk_X9 hown hK hP 0 rfl rfl 12 (by decide) (kX9_chunk_29 hts) (fun _ h9 => h9) rfl dX9_chunk_80 ?_
      refine lv_iconst (v := 4) hx hb dX9_chunk_83 (by decide) ?_
      refine lv_iload_n hx hb dX9_chunk_84 rfl (lv_at hl 1 rfl) ?_
      refine lv_imul hx hb dX9_chunk_85 ?_
      refine lv_iconst (v := 2) hx hb dX9_chunk_86 (by decide) ?_
      refine lv_iadd hx hb dX9_chunk_87 ?_
      obtain ⟨hg18, hf⟩ := zrd_in hf
      refine va_iald hx hb hK hP 5 0 rfl rfl hg18 dX9_chunk_88 ?_
      refine lv_topi (fun x17 ex17 => ?_)
      replace hf := hf x17 ex17
      clear ex17
      refine lv_aload_n hx hb dX9_chunk_89 rfl (lv_at hl 0 rfl) ?_
      refine va_get (D := D) (ci := 8) (v := .ref h_t_table) (C := RX9) (T := TX9) (N := 15) hx hb hts iX9_chunk_X9 hown hK hP 0 rfl rfl 12 (by decide) (kX9_chunk_29 hts) (fun _ h9 => h9) rfl dX9_chunk_90 ?_
      refine lv_iconst (v := 4) hx hb dX9_chunk_93 (by decide) ?_
      refine lv_iload_n hx hb dX9_chunk_94 rfl (lv_at hl 1 rfl) ?_
      refine lv_imul hx hb dX9_chunk_95 ?_
      refine lv_iconst (v := 3) hx hb dX9_chunk_96 (by decide) ?_
      refine lv_iadd hx hb dX9_chunk_97 ?_
      obtain ⟨hg20, hf⟩ := zrd_in hf
      refine va_iald hx hb hK hP 5 0 rfl rfl hg20 dX9_chunk_98 ?_
      refine lv_topi (fun x19 ex19 => ?_)
      replace hf := hf x19 ex19
      clear ex19
      obtain ⟨u21, hc22, hf⟩ := zb1_in hf
      refine zc_v (va_runV (As := [.int x13, .int x15, .int x17, .int x19]) (rest := []) C (mX9_tone l D cI H.size h_t h_t_now h_t_file h_t_fresh h_t_colour h_t_table h_t_last h_t_one t_wide t_high t_size t_at t_fault t_newWide t_newHigh t_colours t_now t_file t_fresh t_colour t_table t_last t_one x13 x15 x17 x19 u21 hc22) (qX9_chunk_X9_tone_145 hts) ⟨zP_blind, va_recv hK hP (ci := 8) (q0 := 0) rfl rfl, zpre hK hN hP hD [0, 1, 2, 3, 4, 5, 6, 7] rfl rfl⟩ rfl rfl hl.1 rfl (lv_room (Nat.le_of_ble_eq_true rfl)) dX9_chunk_99 ⟨Nat.zero_le _, Nat.zero_le _⟩) hP hD hS hA [0, 1, 2, 3, 4, 5, 6, 7] [] [0, 1, 2, 3, 4, 5, 6, 7] (ws' := zwX9 cI h_t h_t_now h_t_file h_t_fresh h_t_colour h_t_table h_t_last h_t_one t_wide t_high t_size t_at t_fault t_newWide t_newHigh t_colours t_now t_file t_fresh t_colour t_table t_last u21) rfl rfl rfl rfl rfl rfl (fun H locs hP hD hS => ?_)
      refine lv_goto (tgt := 173) hx hb dX9_chunk_102 (by decide) ?_
      exact wX9_chunk_173 C hN hK hA hE hf hP hD hS (lv_sub hl [0, 1] rfl)
  · replace hf := zif_f hf c1
    refine lv_aload_n hx hb dX9_chunk_7 rfl (lv_at hl 0 rfl) ?_
    obtain ⟨r23, u24, u25, hc26, hf⟩ := zb3_in hf
    refine zc_i (va_runV (As := []) (rest := []) C (mX9_next l D cI H.size h_t h_t_now h_t_file h_t_fresh h_t_colour h_t_table h_t_last h_t_one t_wide t_high t_size t_at t_fault t_newWide t_newHigh t_colours t_now t_file t_fresh t_colour t_table t_last t_one r23 u24 u25 hc26) (qX9_chunk_X9_next_135 hts) ⟨zP_blind, va_recv hK hP (ci := 8) (q0 := 0) rfl rfl, zpre hK hN hP hD [0, 1, 2, 3, 4, 5, 6, 7] rfl rfl⟩ rfl rfl hl.1 rfl (lv_room (Nat.le_of_ble_eq_true rfl)) dX9_chunk_8 ⟨Nat.zero_le _, Nat.zero_le _⟩) hP hD hS hA [0, 1, 2, 3, 4, 5, 6, 7] [] [0, 1, 2, 3, 4, 5, 6, 7] (ws' := zwX9 cI h_t h_t_now h_t_file h_t_fresh h_t_colour h_t_table h_t_last h_t_one t_wide t_high t_size u24 u25 t_newWide t_newHigh t_colours t_now t_file t_fresh t_colour t_table t_last t_one) rfl rfl rfl rfl rfl rfl (fun H locs hP hD hS => ?_)
    refine lv_istore_n (lv' := [(2, .int r23), (0, .ref h_t), (1, .int v0)]) hx hb dX9_chunk_11 rfl hl (by decide) rfl (fun ls hl => ?_)
    refine lv_aload_n hx hb dX9_chunk_12 rfl (lv_at hl 1 rfl) ?_
    obtain ⟨r27, u28, u29, hc30, hf⟩ := zb3_in hf
    refine zc_i (va_runV (As := []) (rest := []) C (mX9_next l D cI H.size h_t h_t_now h_t_file h_t_fresh h_t_colour h_t_table h_t_last h_t_one t_wide t_high t_size u24 u25 t_newWide t_newHigh t_colours t_now t_file t_fresh t_colour t_table t_last t_one r27 u28 u29 hc30) (qX9_chunk_X9_next_135 hts) ⟨zP_blind, va_recv hK hP (ci := 8) (q0 := 0) rfl rfl, zpre hK hN hP hD [0, 1, 2, 3, 4, 5, 6, 7] rfl rfl⟩ rfl rfl hl.1 rfl (lv_room (Nat.le_of_ble_eq_true rfl)) dX9_chunk_13 ⟨Nat.zero_le _, Nat.zero_le _⟩) hP hD hS hA [0, 1, 2, 3, 4, 5, 6, 7] [] [0, 1, 2, 3, 4, 5, 6, 7] (ws' := zwX9 cI h_t h_t_now h_t_file h_t_fresh h_t_colour h_t_table h_t_last h_t_one t_wide t_high t_size u28 u29 t_newWide t_newHigh t_colours t_now t_file t_fresh t_colour t_table t_last t_one) rfl rfl rfl rfl rfl rfl (fun H locs hP hD hS => ?_)
    refine lv_istore_n (lv' := [(3, .int r27), (2, .int r23), (0, .ref h_t), (1, .int v0)]) hx hb dX9_chunk_16 rfl hl (by decide) rfl (fun ls hl => ?_)
    refine lv_aload_n hx hb dX9_chunk_17 rfl (lv_at hl 2 rfl) ?_
    obtain ⟨r31, u32, u33, hc34, hf⟩ := zb3_in hf
    refine zc_i (va_runV (As := []) (rest := []) C (mX9_next l D cI H.size h_t h_t_now h_t_file h_t_fresh h_t_colour h_t_table h_t_last h_t_one t_wide t_high t_size u28 u29 t_newWide t_newHigh t_colours t_now t_file t_fresh t_colour t_table t_last t_one r31 u32 u33 hc34) (qX9_chunk_X9_next_135 hts) ⟨zP_blind, va_recv hK hP (ci := 8) (q0 := 0) rfl rfl, zpre hK hN hP hD [0, 1, 2, 3, 4, 5, 6, 7] rfl rfl⟩ rfl rfl hl.1 rfl (lv_room (Nat.le_of_ble_eq_true rfl)) dX9_chunk_18 ⟨Nat.zero_le _, Nat.zero_le _⟩) hP hD hS hA [0, 1, 2, 3, 4, 5, 6, 7] [] [0, 1, 2, 3, 4, 5, 6, 7] (ws' := zwX9 cI h_t h_t_now h_t_file h_t_fresh h_t_colour h_t_table h_t_last h_t_one t_wide t_high t_size u32 u33 t_newWide t_newHigh t_colours t_now t_file t_fresh t_colour t_table t_last t_one) rfl rfl rfl rfl rfl rfl (fun H locs hP hD hS => ?_)
    refine lv_istore (lv' := [(4, .int r31), (3, .int r27), (2, .int r23), (0, .ref h_t), (1, .int v0)]) hx hb dX9_chunk_21 hl (by decide) rfl (fun ls hl => ?_)
    refine lv_aload_n hx hb dX9_chunk_23 rfl (lv_at hl 3 rfl) ?_
    refine lv_iload_n hx hb dX9_chunk_24 rfl (lv_at hl 2 rfl) ?_
    refine lv_iload_n hx hb dX9_chunk_25 rfl (lv_at hl 1 rfl) ?_
    refine lv_iload hx hb dX9_chunk_26 (lv_at hl 0 rfl) ?_
    refine lv_iload_n hx hb dX9_chunk_28 rfl (lv_at hl 4 rfl) ?_
    refine lv_sipush (v := 255) hx hb dX9_chunk_29 (by decide) ?_
    refine lv_icmp_ne (tgt := 42) hx hb dX9_chunk_32 (by decide) (fun c35 => ?_) (fun c35 => ?_)
    · replace hf := zif_f hf c35
      refine lv_aload_n hx hb dX9_chunk_42 rfl (lv_at hl 3 rfl) ?_
      refine va_get (D := D) (ci := 8) (v := .ref h_t_last) (C := RX9) (T := TX9) (N := 15) hx hb hts iX9_chunk_X9 hown hK hP 0 rfl rfl 13 (by decide) (kX9_chunk_32 hts) (fun _ h9 => h9) rfl dX9_chunk_43 ?_
      refine lv_iconst (v := 3) hx hb dX9_chunk_46 (by decide) ?_
      obtain ⟨hg37, hf⟩ := zrd_in hf
      refine va_iald hx hb hK hP 6 0 rfl rfl hg37 dX9_chunk_47 ?_
      refine lv_topi (fun x36 ex36 => ?_)
      replace hf := hf x36 ex36
      clear ex36
      exact wX9_chunk_48 C hN hK hA hE hf hP hD hS (lv_sub hl [3, 4, 2, 1, 0] rfl)
    · replace hf := zif_t hf c35
      refine lv_aload_n hx hb dX9_chunk_35 rfl (lv_at hl 3 rfl) ?_
      obtain ⟨r38, u39, u40, hc41, hf⟩ := zb3_in hf
      refine zc_i (va_runV (As := []) (rest := [.int r31, .int r27, .int r23, .ref h_t]) C (mX9_next l D cI H.size h_t h_t_now h_t_file h_t_fresh h_t_colour h_t_table h_t_last h_t_one t_wide t_high t_size u32 u33 t_newWide t_newHigh t_colours t_now t_file t_fresh t_colour t_table t_last t_one r38 u39 u40 hc41) (qX9_chunk_X9_next_135 hts) ⟨zP_blind, va_recv hK hP (ci := 8) (q0 := 0) rfl rfl, zpre hK hN hP hD [0, 1, 2, 3, 4, 5, 6, 7] rfl rfl⟩ rfl rfl hl.1 rfl (lv_room (Nat.le_of_ble_eq_true rfl)) dX9_chunk_36 ⟨Nat.zero_le _, Nat.zero_le _⟩) hP hD hS hA [0, 1, 2, 3, 4, 5, 6, 7] [] [0, 1, 2, 3, 4, 5, 6, 7] (ws' := zwX9 cI h_t h_t_now h_t_file h_t_fresh h_t_colour h_t_table h_t_last h_t_one t_wide t_high t_size u39 u40 t_newWide t_newHigh t_colours t_now t_file t_fresh t_colour t_table t_last t_one) rfl rfl rfl rfl rfl rfl (fun H locs hP hD hS => ?_)
      refine lv_goto (tgt := 48) hx hb dX9_chunk_39 (by decide) ?_
      exact wX9_chunk_48 C hN hK hA hE hf hP hD hS (lv_sub hl [3, 4, 2, 1, 0] rfl)
set_option maxHeartbeats 4000000 in
set_option maxRecDepth 100000 in
theorem mX9_chunk (l : Launch) (D : va_G) (cI : ClassId) (sz : Nat) (h_t h_t_now h_t_file h_t_fresh h_t_colour h_t_table h_t_last h_t_one : Nat) (t_wide : Int32) (t_high : Int32) (t_size : Int32) (t_at : Int32) (t_fault : Int32) (t_newWide : Int32) (t_newHigh : Int32) (t_colours : Int32) (t_now : Nat → Int32) (t_file : Nat → Int32) (t_fresh : Nat → Int32) (t_colour : Nat → Int32) (t_table : Nat → Int32) (t_last : Nat → Int32) (t_one : Nat → Int32) (v0 : Int32) (zt_at : Int32) (zt_fault : Int32) (zt_table : Nat → Int32) (zt_last : Nat → Int32) (zt_one : Nat → Int32) (hf : fX9_chunk t_size t_at t_fault t_file t_table t_last t_one v0 = some (zt_at, zt_fault, zt_table, zt_last, zt_one)) : Met l yX9_chunk wsX9_chunk rmX9_chunk (va_Pc [.ref h_t, .int v0] (zP D [(cI, .int)] (zwX9 cI h_t h_t_now h_t_file h_t_fresh h_t_colour h_t_table h_t_last h_t_one t_wide t_high t_size t_at t_fault t_newWide t_newHigh t_colours t_now t_file t_fresh t_colour t_table t_last t_one) sz)) (zQv D (zwX9 cI h_t h_t_now h_t_file h_t_fresh h_t_colour h_t_table h_t_last h_t_one t_wide t_high t_size t_at t_fault t_newWide t_newHigh t_colours t_now t_file t_fresh t_colour t_table t_last t_one) sz (zwX9 cI h_t h_t_now h_t_file h_t_fresh h_t_colour h_t_table h_t_last h_t_one t_wide t_high t_size zt_at zt_fault t_newWide t_newHigh t_colours t_now t_file t_fresh t_colour zt_table zt_last zt_one)) 0 0 (va_A (zwX9 cI h_t h_t_now h_t_file h_t_fresh h_t_colour h_t_table h_t_last h_t_one t_wide t_high t_size t_at t_fault t_newWide t_newHigh t_colours t_now t_file t_fresh t_colour t_table t_last t_one) sz) := by
  refine Met.ofW (cc := cX9_chunk) (maxL := 5) (ret := none) (by decide) rfl ?_
  intro p e s m args below meth c s₁ B hml hv
  obtain ⟨rfl, hsz, hP, hK, hD0, hN⟩ := hv
  subst hsz
  have C : CallFix p m c cX9_chunk 5 s [.ref h_t, .int v0].toArray wsX9_chunk RX9 := ⟨B.exec, B.bytes, hml, findClass_of_methodNamed B.named, atoms_spec (ws := wsX9_chunk) B.pre⟩
  have hl := lv_entry ([.ref h_t, .int v0]) (n := 5) (Nat.le_of_ble_eq_true rfl)
  rw [lg_entry_eq]
  exact wX9_chunk_0 (A := va_A (zwX9 cI h_t h_t_now h_t_file h_t_fresh h_t_colour h_t_table h_t_last h_t_one t_wide t_high t_size t_at t_fault t_newWide t_newHigh t_colours t_now t_file t_fresh t_colour t_table t_last t_one) s.heap.size) C hN hK (fun q h => Or.inr h) (fun H locs pc ls d hP hD hS => zend_v C.1 C.2.1 B.returns B.notSynchronized d hP hD hS) hf hP hD0.self va_S.rf hl
def rmX9_readFirst : Room := { frames := 3, cells := 0, slots := 0, locals := 71 }
theorem kX9_readFirst_32 {args : Array Value} {s : State} (h : ∀ w ∈ wsX9_readFirst, w.before args s = true) : (Cond.fieldLink RX9 32 "FourPictureFilesModel" "last" "[I").before args s = true := h _ (by decide +kernel)
theorem kX9_readFirst_57 {args : Array Value} {s : State} (h : ∀ w ∈ wsX9_readFirst, w.before args s = true) : (Cond.fieldLink RX9 57 "FourPictureFilesModel" "size" "I").before args s = true := h _ (by decide +kernel)
theorem kX9_readFirst_129 {args : Array Value} {s : State} (h : ∀ w ∈ wsX9_readFirst, w.before args s = true) : (Cond.fieldLink RX9 129 "FourPictureFilesModel" "fault" "I").before args s = true := h _ (by decide +kernel)
theorem kX9_readFirst_132 {args : Array Value} {s : State} (h : ∀ w ∈ wsX9_readFirst, w.before args s = true) : (Cond.fieldLink RX9 132 "FourPictureFilesModel" "at" "I").before args s = true := h _ (by decide +kernel)
theorem kX9_readFirst_142 {args : Array Value} {s : State} (h : ∀ w ∈ wsX9_readFirst, w.before args s = true) : (Cond.fieldLink RX9 142 "FourPictureFilesModel" "newWide" "I").before args s = true := h _ (by decide +kernel)
theorem kX9_readFirst_162 {args : Array Value} {s : State} (h : ∀ w ∈ wsX9_readFirst, w.before args s = true) : (Cond.fieldLink RX9 162 "FourPictureFilesModel" "newHigh" "I").before args s = true := h _ (by decide +kernel)
theorem iX9_readFirst_X9 : ∀ w ∈ u_ws RX9 TX9 15, w ∈ wsX9_readFirst := by decide +kernel
theorem qX9_readFirst_X9_broken_139 {args : Array Value} {s : State} (hts : ∀ w ∈ wsX9_readFirst, w.before args s = true) : CallW rmX9_readFirst s args RX9 RX9 139 yX9_broken cX9_broken 2 none wsX9_broken rmX9_broken 0 0 1 := cwV 1 hts gX9_readFirst_X9_broken rfl rfl rfl (by decide +kernel) ⟨Nat.le_of_ble_eq_true rfl, Nat.le_of_ble_eq_true rfl⟩
theorem qX9_readFirst_X9_chunk_165 {args : Array Value} {s : State} (hts : ∀ w ∈ wsX9_readFirst, w.before args s = true) : CallW rmX9_readFirst s args RX9 RX9 165 yX9_chunk cX9_chunk 5 none wsX9_chunk rmX9_chunk 0 0 1 := cwV 1 hts gX9_readFirst_X9_chunk rfl rfl rfl (by decide +kernel) ⟨Nat.le_of_ble_eq_true rfl, Nat.le_of_ble_eq_true rfl⟩
theorem qX9_readFirst_X9_clearTable_78 {args : Array Value} {s : State} (hts : ∀ w ∈ wsX9_readFirst, w.before args s = true) : CallW rmX9_readFirst s args RX9 RX9 78 yX9_clearTable cX9_clearTable 2 none wsX9_clearTable rmX9_clearTable 0 0 0 := cwV 0 hts gX9_readFirst_X9_clearTable rfl rfl rfl (by decide +kernel) ⟨Nat.le_of_ble_eq_true rfl, Nat.le_of_ble_eq_true rfl⟩
theorem qX9_readFirst_X9_must_171 {args : Array Value} {s : State} (hts : ∀ w ∈ wsX9_readFirst, w.before args s = true) : CallW rmX9_readFirst s args RX9 RX9 171 yX9_must cX9_must 3 none wsX9_must rmX9_must 0 0 2 := cwV 2 hts gX9_readFirst_X9_must rfl rfl rfl (by decide +kernel) ⟨Nat.le_of_ble_eq_true rfl, Nat.le_of_ble_eq_true rfl⟩
theorem qX9_readFirst_X9_next_135 {args : Array Value} {s : State} (hts : ∀ w ∈ wsX9_readFirst, w.before args s = true) : CallW rmX9_readFirst s args RX9 RX9 135 yX9_next cX9_next 1 (some .int) wsX9_next rmX9_next 0 0 0 := cwV 0 hts gX9_readFirst_X9_next rfl rfl rfl (by decide +kernel) ⟨Nat.le_of_ble_eq_true rfl, Nat.le_of_ble_eq_true rfl⟩
theorem qX9_readFirst_X9_number_155 {args : Array Value} {s : State} (hts : ∀ w ∈ wsX9_readFirst, w.before args s = true) : CallW rmX9_readFirst s args RX9 RX9 155 yX9_number cX9_number 6 (some .int) wsX9_number rmX9_number 0 0 2 := cwV 2 hts gX9_readFirst_X9_number rfl rfl rfl (by decide +kernel) ⟨Nat.le_of_ble_eq_true rfl, Nat.le_of_ble_eq_true rfl⟩
theorem qX9_readFirst_X9_set_168 {args : Array Value} {s : State} (hts : ∀ w ∈ wsX9_readFirst, w.before args s = true) : CallW rmX9_readFirst s args RX9 RX9 168 yX9_set cX9_set 3 none wsX9_set rmX9_set 0 0 1 := cwV 1 hts gX9_readFirst_X9_set rfl rfl rfl (by decide +kernel) ⟨Nat.le_of_ble_eq_true rfl, Nat.le_of_ble_eq_true rfl⟩
theorem qX9_readFirst_X9_sideOf_159 {args : Array Value} {s : State} (hts : ∀ w ∈ wsX9_readFirst, w.before args s = true) : CallW rmX9_readFirst s args RX9 RX9 159 yX9_sideOf cX9_sideOf 2 (some .int) wsX9_sideOf rmX9_sideOf 0 0 1 := cwV 1 hts gX9_readFirst_X9_sideOf rfl rfl rfl (by decide +kernel) ⟨Nat.le_of_ble_eq_true rfl, Nat.le_of_ble_eq_true rfl⟩
theorem qX9_readFirst_X9_skip_152 {args : Array Value} {s : State} (hts : ∀ w ∈ wsX9_readFirst, w.before args s = true) : CallW rmX9_readFirst s args RX9 RX9 152 yX9_skip cX9_skip 3 none wsX9_skip rmX9_skip 0 0 1 := cwV 1 hts gX9_readFirst_X9_skip rfl rfl rfl (by decide +kernel) ⟨Nat.le_of_ble_eq_true rfl, Nat.le_of_ble_eq_true rfl⟩
theorem qX9_readFirst_X9_tone_145 {args : Array Value} {s : State} (hts : ∀ w ∈ wsX9_readFirst, w.before args s = true) : CallW rmX9_readFirst s args RX9 RX9 145 yX9_tone cX9_tone 5 none wsX9_tone rmX9_tone 0 0 4 := cwV 4 hts gX9_readFirst_X9_tone rfl rfl rfl (by decide +kernel) ⟨Nat.le_of_ble_eq_true rfl, Nat.le_of_ble_eq_true rfl⟩
set_option maxHeartbeats 4000000 in
set_option maxRecDepth 100000 in
theorem wX9_readFirst_303 {p : Program} {l : Launch} {e : Env} {s : State} {m : MethodId} {args : Array Value} {below : List Frame} {meth : Method} {c : Code} {D : va_G} {A : Nat → Prop} {Q : State → Prop} {cI : ClassId} {h_t h_t_now h_t_file h_t_fresh h_t_colour h_t_table h_t_last h_t_one : Nat} {t_wide : Int32} {t_high : Int32} {t_size : Int32} {t_colours : Int32} {t_now : Nat → Int32} {t_file : Nat → Int32} {t_colour : Nat → Int32} {zt_at : Int32} {zt_fault : Int32} {zt_newWide : Int32} {zt_newHigh : Int32} {zt_fresh : Nat → Int32} {zt_table : Nat → Int32} {zt_last : Nat → Int32} {zt_one : Nat → Int32} (C : CallFix p m c cX9_readFirst 6 s args wsX9_readFirst RX9) (hN : zN s) (hK : va_K D vwCl [(cI, .int)] s) (hA : ∀ q, s.heap.size ≤ q → A q) (hE : zEv p l e rmX9_readFirst s m args below meth c cX9_readFirst D A Q (zwX9 cI h_t h_t_now h_t_file h_t_fresh h_t_colour h_t_table h_t_last h_t_one t_wide t_high t_size zt_at zt_fault zt_newWide zt_newHigh t_colours t_now t_file zt_fresh t_colour zt_table zt_last zt_one)) {t_at : Int32} {t_fault : Int32} {t_newWide : Int32} {t_newHigh : Int32} {t_fresh : Nat → Int32} {t_table : Nat → Int32} {t_last : Nat → Int32} {t_one : Nat → Int32} {l1 : Int32} {l2 : Int32} {l3 : Int32} {k1 : Int32} {H : Heap} {locs : List Loc} {ls : Array Slot} : fX9_readFirst_303 t_at t_fault t_newWide t_newHigh t_fresh t_table t_last t_one k1 = some (zt_at, zt_fault, zt_newWide, zt_newHigh, zt_fresh, zt_table, zt_last, zt_one) → va_P D vwCl (zwX9 cI h_t h_t_now h_t_file h_t_fresh h_t_colour h_t_table h_t_last h_t_one t_wide t_high t_size t_at t_fault t_newWide t_newHigh t_colours t_now t_file t_fresh t_colour t_table t_last t_one) H → va_D A (zwX9 cI h_t h_t_now h_t_file h_t_fresh h_t_colour h_t_table h_t_last h_t_one t_wide t_high t_size t_at t_fault t_newWide t_newHigh t_colours t_now t_file t_fresh t_colour t_table t_last t_one) → va_S A s.heap H locs → lv_has ls 6 [(0, .ref h_t), (1, .int l1), (2, .int l2), (3, .int l3)] → W p l e rmX9_readFirst s m args below meth c H locs 0 0 Q (F0 m 303 ls [.int k1, .ref h_t]) := by
  intro hf hP hD hS hl
  obtain ⟨hx, hb, hml, hown, hts⟩ := id C
  unfold fX9_readFirst_303 at hf
  obtain ⟨u1, hc2, hf⟩ := zb1_in hf
  refine zc_v (va_runV (As := [.int k1]) (rest := []) C (mX9_broken l D cI H.size h_t h_t_now h_t_file h_t_fresh h_t_colour h_t_table h_t_last h_t_one t_wide t_high t_size t_at t_fault t_newWide t_newHigh t_colours t_now t_file t_fresh t_colour t_table t_last t_one k1 u1 hc2) (qX9_readFirst_X9_broken_139 hts) ⟨zP_blind, va_recv hK hP (ci := 8) (q0 := 0) rfl rfl, zpre hK hN hP hD [0, 1, 2, 3, 4, 5, 6, 7] rfl rfl⟩ rfl rfl hl.1 rfl (lv_room (Nat.le_of_ble_eq_true rfl)) dX9_readFirst_303 ⟨Nat.zero_le _, Nat.zero_le _⟩) hP hD hS hA [0, 1, 2, 3, 4, 5, 6, 7] [] [0, 1, 2, 3, 4, 5, 6, 7] (ws' := zwX9 cI h_t h_t_now h_t_file h_t_fresh h_t_colour h_t_table h_t_last h_t_one t_wide t_high t_size t_at u1 t_newWide t_newHigh t_colours t_now t_file t_fresh t_colour t_table t_last t_one) rfl rfl rfl rfl rfl rfl (fun H locs hP hD hS => ?_)
  cases hf
  exact hE _ _ _ _ dX9_readFirst_306 hP hD hS
set_option maxHeartbeats 4000000 in
set_option maxRecDepth 100000 in
theorem wX9_readFirst_277 {p : Program} {l : Launch} {e : Env} {s : State} {m : MethodId} {args : Array Value} {below : List Frame} {meth : Method} {c : Code} {D : va_G} {A : Nat → Prop} {Q : State → Prop} {cI : ClassId} {h_t h_t_now h_t_file h_t_fresh h_t_colour h_t_table h_t_last h_t_one : Nat} {t_wide : Int32} {t_high : Int32} {t_size : Int32} {t_colours : Int32} {t_now : Nat → Int32} {t_file : Nat → Int32} {t_colour : Nat → Int32} {zt_at : Int32} {zt_fault : Int32} {zt_newWide : Int32} {zt_newHigh : Int32} {zt_fresh : Nat → Int32} {zt_table : Nat → Int32} {zt_last : Nat → Int32} {zt_one : Nat → Int32} (C : CallFix p m c cX9_readFirst 6 s args wsX9_readFirst RX9) (hN : zN s) (hK : va_K D vwCl [(cI, .int)] s) (hA : ∀ q, s.heap.size ≤ q → A q) (hE : zEv p l e rmX9_readFirst s m args below meth c cX9_readFirst D A Q (zwX9 cI h_t h_t_now h_t_file h_t_fresh h_t_colour h_t_table h_t_last h_t_one t_wide t_high t_size zt_at zt_fault zt_newWide zt_newHigh t_colours t_now t_file zt_fresh t_colour zt_table zt_last zt_one)) {rc255 : Int32 → Int32 → Int32 → Int32 → Int32 → (Nat → Int32) → (Nat → Int32) → (Nat → Int32) → (Nat → Int32) → (Nat → Int32) → Int32 → Option (Int32 × Int32 × Int32 × Int32 × (Nat → Int32) × (Nat → Int32) × (Nat → Int32) × (Nat → Int32))} (hr_255 : ∀ {t_at : Int32} {t_fault : Int32} {t_newWide : Int32} {t_newHigh : Int32} {t_fresh : Nat → Int32} {t_table : Nat → Int32} {t_last : Nat → Int32} {t_one : Nat → Int32} {l1 : Int32} {l2 : Int32} {l3 : Int32} {H : Heap} {locs : List Loc} {ls : Array Slot}, rc255 t_size t_at t_fault t_newWide t_newHigh t_file t_fresh t_table t_last t_one l3 = some (zt_at, zt_fault, zt_newWide, zt_newHigh, zt_fresh, zt_table, zt_last, zt_one) → va_P D vwCl (zwX9 cI h_t h_t_now h_t_file h_t_fresh h_t_colour h_t_table h_t_last h_t_one t_wide t_high t_size t_at t_fault t_newWide t_newHigh t_colours t_now t_file t_fresh t_colour t_table t_last t_one) H → va_D A (zwX9 cI h_t h_t_now h_t_file h_t_fresh h_t_colour h_t_table h_t_last h_t_one t_wide t_high t_size t_at t_fault t_newWide t_newHigh t_colours t_now t_file t_fresh t_colour t_table t_last t_one) → va_S A s.heap H locs → lv_has ls 6 [(0, .ref h_t), (1, .int l1), (2, .int l2), (3, .int l3)] → W p l e rmX9_readFirst s m args below meth c H locs 0 0 Q (F0 m 255 ls [])) {t_at : Int32} {t_fault : Int32} {t_newWide : Int32} {t_newHigh : Int32} {t_fresh : Nat → Int32} {t_table : Nat → Int32} {t_last : Nat → Int32} {t_one : Nat → Int32} {l1 : Int32} {l2 : Int32} {l3 : Int32} {k1 : Int32} {k2 : Int32} {H : Heap} {locs : List Loc} {ls : Array Slot} : fX9_readFirst_277 rc255 t_size t_at t_fault t_newWide t_newHigh t_file t_fresh t_table t_last t_one l3 k1 k2 = some (zt_at, zt_fault, zt_newWide, zt_newHigh, zt_fresh, zt_table, zt_last, zt_one) → va_P D vwCl (zwX9 cI h_t h_t_now h_t_file h_t_fresh h_t_colour h_t_table h_t_last h_t_one t_wide t_high t_size t_at t_fault t_newWide t_newHigh t_colours t_now t_file t_fresh t_colour t_table t_last t_one) H → va_D A (zwX9 cI h_t h_t_now h_t_file h_t_fresh h_t_colour h_t_table h_t_last h_t_one t_wide t_high t_size t_at t_fault t_newWide t_newHigh t_colours t_now t_file t_fresh t_colour t_table t_last t_one) → va_S A s.heap H locs → lv_has ls 6 [(0, .ref h_t), (1, .int l1), (2, .int l2), (3, .int l3)] → W p l e rmX9_readFirst s m args below meth c H locs 0 0 Q (F0 m 277 ls [.int k2, .int k1, .ref h_t]) := by
  intro hf hP hD hS hl
  obtain ⟨hx, hb, hml, hown, hts⟩ := id C
  unfold fX9_readFirst_277 at hf
  obtain ⟨u1, hc2, hf⟩ := zb1_in hf
  refine zc_v (va_runV (As := [.int k1, .int k2]) (rest := []) C (mX9_must l D cI H.size h_t h_t_now h_t_file h_t_fresh h_t_colour h_t_table h_t_last h_t_one t_wide t_high t_size t_at t_fault t_newWide t_newHigh t_colours t_now t_file t_fresh t_colour t_table t_last t_one k1 k2 u1 hc2) (qX9_readFirst_X9_must_171 hts) ⟨zP_blind, va_recv hK hP (ci := 8) (q0 := 0) rfl rfl, zpre hK hN hP hD [0, 1, 2, 3, 4, 5, 6, 7] rfl rfl⟩ rfl rfl hl.1 rfl (lv_room (Nat.le_of_ble_eq_true rfl)) dX9_readFirst_277 ⟨Nat.zero_le _, Nat.zero_le _⟩) hP hD hS hA [0, 1, 2, 3, 4, 5, 6, 7] [] [0, 1, 2, 3, 4, 5, 6, 7] (ws' := zwX9 cI h_t h_t_now h_t_file h_t_fresh h_t_colour h_t_table h_t_last h_t_one t_wide t_high t_size t_at u1 t_newWide t_newHigh t_colours t_now t_file t_fresh t_colour t_table t_last t_one) rfl rfl rfl rfl rfl rfl (fun H locs hP hD hS => ?_)
  obtain ⟨x3, ex3⟩ : ∃ y : Int32, y = l3 + 1 := ⟨_, rfl⟩
  replace hf := zlet_in hf ex3
  refine lv_iinc (v := x3) (lv' := [(3, .int x3), (0, .ref h_t), (1, .int l1), (2, .int l2)]) hx hb dX9_readFirst_280 hl (k := 3) rfl (by rw [ex3]; rfl) (by decide) rfl (fun ls hl => ?_)
  clear ex3
  refine lv_goto (tgt := 255) hx hb dX9_readFirst_283 (by decide) ?_
  exact hr_255 hf hP hD hS (lv_sub hl [1, 2, 3, 0] rfl)
set_option maxHeartbeats 4000000 in
set_option maxRecDepth 100000 in
theorem wX9_readFirst_255 {p : Program} {l : Launch} {e : Env} {s : State} {m : MethodId} {args : Array Value} {below : List Frame} {meth : Method} {c : Code} {D : va_G} {A : Nat → Prop} {Q : State → Prop} {cI : ClassId} {h_t h_t_now h_t_file h_t_fresh h_t_colour h_t_table h_t_last h_t_one : Nat} {t_wide : Int32} {t_high : Int32} {t_size : Int32} {t_colours : Int32} {t_now : Nat → Int32} {t_file : Nat → Int32} {t_colour : Nat → Int32} {zt_at : Int32} {zt_fault : Int32} {zt_newWide : Int32} {zt_newHigh : Int32} {zt_fresh : Nat → Int32} {zt_table : Nat → Int32} {zt_last : Nat → Int32} {zt_one : Nat → Int32} (C : CallFix p m c cX9_readFirst 6 s args wsX9_readFirst RX9) (hN : zN s) (hK : va_K D vwCl [(cI, .int)] s) (hA : ∀ q, s.heap.size ≤ q → A q) (hE : zEv p l e rmX9_readFirst s m args below meth c cX9_readFirst D A Q (zwX9 cI h_t h_t_now h_t_file h_t_fresh h_t_colour h_t_table h_t_last h_t_one t_wide t_high t_size zt_at zt_fault zt_newWide zt_newHigh t_colours t_now t_file zt_fresh t_colour zt_table zt_last zt_one)) (n : Nat) : ∀ {t_at : Int32} {t_fault : Int32} {t_newWide : Int32} {t_newHigh : Int32} {t_fresh : Nat → Int32} {t_table : Nat → Int32} {t_last : Nat → Int32} {t_one : Nat → Int32} {l1 : Int32} {l2 : Int32} {l3 : Int32} {H : Heap} {locs : List Loc} {ls : Array Slot}, fX9_readFirst_255 n t_size t_at t_fault t_newWide t_newHigh t_file t_fresh t_table t_last t_one l3 = some (zt_at, zt_fault, zt_newWide, zt_newHigh, zt_fresh, zt_table, zt_last, zt_one) → va_P D vwCl (zwX9 cI h_t h_t_now h_t_file h_t_fresh h_t_colour h_t_table h_t_last h_t_one t_wide t_high t_size t_at t_fault t_newWide t_newHigh t_colours t_now t_file t_fresh t_colour t_table t_last t_one) H → va_D A (zwX9 cI h_t h_t_now h_t_file h_t_fresh h_t_colour h_t_table h_t_last h_t_one t_wide t_high t_size t_at t_fault t_newWide t_newHigh t_colours t_now t_file t_fresh t_colour t_table t_last t_one) → va_S A s.heap H locs → lv_has ls 6 [(0, .ref h_t), (1, .int l1), (2, .int l2), (3, .int l3)] → W p l e rmX9_readFirst s m args below meth c H locs 0 0 Q (F0 m 255 ls []) := by
  obtain ⟨hx, hb, hml, hown, hts⟩ := id C
  induction n with
  | zero =>
    intro t_at t_fault t_newWide t_newHigh t_fresh t_table t_last t_one l1 l2 l3 H locs ls hf
    cases hf
  | succ n hr_255 =>
    intro t_at t_fault t_newWide t_newHigh t_fresh t_table t_last t_one l1 l2 l3 H locs ls hf hP hD hS hl
    rw [fX9_readFirst_255_s] at hf
    refine lv_iload_n hx hb dX9_readFirst_255 rfl (lv_at hl 3 rfl) ?_
    refine lv_bipush (v := 8) hx hb dX9_readFirst_256 (by decide) ?_
    refine lv_icmp_ge (tgt := 286) hx hb dX9_readFirst_258 (by decide) (fun c1 => ?_) (fun c1 => ?_)
    · replace hf := zif_t hf c1
      refine lv_aload_n hx hb dX9_readFirst_286 rfl (lv_at hl 0 rfl) ?_
      refine lv_aload_n hx hb dX9_readFirst_287 rfl (lv_at hl 0 rfl) ?_
      refine va_get (D := D) (ci := 8) (v := .int t_at) (C := RX9) (T := TX9) (N := 15) hx hb hts iX9_readFirst_X9 hown hK hP 0 rfl rfl 5 (by decide) (kX9_readFirst_132 hts) (fun _ h9 => h9) rfl dX9_readFirst_288 ?_
      refine lv_aload_n hx hb dX9_readFirst_291 rfl (lv_at hl 0 rfl) ?_
      refine va_get (D := D) (ci := 8) (v := .int t_size) (C := RX9) (T := TX9) (N := 15) hx hb hts iX9_readFirst_X9 hown hK hP 0 rfl rfl 3 (by decide) (kX9_readFirst_57 hts) (fun _ h9 => h9) rfl dX9_readFirst_292 ?_
      refine lv_icmp_ge (tgt := 302) hx hb dX9_readFirst_295 (by decide) (fun c2 => ?_) (fun c2 => ?_)
      · replace hf := zif_t hf c2
        refine lv_iconst (v := 0) hx hb dX9_readFirst_302 (by decide) ?_
        exact wX9_readFirst_303 C hN hK hA hE hf hP hD hS (lv_sub hl [0, 1, 2, 3] rfl)
      · replace hf := zif_f hf c2
        refine lv_iconst (v := 1) hx hb dX9_readFirst_298 (by decide) ?_
        refine lv_goto (tgt := 303) hx hb dX9_readFirst_299 (by decide) ?_
        exact wX9_readFirst_303 C hN hK hA hE hf hP hD hS (lv_sub hl [0, 1, 2, 3] rfl)
    · replace hf := zif_f hf c1
      refine lv_aload_n hx hb dX9_readFirst_261 rfl (lv_at hl 0 rfl) ?_
      refine lv_aload_n hx hb dX9_readFirst_262 rfl (lv_at hl 0 rfl) ?_
      obtain ⟨r3, u4, u5, hc6, hf⟩ := zb3_in hf
      refine zc_i (va_runV (As := []) (rest := [.ref h_t]) C (mX9_next l D cI H.size h_t h_t_now h_t_file h_t_fresh h_t_colour h_t_table h_t_last h_t_one t_wide t_high t_size t_at t_fault t_newWide t_newHigh t_colours t_now t_file t_fresh t_colour t_table t_last t_one r3 u4 u5 hc6) (qX9_readFirst_X9_next_135 hts) ⟨zP_blind, va_recv hK hP (ci := 8) (q0 := 0) rfl rfl, zpre hK hN hP hD [0, 1, 2, 3, 4, 5, 6, 7] rfl rfl⟩ rfl rfl hl.1 rfl (lv_room (Nat.le_of_ble_eq_true rfl)) dX9_readFirst_263 ⟨Nat.zero_le _, Nat.zero_le _⟩) hP hD hS hA [0, 1, 2, 3, 4, 5, 6, 7] [] [0, 1, 2, 3, 4, 5, 6, 7] (ws' := zwX9 cI h_t h_t_now h_t_file h_t_fresh h_t_colour h_t_table h_t_last h_t_one t_wide t_high t_size u4 u5 t_newWide t_newHigh t_colours t_now t_file t_fresh t_colour t_table t_last t_one) rfl rfl rfl rfl rfl rfl (fun H locs hP hD hS => ?_)
      refine lv_iload_n hx hb dX9_readFirst_266 rfl (lv_at hl 3 rfl) ?_
      refine lv_bipush (v := 7) hx hb dX9_readFirst_267 (by decide) ?_
      refine lv_icmp_ne (tgt := 276) hx hb dX9_readFirst_269 (by decide) (fun c7 => ?_) (fun c7 => ?_)
      · replace hf := zif_f hf c7
        refine lv_iconst (v := 0) hx hb dX9_readFirst_276 (by decide) ?_
        exact wX9_readFirst_277 C hN hK hA hE hr_255 hf hP hD hS (lv_sub hl [0, 1, 2, 3] rfl)
      · replace hf := zif_t hf c7
        refine lv_iconst (v := 1) hx hb dX9_readFirst_272 (by decide) ?_
        refine lv_goto (tgt := 277) hx hb dX9_readFirst_273 (by decide) ?_
        exact wX9_readFirst_277 C hN hK hA hE hr_255 hf hP hD hS (lv_sub hl [0, 1, 2, 3] rfl)
set_option maxHeartbeats 4000000 in
set_option maxRecDepth 100000 in
theorem wX9_readFirst_253 {p : Program} {l : Launch} {e : Env} {s : State} {m : MethodId} {args : Array Value} {below : List Frame} {meth : Method} {c : Code} {D : va_G} {A : Nat → Prop} {Q : State → Prop} {cI : ClassId} {h_t h_t_now h_t_file h_t_fresh h_t_colour h_t_table h_t_last h_t_one : Nat} {t_wide : Int32} {t_high : Int32} {t_size : Int32} {t_colours : Int32} {t_now : Nat → Int32} {t_file : Nat → Int32} {t_colour : Nat → Int32} {zt_at : Int32} {zt_fault : Int32} {zt_newWide : Int32} {zt_newHigh : Int32} {zt_fresh : Nat → Int32} {zt_table : Nat → Int32} {zt_last : Nat → Int32} {zt_one : Nat → Int32} (C : CallFix p m c cX9_readFirst 6 s args wsX9_readFirst RX9) (hN : zN s) (hK : va_K D vwCl [(cI, .int)] s) (hA : ∀ q, s.heap.size ≤ q → A q) (hE : zEv p l e rmX9_readFirst s m args below meth c cX9_readFirst D A Q (zwX9 cI h_t h_t_now h_t_file h_t_fresh h_t_colour h_t_table h_t_last h_t_one t_wide t_high t_size zt_at zt_fault zt_newWide zt_newHigh t_colours t_now t_file zt_fresh t_colour zt_table zt_last zt_one)) {t_at : Int32} {t_fault : Int32} {t_newWide : Int32} {t_newHigh : Int32} {t_fresh : Nat → Int32} {t_table : Nat → Int32} {t_last : Nat → Int32} {t_one : Nat → Int32} {l1 : Int32} {l2 : Int32} {H : Heap} {locs : List Loc} {ls : Array Slot} : fX9_readFirst_253 t_size t_at t_fault t_newWide t_newHigh t_file t_fresh t_table t_last t_one = some (zt_at, zt_fault, zt_newWide, zt_newHigh, zt_fresh, zt_table, zt_last, zt_one) → va_P D vwCl (zwX9 cI h_t h_t_now h_t_file h_t_fresh h_t_colour h_t_table h_t_last h_t_one t_wide t_high t_size t_at t_fault t_newWide t_newHigh t_colours t_now t_file t_fresh t_colour t_table t_last t_one) H → va_D A (zwX9 cI h_t h_t_now h_t_file h_t_fresh h_t_colour h_t_table h_t_last h_t_one t_wide t_high t_size t_at t_fault t_newWide t_newHigh t_colours t_now t_file t_fresh t_colour t_table t_last t_one) → va_S A s.heap H locs → lv_has ls 6 [(0, .ref h_t), (1, .int l1), (2, .int l2)] → W p l e rmX9_readFirst s m args below meth c H locs 0 0 Q (F0 m 253 ls []) := by
  intro hf hP hD hS hl
  obtain ⟨hx, hb, hml, hown, hts⟩ := id C
  unfold fX9_readFirst_253 at hf
  refine lv_iconst (v := 0) hx hb dX9_readFirst_253 (by decide) ?_
  refine lv_istore_n (lv' := [(3, .int 0), (0, .ref h_t), (1, .int l1), (2, .int l2)]) hx hb dX9_readFirst_254 rfl hl (by decide) rfl (fun ls hl => ?_)
  exact wX9_readFirst_255 C hN hK hA hE 1000 hf hP hD hS (lv_sub hl [1, 2, 3, 0] rfl)
set_option maxHeartbeats 4000000 in
set_option maxRecDepth 100000 in
theorem wX9_readFirst_250 {p : Program} {l : Launch} {e : Env} {s : State} {m : MethodId} {args : Array Value} {below : List Frame} {meth : Method} {c : Code} {D : va_G} {A : Nat → Prop} {Q : State → Prop} {cI : ClassId} {h_t h_t_now h_t_file h_t_fresh h_t_colour h_t_table h_t_last h_t_one : Nat} {t_wide : Int32} {t_high : Int32} {t_size : Int32} {t_colours : Int32} {t_now : Nat → Int32} {t_file : Nat → Int32} {t_colour : Nat → Int32} {zt_at : Int32} {zt_fault : Int32} {zt_newWide : Int32} {zt_newHigh : Int32} {zt_fresh : Nat → Int32} {zt_table : Nat → Int32} {zt_last : Nat → Int32} {zt_one : Nat → Int32} (C : CallFix p m c cX9_readFirst 6 s args wsX9_readFirst RX9) (hN : zN s) (hK : va_K D vwCl [(cI, .int)] s) (hA : ∀ q, s.heap.size ≤ q → A q) (hE : zEv p l e rmX9_readFirst s m args below meth c cX9_readFirst D A Q (zwX9 cI h_t h_t_now h_t_file h_t_fresh h_t_colour h_t_table h_t_last h_t_one t_wide t_high t_size zt_at zt_fault zt_newWide zt_newHigh t_colours t_now t_file zt_fresh t_colour zt_table zt_last zt_one)) {rc80 : Int32 → Int32 → Int32 → Int32 → Int32 → (Nat → Int32) → (Nat → Int32) → (Nat → Int32) → (Nat → Int32) → (Nat → Int32) → Int32 → Option (Int32 × Int32 × Int32 × Int32 × (Nat → Int32) × (Nat → Int32) × (Nat → Int32) × (Nat → Int32))} (hr_80 : ∀ {t_at : Int32} {t_fault : Int32} {t_newWide : Int32} {t_newHigh : Int32} {t_fresh : Nat → Int32} {t_table : Nat → Int32} {t_last : Nat → Int32} {t_one : Nat → Int32} {l1 : Int32} {l2 : Int32} {H : Heap} {locs : List Loc} {ls : Array Slot}, rc80 t_size t_at t_fault t_newWide t_newHigh t_file t_fresh t_table t_last t_one l2 = some (zt_at, zt_fault, zt_newWide, zt_newHigh, zt_fresh, zt_table, zt_last, zt_one) → va_P D vwCl (zwX9 cI h_t h_t_now h_t_file h_t_fresh h_t_colour h_t_table h_t_last h_t_one t_wide t_high t_size t_at t_fault t_newWide t_newHigh t_colours t_now t_file t_fresh t_colour t_table t_last t_one) H → va_D A (zwX9 cI h_t h_t_now h_t_file h_t_fresh h_t_colour h_t_table h_t_last h_t_one t_wide t_high t_size t_at t_fault t_newWide t_newHigh t_colours t_now t_file t_fresh t_colour t_table t_last t_one) → va_S A s.heap H locs → lv_has ls 6 [(0, .ref h_t), (1, .int l1), (2, .int l2)] → W p l e rmX9_readFirst s m args below meth c H locs 0 0 Q (F0 m 80 ls [])) {t_at : Int32} {t_fault : Int32} {t_newWide : Int32} {t_newHigh : Int32} {t_fresh : Nat → Int32} {t_table : Nat → Int32} {t_last : Nat → Int32} {t_one : Nat → Int32} {l1 : Int32} {l2 : Int32} {l3 : Int32} {l4 : Int32} {l5 : Int32} {H : Heap} {locs : List Loc} {ls : Array Slot} : fX9_readFirst_250 rc80 t_size t_at t_fault t_newWide t_newHigh t_file t_fresh t_table t_last t_one l2 = some (zt_at, zt_fault, zt_newWide, zt_newHigh, zt_fresh, zt_table, zt_last, zt_one) → va_P D vwCl (zwX9 cI h_t h_t_now h_t_file h_t_fresh h_t_colour h_t_table h_t_last h_t_one t_wide t_high t_size t_at t_fault t_newWide t_newHigh t_colours t_now t_file t_fresh t_colour t_table t_last t_one) H → va_D A (zwX9 cI h_t h_t_now h_t_file h_t_fresh h_t_colour h_t_table h_t_last h_t_one t_wide t_high t_size t_at t_fault t_newWide t_newHigh t_colours t_now t_file t_fresh t_colour t_table t_last t_one) → va_S A s.heap H locs → lv_has ls 6 [(0, .ref h_t), (1, .int l1), (2, .int l2), (3, .int l3), (4, .int l4), (5, .int l5)] → W p l e rmX9_readFirst s m args below meth c H locs 0 0 Q (F0 m 250 ls []) := by
  intro hf hP hD hS hl
  obtain ⟨hx, hb, hml, hown, hts⟩ := id C
  unfold fX9_readFirst_250 at hf
  refine lv_goto (tgt := 80) hx hb dX9_readFirst_250 (by decide) ?_
  exact hr_80 hf hP hD hS (lv_sub hl [0, 1, 2] rfl)
set_option maxHeartbeats 4000000 in
set_option maxRecDepth 100000 in
theorem wX9_readFirst_222 {p : Program} {l : Launch} {e : Env} {s : State} {m : MethodId} {args : Array Value} {below : List Frame} {meth : Method} {c : Code} {D : va_G} {A : Nat → Prop} {Q : State → Prop} {cI : ClassId} {h_t h_t_now h_t_file h_t_fresh h_t_colour h_t_table h_t_last h_t_one : Nat} {t_wide : Int32} {t_high : Int32} {t_size : Int32} {t_colours : Int32} {t_now : Nat → Int32} {t_file : Nat → Int32} {t_colour : Nat → Int32} {zt_at : Int32} {zt_fault : Int32} {zt_newWide : Int32} {zt_newHigh : Int32} {zt_fresh : Nat → Int32} {zt_table : Nat → Int32} {zt_last : Nat → Int32} {zt_one : Nat → Int32} (C : CallFix p m c cX9_readFirst 6 s args wsX9_readFirst RX9) (hN : zN s) (hK : va_K D vwCl [(cI, .int)] s) (hA : ∀ q, s.heap.size ≤ q → A q) (hE : zEv p l e rmX9_readFirst s m args below meth c cX9_readFirst D A Q (zwX9 cI h_t h_t_now h_t_file h_t_fresh h_t_colour h_t_table h_t_last h_t_one t_wide t_high t_size zt_at zt_fault zt_newWide zt_newHigh t_colours t_now t_file zt_fresh t_colour zt_table zt_last zt_one)) {rc80 : Int32 → Int32 → Int32 → Int32 → Int32 → (Nat → Int32) → (Nat → Int32) → (Nat → Int32) → (Nat → Int32) → (Nat → Int32) → Int32 → Option (Int32 × Int32 × Int32 × Int32 × (Nat → Int32) × (Nat → Int32) × (Nat → Int32) × (Nat → Int32))} (hr_80 : ∀ {t_at : Int32} {t_fault : Int32} {t_newWide : Int32} {t_newHigh : Int32} {t_fresh : Nat → Int32} {t_table : Nat → Int32} {t_last : Nat → Int32} {t_one : Nat → Int32} {l1 : Int32} {l2 : Int32} {H : Heap} {locs : List Loc} {ls : Array Slot}, rc80 t_size t_at t_fault t_newWide t_newHigh t_file t_fresh t_table t_last t_one l2 = some (zt_at, zt_fault, zt_newWide, zt_newHigh, zt_fresh, zt_table, zt_last, zt_one) → va_P D vwCl (zwX9 cI h_t h_t_now h_t_file h_t_fresh h_t_colour h_t_table h_t_last h_t_one t_wide t_high t_size t_at t_fault t_newWide t_newHigh t_colours t_now t_file t_fresh t_colour t_table t_last t_one) H → va_D A (zwX9 cI h_t h_t_now h_t_file h_t_fresh h_t_colour h_t_table h_t_last h_t_one t_wide t_high t_size t_at t_fault t_newWide t_newHigh t_colours t_now t_file t_fresh t_colour t_table t_last t_one) → va_S A s.heap H locs → lv_has ls 6 [(0, .ref h_t), (1, .int l1), (2, .int l2)] → W p l e rmX9_readFirst s m args below meth c H locs 0 0 Q (F0 m 80 ls [])) (n : Nat) : ∀ {t_at : Int32} {t_fault : Int32} {t_newWide : Int32} {t_newHigh : Int32} {t_fresh : Nat → Int32} {t_table : Nat → Int32} {t_last : Nat → Int32} {t_one : Nat → Int32} {l1 : Int32} {l2 : Int32} {l3 : Int32} {l4 : Int32} {l5 : Int32} {H : Heap} {locs : List Loc} {ls : Array Slot}, fX9_readFirst_222 rc80 n t_size t_at t_fault t_newWide t_newHigh t_file t_fresh t_table t_last t_one l2 l4 l5 = some (zt_at, zt_fault, zt_newWide, zt_newHigh, zt_fresh, zt_table, zt_last, zt_one) → va_P D vwCl (zwX9 cI h_t h_t_now h_t_file h_t_fresh h_t_colour h_t_table h_t_last h_t_one t_wide t_high t_size t_at t_fault t_newWide t_newHigh t_colours t_now t_file t_fresh t_colour t_table t_last t_one) H → va_D A (zwX9 cI h_t h_t_now h_t_file h_t_fresh h_t_colour h_t_table h_t_last h_t_one t_wide t_high t_size t_at t_fault t_newWide t_newHigh t_colours t_now t_file t_fresh t_colour t_table t_last t_one) → va_S A s.heap H locs → lv_has ls 6 [(0, .ref h_t), (1, .int l1), (2, .int l2), (3, .int l3), (4, .int l4), (5, .int l5)] → W p l e rmX9_readFirst s m args below meth c H locs 0 0 Q (F0 m 222 ls []) := by
  obtain ⟨hx, hb, hml, hown, hts⟩ := id C
  induction n with
  | zero =>
    intro t_at t_fault t_newWide t_newHigh t_fresh t_table t_last t_one l1 l2 l3 l4 l5 H locs ls hf
    cases hf
  | succ n hr_222 =>
    intro t_at t_fault t_newWide t_newHigh t_fresh t_table t_last t_one l1 l2 l3 l4 l5 H locs ls hf hP hD hS hl
    rw [fX9_readFirst_222_s] at hf
    refine lv_iload hx hb dX9_readFirst_222 (lv_at hl 5 rfl) ?_
    refine lv_iload hx hb dX9_readFirst_224 (lv_at hl 4 rfl) ?_
    refine lv_icmp_ge (tgt := 250) hx hb dX9_readFirst_226 (by decide) (fun c1 => ?_) (fun c1 => ?_)
    · replace hf := zif_t hf c1
      exact wX9_readFirst_250 C hN hK hA hE hr_80 hf hP hD hS (lv_sub hl [0, 1, 2, 3, 4, 5] rfl)
    · replace hf := zif_f hf c1
      refine lv_aload_n hx hb dX9_readFirst_229 rfl (lv_at hl 0 rfl) ?_
      refine va_get (D := D) (ci := 8) (v := .int t_fault) (C := RX9) (T := TX9) (N := 15) hx hb hts iX9_readFirst_X9 hown hK hP 0 rfl rfl 6 (by decide) (kX9_readFirst_129 hts) (fun _ h9 => h9) rfl dX9_readFirst_230 ?_
      refine lv_if_ne (tgt := 250) hx hb dX9_readFirst_233 (by decide) (fun c2 => ?_) (fun c2 => ?_)
      · replace hf := zif_f hf c2
        exact wX9_readFirst_250 C hN hK hA hE hr_80 hf hP hD hS (lv_sub hl [0, 1, 2, 3, 4, 5] rfl)
      · replace hf := zif_t hf c2
        refine lv_aload_n hx hb dX9_readFirst_236 rfl (lv_at hl 0 rfl) ?_
        refine lv_iload_n hx hb dX9_readFirst_237 rfl (lv_at hl 2 rfl) ?_
        obtain ⟨u3, hc4, hf⟩ := zb1_in hf
        refine zc_v (va_runV (As := [.int l2]) (rest := []) C (mX9_set l D cI H.size h_t h_t_now h_t_file h_t_fresh h_t_colour h_t_table h_t_last h_t_one t_wide t_high t_size t_at t_fault t_newWide t_newHigh t_colours t_now t_file t_fresh t_colour t_table t_last t_one l2 u3 hc4) (qX9_readFirst_X9_set_168 hts) ⟨zP_blind, va_recv hK hP (ci := 8) (q0 := 0) rfl rfl, zpre hK hN hP hD [0, 1, 2, 3, 4, 5, 6, 7] rfl rfl⟩ rfl rfl hl.1 rfl (lv_room (Nat.le_of_ble_eq_true rfl)) dX9_readFirst_238 ⟨Nat.zero_le _, Nat.zero_le _⟩) hP hD hS hA [0, 1, 2, 3, 4, 5, 6, 7] [] [0, 1, 2, 3, 4, 5, 6, 7] (ws' := zwX9 cI h_t h_t_now h_t_file h_t_fresh h_t_colour h_t_table h_t_last h_t_one t_wide t_high t_size t_at t_fault t_newWide t_newHigh t_colours t_now t_file u3 t_colour t_table t_last t_one) rfl rfl rfl rfl rfl rfl (fun H locs hP hD hS => ?_)
        obtain ⟨x5, ex5⟩ : ∃ y : Int32, y = l2 + 1 := ⟨_, rfl⟩
        replace hf := zlet_in hf ex5
        refine lv_iinc (v := x5) (lv' := [(2, .int x5), (0, .ref h_t), (1, .int l1), (3, .int l3), (4, .int l4), (5, .int l5)]) hx hb dX9_readFirst_241 hl (k := 2) rfl (by rw [ex5]; rfl) (by decide) rfl (fun ls hl => ?_)
        clear ex5
        obtain ⟨x6, ex6⟩ : ∃ y : Int32, y = l5 + 1 := ⟨_, rfl⟩
        replace hf := zlet_in hf ex6
        refine lv_iinc (v := x6) (lv' := [(5, .int x6), (2, .int x5), (0, .ref h_t), (1, .int l1), (3, .int l3), (4, .int l4)]) hx hb dX9_readFirst_244 hl (k := 5) rfl (by rw [ex6]; rfl) (by decide) rfl (fun ls hl => ?_)
        clear ex6
        refine lv_goto (tgt := 222) hx hb dX9_readFirst_247 (by decide) ?_
        exact hr_222 hf hP hD hS (lv_sub hl [2, 3, 1, 4, 5, 0] rfl)
set_option maxHeartbeats 4000000 in
set_option maxRecDepth 100000 in
theorem wX9_readFirst_219 {p : Program} {l : Launch} {e : Env} {s : State} {m : MethodId} {args : Array Value} {below : List Frame} {meth : Method} {c : Code} {D : va_G} {A : Nat → Prop} {Q : State → Prop} {cI : ClassId} {h_t h_t_now h_t_file h_t_fresh h_t_colour h_t_table h_t_last h_t_one : Nat} {t_wide : Int32} {t_high : Int32} {t_size : Int32} {t_colours : Int32} {t_now : Nat → Int32} {t_file : Nat → Int32} {t_colour : Nat → Int32} {zt_at : Int32} {zt_fault : Int32} {zt_newWide : Int32} {zt_newHigh : Int32} {zt_fresh : Nat → Int32} {zt_table : Nat → Int32} {zt_last : Nat → Int32} {zt_one : Nat → Int32} (C : CallFix p m c cX9_readFirst 6 s args wsX9_readFirst RX9) (hN : zN s) (hK : va_K D vwCl [(cI, .int)] s) (hA : ∀ q, s.heap.size ≤ q → A q) (hE : zEv p l e rmX9_readFirst s m args below meth c cX9_readFirst D A Q (zwX9 cI h_t h_t_now h_t_file h_t_fresh h_t_colour h_t_table h_t_last h_t_one t_wide t_high t_size zt_at zt_fault zt_newWide zt_newHigh t_colours t_now t_file zt_fresh t_colour zt_table zt_last zt_one)) {rc80 : Int32 → Int32 → Int32 → Int32 → Int32 → (Nat → Int32) → (Nat → Int32) → (Nat → Int32) → (Nat → Int32) → (Nat → Int32) → Int32 → Option (Int32 × Int32 × Int32 × Int32 × (Nat → Int32) × (Nat → Int32) × (Nat → Int32) × (Nat → Int32))} (hr_80 : ∀ {t_at : Int32} {t_fault : Int32} {t_newWide : Int32} {t_newHigh : Int32} {t_fresh : Nat → Int32} {t_table : Nat → Int32} {t_last : Nat → Int32} {t_one : Nat → Int32} {l1 : Int32} {l2 : Int32} {H : Heap} {locs : List Loc} {ls : Array Slot}, rc80 t_size t_at t_fault t_newWide t_newHigh t_file t_fresh t_table t_last t_one l2 = some (zt_at, zt_fault, zt_newWide, zt_newHigh, zt_fresh, zt_table, zt_last, zt_one) → va_P D vwCl (zwX9 cI h_t h_t_now h_t_file h_t_fresh h_t_colour h_t_table h_t_last h_t_one t_wide t_high t_size t_at t_fault t_newWide t_newHigh t_colours t_now t_file t_fresh t_colour t_table t_last t_one) H → va_D A (zwX9 cI h_t h_t_now h_t_file h_t_fresh h_t_colour h_t_table h_t_last h_t_one t_wide t_high t_size t_at t_fault t_newWide t_newHigh t_colours t_now t_file t_fresh t_colour t_table t_last t_one) → va_S A s.heap H locs → lv_has ls 6 [(0, .ref h_t), (1, .int l1), (2, .int l2)] → W p l e rmX9_readFirst s m args below meth c H locs 0 0 Q (F0 m 80 ls [])) {t_at : Int32} {t_fault : Int32} {t_newWide : Int32} {t_newHigh : Int32} {t_fresh : Nat → Int32} {t_table : Nat → Int32} {t_last : Nat → Int32} {t_one : Nat → Int32} {l1 : Int32} {l2 : Int32} {l3 : Int32} {l4 : Int32} {H : Heap} {locs : List Loc} {ls : Array Slot} : fX9_readFirst_219 rc80 t_size t_at t_fault t_newWide t_newHigh t_file t_fresh t_table t_last t_one l2 l4 = some (zt_at, zt_fault, zt_newWide, zt_newHigh, zt_fresh, zt_table, zt_last, zt_one) → va_P D vwCl (zwX9 cI h_t h_t_now h_t_file h_t_fresh h_t_colour h_t_table h_t_last h_t_one t_wide t_high t_size t_at t_fault t_newWide t_newHigh t_colours t_now t_file t_fresh t_colour t_table t_last t_one) H → va_D A (zwX9 cI h_t h_t_now h_t_file h_t_fresh h_t_colour h_t_table h_t_last h_t_one t_wide t_high t_size t_at t_fault t_newWide t_newHigh t_colours t_now t_file t_fresh t_colour t_table t_last t_one) → va_S A s.heap H locs → lv_has ls 6 [(0, .ref h_t), (1, .int l1), (2, .int l2), (3, .int l3), (4, .int l4)] → W p l e rmX9_readFirst s m args below meth c H locs 0 0 Q (F0 m 219 ls []) := by
  intro hf hP hD hS hl
  obtain ⟨hx, hb, hml, hown, hts⟩ := id C
  unfold fX9_readFirst_219 at hf
  refine lv_iconst (v := 0) hx hb dX9_readFirst_219 (by decide) ?_
  refine lv_istore (lv' := [(5, .int 0), (0, .ref h_t), (1, .int l1), (2, .int l2), (3, .int l3), (4, .int l4)]) hx hb dX9_readFirst_220 hl (by decide) rfl (fun ls hl => ?_)
  exact wX9_readFirst_222 C hN hK hA hE hr_80 1000 hf hP hD hS (lv_sub hl [1, 2, 3, 4, 5, 0] rfl)
set_option maxHeartbeats 4000000 in
set_option maxRecDepth 100000 in
theorem wX9_readFirst_207 {p : Program} {l : Launch} {e : Env} {s : State} {m : MethodId} {args : Array Value} {below : List Frame} {meth : Method} {c : Code} {D : va_G} {A : Nat → Prop} {Q : State → Prop} {cI : ClassId} {h_t h_t_now h_t_file h_t_fresh h_t_colour h_t_table h_t_last h_t_one : Nat} {t_wide : Int32} {t_high : Int32} {t_size : Int32} {t_colours : Int32} {t_now : Nat → Int32} {t_file : Nat → Int32} {t_colour : Nat → Int32} {zt_at : Int32} {zt_fault : Int32} {zt_newWide : Int32} {zt_newHigh : Int32} {zt_fresh : Nat → Int32} {zt_table : Nat → Int32} {zt_last : Nat → Int32} {zt_one : Nat → Int32} (C : CallFix p m c cX9_readFirst 6 s args wsX9_readFirst RX9) (hN : zN s) (hK : va_K D vwCl [(cI, .int)] s) (hA : ∀ q, s.heap.size ≤ q → A q) (hE : zEv p l e rmX9_readFirst s m args below meth c cX9_readFirst D A Q (zwX9 cI h_t h_t_now h_t_file h_t_fresh h_t_colour h_t_table h_t_last h_t_one t_wide t_high t_size zt_at zt_fault zt_newWide zt_newHigh t_colours t_now t_file zt_fresh t_colour zt_table zt_last zt_one)) {rc80 : Int32 → Int32 → Int32 → Int32 → Int32 → (Nat → Int32) → (Nat → Int32) → (Nat → Int32) → (Nat → Int32) → (Nat → Int32) → Int32 → Option (Int32 × Int32 × Int32 × Int32 × (Nat → Int32) × (Nat → Int32) × (Nat → Int32) × (Nat → Int32))} (hr_80 : ∀ {t_at : Int32} {t_fault : Int32} {t_newWide : Int32} {t_newHigh : Int32} {t_fresh : Nat → Int32} {t_table : Nat → Int32} {t_last : Nat → Int32} {t_one : Nat → Int32} {l1 : Int32} {l2 : Int32} {H : Heap} {locs : List Loc} {ls : Array Slot}, rc80 t_size t_at t_fault t_newWide t_newHigh t_file t_fresh t_table t_last t_one l2 = some (zt_at, zt_fault, zt_newWide, zt_newHigh, zt_fresh, zt_table, zt_last, zt_one) → va_P D vwCl (zwX9 cI h_t h_t_now h_t_file h_t_fresh h_t_colour h_t_table h_t_last h_t_one t_wide t_high t_size t_at t_fault t_newWide t_newHigh t_colours t_now t_file t_fresh t_colour t_table t_last t_one) H → va_D A (zwX9 cI h_t h_t_now h_t_file h_t_fresh h_t_colour h_t_table h_t_last h_t_one t_wide t_high t_size t_at t_fault t_newWide t_newHigh t_colours t_now t_file t_fresh t_colour t_table t_last t_one) → va_S A s.heap H locs → lv_has ls 6 [(0, .ref h_t), (1, .int l1), (2, .int l2)] → W p l e rmX9_readFirst s m args below meth c H locs 0 0 Q (F0 m 80 ls [])) {t_at : Int32} {t_fault : Int32} {t_newWide : Int32} {t_newHigh : Int32} {t_fresh : Nat → Int32} {t_table : Nat → Int32} {t_last : Nat → Int32} {t_one : Nat → Int32} {l1 : Int32} {l2 : Int32} {l3 : Int32} {l4 : Int32} {H : Heap} {locs : List Loc} {ls : Array Slot} : fX9_readFirst_207 rc80 t_size t_at t_fault t_newWide t_newHigh t_file t_fresh t_table t_last t_one l2 l3 l4 = some (zt_at, zt_fault, zt_newWide, zt_newHigh, zt_fresh, zt_table, zt_last, zt_one) → va_P D vwCl (zwX9 cI h_t h_t_now h_t_file h_t_fresh h_t_colour h_t_table h_t_last h_t_one t_wide t_high t_size t_at t_fault t_newWide t_newHigh t_colours t_now t_file t_fresh t_colour t_table t_last t_one) H → va_D A (zwX9 cI h_t h_t_now h_t_file h_t_fresh h_t_colour h_t_table h_t_last h_t_one t_wide t_high t_size t_at t_fault t_newWide t_newHigh t_colours t_now t_file t_fresh t_colour t_table t_last t_one) → va_S A s.heap H locs → lv_has ls 6 [(0, .ref h_t), (1, .int l1), (2, .int l2), (3, .int l3), (4, .int l4)] → W p l e rmX9_readFirst s m args below meth c H locs 0 0 Q (F0 m 207 ls []) := by
  intro hf hP hD hS hl
  obtain ⟨hx, hb, hml, hown, hts⟩ := id C
  unfold fX9_readFirst_207 at hf
  refine lv_aload_n hx hb dX9_readFirst_207 rfl (lv_at hl 0 rfl) ?_
  refine va_get (D := D) (ci := 8) (v := .int t_fault) (C := RX9) (T := TX9) (N := 15) hx hb hts iX9_readFirst_X9 hown hK hP 0 rfl rfl 6 (by decide) (kX9_readFirst_129 hts) (fun _ h9 => h9) rfl dX9_readFirst_208 ?_
  refine lv_if_ne (tgt := 219) hx hb dX9_readFirst_211 (by decide) (fun c1 => ?_) (fun c1 => ?_)
  · replace hf := zif_f hf c1
    exact wX9_readFirst_219 C hN hK hA hE hr_80 hf hP hD hS (lv_sub hl [0, 1, 2, 3, 4] rfl)
  · replace hf := zif_t hf c1
    refine lv_aload_n hx hb dX9_readFirst_214 rfl (lv_at hl 0 rfl) ?_
    refine lv_iload_n hx hb dX9_readFirst_215 rfl (lv_at hl 3 rfl) ?_
    obtain ⟨u2, u3, u4, u5, u6, hc7, hf⟩ := zb5_in hf
    refine zc_v (va_runV (As := [.int l3]) (rest := []) C (mX9_chunk l D cI H.size h_t h_t_now h_t_file h_t_fresh h_t_colour h_t_table h_t_last h_t_one t_wide t_high t_size t_at t_fault t_newWide t_newHigh t_colours t_now t_file t_fresh t_colour t_table t_last t_one l3 u2 u3 u4 u5 u6 hc7) (qX9_readFirst_X9_chunk_165 hts) ⟨zP_blind, va_recv hK hP (ci := 8) (q0 := 0) rfl rfl, zpre hK hN hP hD [0, 1, 2, 3, 4, 5, 6, 7] rfl rfl⟩ rfl rfl hl.1 rfl (lv_room (Nat.le_of_ble_eq_true rfl)) dX9_readFirst_216 ⟨Nat.zero_le _, Nat.zero_le _⟩) hP hD hS hA [0, 1, 2, 3, 4, 5, 6, 7] [] [0, 1, 2, 3, 4, 5, 6, 7] (ws' := zwX9 cI h_t h_t_now h_t_file h_t_fresh h_t_colour h_t_table h_t_last h_t_one t_wide t_high t_size u2 u3 t_newWide t_newHigh t_colours t_now t_file t_fresh t_colour u4 u5 u6) rfl rfl rfl rfl rfl rfl (fun H locs hP hD hS => ?_)
    exact wX9_readFirst_219 C hN hK hA hE hr_80 hf hP hD hS (lv_sub hl [0, 1, 2, 3, 4] rfl)
set_option maxHeartbeats 4000000 in
set_option maxRecDepth 100000 in
theorem wX9_readFirst_152 {p : Program} {l : Launch} {e : Env} {s : State} {m : MethodId} {args : Array Value} {below : List Frame} {meth : Method} {c : Code} {D : va_G} {A : Nat → Prop} {Q : State → Prop} {cI : ClassId} {h_t h_t_now h_t_file h_t_fresh h_t_colour h_t_table h_t_last h_t_one : Nat} {t_wide : Int32} {t_high : Int32} {t_size : Int32} {t_colours : Int32} {t_now : Nat → Int32} {t_file : Nat → Int32} {t_colour : Nat → Int32} {zt_at : Int32} {zt_fault : Int32} {zt_newWide : Int32} {zt_newHigh : Int32} {zt_fresh : Nat → Int32} {zt_table : Nat → Int32} {zt_last : Nat → Int32} {zt_one : Nat → Int32} (C : CallFix p m c cX9_readFirst 6 s args wsX9_readFirst RX9) (hN : zN s) (hK : va_K D vwCl [(cI, .int)] s) (hA : ∀ q, s.heap.size ≤ q → A q) (hE : zEv p l e rmX9_readFirst s m args below meth c cX9_readFirst D A Q (zwX9 cI h_t h_t_now h_t_file h_t_fresh h_t_colour h_t_table h_t_last h_t_one t_wide t_high t_size zt_at zt_fault zt_newWide zt_newHigh t_colours t_now t_file zt_fresh t_colour zt_table zt_last zt_one)) {rc80 : Int32 → Int32 → Int32 → Int32 → Int32 → (Nat → Int32) → (Nat → Int32) → (Nat → Int32) → (Nat → Int32) → (Nat → Int32) → Int32 → Option (Int32 × Int32 × Int32 × Int32 × (Nat → Int32) × (Nat → Int32) × (Nat → Int32) × (Nat → Int32))} (hr_80 : ∀ {t_at : Int32} {t_fault : Int32} {t_newWide : Int32} {t_newHigh : Int32} {t_fresh : Nat → Int32} {t_table : Nat → Int32} {t_last : Nat → Int32} {t_one : Nat → Int32} {l1 : Int32} {l2 : Int32} {H : Heap} {locs : List Loc} {ls : Array Slot}, rc80 t_size t_at t_fault t_newWide t_newHigh t_file t_fresh t_table t_last t_one l2 = some (zt_at, zt_fault, zt_newWide, zt_newHigh, zt_fresh, zt_table, zt_last, zt_one) → va_P D vwCl (zwX9 cI h_t h_t_now h_t_file h_t_fresh h_t_colour h_t_table h_t_last h_t_one t_wide t_high t_size t_at t_fault t_newWide t_newHigh t_colours t_now t_file t_fresh t_colour t_table t_last t_one) H → va_D A (zwX9 cI h_t h_t_now h_t_file h_t_fresh h_t_colour h_t_table h_t_last h_t_one t_wide t_high t_size t_at t_fault t_newWide t_newHigh t_colours t_now t_file t_fresh t_colour t_table t_last t_one) → va_S A s.heap H locs → lv_has ls 6 [(0, .ref h_t), (1, .int l1), (2, .int l2)] → W p l e rmX9_readFirst s m args below meth c H locs 0 0 Q (F0 m 80 ls [])) {t_at : Int32} {t_fault : Int32} {t_newWide : Int32} {t_newHigh : Int32} {t_fresh : Nat → Int32} {t_table : Nat → Int32} {t_last : Nat → Int32} {t_one : Nat → Int32} {l1 : Int32} {l2 : Int32} {l3 : Int32} {l4 : Int32} {k1 : Int32} {H : Heap} {locs : List Loc} {ls : Array Slot} : fX9_readFirst_152 rc80 t_size t_at t_fault t_newWide t_newHigh t_file t_fresh t_table t_last t_one l2 l3 l4 k1 = some (zt_at, zt_fault, zt_newWide, zt_newHigh, zt_fresh, zt_table, zt_last, zt_one) → va_P D vwCl (zwX9 cI h_t h_t_now h_t_file h_t_fresh h_t_colour h_t_table h_t_last h_t_one t_wide t_high t_size t_at t_fault t_newWide t_newHigh t_colours t_now t_file t_fresh t_colour t_table t_last t_one) H → va_D A (zwX9 cI h_t h_t_now h_t_file h_t_fresh h_t_colour h_t_table h_t_last h_t_one t_wide t_high t_size t_at t_fault t_newWide t_newHigh t_colours t_now t_file t_fresh t_colour t_table t_last t_one) → va_S A s.heap H locs → lv_has ls 6 [(0, .ref h_t), (1, .int l1), (2, .int l2), (3, .int l3), (4, .int l4)] → W p l e rmX9_readFirst s m args below meth c H locs 0 0 Q (F0 m 152 ls [.int k1, .ref h_t]) := by
  intro hf hP hD hS hl
  obtain ⟨hx, hb, hml, hown, hts⟩ := id C
  unfold fX9_readFirst_152 at hf
  obtain ⟨u1, hc2, hf⟩ := zb1_in hf
  refine zc_v (va_runV (As := [.int k1]) (rest := []) C (mX9_broken l D cI H.size h_t h_t_now h_t_file h_t_fresh h_t_colour h_t_table h_t_last h_t_one t_wide t_high t_size t_at t_fault t_newWide t_newHigh t_colours t_now t_file t_fresh t_colour t_table t_last t_one k1 u1 hc2) (qX9_readFirst_X9_broken_139 hts) ⟨zP_blind, va_recv hK hP (ci := 8) (q0 := 0) rfl rfl, zpre hK hN hP hD [0, 1, 2, 3, 4, 5, 6, 7] rfl rfl⟩ rfl rfl hl.1 rfl (lv_room (Nat.le_of_ble_eq_true rfl)) dX9_readFirst_152 ⟨Nat.zero_le _, Nat.zero_le _⟩) hP hD hS hA [0, 1, 2, 3, 4, 5, 6, 7] [] [0, 1, 2, 3, 4, 5, 6, 7] (ws' := zwX9 cI h_t h_t_now h_t_file h_t_fresh h_t_colour h_t_table h_t_last h_t_one t_wide t_high t_size t_at u1 t_newWide t_newHigh t_colours t_now t_file t_fresh t_colour t_table t_last t_one) rfl rfl rfl rfl rfl rfl (fun H locs hP hD hS => ?_)
  refine lv_aload_n hx hb dX9_readFirst_155 rfl (lv_at hl 0 rfl) ?_
  refine va_get (D := D) (ci := 8) (v := .int u1) (C := RX9) (T := TX9) (N := 15) hx hb hts iX9_readFirst_X9 hown hK hP 0 rfl rfl 6 (by decide) (kX9_readFirst_129 hts) (fun _ h9 => h9) rfl dX9_readFirst_156 ?_
  refine lv_if_ne (tgt := 207) hx hb dX9_readFirst_159 (by decide) (fun c3 => ?_) (fun c3 => ?_)
  · replace hf := zif_f hf c3
    exact wX9_readFirst_207 C hN hK hA hE hr_80 hf hP hD hS (lv_sub hl [0, 1, 2, 3, 4] rfl)
  · replace hf := zif_t hf c3
    refine lv_iload_n hx hb dX9_readFirst_162 rfl (lv_at hl 3 rfl) ?_
    refine lv_sipush (v := 192) hx hb dX9_readFirst_163 (by decide) ?_
    refine lv_icmp_lt (tgt := 207) hx hb dX9_readFirst_166 (by decide) (fun c4 => ?_) (fun c4 => ?_)
    · replace hf := zif_t hf c4
      exact wX9_readFirst_207 C hN hK hA hE hr_80 hf hP hD hS (lv_sub hl [0, 1, 2, 3, 4] rfl)
    · replace hf := zif_f hf c4
      refine lv_iload_n hx hb dX9_readFirst_169 rfl (lv_at hl 3 rfl) ?_
      refine lv_sipush (v := 254) hx hb dX9_readFirst_170 (by decide) ?_
      refine lv_icmp_ge (tgt := 207) hx hb dX9_readFirst_173 (by decide) (fun c5 => ?_) (fun c5 => ?_)
      · replace hf := zif_t hf c5
        exact wX9_readFirst_207 C hN hK hA hE hr_80 hf hP hD hS (lv_sub hl [0, 1, 2, 3, 4] rfl)
      · replace hf := zif_f hf c5
        refine lv_aload_n hx hb dX9_readFirst_176 rfl (lv_at hl 0 rfl) ?_
        refine lv_aload_n hx hb dX9_readFirst_177 rfl (lv_at hl 0 rfl) ?_
        refine va_get (D := D) (ci := 8) (v := .ref h_t_last) (C := RX9) (T := TX9) (N := 15) hx hb hts iX9_readFirst_X9 hown hK hP 0 rfl rfl 13 (by decide) (kX9_readFirst_32 hts) (fun _ h9 => h9) rfl dX9_readFirst_178 ?_
        refine lv_iconst (v := 0) hx hb dX9_readFirst_181 (by decide) ?_
        obtain ⟨hg7, hf⟩ := zrd_in hf
        refine va_iald hx hb hK hP 6 0 rfl rfl hg7 dX9_readFirst_182 ?_
        refine lv_topi (fun x6 ex6 => ?_)
        replace hf := hf x6 ex6
        clear ex6
        refine lv_aload_n hx hb dX9_readFirst_183 rfl (lv_at hl 0 rfl) ?_
        refine va_get (D := D) (ci := 8) (v := .ref h_t_last) (C := RX9) (T := TX9) (N := 15) hx hb hts iX9_readFirst_X9 hown hK hP 0 rfl rfl 13 (by decide) (kX9_readFirst_32 hts) (fun _ h9 => h9) rfl dX9_readFirst_184 ?_
        refine lv_iconst (v := 1) hx hb dX9_readFirst_187 (by decide) ?_
        obtain ⟨hg9, hf⟩ := zrd_in hf
        refine va_iald hx hb hK hP 6 0 rfl rfl hg9 dX9_readFirst_188 ?_
        refine lv_topi (fun x8 ex8 => ?_)
        replace hf := hf x8 ex8
        clear ex8
        refine lv_aload_n hx hb dX9_readFirst_189 rfl (lv_at hl 0 rfl) ?_
        refine va_get (D := D) (ci := 8) (v := .ref h_t_last) (C := RX9) (T := TX9) (N := 15) hx hb hts iX9_readFirst_X9 hown hK hP 0 rfl rfl 13 (by decide) (kX9_readFirst_32 hts) (fun _ h9 => h9) rfl dX9_readFirst_190 ?_
        refine lv_iconst (v := 2) hx hb dX9_readFirst_193 (by decide) ?_
        obtain ⟨hg11, hf⟩ := zrd_in hf
        refine va_iald hx hb hK hP 6 0 rfl rfl hg11 dX9_readFirst_194 ?_
        refine lv_topi (fun x10 ex10 => ?_)
        replace hf := hf x10 ex10
        clear ex10
        refine lv_aload_n hx hb dX9_readFirst_195 rfl (lv_at hl 0 rfl) ?_
        refine va_get (D := D) (ci := 8) (v := .ref h_t_last) (C := RX9) (T := TX9) (N := 15) hx hb hts iX9_readFirst_X9 hown hK hP 0 rfl rfl 13 (by decide) (kX9_readFirst_32 hts) (fun _ h9 => h9) rfl dX9_readFirst_196 ?_
        refine lv_iconst (v := 3) hx hb dX9_readFirst_199 (by decide) ?_
        obtain ⟨hg13, hf⟩ := zrd_in hf
        refine va_iald hx hb hK hP 6 0 rfl rfl hg13 dX9_readFirst_200 ?_
        refine lv_topi (fun x12 ex12 => ?_)
        replace hf := hf x12 ex12
        clear ex12
        obtain ⟨u14, hc15, hf⟩ := zb1_in hf
        refine zc_v (va_runV (As := [.int x6, .int x8, .int x10, .int x12]) (rest := []) C (mX9_tone l D cI H.size h_t h_t_now h_t_file h_t_fresh h_t_colour h_t_table h_t_last h_t_one t_wide t_high t_size t_at u1 t_newWide t_newHigh t_colours t_now t_file t_fresh t_colour t_table t_last t_one x6 x8 x10 x12 u14 hc15) (qX9_readFirst_X9_tone_145 hts) ⟨zP_blind, va_recv hK hP (ci := 8) (q0 := 0) rfl rfl, zpre hK hN hP hD [0, 1, 2, 3, 4, 5, 6, 7] rfl rfl⟩ rfl rfl hl.1 rfl (lv_room (Nat.le_of_ble_eq_true rfl)) dX9_readFirst_201 ⟨Nat.zero_le _, Nat.zero_le _⟩) hP hD hS hA [0, 1, 2, 3, 4, 5, 6, 7] [] [0, 1, 2, 3, 4, 5, 6, 7] (ws' := zwX9 cI h_t h_t_now h_t_file h_t_fresh h_t_colour h_t_table h_t_last h_t_one t_wide t_high t_size t_at u1 t_newWide t_newHigh t_colours t_now t_file t_fresh t_colour t_table t_last u14) rfl rfl rfl rfl rfl rfl (fun H locs hP hD hS => ?_)
        refine lv_goto (tgt := 219) hx hb dX9_readFirst_204 (by decide) ?_
        exact wX9_readFirst_219 C hN hK hA hE hr_80 hf hP hD hS (lv_sub hl [0, 1, 2, 3, 4] rfl)
set_option maxHeartbeats 4000000 in
set_option maxRecDepth 100000 in
theorem wX9_readFirst_128 {p : Program} {l : Launch} {e : Env} {s : State} {m : MethodId} {args : Array Value} {below : List Frame} {meth : Method} {c : Code} {D : va_G} {A : Nat → Prop} {Q : State → Prop} {cI : ClassId} {h_t h_t_now h_t_file h_t_fresh h_t_colour h_t_table h_t_last h_t_one : Nat} {t_wide : Int32} {t_high : Int32} {t_size : Int32} {t_colours : Int32} {t_now : Nat → Int32} {t_file : Nat → Int32} {t_colour : Nat → Int32} {zt_at : Int32} {zt_fault : Int32} {zt_newWide : Int32} {zt_newHigh : Int32} {zt_fresh : Nat → Int32} {zt_table : Nat → Int32} {zt_last : Nat → Int32} {zt_one : Nat → Int32} (C : CallFix p m c cX9_readFirst 6 s args wsX9_readFirst RX9) (hN : zN s) (hK : va_K D vwCl [(cI, .int)] s) (hA : ∀ q, s.heap.size ≤ q → A q) (hE : zEv p l e rmX9_readFirst s m args below meth c cX9_readFirst D A Q (zwX9 cI h_t h_t_now h_t_file h_t_fresh h_t_colour h_t_table h_t_last h_t_one t_wide t_high t_size zt_at zt_fault zt_newWide zt_newHigh t_colours t_now t_file zt_fresh t_colour zt_table zt_last zt_one)) {rc80 : Int32 → Int32 → Int32 → Int32 → Int32 → (Nat → Int32) → (Nat → Int32) → (Nat → Int32) → (Nat → Int32) → (Nat → Int32) → Int32 → Option (Int32 × Int32 × Int32 × Int32 × (Nat → Int32) × (Nat → Int32) × (Nat → Int32) × (Nat → Int32))} (hr_80 : ∀ {t_at : Int32} {t_fault : Int32} {t_newWide : Int32} {t_newHigh : Int32} {t_fresh : Nat → Int32} {t_table : Nat → Int32} {t_last : Nat → Int32} {t_one : Nat → Int32} {l1 : Int32} {l2 : Int32} {H : Heap} {locs : List Loc} {ls : Array Slot}, rc80 t_size t_at t_fault t_newWide t_newHigh t_file t_fresh t_table t_last t_one l2 = some (zt_at, zt_fault, zt_newWide, zt_newHigh, zt_fresh, zt_table, zt_last, zt_one) → va_P D vwCl (zwX9 cI h_t h_t_now h_t_file h_t_fresh h_t_colour h_t_table h_t_last h_t_one t_wide t_high t_size t_at t_fault t_newWide t_newHigh t_colours t_now t_file t_fresh t_colour t_table t_last t_one) H → va_D A (zwX9 cI h_t h_t_now h_t_file h_t_fresh h_t_colour h_t_table h_t_last h_t_one t_wide t_high t_size t_at t_fault t_newWide t_newHigh t_colours t_now t_file t_fresh t_colour t_table t_last t_one) → va_S A s.heap H locs → lv_has ls 6 [(0, .ref h_t), (1, .int l1), (2, .int l2)] → W p l e rmX9_readFirst s m args below meth c H locs 0 0 Q (F0 m 80 ls [])) {t_at : Int32} {t_fault : Int32} {t_newWide : Int32} {t_newHigh : Int32} {t_fresh : Nat → Int32} {t_table : Nat → Int32} {t_last : Nat → Int32} {t_one : Nat → Int32} {l1 : Int32} {l2 : Int32} {l3 : Int32} {k0 : Int32} {H : Heap} {locs : List Loc} {ls : Array Slot} : fX9_readFirst_128 rc80 t_size t_at t_fault t_newWide t_newHigh t_file t_fresh t_table t_last t_one l2 l3 k0 = some (zt_at, zt_fault, zt_newWide, zt_newHigh, zt_fresh, zt_table, zt_last, zt_one) → va_P D vwCl (zwX9 cI h_t h_t_now h_t_file h_t_fresh h_t_colour h_t_table h_t_last h_t_one t_wide t_high t_size t_at t_fault t_newWide t_newHigh t_colours t_now t_file t_fresh t_colour t_table t_last t_one) H → va_D A (zwX9 cI h_t h_t_now h_t_file h_t_fresh h_t_colour h_t_table h_t_last h_t_one t_wide t_high t_size t_at t_fault t_newWide t_newHigh t_colours t_now t_file t_fresh t_colour t_table t_last t_one) → va_S A s.heap H locs → lv_has ls 6 [(0, .ref h_t), (1, .int l1), (2, .int l2), (3, .int l3)] → W p l e rmX9_readFirst s m args below meth c H locs 0 0 Q (F0 m 128 ls [.int k0]) := by
  intro hf hP hD hS hl
  obtain ⟨hx, hb, hml, hown, hts⟩ := id C
  unfold fX9_readFirst_128 at hf
  refine lv_istore (lv' := [(4, .int k0), (0, .ref h_t), (1, .int l1), (2, .int l2), (3, .int l3)]) hx hb dX9_readFirst_128 hl (by decide) rfl (fun ls hl => ?_)
  refine lv_aload_n hx hb dX9_readFirst_130 rfl (lv_at hl 1 rfl) ?_
  refine lv_iload hx hb dX9_readFirst_131 (lv_at hl 0 rfl) ?_
  refine lv_aload_n hx hb dX9_readFirst_133 rfl (lv_at hl 1 rfl) ?_
  refine va_get (D := D) (ci := 8) (v := .int t_newWide) (C := RX9) (T := TX9) (N := 15) hx hb hts iX9_readFirst_X9 hown hK hP 0 rfl rfl 7 (by decide) (kX9_readFirst_142 hts) (fun _ h9 => h9) rfl dX9_readFirst_134 ?_
  refine lv_aload_n hx hb dX9_readFirst_137 rfl (lv_at hl 1 rfl) ?_
  refine va_get (D := D) (ci := 8) (v := .int t_newHigh) (C := RX9) (T := TX9) (N := 15) hx hb hts iX9_readFirst_X9 hown hK hP 0 rfl rfl 8 (by decide) (kX9_readFirst_162 hts) (fun _ h9 => h9) rfl dX9_readFirst_138 ?_
  refine lv_imul hx hb dX9_readFirst_141 ?_
  refine lv_iload_n hx hb dX9_readFirst_142 rfl (lv_at hl 3 rfl) ?_
  refine lv_isub hx hb dX9_readFirst_143 ?_
  refine lv_icmp_le (tgt := 151) hx hb dX9_readFirst_144 (by decide) (fun c1 => ?_) (fun c1 => ?_)
  · replace hf := zif_t hf c1
    refine lv_iconst (v := 0) hx hb dX9_readFirst_151 (by decide) ?_
    exact wX9_readFirst_152 C hN hK hA hE hr_80 hf hP hD hS (lv_sub hl [1, 2, 3, 4, 0] rfl)
  · replace hf := zif_f hf c1
    refine lv_iconst (v := 1) hx hb dX9_readFirst_147 (by decide) ?_
    refine lv_goto (tgt := 152) hx hb dX9_readFirst_148 (by decide) ?_
    exact wX9_readFirst_152 C hN hK hA hE hr_80 hf hP hD hS (lv_sub hl [1, 2, 3, 4, 0] rfl)
set_option maxHeartbeats 4000000 in
set_option maxRecDepth 100000 in
theorem wX9_readFirst_127 {p : Program} {l : Launch} {e : Env} {s : State} {m : MethodId} {args : Array Value} {below : List Frame} {meth : Method} {c : Code} {D : va_G} {A : Nat → Prop} {Q : State → Prop} {cI : ClassId} {h_t h_t_now h_t_file h_t_fresh h_t_colour h_t_table h_t_last h_t_one : Nat} {t_wide : Int32} {t_high : Int32} {t_size : Int32} {t_colours : Int32} {t_now : Nat → Int32} {t_file : Nat → Int32} {t_colour : Nat → Int32} {zt_at : Int32} {zt_fault : Int32} {zt_newWide : Int32} {zt_newHigh : Int32} {zt_fresh : Nat → Int32} {zt_table : Nat → Int32} {zt_last : Nat → Int32} {zt_one : Nat → Int32} (C : CallFix p m c cX9_readFirst 6 s args wsX9_readFirst RX9) (hN : zN s) (hK : va_K D vwCl [(cI, .int)] s) (hA : ∀ q, s.heap.size ≤ q → A q) (hE : zEv p l e rmX9_readFirst s m args below meth c cX9_readFirst D A Q (zwX9 cI h_t h_t_now h_t_file h_t_fresh h_t_colour h_t_table h_t_last h_t_one t_wide t_high t_size zt_at zt_fault zt_newWide zt_newHigh t_colours t_now t_file zt_fresh t_colour zt_table zt_last zt_one)) {rc80 : Int32 → Int32 → Int32 → Int32 → Int32 → (Nat → Int32) → (Nat → Int32) → (Nat → Int32) → (Nat → Int32) → (Nat → Int32) → Int32 → Option (Int32 × Int32 × Int32 × Int32 × (Nat → Int32) × (Nat → Int32) × (Nat → Int32) × (Nat → Int32))} (hr_80 : ∀ {t_at : Int32} {t_fault : Int32} {t_newWide : Int32} {t_newHigh : Int32} {t_fresh : Nat → Int32} {t_table : Nat → Int32} {t_last : Nat → Int32} {t_one : Nat → Int32} {l1 : Int32} {l2 : Int32} {H : Heap} {locs : List Loc} {ls : Array Slot}, rc80 t_size t_at t_fault t_newWide t_newHigh t_file t_fresh t_table t_last t_one l2 = some (zt_at, zt_fault, zt_newWide, zt_newHigh, zt_fresh, zt_table, zt_last, zt_one) → va_P D vwCl (zwX9 cI h_t h_t_now h_t_file h_t_fresh h_t_colour h_t_table h_t_last h_t_one t_wide t_high t_size t_at t_fault t_newWide t_newHigh t_colours t_now t_file t_fresh t_colour t_table t_last t_one) H → va_D A (zwX9 cI h_t h_t_now h_t_file h_t_fresh h_t_colour h_t_table h_t_last h_t_one t_wide t_high t_size t_at t_fault t_newWide t_newHigh t_colours t_now t_file t_fresh t_colour t_table t_last t_one) → va_S A s.heap H locs → lv_has ls 6 [(0, .ref h_t), (1, .int l1), (2, .int l2)] → W p l e rmX9_readFirst s m args below meth c H locs 0 0 Q (F0 m 80 ls [])) {t_at : Int32} {t_fault : Int32} {t_newWide : Int32} {t_newHigh : Int32} {t_fresh : Nat → Int32} {t_table : Nat → Int32} {t_last : Nat → Int32} {t_one : Nat → Int32} {l1 : Int32} {l2 : Int32} {l3 : Int32} {H : Heap} {locs : List Loc} {ls : Array Slot} : fX9_readFirst_127 rc80 t_size t_at t_fault t_newWide t_newHigh t_file t_fresh t_table t_last t_one l2 l3 = some (zt_at, zt_fault, zt_newWide, zt_newHigh, zt_fresh, zt_table, zt_last, zt_one) → va_P D vwCl (zwX9 cI h_t h_t_now h_t_file h_t_fresh h_t_colour h_t_table h_t_last h_t_one t_wide t_high t_size t_at t_fault t_newWide t_newHigh t_colours t_now t_file t_fresh t_colour t_table t_last t_one) H → va_D A (zwX9 cI h_t h_t_now h_t_file h_t_fresh h_t_colour h_t_table h_t_last h_t_one t_wide t_high t_size t_at t_fault t_newWide t_newHigh t_colours t_now t_file t_fresh t_colour t_table t_last t_one) → va_S A s.heap H locs → lv_has ls 6 [(0, .ref h_t), (1, .int l1), (2, .int l2), (3, .int l3)] → W p l e rmX9_readFirst s m args below meth c H locs 0 0 Q (F0 m 127 ls []) := by
  intro hf hP hD hS hl
  obtain ⟨hx, hb, hml, hown, hts⟩ := id C
  unfold fX9_readFirst_127 at hf
  refine lv_iconst (v := 1) hx hb dX9_readFirst_127 (by decide) ?_
  exact wX9_readFirst_128 C hN hK hA hE hr_80 hf hP hD hS (lv_sub hl [0, 1, 2, 3] rfl)
set_option maxHeartbeats 4000000 in
set_option maxRecDepth 100000 in
theorem wX9_readFirst_80 {p : Program} {l : Launch} {e : Env} {s : State} {m : MethodId} {args : Array Value} {below : List Frame} {meth : Method} {c : Code} {D : va_G} {A : Nat → Prop} {Q : State → Prop} {cI : ClassId} {h_t h_t_now h_t_file h_t_fresh h_t_colour h_t_table h_t_last h_t_one : Nat} {t_wide : Int32} {t_high : Int32} {t_size : Int32} {t_colours : Int32} {t_now : Nat → Int32} {t_file : Nat → Int32} {t_colour : Nat → Int32} {zt_at : Int32} {zt_fault : Int32} {zt_newWide : Int32} {zt_newHigh : Int32} {zt_fresh : Nat → Int32} {zt_table : Nat → Int32} {zt_last : Nat → Int32} {zt_one : Nat → Int32} (C : CallFix p m c cX9_readFirst 6 s args wsX9_readFirst RX9) (hN : zN s) (hK : va_K D vwCl [(cI, .int)] s) (hA : ∀ q, s.heap.size ≤ q → A q) (hE : zEv p l e rmX9_readFirst s m args below meth c cX9_readFirst D A Q (zwX9 cI h_t h_t_now h_t_file h_t_fresh h_t_colour h_t_table h_t_last h_t_one t_wide t_high t_size zt_at zt_fault zt_newWide zt_newHigh t_colours t_now t_file zt_fresh t_colour zt_table zt_last zt_one)) (n : Nat) : ∀ {t_at : Int32} {t_fault : Int32} {t_newWide : Int32} {t_newHigh : Int32} {t_fresh : Nat → Int32} {t_table : Nat → Int32} {t_last : Nat → Int32} {t_one : Nat → Int32} {l1 : Int32} {l2 : Int32} {H : Heap} {locs : List Loc} {ls : Array Slot}, fX9_readFirst_80 n t_size t_at t_fault t_newWide t_newHigh t_file t_fresh t_table t_last t_one l2 = some (zt_at, zt_fault, zt_newWide, zt_newHigh, zt_fresh, zt_table, zt_last, zt_one) → va_P D vwCl (zwX9 cI h_t h_t_now h_t_file h_t_fresh h_t_colour h_t_table h_t_last h_t_one t_wide t_high t_size t_at t_fault t_newWide t_newHigh t_colours t_now t_file t_fresh t_colour t_table t_last t_one) H → va_D A (zwX9 cI h_t h_t_now h_t_file h_t_fresh h_t_colour h_t_table h_t_last h_t_one t_wide t_high t_size t_at t_fault t_newWide t_newHigh t_colours t_now t_file t_fresh t_colour t_table t_last t_one) → va_S A s.heap H locs → lv_has ls 6 [(0, .ref h_t), (1, .int l1), (2, .int l2)] → W p l e rmX9_readFirst s m args below meth c H locs 0 0 Q (F0 m 80 ls []) := by
  obtain ⟨hx, hb, hml, hown, hts⟩ := id C
  induction n with
  | zero =>
    intro t_at t_fault t_newWide t_newHigh t_fresh t_table t_last t_one l1 l2 H locs ls hf
    cases hf
  | succ n hr_80 =>
    intro t_at t_fault t_newWide t_newHigh t_fresh t_table t_last t_one l1 l2 H locs ls hf hP hD hS hl
    rw [fX9_readFirst_80_s] at hf
    refine lv_aload_n hx hb dX9_readFirst_80 rfl (lv_at hl 0 rfl) ?_
    refine va_get (D := D) (ci := 8) (v := .int t_fault) (C := RX9) (T := TX9) (N := 15) hx hb hts iX9_readFirst_X9 hown hK hP 0 rfl rfl 6 (by decide) (kX9_readFirst_129 hts) (fun _ h9 => h9) rfl dX9_readFirst_81 ?_
    refine lv_if_ne (tgt := 253) hx hb dX9_readFirst_84 (by decide) (fun c1 => ?_) (fun c1 => ?_)
    · replace hf := zif_f hf c1
      exact wX9_readFirst_253 C hN hK hA hE hf hP hD hS (lv_sub hl [0, 1, 2] rfl)
    · replace hf := zif_t hf c1
      refine lv_iload_n hx hb dX9_readFirst_87 rfl (lv_at hl 2 rfl) ?_
      refine lv_aload_n hx hb dX9_readFirst_88 rfl (lv_at hl 0 rfl) ?_
      refine va_get (D := D) (ci := 8) (v := .int t_newWide) (C := RX9) (T := TX9) (N := 15) hx hb hts iX9_readFirst_X9 hown hK hP 0 rfl rfl 7 (by decide) (kX9_readFirst_142 hts) (fun _ h9 => h9) rfl dX9_readFirst_89 ?_
      refine lv_aload_n hx hb dX9_readFirst_92 rfl (lv_at hl 0 rfl) ?_
      refine va_get (D := D) (ci := 8) (v := .int t_newHigh) (C := RX9) (T := TX9) (N := 15) hx hb hts iX9_readFirst_X9 hown hK hP 0 rfl rfl 8 (by decide) (kX9_readFirst_162 hts) (fun _ h9 => h9) rfl dX9_readFirst_93 ?_
      refine lv_imul hx hb dX9_readFirst_96 ?_
      refine lv_icmp_ge (tgt := 253) hx hb dX9_readFirst_97 (by decide) (fun c2 => ?_) (fun c2 => ?_)
      · replace hf := zif_t hf c2
        exact wX9_readFirst_253 C hN hK hA hE hf hP hD hS (lv_sub hl [0, 1, 2] rfl)
      · replace hf := zif_f hf c2
        refine lv_aload_n hx hb dX9_readFirst_100 rfl (lv_at hl 0 rfl) ?_
        obtain ⟨r3, u4, u5, hc6, hf⟩ := zb3_in hf
        refine zc_i (va_runV (As := []) (rest := []) C (mX9_next l D cI H.size h_t h_t_now h_t_file h_t_fresh h_t_colour h_t_table h_t_last h_t_one t_wide t_high t_size t_at t_fault t_newWide t_newHigh t_colours t_now t_file t_fresh t_colour t_table t_last t_one r3 u4 u5 hc6) (qX9_readFirst_X9_next_135 hts) ⟨zP_blind, va_recv hK hP (ci := 8) (q0 := 0) rfl rfl, zpre hK hN hP hD [0, 1, 2, 3, 4, 5, 6, 7] rfl rfl⟩ rfl rfl hl.1 rfl (lv_room (Nat.le_of_ble_eq_true rfl)) dX9_readFirst_101 ⟨Nat.zero_le _, Nat.zero_le _⟩) hP hD hS hA [0, 1, 2, 3, 4, 5, 6, 7] [] [0, 1, 2, 3, 4, 5, 6, 7] (ws' := zwX9 cI h_t h_t_now h_t_file h_t_fresh h_t_colour h_t_table h_t_last h_t_one t_wide t_high t_size u4 u5 t_newWide t_newHigh t_colours t_now t_file t_fresh t_colour t_table t_last t_one) rfl rfl rfl rfl rfl rfl (fun H locs hP hD hS => ?_)
        refine lv_istore_n (lv' := [(3, .int r3), (0, .ref h_t), (1, .int l1), (2, .int l2)]) hx hb dX9_readFirst_104 rfl hl (by decide) rfl (fun ls hl => ?_)
        refine lv_iload_n hx hb dX9_readFirst_105 rfl (lv_at hl 0 rfl) ?_
        refine lv_sipush (v := 192) hx hb dX9_readFirst_106 (by decide) ?_
        refine lv_icmp_lt (tgt := 127) hx hb dX9_readFirst_109 (by decide) (fun c7 => ?_) (fun c7 => ?_)
        · replace hf := zif_t hf c7
          exact wX9_readFirst_127 C hN hK hA hE hr_80 hf hP hD hS (lv_sub hl [1, 2, 3, 0] rfl)
        · replace hf := zif_f hf c7
          refine lv_iload_n hx hb dX9_readFirst_112 rfl (lv_at hl 0 rfl) ?_
          refine lv_sipush (v := 254) hx hb dX9_readFirst_113 (by decide) ?_
          refine lv_icmp_ge (tgt := 127) hx hb dX9_readFirst_116 (by decide) (fun c8 => ?_) (fun c8 => ?_)
          · replace hf := zif_t hf c8
            exact wX9_readFirst_127 C hN hK hA hE hr_80 hf hP hD hS (lv_sub hl [1, 2, 3, 0] rfl)
          · replace hf := zif_f hf c8
            refine lv_iload_n hx hb dX9_readFirst_119 rfl (lv_at hl 0 rfl) ?_
            refine lv_sipush (v := 191) hx hb dX9_readFirst_120 (by decide) ?_
            refine lv_isub hx hb dX9_readFirst_123 ?_
            refine lv_goto (tgt := 128) hx hb dX9_readFirst_124 (by decide) ?_
            exact wX9_readFirst_128 C hN hK hA hE hr_80 hf hP hD hS (lv_sub hl [1, 2, 3, 0] rfl)
set_option maxHeartbeats 4000000 in
set_option maxRecDepth 100000 in
theorem wX9_readFirst_71 {p : Program} {l : Launch} {e : Env} {s : State} {m : MethodId} {args : Array Value} {below : List Frame} {meth : Method} {c : Code} {D : va_G} {A : Nat → Prop} {Q : State → Prop} {cI : ClassId} {h_t h_t_now h_t_file h_t_fresh h_t_colour h_t_table h_t_last h_t_one : Nat} {t_wide : Int32} {t_high : Int32} {t_size : Int32} {t_colours : Int32} {t_now : Nat → Int32} {t_file : Nat → Int32} {t_colour : Nat → Int32} {zt_at : Int32} {zt_fault : Int32} {zt_newWide : Int32} {zt_newHigh : Int32} {zt_fresh : Nat → Int32} {zt_table : Nat → Int32} {zt_last : Nat → Int32} {zt_one : Nat → Int32} (C : CallFix p m c cX9_readFirst 6 s args wsX9_readFirst RX9) (hN : zN s) (hK : va_K D vwCl [(cI, .int)] s) (hA : ∀ q, s.heap.size ≤ q → A q) (hE : zEv p l e rmX9_readFirst s m args below meth c cX9_readFirst D A Q (zwX9 cI h_t h_t_now h_t_file h_t_fresh h_t_colour h_t_table h_t_last h_t_one t_wide t_high t_size zt_at zt_fault zt_newWide zt_newHigh t_colours t_now t_file zt_fresh t_colour zt_table zt_last zt_one)) {t_at : Int32} {t_fault : Int32} {t_newWide : Int32} {t_newHigh : Int32} {t_fresh : Nat → Int32} {t_table : Nat → Int32} {t_last : Nat → Int32} {t_one : Nat → Int32} {l1 : Int32} {k1 : Int32} {H : Heap} {locs : List Loc} {ls : Array Slot} : fX9_readFirst_71 t_size t_at t_fault t_newWide t_newHigh t_file t_fresh t_table t_last t_one k1 = some (zt_at, zt_fault, zt_newWide, zt_newHigh, zt_fresh, zt_table, zt_last, zt_one) → va_P D vwCl (zwX9 cI h_t h_t_now h_t_file h_t_fresh h_t_colour h_t_table h_t_last h_t_one t_wide t_high t_size t_at t_fault t_newWide t_newHigh t_colours t_now t_file t_fresh t_colour t_table t_last t_one) H → va_D A (zwX9 cI h_t h_t_now h_t_file h_t_fresh h_t_colour h_t_table h_t_last h_t_one t_wide t_high t_size t_at t_fault t_newWide t_newHigh t_colours t_now t_file t_fresh t_colour t_table t_last t_one) → va_S A s.heap H locs → lv_has ls 6 [(0, .ref h_t), (1, .int l1)] → W p l e rmX9_readFirst s m args below meth c H locs 0 0 Q (F0 m 71 ls [.int k1, .ref h_t]) := by
  intro hf hP hD hS hl
  obtain ⟨hx, hb, hml, hown, hts⟩ := id C
  unfold fX9_readFirst_71 at hf
  obtain ⟨u1, hc2, hf⟩ := zb1_in hf
  refine zc_v (va_runV (As := [.int k1]) (rest := []) C (mX9_broken l D cI H.size h_t h_t_now h_t_file h_t_fresh h_t_colour h_t_table h_t_last h_t_one t_wide t_high t_size t_at t_fault t_newWide t_newHigh t_colours t_now t_file t_fresh t_colour t_table t_last t_one k1 u1 hc2) (qX9_readFirst_X9_broken_139 hts) ⟨zP_blind, va_recv hK hP (ci := 8) (q0 := 0) rfl rfl, zpre hK hN hP hD [0, 1, 2, 3, 4, 5, 6, 7] rfl rfl⟩ rfl rfl hl.1 rfl (lv_room (Nat.le_of_ble_eq_true rfl)) dX9_readFirst_71 ⟨Nat.zero_le _, Nat.zero_le _⟩) hP hD hS hA [0, 1, 2, 3, 4, 5, 6, 7] [] [0, 1, 2, 3, 4, 5, 6, 7] (ws' := zwX9 cI h_t h_t_now h_t_file h_t_fresh h_t_colour h_t_table h_t_last h_t_one t_wide t_high t_size t_at u1 t_newWide t_newHigh t_colours t_now t_file t_fresh t_colour t_table t_last t_one) rfl rfl rfl rfl rfl rfl (fun H locs hP hD hS => ?_)
  refine lv_aload_n hx hb dX9_readFirst_74 rfl (lv_at hl 0 rfl) ?_
  obtain ⟨u3, u4, hc5, hf⟩ := zb2_in hf
  refine zc_v (va_runV (As := []) (rest := []) C (mX9_clearTable l D cI H.size h_t h_t_now h_t_file h_t_fresh h_t_colour h_t_table h_t_last h_t_one t_wide t_high t_size t_at u1 t_newWide t_newHigh t_colours t_now t_file t_fresh t_colour t_table t_last t_one u3 u4 hc5) (qX9_readFirst_X9_clearTable_78 hts) ⟨zP_blind, va_recv hK hP (ci := 8) (q0 := 0) rfl rfl, zpre hK hN hP hD [0, 1, 2, 3, 4, 5, 6, 7] rfl rfl⟩ rfl rfl hl.1 rfl (lv_room (Nat.le_of_ble_eq_true rfl)) dX9_readFirst_75 ⟨Nat.zero_le _, Nat.zero_le _⟩) hP hD hS hA [0, 1, 2, 3, 4, 5, 6, 7] [] [0, 1, 2, 3, 4, 5, 6, 7] (ws' := zwX9 cI h_t h_t_now h_t_file h_t_fresh h_t_colour h_t_table h_t_last h_t_one t_wide t_high t_size t_at u1 t_newWide t_newHigh t_colours t_now t_file t_fresh t_colour u3 u4 t_one) rfl rfl rfl rfl rfl rfl (fun H locs hP hD hS => ?_)
  refine lv_iconst (v := 0) hx hb dX9_readFirst_78 (by decide) ?_
  refine lv_istore_n (lv' := [(2, .int 0), (0, .ref h_t), (1, .int l1)]) hx hb dX9_readFirst_79 rfl hl (by decide) rfl (fun ls hl => ?_)
  exact wX9_readFirst_80 C hN hK hA hE 1000 hf hP hD hS (lv_sub hl [1, 2, 0] rfl)
set_option maxHeartbeats 4000000 in
set_option maxRecDepth 100000 in
theorem wX9_readFirst_54 {p : Program} {l : Launch} {e : Env} {s : State} {m : MethodId} {args : Array Value} {below : List Frame} {meth : Method} {c : Code} {D : va_G} {A : Nat → Prop} {Q : State → Prop} {cI : ClassId} {h_t h_t_now h_t_file h_t_fresh h_t_colour h_t_table h_t_last h_t_one : Nat} {t_wide : Int32} {t_high : Int32} {t_size : Int32} {t_colours : Int32} {t_now : Nat → Int32} {t_file : Nat → Int32} {t_colour : Nat → Int32} {zt_at : Int32} {zt_fault : Int32} {zt_newWide : Int32} {zt_newHigh : Int32} {zt_fresh : Nat → Int32} {zt_table : Nat → Int32} {zt_last : Nat → Int32} {zt_one : Nat → Int32} (C : CallFix p m c cX9_readFirst 6 s args wsX9_readFirst RX9) (hN : zN s) (hK : va_K D vwCl [(cI, .int)] s) (hA : ∀ q, s.heap.size ≤ q → A q) (hE : zEv p l e rmX9_readFirst s m args below meth c cX9_readFirst D A Q (zwX9 cI h_t h_t_now h_t_file h_t_fresh h_t_colour h_t_table h_t_last h_t_one t_wide t_high t_size zt_at zt_fault zt_newWide zt_newHigh t_colours t_now t_file zt_fresh t_colour zt_table zt_last zt_one)) {t_at : Int32} {t_fault : Int32} {t_newWide : Int32} {t_newHigh : Int32} {t_fresh : Nat → Int32} {t_table : Nat → Int32} {t_last : Nat → Int32} {t_one : Nat → Int32} {l1 : Int32} {k1 : Int32} {H : Heap} {locs : List Loc} {ls : Array Slot} : fX9_readFirst_54 t_size t_at t_fault t_newWide t_newHigh t_file t_fresh t_table t_last t_one k1 = some (zt_at, zt_fault, zt_newWide, zt_newHigh, zt_fresh, zt_table, zt_last, zt_one) → va_P D vwCl (zwX9 cI h_t h_t_now h_t_file h_t_fresh h_t_colour h_t_table h_t_last h_t_one t_wide t_high t_size t_at t_fault t_newWide t_newHigh t_colours t_now t_file t_fresh t_colour t_table t_last t_one) H → va_D A (zwX9 cI h_t h_t_now h_t_file h_t_fresh h_t_colour h_t_table h_t_last h_t_one t_wide t_high t_size t_at t_fault t_newWide t_newHigh t_colours t_now t_file t_fresh t_colour t_table t_last t_one) → va_S A s.heap H locs → lv_has ls 6 [(0, .ref h_t), (1, .int l1)] → W p l e rmX9_readFirst s m args below meth c H locs 0 0 Q (F0 m 54 ls [.int k1, .ref h_t]) := by
  intro hf hP hD hS hl
  obtain ⟨hx, hb, hml, hown, hts⟩ := id C
  unfold fX9_readFirst_54 at hf
  obtain ⟨u1, hc2, hf⟩ := zb1_in hf
  refine zc_v (va_runV (As := [.int k1]) (rest := []) C (mX9_broken l D cI H.size h_t h_t_now h_t_file h_t_fresh h_t_colour h_t_table h_t_last h_t_one t_wide t_high t_size t_at t_fault t_newWide t_newHigh t_colours t_now t_file t_fresh t_colour t_table t_last t_one k1 u1 hc2) (qX9_readFirst_X9_broken_139 hts) ⟨zP_blind, va_recv hK hP (ci := 8) (q0 := 0) rfl rfl, zpre hK hN hP hD [0, 1, 2, 3, 4, 5, 6, 7] rfl rfl⟩ rfl rfl hl.1 rfl (lv_room (Nat.le_of_ble_eq_true rfl)) dX9_readFirst_54 ⟨Nat.zero_le _, Nat.zero_le _⟩) hP hD hS hA [0, 1, 2, 3, 4, 5, 6, 7] [] [0, 1, 2, 3, 4, 5, 6, 7] (ws' := zwX9 cI h_t h_t_now h_t_file h_t_fresh h_t_colour h_t_table h_t_last h_t_one t_wide t_high t_size t_at u1 t_newWide t_newHigh t_colours t_now t_file t_fresh t_colour t_table t_last t_one) rfl rfl rfl rfl rfl rfl (fun H locs hP hD hS => ?_)
  refine lv_aload_n hx hb dX9_readFirst_57 rfl (lv_at hl 0 rfl) ?_
  refine lv_aload_n hx hb dX9_readFirst_58 rfl (lv_at hl 0 rfl) ?_
  obtain ⟨r3, u4, u5, hc6, hf⟩ := zb3_in hf
  refine zc_i (va_runV (As := []) (rest := [.ref h_t]) C (mX9_next l D cI H.size h_t h_t_now h_t_file h_t_fresh h_t_colour h_t_table h_t_last h_t_one t_wide t_high t_size t_at u1 t_newWide t_newHigh t_colours t_now t_file t_fresh t_colour t_table t_last t_one r3 u4 u5 hc6) (qX9_readFirst_X9_next_135 hts) ⟨zP_blind, va_recv hK hP (ci := 8) (q0 := 0) rfl rfl, zpre hK hN hP hD [0, 1, 2, 3, 4, 5, 6, 7] rfl rfl⟩ rfl rfl hl.1 rfl (lv_room (Nat.le_of_ble_eq_true rfl)) dX9_readFirst_59 ⟨Nat.zero_le _, Nat.zero_le _⟩) hP hD hS hA [0, 1, 2, 3, 4, 5, 6, 7] [] [0, 1, 2, 3, 4, 5, 6, 7] (ws' := zwX9 cI h_t h_t_now h_t_file h_t_fresh h_t_colour h_t_table h_t_last h_t_one t_wide t_high t_size u4 u5 t_newWide t_newHigh t_colours t_now t_file t_fresh t_colour t_table t_last t_one) rfl rfl rfl rfl rfl rfl (fun H locs hP hD hS => ?_)
  refine lv_iconst (v := 1) hx hb dX9_readFirst_62 (by decide) ?_
  refine lv_icmp_le (tgt := 70) hx hb dX9_readFirst_63 (by decide) (fun c7 => ?_) (fun c7 => ?_)
  · replace hf := zif_t hf c7
    refine lv_iconst (v := 0) hx hb dX9_readFirst_70 (by decide) ?_
    exact wX9_readFirst_71 C hN hK hA hE hf hP hD hS (lv_sub hl [0, 1] rfl)
  · replace hf := zif_f hf c7
    refine lv_iconst (v := 1) hx hb dX9_readFirst_66 (by decide) ?_
    refine lv_goto (tgt := 71) hx hb dX9_readFirst_67 (by decide) ?_
    exact wX9_readFirst_71 C hN hK hA hE hf hP hD hS (lv_sub hl [0, 1] rfl)
set_option maxHeartbeats 4000000 in
set_option maxRecDepth 100000 in
theorem wX9_readFirst_53 {p : Program} {l : Launch} {e : Env} {s : State} {m : MethodId} {args : Array Value} {below : List Frame} {meth : Method} {c : Code} {D : va_G} {A : Nat → Prop} {Q : State → Prop} {cI : ClassId} {h_t h_t_now h_t_file h_t_fresh h_t_colour h_t_table h_t_last h_t_one : Nat} {t_wide : Int32} {t_high : Int32} {t_size : Int32} {t_colours : Int32} {t_now : Nat → Int32} {t_file : Nat → Int32} {t_colour : Nat → Int32} {zt_at : Int32} {zt_fault : Int32} {zt_newWide : Int32} {zt_newHigh : Int32} {zt_fresh : Nat → Int32} {zt_table : Nat → Int32} {zt_last : Nat → Int32} {zt_one : Nat → Int32} (C : CallFix p m c cX9_readFirst 6 s args wsX9_readFirst RX9) (hN : zN s) (hK : va_K D vwCl [(cI, .int)] s) (hA : ∀ q, s.heap.size ≤ q → A q) (hE : zEv p l e rmX9_readFirst s m args below meth c cX9_readFirst D A Q (zwX9 cI h_t h_t_now h_t_file h_t_fresh h_t_colour h_t_table h_t_last h_t_one t_wide t_high t_size zt_at zt_fault zt_newWide zt_newHigh t_colours t_now t_file zt_fresh t_colour zt_table zt_last zt_one)) {t_at : Int32} {t_fault : Int32} {t_newWide : Int32} {t_newHigh : Int32} {t_fresh : Nat → Int32} {t_table : Nat → Int32} {t_last : Nat → Int32} {t_one : Nat → Int32} {l1 : Int32} {H : Heap} {locs : List Loc} {ls : Array Slot} : fX9_readFirst_53 t_size t_at t_fault t_newWide t_newHigh t_file t_fresh t_table t_last t_one = some (zt_at, zt_fault, zt_newWide, zt_newHigh, zt_fresh, zt_table, zt_last, zt_one) → va_P D vwCl (zwX9 cI h_t h_t_now h_t_file h_t_fresh h_t_colour h_t_table h_t_last h_t_one t_wide t_high t_size t_at t_fault t_newWide t_newHigh t_colours t_now t_file t_fresh t_colour t_table t_last t_one) H → va_D A (zwX9 cI h_t h_t_now h_t_file h_t_fresh h_t_colour h_t_table h_t_last h_t_one t_wide t_high t_size t_at t_fault t_newWide t_newHigh t_colours t_now t_file t_fresh t_colour t_table t_last t_one) → va_S A s.heap H locs → lv_has ls 6 [(0, .ref h_t), (1, .int l1)] → W p l e rmX9_readFirst s m args below meth c H locs 0 0 Q (F0 m 53 ls [.ref h_t]) := by
  intro hf hP hD hS hl
  obtain ⟨hx, hb, hml, hown, hts⟩ := id C
  unfold fX9_readFirst_53 at hf
  refine lv_iconst (v := 0) hx hb dX9_readFirst_53 (by decide) ?_
  exact wX9_readFirst_54 C hN hK hA hE hf hP hD hS (lv_sub hl [0, 1] rfl)
set_option maxHeartbeats 4000000 in
set_option maxRecDepth 100000 in
theorem wX9_readFirst_0 {p : Program} {l : Launch} {e : Env} {s : State} {m : MethodId} {args : Array Value} {below : List Frame} {meth : Method} {c : Code} {D : va_G} {A : Nat → Prop} {Q : State → Prop} {cI : ClassId} {h_t h_t_now h_t_file h_t_fresh h_t_colour h_t_table h_t_last h_t_one : Nat} {t_wide : Int32} {t_high : Int32} {t_size : Int32} {t_colours : Int32} {t_now : Nat → Int32} {t_file : Nat → Int32} {t_colour : Nat → Int32} {zt_at : Int32} {zt_fault : Int32} {zt_newWide : Int32} {zt_newHigh : Int32} {zt_fresh : Nat → Int32} {zt_table : Nat → Int32} {zt_last : Nat → Int32} {zt_one : Nat → Int32} (C : CallFix p m c cX9_readFirst 6 s args wsX9_readFirst RX9) (hN : zN s) (hK : va_K D vwCl [(cI, .int)] s) (hA : ∀ q, s.heap.size ≤ q → A q) (hE : zEv p l e rmX9_readFirst s m args below meth c cX9_readFirst D A Q (zwX9 cI h_t h_t_now h_t_file h_t_fresh h_t_colour h_t_table h_t_last h_t_one t_wide t_high t_size zt_at zt_fault zt_newWide zt_newHigh t_colours t_now t_file zt_fresh t_colour zt_table zt_last zt_one)) {t_at : Int32} {t_fault : Int32} {t_newWide : Int32} {t_newHigh : Int32} {t_fresh : Nat → Int32} {t_table : Nat → Int32} {t_last : Nat → Int32} {t_one : Nat → Int32} {H : Heap} {locs : List Loc} {ls : Array Slot} : fX9_readFirst t_size t_at t_fault t_file t_fresh t_table t_last t_one = some (zt_at, zt_fault, zt_newWide, zt_newHigh, zt_fresh, zt_table, zt_last, zt_one) → va_P D vwCl (zwX9 cI h_t h_t_now h_t_file h_t_fresh h_t_colour h_t_table h_t_last h_t_one t_wide t_high t_size t_at t_fault t_newWide t_newHigh t_colours t_now t_file t_fresh t_colour t_table t_last t_one) H → va_D A (zwX9 cI h_t h_t_now h_t_file h_t_fresh h_t_colour h_t_table h_t_last h_t_one t_wide t_high t_size t_at t_fault t_newWide t_newHigh t_colours t_now t_file t_fresh t_colour t_table t_last t_one) → va_S A s.heap H locs → lv_has ls 6 [(0, .ref h_t)] → W p l e rmX9_readFirst s m args below meth c H locs 0 0 Q (F0 m 0 ls []) := by
  intro hf hP hD hS hl
  obtain ⟨hx, hb, hml, hown, hts⟩ := id C
  unfold fX9_readFirst at hf
  refine lv_aload_n hx hb dX9_readFirst_0 rfl (lv_at hl 0 rfl) ?_
  refine lv_iconst (v := 4) hx hb dX9_readFirst_1 (by decide) ?_
  obtain ⟨u1, u2, hc3, hf⟩ := zb2_in hf
  refine zc_v (va_runV (As := [.int 4]) (rest := []) C (mX9_skip l D cI H.size h_t h_t_now h_t_file h_t_fresh h_t_colour h_t_table h_t_last h_t_one t_wide t_high t_size t_at t_fault t_newWide t_newHigh t_colours t_now t_file t_fresh t_colour t_table t_last t_one 4 u1 u2 hc3) (qX9_readFirst_X9_skip_152 hts) ⟨zP_blind, va_recv hK hP (ci := 8) (q0 := 0) rfl rfl, zpre hK hN hP hD [0, 1, 2, 3, 4, 5, 6, 7] rfl rfl⟩ rfl rfl hl.1 rfl (lv_room (Nat.le_of_ble_eq_true rfl)) dX9_readFirst_2 ⟨Nat.zero_le _, Nat.zero_le _⟩) hP hD hS hA [0, 1, 2, 3, 4, 5, 6, 7] [] [0, 1, 2, 3, 4, 5, 6, 7] (ws' := zwX9 cI h_t h_t_now h_t_file h_t_fresh h_t_colour h_t_table h_t_last h_t_one t_wide t_high t_size u1 u2 t_newWide t_newHigh t_colours t_now t_file t_fresh t_colour t_table t_last t_one) rfl rfl rfl rfl rfl rfl (fun H locs hP hD hS => ?_)
  refine lv_aload_n hx hb dX9_readFirst_5 rfl (lv_at hl 0 rfl) ?_
  refine lv_aload_n hx hb dX9_readFirst_6 rfl (lv_at hl 0 rfl) ?_
  refine lv_aload_n hx hb dX9_readFirst_7 rfl (lv_at hl 0 rfl) ?_
  refine lv_iconst (v := 4) hx hb dX9_readFirst_8 (by decide) ?_
  refine lv_iconst (v := 1) hx hb dX9_readFirst_9 (by decide) ?_
  obtain ⟨r4, u5, u6, hc7, hf⟩ := zb3_in hf
  refine zc_i (va_runV (As := [.int 4, .int 1]) (rest := [.ref h_t, .ref h_t]) C (mX9_number l D cI H.size h_t h_t_now h_t_file h_t_fresh h_t_colour h_t_table h_t_last h_t_one t_wide t_high t_size u1 u2 t_newWide t_newHigh t_colours t_now t_file t_fresh t_colour t_table t_last t_one 4 1 r4 u5 u6 hc7) (qX9_readFirst_X9_number_155 hts) ⟨zP_blind, va_recv hK hP (ci := 8) (q0 := 0) rfl rfl, zpre hK hN hP hD [0, 1, 2, 3, 4, 5, 6, 7] rfl rfl⟩ rfl rfl hl.1 rfl (lv_room (Nat.le_of_ble_eq_true rfl)) dX9_readFirst_10 ⟨Nat.zero_le _, Nat.zero_le _⟩) hP hD hS hA [0, 1, 2, 3, 4, 5, 6, 7] [] [0, 1, 2, 3, 4, 5, 6, 7] (ws' := zwX9 cI h_t h_t_now h_t_file h_t_fresh h_t_colour h_t_table h_t_last h_t_one t_wide t_high t_size u5 u6 t_newWide t_newHigh t_colours t_now t_file t_fresh t_colour t_table t_last t_one) rfl rfl rfl rfl rfl rfl (fun H locs hP hD hS => ?_)
  obtain ⟨r8, u9, hc10, hf⟩ := zb2_in hf
  refine zc_i (va_runV (As := [.int r4]) (rest := [.ref h_t]) C (mX9_sideOf l D cI H.size h_t h_t_now h_t_file h_t_fresh h_t_colour h_t_table h_t_last h_t_one t_wide t_high t_size u5 u6 t_newWide t_newHigh t_colours t_now t_file t_fresh t_colour t_table t_last t_one r4 r8 u9 hc10) (qX9_readFirst_X9_sideOf_159 hts) ⟨zP_blind, va_recv hK hP (ci := 8) (q0 := 0) rfl rfl, zpre hK hN hP hD [0, 1, 2, 3, 4, 5, 6, 7] rfl rfl⟩ rfl rfl hl.1 rfl (lv_room (Nat.le_of_ble_eq_true rfl)) dX9_readFirst_13 ⟨Nat.zero_le _, Nat.zero_le _⟩) hP hD hS hA [0, 1, 2, 3, 4, 5, 6, 7] [] [0, 1, 2, 3, 4, 5, 6, 7] (ws' := zwX9 cI h_t h_t_now h_t_file h_t_fresh h_t_colour h_t_table h_t_last h_t_one t_wide t_high t_size u5 u9 t_newWide t_newHigh t_colours t_now t_file t_fresh t_colour t_table t_last t_one) rfl rfl rfl rfl rfl rfl (fun H locs hP hD hS => ?_)
  refine va_put (D := D) (ci := 8) (v := .int r8) (ty := .int) (C := RX9) (T := TX9) (N := 15) hx hb hts iX9_readFirst_X9 tyX9 tyX9_ok nmX9 hown hK hP hD hS 0 rfl rfl 7 (by decide) (kX9_readFirst_142 hts) (fun _ h9 => h9) rfl (by decide +kernel) rfl rfl (Nat.le_of_ble_eq_true rfl) dX9_readFirst_16 (fun H locs hP hD hS => ?_)
  replace hP : va_P D vwCl (zwX9 cI h_t h_t_now h_t_file h_t_fresh h_t_colour h_t_table h_t_last h_t_one t_wide t_high t_size u5 u9 r8 t_newHigh t_colours t_now t_file t_fresh t_colour t_table t_last t_one) H := hP
  replace hD : va_D A (zwX9 cI h_t h_t_now h_t_file h_t_fresh h_t_colour h_t_table h_t_last h_t_one t_wide t_high t_size u5 u9 r8 t_newHigh t_colours t_now t_file t_fresh t_colour t_table t_last t_one) := hD
  refine lv_aload_n hx hb dX9_readFirst_19 rfl (lv_at hl 0 rfl) ?_
  refine lv_aload_n hx hb dX9_readFirst_20 rfl (lv_at hl 0 rfl) ?_
  refine lv_aload_n hx hb dX9_readFirst_21 rfl (lv_at hl 0 rfl) ?_
  refine lv_iconst (v := 4) hx hb dX9_readFirst_22 (by decide) ?_
  refine lv_iconst (v := 1) hx hb dX9_readFirst_23 (by decide) ?_
  obtain ⟨r11, u12, u13, hc14, hf⟩ := zb3_in hf
  refine zc_i (va_runV (As := [.int 4, .int 1]) (rest := [.ref h_t, .ref h_t]) C (mX9_number l D cI H.size h_t h_t_now h_t_file h_t_fresh h_t_colour h_t_table h_t_last h_t_one t_wide t_high t_size u5 u9 r8 t_newHigh t_colours t_now t_file t_fresh t_colour t_table t_last t_one 4 1 r11 u12 u13 hc14) (qX9_readFirst_X9_number_155 hts) ⟨zP_blind, va_recv hK hP (ci := 8) (q0 := 0) rfl rfl, zpre hK hN hP hD [0, 1, 2, 3, 4, 5, 6, 7] rfl rfl⟩ rfl rfl hl.1 rfl (lv_room (Nat.le_of_ble_eq_true rfl)) dX9_readFirst_24 ⟨Nat.zero_le _, Nat.zero_le _⟩) hP hD hS hA [0, 1, 2, 3, 4, 5, 6, 7] [] [0, 1, 2, 3, 4, 5, 6, 7] (ws' := zwX9 cI h_t h_t_now h_t_file h_t_fresh h_t_colour h_t_table h_t_last h_t_one t_wide t_high t_size u12 u13 r8 t_newHigh t_colours t_now t_file t_fresh t_colour t_table t_last t_one) rfl rfl rfl rfl rfl rfl (fun H locs hP hD hS => ?_)
  obtain ⟨r15, u16, hc17, hf⟩ := zb2_in hf
  refine zc_i (va_runV (As := [.int r11]) (rest := [.ref h_t]) C (mX9_sideOf l D cI H.size h_t h_t_now h_t_file h_t_fresh h_t_colour h_t_table h_t_last h_t_one t_wide t_high t_size u12 u13 r8 t_newHigh t_colours t_now t_file t_fresh t_colour t_table t_last t_one r11 r15 u16 hc17) (qX9_readFirst_X9_sideOf_159 hts) ⟨zP_blind, va_recv hK hP (ci := 8) (q0 := 0) rfl rfl, zpre hK hN hP hD [0, 1, 2, 3, 4, 5, 6, 7] rfl rfl⟩ rfl rfl hl.1 rfl (lv_room (Nat.le_of_ble_eq_true rfl)) dX9_readFirst_27 ⟨Nat.zero_le _, Nat.zero_le _⟩) hP hD hS hA [0, 1, 2, 3, 4, 5, 6, 7] [] [0, 1, 2, 3, 4, 5, 6, 7] (ws' := zwX9 cI h_t h_t_now h_t_file h_t_fresh h_t_colour h_t_table h_t_last h_t_one t_wide t_high t_size u12 u16 r8 t_newHigh t_colours t_now t_file t_fresh t_colour t_table t_last t_one) rfl rfl rfl rfl rfl rfl (fun H locs hP hD hS => ?_)
  refine va_put (D := D) (ci := 8) (v := .int r15) (ty := .int) (C := RX9) (T := TX9) (N := 15) hx hb hts iX9_readFirst_X9 tyX9 tyX9_ok nmX9 hown hK hP hD hS 0 rfl rfl 8 (by decide) (kX9_readFirst_162 hts) (fun _ h9 => h9) rfl (by decide +kernel) rfl rfl (Nat.le_of_ble_eq_true rfl) dX9_readFirst_30 (fun H locs hP hD hS => ?_)
  replace hP : va_P D vwCl (zwX9 cI h_t h_t_now h_t_file h_t_fresh h_t_colour h_t_table h_t_last h_t_one t_wide t_high t_size u12 u16 r8 r15 t_colours t_now t_file t_fresh t_colour t_table t_last t_one) H := hP
  replace hD : va_D A (zwX9 cI h_t h_t_now h_t_file h_t_fresh h_t_colour h_t_table h_t_last h_t_one t_wide t_high t_size u12 u16 r8 r15 t_colours t_now t_file t_fresh t_colour t_table t_last t_one) := hD
  refine lv_aload_n hx hb dX9_readFirst_33 rfl (lv_at hl 0 rfl) ?_
  obtain ⟨r18, u19, u20, hc21, hf⟩ := zb3_in hf
  refine zc_i (va_runV (As := []) (rest := []) C (mX9_next l D cI H.size h_t h_t_now h_t_file h_t_fresh h_t_colour h_t_table h_t_last h_t_one t_wide t_high t_size u12 u16 r8 r15 t_colours t_now t_file t_fresh t_colour t_table t_last t_one r18 u19 u20 hc21) (qX9_readFirst_X9_next_135 hts) ⟨zP_blind, va_recv hK hP (ci := 8) (q0 := 0) rfl rfl, zpre hK hN hP hD [0, 1, 2, 3, 4, 5, 6, 7] rfl rfl⟩ rfl rfl hl.1 rfl (lv_room (Nat.le_of_ble_eq_true rfl)) dX9_readFirst_34 ⟨Nat.zero_le _, Nat.zero_le _⟩) hP hD hS hA [0, 1, 2, 3, 4, 5, 6, 7] [] [0, 1, 2, 3, 4, 5, 6, 7] (ws' := zwX9 cI h_t h_t_now h_t_file h_t_fresh h_t_colour h_t_table h_t_last h_t_one t_wide t_high t_size u19 u20 r8 r15 t_colours t_now t_file t_fresh t_colour t_table t_last t_one) rfl rfl rfl rfl rfl rfl (fun H locs hP hD hS => ?_)
  refine lv_istore_n (lv' := [(1, .int r18), (0, .ref h_t)]) hx hb dX9_readFirst_37 rfl hl (by decide) rfl (fun ls hl => ?_)
  refine lv_aload_n hx hb dX9_readFirst_38 rfl (lv_at hl 1 rfl) ?_
  refine lv_iload_n hx hb dX9_readFirst_39 rfl (lv_at hl 0 rfl) ?_
  refine lv_iconst (v := 3) hx hb dX9_readFirst_40 (by decide) ?_
  refine lv_icmp_eq (tgt := 53) hx hb dX9_readFirst_41 (by decide) (fun c22 => ?_) (fun c22 => ?_)
  · replace hf := zif_t hf c22
    exact wX9_readFirst_53 C hN hK hA hE hf hP hD hS (lv_sub hl [1, 0] rfl)
  · replace hf := zif_f hf c22
    refine lv_iload_n hx hb dX9_readFirst_44 rfl (lv_at hl 0 rfl) ?_
    refine lv_iconst (v := 4) hx hb dX9_readFirst_45 (by decide) ?_
    refine lv_icmp_eq (tgt := 53) hx hb dX9_readFirst_46 (by decide) (fun c23 => ?_) (fun c23 => ?_)
    · replace hf := zif_t hf c23
      exact wX9_readFirst_53 C hN hK hA hE hf hP hD hS (lv_sub hl [1, 0] rfl)
    · replace hf := zif_f hf c23
      refine lv_iconst (v := 1) hx hb dX9_readFirst_49 (by decide) ?_
      refine lv_goto (tgt := 54) hx hb dX9_readFirst_50 (by decide) ?_
      exact wX9_readFirst_54 C hN hK hA hE hf hP hD hS (lv_sub hl [1, 0] rfl)
set_option maxHeartbeats 4000000 in
set_option maxRecDepth 100000 in
theorem mX9_readFirst (l : Launch) (D : va_G) (cI : ClassId) (sz : Nat) (h_t h_t_now h_t_file h_t_fresh h_t_colour h_t_table h_t_last h_t_one : Nat) (t_wide : Int32) (t_high : Int32) (t_size : Int32) (t_at : Int32) (t_fault : Int32) (t_newWide : Int32) (t_newHigh : Int32) (t_colours : Int32) (t_now : Nat → Int32) (t_file : Nat → Int32) (t_fresh : Nat → Int32) (t_colour : Nat → Int32) (t_table : Nat → Int32) (t_last : Nat → Int32) (t_one : Nat → Int32) (zt_at : Int32) (zt_fault : Int32) (zt_newWide : Int32) (zt_newHigh : Int32) (zt_fresh : Nat → Int32) (zt_table : Nat → Int32) (zt_last : Nat → Int32) (zt_one : Nat → Int32) (hf : fX9_readFirst t_size t_at t_fault t_file t_fresh t_table t_last t_one = some (zt_at, zt_fault, zt_newWide, zt_newHigh, zt_fresh, zt_table, zt_last, zt_one)) : Met l yX9_readFirst wsX9_readFirst rmX9_readFirst (va_Pc [.ref h_t] (zP D [(cI, .int)] (zwX9 cI h_t h_t_now h_t_file h_t_fresh h_t_colour h_t_table h_t_last h_t_one t_wide t_high t_size t_at t_fault t_newWide t_newHigh t_colours t_now t_file t_fresh t_colour t_table t_last t_one) sz)) (zQv D (zwX9 cI h_t h_t_now h_t_file h_t_fresh h_t_colour h_t_table h_t_last h_t_one t_wide t_high t_size t_at t_fault t_newWide t_newHigh t_colours t_now t_file t_fresh t_colour t_table t_last t_one) sz (zwX9 cI h_t h_t_now h_t_file h_t_fresh h_t_colour h_t_table h_t_last h_t_one t_wide t_high t_size zt_at zt_fault zt_newWide zt_newHigh t_colours t_now t_file zt_fresh t_colour zt_table zt_last zt_one)) 0 0 (va_A (zwX9 cI h_t h_t_now h_t_file h_t_fresh h_t_colour h_t_table h_t_last h_t_one t_wide t_high t_size t_at t_fault t_newWide t_newHigh t_colours t_now t_file t_fresh t_colour t_table t_last t_one) sz) := by
  refine Met.ofW (cc := cX9_readFirst) (maxL := 6) (ret := none) (by decide) rfl ?_
  intro p e s m args below meth c s₁ B hml hv
  obtain ⟨rfl, hsz, hP, hK, hD0, hN⟩ := hv
  subst hsz
  have C : CallFix p m c cX9_readFirst 6 s [.ref h_t].toArray wsX9_readFirst RX9 := ⟨B.exec, B.bytes, hml, findClass_of_methodNamed B.named, atoms_spec (ws := wsX9_readFirst) B.pre⟩
  have hl := lv_entry ([.ref h_t]) (n := 6) (Nat.le_of_ble_eq_true rfl)
  rw [lg_entry_eq]
  exact wX9_readFirst_0 (A := va_A (zwX9 cI h_t h_t_now h_t_file h_t_fresh h_t_colour h_t_table h_t_last h_t_one t_wide t_high t_size t_at t_fault t_newWide t_newHigh t_colours t_now t_file t_fresh t_colour t_table t_last t_one) s.heap.size) C hN hK (fun q h => Or.inr h) (fun H locs pc ls d hP hD hS => zend_v C.1 C.2.1 B.returns B.notSynchronized d hP hD hS) hf hP hD0.self va_S.rf hl
