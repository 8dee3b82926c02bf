def fX9_space_24 : Option (Int32) :=
  some 1
def fX9_space (v0 : Int32) : Option (Int32) :=
  if v0 = 9 then
    fX9_space_24
  else
    if v0 = 10 then
      fX9_space_24
    else
      if v0 = 13 then
        fX9_space_24
      else
        if v0 = 32 then
          fX9_space_24
        else
          some 0
def fX9_digit (t_size : Int32) (t_at : Int32) (t_file : Nat → Int32) : Option (Int32) :=
  if t_size ≤ t_at then
    some 0
  else
    zrd t_file 800 t_at fun x2 =>
    if x2 < 48 then
      some 0
    else
      zrd t_file 800 t_at fun x5 =>
      if 57 < x5 then
        some 0
      else
        some 1
def fX9_gaps_61 (rc2 : Int32 → Int32 → Int32 → (Nat → Int32) → Int32 → Option (Int32 × Int32 × Int32)) : Nat → Int32 → Int32 → Int32 → (Nat → Int32) → Int32 → Option (Int32 × Int32 × Int32)
  | 0, _, _, _, _, _ => none
  | n + 1, t_size, t_at, t_fault, t_file, l1 =>
    if t_fault = 0 then
      zb3 (fX9_next t_size t_at t_fault t_file) fun r2 u3 u4 =>
      if r2 = 10 then
        rc2 t_size u3 u4 t_file l1
      else
        zlet (l1 + 1) fun x7 =>
        (fX9_gaps_61 rc2 n) t_size u3 u4 t_file x7
    else
      rc2 t_size t_at t_fault t_file l1
theorem fX9_gaps_61_s (rc2 : Int32 → Int32 → Int32 → (Nat → Int32) → Int32 → Option (Int32 × Int32 × Int32)) (n : Nat) (t_size : Int32) (t_at : Int32) (t_fault : Int32) (t_file : Nat → Int32) (l1 : Int32) : fX9_gaps_61 rc2 (n + 1) t_size t_at t_fault t_file l1 =
    if t_fault = 0 then
      zb3 (fX9_next t_size t_at t_fault t_file) fun r2 u3 u4 =>
      if r2 = 10 then
        rc2 t_size u3 u4 t_file l1
      else
        zlet (l1 + 1) fun x7 =>
        (fX9_gaps_61 rc2 n) t_size u3 u4 t_file x7
    else
      rc2 t_size t_at t_fault t_file l1 := rfl
def fX9_gaps_49 (rc2 : Int32 → Int32 → Int32 → (Nat → Int32) → Int32 → Option (Int32 × Int32 × Int32)) (t_size : Int32) (t_at : Int32) (t_fault : Int32) (t_file : Nat → Int32) (l1 : Int32) : Option (Int32 × Int32 × Int32) :=
  zlet (l1 + 1) fun x1 =>
  zb3 (fX9_next t_size t_at t_fault t_file) fun r2 u3 u4 =>
  if r2 = 35 then
    fX9_gaps_61 rc2 1000 t_size u3 u4 t_file x1
  else
    rc2 t_size u3 u4 t_file x1
def fX9_gaps_2 : Nat → Int32 → Int32 → Int32 → (Nat → Int32) → Int32 → Option (Int32 × Int32 × Int32)
  | 0, _, _, _, _, _ => none
  | n + 1, t_size, t_at, t_fault, t_file, l1 =>
    if t_fault = 0 then
      if t_size ≤ t_at then
        some (l1, t_at, t_fault)
      else
        zrd t_file 800 t_at fun x3 =>
        zb1 (fX9_space x3) fun r5 =>
        if r5 = 0 then
          zrd t_file 800 t_at fun x8 =>
          if x8 = 35 then
            fX9_gaps_49 (fX9_gaps_2 n) t_size t_at t_fault t_file l1
          else
            some (l1, t_at, t_fault)
        else
          fX9_gaps_49 (fX9_gaps_2 n) t_size t_at t_fault t_file l1
    else
      some (l1, t_at, t_fault)
theorem fX9_gaps_2_s (n : Nat) (t_size : Int32) (t_at : Int32) (t_fault : Int32) (t_file : Nat → Int32) (l1 : Int32) : fX9_gaps_2 (n + 1) t_size t_at t_fault t_file l1 =
    if t_fault = 0 then
      if t_size ≤ t_at then
        some (l1, t_at, t_fault)
      else
        zrd t_file 800 t_at fun x3 =>
        zb1 (fX9_space x3) fun r5 =>
        if r5 = 0 then
          zrd t_file 800 t_at fun x8 =>
          if x8 = 35 then
            fX9_gaps_49 (fX9_gaps_2 n) t_size t_at t_fault t_file l1
          else
            some (l1, t_at, t_fault)
        else
          fX9_gaps_49 (fX9_gaps_2 n) t_size t_at t_fault t_file l1
    else
      some (l1, t_at, t_fault) := rfl
def fX9_gaps (t_size : Int32) (t_at : Int32) (t_fault : Int32) (t_file : Nat → Int32) : Option (Int32 × Int32 × Int32) :=
  fX9_gaps_2 1000 t_size t_at t_fault t_file 0
def fX9_decimal_101 (t_at : Int32) (t_fault : Int32) (l2 : Int32) (k1 : Int32) : Option (Int32 × Int32 × Int32) :=
  zb1 (fX9_broken t_fault k1) fun u1 =>
  some (l2, t_at, u1)
def fX9_decimal_96 (t_at : Int32) (t_fault : Int32) (l2 : Int32) : Option (Int32 × Int32 × Int32) :=
  fX9_decimal_101 t_at t_fault l2 1
def fX9_decimal_100 (t_at : Int32) (t_fault : Int32) (l2 : Int32) : Option (Int32 × Int32 × Int32) :=
  fX9_decimal_101 t_at t_fault l2 0
def fX9_decimal_79 (t_size : Int32) (t_at : Int32) (t_fault : Int32) (t_file : Nat → Int32) (l2 : Int32) (l3 : Int32) : Option (Int32 × Int32 × Int32) :=
  if l3 = 0 then
    fX9_decimal_96 t_at t_fault l2
  else
    if l3 = 4 then
      zb1 (fX9_digit t_size t_at t_file) fun r3 =>
      if r3 = 0 then
        fX9_decimal_100 t_at t_fault l2
      else
        fX9_decimal_96 t_at t_fault l2
    else
      fX9_decimal_100 t_at t_fault l2
def fX9_decimal_51 (t_size : Int32) (t_at : Int32) (t_fault : Int32) (t_file : Nat → Int32) (l2 : Int32) (l3 : Int32) : Option (Int32 × Int32 × Int32) :=
  if t_fault = 0 then
    if l3 = 0 then
      if t_at = t_size then
        fX9_decimal_79 t_size t_at (-2) t_file l2 l3
      else
        fX9_decimal_79 t_size t_at t_fault t_file l2 l3
    else
      fX9_decimal_79 t_size t_at t_fault t_file l2 l3
  else
    fX9_decimal_79 t_size t_at t_fault t_file l2 l3
def fX9_decimal_9 : Nat → Int32 → Int32 → Int32 → (Nat → Int32) → Int32 → Int32 → Int32 → Option (Int32 × Int32 × Int32)
  | 0, _, _, _, _, _, _, _ => none
  | n + 1, t_size, t_at, t_fault, t_file, l1, l2, l3 =>
    if t_fault = 0 then
      if 4 ≤ l3 then
        fX9_decimal_51 t_size t_at t_fault t_file l2 l3
      else
        zb1 (fX9_digit t_size t_at t_file) fun r3 =>
        if r3 = 0 then
          fX9_decimal_51 t_size t_at t_fault t_file l2 l3
        else
          if l1 ≤ 0 then
            fX9_decimal_51 t_size t_at t_fault t_file l2 l3
          else
            zb3 (fX9_next t_size t_at t_fault t_file) fun r7 u8 u9 =>
            zlet (((10 * l2) + r7) - 48) fun x11 =>
            zlet (l3 + 1) fun x12 =>
            (fX9_decimal_9 n) t_size u8 u9 t_file l1 x11 x12
    else
      fX9_decimal_51 t_size t_at t_fault t_file l2 l3
theorem fX9_decimal_9_s (n : Nat) (t_size : Int32) (t_at : Int32) (t_fault : Int32) (t_file : Nat → Int32) (l1 : Int32) (l2 : Int32) (l3 : Int32) : fX9_decimal_9 (n + 1) t_size t_at t_fault t_file l1 l2 l3 =
    if t_fault = 0 then
      if 4 ≤ l3 then
        fX9_decimal_51 t_size t_at t_fault t_file l2 l3
      else
        zb1 (fX9_digit t_size t_at t_file) fun r3 =>
        if r3 = 0 then
          fX9_decimal_51 t_size t_at t_fault t_file l2 l3
        else
          if l1 ≤ 0 then
            fX9_decimal_51 t_size t_at t_fault t_file l2 l3
          else
            zb3 (fX9_next t_size t_at t_fault t_file) fun r7 u8 u9 =>
            zlet (((10 * l2) + r7) - 48) fun x11 =>
            zlet (l3 + 1) fun x12 =>
            (fX9_decimal_9 n) t_size u8 u9 t_file l1 x11 x12
    else
      fX9_decimal_51 t_size t_at t_fault t_file l2 l3 := rfl
def fX9_decimal (t_size : Int32) (t_at : Int32) (t_fault : Int32) (t_file : Nat → Int32) : Option (Int32 × Int32 × Int32) :=
  zb3 (fX9_gaps t_size t_at t_fault t_file) fun r1 u2 u3 =>
  fX9_decimal_9 1000 t_size u2 u3 t_file r1 0 0
def fX9_readSecond_311 (t_at : Int32) (t_fault : Int32) (t_newWide : Int32) (t_newHigh : Int32) (t_fresh : Nat → Int32) (t_one : Nat → Int32) (k1 : Int32) : Option (Int32 × Int32 × Int32 × Int32 × (Nat → Int32) × (Nat → Int32)) :=
  zb1 (fX9_broken t_fault k1) fun u1 =>
  some (t_at, u1, t_newWide, t_newHigh, t_fresh, t_one)
def fX9_readSecond_294 (t_size : Int32) (t_at : Int32) (t_fault : Int32) (t_newWide : Int32) (t_newHigh : Int32) (t_fresh : Nat → Int32) (t_one : Nat → Int32) : Option (Int32 × Int32 × Int32 × Int32 × (Nat → Int32) × (Nat → Int32)) :=
  if t_size ≤ t_at then
    fX9_readSecond_311 t_at t_fault t_newWide t_newHigh t_fresh t_one 0
  else
    fX9_readSecond_311 t_at t_fault t_newWide t_newHigh t_fresh t_one 1
def fX9_readSecond_285 (t_size : Int32) (t_at : Int32) (t_fault : Int32) (t_newWide : Int32) (t_newHigh : Int32) (t_file : Nat → Int32) (t_fresh : Nat → Int32) (t_one : Nat → Int32) (l3 : Int32) : Option (Int32 × Int32 × Int32 × Int32 × (Nat → Int32) × (Nat → Int32)) :=
  if l3 = 0 then
    fX9_readSecond_294 t_size t_at t_fault t_newWide t_newHigh t_fresh t_one
  else
    zb3 (fX9_gaps t_size t_at t_fault t_file) fun r2 u3 u4 =>
    fX9_readSecond_294 t_size u3 u4 t_newWide t_newHigh t_fresh t_one
def fX9_readSecond_267 (rc119 : Int32 → Int32 → Int32 → Int32 → Int32 → (Nat → Int32) → (Nat → Int32) → (Nat → Int32) → Int32 → Int32 → Int32 → Int32 → Option (Int32 × Int32 × Int32 × Int32 × (Nat → Int32) × (Nat → Int32))) (t_size : Int32) (t_at : Int32) (t_fault : Int32) (t_newWide : Int32) (t_newHigh : Int32) (t_file : Nat → Int32) (t_fresh : Nat → Int32) (t_one : Nat → Int32) (l2 : Int32) (l3 : Int32) (l4 : Int32) (l5 : Int32) (k1 : Int32) (k2 : Int32) (k3 : Int32) : Option (Int32 × Int32 × Int32 × Int32 × (Nat → Int32) × (Nat → Int32)) :=
  zb1 (fX9_tone t_one k1 k2 k3 255) fun u1 =>
  zb1 (fX9_set t_fault t_newWide t_fresh u1 l5) fun u3 =>
  zlet (l5 + 1) fun x5 =>
  rc119 t_size t_at t_fault t_newWide t_newHigh t_file u3 u1 l2 l3 l4 x5
def fX9_readSecond_246 (rc119 : Int32 → Int32 → Int32 → Int32 → Int32 → (Nat → Int32) → (Nat → Int32) → (Nat → Int32) → Int32 → Int32 → Int32 → Int32 → Option (Int32 × Int32 × Int32 × Int32 × (Nat → Int32) × (Nat → Int32))) (t_size : Int32) (t_at : Int32) (t_fault : Int32) (t_newWide : Int32) (t_newHigh : Int32) (t_file : Nat → Int32) (t_fresh : Nat → Int32) (t_one : Nat → Int32) (l2 : Int32) (l3 : Int32) (l4 : Int32) (l5 : Int32) (k1 : Int32) (k2 : Int32) : Option (Int32 × Int32 × Int32 × Int32 × (Nat → Int32) × (Nat → Int32)) :=
  if l4 = 1 then
    zrd t_one 4 0 fun x4 =>
    fX9_readSecond_267 rc119 t_size t_at t_fault t_newWide t_newHigh t_file t_fresh t_one l2 l3 l4 l5 k1 k2 x4
  else
    zrd t_one 4 2 fun x2 =>
    fX9_readSecond_267 rc119 t_size t_at t_fault t_newWide t_newHigh t_file t_fresh t_one l2 l3 l4 l5 k1 k2 x2
def fX9_readSecond_211 (rc119 : Int32 → Int32 → Int32 → Int32 → Int32 → (Nat → Int32) → (Nat → Int32) → (Nat → Int32) → Int32 → Int32 → Int32 → Int32 → Option (Int32 × Int32 × Int32 × Int32 × (Nat → Int32) × (Nat → Int32))) (rc143 : Int32 → Int32 → Int32 → Int32 → Int32 → (Nat → Int32) → (Nat → Int32) → (Nat → Int32) → Int32 → Int32 → Int32 → Int32 → Int32 → Option (Int32 × Int32 × Int32 × Int32 × (Nat → Int32) × (Nat → Int32))) (t_size : Int32) (t_at : Int32) (t_fault : Int32) (t_newWide : Int32) (t_newHigh : Int32) (t_file : Nat → Int32) (t_fresh : Nat → Int32) (t_one : Nat → Int32) (l2 : Int32) (l3 : Int32) (l4 : Int32) (l5 : Int32) (l6 : Int32) (k1 : Int32) (k2 : Int32) : Option (Int32 × Int32 × Int32 × Int32 × (Nat → Int32) × (Nat → Int32)) :=
  zwr t_one 4 k1 k2 fun g1 =>
  zlet (l6 + 1) fun x3 =>
  rc143 t_size t_at t_fault t_newWide t_newHigh t_file t_fresh g1 l2 l3 l4 l5 x3
def fX9_readSecond_179 (rc119 : Int32 → Int32 → Int32 → Int32 → Int32 → (Nat → Int32) → (Nat → Int32) → (Nat → Int32) → Int32 → Int32 → Int32 → Int32 → Option (Int32 × Int32 × Int32 × Int32 × (Nat → Int32) × (Nat → Int32))) (rc143 : Int32 → Int32 → Int32 → Int32 → Int32 → (Nat → Int32) → (Nat → Int32) → (Nat → Int32) → Int32 → Int32 → Int32 → Int32 → Int32 → Option (Int32 × Int32 × Int32 × Int32 × (Nat → Int32) × (Nat → Int32))) (t_size : Int32) (t_at : Int32) (t_fault : Int32) (t_newWide : Int32) (t_newHigh : Int32) (t_file : Nat → Int32) (t_fresh : Nat → Int32) (t_one : Nat → Int32) (l2 : Int32) (l3 : Int32) (l4 : Int32) (l5 : Int32) (l6 : Int32) (l7 : Int32) (k1 : Int32) : Option (Int32 × Int32 × Int32 × Int32 × (Nat → Int32) × (Nat → Int32)) :=
  zb1 (fX9_broken t_fault k1) fun u1 =>
  if u1 = 0 then
    znz l2 <|
    fX9_readSecond_211 rc119 rc143 t_size t_at u1 t_newWide t_newHigh t_file t_fresh t_one l2 l3 l4 l5 l6 l6 (((l7 * 255) + (l2 / 2)) / l2)
  else
    fX9_readSecond_211 rc119 rc143 t_size t_at u1 t_newWide t_newHigh t_file t_fresh t_one l2 l3 l4 l5 l6 l6 0
def fX9_readSecond_165 (rc119 : Int32 → Int32 → Int32 → Int32 → Int32 → (Nat → Int32) → (Nat → Int32) → (Nat → Int32) → Int32 → Int32 → Int32 → Int32 → Option (Int32 × Int32 × Int32 × Int32 × (Nat → Int32) × (Nat → Int32))) (rc143 : Int32 → Int32 → Int32 → Int32 → Int32 → (Nat → Int32) → (Nat → Int32) → (Nat → Int32) → Int32 → Int32 → Int32 → Int32 → Int32 → Option (Int32 × Int32 × Int32 × Int32 × (Nat → Int32) × (Nat → Int32))) (t_size : Int32) (t_at : Int32) (t_fault : Int32) (t_newWide : Int32) (t_newHigh : Int32) (t_file : Nat → Int32) (t_fresh : Nat → Int32) (t_one : Nat → Int32) (l2 : Int32) (l3 : Int32) (l4 : Int32) (l5 : Int32) (l6 : Int32) (k0 : Int32) : Option (Int32 × Int32 × Int32 × Int32 × (Nat → Int32) × (Nat → Int32)) :=
  if k0 ≤ l2 then
    fX9_readSecond_179 rc119 rc143 t_size t_at t_fault t_newWide t_newHigh t_file t_fresh t_one l2 l3 l4 l5 l6 k0 0
  else
    fX9_readSecond_179 rc119 rc143 t_size t_at t_fault t_newWide t_newHigh t_file t_fresh t_one l2 l3 l4 l5 l6 k0 1
def fX9_readSecond_143 (rc119 : Int32 → Int32 → Int32 → Int32 → Int32 → (Nat → Int32) → (Nat → Int32) → (Nat → Int32) → Int32 → Int32 → Int32 → Int32 → Option (Int32 × Int32 × Int32 × Int32 × (Nat → Int32) × (Nat → Int32))) : Nat → Int32 → Int32 → Int32 → Int32 → Int32 → (Nat → Int32) → (Nat → Int32) → (Nat → Int32) → Int32 → Int32 → Int32 → Int32 → Int32 → Option (Int32 × Int32 × Int32 × Int32 × (Nat → Int32) × (Nat → Int32))
  | 0, _, _, _, _, _, _, _, _, _, _, _, _, _ => none
  | n + 1, t_size, t_at, t_fault, t_newWide, t_newHigh, t_file, t_fresh, t_one, l2, l3, l4, l5, l6 =>
    if l4 ≤ l6 then
      zrd t_one 4 0 fun x2 =>
      if l4 = 1 then
        zrd t_one 4 0 fun x7 =>
        fX9_readSecond_246 rc119 t_size t_at t_fault t_newWide t_newHigh t_file t_fresh t_one l2 l3 l4 l5 x2 x7
      else
        zrd t_one 4 1 fun x5 =>
        fX9_readSecond_246 rc119 t_size t_at t_fault t_newWide t_newHigh t_file t_fresh t_one l2 l3 l4 l5 x2 x5
    else
      if l3 = 0 then
        zb3 (fX9_next t_size t_at t_fault t_file) fun r10 u11 u12 =>
        fX9_readSecond_165 rc119 (fX9_readSecond_143 rc119 n) t_size u11 u12 t_newWide t_newHigh t_file t_fresh t_one l2 l3 l4 l5 l6 r10
      else
        zb3 (fX9_decimal t_size t_at t_fault t_file) fun r14 u15 u16 =>
        fX9_readSecond_165 rc119 (fX9_readSecond_143 rc119 n) t_size u15 u16 t_newWide t_newHigh t_file t_fresh t_one l2 l3 l4 l5 l6 r14
theorem fX9_readSecond_143_s (rc119 : Int32 → Int32 → Int32 → Int32 → Int32 → (Nat → Int32) → (Nat → Int32) → (Nat → Int32) → Int32 → Int32 → Int32 → Int32 → Option (Int32 × Int32 × Int32 × Int32 × (Nat → Int32) × (Nat → Int32))) (n : Nat) (t_size : Int32) (t_at : Int32) (t_fault : Int32) (t_newWide : Int32) (t_newHigh : Int32) (t_file : Nat → Int32) (t_fresh : Nat → Int32) (t_one : Nat → Int32) (l2 : Int32) (l3 : Int32) (l4 : Int32) (l5 : Int32) (l6 : Int32) : fX9_readSecond_143 rc119 (n + 1) t_size t_at t_fault t_newWide t_newHigh t_file t_fresh t_one l2 l3 l4 l5 l6 =
    if l4 ≤ l6 then
      zrd t_one 4 0 fun x2 =>
      if l4 = 1 then
        zrd t_one 4 0 fun x7 =>
        fX9_readSecond_246 rc119 t_size t_at t_fault t_newWide t_newHigh t_file t_fresh t_one l2 l3 l4 l5 x2 x7
      else
        zrd t_one 4 1 fun x5 =>
        fX9_readSecond_246 rc119 t_size t_at t_fault t_newWide t_newHigh t_file t_fresh t_one l2 l3 l4 l5 x2 x5
    else
      if l3 = 0 then
        zb3 (fX9_next t_size t_at t_fault t_file) fun r10 u11 u12 =>
        fX9_readSecond_165 rc119 (fX9_readSecond_143 rc119 n) t_size u11 u12 t_newWide t_newHigh t_file t_fresh t_one l2 l3 l4 l5 l6 r10
      else
        zb3 (fX9_decimal t_size t_at t_fault t_file) fun r14 u15 u16 =>
        fX9_readSecond_165 rc119 (fX9_readSecond_143 rc119 n) t_size u15 u16 t_newWide t_newHigh t_file t_fresh t_one l2 l3 l4 l5 l6 r14 := rfl
def fX9_readSecond_119 : Nat → Int32 → Int32 → Int32 → Int32 → Int32 → (Nat → Int32) → (Nat → Int32) → (Nat → Int32) → Int32 → Int32 → Int32 → Int32 → Option (Int32 × Int32 × Int32 × Int32 × (Nat → Int32) × (Nat → Int32))
  | 0, _, _, _, _, _, _, _, _, _, _, _, _ => none
  | n + 1, t_size, t_at, t_fault, t_newWide, t_newHigh, t_file, t_fresh, t_one, l2, l3, l4, l5 =>
    if t_fault = 0 then
      if (t_newWide * t_newHigh) ≤ l5 then
        fX9_readSecond_285 t_size t_at t_fault t_newWide t_newHigh t_file t_fresh t_one l3
      else
        fX9_readSecond_143 (fX9_readSecond_119 n) 1000 t_size t_at t_fault t_newWide t_newHigh t_file t_fresh t_one l2 l3 l4 l5 0
    else
      fX9_readSecond_285 t_size t_at t_fault t_newWide t_newHigh t_file t_fresh t_one l3
theorem fX9_readSecond_119_s (n : Nat) (t_size : Int32) (t_at : Int32) (t_fault : Int32) (t_newWide : Int32) (t_newHigh : Int32) (t_file : Nat → Int32) (t_fresh : Nat → Int32) (t_one : Nat → Int32) (l2 : Int32) (l3 : Int32) (l4 : Int32) (l5 : Int32) : fX9_readSecond_119 (n + 1) t_size t_at t_fault t_newWide t_newHigh t_file t_fresh t_one l2 l3 l4 l5 =
    if t_fault = 0 then
      if (t_newWide * t_newHigh) ≤ l5 then
        fX9_readSecond_285 t_size t_at t_fault t_newWide t_newHigh t_file t_fresh t_one l3
      else
        fX9_readSecond_143 (fX9_readSecond_119 n) 1000 t_size t_at t_fault t_newWide t_newHigh t_file t_fresh t_one l2 l3 l4 l5 0
    else
      fX9_readSecond_285 t_size t_at t_fault t_newWide t_newHigh t_file t_fresh t_one l3 := rfl
def fX9_readSecond_114 (t_size : Int32) (t_at : Int32) (t_fault : Int32) (t_newWide : Int32) (t_newHigh : Int32) (t_file : Nat → Int32) (t_fresh : Nat → Int32) (t_one : Nat → Int32) (l2 : Int32) (l3 : Int32) (k0 : Int32) : Option (Int32 × Int32 × Int32 × Int32 × (Nat → Int32) × (Nat → Int32)) :=
  fX9_readSecond_119 1000 t_size t_at t_fault t_newWide t_newHigh t_file t_fresh t_one l2 l3 k0 0
def fX9_readSecond_109 (t_size : Int32) (t_at : Int32) (t_fault : Int32) (t_newWide : Int32) (t_newHigh : Int32) (t_file : Nat → Int32) (t_fresh : Nat → Int32) (t_one : Nat → Int32) (l2 : Int32) (l3 : Int32) : Option (Int32 × Int32 × Int32 × Int32 × (Nat → Int32) × (Nat → Int32)) :=
  fX9_readSecond_114 t_size t_at t_fault t_newWide t_newHigh t_file t_fresh t_one l2 l3 3
def fX9_readSecond_97 (t_size : Int32) (t_at : Int32) (t_fault : Int32) (t_newWide : Int32) (t_newHigh : Int32) (t_file : Nat → Int32) (t_fresh : Nat → Int32) (t_one : Nat → Int32) (l1 : Int32) (l2 : Int32) (l3 : Int32) : Option (Int32 × Int32 × Int32 × Int32 × (Nat → Int32) × (Nat → Int32)) :=
  if l1 = 51 then
    fX9_readSecond_109 t_size t_at t_fault t_newWide t_newHigh t_file t_fresh t_one l2 l3
  else
    if l1 = 54 then
      fX9_readSecond_109 t_size t_at t_fault t_newWide t_newHigh t_file t_fresh t_one l2 l3
    else
      fX9_readSecond_114 t_size t_at t_fault t_newWide t_newHigh t_file t_fresh t_one l2 l3 1
def fX9_readSecond_94 (t_size : Int32) (t_at : Int32) (t_fault : Int32) (t_newWide : Int32) (t_newHigh : Int32) (t_file : Nat → Int32) (t_fresh : Nat → Int32) (t_one : Nat → Int32) (l1 : Int32) (l2 : Int32) (l3 : Int32) (k1 : Int32) : Option (Int32 × Int32 × Int32 × Int32 × (Nat → Int32) × (Nat → Int32)) :=
  zb1 (fX9_broken t_fault k1) fun u1 =>
  fX9_readSecond_97 t_size t_at u1 t_newWide t_newHigh t_file t_fresh t_one l1 l2 l3
def fX9_readSecond_73 (t_size : Int32) (t_at : Int32) (t_fault : Int32) (t_newWide : Int32) (t_newHigh : Int32) (t_file : Nat → Int32) (t_fresh : Nat → Int32) (t_one : Nat → Int32) (l1 : Int32) (l2 : Int32) (k0 : Int32) : Option (Int32 × Int32 × Int32 × Int32 × (Nat → Int32) × (Nat → Int32)) :=
  if k0 = 0 then
    zb3 (fX9_next t_size t_at t_fault t_file) fun r2 u3 u4 =>
    zb1 (fX9_space r2) fun r6 =>
    if r6 = 0 then
      fX9_readSecond_94 t_size u3 u4 t_newWide t_newHigh t_file t_fresh t_one l1 l2 k0 1
    else
      fX9_readSecond_94 t_size u3 u4 t_newWide t_newHigh t_file t_fresh t_one l1 l2 k0 0
  else
    fX9_readSecond_97 t_size t_at t_fault t_newWide t_newHigh t_file t_fresh t_one l1 l2 k0
def fX9_readSecond_59 (t_size : Int32) (t_at : Int32) (t_fault : Int32) (t_newWide : Int32) (t_newHigh : Int32) (t_file : Nat → Int32) (t_fresh : Nat → Int32) (t_one : Nat → Int32) (l1 : Int32) (l2 : Int32) (k1 : Int32) : Option (Int32 × Int32 × Int32 × Int32 × (Nat → Int32) × (Nat → Int32)) :=
  zb1 (fX9_broken t_fault k1) fun u1 =>
  if 53 ≤ l1 then
    fX9_readSecond_73 t_size t_at u1 t_newWide t_newHigh t_file t_fresh t_one l1 l2 0
  else
    fX9_readSecond_73 t_size t_at u1 t_newWide t_newHigh t_file t_fresh t_one l1 l2 1
def fX9_readSecond_54 (t_size : Int32) (t_at : Int32) (t_fault : Int32) (t_newWide : Int32) (t_newHigh : Int32) (t_file : Nat → Int32) (t_fresh : Nat → Int32) (t_one : Nat → Int32) (l1 : Int32) (l2 : Int32) : Option (Int32 × Int32 × Int32 × Int32 × (Nat → Int32) × (Nat → Int32)) :=
  fX9_readSecond_59 t_size t_at t_fault t_newWide t_newHigh t_file t_fresh t_one l1 l2 1
def fX9_readSecond (t_size : Int32) (t_at : Int32) (t_fault : Int32) (t_file : Nat → Int32) (t_fresh : Nat → Int32) (t_one : Nat → Int32) : Option (Int32 × Int32 × Int32 × Int32 × (Nat → Int32) × (Nat → Int32)) :=
  zrd t_file 800 1 fun x1 =>
  zb2 (fX9_skip t_size t_at t_fault t_file 2) fun u3 u4 =>
  zb3 (fX9_decimal t_size u3 u4 t_file) fun r6 u7 u8 =>
  zb2 (fX9_sideOf u8 r6) fun r10 u11 =>
  zb3 (fX9_decimal t_size u7 u11 t_file) fun r13 u14 u15 =>
  zb2 (fX9_sideOf u15 r13) fun r17 u18 =>
  zb3 (fX9_decimal t_size u14 u18 t_file) fun r20 u21 u22 =>
  if r20 < 1 then
    fX9_readSecond_54 t_size u21 u22 r10 r17 t_file t_fresh t_one x1 r20
  else
    if r20 ≤ 255 then
      fX9_readSecond_59 t_size u21 u22 r10 r17 t_file t_fresh t_one x1 r20 0
    else
      fX9_readSecond_54 t_size u21 u22 r10 r17 t_file t_fresh t_one x1 r20
def fX9_colourTone_14 (t_fault : Int32) (t_colour : Nat → Int32) (t_one : Nat → Int32) (l1 : Int32) (k1 : Int32) : Option (Int32 × (Nat → Int32)) :=
  zb1 (fX9_broken t_fault k1) fun u1 =>
  if u1 = 0 then
    zrd t_colour 256 (4 * l1) fun x4 =>
    zrd t_colour 256 ((4 * l1) + 1) fun x6 =>
    zrd t_colour 256 ((4 * l1) + 2) fun x8 =>
    zb1 (fX9_tone t_one x4 x6 x8 255) fun u10 =>
    some (u1, u10)
  else
    some (u1, t_one)
def fX9_colourTone (t_fault : Int32) (t_colours : Int32) (t_colour : Nat → Int32) (t_one : Nat → Int32) (v0 : Int32) : Option (Int32 × (Nat → Int32)) :=
  if v0 < t_colours then
    fX9_colourTone_14 t_fault t_colour t_one v0 0
  else
    fX9_colourTone_14 t_fault t_colour t_one v0 1
def fX9_plain_143 (rc2 : Int32 → Int32 → Int32 → Int32 → Int32 → Int32 → (Nat → Int32) → (Nat → Int32) → (Nat → Int32) → (Nat → Int32) → Int32 → Int32 → Int32 → Option (Int32 × Int32 × (Nat → Int32) × (Nat → Int32))) (t_size : Int32) (t_at : Int32) (t_fault : Int32) (t_newWide : Int32) (t_newHigh : Int32) (t_colours : Int32) (t_file : Nat → Int32) (t_fresh : Nat → Int32) (t_colour : Nat → Int32) (t_one : Nat → Int32) (l1 : Int32) (l2 : Int32) (l3 : Int32) (k1 : Int32) : Option (Int32 × Int32 × (Nat → Int32) × (Nat → Int32)) :=
  zb2 (fX9_skip t_size t_at t_fault t_file k1) fun u1 u2 =>
  zlet (l3 + 1) fun x4 =>
  rc2 t_size u1 u2 t_newWide t_newHigh t_colours t_file t_fresh t_colour t_one l1 l2 x4
def fX9_plain_118 (rc2 : Int32 → Int32 → Int32 → Int32 → Int32 → Int32 → (Nat → Int32) → (Nat → Int32) → (Nat → Int32) → (Nat → Int32) → Int32 → Int32 → Int32 → Option (Int32 × Int32 × (Nat → Int32) × (Nat → Int32))) (t_size : Int32) (t_at : Int32) (t_fault : Int32) (t_newWide : Int32) (t_newHigh : Int32) (t_colours : Int32) (t_file : Nat → Int32) (t_fresh : Nat → Int32) (t_colour : Nat → Int32) (t_one : Nat → Int32) (l1 : Int32) (l2 : Int32) (l3 : Int32) : Option (Int32 × Int32 × (Nat → Int32) × (Nat → Int32)) :=
  if l1 = 8 then
    fX9_plain_143 rc2 t_size t_at t_fault t_newWide t_newHigh t_colours t_file t_fresh t_colour t_one l1 l2 l3 (zrem (8 - t_newWide) 4)
  else
    fX9_plain_143 rc2 t_size t_at t_fault t_newWide t_newHigh t_colours t_file t_fresh t_colour t_one l1 l2 l3 (zrem t_newWide 4)
def fX9_plain_98 (rc2 : Int32 → Int32 → Int32 → Int32 → Int32 → Int32 → (Nat → Int32) → (Nat → Int32) → (Nat → Int32) → (Nat → Int32) → Int32 → Int32 → Int32 → Option (Int32 × Int32 × (Nat → Int32) × (Nat → Int32))) (rc38 : Int32 → Int32 → Int32 → Int32 → Int32 → Int32 → (Nat → Int32) → (Nat → Int32) → (Nat → Int32) → (Nat → Int32) → Int32 → Int32 → Int32 → Int32 → Int32 → Option (Int32 × Int32 × (Nat → Int32) × (Nat → Int32))) (t_size : Int32) (t_at : Int32) (t_fault : Int32) (t_newWide : Int32) (t_newHigh : Int32) (t_colours : Int32) (t_file : Nat → Int32) (t_fresh : Nat → Int32) (t_colour : Nat → Int32) (t_one : Nat → Int32) (l1 : Int32) (l2 : Int32) (l3 : Int32) (l4 : Int32) (l5 : Int32) : Option (Int32 × Int32 × (Nat → Int32) × (Nat → Int32)) :=
  zb1 (fX9_set t_fault t_newWide t_fresh t_one ((t_newWide * l4) + l5)) fun u1 =>
  zlet (l5 + 1) fun x3 =>
  rc38 t_size t_at t_fault t_newWide t_newHigh t_colours t_file u1 t_colour t_one l1 l2 l3 l4 x3
def fX9_plain_38 (rc2 : Int32 → Int32 → Int32 → Int32 → Int32 → Int32 → (Nat → Int32) → (Nat → Int32) → (Nat → Int32) → (Nat → Int32) → Int32 → Int32 → Int32 → Option (Int32 × Int32 × (Nat → Int32) × (Nat → Int32))) : Nat → Int32 → Int32 → Int32 → Int32 → Int32 → Int32 → (Nat → Int32) → (Nat → Int32) → (Nat → Int32) → (Nat → Int32) → Int32 → Int32 → Int32 → Int32 → Int32 → Option (Int32 × Int32 × (Nat → Int32) × (Nat → Int32))
  | 0, _, _, _, _, _, _, _, _, _, _, _, _, _, _, _ => none
  | n + 1, t_size, t_at, t_fault, t_newWide, t_newHigh, t_colours, t_file, t_fresh, t_colour, t_one, l1, l2, l3, l4, l5 =>
    if t_newWide ≤ l5 then
      fX9_plain_118 rc2 t_size t_at t_fault t_newWide t_newHigh t_colours t_file t_fresh t_colour t_one l1 l2 l3
    else
      if t_fault = 0 then
        if l1 = 8 then
          zb3 (fX9_next t_size t_at t_fault t_file) fun r18 u19 u20 =>
          zb2 (fX9_colourTone u20 t_colours t_colour t_one r18) fun u22 u23 =>
          fX9_plain_98 rc2 (fX9_plain_38 rc2 n) t_size u19 u22 t_newWide t_newHigh t_colours t_file t_fresh t_colour u23 l1 l2 l3 l4 l5
        else
          zb3 (fX9_next t_size t_at t_fault t_file) fun r4 u5 u6 =>
          zb3 (fX9_next t_size u5 u6 t_file) fun r8 u9 u10 =>
          zb3 (fX9_next t_size u9 u10 t_file) fun r12 u13 u14 =>
          zb1 (fX9_tone t_one r12 r8 r4 255) fun u16 =>
          fX9_plain_98 rc2 (fX9_plain_38 rc2 n) t_size u13 u14 t_newWide t_newHigh t_colours t_file t_fresh t_colour u16 l1 l2 l3 l4 l5
      else
        fX9_plain_118 rc2 t_size t_at t_fault t_newWide t_newHigh t_colours t_file t_fresh t_colour t_one l1 l2 l3
theorem fX9_plain_38_s (rc2 : Int32 → Int32 → Int32 → Int32 → Int32 → Int32 → (Nat → Int32) → (Nat → Int32) → (Nat → Int32) → (Nat → Int32) → Int32 → Int32 → Int32 → Option (Int32 × Int32 × (Nat → Int32) × (Nat → Int32))) (n : Nat) (t_size : Int32) (t_at : Int32) (t_fault : Int32) (t_newWide : Int32) (t_newHigh : Int32) (t_colours : Int32) (t_file : Nat → Int32) (t_fresh : Nat → Int32) (t_colour : Nat → Int32) (t_one : Nat → Int32) (l1 : Int32) (l2 : Int32) (l3 : Int32) (l4 : Int32) (l5 : Int32) : fX9_plain_38 rc2 (n + 1) t_size t_at t_fault t_newWide t_newHigh t_colours t_file t_fresh t_colour t_one l1 l2 l3 l4 l5 =
    if t_newWide ≤ l5 then
      fX9_plain_118 rc2 t_size t_at t_fault t_newWide t_newHigh t_colours t_file t_fresh t_colour t_one l1 l2 l3
    else
      if t_fault = 0 then
        if l1 = 8 then
          zb3 (fX9_next t_size t_at t_fault t_file) fun r18 u19 u20 =>
          zb2 (fX9_colourTone u20 t_colours t_colour t_one r18) fun u22 u23 =>
          fX9_plain_98 rc2 (fX9_plain_38 rc2 n) t_size u19 u22 t_newWide t_newHigh t_colours t_file t_fresh t_colour u23 l1 l2 l3 l4 l5
        else
          zb3 (fX9_next t_size t_at t_fault t_file) fun r4 u5 u6 =>
          zb3 (fX9_next t_size u5 u6 t_file) fun r8 u9 u10 =>
          zb3 (fX9_next t_size u9 u10 t_file) fun r12 u13 u14 =>
          zb1 (fX9_tone t_one r12 r8 r4 255) fun u16 =>
          fX9_plain_98 rc2 (fX9_plain_38 rc2 n) t_size u13 u14 t_newWide t_newHigh t_colours t_file t_fresh t_colour u16 l1 l2 l3 l4 l5
      else
        fX9_plain_118 rc2 t_size t_at t_fault t_newWide t_newHigh t_colours t_file t_fresh t_colour t_one l1 l2 l3 := rfl
def fX9_plain_33 (rc2 : Int32 → Int32 → Int32 → Int32 → Int32 → Int32 → (Nat → Int32) → (Nat → Int32) → (Nat → Int32) → (Nat → Int32) → Int32 → Int32 → Int32 → Option (Int32 × Int32 × (Nat → Int32) × (Nat → Int32))) (t_size : Int32) (t_at : Int32) (t_fault : Int32) (t_newWide : Int32) (t_newHigh : Int32) (t_colours : Int32) (t_file : Nat → Int32) (t_fresh : Nat → Int32) (t_colour : Nat → Int32) (t_one : Nat → Int32) (l1 : Int32) (l2 : Int32) (l3 : Int32) (k0 : Int32) : Option (Int32 × Int32 × (Nat → Int32) × (Nat → Int32)) :=
  fX9_plain_38 rc2 1000 t_size t_at t_fault t_newWide t_newHigh t_colours t_file t_fresh t_colour t_one l1 l2 l3 k0 0
def fX9_plain_2 : Nat → Int32 → Int32 → Int32 → Int32 → Int32 → Int32 → (Nat → Int32) → (Nat → Int32) → (Nat → Int32) → (Nat → Int32) → Int32 → Int32 → Int32 → Option (Int32 × Int32 × (Nat → Int32) × (Nat → Int32))
  | 0, _, _, _, _, _, _, _, _, _, _, _, _, _ => none
  | n + 1, t_size, t_at, t_fault, t_newWide, t_newHigh, t_colours, t_file, t_fresh, t_colour, t_one, l1, l2, l3 =>
    if t_newHigh ≤ l3 then
      some (t_at, t_fault, t_fresh, t_one)
    else
      if t_fault = 0 then
        if l2 = 0 then
          fX9_plain_33 (fX9_plain_2 n) t_size t_at t_fault t_newWide t_newHigh t_colours t_file t_fresh t_colour t_one l1 l2 l3 l3
        else
          fX9_plain_33 (fX9_plain_2 n) t_size t_at t_fault t_newWide t_newHigh t_colours t_file t_fresh t_colour t_one l1 l2 l3 ((t_newHigh - 1) - l3)
      else
        some (t_at, t_fault, t_fresh, t_one)
theorem fX9_plain_2_s (n : Nat) (t_size : Int32) (t_at : Int32) (t_fault : Int32) (t_newWide : Int32) (t_newHigh : Int32) (t_colours : Int32) (t_file : Nat → Int32) (t_fresh : Nat → Int32) (t_colour : Nat → Int32) (t_one : Nat → Int32) (l1 : Int32) (l2 : Int32) (l3 : Int32) : fX9_plain_2 (n + 1) t_size t_at t_fault t_newWide t_newHigh t_colours t_file t_fresh t_colour t_one l1 l2 l3 =
    if t_newHigh ≤ l3 then
      some (t_at, t_fault, t_fresh, t_one)
    else
      if t_fault = 0 then
        if l2 = 0 then
          fX9_plain_33 (fX9_plain_2 n) t_size t_at t_fault t_newWide t_newHigh t_colours t_file t_fresh t_colour t_one l1 l2 l3 l3
        else
          fX9_plain_33 (fX9_plain_2 n) t_size t_at t_fault t_newWide t_newHigh t_colours t_file t_fresh t_colour t_one l1 l2 l3 ((t_newHigh - 1) - l3)
      else
        some (t_at, t_fault, t_fresh, t_one) := rfl
def fX9_plain (t_size : Int32) (t_at : Int32) (t_fault : Int32) (t_newWide : Int32) (t_newHigh : Int32) (t_colours : Int32) (t_file : Nat → Int32) (t_fresh : Nat → Int32) (t_colour : Nat → Int32) (t_one : Nat → Int32) (v0 : Int32) (v1 : Int32) : Option (Int32 × Int32 × (Nat → Int32) × (Nat → Int32)) :=
  fX9_plain_2 1000 t_size t_at t_fault t_newWide t_newHigh t_colours t_file t_fresh t_colour t_one v0 v1 0
def fX9_dab_22 (t_fault : Int32) (t_newWide : Int32) (t_newHigh : Int32) (t_colours : Int32) (t_fresh : Nat → Int32) (t_colour : Nat → Int32) (t_one : Nat → Int32) (l1 : Int32) (l2 : Int32) (l3 : Int32) (k1 : Int32) : Option (Int32 × (Nat → Int32) × (Nat → Int32)) :=
  zb1 (fX9_broken t_fault k1) fun u1 =>
  zb2 (fX9_colourTone u1 t_colours t_colour t_one l3) fun u3 u4 =>
  if u3 = 0 then
    zb1 (fX9_set u3 t_newWide t_fresh u4 ((t_newWide * ((t_newHigh - 1) - l2)) + l1)) fun u7 =>
    some (u3, u7, u4)
  else
    some (u3, t_fresh, u4)
def fX9_dab_17 (t_fault : Int32) (t_newWide : Int32) (t_newHigh : Int32) (t_colours : Int32) (t_fresh : Nat → Int32) (t_colour : Nat → Int32) (t_one : Nat → Int32) (l1 : Int32) (l2 : Int32) (l3 : Int32) : Option (Int32 × (Nat → Int32) × (Nat → Int32)) :=
  fX9_dab_22 t_fault t_newWide t_newHigh t_colours t_fresh t_colour t_one l1 l2 l3 1
def fX9_dab (t_fault : Int32) (t_newWide : Int32) (t_newHigh : Int32) (t_colours : Int32) (t_fresh : Nat → Int32) (t_colour : Nat → Int32) (t_one : Nat → Int32) (v0 : Int32) (v1 : Int32) (v2 : Int32) : Option (Int32 × (Nat → Int32) × (Nat → Int32)) :=
  if t_newWide ≤ v0 then
    fX9_dab_17 t_fault t_newWide t_newHigh t_colours t_fresh t_colour t_one v0 v1 v2
  else
    if v1 < t_newHigh then
      fX9_dab_22 t_fault t_newWide t_newHigh t_colours t_fresh t_colour t_one v0 v1 v2 0
    else
      fX9_dab_17 t_fault t_newWide t_newHigh t_colours t_fresh t_colour t_one v0 v1 v2
def fX9_pieces_294 (rc52 : Int32 → Int32 → Int32 → Int32 → Int32 → Int32 → (Nat → Int32) → (Nat → Int32) → (Nat → Int32) → (Nat → Int32) → Int32 → Int32 → Int32 → Option (Int32 × Int32 × (Nat → Int32) × (Nat → Int32))) (t_size : Int32) (t_at : Int32) (t_fault : Int32) (t_newWide : Int32) (t_newHigh : Int32) (t_colours : Int32) (t_file : Nat → Int32) (t_fresh : Nat → Int32) (t_colour : Nat → Int32) (t_one : Nat → Int32) (l1 : Int32) (l2 : Int32) (l3 : Int32) (k1 : Int32) : Option (Int32 × Int32 × (Nat → Int32) × (Nat → Int32)) :=
  zb1 (fX9_broken t_fault k1) fun u1 =>
  rc52 t_size t_at u1 t_newWide t_newHigh t_colours t_file t_fresh t_colour t_one l1 l2 l3
def fX9_pieces_289 (rc52 : Int32 → Int32 → Int32 → Int32 → Int32 → Int32 → (Nat → Int32) → (Nat → Int32) → (Nat → Int32) → (Nat → Int32) → Int32 → Int32 → Int32 → Option (Int32 × Int32 × (Nat → Int32) × (Nat → Int32))) (t_size : Int32) (t_at : Int32) (t_fault : Int32) (t_newWide : Int32) (t_newHigh : Int32) (t_colours : Int32) (t_file : Nat → Int32) (t_fresh : Nat → Int32) (t_colour : Nat → Int32) (t_one : Nat → Int32) (l1 : Int32) (l2 : Int32) (l3 : Int32) : Option (Int32 × Int32 × (Nat → Int32) × (Nat → Int32)) :=
  fX9_pieces_294 rc52 t_size t_at t_fault t_newWide t_newHigh t_colours t_file t_fresh t_colour t_one l1 l2 l3 1
def fX9_pieces_272 (rc52 : Int32 → Int32 → Int32 → Int32 → Int32 → Int32 → (Nat → Int32) → (Nat → Int32) → (Nat → Int32) → (Nat → Int32) → Int32 → Int32 → Int32 → Option (Int32 × Int32 × (Nat → Int32) × (Nat → Int32))) (t_size : Int32) (t_at : Int32) (t_fault : Int32) (t_newWide : Int32) (t_newHigh : Int32) (t_colours : Int32) (t_file : Nat → Int32) (t_fresh : Nat → Int32) (t_colour : Nat → Int32) (t_one : Nat → Int32) (l1 : Int32) (l2 : Int32) (l3 : Int32) : Option (Int32 × Int32 × (Nat → Int32) × (Nat → Int32)) :=
  if t_newWide < l1 then
    fX9_pieces_289 rc52 t_size t_at t_fault t_newWide t_newHigh t_colours t_file t_fresh t_colour t_one l1 l2 l3
  else
    if l2 ≤ t_newHigh then
      fX9_pieces_294 rc52 t_size t_at t_fault t_newWide t_newHigh t_colours t_file t_fresh t_colour t_one l1 l2 l3 0
    else
      fX9_pieces_289 rc52 t_size t_at t_fault t_newWide t_newHigh t_colours t_file t_fresh t_colour t_one l1 l2 l3
def fX9_pieces_192 (rc52 : Int32 → Int32 → Int32 → Int32 → Int32 → Int32 → (Nat → Int32) → (Nat → Int32) → (Nat → Int32) → (Nat → Int32) → Int32 → Int32 → Int32 → Option (Int32 × Int32 × (Nat → Int32) × (Nat → Int32))) (t_size : Int32) (t_at : Int32) (t_fault : Int32) (t_newWide : Int32) (t_newHigh : Int32) (t_colours : Int32) (t_file : Nat → Int32) (t_fresh : Nat → Int32) (t_colour : Nat → Int32) (t_one : Nat → Int32) (l1 : Int32) (l2 : Int32) (k0 : Int32) : Option (Int32 × Int32 × (Nat → Int32) × (Nat → Int32)) :=
  fX9_pieces_272 rc52 t_size t_at t_fault t_newWide t_newHigh t_colours t_file t_fresh t_colour t_one l1 l2 k0
def fX9_pieces_259 (rc52 : Int32 → Int32 → Int32 → Int32 → Int32 → Int32 → (Nat → Int32) → (Nat → Int32) → (Nat → Int32) → (Nat → Int32) → Int32 → Int32 → Int32 → Option (Int32 × Int32 × (Nat → Int32) × (Nat → Int32))) (t_size : Int32) (t_at : Int32) (t_fault : Int32) (t_newWide : Int32) (t_newHigh : Int32) (t_colours : Int32) (t_file : Nat → Int32) (t_fresh : Nat → Int32) (t_colour : Nat → Int32) (t_one : Nat → Int32) (l1 : Int32) (l2 : Int32) (l3 : Int32) (l5 : Int32) : Option (Int32 × Int32 × (Nat → Int32) × (Nat → Int32)) :=
  zlet (l1 + l5) fun x1 =>
  zb2 (fX9_skip t_size t_at t_fault t_file (zrem l5 2)) fun u2 u3 =>
  fX9_pieces_272 rc52 t_size u2 u3 t_newWide t_newHigh t_colours t_file t_fresh t_colour t_one x1 l2 l3
def fX9_pieces_222 (rc52 : Int32 → Int32 → Int32 → Int32 → Int32 → Int32 → (Nat → Int32) → (Nat → Int32) → (Nat → Int32) → (Nat → Int32) → Int32 → Int32 → Int32 → Option (Int32 × Int32 × (Nat → Int32) × (Nat → Int32))) : Nat → Int32 → Int32 → Int32 → Int32 → Int32 → Int32 → (Nat → Int32) → (Nat → Int32) → (Nat → Int32) → (Nat → Int32) → Int32 → Int32 → Int32 → Int32 → Int32 → Option (Int32 × Int32 × (Nat → Int32) × (Nat → Int32))
  | 0, _, _, _, _, _, _, _, _, _, _, _, _, _, _, _ => none
  | n + 1, t_size, t_at, t_fault, t_newWide, t_newHigh, t_colours, t_file, t_fresh, t_colour, t_one, l1, l2, l3, l5, l6 =>
    if l5 ≤ l6 then
      fX9_pieces_259 rc52 t_size t_at t_fault t_newWide t_newHigh t_colours t_file t_fresh t_colour t_one l1 l2 l3 l5
    else
      if t_fault = 0 then
        zb3 (fX9_next t_size t_at t_fault t_file) fun r3 u4 u5 =>
        zb3 (fX9_dab u5 t_newWide t_newHigh t_colours t_fresh t_colour t_one (l1 + l6) l2 r3) fun u7 u8 u9 =>
        zlet (l6 + 1) fun x11 =>
        (fX9_pieces_222 rc52 n) t_size u4 u7 t_newWide t_newHigh t_colours t_file u8 t_colour u9 l1 l2 l3 l5 x11
      else
        fX9_pieces_259 rc52 t_size t_at t_fault t_newWide t_newHigh t_colours t_file t_fresh t_colour t_one l1 l2 l3 l5
theorem fX9_pieces_222_s (rc52 : Int32 → Int32 → Int32 → Int32 → Int32 → Int32 → (Nat → Int32) → (Nat → Int32) → (Nat → Int32) → (Nat → Int32) → Int32 → Int32 → Int32 → Option (Int32 × Int32 × (Nat → Int32) × (Nat → Int32))) (n : Nat) (t_size : Int32) (t_at : Int32) (t_fault : Int32) (t_newWide : Int32) (t_newHigh : Int32) (t_colours : Int32) (t_file : Nat → Int32) (t_fresh : Nat → Int32) (t_colour : Nat → Int32) (t_one : Nat → Int32) (l1 : Int32) (l2 : Int32) (l3 : Int32) (l5 : Int32) (l6 : Int32) : fX9_pieces_222 rc52 (n + 1) t_size t_at t_fault t_newWide t_newHigh t_colours t_file t_fresh t_colour t_one l1 l2 l3 l5 l6 =
    if l5 ≤ l6 then
      fX9_pieces_259 rc52 t_size t_at t_fault t_newWide t_newHigh t_colours t_file t_fresh t_colour t_one l1 l2 l3 l5
    else
      if t_fault = 0 then
        zb3 (fX9_next t_size t_at t_fault t_file) fun r3 u4 u5 =>
        zb3 (fX9_dab u5 t_newWide t_newHigh t_colours t_fresh t_colour t_one (l1 + l6) l2 r3) fun u7 u8 u9 =>
        zlet (l6 + 1) fun x11 =>
        (fX9_pieces_222 rc52 n) t_size u4 u7 t_newWide t_newHigh t_colours t_file u8 t_colour u9 l1 l2 l3 l5 x11
      else
        fX9_pieces_259 rc52 t_size t_at t_fault t_newWide t_newHigh t_colours t_file t_fresh t_colour t_one l1 l2 l3 l5 := rfl
def fX9_pieces_152 (rc52 : Int32 → Int32 → Int32 → Int32 → Int32 → Int32 → (Nat → Int32) → (Nat → Int32) → (Nat → Int32) → (Nat → Int32) → Int32 → Int32 → Int32 → Option (Int32 × Int32 × (Nat → Int32) × (Nat → Int32))) (t_size : Int32) (t_at : Int32) (t_fault : Int32) (t_newWide : Int32) (t_newHigh : Int32) (t_colours : Int32) (t_file : Nat → Int32) (t_fresh : Nat → Int32) (t_colour : Nat → Int32) (t_one : Nat → Int32) (l1 : Int32) (l2 : Int32) (l3 : Int32) (l4 : Int32) : Option (Int32 × Int32 × (Nat → Int32) × (Nat → Int32)) :=
  zlet (l1 + l4) fun x1 =>
  fX9_pieces_272 rc52 t_size t_at t_fault t_newWide t_newHigh t_colours t_file t_fresh t_colour t_one x1 l2 l3
def fX9_pieces_121 (rc52 : Int32 → Int32 → Int32 → Int32 → Int32 → Int32 → (Nat → Int32) → (Nat → Int32) → (Nat → Int32) → (Nat → Int32) → Int32 → Int32 → Int32 → Option (Int32 × Int32 × (Nat → Int32) × (Nat → Int32))) : Nat → Int32 → Int32 → Int32 → Int32 → Int32 → Int32 → (Nat → Int32) → (Nat → Int32) → (Nat → Int32) → (Nat → Int32) → Int32 → Int32 → Int32 → Int32 → Int32 → Int32 → Option (Int32 × Int32 × (Nat → Int32) × (Nat → Int32))
  | 0, _, _, _, _, _, _, _, _, _, _, _, _, _, _, _, _ => none
  | n + 1, t_size, t_at, t_fault, t_newWide, t_newHigh, t_colours, t_file, t_fresh, t_colour, t_one, l1, l2, l3, l4, l5, l6 =>
    if l4 ≤ l6 then
      fX9_pieces_152 rc52 t_size t_at t_fault t_newWide t_newHigh t_colours t_file t_fresh t_colour t_one l1 l2 l3 l4
    else
      if t_fault = 0 then
        zb3 (fX9_dab t_fault t_newWide t_newHigh t_colours t_fresh t_colour t_one (l1 + l6) l2 l5) fun u3 u4 u5 =>
        zlet (l6 + 1) fun x7 =>
        (fX9_pieces_121 rc52 n) t_size t_at u3 t_newWide t_newHigh t_colours t_file u4 t_colour u5 l1 l2 l3 l4 l5 x7
      else
        fX9_pieces_152 rc52 t_size t_at t_fault t_newWide t_newHigh t_colours t_file t_fresh t_colour t_one l1 l2 l3 l4
theorem fX9_pieces_121_s (rc52 : Int32 → Int32 → Int32 → Int32 → Int32 → Int32 → (Nat → Int32) → (Nat → Int32) → (Nat → Int32) → (Nat → Int32) → Int32 → Int32 → Int32 → Option (Int32 × Int32 × (Nat → Int32) × (Nat → Int32))) (n : Nat) (t_size : Int32) (t_at : Int32) (t_fault : Int32) (t_newWide : Int32) (t_newHigh : Int32) (t_colours : Int32) (t_file : Nat → Int32) (t_fresh : Nat → Int32) (t_colour : Nat → Int32) (t_one : Nat → Int32) (l1 : Int32) (l2 : Int32) (l3 : Int32) (l4 : Int32) (l5 : Int32) (l6 : Int32) : fX9_pieces_121 rc52 (n + 1) t_size t_at t_fault t_newWide t_newHigh t_colours t_file t_fresh t_colour t_one l1 l2 l3 l4 l5 l6 =
    if l4 ≤ l6 then
      fX9_pieces_152 rc52 t_size t_at t_fault t_newWide t_newHigh t_colours t_file t_fresh t_colour t_one l1 l2 l3 l4
    else
      if t_fault = 0 then
        zb3 (fX9_dab t_fault t_newWide t_newHigh t_colours t_fresh t_colour t_one (l1 + l6) l2 l5) fun u3 u4 u5 =>
        zlet (l6 + 1) fun x7 =>
        (fX9_pieces_121 rc52 n) t_size t_at u3 t_newWide t_newHigh t_colours t_file u4 t_colour u5 l1 l2 l3 l4 l5 x7
      else
        fX9_pieces_152 rc52 t_size t_at t_fault t_newWide t_newHigh t_colours t_file t_fresh t_colour t_one l1 l2 l3 l4 := rfl
def fX9_pieces_115 (rc52 : Int32 → Int32 → Int32 → Int32 → Int32 → Int32 → (Nat → Int32) → (Nat → Int32) → (Nat → Int32) → (Nat → Int32) → Int32 → Int32 → Int32 → Option (Int32 × Int32 × (Nat → Int32) × (Nat → Int32))) (t_size : Int32) (t_at : Int32) (t_fault : Int32) (t_newWide : Int32) (t_newHigh : Int32) (t_colours : Int32) (t_file : Nat → Int32) (t_fresh : Nat → Int32) (t_colour : Nat → Int32) (t_one : Nat → Int32) (l1 : Int32) (l2 : Int32) (l3 : Int32) (l4 : Int32) (l5 : Int32) (k1 : Int32) : Option (Int32 × Int32 × (Nat → Int32) × (Nat → Int32)) :=
  zb1 (fX9_broken t_fault k1) fun u1 =>
  fX9_pieces_121 rc52 1000 t_size t_at u1 t_newWide t_newHigh t_colours t_file t_fresh t_colour t_one l1 l2 l3 l4 l5 0
def fX9_pieces_97 (rc52 : Int32 → Int32 → Int32 → Int32 → Int32 → Int32 → (Nat → Int32) → (Nat → Int32) → (Nat → Int32) → (Nat → Int32) → Int32 → Int32 → Int32 → Option (Int32 × Int32 × (Nat → Int32) × (Nat → Int32))) (t_size : Int32) (t_at : Int32) (t_fault : Int32) (t_newWide : Int32) (t_newHigh : Int32) (t_colours : Int32) (t_file : Nat → Int32) (t_fresh : Nat → Int32) (t_colour : Nat → Int32) (t_one : Nat → Int32) (l1 : Int32) (l2 : Int32) (l3 : Int32) (l4 : Int32) (l5 : Int32) (k1 : Int32) : Option (Int32 × Int32 × (Nat → Int32) × (Nat → Int32)) :=
  zb1 (fX9_broken t_fault k1) fun u1 =>
  if l5 < t_colours then
    fX9_pieces_115 rc52 t_size t_at u1 t_newWide t_newHigh t_colours t_file t_fresh t_colour t_one l1 l2 l3 l4 l5 0
  else
    fX9_pieces_115 rc52 t_size t_at u1 t_newWide t_newHigh t_colours t_file t_fresh t_colour t_one l1 l2 l3 l4 l5 1
def fX9_pieces_52 : Nat → Int32 → Int32 → Int32 → Int32 → Int32 → Int32 → (Nat → Int32) → (Nat → Int32) → (Nat → Int32) → (Nat → Int32) → Int32 → Int32 → Int32 → Option (Int32 × Int32 × (Nat → Int32) × (Nat → Int32))
  | 0, _, _, _, _, _, _, _, _, _, _, _, _, _ => none
  | n + 1, t_size, t_at, t_fault, t_newWide, t_newHigh, t_colours, t_file, t_fresh, t_colour, t_one, l1, l2, l3 =>
    if l3 = 0 then
      some (t_at, t_fault, t_fresh, t_one)
    else
      if t_fault = 0 then
        zb3 (fX9_next t_size t_at t_fault t_file) fun r3 u4 u5 =>
        zb3 (fX9_next t_size u4 u5 t_file) fun r7 u8 u9 =>
        if r3 ≤ 0 then
          if r7 = 0 then
            zlet (l2 + 1) fun x26 =>
            fX9_pieces_272 (fX9_pieces_52 n) t_size u8 u9 t_newWide t_newHigh t_colours t_file t_fresh t_colour t_one 0 x26 l3
          else
            if r7 = 1 then
              if u9 = 0 then
                fX9_pieces_192 (fX9_pieces_52 n) t_size u8 u9 t_newWide t_newHigh t_colours t_file t_fresh t_colour t_one l1 l2 0
              else
                fX9_pieces_192 (fX9_pieces_52 n) t_size u8 u9 t_newWide t_newHigh t_colours t_file t_fresh t_colour t_one l1 l2 1
            else
              if r7 = 2 then
                zb3 (fX9_next t_size u8 u9 t_file) fun r15 u16 u17 =>
                zlet (l1 + r15) fun x19 =>
                zb3 (fX9_next t_size u16 u17 t_file) fun r20 u21 u22 =>
                zlet (l2 + r20) fun x24 =>
                fX9_pieces_272 (fX9_pieces_52 n) t_size u21 u22 t_newWide t_newHigh t_colours t_file t_fresh t_colour t_one x19 x24 l3
              else
                fX9_pieces_222 (fX9_pieces_52 n) 1000 t_size u8 u9 t_newWide t_newHigh t_colours t_file t_fresh t_colour t_one l1 l2 l3 r7 0
        else
          if (l1 + r3) ≤ t_newWide then
            fX9_pieces_97 (fX9_pieces_52 n) t_size u8 u9 t_newWide t_newHigh t_colours t_file t_fresh t_colour t_one l1 l2 l3 r3 r7 0
          else
            fX9_pieces_97 (fX9_pieces_52 n) t_size u8 u9 t_newWide t_newHigh t_colours t_file t_fresh t_colour t_one l1 l2 l3 r3 r7 1
      else
        some (t_at, t_fault, t_fresh, t_one)
theorem fX9_pieces_52_s (n : Nat) (t_size : Int32) (t_at : Int32) (t_fault : Int32) (t_newWide : Int32) (t_newHigh : Int32) (t_colours : Int32) (t_file : Nat → Int32) (t_fresh : Nat → Int32) (t_colour : Nat → Int32) (t_one : Nat → Int32) (l1 : Int32) (l2 : Int32) (l3 : Int32) : fX9_pieces_52 (n + 1) t_size t_at t_fault t_newWide t_newHigh t_colours t_file t_fresh t_colour t_one l1 l2 l3 =
    if l3 = 0 then
      some (t_at, t_fault, t_fresh, t_one)
    else
      if t_fault = 0 then
        zb3 (fX9_next t_size t_at t_fault t_file) fun r3 u4 u5 =>
        zb3 (fX9_next t_size u4 u5 t_file) fun r7 u8 u9 =>
        if r3 ≤ 0 then
          if r7 = 0 then
            zlet (l2 + 1) fun x26 =>
            fX9_pieces_272 (fX9_pieces_52 n) t_size u8 u9 t_newWide t_newHigh t_colours t_file t_fresh t_colour t_one 0 x26 l3
          else
            if r7 = 1 then
              if u9 = 0 then
                fX9_pieces_192 (fX9_pieces_52 n) t_size u8 u9 t_newWide t_newHigh t_colours t_file t_fresh t_colour t_one l1 l2 0
              else
                fX9_pieces_192 (fX9_pieces_52 n) t_size u8 u9 t_newWide t_newHigh t_colours t_file t_fresh t_colour t_one l1 l2 1
            else
              if r7 = 2 then
                zb3 (fX9_next t_size u8 u9 t_file) fun r15 u16 u17 =>
                zlet (l1 + r15) fun x19 =>
                zb3 (fX9_next t_size u16 u17 t_file) fun r20 u21 u22 =>
                zlet (l2 + r20) fun x24 =>
                fX9_pieces_272 (fX9_pieces_52 n) t_size u21 u22 t_newWide t_newHigh t_colours t_file t_fresh t_colour t_one x19 x24 l3
              else
                fX9_pieces_222 (fX9_pieces_52 n) 1000 t_size u8 u9 t_newWide t_newHigh t_colours t_file t_fresh t_colour t_one l1 l2 l3 r7 0
        else
          if (l1 + r3) ≤ t_newWide then
            fX9_pieces_97 (fX9_pieces_52 n) t_size u8 u9 t_newWide t_newHigh t_colours t_file t_fresh t_colour t_one l1 l2 l3 r3 r7 0
          else
            fX9_pieces_97 (fX9_pieces_52 n) t_size u8 u9 t_newWide t_newHigh t_colours t_file t_fresh t_colour t_one l1 l2 l3 r3 r7 1
      else
        some (t_at, t_fault, t_fresh, t_one) := rfl
def fX9_pieces_46 (t_size : Int32) (t_at : Int32) (t_fault : Int32) (t_newWide : Int32) (t_newHigh : Int32) (t_colours : Int32) (t_file : Nat → Int32) (t_fresh : Nat → Int32) (t_colour : Nat → Int32) (t_one : Nat → Int32) : Option (Int32 × Int32 × (Nat → Int32) × (Nat → Int32)) :=
  fX9_pieces_52 1000 t_size t_at t_fault t_newWide t_newHigh t_colours t_file t_fresh t_colour t_one 0 0 1
def fX9_pieces_19 (rc2 : Int32 → Int32 → Int32 → Int32 → Int32 → Int32 → (Nat → Int32) → (Nat → Int32) → (Nat → Int32) → (Nat → Int32) → Int32 → Option (Int32 × Int32 × (Nat → Int32) × (Nat → Int32))) : Nat → Int32 → Int32 → Int32 → Int32 → Int32 → Int32 → (Nat → Int32) → (Nat → Int32) → (Nat → Int32) → (Nat → Int32) → Int32 → Int32 → Option (Int32 × Int32 × (Nat → Int32) × (Nat → Int32))
  | 0, _, _, _, _, _, _, _, _, _, _, _, _ => none
  | n + 1, t_size, t_at, t_fault, t_newWide, t_newHigh, t_colours, t_file, t_fresh, t_colour, t_one, l1, l2 =>
    if t_newWide ≤ l2 then
      zlet (l1 + 1) fun x2 =>
      rc2 t_size t_at t_fault t_newWide t_newHigh t_colours t_file t_fresh t_colour t_one x2
    else
      zb3 (fX9_dab t_fault t_newWide t_newHigh t_colours t_fresh t_colour t_one l2 l1 0) fun u3 u4 u5 =>
      zlet (l2 + 1) fun x7 =>
      (fX9_pieces_19 rc2 n) t_size t_at u3 t_newWide t_newHigh t_colours t_file u4 t_colour u5 l1 x7
theorem fX9_pieces_19_s (rc2 : Int32 → Int32 → Int32 → Int32 → Int32 → Int32 → (Nat → Int32) → (Nat → Int32) → (Nat → Int32) → (Nat → Int32) → Int32 → Option (Int32 × Int32 × (Nat → Int32) × (Nat → Int32))) (n : Nat) (t_size : Int32) (t_at : Int32) (t_fault : Int32) (t_newWide : Int32) (t_newHigh : Int32) (t_colours : Int32) (t_file : Nat → Int32) (t_fresh : Nat → Int32) (t_colour : Nat → Int32) (t_one : Nat → Int32) (l1 : Int32) (l2 : Int32) : fX9_pieces_19 rc2 (n + 1) t_size t_at t_fault t_newWide t_newHigh t_colours t_file t_fresh t_colour t_one l1 l2 =
    if t_newWide ≤ l2 then
      zlet (l1 + 1) fun x2 =>
      rc2 t_size t_at t_fault t_newWide t_newHigh t_colours t_file t_fresh t_colour t_one x2
    else
      zb3 (fX9_dab t_fault t_newWide t_newHigh t_colours t_fresh t_colour t_one l2 l1 0) fun u3 u4 u5 =>
      zlet (l2 + 1) fun x7 =>
      (fX9_pieces_19 rc2 n) t_size t_at u3 t_newWide t_newHigh t_colours t_file u4 t_colour u5 l1 x7 := rfl
def fX9_pieces_2 : Nat → Int32 → Int32 → Int32 → Int32 → Int32 → Int32 → (Nat → Int32) → (Nat → Int32) → (Nat → Int32) → (Nat → Int32) → Int32 → Option (Int32 × Int32 × (Nat → Int32) × (Nat → Int32))
  | 0, _, _, _, _, _, _, _, _, _, _, _ => none
  | n + 1, t_size, t_at, t_fault, t_newWide, t_newHigh, t_colours, t_file, t_fresh, t_colour, t_one, l1 =>
    if t_newHigh ≤ l1 then
      fX9_pieces_46 t_size t_at t_fault t_newWide t_newHigh t_colours t_file t_fresh t_colour t_one
    else
      if t_fault = 0 then
        fX9_pieces_19 (fX9_pieces_2 n) 1000 t_size t_at t_fault t_newWide t_newHigh t_colours t_file t_fresh t_colour t_one l1 0
      else
        fX9_pieces_46 t_size t_at t_fault t_newWide t_newHigh t_colours t_file t_fresh t_colour t_one
theorem fX9_pieces_2_s (n : Nat) (t_size : Int32) (t_at : Int32) (t_fault : Int32) (t_newWide : Int32) (t_newHigh : Int32) (t_colours : Int32) (t_file : Nat → Int32) (t_fresh : Nat → Int32) (t_colour : Nat → Int32) (t_one : Nat → Int32) (l1 : Int32) : fX9_pieces_2 (n + 1) t_size t_at t_fault t_newWide t_newHigh t_colours t_file t_fresh t_colour t_one l1 =
    if t_newHigh ≤ l1 then
      fX9_pieces_46 t_size t_at t_fault t_newWide t_newHigh t_colours t_file t_fresh t_colour t_one
    else
      if t_fault = 0 then
        fX9_pieces_19 (fX9_pieces_2 n) 1000 t_size t_at t_fault t_newWide t_newHigh t_colours t_file t_fresh t_colour t_one l1 0
      else
        fX9_pieces_46 t_size t_at t_fault t_newWide t_newHigh t_colours t_file t_fresh t_colour t_one := rfl
def fX9_pieces (t_size : Int32) (t_at : Int32) (t_fault : Int32) (t_newWide : Int32) (t_newHigh : Int32) (t_colours : Int32) (t_file : Nat → Int32) (t_fresh : Nat → Int32) (t_colour : Nat → Int32) (t_one : Nat → Int32) : Option (Int32 × Int32 × (Nat → Int32) × (Nat → Int32)) :=
  fX9_pieces_2 1000 t_size t_at t_fault t_newWide t_newHigh t_colours t_file t_fresh t_colour t_one 0
def fX9_readThird_334 (t_size : Int32) (t_at : Int32) (t_fault : Int32) (t_newWide : Int32) (t_newHigh : Int32) (t_colours : Int32) (t_file : Nat → Int32) (t_fresh : Nat → Int32) (t_colour : Nat → Int32) (t_one : Nat → Int32) (k1 : Int32) (k2 : Int32) : Option (Int32 × Int32 × Int32 × Int32 × Int32 × (Nat → Int32) × (Nat → Int32) × (Nat → Int32)) :=
  zb4 (fX9_plain t_size t_at t_fault t_newWide t_newHigh t_colours t_file t_fresh t_colour t_one k1 k2) fun u1 u2 u3 u4 =>
  some (u1, u2, t_newWide, t_newHigh, t_colours, u3, t_colour, u4)
def fX9_readThird_310 (t_size : Int32) (t_at : Int32) (t_fault : Int32) (t_newWide : Int32) (t_newHigh : Int32) (t_colours : Int32) (t_file : Nat → Int32) (t_fresh : Nat → Int32) (t_colour : Nat → Int32) (t_one : Nat → Int32) (l2 : Int32) (l3 : Int32) (l4 : Int32) : Option (Int32 × Int32 × Int32 × Int32 × Int32 × (Nat → Int32) × (Nat → Int32) × (Nat → Int32)) :=
  if l4 = 1 then
    zb4 (fX9_pieces t_size t_at t_fault t_newWide t_newHigh t_colours t_file t_fresh t_colour t_one) fun u3 u4 u5 u6 =>
    some (u3, u4, t_newWide, t_newHigh, t_colours, u5, t_colour, u6)
  else
    if l2 ≤ 0 then
      fX9_readThird_334 t_size t_at t_fault t_newWide t_newHigh t_colours t_file t_fresh t_colour t_one l3 0
    else
      fX9_readThird_334 t_size t_at t_fault t_newWide t_newHigh t_colours t_file t_fresh t_colour t_one l3 1
def fX9_readThird_290 (t_size : Int32) (t_at : Int32) (t_fault : Int32) (t_newWide : Int32) (t_newHigh : Int32) (t_colours : Int32) (t_file : Nat → Int32) (t_fresh : Nat → Int32) (t_colour : Nat → Int32) (t_one : Nat → Int32) (l1 : Int32) (l2 : Int32) (l3 : Int32) (l4 : Int32) (k1 : Int32) : Option (Int32 × Int32 × Int32 × Int32 × Int32 × (Nat → Int32) × (Nat → Int32) × (Nat → Int32)) :=
  zb1 (fX9_broken t_fault k1) fun u1 =>
  if u1 = 0 then
    zb2 (fX9_skip t_size t_at u1 t_file (l1 - t_at)) fun u4 u5 =>
    fX9_readThird_310 t_size u4 u5 t_newWide t_newHigh t_colours t_file t_fresh t_colour t_one l2 l3 l4
  else
    fX9_readThird_310 t_size t_at u1 t_newWide t_newHigh t_colours t_file t_fresh t_colour t_one l2 l3 l4
def fX9_readThird_285 (t_size : Int32) (t_at : Int32) (t_fault : Int32) (t_newWide : Int32) (t_newHigh : Int32) (t_colours : Int32) (t_file : Nat → Int32) (t_fresh : Nat → Int32) (t_colour : Nat → Int32) (t_one : Nat → Int32) (l1 : Int32) (l2 : Int32) (l3 : Int32) (l4 : Int32) : Option (Int32 × Int32 × Int32 × Int32 × Int32 × (Nat → Int32) × (Nat → Int32) × (Nat → Int32)) :=
  fX9_readThird_290 t_size t_at t_fault t_newWide t_newHigh t_colours t_file t_fresh t_colour t_one l1 l2 l3 l4 1
def fX9_readThird_269 (t_size : Int32) (t_at : Int32) (t_fault : Int32) (t_newWide : Int32) (t_newHigh : Int32) (t_colours : Int32) (t_file : Nat → Int32) (t_fresh : Nat → Int32) (t_colour : Nat → Int32) (t_one : Nat → Int32) (l1 : Int32) (l2 : Int32) (l3 : Int32) (l4 : Int32) : Option (Int32 × Int32 × Int32 × Int32 × Int32 × (Nat → Int32) × (Nat → Int32) × (Nat → Int32)) :=
  if l1 < t_at then
    fX9_readThird_285 t_size t_at t_fault t_newWide t_newHigh t_colours t_file t_fresh t_colour t_one l1 l2 l3 l4
  else
    if l1 ≤ 800 then
      fX9_readThird_290 t_size t_at t_fault t_newWide t_newHigh t_colours t_file t_fresh t_colour t_one l1 l2 l3 l4 0
    else
      fX9_readThird_285 t_size t_at t_fault t_newWide t_newHigh t_colours t_file t_fresh t_colour t_one l1 l2 l3 l4
def fX9_readThird_231 (rc212 : Int32 → Int32 → Int32 → Int32 → Int32 → Int32 → (Nat → Int32) → (Nat → Int32) → (Nat → Int32) → (Nat → Int32) → Int32 → Int32 → Int32 → Int32 → Int32 → Option (Int32 × Int32 × Int32 × Int32 × Int32 × (Nat → Int32) × (Nat → Int32) × (Nat → Int32))) : Nat → Int32 → Int32 → Int32 → Int32 → Int32 → Int32 → (Nat → Int32) → (Nat → Int32) → (Nat → Int32) → (Nat → Int32) → Int32 → Int32 → Int32 → Int32 → Int32 → Int32 → Option (Int32 × Int32 × Int32 × Int32 × Int32 × (Nat → Int32) × (Nat → Int32) × (Nat → Int32))
  | 0, _, _, _, _, _, _, _, _, _, _, _, _, _, _, _, _ => none
  | n + 1, t_size, t_at, t_fault, t_newWide, t_newHigh, t_colours, t_file, t_fresh, t_colour, t_one, l1, l2, l3, l4, l5, l6 =>
    if l6 < 0 then
      zb3 (fX9_next t_size t_at t_fault t_file) fun r2 u3 u4 =>
      zlet (l5 + 1) fun x6 =>
      rc212 t_size u3 u4 t_newWide t_newHigh t_colours t_file t_fresh t_colour t_one l1 l2 l3 l4 x6
    else
      zb3 (fX9_next t_size t_at t_fault t_file) fun r7 u8 u9 =>
      zwr t_colour 256 ((4 * l5) + l6) r7 fun g11 =>
      zlet (l6 + (-1)) fun x13 =>
      (fX9_readThird_231 rc212 n) t_size u8 u9 t_newWide t_newHigh t_colours t_file t_fresh g11 t_one l1 l2 l3 l4 l5 x13
theorem fX9_readThird_231_s (rc212 : Int32 → Int32 → Int32 → Int32 → Int32 → Int32 → (Nat → Int32) → (Nat → Int32) → (Nat → Int32) → (Nat → Int32) → Int32 → Int32 → Int32 → Int32 → Int32 → Option (Int32 × Int32 × Int32 × Int32 × Int32 × (Nat → Int32) × (Nat → Int32) × (Nat → Int32))) (n : Nat) (t_size : Int32) (t_at : Int32) (t_fault : Int32) (t_newWide : Int32) (t_newHigh : Int32) (t_colours : Int32) (t_file : Nat → Int32) (t_fresh : Nat → Int32) (t_colour : Nat → Int32) (t_one : Nat → Int32) (l1 : Int32) (l2 : Int32) (l3 : Int32) (l4 : Int32) (l5 : Int32) (l6 : Int32) : fX9_readThird_231 rc212 (n + 1) t_size t_at t_fault t_newWide t_newHigh t_colours t_file t_fresh t_colour t_one l1 l2 l3 l4 l5 l6 =
    if l6 < 0 then
      zb3 (fX9_next t_size t_at t_fault t_file) fun r2 u3 u4 =>
      zlet (l5 + 1) fun x6 =>
      rc212 t_size u3 u4 t_newWide t_newHigh t_colours t_file t_fresh t_colour t_one l1 l2 l3 l4 x6
    else
      zb3 (fX9_next t_size t_at t_fault t_file) fun r7 u8 u9 =>
      zwr t_colour 256 ((4 * l5) + l6) r7 fun g11 =>
      zlet (l6 + (-1)) fun x13 =>
      (fX9_readThird_231 rc212 n) t_size u8 u9 t_newWide t_newHigh t_colours t_file t_fresh g11 t_one l1 l2 l3 l4 l5 x13 := rfl
def fX9_readThird_212 : Nat → Int32 → Int32 → Int32 → Int32 → Int32 → Int32 → (Nat → Int32) → (Nat → Int32) → (Nat → Int32) → (Nat → Int32) → Int32 → Int32 → Int32 → Int32 → Int32 → Option (Int32 × Int32 × Int32 × Int32 × Int32 × (Nat → Int32) × (Nat → Int32) × (Nat → Int32))
  | 0, _, _, _, _, _, _, _, _, _, _, _, _, _, _, _ => none
  | n + 1, t_size, t_at, t_fault, t_newWide, t_newHigh, t_colours, t_file, t_fresh, t_colour, t_one, l1, l2, l3, l4, l5 =>
    if t_fault = 0 then
      if t_colours ≤ l5 then
        fX9_readThird_269 t_size t_at t_fault t_newWide t_newHigh t_colours t_file t_fresh t_colour t_one l1 l2 l3 l4
      else
        fX9_readThird_231 (fX9_readThird_212 n) 1000 t_size t_at t_fault t_newWide t_newHigh t_colours t_file t_fresh t_colour t_one l1 l2 l3 l4 l5 2
    else
      fX9_readThird_269 t_size t_at t_fault t_newWide t_newHigh t_colours t_file t_fresh t_colour t_one l1 l2 l3 l4
theorem fX9_readThird_212_s (n : Nat) (t_size : Int32) (t_at : Int32) (t_fault : Int32) (t_newWide : Int32) (t_newHigh : Int32) (t_colours : Int32) (t_file : Nat → Int32) (t_fresh : Nat → Int32) (t_colour : Nat → Int32) (t_one : Nat → Int32) (l1 : Int32) (l2 : Int32) (l3 : Int32) (l4 : Int32) (l5 : Int32) : fX9_readThird_212 (n + 1) t_size t_at t_fault t_newWide t_newHigh t_colours t_file t_fresh t_colour t_one l1 l2 l3 l4 l5 =
    if t_fault = 0 then
      if t_colours ≤ l5 then
        fX9_readThird_269 t_size t_at t_fault t_newWide t_newHigh t_colours t_file t_fresh t_colour t_one l1 l2 l3 l4
      else
        fX9_readThird_231 (fX9_readThird_212 n) 1000 t_size t_at t_fault t_newWide t_newHigh t_colours t_file t_fresh t_colour t_one l1 l2 l3 l4 l5 2
    else
      fX9_readThird_269 t_size t_at t_fault t_newWide t_newHigh t_colours t_file t_fresh t_colour t_one l1 l2 l3 l4 := rfl
def fX9_readThird_201 (t_size : Int32) (t_at : Int32) (t_fault : Int32) (t_newWide : Int32) (t_newHigh : Int32) (t_colours : Int32) (t_file : Nat → Int32) (t_fresh : Nat → Int32) (t_colour : Nat → Int32) (t_one : Nat → Int32) (l1 : Int32) (l2 : Int32) (l3 : Int32) (l4 : Int32) (k1 : Int32) : Option (Int32 × Int32 × Int32 × Int32 × Int32 × (Nat → Int32) × (Nat → Int32) × (Nat → Int32)) :=
  zb1 (fX9_broken t_fault k1) fun u1 =>
  zb2 (fX9_skip t_size t_at u1 t_file 4) fun u3 u4 =>
  fX9_readThird_212 1000 t_size u3 u4 t_newWide t_newHigh t_colours t_file t_fresh t_colour t_one l1 l2 l3 l4 0
def fX9_readThird_181 (t_size : Int32) (t_at : Int32) (t_fault : Int32) (t_newWide : Int32) (t_newHigh : Int32) (t_colours : Int32) (t_file : Nat → Int32) (t_fresh : Nat → Int32) (t_colour : Nat → Int32) (t_one : Nat → Int32) (l1 : Int32) (l2 : Int32) (l3 : Int32) (l4 : Int32) : Option (Int32 × Int32 × Int32 × Int32 × Int32 × (Nat → Int32) × (Nat → Int32) × (Nat → Int32)) :=
  fX9_readThird_201 t_size t_at t_fault t_newWide t_newHigh t_colours t_file t_fresh t_colour t_one l1 l2 l3 l4 1
def fX9_readThird_138 (t_size : Int32) (t_at : Int32) (t_fault : Int32) (t_newWide : Int32) (t_newHigh : Int32) (t_file : Nat → Int32) (t_fresh : Nat → Int32) (t_colour : Nat → Int32) (t_one : Nat → Int32) (l1 : Int32) (l2 : Int32) (l3 : Int32) (l4 : Int32) (k1 : Int32) : Option (Int32 × Int32 × Int32 × Int32 × Int32 × (Nat → Int32) × (Nat → Int32) × (Nat → Int32)) :=
  zb1 (fX9_broken t_fault k1) fun u1 =>
  zb2 (fX9_skip t_size t_at u1 t_file 12) fun u3 u4 =>
  zb3 (fX9_number t_size u3 u4 t_file 4 0) fun r6 u7 u8 =>
  if l3 = 8 then
    if r6 < 1 then
      fX9_readThird_181 t_size u7 u8 t_newWide t_newHigh r6 t_file t_fresh t_colour t_one l1 l2 l3 l4
    else
      if r6 ≤ 64 then
        fX9_readThird_201 t_size u7 u8 t_newWide t_newHigh r6 t_file t_fresh t_colour t_one l1 l2 l3 l4 0
      else
        fX9_readThird_181 t_size u7 u8 t_newWide t_newHigh r6 t_file t_fresh t_colour t_one l1 l2 l3 l4
  else
    if r6 = 0 then
      fX9_readThird_201 t_size u7 u8 t_newWide t_newHigh r6 t_file t_fresh t_colour t_one l1 l2 l3 l4 0
    else
      fX9_readThird_201 t_size u7 u8 t_newWide t_newHigh r6 t_file t_fresh t_colour t_one l1 l2 l3 l4 1
def fX9_readThird_137 (t_size : Int32) (t_at : Int32) (t_fault : Int32) (t_newWide : Int32) (t_newHigh : Int32) (t_file : Nat → Int32) (t_fresh : Nat → Int32) (t_colour : Nat → Int32) (t_one : Nat → Int32) (l1 : Int32) (l2 : Int32) (l3 : Int32) (l4 : Int32) : Option (Int32 × Int32 × Int32 × Int32 × Int32 × (Nat → Int32) × (Nat → Int32) × (Nat → Int32)) :=
  fX9_readThird_138 t_size t_at t_fault t_newWide t_newHigh t_file t_fresh t_colour t_one l1 l2 l3 l4 0
def fX9_readThird_133 (t_size : Int32) (t_at : Int32) (t_fault : Int32) (t_newWide : Int32) (t_newHigh : Int32) (t_file : Nat → Int32) (t_fresh : Nat → Int32) (t_colour : Nat → Int32) (t_one : Nat → Int32) (l1 : Int32) (l2 : Int32) (l3 : Int32) (l4 : Int32) : Option (Int32 × Int32 × Int32 × Int32 × Int32 × (Nat → Int32) × (Nat → Int32) × (Nat → Int32)) :=
  fX9_readThird_138 t_size t_at t_fault t_newWide t_newHigh t_file t_fresh t_colour t_one l1 l2 l3 l4 1
def fX9_readThird_100 (t_size : Int32) (t_at : Int32) (t_fault : Int32) (t_newWide : Int32) (t_newHigh : Int32) (t_file : Nat → Int32) (t_fresh : Nat → Int32) (t_colour : Nat → Int32) (t_one : Nat → Int32) (l1 : Int32) (l2 : Int32) (l3 : Int32) (k1 : Int32) : Option (Int32 × Int32 × Int32 × Int32 × Int32 × (Nat → Int32) × (Nat → Int32) × (Nat → Int32)) :=
  zb1 (fX9_broken t_fault k1) fun u1 =>
  zb3 (fX9_number t_size t_at u1 t_file 4 0) fun r3 u4 u5 =>
  if r3 = 0 then
    fX9_readThird_137 t_size u4 u5 t_newWide t_newHigh t_file t_fresh t_colour t_one l1 l2 l3 r3
  else
    if r3 = 1 then
      if l3 = 8 then
        if 0 ≤ l2 then
          fX9_readThird_137 t_size u4 u5 t_newWide t_newHigh t_file t_fresh t_colour t_one l1 l2 l3 r3
        else
          fX9_readThird_133 t_size u4 u5 t_newWide t_newHigh t_file t_fresh t_colour t_one l1 l2 l3 r3
      else
        fX9_readThird_133 t_size u4 u5 t_newWide t_newHigh t_file t_fresh t_colour t_one l1 l2 l3 r3
    else
      fX9_readThird_133 t_size u4 u5 t_newWide t_newHigh t_file t_fresh t_colour t_one l1 l2 l3 r3
def fX9_readThird_99 (t_size : Int32) (t_at : Int32) (t_fault : Int32) (t_newWide : Int32) (t_newHigh : Int32) (t_file : Nat → Int32) (t_fresh : Nat → Int32) (t_colour : Nat → Int32) (t_one : Nat → Int32) (l1 : Int32) (l2 : Int32) (l3 : Int32) : Option (Int32 × Int32 × Int32 × Int32 × Int32 × (Nat → Int32) × (Nat → Int32) × (Nat → Int32)) :=
  fX9_readThird_100 t_size t_at t_fault t_newWide t_newHigh t_file t_fresh t_colour t_one l1 l2 l3 0
def fX9_readThird_58 (t_size : Int32) (t_at : Int32) (t_fault : Int32) (t_newWide : Int32) (t_file : Nat → Int32) (t_fresh : Nat → Int32) (t_colour : Nat → Int32) (t_one : Nat → Int32) (l1 : Int32) (l2 : Int32) (k2 : Int32) : Option (Int32 × Int32 × Int32 × Int32 × Int32 × (Nat → Int32) × (Nat → Int32) × (Nat → Int32)) :=
  zb2 (fX9_sideOf t_fault k2) fun r1 u2 =>
  zb3 (fX9_number t_size t_at u2 t_file 2 0) fun r4 u5 u6 =>
  zb1 (fX9_must u6 r4 1) fun u8 =>
  zb3 (fX9_number t_size u5 u8 t_file 2 0) fun r10 u11 u12 =>
  if r10 = 8 then
    fX9_readThird_99 t_size u11 u12 t_newWide r1 t_file t_fresh t_colour t_one l1 l2 r10
  else
    if r10 = 24 then
      fX9_readThird_99 t_size u11 u12 t_newWide r1 t_file t_fresh t_colour t_one l1 l2 r10
    else
      fX9_readThird_100 t_size u11 u12 t_newWide r1 t_file t_fresh t_colour t_one l1 l2 r10 1
def fX9_readThird (t_size : Int32) (t_at : Int32) (t_fault : Int32) (t_file : Nat → Int32) (t_fresh : Nat → Int32) (t_colour : Nat → Int32) (t_one : Nat → Int32) : Option (Int32 × Int32 × Int32 × Int32 × Int32 × (Nat → Int32) × (Nat → Int32) × (Nat → Int32)) :=
  zb2 (fX9_skip t_size t_at t_fault t_file 10) fun u1 u2 =>
  zb3 (fX9_number t_size u1 u2 t_file 4 0) fun r4 u5 u6 =>
  zb3 (fX9_number t_size u5 u6 t_file 4 0) fun r8 u9 u10 =>
  zb1 (fX9_must u10 r8 40) fun u12 =>
  zb3 (fX9_number t_size u9 u12 t_file 4 0) fun r14 u15 u16 =>
  zb2 (fX9_sideOf u16 r14) fun r18 u19 =>
  zb3 (fX9_number t_size u15 u19 t_file 4 0) fun r21 u22 u23 =>
  if 0 ≤ r21 then
    fX9_readThird_58 t_size u22 u23 r18 t_file t_fresh t_colour t_one r4 r21 r21
  else
    fX9_readThird_58 t_size u22 u23 r18 t_file t_fresh t_colour t_one r4 r21 (-r21)
def fX9_sample_54 (t_at : Int32) (t_fault : Int32) (t_one : Nat → Int32) (k1 : Int32) (k2 : Int32) (k3 : Int32) (k4 : Int32) : Option (Int32 × Int32 × (Nat → Int32)) :=
  zb1 (fX9_tone t_one k1 k2 k3 k4) fun u1 =>
  some (t_at, t_fault, u1)
def fX9_sample_32 (t_size : Int32) (t_at : Int32) (t_fault : Int32) (t_file : Nat → Int32) (t_one : Nat → Int32) (l1 : Int32) (l2 : Int32) (l3 : Int32) (k0 : Int32) : Option (Int32 × Int32 × (Nat → Int32)) :=
  if l1 = 4 then
    zb3 (fX9_next t_size t_at t_fault t_file) fun r2 u3 u4 =>
    fX9_sample_54 u3 u4 t_one k0 l3 l2 r2
  else
    fX9_sample_54 t_at t_fault t_one k0 l3 l2 255
def fX9_sample_18 (t_size : Int32) (t_at : Int32) (t_fault : Int32) (t_file : Nat → Int32) (t_one : Nat → Int32) (l1 : Int32) (l2 : Int32) (k0 : Int32) : Option (Int32 × Int32 × (Nat → Int32)) :=
  if l1 ≤ 1 then
    fX9_sample_32 t_size t_at t_fault t_file t_one l1 l2 k0 l2
  else
    zb3 (fX9_next t_size t_at t_fault t_file) fun r2 u3 u4 =>
    fX9_sample_32 t_size u3 u4 t_file t_one l1 l2 k0 r2
def fX9_sample (t_size : Int32) (t_at : Int32) (t_fault : Int32) (t_file : Nat → Int32) (t_one : Nat → Int32) (v0 : Int32) : Option (Int32 × Int32 × (Nat → Int32)) :=
  zb3 (fX9_next t_size t_at t_fault t_file) fun r1 u2 u3 =>
  if v0 ≤ 1 then
    fX9_sample_18 t_size u2 u3 t_file t_one v0 r1 r1
  else
    zb3 (fX9_next t_size u2 u3 t_file) fun r6 u7 u8 =>
    fX9_sample_18 t_size u7 u8 t_file t_one v0 r1 r6
def fX9_readFourth_321 (rc117 : Int32 → Int32 → Int32 → Int32 → Int32 → (Nat → Int32) → (Nat → Int32) → (Nat → Int32) → Int32 → Int32 → Int32 → Int32 → Int32 → Option (Int32 × Int32 × Int32 × Int32 × (Nat → Int32) × (Nat → Int32))) (t_size : Int32) (t_at : Int32) (t_fault : Int32) (t_newWide : Int32) (t_newHigh : Int32) (t_file : Nat → Int32) (t_fresh : Nat → Int32) (t_one : Nat → Int32) (l2 : Int32) (l3 : Int32) (l4 : Int32) (l5 : Int32) (l6 : Int32) : Option (Int32 × Int32 × Int32 × Int32 × (Nat → Int32) × (Nat → Int32)) :=
  rc117 t_size t_at t_fault t_newWide t_newHigh t_file t_fresh t_one l2 l3 l4 l5 l6
def fX9_readFourth_296 (rc117 : Int32 → Int32 → Int32 → Int32 → Int32 → (Nat → Int32) → (Nat → Int32) → (Nat → Int32) → Int32 → Int32 → Int32 → Int32 → Int32 → Option (Int32 × Int32 × Int32 × Int32 × (Nat → Int32) × (Nat → Int32))) (rc192 : Int32 → Int32 → Int32 → Int32 → Int32 → (Nat → Int32) → (Nat → Int32) → (Nat → Int32) → Int32 → Int32 → Int32 → Int32 → Int32 → Int32 → Int32 → Int32 → Option (Int32 × Int32 × Int32 × Int32 × (Nat → Int32) × (Nat → Int32))) (t_size : Int32) (t_at : Int32) (t_fault : Int32) (t_newWide : Int32) (t_newHigh : Int32) (t_file : Nat → Int32) (t_fresh : Nat → Int32) (t_one : Nat → Int32) (l2 : Int32) (l3 : Int32) (l4 : Int32) (l5 : Int32) (l6 : Int32) (l7 : Int32) (l8 : Int32) (l9 : Int32) (l10 : Int32) (k0 : Int32) : Option (Int32 × Int32 × Int32 × Int32 × (Nat → Int32) × (Nat → Int32)) :=
  zb1 (fX9_set t_fault t_newWide t_fresh t_one ((t_newWide * k0) + l10)) fun u1 =>
  zlet (l6 + 1) fun x3 =>
  zlet (l9 + 1) fun x4 =>
  rc192 t_size t_at t_fault t_newWide t_newHigh t_file u1 t_one l2 l3 l4 l5 x3 l7 l8 x4
def fX9_readFourth_259 (rc117 : Int32 → Int32 → Int32 → Int32 → Int32 → (Nat → Int32) → (Nat → Int32) → (Nat → Int32) → Int32 → Int32 → Int32 → Int32 → Int32 → Option (Int32 × Int32 × Int32 × Int32 × (Nat → Int32) × (Nat → Int32))) (rc192 : Int32 → Int32 → Int32 → Int32 → Int32 → (Nat → Int32) → (Nat → Int32) → (Nat → Int32) → Int32 → Int32 → Int32 → Int32 → Int32 → Int32 → Int32 → Int32 → Option (Int32 × Int32 × Int32 × Int32 × (Nat → Int32) × (Nat → Int32))) (t_size : Int32) (t_at : Int32) (t_fault : Int32) (t_newWide : Int32) (t_newHigh : Int32) (t_file : Nat → Int32) (t_fresh : Nat → Int32) (t_one : Nat → Int32) (l2 : Int32) (l3 : Int32) (l4 : Int32) (l5 : Int32) (l6 : Int32) (l7 : Int32) (l8 : Int32) (l9 : Int32) (k0 : Int32) : Option (Int32 × Int32 × Int32 × Int32 × (Nat → Int32) × (Nat → Int32)) :=
  if (zrem (l4 / 32) 2) = 1 then
    znz t_newWide <|
    fX9_readFourth_296 rc117 rc192 t_size t_at t_fault t_newWide t_newHigh t_file t_fresh t_one l2 l3 l4 l5 l6 l7 l8 l9 k0 (l6 / t_newWide)
  else
    znz t_newWide <|
    fX9_readFourth_296 rc117 rc192 t_size t_at t_fault t_newWide t_newHigh t_file t_fresh t_one l2 l3 l4 l5 l6 l7 l8 l9 k0 ((t_newHigh - 1) - (l6 / t_newWide))
def fX9_readFourth_224 (rc117 : Int32 → Int32 → Int32 → Int32 → Int32 → (Nat → Int32) → (Nat → Int32) → (Nat → Int32) → Int32 → Int32 → Int32 → Int32 → Int32 → Option (Int32 × Int32 × Int32 × Int32 × (Nat → Int32) × (Nat → Int32))) (rc192 : Int32 → Int32 → Int32 → Int32 → Int32 → (Nat → Int32) → (Nat → Int32) → (Nat → Int32) → Int32 → Int32 → Int32 → Int32 → Int32 → Int32 → Int32 → Int32 → Option (Int32 × Int32 × Int32 × Int32 × (Nat → Int32) × (Nat → Int32))) (t_size : Int32) (t_at : Int32) (t_fault : Int32) (t_newWide : Int32) (t_newHigh : Int32) (t_file : Nat → Int32) (t_fresh : Nat → Int32) (t_one : Nat → Int32) (l2 : Int32) (l3 : Int32) (l4 : Int32) (l5 : Int32) (l6 : Int32) (l7 : Int32) (l8 : Int32) (l9 : Int32) : Option (Int32 × Int32 × Int32 × Int32 × (Nat → Int32) × (Nat → Int32)) :=
  if (zrem (l4 / 16) 2) = 1 then
    znz t_newWide <|
    fX9_readFourth_259 rc117 rc192 t_size t_at t_fault t_newWide t_newHigh t_file t_fresh t_one l2 l3 l4 l5 l6 l7 l8 l9 ((t_newWide - 1) - (zrem l6 t_newWide))
  else
    znz t_newWide <|
    fX9_readFourth_259 rc117 rc192 t_size t_at t_fault t_newWide t_newHigh t_file t_fresh t_one l2 l3 l4 l5 l6 l7 l8 l9 (zrem l6 t_newWide)
def fX9_readFourth_219 (rc117 : Int32 → Int32 → Int32 → Int32 → Int32 → (Nat → Int32) → (Nat → Int32) → (Nat → Int32) → Int32 → Int32 → Int32 → Int32 → Int32 → Option (Int32 × Int32 × Int32 × Int32 × (Nat → Int32) × (Nat → Int32))) (rc192 : Int32 → Int32 → Int32 → Int32 → Int32 → (Nat → Int32) → (Nat → Int32) → (Nat → Int32) → Int32 → Int32 → Int32 → Int32 → Int32 → Int32 → Int32 → Int32 → Option (Int32 × Int32 × Int32 × Int32 × (Nat → Int32) × (Nat → Int32))) (t_size : Int32) (t_at : Int32) (t_fault : Int32) (t_newWide : Int32) (t_newHigh : Int32) (t_file : Nat → Int32) (t_fresh : Nat → Int32) (t_one : Nat → Int32) (l2 : Int32) (l3 : Int32) (l4 : Int32) (l5 : Int32) (l6 : Int32) (l7 : Int32) (l8 : Int32) (l9 : Int32) : Option (Int32 × Int32 × Int32 × Int32 × (Nat → Int32) × (Nat → Int32)) :=
  zb3 (fX9_sample t_size t_at t_fault t_file t_one l3) fun u1 u2 u3 =>
  fX9_readFourth_224 rc117 rc192 t_size u1 u2 t_newWide t_newHigh t_file t_fresh u3 l2 l3 l4 l5 l6 l7 l8 l9
def fX9_readFourth_192 (rc117 : Int32 → Int32 → Int32 → Int32 → Int32 → (Nat → Int32) → (Nat → Int32) → (Nat → Int32) → Int32 → Int32 → Int32 → Int32 → Int32 → Option (Int32 × Int32 × Int32 × Int32 × (Nat → Int32) × (Nat → Int32))) : Nat → Int32 → Int32 → Int32 → Int32 → Int32 → (Nat → Int32) → (Nat → Int32) → (Nat → Int32) → Int32 → Int32 → Int32 → Int32 → Int32 → Int32 → Int32 → Int32 → Option (Int32 × Int32 × Int32 × Int32 × (Nat → Int32) × (Nat → Int32))
  | 0, _, _, _, _, _, _, _, _, _, _, _, _, _, _, _, _ => none
  | n + 1, t_size, t_at, t_fault, t_newWide, t_newHigh, t_file, t_fresh, t_one, l2, l3, l4, l5, l6, l7, l8, l9 =>
    if l8 ≤ l9 then
      fX9_readFourth_321 rc117 t_size t_at t_fault t_newWide t_newHigh t_file t_fresh t_one l2 l3 l4 l5 l6
    else
      if t_fault = 0 then
        if l9 = 0 then
          fX9_readFourth_219 rc117 (fX9_readFourth_192 rc117 n) t_size t_at t_fault t_newWide t_newHigh t_file t_fresh t_one l2 l3 l4 l5 l6 l7 l8 l9
        else
          if 128 ≤ l7 then
            fX9_readFourth_224 rc117 (fX9_readFourth_192 rc117 n) t_size t_at t_fault t_newWide t_newHigh t_file t_fresh t_one l2 l3 l4 l5 l6 l7 l8 l9
          else
            fX9_readFourth_219 rc117 (fX9_readFourth_192 rc117 n) t_size t_at t_fault t_newWide t_newHigh t_file t_fresh t_one l2 l3 l4 l5 l6 l7 l8 l9
      else
        fX9_readFourth_321 rc117 t_size t_at t_fault t_newWide t_newHigh t_file t_fresh t_one l2 l3 l4 l5 l6
theorem fX9_readFourth_192_s (rc117 : Int32 → Int32 → Int32 → Int32 → Int32 → (Nat → Int32) → (Nat → Int32) → (Nat → Int32) → Int32 → Int32 → Int32 → Int32 → Int32 → Option (Int32 × Int32 × Int32 × Int32 × (Nat → Int32) × (Nat → Int32))) (n : Nat) (t_size : Int32) (t_at : Int32) (t_fault : Int32) (t_newWide : Int32) (t_newHigh : Int32) (t_file : Nat → Int32) (t_fresh : Nat → Int32) (t_one : Nat → Int32) (l2 : Int32) (l3 : Int32) (l4 : Int32) (l5 : Int32) (l6 : Int32) (l7 : Int32) (l8 : Int32) (l9 : Int32) : fX9_readFourth_192 rc117 (n + 1) t_size t_at t_fault t_newWide t_newHigh t_file t_fresh t_one l2 l3 l4 l5 l6 l7 l8 l9 =
    if l8 ≤ l9 then
      fX9_readFourth_321 rc117 t_size t_at t_fault t_newWide t_newHigh t_file t_fresh t_one l2 l3 l4 l5 l6
    else
      if t_fault = 0 then
        if l9 = 0 then
          fX9_readFourth_219 rc117 (fX9_readFourth_192 rc117 n) t_size t_at t_fault t_newWide t_newHigh t_file t_fresh t_one l2 l3 l4 l5 l6 l7 l8 l9
        else
          if 128 ≤ l7 then
            fX9_readFourth_224 rc117 (fX9_readFourth_192 rc117 n) t_size t_at t_fault t_newWide t_newHigh t_file t_fresh t_one l2 l3 l4 l5 l6 l7 l8 l9
          else
            fX9_readFourth_219 rc117 (fX9_readFourth_192 rc117 n) t_size t_at t_fault t_newWide t_newHigh t_file t_fresh t_one l2 l3 l4 l5 l6 l7 l8 l9
      else
        fX9_readFourth_321 rc117 t_size t_at t_fault t_newWide t_newHigh t_file t_fresh t_one l2 l3 l4 l5 l6 := rfl
def fX9_readFourth_186 (rc117 : Int32 → Int32 → Int32 → Int32 → Int32 → (Nat → Int32) → (Nat → Int32) → (Nat → Int32) → Int32 → Int32 → Int32 → Int32 → Int32 → Option (Int32 × Int32 × Int32 × Int32 × (Nat → Int32) × (Nat → Int32))) (t_size : Int32) (t_at : Int32) (t_fault : Int32) (t_newWide : Int32) (t_newHigh : Int32) (t_file : Nat → Int32) (t_fresh : Nat → Int32) (t_one : Nat → Int32) (l2 : Int32) (l3 : Int32) (l4 : Int32) (l5 : Int32) (l6 : Int32) (l7 : Int32) (l8 : Int32) (k1 : Int32) : Option (Int32 × Int32 × Int32 × Int32 × (Nat → Int32) × (Nat → Int32)) :=
  zb1 (fX9_broken t_fault k1) fun u1 =>
  fX9_readFourth_192 rc117 1000 t_size t_at u1 t_newWide t_newHigh t_file t_fresh t_one l2 l3 l4 l5 l6 l7 l8 0
def fX9_readFourth_168 (rc117 : Int32 → Int32 → Int32 → Int32 → Int32 → (Nat → Int32) → (Nat → Int32) → (Nat → Int32) → Int32 → Int32 → Int32 → Int32 → Int32 → Option (Int32 × Int32 × Int32 × Int32 × (Nat → Int32) × (Nat → Int32))) (t_size : Int32) (t_at : Int32) (t_fault : Int32) (t_newWide : Int32) (t_newHigh : Int32) (t_file : Nat → Int32) (t_fresh : Nat → Int32) (t_one : Nat → Int32) (l2 : Int32) (l3 : Int32) (l4 : Int32) (l5 : Int32) (l6 : Int32) (l7 : Int32) (k0 : Int32) : Option (Int32 × Int32 × Int32 × Int32 × (Nat → Int32) × (Nat → Int32)) :=
  if k0 ≤ (l5 - l6) then
    fX9_readFourth_186 rc117 t_size t_at t_fault t_newWide t_newHigh t_file t_fresh t_one l2 l3 l4 l5 l6 l7 k0 0
  else
    fX9_readFourth_186 rc117 t_size t_at t_fault t_newWide t_newHigh t_file t_fresh t_one l2 l3 l4 l5 l6 l7 k0 1
def fX9_readFourth_147 (rc117 : Int32 → Int32 → Int32 → Int32 → Int32 → (Nat → Int32) → (Nat → Int32) → (Nat → Int32) → Int32 → Int32 → Int32 → Int32 → Int32 → Option (Int32 × Int32 × Int32 × Int32 × (Nat → Int32) × (Nat → Int32))) (t_size : Int32) (t_at : Int32) (t_fault : Int32) (t_newWide : Int32) (t_newHigh : Int32) (t_file : Nat → Int32) (t_fresh : Nat → Int32) (t_one : Nat → Int32) (l2 : Int32) (l3 : Int32) (l4 : Int32) (l5 : Int32) (l6 : Int32) (k0 : Int32) : Option (Int32 × Int32 × Int32 × Int32 × (Nat → Int32) × (Nat → Int32)) :=
  if k0 ≤ 127 then
    fX9_readFourth_168 rc117 t_size t_at t_fault t_newWide t_newHigh t_file t_fresh t_one l2 l3 l4 l5 l6 k0 (k0 + 1)
  else
    fX9_readFourth_168 rc117 t_size t_at t_fault t_newWide t_newHigh t_file t_fresh t_one l2 l3 l4 l5 l6 k0 (k0 - 127)
def fX9_readFourth_117 : Nat → Int32 → Int32 → Int32 → Int32 → Int32 → (Nat → Int32) → (Nat → Int32) → (Nat → Int32) → Int32 → Int32 → Int32 → Int32 → Int32 → Option (Int32 × Int32 × Int32 × Int32 × (Nat → Int32) × (Nat → Int32))
  | 0, _, _, _, _, _, _, _, _, _, _, _, _, _ => none
  | n + 1, t_size, t_at, t_fault, t_newWide, t_newHigh, t_file, t_fresh, t_one, l2, l3, l4, l5, l6 =>
    if t_fault = 0 then
      if l5 ≤ l6 then
        some (t_at, t_fault, t_newWide, t_newHigh, t_fresh, t_one)
      else
        if l2 ≤ 9 then
          fX9_readFourth_147 (fX9_readFourth_117 n) t_size t_at t_fault t_newWide t_newHigh t_file t_fresh t_one l2 l3 l4 l5 l6 128
        else
          zb3 (fX9_next t_size t_at t_fault t_file) fun r4 u5 u6 =>
          fX9_readFourth_147 (fX9_readFourth_117 n) t_size u5 u6 t_newWide t_newHigh t_file t_fresh t_one l2 l3 l4 l5 l6 r4
    else
      some (t_at, t_fault, t_newWide, t_newHigh, t_fresh, t_one)
theorem fX9_readFourth_117_s (n : Nat) (t_size : Int32) (t_at : Int32) (t_fault : Int32) (t_newWide : Int32) (t_newHigh : Int32) (t_file : Nat → Int32) (t_fresh : Nat → Int32) (t_one : Nat → Int32) (l2 : Int32) (l3 : Int32) (l4 : Int32) (l5 : Int32) (l6 : Int32) : fX9_readFourth_117 (n + 1) t_size t_at t_fault t_newWide t_newHigh t_file t_fresh t_one l2 l3 l4 l5 l6 =
    if t_fault = 0 then
      if l5 ≤ l6 then
        some (t_at, t_fault, t_newWide, t_newHigh, t_fresh, t_one)
      else
        if l2 ≤ 9 then
          fX9_readFourth_147 (fX9_readFourth_117 n) t_size t_at t_fault t_newWide t_newHigh t_file t_fresh t_one l2 l3 l4 l5 l6 128
        else
          zb3 (fX9_next t_size t_at t_fault t_file) fun r4 u5 u6 =>
          fX9_readFourth_147 (fX9_readFourth_117 n) t_size u5 u6 t_newWide t_newHigh t_file t_fresh t_one l2 l3 l4 l5 l6 r4
    else
      some (t_at, t_fault, t_newWide, t_newHigh, t_fresh, t_one) := rfl
def fX9_readFourth_95 (t_size : Int32) (t_at : Int32) (t_fault : Int32) (t_newWide : Int32) (t_newHigh : Int32) (t_file : Nat → Int32) (t_fresh : Nat → Int32) (t_one : Nat → Int32) (l1 : Int32) (l2 : Int32) (l3 : Int32) (l4 : Int32) (k1 : Int32) : Option (Int32 × Int32 × Int32 × Int32 × (Nat → Int32) × (Nat → Int32)) :=
  zb1 (fX9_broken t_fault k1) fun u1 =>
  zb2 (fX9_skip t_size t_at u1 t_file l1) fun u3 u4 =>
  zlet (t_newWide * t_newHigh) fun x6 =>
  fX9_readFourth_117 1000 t_size u3 u4 t_newWide t_newHigh t_file t_fresh t_one l2 l3 l4 x6 0
def fX9_readFourth_90 (t_size : Int32) (t_at : Int32) (t_fault : Int32) (t_newWide : Int32) (t_newHigh : Int32) (t_file : Nat → Int32) (t_fresh : Nat → Int32) (t_one : Nat → Int32) (l1 : Int32) (l2 : Int32) (l3 : Int32) (l4 : Int32) : Option (Int32 × Int32 × Int32 × Int32 × (Nat → Int32) × (Nat → Int32)) :=
  fX9_readFourth_95 t_size t_at t_fault t_newWide t_newHigh t_file t_fresh t_one l1 l2 l3 l4 1
def fX9_readFourth_80 (t_size : Int32) (t_at : Int32) (t_fault : Int32) (t_newWide : Int32) (t_newHigh : Int32) (t_file : Nat → Int32) (t_fresh : Nat → Int32) (t_one : Nat → Int32) (l1 : Int32) (l2 : Int32) (l3 : Int32) (l4 : Int32) (k1 : Int32) (k2 : Int32) : Option (Int32 × Int32 × Int32 × Int32 × (Nat → Int32) × (Nat → Int32)) :=
  if k1 = k2 then
    if l4 ≤ 63 then
      fX9_readFourth_95 t_size t_at t_fault t_newWide t_newHigh t_file t_fresh t_one l1 l2 l3 l4 0
    else
      fX9_readFourth_90 t_size t_at t_fault t_newWide t_newHigh t_file t_fresh t_one l1 l2 l3 l4
  else
    fX9_readFourth_90 t_size t_at t_fault t_newWide t_newHigh t_file t_fresh t_one l1 l2 l3 l4
def fX9_readFourth (t_size : Int32) (t_at : Int32) (t_fault : Int32) (t_file : Nat → Int32) (t_fresh : Nat → Int32) (t_one : Nat → Int32) : Option (Int32 × Int32 × Int32 × Int32 × (Nat → Int32) × (Nat → Int32)) :=
  zb3 (fX9_next t_size t_at t_fault t_file) fun r1 u2 u3 =>
  zb3 (fX9_next t_size u2 u3 t_file) fun r5 u6 u7 =>
  zb3 (fX9_next t_size u6 u7 t_file) fun r9 u10 u11 =>
  zb2 (fX9_skip t_size u10 u11 t_file 9) fun u13 u14 =>
  zb3 (fX9_number t_size u13 u14 t_file 2 0) fun r16 u17 u18 =>
  zb2 (fX9_sideOf u18 r16) fun r20 u21 =>
  zb3 (fX9_number t_size u17 u21 t_file 2 0) fun r23 u24 u25 =>
  zb2 (fX9_sideOf u25 r23) fun r27 u28 =>
  zb3 (fX9_next t_size u24 u28 t_file) fun r30 u31 u32 =>
  zlet (r30 / 8) fun x34 =>
  zb3 (fX9_next t_size u31 u32 t_file) fun r35 u36 u37 =>
  if x34 = 4 then
    fX9_readFourth_80 t_size u36 u37 r20 r27 t_file t_fresh t_one r1 r9 x34 r35 (zrem r35 16) 8
  else
    fX9_readFourth_80 t_size u36 u37 r20 r27 t_file t_fresh t_one r1 r9 x34 r35 (zrem r35 16) 0
def fX9_decode_60 (t_wide : Int32) (t_high : Int32) (t_at : Int32) (t_fault : Int32) (t_newWide : Int32) (t_newHigh : Int32) (t_colours : Int32) (t_now : Nat → Int32) (t_fresh : Nat → Int32) (t_colour : Nat → Int32) (t_table : Nat → Int32) (t_last : Nat → Int32) (t_one : Nat → Int32) (l1 : Int32) : Option (Int32 × Int32 × Int32 × Int32 × Int32 × Int32 × Int32 × Int32 × (Nat → Int32) × (Nat → Int32) × (Nat → Int32) × (Nat → Int32) × (Nat → Int32) × (Nat → Int32)) :=
  if t_fault = 0 then
    zb1 (fX9_copyBack t_now t_fresh) fun u2 =>
    some (l1, t_newWide, t_newHigh, t_at, t_fault, t_newWide, t_newHigh, t_colours, u2, t_fresh, t_colour, t_table, t_last, t_one)
  else
    some (t_fault, t_wide, t_high, t_at, t_fault, t_newWide, t_newHigh, t_colours, t_now, t_fresh, t_colour, t_table, t_last, t_one)
def fX9_decode (t_wide : Int32) (t_high : Int32) (t_size : Int32) (t_at : Int32) (t_fault : Int32) (t_newWide : Int32) (t_newHigh : Int32) (t_colours : Int32) (t_now : Nat → Int32) (t_file : Nat → Int32) (t_fresh : Nat → Int32) (t_colour : Nat → Int32) (t_table : Nat → Int32) (t_last : Nat → Int32) (t_one : Nat → Int32) : Option (Int32 × Int32 × Int32 × Int32 × Int32 × Int32 × Int32 × Int32 × (Nat → Int32) × (Nat → Int32) × (Nat → Int32) × (Nat → Int32) × (Nat → Int32) × (Nat → Int32)) :=
  zb1 (fX9_sniff t_size t_file) fun r1 =>
  if 0 ≤ r1 then
    if r1 = 0 then
      zb8 (fX9_readFirst t_size 0 0 t_file t_fresh t_table t_last t_one) fun u30 u31 u32 u33 u34 u35 u36 u37 =>
      fX9_decode_60 t_wide t_high u30 u31 u32 u33 t_colours t_now u34 t_colour u35 u36 u37 r1
    else
      if r1 = 1 then
        zb6 (fX9_readSecond t_size 0 0 t_file t_fresh t_one) fun u23 u24 u25 u26 u27 u28 =>
        fX9_decode_60 t_wide t_high u23 u24 u25 u26 t_colours t_now u27 t_colour t_table t_last u28 r1
      else
        if r1 = 2 then
          zb8 (fX9_readThird t_size 0 0 t_file t_fresh t_colour t_one) fun u14 u15 u16 u17 u18 u19 u20 u21 =>
          fX9_decode_60 t_wide t_high u14 u15 u16 u17 u18 t_now u19 u20 t_table t_last u21 r1
        else
          zb6 (fX9_readFourth t_size 0 0 t_file t_fresh t_one) fun u7 u8 u9 u10 u11 u12 =>
          fX9_decode_60 t_wide t_high u7 u8 u9 u10 t_colours t_now u11 t_colour t_table t_last u12 r1
  else
    some ((-1), t_wide, t_high, t_at, t_fault, t_newWide, t_newHigh, t_colours, t_now, t_fresh, t_colour, t_table, t_last, t_one)
def rmX9_space : Room := { frames := 0, cells := 0, slots := 0, locals := 0 }
set_option maxHeartbeats 4000000 in
set_option maxRecDepth 100000 in
theorem wX9_space_24 {p : Program} {l : Launch} {e : Env} {s : State} {m : MethodId} {args : Array Value} {below : List Frame} {meth : Method} {c : Code} {D : va_G} {A : Nat → Prop} {Q : State → Prop} {cI : ClassId} {r0 : Int32} (C : CallFix p m c cX9_space 1 s args wsX9_space RX9) (hN : zN s) (hK : va_K D vwCl [(cI, .int)] s) (hA : ∀ q, s.heap.size ≤ q → A q) (hE : zEz p l e rmX9_space s m args below meth c cX9_space D A Q (([] : va_W)) r0) {l0 : Int32} {H : Heap} {locs : List Loc} {ls : Array Slot} : fX9_space_24 = some r0 → va_P D vwCl (([] : va_W)) H → va_D A (([] : va_W)) → va_S A s.heap H locs → lv_has ls 1 [(0, .int l0)] → W p l e rmX9_space s m args below meth c H locs 0 0 Q (F0 m 24 ls []) := by
  intro hf hP hD hS hl
  obtain ⟨hx, hb, hml, hown, hts⟩ := id C
  unfold fX9_space_24 at hf
  refine lv_iconst (v := 1) hx hb dX9_space_24 (by decide) ?_
  refine lv_goto (tgt := 29) hx hb dX9_space_25 (by decide) ?_
  cases hf
  exact hE _ _ _ _ dX9_space_29 rfl hP hD hS
set_option maxHeartbeats 4000000 in
set_option maxRecDepth 100000 in
theorem wX9_space_0 {p : Program} {l : Launch} {e : Env} {s : State} {m : MethodId} {args : Array Value} {below : List Frame} {meth : Method} {c : Code} {D : va_G} {A : Nat → Prop} {Q : State → Prop} {cI : ClassId} {r0 : Int32} (C : CallFix p m c cX9_space 1 s args wsX9_space RX9) (hN : zN s) (hK : va_K D vwCl [(cI, .int)] s) (hA : ∀ q, s.heap.size ≤ q → A q) (hE : zEz p l e rmX9_space s m args below meth c cX9_space D A Q (([] : va_W)) r0) {v0 : Int32} {H : Heap} {locs : List Loc} {ls : Array Slot} : fX9_space v0 = some r0 → va_P D vwCl (([] : va_W)) H → va_D A (([] : va_W)) → va_S A s.heap H locs → lv_has ls 1 [(0, .int v0)] → W p l e rmX9_space s m args below meth c H locs 0 0 Q (F0 m 0 ls []) := by
  intro hf hP hD hS hl
  obtain ⟨hx, hb, hml, hown, hts⟩ := id C
  unfold fX9_space at hf
  refine lv_iload_n hx hb dX9_space_0 rfl (lv_at hl 0 rfl) ?_
  refine lv_bipush (v := 9) hx hb dX9_space_1 (by decide) ?_
  refine lv_icmp_eq (tgt := 24) hx hb dX9_space_3 (by decide) (fun c1 => ?_) (fun c1 => ?_)
  · replace hf := zif_t hf c1
    exact wX9_space_24 C hN hK hA hE hf hP hD hS (lv_sub hl [0] rfl)
  · replace hf := zif_f hf c1
    refine lv_iload_n hx hb dX9_space_6 rfl (lv_at hl 0 rfl) ?_
    refine lv_bipush (v := 10) hx hb dX9_space_7 (by decide) ?_
    refine lv_icmp_eq (tgt := 24) hx hb dX9_space_9 (by decide) (fun c2 => ?_) (fun c2 => ?_)
    · replace hf := zif_t hf c2
      exact wX9_space_24 C hN hK hA hE hf hP hD hS (lv_sub hl [0] rfl)
    · replace hf := zif_f hf c2
      refine lv_iload_n hx hb dX9_space_12 rfl (lv_at hl 0 rfl) ?_
      refine lv_bipush (v := 13) hx hb dX9_space_13 (by decide) ?_
      refine lv_icmp_eq (tgt := 24) hx hb dX9_space_15 (by decide) (fun c3 => ?_) (fun c3 => ?_)
      · replace hf := zif_t hf c3
        exact wX9_space_24 C hN hK hA hE hf hP hD hS (lv_sub hl [0] rfl)
      · replace hf := zif_f hf c3
        refine lv_iload_n hx hb dX9_space_18 rfl (lv_at hl 0 rfl) ?_
        refine lv_bipush (v := 32) hx hb dX9_space_19 (by decide) ?_
        refine lv_icmp_ne (tgt := 28) hx hb dX9_space_21 (by decide) (fun c4 => ?_) (fun c4 => ?_)
        · replace hf := zif_f hf c4
          refine lv_iconst (v := 0) hx hb dX9_space_28 (by decide) ?_
          cases hf
          exact hE _ _ _ _ dX9_space_29 rfl hP hD hS
        · replace hf := zif_t hf c4
          exact wX9_space_24 C hN hK hA hE hf hP hD hS (lv_sub hl [0] rfl)
set_option maxHeartbeats 4000000 in
set_option maxRecDepth 100000 in
theorem mX9_space (l : Launch) (D : va_G) (cI : ClassId) (sz : Nat) (v0 : Int32) (r0 : Int32) (hf : fX9_space v0 = some r0) : Met l yX9_space wsX9_space rmX9_space (va_Pc [.int v0] (zP D [(cI, .int)] (([] : va_W)) sz)) (zQi D (([] : va_W)) sz r0 (([] : va_W))) 0 0 (va_A (([] : va_W)) sz) := by
  refine Met.ofW (cc := cX9_space) (maxL := 1) (ret := (some .boolean)) (by decide) rfl ?_
  intro p e s m args below meth c s₁ B hml hv
  obtain ⟨rfl, hsz, hP, hK, hD0, hN⟩ := hv
  subst hsz
  have C : CallFix p m c cX9_space 1 s [.int v0].toArray wsX9_space RX9 := ⟨B.exec, B.bytes, hml, findClass_of_methodNamed B.named, atoms_spec (ws := wsX9_space) B.pre⟩
  have hl := lv_entry ([.int v0]) (n := 1) (Nat.le_of_ble_eq_true rfl)
  rw [lg_entry_eq]
  exact wX9_space_0 (A := va_A (([] : va_W)) s.heap.size) C hN hK (fun q h => Or.inr h) (fun H locs pc ls d hn hP hD hS => zend_z C.1 C.2.1 B.returns B.notSynchronized d hn hP hD hS) hf hP hD0.self va_S.rf hl
def rmX9_digit : Room := { frames := 0, cells := 0, slots := 0, locals := 0 }
theorem kX9_digit_20 {args : Array Value} {s : State} (h : ∀ w ∈ wsX9_digit, w.before args s = true) : (Cond.fieldLink RX9 20 "FourPictureFilesModel" "file" "[I").before args s = true := h _ (by decide +kernel)
theorem kX9_digit_57 {args : Array Value} {s : State} (h : ∀ w ∈ wsX9_digit, w.before args s = true) : (Cond.fieldLink RX9 57 "FourPictureFilesModel" "size" "I").before args s = true := h _ (by decide +kernel)
theorem kX9_digit_132 {args : Array Value} {s : State} (h : ∀ w ∈ wsX9_digit, w.before args s = true) : (Cond.fieldLink RX9 132 "FourPictureFilesModel" "at" "I").before args s = true := h _ (by decide +kernel)
theorem iX9_digit_X9 : ∀ w ∈ u_ws RX9 TX9 15, w ∈ wsX9_digit := by decide +kernel
set_option maxHeartbeats 4000000 in
set_option maxRecDepth 100000 in
theorem wX9_digit_0 {p : Program} {l : Launch} {e : Env} {s : State} {m : MethodId} {args : Array Value} {below : List Frame} {meth : Method} {c : Code} {D : va_G} {A : Nat → Prop} {Q : State → Prop} {cI : ClassId} {h_t h_t_now h_t_file h_t_fresh h_t_colour h_t_table h_t_last h_t_one : Nat} {t_wide : Int32} {t_high : Int32} {t_size : Int32} {t_at : Int32} {t_fault : Int32} {t_newWide : Int32} {t_newHigh : Int32} {t_colours : Int32} {t_now : Nat → Int32} {t_file : Nat → Int32} {t_fresh : Nat → Int32} {t_colour : Nat → Int32} {t_table : Nat → Int32} {t_last : Nat → Int32} {t_one : Nat → Int32} {r0 : Int32} (C : CallFix p m c cX9_digit 1 s args wsX9_digit RX9) (hN : zN s) (hK : va_K D vwCl [(cI, .int)] s) (hA : ∀ q, s.heap.size ≤ q → A q) (hE : zEz p l e rmX9_digit s m args below meth c cX9_digit D A Q (zwX9 cI h_t h_t_now h_t_file h_t_fresh h_t_colour h_t_table h_t_last h_t_one t_wide t_high t_size t_at t_fault t_newWide t_newHigh t_colours t_now t_file t_fresh t_colour t_table t_last t_one) r0) {H : Heap} {locs : List Loc} {ls : Array Slot} : fX9_digit t_size t_at t_file = some r0 → va_P D vwCl (zwX9 cI h_t h_t_now h_t_file h_t_fresh h_t_colour h_t_table h_t_last h_t_one t_wide t_high t_size t_at t_fault t_newWide t_newHigh t_colours t_now t_file t_fresh t_colour t_table t_last t_one) H → va_D A (zwX9 cI h_t h_t_now h_t_file h_t_fresh h_t_colour h_t_table h_t_last h_t_one t_wide t_high t_size t_at t_fault t_newWide t_newHigh t_colours t_now t_file t_fresh t_colour t_table t_last t_one) → va_S A s.heap H locs → lv_has ls 1 [(0, .ref h_t)] → W p l e rmX9_digit s m args below meth c H locs 0 0 Q (F0 m 0 ls []) := by
  intro hf hP hD hS hl
  obtain ⟨hx, hb, hml, hown, hts⟩ := id C
  unfold fX9_digit at hf
  refine lv_aload_n hx hb dX9_digit_0 rfl (lv_at hl 0 rfl) ?_
  refine va_get (D := D) (ci := 8) (v := .int t_at) (C := RX9) (T := TX9) (N := 15) hx hb hts iX9_digit_X9 hown hK hP 0 rfl rfl 5 (by decide) (kX9_digit_132 hts) (fun _ h9 => h9) rfl dX9_digit_1 ?_
  refine lv_aload_n hx hb dX9_digit_4 rfl (lv_at hl 0 rfl) ?_
  refine va_get (D := D) (ci := 8) (v := .int t_size) (C := RX9) (T := TX9) (N := 15) hx hb hts iX9_digit_X9 hown hK hP 0 rfl rfl 3 (by decide) (kX9_digit_57 hts) (fun _ h9 => h9) rfl dX9_digit_5 ?_
  refine lv_icmp_ge (tgt := 43) hx hb dX9_digit_8 (by decide) (fun c1 => ?_) (fun c1 => ?_)
  · replace hf := zif_t hf c1
    refine lv_iconst (v := 0) hx hb dX9_digit_43 (by decide) ?_
    cases hf
    exact hE _ _ _ _ dX9_digit_44 rfl hP hD hS
  · replace hf := zif_f hf c1
    refine lv_aload_n hx hb dX9_digit_11 rfl (lv_at hl 0 rfl) ?_
    refine va_get (D := D) (ci := 8) (v := .ref h_t_file) (C := RX9) (T := TX9) (N := 15) hx hb hts iX9_digit_X9 hown hK hP 0 rfl rfl 4 (by decide) (kX9_digit_20 hts) (fun _ h9 => h9) rfl dX9_digit_12 ?_
    refine lv_aload_n hx hb dX9_digit_15 rfl (lv_at hl 0 rfl) ?_
    refine va_get (D := D) (ci := 8) (v := .int t_at) (C := RX9) (T := TX9) (N := 15) hx hb hts iX9_digit_X9 hown hK hP 0 rfl rfl 5 (by decide) (kX9_digit_132 hts) (fun _ h9 => h9) rfl dX9_digit_16 ?_
    obtain ⟨hg3, hf⟩ := zrd_in hf
    refine va_iald hx hb hK hP 2 0 rfl rfl hg3 dX9_digit_19 ?_
    refine lv_topi (fun x2 ex2 => ?_)
    replace hf := hf x2 ex2
    clear ex2
    refine lv_bipush (v := 48) hx hb dX9_digit_20 (by decide) ?_
    refine lv_icmp_lt (tgt := 43) hx hb dX9_digit_22 (by decide) (fun c4 => ?_) (fun c4 => ?_)
    · replace hf := zif_t hf c4
      refine lv_iconst (v := 0) hx hb dX9_digit_43 (by decide) ?_
      cases hf
      exact hE _ _ _ _ dX9_digit_44 rfl hP hD hS
    · replace hf := zif_f hf c4
      refine lv_aload_n hx hb dX9_digit_25 rfl (lv_at hl 0 rfl) ?_
      refine va_get (D := D) (ci := 8) (v := .ref h_t_file) (C := RX9) (T := TX9) (N := 15) hx hb hts iX9_digit_X9 hown hK hP 0 rfl rfl 4 (by decide) (kX9_digit_20 hts) (fun _ h9 => h9) rfl dX9_digit_26 ?_
      refine lv_aload_n hx hb dX9_digit_29 rfl (lv_at hl 0 rfl) ?_
      refine va_get (D := D) (ci := 8) (v := .int t_at) (C := RX9) (T := TX9) (N := 15) hx hb hts iX9_digit_X9 hown hK hP 0 rfl rfl 5 (by decide) (kX9_digit_132 hts) (fun _ h9 => h9) rfl dX9_digit_30 ?_
      obtain ⟨hg6, hf⟩ := zrd_in hf
      refine va_iald hx hb hK hP 2 0 rfl rfl hg6 dX9_digit_33 ?_
      refine lv_topi (fun x5 ex5 => ?_)
      replace hf := hf x5 ex5
      clear ex5
      refine lv_bipush (v := 57) hx hb dX9_digit_34 (by decide) ?_
      refine lv_icmp_gt (tgt := 43) hx hb dX9_digit_36 (by decide) (fun c7 => ?_) (fun c7 => ?_)
      · replace hf := zif_t hf c7
        refine lv_iconst (v := 0) hx hb dX9_digit_43 (by decide) ?_
        cases hf
        exact hE _ _ _ _ dX9_digit_44 rfl hP hD hS
      · replace hf := zif_f hf c7
        refine lv_iconst (v := 1) hx hb dX9_digit_39 (by decide) ?_
        refine lv_goto (tgt := 44) hx hb dX9_digit_40 (by decide) ?_
        cases hf
        exact hE _ _ _ _ dX9_digit_44 rfl hP hD hS
set_option maxHeartbeats 4000000 in
set_option maxRecDepth 100000 in
theorem mX9_digit (l : Launch) (D : va_G) (cI : ClassId) (sz : Nat) (h_t h_t_now h_t_file h_t_fresh h_t_colour h_t_table h_t_last h_t_one : Nat) (t_wide : Int32) (t_high : Int32) (t_size : Int32) (t_at : Int32) (t_fault : Int32) (t_newWide : Int32) (t_newHigh : Int32) (t_colours : Int32) (t_now : Nat → Int32) (t_file : Nat → Int32) (t_fresh : Nat → Int32) (t_colour : Nat → Int32) (t_table : Nat → Int32) (t_last : Nat → Int32) (t_one : Nat → Int32) (r0 : Int32) (hf : fX9_digit t_size t_at t_file = some r0) : Met l yX9_digit wsX9_digit rmX9_digit (va_Pc [.ref h_t] (zP D [(cI, .int)] (zwX9 cI h_t h_t_now h_t_file h_t_fresh h_t_colour h_t_table h_t_last h_t_one t_wide t_high t_size t_at t_fault t_newWide t_newHigh t_colours t_now t_file t_fresh t_colour t_table t_last t_one) sz)) (zQi D (zwX9 cI h_t h_t_now h_t_file h_t_fresh h_t_colour h_t_table h_t_last h_t_one t_wide t_high t_size t_at t_fault t_newWide t_newHigh t_colours t_now t_file t_fresh t_colour t_table t_last t_one) sz r0 (zwX9 cI h_t h_t_now h_t_file h_t_fresh h_t_colour h_t_table h_t_last h_t_one t_wide t_high t_size t_at t_fault t_newWide t_newHigh t_colours t_now t_file t_fresh t_colour t_table t_last t_one)) 0 0 (va_A (zwX9 cI h_t h_t_now h_t_file h_t_fresh h_t_colour h_t_table h_t_last h_t_one t_wide t_high t_size t_at t_fault t_newWide t_newHigh t_colours t_now t_file t_fresh t_colour t_table t_last t_one) sz) := by
  refine Met.ofW (cc := cX9_digit) (maxL := 1) (ret := (some .boolean)) (by decide) rfl ?_
  intro p e s m args below meth c s₁ B hml hv
  obtain ⟨rfl, hsz, hP, hK, hD0, hN⟩ := hv
  subst hsz
  have C : CallFix p m c cX9_digit 1 s [.ref h_t].toArray wsX9_digit RX9 := ⟨B.exec, B.bytes, hml, findClass_of_methodNamed B.named, atoms_spec (ws := wsX9_digit) B.pre⟩
  have hl := lv_entry ([.ref h_t]) (n := 1) (Nat.le_of_ble_eq_true rfl)
  rw [lg_entry_eq]
  exact wX9_digit_0 (A := va_A (zwX9 cI h_t h_t_now h_t_file h_t_fresh h_t_colour h_t_table h_t_last h_t_one t_wide t_high t_size t_at t_fault t_newWide t_newHigh t_colours t_now t_file t_fresh t_colour t_table t_last t_one) s.heap.size) C hN hK (fun q h => Or.inr h) (fun H locs pc ls d hn hP hD hS => zend_z C.1 C.2.1 B.returns B.notSynchronized d hn hP hD hS) hf hP hD0.self va_S.rf hl
def rmX9_gaps : Room := { frames := 1, cells := 0, slots := 0, locals := 20 }
theorem kX9_gaps_20 {args : Array Value} {s : State} (h : ∀ w ∈ wsX9_gaps, w.before args s = true) : (Cond.fieldLink RX9 20 "FourPictureFilesModel" "file" "[I").before args s = true := h _ (by decide +kernel)
theorem kX9_gaps_57 {args : Array Value} {s : State} (h : ∀ w ∈ wsX9_gaps, w.before args s = true) : (Cond.fieldLink RX9 57 "FourPictureFilesModel" "size" "I").before args s = true := h _ (by decide +kernel)
theorem kX9_gaps_129 {args : Array Value} {s : State} (h : ∀ w ∈ wsX9_gaps, w.before args s = true) : (Cond.fieldLink RX9 129 "FourPictureFilesModel" "fault" "I").before args s = true := h _ (by decide +kernel)
theorem kX9_gaps_132 {args : Array Value} {s : State} (h : ∀ w ∈ wsX9_gaps, w.before args s = true) : (Cond.fieldLink RX9 132 "FourPictureFilesModel" "at" "I").before args s = true := h _ (by decide +kernel)
theorem iX9_gaps_X9 : ∀ w ∈ u_ws RX9 TX9 15, w ∈ wsX9_gaps := by decide +kernel
theorem qX9_gaps_X9_next_135 {args : Array Value} {s : State} (hts : ∀ w ∈ wsX9_gaps, w.before args s = true) : CallW rmX9_gaps s args RX9 RX9 135 yX9_next cX9_next 1 (some .int) wsX9_next rmX9_next 0 0 0 := cwV 0 hts gX9_gaps_X9_next rfl rfl rfl (by decide +kernel) ⟨Nat.le_of_ble_eq_true rfl, Nat.le_of_ble_eq_true rfl⟩
theorem qX9_gaps_X9_space_174 {args : Array Value} {s : State} (hts : ∀ w ∈ wsX9_gaps, w.before args s = true) : CallB rmX9_gaps s args RX9 174 yX9_space cX9_space 1 (some .boolean) wsX9_space rmX9_space 0 0 1 ∧ (Cond.static yX9_space).before args s = true := va_cwS 1 hts gX9_gaps_X9_space rfl rfl rfl (by decide +kernel) ⟨Nat.le_of_ble_eq_true rfl, Nat.le_of_ble_eq_true rfl⟩
set_option maxHeartbeats 4000000 in
set_option maxRecDepth 100000 in
theorem wX9_gaps_61 {p : Program} {l : Launch} {e : Env} {s : State} {m : MethodId} {args : Array Value} {below : List Frame} {meth : Method} {c : Code} {D : va_G} {A : Nat → Prop} {Q : State → Prop} {cI : ClassId} {h_t h_t_now h_t_file h_t_fresh h_t_colour h_t_table h_t_last h_t_one : Nat} {t_wide : Int32} {t_high : Int32} {t_size : Int32} {t_newWide : Int32} {t_newHigh : Int32} {t_colours : Int32} {t_now : Nat → Int32} {t_file : Nat → Int32} {t_fresh : Nat → Int32} {t_colour : Nat → Int32} {t_table : Nat → Int32} {t_last : Nat → Int32} {t_one : Nat → Int32} {r0 : Int32} {zt_at : Int32} {zt_fault : Int32} (C : CallFix p m c cX9_gaps 2 s args wsX9_gaps RX9) (hN : zN s) (hK : va_K D vwCl [(cI, .int)] s) (hA : ∀ q, s.heap.size ≤ q → A q) (hE : zEi p l e rmX9_gaps s m args below meth c cX9_gaps D A Q (zwX9 cI h_t h_t_now h_t_file h_t_fresh h_t_colour h_t_table h_t_last h_t_one t_wide t_high t_size zt_at zt_fault t_newWide t_newHigh t_colours t_now t_file t_fresh t_colour t_table t_last t_one) r0) {rc2 : Int32 → Int32 → Int32 → (Nat → Int32) → Int32 → Option (Int32 × Int32 × Int32)} (hr_2 : ∀ {t_at : Int32} {t_fault : Int32} {l1 : Int32} {H : Heap} {locs : List Loc} {ls : Array Slot}, rc2 t_size t_at t_fault t_file l1 = some (r0, zt_at, zt_fault) → va_P D vwCl (zwX9 cI h_t h_t_now h_t_file h_t_fresh h_t_colour h_t_table h_t_last h_t_one t_wide t_high t_size t_at t_fault t_newWide t_newHigh t_colours t_now t_file t_fresh t_colour t_table t_last t_one) H → va_D A (zwX9 cI h_t h_t_now h_t_file h_t_fresh h_t_colour h_t_table h_t_last h_t_one t_wide t_high t_size t_at t_fault t_newWide t_newHigh t_colours t_now t_file t_fresh t_colour t_table t_last t_one) → va_S A s.heap H locs → lv_has ls 2 [(0, .ref h_t), (1, .int l1)] → W p l e rmX9_gaps s m args below meth c H locs 0 0 Q (F0 m 2 ls [])) (n : Nat) : ∀ {t_at : Int32} {t_fault : Int32} {l1 : Int32} {H : Heap} {locs : List Loc} {ls : Array Slot}, fX9_gaps_61 rc2 n t_size t_at t_fault t_file l1 = some (r0, zt_at, zt_fault) → va_P D vwCl (zwX9 cI h_t h_t_now h_t_file h_t_fresh h_t_colour h_t_table h_t_last h_t_one t_wide t_high t_size t_at t_fault t_newWide t_newHigh t_colours t_now t_file t_fresh t_colour t_table t_last t_one) H → va_D A (zwX9 cI h_t h_t_now h_t_file h_t_fresh h_t_colour h_t_table h_t_last h_t_one t_wide t_high t_size t_at t_fault t_newWide t_newHigh t_colours t_now t_file t_fresh t_colour t_table t_last t_one) → va_S A s.heap H locs → lv_has ls 2 [(0, .ref h_t), (1, .int l1)] → W p l e rmX9_gaps s m args below meth c H locs 0 0 Q (F0 m 61 ls []) := by
  obtain ⟨hx, hb, hml, hown, hts⟩ := id C
  induction n with
  | zero =>
    intro t_at t_fault l1 H locs ls hf
    cases hf
  | succ n hr_61 =>
    intro t_at t_fault l1 H locs ls hf hP hD hS hl
    rw [fX9_gaps_61_s] at hf
    refine lv_aload_n hx hb dX9_gaps_61 rfl (lv_at hl 0 rfl) ?_
    refine va_get (D := D) (ci := 8) (v := .int t_fault) (C := RX9) (T := TX9) (N := 15) hx hb hts iX9_gaps_X9 hown hK hP 0 rfl rfl 6 (by decide) (kX9_gaps_129 hts) (fun _ h9 => h9) rfl dX9_gaps_62 ?_
    refine lv_if_ne (tgt := 2) hx hb dX9_gaps_65 (by decide) (fun c1 => ?_) (fun c1 => ?_)
    · replace hf := zif_f hf c1
      exact hr_2 hf hP hD hS (lv_sub hl [0, 1] rfl)
    · replace hf := zif_t hf c1
      refine lv_aload_n hx hb dX9_gaps_68 rfl (lv_at hl 0 rfl) ?_
      obtain ⟨r2, u3, u4, hc5, hf⟩ := zb3_in hf
      refine zc_i (va_runV (As := []) (rest := []) C (mX9_next l D cI H.size h_t h_t_now h_t_file h_t_fresh h_t_colour h_t_table h_t_last h_t_one t_wide t_high t_size t_at t_fault t_newWide t_newHigh t_colours t_now t_file t_fresh t_colour t_table t_last t_one r2 u3 u4 hc5) (qX9_gaps_X9_next_135 hts) ⟨zP_blind, va_recv hK hP (ci := 8) (q0 := 0) rfl rfl, zpre hK hN hP hD [0, 1, 2, 3, 4, 5, 6, 7] rfl rfl⟩ rfl rfl hl.1 rfl (lv_room (Nat.le_of_ble_eq_true rfl)) dX9_gaps_69 ⟨Nat.zero_le _, Nat.zero_le _⟩) hP hD hS hA [0, 1, 2, 3, 4, 5, 6, 7] [] [0, 1, 2, 3, 4, 5, 6, 7] (ws' := zwX9 cI h_t h_t_now h_t_file h_t_fresh h_t_colour h_t_table h_t_last h_t_one t_wide t_high t_size u3 u4 t_newWide t_newHigh t_colours t_now t_file t_fresh t_colour t_table t_last t_one) rfl rfl rfl rfl rfl rfl (fun H locs hP hD hS => ?_)
      refine lv_bipush (v := 10) hx hb dX9_gaps_72 (by decide) ?_
      refine lv_icmp_eq (tgt := 2) hx hb dX9_gaps_74 (by decide) (fun c6 => ?_) (fun c6 => ?_)
      · replace hf := zif_t hf c6
        exact hr_2 hf hP hD hS (lv_sub hl [0, 1] rfl)
      · replace hf := zif_f hf c6
        obtain ⟨x7, ex7⟩ : ∃ y : Int32, y = l1 + 1 := ⟨_, rfl⟩
        replace hf := zlet_in hf ex7
        refine lv_iinc (v := x7) (lv' := [(1, .int x7), (0, .ref h_t)]) hx hb dX9_gaps_77 hl (k := 1) rfl (by rw [ex7]; rfl) (by decide) rfl (fun ls hl => ?_)
        clear ex7
        refine lv_goto (tgt := 61) hx hb dX9_gaps_80 (by decide) ?_
        exact hr_61 hf hP hD hS (lv_sub hl [1, 0] rfl)
set_option maxHeartbeats 4000000 in
set_option maxRecDepth 100000 in
theorem wX9_gaps_49 {p : Program} {l : Launch} {e : Env} {s : State} {m : MethodId} {args : Array Value} {below : List Frame} {meth : Method} {c : Code} {D : va_G} {A : Nat → Prop} {Q : State → Prop} {cI : ClassId} {h_t h_t_now h_t_file h_t_fresh h_t_colour h_t_table h_t_last h_t_one : Nat} {t_wide : Int32} {t_high : Int32} {t_size : Int32} {t_newWide : Int32} {t_newHigh : Int32} {t_colours : Int32} {t_now : Nat → Int32} {t_file : Nat → Int32} {t_fresh : Nat → Int32} {t_colour : Nat → Int32} {t_table : Nat → Int32} {t_last : Nat → Int32} {t_one : Nat → Int32} {r0 : Int32} {zt_at : Int32} {zt_fault : Int32} (C : CallFix p m c cX9_gaps 2 s args wsX9_gaps RX9) (hN : zN s) (hK : va_K D vwCl [(cI, .int)] s) (hA : ∀ q, s.heap.size ≤ q → A q) (hE : zEi p l e rmX9_gaps s m args below meth c cX9_gaps D A Q (zwX9 cI h_t h_t_now h_t_file h_t_fresh h_t_colour h_t_table h_t_last h_t_one t_wide t_high t_size zt_at zt_fault t_newWide t_newHigh t_colours t_now t_file t_fresh t_colour t_table t_last t_one) r0) {rc2 : Int32 → Int32 → Int32 → (Nat → Int32) → Int32 → Option (Int32 × Int32 × Int32)} (hr_2 : ∀ {t_at : Int32} {t_fault : Int32} {l1 : Int32} {H : Heap} {locs : List Loc} {ls : Array Slot}, rc2 t_size t_at t_fault t_file l1 = some (r0, zt_at, zt_fault) → va_P D vwCl (zwX9 cI h_t h_t_now h_t_file h_t_fresh h_t_colour h_t_table h_t_last h_t_one t_wide t_high t_size t_at t_fault t_newWide t_newHigh t_colours t_now t_file t_fresh t_colour t_table t_last t_one) H → va_D A (zwX9 cI h_t h_t_now h_t_file h_t_fresh h_t_colour h_t_table h_t_last h_t_one t_wide t_high t_size t_at t_fault t_newWide t_newHigh t_colours t_now t_file t_fresh t_colour t_table t_last t_one) → va_S A s.heap H locs → lv_has ls 2 [(0, .ref h_t), (1, .int l1)] → W p l e rmX9_gaps s m args below meth c H locs 0 0 Q (F0 m 2 ls [])) {t_at : Int32} {t_fault : Int32} {l1 : Int32} {H : Heap} {locs : List Loc} {ls : Array Slot} : fX9_gaps_49 rc2 t_size t_at t_fault t_file l1 = some (r0, zt_at, zt_fault) → va_P D vwCl (zwX9 cI h_t h_t_now h_t_file h_t_fresh h_t_colour h_t_table h_t_last h_t_one t_wide t_high t_size t_at t_fault t_newWide t_newHigh t_colours t_now t_file t_fresh t_colour t_table t_last t_one) H → va_D A (zwX9 cI h_t h_t_now h_t_file h_t_fresh h_t_colour h_t_table h_t_last h_t_one t_wide t_high t_size t_at t_fault t_newWide t_newHigh t_colours t_now t_file t_fresh t_colour t_table t_last t_one) → va_S A s.heap H locs → lv_has ls 2 [(0, .ref h_t), (1, .int l1)] → W p l e rmX9_gaps s m args below meth c H locs 0 0 Q (F0 m 49 ls []) := by
  intro hf hP hD hS hl
  obtain ⟨hx, hb, hml, hown, hts⟩ := id C
  unfold fX9_gaps_49 at hf
  obtain ⟨x1, ex1⟩ : ∃ y : Int32, y = l1 + 1 := ⟨_, rfl⟩
  replace hf := zlet_in hf ex1
  refine lv_iinc (v := x1) (lv' := [(1, .int x1), (0, .ref h_t)]) hx hb dX9_gaps_49 hl (k := 1) rfl (by rw [ex1]; rfl) (by decide) rfl (fun ls hl => ?_)
  clear ex1
  refine lv_aload_n hx hb dX9_gaps_52 rfl (lv_at hl 1 rfl) ?_
  obtain ⟨r2, u3, u4, hc5, hf⟩ := zb3_in hf
  refine zc_i (va_runV (As := []) (rest := []) C (mX9_next l D cI H.size h_t h_t_now h_t_file h_t_fresh h_t_colour h_t_table h_t_last h_t_one t_wide t_high t_size t_at t_fault t_newWide t_newHigh t_colours t_now t_file t_fresh t_colour t_table t_last t_one r2 u3 u4 hc5) (qX9_gaps_X9_next_135 hts) ⟨zP_blind, va_recv hK hP (ci := 8) (q0 := 0) rfl rfl, zpre hK hN hP hD [0, 1, 2, 3, 4, 5, 6, 7] rfl rfl⟩ rfl rfl hl.1 rfl (lv_room (Nat.le_of_ble_eq_true rfl)) dX9_gaps_53 ⟨Nat.zero_le _, Nat.zero_le _⟩) hP hD hS hA [0, 1, 2, 3, 4, 5, 6, 7] [] [0, 1, 2, 3, 4, 5, 6, 7] (ws' := zwX9 cI h_t h_t_now h_t_file h_t_fresh h_t_colour h_t_table h_t_last h_t_one t_wide t_high t_size u3 u4 t_newWide t_newHigh t_colours t_now t_file t_fresh t_colour t_table t_last t_one) rfl rfl rfl rfl rfl rfl (fun H locs hP hD hS => ?_)
  refine lv_bipush (v := 35) hx hb dX9_gaps_56 (by decide) ?_
  refine lv_icmp_ne (tgt := 2) hx hb dX9_gaps_58 (by decide) (fun c6 => ?_) (fun c6 => ?_)
  · replace hf := zif_f hf c6
    exact hr_2 hf hP hD hS (lv_sub hl [1, 0] rfl)
  · replace hf := zif_t hf c6
    exact wX9_gaps_61 C hN hK hA hE hr_2 1000 hf hP hD hS (lv_sub hl [1, 0] rfl)
set_option maxHeartbeats 4000000 in
set_option maxRecDepth 100000 in
theorem wX9_gaps_2 {p : Program} {l : Launch} {e : Env} {s : State} {m : MethodId} {args : Array Value} {below : List Frame} {meth : Method} {c : Code} {D : va_G} {A : Nat → Prop} {Q : State → Prop} {cI : ClassId} {h_t h_t_now h_t_file h_t_fresh h_t_colour h_t_table h_t_last h_t_one : Nat} {t_wide : Int32} {t_high : Int32} {t_size : Int32} {t_newWide : Int32} {t_newHigh : Int32} {t_colours : Int32} {t_now : Nat → Int32} {t_file : Nat → Int32} {t_fresh : Nat → Int32} {t_colour : Nat → Int32} {t_table : Nat → Int32} {t_last : Nat → Int32} {t_one : Nat → Int32} {r0 : Int32} {zt_at : Int32} {zt_fault : Int32} (C : CallFix p m c cX9_gaps 2 s args wsX9_gaps RX9) (hN : zN s) (hK : va_K D vwCl [(cI, .int)] s) (hA : ∀ q, s.heap.size ≤ q → A q) (hE : zEi p l e rmX9_gaps s m args below meth c cX9_gaps D A Q (zwX9 cI h_t h_t_now h_t_file h_t_fresh h_t_colour h_t_table h_t_last h_t_one t_wide t_high t_size zt_at zt_fault t_newWide t_newHigh t_colours t_now t_file t_fresh t_colour t_table t_last t_one) r0) (n : Nat) : ∀ {t_at : Int32} {t_fault : Int32} {l1 : Int32} {H : Heap} {locs : List Loc} {ls : Array Slot}, fX9_gaps_2 n t_size t_at t_fault t_file l1 = some (r0, zt_at, zt_fault) → va_P D vwCl (zwX9 cI h_t h_t_now h_t_file h_t_fresh h_t_colour h_t_table h_t_last h_t_one t_wide t_high t_size t_at t_fault t_newWide t_newHigh t_colours t_now t_file t_fresh t_colour t_table t_last t_one) H → va_D A (zwX9 cI h_t h_t_now h_t_file h_t_fresh h_t_colour h_t_table h_t_last h_t_one t_wide t_high t_size t_at t_fault t_newWide t_newHigh t_colours t_now t_file t_fresh t_colour t_table t_last t_one) → va_S A s.heap H locs → lv_has ls 2 [(0, .ref h_t), (1, .int l1)] → W p l e rmX9_gaps s m args below meth c H locs 0 0 Q (F0 m 2 ls []) := by
  obtain ⟨hx, hb, hml, hown, hts⟩ := id C
  induction n with
  | zero =>
    intro t_at t_fault l1 H locs ls hf
    cases hf
  | succ n hr_2 =>
    intro t_at t_fault l1 H locs ls hf hP hD hS hl
    rw [fX9_gaps_2_s] at hf
    refine lv_aload_n hx hb dX9_gaps_2 rfl (lv_at hl 0 rfl) ?_
    refine va_get (D := D) (ci := 8) (v := .int t_fault) (C := RX9) (T := TX9) (N := 15) hx hb hts iX9_gaps_X9 hown hK hP 0 rfl rfl 6 (by decide) (kX9_gaps_129 hts) (fun _ h9 => h9) rfl dX9_gaps_3 ?_
    refine lv_if_ne (tgt := 83) hx hb dX9_gaps_6 (by decide) (fun c1 => ?_) (fun c1 => ?_)
    · replace hf := zif_f hf c1
      refine lv_iload_n hx hb dX9_gaps_83 rfl (lv_at hl 1 rfl) ?_
      cases hf
      exact hE _ _ _ _ dX9_gaps_84 hP hD hS
    · replace hf := zif_t hf c1
      refine lv_aload_n hx hb dX9_gaps_9 rfl (lv_at hl 0 rfl) ?_
      refine va_get (D := D) (ci := 8) (v := .int t_at) (C := RX9) (T := TX9) (N := 15) hx hb hts iX9_gaps_X9 hown hK hP 0 rfl rfl 5 (by decide) (kX9_gaps_132 hts) (fun _ h9 => h9) rfl dX9_gaps_10 ?_
      refine lv_aload_n hx hb dX9_gaps_13 rfl (lv_at hl 0 rfl) ?_
      refine va_get (D := D) (ci := 8) (v := .int t_size) (C := RX9) (T := TX9) (N := 15) hx hb hts iX9_gaps_X9 hown hK hP 0 rfl rfl 3 (by decide) (kX9_gaps_57 hts) (fun _ h9 => h9) rfl dX9_gaps_14 ?_
      refine lv_icmp_ge (tgt := 83) hx hb dX9_gaps_17 (by decide) (fun c2 => ?_) (fun c2 => ?_)
      · replace hf := zif_t hf c2
        refine lv_iload_n hx hb dX9_gaps_83 rfl (lv_at hl 1 rfl) ?_
        cases hf
        exact hE _ _ _ _ dX9_gaps_84 hP hD hS
      · replace hf := zif_f hf c2
        refine lv_aload_n hx hb dX9_gaps_20 rfl (lv_at hl 0 rfl) ?_
        refine va_get (D := D) (ci := 8) (v := .ref h_t_file) (C := RX9) (T := TX9) (N := 15) hx hb hts iX9_gaps_X9 hown hK hP 0 rfl rfl 4 (by decide) (kX9_gaps_20 hts) (fun _ h9 => h9) rfl dX9_gaps_21 ?_
        refine lv_aload_n hx hb dX9_gaps_24 rfl (lv_at hl 0 rfl) ?_
        refine va_get (D := D) (ci := 8) (v := .int t_at) (C := RX9) (T := TX9) (N := 15) hx hb hts iX9_gaps_X9 hown hK hP 0 rfl rfl 5 (by decide) (kX9_gaps_132 hts) (fun _ h9 => h9) rfl dX9_gaps_25 ?_
        obtain ⟨hg4, hf⟩ := zrd_in hf
        refine va_iald hx hb hK hP 2 0 rfl rfl hg4 dX9_gaps_28 ?_
        refine lv_topi (fun x3 ex3 => ?_)
        replace hf := hf x3 ex3
        clear ex3
        obtain ⟨r5, hc6, hf⟩ := zb1_in hf
        refine zc_i (va_runS (As := [.int x3]) (rest := []) C (mX9_space l D cI H.size x3 r5 hc6) (qX9_gaps_X9_space_174 hts) ⟨zP_blind, zpre hK hN hP hD [] rfl rfl⟩ rfl rfl hl.1 rfl (lv_room (Nat.le_of_ble_eq_true rfl)) dX9_gaps_29 ⟨Nat.zero_le _, Nat.zero_le _⟩) hP hD hS hA [] [0, 1, 2, 3, 4, 5, 6, 7] [0, 1, 2, 3, 4, 5, 6, 7] (ws' := zwX9 cI h_t h_t_now h_t_file h_t_fresh h_t_colour h_t_table h_t_last h_t_one t_wide t_high t_size t_at t_fault t_newWide t_newHigh t_colours t_now t_file t_fresh t_colour t_table t_last t_one) rfl rfl rfl rfl rfl rfl (fun H locs hP hD hS => ?_)
        refine lv_if_ne (tgt := 49) hx hb dX9_gaps_32 (by decide) (fun c7 => ?_) (fun c7 => ?_)
        · replace hf := zif_f hf c7
          exact wX9_gaps_49 C hN hK hA hE hr_2 hf hP hD hS (lv_sub hl [0, 1] rfl)
        · replace hf := zif_t hf c7
          refine lv_aload_n hx hb dX9_gaps_35 rfl (lv_at hl 0 rfl) ?_
          refine va_get (D := D) (ci := 8) (v := .ref h_t_file) (C := RX9) (T := TX9) (N := 15) hx hb hts iX9_gaps_X9 hown hK hP 0 rfl rfl 4 (by decide) (kX9_gaps_20 hts) (fun _ h9 => h9) rfl dX9_gaps_36 ?_
          refine lv_aload_n hx hb dX9_gaps_39 rfl (lv_at hl 0 rfl) ?_
          refine va_get (D := D) (ci := 8) (v := .int t_at) (C := RX9) (T := TX9) (N := 15) hx hb hts iX9_gaps_X9 hown hK hP 0 rfl rfl 5 (by decide) (kX9_gaps_132 hts) (fun _ h9 => h9) rfl dX9_gaps_40 ?_
          obtain ⟨hg9, hf⟩ := zrd_in hf
          refine va_iald hx hb hK hP 2 0 rfl rfl hg9 dX9_gaps_43 ?_
          refine lv_topi (fun x8 ex8 => ?_)
          replace hf := hf x8 ex8
          clear ex8
          refine lv_bipush (v := 35) hx hb dX9_gaps_44 (by decide) ?_
          refine lv_icmp_ne (tgt := 83) hx hb dX9_gaps_46 (by decide) (fun c10 => ?_) (fun c10 => ?_)
          · replace hf := zif_f hf c10
            refine lv_iload_n hx hb dX9_gaps_83 rfl (lv_at hl 1 rfl) ?_
            cases hf
            exact hE _ _ _ _ dX9_gaps_84 hP hD hS
          · replace hf := zif_t hf c10
            exact wX9_gaps_49 C hN hK hA hE hr_2 hf hP hD hS (lv_sub hl [0, 1] rfl)
set_option maxHeartbeats 4000000 in
set_option maxRecDepth 100000 in
theorem wX9_gaps_0 {p : Program} {l : Launch} {e : Env} {s : State} {m : MethodId} {args : Array Value} {below : List Frame} {meth : Method} {c : Code} {D : va_G} {A : Nat → Prop} {Q : State → Prop} {cI : ClassId} {h_t h_t_now h_t_file h_t_fresh h_t_colour h_t_table h_t_last h_t_one : Nat} {t_wide : Int32} {t_high : Int32} {t_size : Int32} {t_newWide : Int32} {t_newHigh : Int32} {t_colours : Int32} {t_now : Nat → Int32} {t_file : Nat → Int32} {t_fresh : Nat → Int32} {t_colour : Nat → Int32} {t_table : Nat → Int32} {t_last : Nat → Int32} {t_one : Nat → Int32} {r0 : Int32} {zt_at : Int32} {zt_fault : Int32} (C : CallFix p m c cX9_gaps 2 s args wsX9_gaps RX9) (hN : zN s) (hK : va_K D vwCl [(cI, .int)] s) (hA : ∀ q, s.heap.size ≤ q → A q) (hE : zEi p l e rmX9_gaps s m args below meth c cX9_gaps D A Q (zwX9 cI h_t h_t_now h_t_file h_t_fresh h_t_colour h_t_table h_t_last h_t_one t_wide t_high t_size zt_at zt_fault t_newWide t_newHigh t_colours t_now t_file t_fresh t_colour t_table t_last t_one) r0) {t_at : Int32} {t_fault : Int32} {H : Heap} {locs : List Loc} {ls : Array Slot} : fX9_gaps t_size t_at t_fault t_file = some (r0, zt_at, zt_fault) → va_P D vwCl (zwX9 cI h_t h_t_now h_t_file h_t_fresh h_t_colour h_t_table h_t_last h_t_one t_wide t_high t_size t_at t_fault t_newWide t_newHigh t_colours t_now t_file t_fresh t_colour t_table t_last t_one) H → va_D A (zwX9 cI h_t h_t_now h_t_file h_t_fresh h_t_colour h_t_table h_t_last h_t_one t_wide t_high t_size t_at t_fault t_newWide t_newHigh t_colours t_now t_file t_fresh t_colour t_table t_last t_one) → va_S A s.heap H locs → lv_has ls 2 [(0, .ref h_t)] → W p l e rmX9_gaps s m args below meth c H locs 0 0 Q (F0 m 0 ls []) := by
  intro hf hP hD hS hl
  obtain ⟨hx, hb, hml, hown, hts⟩ := id C
  unfold fX9_gaps at hf
  refine lv_iconst (v := 0) hx hb dX9_gaps_0 (by decide) ?_
  refine lv_istore_n (lv' := [(1, .int 0), (0, .ref h_t)]) hx hb dX9_gaps_1 rfl hl (by decide) rfl (fun ls hl => ?_)
  exact wX9_gaps_2 C hN hK hA hE 1000 hf hP hD hS (lv_sub hl [1, 0] rfl)
set_option maxHeartbeats 4000000 in
set_option maxRecDepth 100000 in
theorem mX9_gaps (l : Launch) (D : va_G) (cI : ClassId) (sz : Nat) (h_t h_t_now h_t_file h_t_fresh h_t_colour h_t_table h_t_last h_t_one : Nat) (t_wide : Int32) (t_high : Int32) (t_size : Int32) (t_at : Int32) (t_fault : Int32) (t_newWide : Int32) (t_newHigh : Int32) (t_colours : Int32) (t_now : Nat → Int32) (t_file : Nat → Int32) (t_fresh : Nat → Int32) (t_colour : Nat → Int32) (t_table : Nat → Int32) (t_last : Nat → Int32) (t_one : Nat → Int32) (r0 : Int32) (zt_at : Int32) (zt_fault : Int32) (hf : fX9_gaps t_size t_at t_fault t_file = some (r0, zt_at, zt_fault)) : Met l yX9_gaps wsX9_gaps rmX9_gaps (va_Pc [.ref h_t] (zP D [(cI, .int)] (zwX9 cI h_t h_t_now h_t_file h_t_fresh h_t_colour h_t_table h_t_last h_t_one t_wide t_high t_size t_at t_fault t_newWide t_newHigh t_colours t_now t_file t_fresh t_colour t_table t_last t_one) sz)) (zQi D (zwX9 cI h_t h_t_now h_t_file h_t_fresh h_t_colour h_t_table h_t_last h_t_one t_wide t_high t_size t_at t_fault t_newWide t_newHigh t_colours t_now t_file t_fresh t_colour t_table t_last t_one) sz r0 (zwX9 cI h_t h_t_now h_t_file h_t_fresh h_t_colour h_t_table h_t_last h_t_one t_wide t_high t_size zt_at zt_fault t_newWide t_newHigh t_colours t_now t_file t_fresh t_colour t_table t_last t_one)) 0 0 (va_A (zwX9 cI h_t h_t_now h_t_file h_t_fresh h_t_colour h_t_table h_t_last h_t_one t_wide t_high t_size t_at t_fault t_newWide t_newHigh t_colours t_now t_file t_fresh t_colour t_table t_last t_one) sz) := by
  refine Met.ofW (cc := cX9_gaps) (maxL := 2) (ret := (some .int)) (by decide) rfl ?_
  intro p e s m args below meth c s₁ B hml hv
  obtain ⟨rfl, hsz, hP, hK, hD0, hN⟩ := hv
  subst hsz
  have C : CallFix p m c cX9_gaps 2 s [.ref h_t].toArray wsX9_gaps RX9 := ⟨B.exec, B.bytes, hml, findClass_of_methodNamed B.named, atoms_spec (ws := wsX9_gaps) B.pre⟩
  have hl := lv_entry ([.ref h_t]) (n := 2) (Nat.le_of_ble_eq_true rfl)
  rw [lg_entry_eq]
  exact wX9_gaps_0 (A := va_A (zwX9 cI h_t h_t_now h_t_file h_t_fresh h_t_colour h_t_table h_t_last h_t_one t_wide t_high t_size t_at t_fault t_newWide t_newHigh t_colours t_now t_file t_fresh t_colour t_table t_last t_one) s.heap.size) C hN hK (fun q h => Or.inr h) (fun H locs pc ls d hP hD hS => zend_i C.1 C.2.1 B.returns B.notSynchronized d hP hD hS) hf hP hD0.self va_S.rf hl
def rmX9_decimal : Room := { frames := 2, cells := 0, slots := 0, locals := 41 }
theorem kX9_decimal_57 {args : Array Value} {s : State} (h : ∀ w ∈ wsX9_decimal, w.before args s = true) : (Cond.fieldLink RX9 57 "FourPictureFilesModel" "size" "I").before args s = true := h _ (by decide +kernel)
theorem kX9_decimal_129 {args : Array Value} {s : State} (h : ∀ w ∈ wsX9_decimal, w.before args s = true) : (Cond.fieldLink RX9 129 "FourPictureFilesModel" "fault" "I").before args s = true := h _ (by decide +kernel)
theorem kX9_decimal_132 {args : Array Value} {s : State} (h : ∀ w ∈ wsX9_decimal, w.before args s = true) : (Cond.fieldLink RX9 132 "FourPictureFilesModel" "at" "I").before args s = true := h _ (by decide +kernel)
theorem iX9_decimal_X9 : ∀ w ∈ u_ws RX9 TX9 15, w ∈ wsX9_decimal := by decide +kernel
theorem qX9_decimal_X9_broken_139 {args : Array Value} {s : State} (hts : ∀ w ∈ wsX9_decimal, w.before args s = true) : CallW rmX9_decimal s args RX9 RX9 139 yX9_broken cX9_broken 2 none wsX9_broken rmX9_broken 0 0 1 := cwV 1 hts gX9_decimal_X9_broken rfl rfl rfl (by decide +kernel) ⟨Nat.le_of_ble_eq_true rfl, Nat.le_of_ble_eq_true rfl⟩
theorem qX9_decimal_X9_digit_180 {args : Array Value} {s : State} (hts : ∀ w ∈ wsX9_decimal, w.before args s = true) : CallW rmX9_decimal s args RX9 RX9 180 yX9_digit cX9_digit 1 (some .boolean) wsX9_digit rmX9_digit 0 0 0 := cwV 0 hts gX9_decimal_X9_digit rfl rfl rfl (by decide +kernel) ⟨Nat.le_of_ble_eq_true rfl, Nat.le_of_ble_eq_true rfl⟩
theorem qX9_decimal_X9_gaps_177 {args : Array Value} {s : State} (hts : ∀ w ∈ wsX9_decimal, w.before args s = true) : CallW rmX9_decimal s args RX9 RX9 177 yX9_gaps cX9_gaps 2 (some .int) wsX9_gaps rmX9_gaps 0 0 0 := cwV 0 hts gX9_decimal_X9_gaps rfl rfl rfl (by decide +kernel) ⟨Nat.le_of_ble_eq_true rfl, Nat.le_of_ble_eq_true rfl⟩
theorem qX9_decimal_X9_next_135 {args : Array Value} {s : State} (hts : ∀ w ∈ wsX9_decimal, w.before args s = true) : CallW rmX9_decimal s args RX9 RX9 135 yX9_next cX9_next 1 (some .int) wsX9_next rmX9_next 0 0 0 := cwV 0 hts gX9_decimal_X9_next rfl rfl rfl (by decide +kernel) ⟨Nat.le_of_ble_eq_true rfl, Nat.le_of_ble_eq_true rfl⟩
set_option maxHeartbeats 4000000 in
set_option maxRecDepth 100000 in
theorem wX9_decimal_101 {p : Program} {l : Launch} {e : Env} {s : State} {m : MethodId} {args : Array Value} {below : List Frame} {meth : Method} {c : Code} {D : va_G} {A : Nat → Prop} {Q : State → Prop} {cI : ClassId} {h_t h_t_now h_t_file h_t_fresh h_t_colour h_t_table h_t_last h_t_one : Nat} {t_wide : Int32} {t_high : Int32} {t_size : Int32} {t_newWide : Int32} {t_newHigh : Int32} {t_colours : Int32} {t_now : Nat → Int32} {t_file : Nat → Int32} {t_fresh : Nat → Int32} {t_colour : Nat → Int32} {t_table : Nat → Int32} {t_last : Nat → Int32} {t_one : Nat → Int32} {r0 : Int32} {zt_at : Int32} {zt_fault : Int32} (C : CallFix p m c cX9_decimal 4 s args wsX9_decimal RX9) (hN : zN s) (hK : va_K D vwCl [(cI, .int)] s) (hA : ∀ q, s.heap.size ≤ q → A q) (hE : zEi p l e rmX9_decimal s m args below meth c cX9_decimal D A Q (zwX9 cI h_t h_t_now h_t_file h_t_fresh h_t_colour h_t_table h_t_last h_t_one t_wide t_high t_size zt_at zt_fault t_newWide t_newHigh t_colours t_now t_file t_fresh t_colour t_table t_last t_one) r0) {t_at : Int32} {t_fault : Int32} {l1 : Int32} {l2 : Int32} {l3 : Int32} {k1 : Int32} {H : Heap} {locs : List Loc} {ls : Array Slot} : fX9_decimal_101 t_at t_fault l2 k1 = some (r0, zt_at, zt_fault) → va_P D vwCl (zwX9 cI h_t h_t_now h_t_file h_t_fresh h_t_colour h_t_table h_t_last h_t_one t_wide t_high t_size t_at t_fault t_newWide t_newHigh t_colours t_now t_file t_fresh t_colour t_table t_last t_one) H → va_D A (zwX9 cI h_t h_t_now h_t_file h_t_fresh h_t_colour h_t_table h_t_last h_t_one t_wide t_high t_size t_at t_fault t_newWide t_newHigh t_colours t_now t_file t_fresh t_colour t_table t_last t_one) → va_S A s.heap H locs → lv_has ls 4 [(0, .ref h_t), (1, .int l1), (2, .int l2), (3, .int l3)] → W p l e rmX9_decimal s m args below meth c H locs 0 0 Q (F0 m 101 ls [.int k1, .ref h_t]) := by
  intro hf hP hD hS hl
  obtain ⟨hx, hb, hml, hown, hts⟩ := id C
  unfold fX9_decimal_101 at hf
  obtain ⟨u1, hc2, hf⟩ := zb1_in hf
  refine zc_v (va_runV (As := [.int k1]) (rest := []) C (mX9_broken l D cI H.size h_t h_t_now h_t_file h_t_fresh h_t_colour h_t_table h_t_last h_t_one t_wide t_high t_size t_at t_fault t_newWide t_newHigh t_colours t_now t_file t_fresh t_colour t_table t_last t_one k1 u1 hc2) (qX9_decimal_X9_broken_139 hts) ⟨zP_blind, va_recv hK hP (ci := 8) (q0 := 0) rfl rfl, zpre hK hN hP hD [0, 1, 2, 3, 4, 5, 6, 7] rfl rfl⟩ rfl rfl hl.1 rfl (lv_room (Nat.le_of_ble_eq_true rfl)) dX9_decimal_101 ⟨Nat.zero_le _, Nat.zero_le _⟩) hP hD hS hA [0, 1, 2, 3, 4, 5, 6, 7] [] [0, 1, 2, 3, 4, 5, 6, 7] (ws' := zwX9 cI h_t h_t_now h_t_file h_t_fresh h_t_colour h_t_table h_t_last h_t_one t_wide t_high t_size t_at u1 t_newWide t_newHigh t_colours t_now t_file t_fresh t_colour t_table t_last t_one) rfl rfl rfl rfl rfl rfl (fun H locs hP hD hS => ?_)
  refine lv_iload_n hx hb dX9_decimal_104 rfl (lv_at hl 2 rfl) ?_
  cases hf
  exact hE _ _ _ _ dX9_decimal_105 hP hD hS
set_option maxHeartbeats 4000000 in
set_option maxRecDepth 100000 in
theorem wX9_decimal_96 {p : Program} {l : Launch} {e : Env} {s : State} {m : MethodId} {args : Array Value} {below : List Frame} {meth : Method} {c : Code} {D : va_G} {A : Nat → Prop} {Q : State → Prop} {cI : ClassId} {h_t h_t_now h_t_file h_t_fresh h_t_colour h_t_table h_t_last h_t_one : Nat} {t_wide : Int32} {t_high : Int32} {t_size : Int32} {t_newWide : Int32} {t_newHigh : Int32} {t_colours : Int32} {t_now : Nat → Int32} {t_file : Nat → Int32} {t_fresh : Nat → Int32} {t_colour : Nat → Int32} {t_table : Nat → Int32} {t_last : Nat → Int32} {t_one : Nat → Int32} {r0 : Int32} {zt_at : Int32} {zt_fault : Int32} (C : CallFix p m c cX9_decimal 4 s args wsX9_decimal RX9) (hN : zN s) (hK : va_K D vwCl [(cI, .int)] s) (hA : ∀ q, s.heap.size ≤ q → A q) (hE : zEi p l e rmX9_decimal s m args below meth c cX9_decimal D A Q (zwX9 cI h_t h_t_now h_t_file h_t_fresh h_t_colour h_t_table h_t_last h_t_one t_wide t_high t_size zt_at zt_fault t_newWide t_newHigh t_colours t_now t_file t_fresh t_colour t_table t_last t_one) r0) {t_at : Int32} {t_fault : Int32} {l1 : Int32} {l2 : Int32} {l3 : Int32} {H : Heap} {locs : List Loc} {ls : Array Slot} : fX9_decimal_96 t_at t_fault l2 = some (r0, zt_at, zt_fault) → va_P D vwCl (zwX9 cI h_t h_t_now h_t_file h_t_fresh h_t_colour h_t_table h_t_last h_t_one t_wide t_high t_size t_at t_fault t_newWide t_newHigh t_colours t_now t_file t_fresh t_colour t_table t_last t_one) H → va_D A (zwX9 cI h_t h_t_now h_t_file h_t_fresh h_t_colour h_t_table h_t_last h_t_one t_wide t_high t_size t_at t_fault t_newWide t_newHigh t_colours t_now t_file t_fresh t_colour t_table t_last t_one) → va_S A s.heap H locs → lv_has ls 4 [(0, .ref h_t), (1, .int l1), (2, .int l2), (3, .int l3)] → W p l e rmX9_decimal s m args below meth c H locs 0 0 Q (F0 m 96 ls [.ref h_t]) := by
  intro hf hP hD hS hl
  obtain ⟨hx, hb, hml, hown, hts⟩ := id C
  unfold fX9_decimal_96 at hf
  refine lv_iconst (v := 1) hx hb dX9_decimal_96 (by decide) ?_
  refine lv_goto (tgt := 101) hx hb dX9_decimal_97 (by decide) ?_
  exact wX9_decimal_101 C hN hK hA hE hf hP hD hS (lv_sub hl [0, 1, 2, 3] rfl)
set_option maxHeartbeats 4000000 in
set_option maxRecDepth 100000 in
theorem wX9_decimal_100 {p : Program} {l : Launch} {e : Env} {s : State} {m : MethodId} {args : Array Value} {below : List Frame} {meth : Method} {c : Code} {D : va_G} {A : Nat → Prop} {Q : State → Prop} {cI : ClassId} {h_t h_t_now h_t_file h_t_fresh h_t_colour h_t_table h_t_last h_t_one : Nat} {t_wide : Int32} {t_high : Int32} {t_size : Int32} {t_newWide : Int32} {t_newHigh : Int32} {t_colours : Int32} {t_now : Nat → Int32} {t_file : Nat → Int32} {t_fresh : Nat → Int32} {t_colour : Nat → Int32} {t_table : Nat → Int32} {t_last : Nat → Int32} {t_one : Nat → Int32} {r0 : Int32} {zt_at : Int32} {zt_fault : Int32} (C : CallFix p m c cX9_decimal 4 s args wsX9_decimal RX9) (hN : zN s) (hK : va_K D vwCl [(cI, .int)] s) (hA : ∀ q, s.heap.size ≤ q → A q) (hE : zEi p l e rmX9_decimal s m args below meth c cX9_decimal D A Q (zwX9 cI h_t h_t_now h_t_file h_t_fresh h_t_colour h_t_table h_t_last h_t_one t_wide t_high t_size zt_at zt_fault t_newWide t_newHigh t_colours t_now t_file t_fresh t_colour t_table t_last t_one) r0) {t_at : Int32} {t_fault : Int32} {l1 : Int32} {l2 : Int32} {l3 : Int32} {H : Heap} {locs : List Loc} {ls : Array Slot} : fX9_decimal_100 t_at t_fault l2 = some (r0, zt_at, zt_fault) → va_P D vwCl (zwX9 cI h_t h_t_now h_t_file h_t_fresh h_t_colour h_t_table h_t_last h_t_one t_wide t_high t_size t_at t_fault t_newWide t_newHigh t_colours t_now t_file t_fresh t_colour t_table t_last t_one) H → va_D A (zwX9 cI h_t h_t_now h_t_file h_t_fresh h_t_colour h_t_table h_t_last h_t_one t_wide t_high t_size t_at t_fault t_newWide t_newHigh t_colours t_now t_file t_fresh t_colour t_table t_last t_one) → va_S A s.heap H locs → lv_has ls 4 [(0, .ref h_t), (1, .int l1), (2, .int l2), (3, .int l3)] → W p l e rmX9_decimal s m args below meth c H locs 0 0 Q (F0 m 100 ls [.ref h_t]) := by
  intro hf hP hD hS hl
  obtain ⟨hx, hb, hml, hown, hts⟩ := id C
  unfold fX9_decimal_100 at hf
  refine lv_iconst (v := 0) hx hb dX9_decimal_100 (by decide) ?_
  exact wX9_decimal_101 C hN hK hA hE hf hP hD hS (lv_sub hl [0, 1, 2, 3] rfl)
set_option maxHeartbeats 4000000 in
set_option maxRecDepth 100000 in
theorem wX9_decimal_79 {p : Program} {l : Launch} {e : Env} {s : State} {m : MethodId} {args : Array Value} {below : List Frame} {meth : Method} {c : Code} {D : va_G} {A : Nat → Prop} {Q : State → Prop} {cI : ClassId} {h_t h_t_now h_t_file h_t_fresh h_t_colour h_t_table h_t_last h_t_one : Nat} {t_wide : Int32} {t_high : Int32} {t_size : Int32} {t_newWide : Int32} {t_newHigh : Int32} {t_colours : Int32} {t_now : Nat → Int32} {t_file : Nat → Int32} {t_fresh : Nat → Int32} {t_colour : Nat → Int32} {t_table : Nat → Int32} {t_last : Nat → Int32} {t_one : Nat → Int32} {r0 : Int32} {zt_at : Int32} {zt_fault : Int32} (C : CallFix p m c cX9_decimal 4 s args wsX9_decimal RX9) (hN : zN s) (hK : va_K D vwCl [(cI, .int)] s) (hA : ∀ q, s.heap.size ≤ q → A q) (hE : zEi p l e rmX9_decimal s m args below meth c cX9_decimal D A Q (zwX9 cI h_t h_t_now h_t_file h_t_fresh h_t_colour h_t_table h_t_last h_t_one t_wide t_high t_size zt_at zt_fault t_newWide t_newHigh t_colours t_now t_file t_fresh t_colour t_table t_last t_one) r0) {t_at : Int32} {t_fault : Int32} {l1 : Int32} {l2 : Int32} {l3 : Int32} {H : Heap} {locs : List Loc} {ls : Array Slot} : fX9_decimal_79 t_size t_at t_fault t_file l2 l3 = some (r0, zt_at, zt_fault) → va_P D vwCl (zwX9 cI h_t h_t_now h_t_file h_t_fresh h_t_colour h_t_table h_t_last h_t_one t_wide t_high t_size t_at t_fault t_newWide t_newHigh t_colours t_now t_file t_fresh t_colour t_table t_last t_one) H → va_D A (zwX9 cI h_t h_t_now h_t_file h_t_fresh h_t_colour h_t_table h_t_last h_t_one t_wide t_high t_size t_at t_fault t_newWide t_newHigh t_colours t_now t_file t_fresh t_colour t_table t_last t_one) → va_S A s.heap H locs → lv_has ls 4 [(0, .ref h_t), (1, .int l1), (2, .int l2), (3, .int l3)] → W p l e rmX9_decimal s m args below meth c H locs 0 0 Q (F0 m 79 ls []) := by
  intro hf hP hD hS hl
  obtain ⟨hx, hb, hml, hown, hts⟩ := id C
  unfold fX9_decimal_79 at hf
  refine lv_aload_n hx hb dX9_decimal_79 rfl (lv_at hl 0 rfl) ?_
  refine lv_iload_n hx hb dX9_decimal_80 rfl (lv_at hl 3 rfl) ?_
  refine lv_if_eq (tgt := 96) hx hb dX9_decimal_81 (by decide) (fun c1 => ?_) (fun c1 => ?_)
  · replace hf := zif_t hf c1
    exact wX9_decimal_96 C hN hK hA hE hf hP hD hS (lv_sub hl [0, 1, 2, 3] rfl)
  · replace hf := zif_f hf c1
    refine lv_iload_n hx hb dX9_decimal_84 rfl (lv_at hl 3 rfl) ?_
    refine lv_iconst (v := 4) hx hb dX9_decimal_85 (by decide) ?_
    refine lv_icmp_ne (tgt := 100) hx hb dX9_decimal_86 (by decide) (fun c2 => ?_) (fun c2 => ?_)
    · replace hf := zif_f hf c2
      exact wX9_decimal_100 C hN hK hA hE hf hP hD hS (lv_sub hl [0, 1, 2, 3] rfl)
    · replace hf := zif_t hf c2
      refine lv_aload_n hx hb dX9_decimal_89 rfl (lv_at hl 0 rfl) ?_
      obtain ⟨r3, hc4, hf⟩ := zb1_in hf
      refine zc_i (va_runV (As := []) (rest := [.ref h_t]) C (mX9_digit l D cI H.size h_t h_t_now h_t_file h_t_fresh h_t_colour h_t_table h_t_last h_t_one t_wide t_high t_size t_at t_fault t_newWide t_newHigh t_colours t_now t_file t_fresh t_colour t_table t_last t_one r3 hc4) (qX9_decimal_X9_digit_180 hts) ⟨zP_blind, va_recv hK hP (ci := 8) (q0 := 0) rfl rfl, zpre hK hN hP hD [0, 1, 2, 3, 4, 5, 6, 7] rfl rfl⟩ rfl rfl hl.1 rfl (lv_room (Nat.le_of_ble_eq_true rfl)) dX9_decimal_90 ⟨Nat.zero_le _, Nat.zero_le _⟩) hP hD hS hA [0, 1, 2, 3, 4, 5, 6, 7] [] [0, 1, 2, 3, 4, 5, 6, 7] (ws' := zwX9 cI h_t h_t_now h_t_file h_t_fresh h_t_colour h_t_table h_t_last h_t_one t_wide t_high t_size t_at t_fault t_newWide t_newHigh t_colours t_now t_file t_fresh t_colour t_table t_last t_one) rfl rfl rfl rfl rfl rfl (fun H locs hP hD hS => ?_)
      refine lv_if_eq (tgt := 100) hx hb dX9_decimal_93 (by decide) (fun c5 => ?_) (fun c5 => ?_)
      · replace hf := zif_t hf c5
        exact wX9_decimal_100 C hN hK hA hE hf hP hD hS (lv_sub hl [0, 1, 2, 3] rfl)
      · replace hf := zif_f hf c5
        exact wX9_decimal_96 C hN hK hA hE hf hP hD hS (lv_sub hl [0, 1, 2, 3] rfl)
set_option maxHeartbeats 4000000 in
set_option maxRecDepth 100000 in
theorem wX9_decimal_51 {p : Program} {l : Launch} {e : Env} {s : State} {m : MethodId} {args : Array Value} {below : List Frame} {meth : Method} {c : Code} {D : va_G} {A : Nat → Prop} {Q : State → Prop} {cI : ClassId} {h_t h_t_now h_t_file h_t_fresh h_t_colour h_t_table h_t_last h_t_one : Nat} {t_wide : Int32} {t_high : Int32} {t_size : Int32} {t_newWide : Int32} {t_newHigh : Int32} {t_colours : Int32} {t_now : Nat → Int32} {t_file : Nat → Int32} {t_fresh : Nat → Int32} {t_colour : Nat → Int32} {t_table : Nat → Int32} {t_last : Nat → Int32} {t_one : Nat → Int32} {r0 : Int32} {zt_at : Int32} {zt_fault : Int32} (C : CallFix p m c cX9_decimal 4 s args wsX9_decimal RX9) (hN : zN s) (hK : va_K D vwCl [(cI, .int)] s) (hA : ∀ q, s.heap.size ≤ q → A q) (hE : zEi p l e rmX9_decimal s m args below meth c cX9_decimal D A Q (zwX9 cI h_t h_t_now h_t_file h_t_fresh h_t_colour h_t_table h_t_last h_t_one t_wide t_high t_size zt_at zt_fault t_newWide t_newHigh t_colours t_now t_file t_fresh t_colour t_table t_last t_one) r0) {t_at : Int32} {t_fault : Int32} {l1 : Int32} {l2 : Int32} {l3 : Int32} {H : Heap} {locs : List Loc} {ls : Array Slot} : fX9_decimal_51 t_size t_at t_fault t_file l2 l3 = some (r0, zt_at, zt_fault) → va_P D vwCl (zwX9 cI h_t h_t_now h_t_file h_t_fresh h_t_colour h_t_table h_t_last h_t_one t_wide t_high t_size t_at t_fault t_newWide t_newHigh t_colours t_now t_file t_fresh t_colour t_table t_last t_one) H → va_D A (zwX9 cI h_t h_t_now h_t_file h_t_fresh h_t_colour h_t_table h_t_last h_t_one t_wide t_high t_size t_at t_fault t_newWide t_newHigh t_colours t_now t_file t_fresh t_colour t_table t_last t_one) → va_S A s.heap H locs → lv_has ls 4 [(0, .ref h_t), (1, .int l1), (2, .int l2), (3, .int l3)] → W p l e rmX9_decimal s m args below meth c H locs 0 0 Q (F0 m 51 ls []) := by
  intro hf hP hD hS hl
  obtain ⟨hx, hb, hml, hown, hts⟩ := id C
  unfold fX9_decimal_51 at hf
  refine lv_aload_n hx hb dX9_decimal_51 rfl (lv_at hl 0 rfl) ?_
  refine va_get (D := D) (ci := 8) (v := .int t_fault) (C := RX9) (T := TX9) (N := 15) hx hb hts iX9_decimal_X9 hown hK hP 0 rfl rfl 6 (by decide) (kX9_decimal_129 hts) (fun _ h9 => h9) rfl dX9_decimal_52 ?_
  refine lv_if_ne (tgt := 79) hx hb dX9_decimal_55 (by decide) (fun c1 => ?_) (fun c1 => ?_)
  · replace hf := zif_f hf c1
    exact wX9_decimal_79 C hN hK hA hE hf hP hD hS (lv_sub hl [0, 1, 2, 3] rfl)
  · replace hf := zif_t hf c1
    refine lv_iload_n hx hb dX9_decimal_58 rfl (lv_at hl 3 rfl) ?_
    refine lv_if_ne (tgt := 79) hx hb dX9_decimal_59 (by decide) (fun c2 => ?_) (fun c2 => ?_)
    · replace hf := zif_f hf c2
      exact wX9_decimal_79 C hN hK hA hE hf hP hD hS (lv_sub hl [0, 1, 2, 3] rfl)
    · replace hf := zif_t hf c2
      refine lv_aload_n hx hb dX9_decimal_62 rfl (lv_at hl 0 rfl) ?_
      refine va_get (D := D) (ci := 8) (v := .int t_at) (C := RX9) (T := TX9) (N := 15) hx hb hts iX9_decimal_X9 hown hK hP 0 rfl rfl 5 (by decide) (kX9_decimal_132 hts) (fun _ h9 => h9) rfl dX9_decimal_63 ?_
      refine lv_aload_n hx hb dX9_decimal_66 rfl (lv_at hl 0 rfl) ?_
      refine va_get (D := D) (ci := 8) (v := .int t_size) (C := RX9) (T := TX9) (N := 15) hx hb hts iX9_decimal_X9 hown hK hP 0 rfl rfl 3 (by decide) (kX9_decimal_57 hts) (fun _ h9 => h9) rfl dX9_decimal_67 ?_
      refine lv_icmp_ne (tgt := 79) hx hb dX9_decimal_70 (by decide) (fun c3 => ?_) (fun c3 => ?_)
      · replace hf := zif_f hf c3
        exact wX9_decimal_79 C hN hK hA hE hf hP hD hS (lv_sub hl [0, 1, 2, 3] rfl)
      · replace hf := zif_t hf c3
        refine lv_aload_n hx hb dX9_decimal_73 rfl (lv_at hl 0 rfl) ?_
        refine lv_bipush (v := (-2)) hx hb dX9_decimal_74 (by decide) ?_
        refine va_put (D := D) (ci := 8) (v := .int (-2)) (ty := .int) (C := RX9) (T := TX9) (N := 15) hx hb hts iX9_decimal_X9 tyX9 tyX9_ok nmX9 hown hK hP hD hS 0 rfl rfl 6 (by decide) (kX9_decimal_129 hts) (fun _ h9 => h9) rfl (by decide +kernel) rfl rfl (Nat.le_of_ble_eq_true rfl) dX9_decimal_76 (fun H locs hP hD hS => ?_)
        replace hP : va_P D vwCl (zwX9 cI h_t h_t_now h_t_file h_t_fresh h_t_colour h_t_table h_t_last h_t_one t_wide t_high t_size t_at (-2) t_newWide t_newHigh t_colours t_now t_file t_fresh t_colour t_table t_last t_one) H := hP
        replace hD : va_D A (zwX9 cI h_t h_t_now h_t_file h_t_fresh h_t_colour h_t_table h_t_last h_t_one t_wide t_high t_size t_at (-2) t_newWide t_newHigh t_colours t_now t_file t_fresh t_colour t_table t_last t_one) := hD
        exact wX9_decimal_79 C hN hK hA hE hf hP hD hS (lv_sub hl [0, 1, 2, 3] rfl)
set_option maxHeartbeats 4000000 in
set_option maxRecDepth 100000 in
theorem wX9_decimal_9 {p : Program} {l : Launch} {e : Env} {s : State} {m : MethodId} {args : Array Value} {below : List Frame} {meth : Method} {c : Code} {D : va_G} {A : Nat → Prop} {Q : State → Prop} {cI : ClassId} {h_t h_t_now h_t_file h_t_fresh h_t_colour h_t_table h_t_last h_t_one : Nat} {t_wide : Int32} {t_high : Int32} {t_size : Int32} {t_newWide : Int32} {t_newHigh : Int32} {t_colours : Int32} {t_now : Nat → Int32} {t_file : Nat → Int32} {t_fresh : Nat → Int32} {t_colour : Nat → Int32} {t_table : Nat → Int32} {t_last : Nat → Int32} {t_one : Nat → Int32} {r0 : Int32} {zt_at : Int32} {zt_fault : Int32} (C : CallFix p m c cX9_decimal 4 s args wsX9_decimal RX9) (hN : zN s) (hK : va_K D vwCl [(cI, .int)] s) (hA : ∀ q, s.heap.size ≤ q → A q) (hE : zEi p l e rmX9_decimal s m args below meth c cX9_decimal D A Q (zwX9 cI h_t h_t_now h_t_file h_t_fresh h_t_colour h_t_table h_t_last h_t_one t_wide t_high t_size zt_at zt_fault t_newWide t_newHigh t_colours t_now t_file t_fresh t_colour t_table t_last t_one) r0) (n : Nat) : ∀ {t_at : Int32} {t_fault : Int32} {l1 : Int32} {l2 : Int32} {l3 : Int32} {H : Heap} {locs : List Loc} {ls : Array Slot}, fX9_decimal_9 n t_size t_at t_fault t_file l1 l2 l3 = some (r0, zt_at, zt_fault) → va_P D vwCl (zwX9 cI h_t h_t_now h_t_file h_t_fresh h_t_colour h_t_table h_t_last h_t_one t_wide t_high t_size t_at t_fault t_newWide t_newHigh t_colours t_now t_file t_fresh t_colour t_table t_last t_one) H → va_D A (zwX9 cI h_t h_t_now h_t_file h_t_fresh h_t_colour h_t_table h_t_last h_t_one t_wide t_high t_size t_at t_fault t_newWide t_newHigh t_colours t_now t_file t_fresh t_colour t_table t_last t_one) → va_S A s.heap H locs → lv_has ls 4 [(0, .ref h_t), (1, .int l1), (2, .int l2), (3, .int l3)] → W p l e rmX9_decimal s m args below meth c H locs 0 0 Q (F0 m 9 ls []) := by
  obtain ⟨hx, hb, hml, hown, hts⟩ := id C
  induction n with
  | zero =>
    intro t_at t_fault l1 l2 l3 H locs ls hf
    cases hf
  | succ n hr_9 =>
    intro t_at t_fault l1 l2 l3 H locs ls hf hP hD hS hl
    rw [fX9_decimal_9_s] at hf
    refine lv_aload_n hx hb dX9_decimal_9 rfl (lv_at hl 0 rfl) ?_
    refine va_get (D := D) (ci := 8) (v := .int t_fault) (C := RX9) (T := TX9) (N := 15) hx hb hts iX9_decimal_X9 hown hK hP 0 rfl rfl 6 (by decide) (kX9_decimal_129 hts) (fun _ h9 => h9) rfl dX9_decimal_10 ?_
    refine lv_if_ne (tgt := 51) hx hb dX9_decimal_13 (by decide) (fun c1 => ?_) (fun c1 => ?_)
    · replace hf := zif_f hf c1
      exact wX9_decimal_51 C hN hK hA hE hf hP hD hS (lv_sub hl [0, 1, 2, 3] rfl)
    · replace hf := zif_t hf c1
      refine lv_iload_n hx hb dX9_decimal_16 rfl (lv_at hl 3 rfl) ?_
      refine lv_iconst (v := 4) hx hb dX9_decimal_17 (by decide) ?_
      refine lv_icmp_ge (tgt := 51) hx hb dX9_decimal_18 (by decide) (fun c2 => ?_) (fun c2 => ?_)
      · replace hf := zif_t hf c2
        exact wX9_decimal_51 C hN hK hA hE hf hP hD hS (lv_sub hl [0, 1, 2, 3] rfl)
      · replace hf := zif_f hf c2
        refine lv_aload_n hx hb dX9_decimal_21 rfl (lv_at hl 0 rfl) ?_
        obtain ⟨r3, hc4, hf⟩ := zb1_in hf
        refine zc_i (va_runV (As := []) (rest := []) C (mX9_digit l D cI H.size h_t h_t_now h_t_file h_t_fresh h_t_colour h_t_table h_t_last h_t_one t_wide t_high t_size t_at t_fault t_newWide t_newHigh t_colours t_now t_file t_fresh t_colour t_table t_last t_one r3 hc4) (qX9_decimal_X9_digit_180 hts) ⟨zP_blind, va_recv hK hP (ci := 8) (q0 := 0) rfl rfl, zpre hK hN hP hD [0, 1, 2, 3, 4, 5, 6, 7] rfl rfl⟩ rfl rfl hl.1 rfl (lv_room (Nat.le_of_ble_eq_true rfl)) dX9_decimal_22 ⟨Nat.zero_le _, Nat.zero_le _⟩) hP hD hS hA [0, 1, 2, 3, 4, 5, 6, 7] [] [0, 1, 2, 3, 4, 5, 6, 7] (ws' := zwX9 cI h_t h_t_now h_t_file h_t_fresh h_t_colour h_t_table h_t_last h_t_one t_wide t_high t_size t_at t_fault t_newWide t_newHigh t_colours t_now t_file t_fresh t_colour t_table t_last t_one) rfl rfl rfl rfl rfl rfl (fun H locs hP hD hS => ?_)
        refine lv_if_eq (tgt := 51) hx hb dX9_decimal_25 (by decide) (fun c5 => ?_) (fun c5 => ?_)
        · replace hf := zif_t hf c5
          exact wX9_decimal_51 C hN hK hA hE hf hP hD hS (lv_sub hl [0, 1, 2, 3] rfl)
        · replace hf := zif_f hf c5
          refine lv_iload_n hx hb dX9_decimal_28 rfl (lv_at hl 1 rfl) ?_
          refine lv_if_le (tgt := 51) hx hb dX9_decimal_29 (by decide) (fun c6 => ?_) (fun c6 => ?_)
          · replace hf := zif_t hf c6
            exact wX9_decimal_51 C hN hK hA hE hf hP hD hS (lv_sub hl [0, 1, 2, 3] rfl)
          · replace hf := zif_f hf c6
            refine lv_bipush (v := 10) hx hb dX9_decimal_32 (by decide) ?_
            refine lv_iload_n hx hb dX9_decimal_34 rfl (lv_at hl 2 rfl) ?_
            refine lv_imul hx hb dX9_decimal_35 ?_
            refine lv_aload_n hx hb dX9_decimal_36 rfl (lv_at hl 0 rfl) ?_
            obtain ⟨r7, u8, u9, hc10, hf⟩ := zb3_in hf
            refine zc_i (va_runV (As := []) (rest := [.int (10 * l2)]) C (mX9_next l D cI H.size h_t h_t_now h_t_file h_t_fresh h_t_colour h_t_table h_t_last h_t_one t_wide t_high t_size t_at t_fault t_newWide t_newHigh t_colours t_now t_file t_fresh t_colour t_table t_last t_one r7 u8 u9 hc10) (qX9_decimal_X9_next_135 hts) ⟨zP_blind, va_recv hK hP (ci := 8) (q0 := 0) rfl rfl, zpre hK hN hP hD [0, 1, 2, 3, 4, 5, 6, 7] rfl rfl⟩ rfl rfl hl.1 rfl (lv_room (Nat.le_of_ble_eq_true rfl)) dX9_decimal_37 ⟨Nat.zero_le _, Nat.zero_le _⟩) hP hD hS hA [0, 1, 2, 3, 4, 5, 6, 7] [] [0, 1, 2, 3, 4, 5, 6, 7] (ws' := zwX9 cI h_t h_t_now h_t_file h_t_fresh h_t_colour h_t_table h_t_last h_t_one t_wide t_high t_size u8 u9 t_newWide t_newHigh t_colours t_now t_file t_fresh t_colour t_table t_last t_one) rfl rfl rfl rfl rfl rfl (fun H locs hP hD hS => ?_)
            refine lv_iadd hx hb dX9_decimal_40 ?_
            refine lv_bipush (v := 48) hx hb dX9_decimal_41 (by decide) ?_
            refine lv_isub hx hb dX9_decimal_43 ?_
            refine lv_topi (fun x11 ex11 => ?_)
            replace hf := zlet_in hf ex11
            clear ex11
            refine lv_istore_n (lv' := [(2, .int x11), (0, .ref h_t), (1, .int l1), (3, .int l3)]) hx hb dX9_decimal_44 rfl hl (by decide) rfl (fun ls hl => ?_)
            obtain ⟨x12, ex12⟩ : ∃ y : Int32, y = l3 + 1 := ⟨_, rfl⟩
            replace hf := zlet_in hf ex12
            refine lv_iinc (v := x12) (lv' := [(3, .int x12), (2, .int x11), (0, .ref h_t), (1, .int l1)]) hx hb dX9_decimal_45 hl (k := 3) rfl (by rw [ex12]; rfl) (by decide) rfl (fun ls hl => ?_)
            clear ex12
            refine lv_goto (tgt := 9) hx hb dX9_decimal_48 (by decide) ?_
            exact hr_9 hf hP hD hS (lv_sub hl [2, 3, 1, 0] rfl)
set_option maxHeartbeats 4000000 in
set_option maxRecDepth 100000 in
theorem wX9_decimal_0 {p : Program} {l : Launch} {e : Env} {s : State} {m : MethodId} {args : Array Value} {below : List Frame} {meth : Method} {c : Code} {D : va_G} {A : Nat → Prop} {Q : State → Prop} {cI : ClassId} {h_t h_t_now h_t_file h_t_fresh h_t_colour h_t_table h_t_last h_t_one : Nat} {t_wide : Int32} {t_high : Int32} {t_size : Int32} {t_newWide : Int32} {t_newHigh : Int32} {t_colours : Int32} {t_now : Nat → Int32} {t_file : Nat → Int32} {t_fresh : Nat → Int32} {t_colour : Nat → Int32} {t_table : Nat → Int32} {t_last : Nat → Int32} {t_one : Nat → Int32} {r0 : Int32} {zt_at : Int32} {zt_fault : Int32} (C : CallFix p m c cX9_decimal 4 s args wsX9_decimal RX9) (hN : zN s) (hK : va_K D vwCl [(cI, .int)] s) (hA : ∀ q, s.heap.size ≤ q → A q) (hE : zEi p l e rmX9_decimal s m args below meth c cX9_decimal D A Q (zwX9 cI h_t h_t_now h_t_file h_t_fresh h_t_colour h_t_table h_t_last h_t_one t_wide t_high t_size zt_at zt_fault t_newWide t_newHigh t_colours t_now t_file t_fresh t_colour t_table t_last t_one) r0) {t_at : Int32} {t_fault : Int32} {H : Heap} {locs : List Loc} {ls : Array Slot} : fX9_decimal t_size t_at t_fault t_file = some (r0, zt_at, zt_fault) → va_P D vwCl (zwX9 cI h_t h_t_now h_t_file h_t_fresh h_t_colour h_t_table h_t_last h_t_one t_wide t_high t_size t_at t_fault t_newWide t_newHigh t_colours t_now t_file t_fresh t_colour t_table t_last t_one) H → va_D A (zwX9 cI h_t h_t_now h_t_file h_t_fresh h_t_colour h_t_table h_t_last h_t_one t_wide t_high t_size t_at t_fault t_newWide t_newHigh t_colours t_now t_file t_fresh t_colour t_table t_last t_one) → va_S A s.heap H locs → lv_has ls 4 [(0, .ref h_t)] → W p l e rmX9_decimal s m args below meth c H locs 0 0 Q (F0 m 0 ls []) := by
  intro hf hP hD hS hl
  obtain ⟨hx, hb, hml, hown, hts⟩ := id C
  unfold fX9_decimal at hf
  refine lv_aload_n hx hb dX9_decimal_0 rfl (lv_at hl 0 rfl) ?_
  obtain ⟨r1, u2, u3, hc4, hf⟩ := zb3_in hf
  refine zc_i (va_runV (As := []) (rest := []) C (mX9_gaps l D cI H.size h_t h_t_now h_t_file h_t_fresh h_t_colour h_t_table h_t_last h_t_one t_wide t_high t_size t_at t_fault t_newWide t_newHigh t_colours t_now t_file t_fresh t_colour t_table t_last t_one r1 u2 u3 hc4) (qX9_decimal_X9_gaps_177 hts) ⟨zP_blind, va_recv hK hP (ci := 8) (q0 := 0) rfl rfl, zpre hK hN hP hD [0, 1, 2, 3, 4, 5, 6, 7] rfl rfl⟩ rfl rfl hl.1 rfl (lv_room (Nat.le_of_ble_eq_true rfl)) dX9_decimal_1 ⟨Nat.zero_le _, Nat.zero_le _⟩) hP hD hS hA [0, 1, 2, 3, 4, 5, 6, 7] [] [0, 1, 2, 3, 4, 5, 6, 7] (ws' := zwX9 cI h_t h_t_now h_t_file h_t_fresh h_t_colour h_t_table h_t_last h_t_one t_wide t_high t_size u2 u3 t_newWide t_newHigh t_colours t_now t_file t_fresh t_colour t_table t_last t_one) rfl rfl rfl rfl rfl rfl (fun H locs hP hD hS => ?_)
  refine lv_istore_n (lv' := [(1, .int r1), (0, .ref h_t)]) hx hb dX9_decimal_4 rfl hl (by decide) rfl (fun ls hl => ?_)
  refine lv_iconst (v := 0) hx hb dX9_decimal_5 (by decide) ?_
  refine lv_istore_n (lv' := [(2, .int 0), (1, .int r1), (0, .ref h_t)]) hx hb dX9_decimal_6 rfl hl (by decide) rfl (fun ls hl => ?_)
  refine lv_iconst (v := 0) hx hb dX9_decimal_7 (by decide) ?_
  refine lv_istore_n (lv' := [(3, .int 0), (2, .int 0), (1, .int r1), (0, .ref h_t)]) hx hb dX9_decimal_8 rfl hl (by decide) rfl (fun ls hl => ?_)
  exact wX9_decimal_9 C hN hK hA hE 1000 hf hP hD hS (lv_sub hl [3, 2, 1, 0] rfl)
set_option maxHeartbeats 4000000 in
set_option maxRecDepth 100000 in
theorem mX9_decimal (l : Launch) (D : va_G) (cI : ClassId) (sz : Nat) (h_t h_t_now h_t_file h_t_fresh h_t_colour h_t_table h_t_last h_t_one : Nat) (t_wide : Int32) (t_high : Int32) (t_size : Int32) (t_at : Int32) (t_fault : Int32) (t_newWide : Int32) (t_newHigh : Int32) (t_colours : Int32) (t_now : Nat → Int32) (t_file : Nat → Int32) (t_fresh : Nat → Int32) (t_colour : Nat → Int32) (t_table : Nat → Int32) (t_last : Nat → Int32) (t_one : Nat → Int32) (r0 : Int32) (zt_at : Int32) (zt_fault : Int32) (hf : fX9_decimal t_size t_at t_fault t_file = some (r0, zt_at, zt_fault)) : Met l yX9_decimal wsX9_decimal rmX9_decimal (va_Pc [.ref h_t] (zP D [(cI, .int)] (zwX9 cI h_t h_t_now h_t_file h_t_fresh h_t_colour h_t_table h_t_last h_t_one t_wide t_high t_size t_at t_fault t_newWide t_newHigh t_colours t_now t_file t_fresh t_colour t_table t_last t_one) sz)) (zQi D (zwX9 cI h_t h_t_now h_t_file h_t_fresh h_t_colour h_t_table h_t_last h_t_one t_wide t_high t_size t_at t_fault t_newWide t_newHigh t_colours t_now t_file t_fresh t_colour t_table t_last t_one) sz r0 (zwX9 cI h_t h_t_now h_t_file h_t_fresh h_t_colour h_t_table h_t_last h_t_one t_wide t_high t_size zt_at zt_fault t_newWide t_newHigh t_colours t_now t_file t_fresh t_colour t_table t_last t_one)) 0 0 (va_A (zwX9 cI h_t h_t_now h_t_file h_t_fresh h_t_colour h_t_table h_t_last h_t_one t_wide t_high t_size t_at t_fault t_newWide t_newHigh t_colours t_now t_file t_fresh t_colour t_table t_last t_one) sz) := by
  refine Met.ofW (cc := cX9_decimal) (maxL := 4) (ret := (some .int)) (by decide) rfl ?_
  intro p e s m args below meth c s₁ B hml hv
  obtain ⟨rfl, hsz, hP, hK, hD0, hN⟩ := hv
  subst hsz
  have C : CallFix p m c cX9_decimal 4 s [.ref h_t].toArray wsX9_decimal RX9 := ⟨B.exec, B.bytes, hml, findClass_of_methodNamed B.named, atoms_spec (ws := wsX9_decimal) B.pre⟩
  have hl := lv_entry ([.ref h_t]) (n := 4) (Nat.le_of_ble_eq_true rfl)
  rw [lg_entry_eq]
  exact wX9_decimal_0 (A := va_A (zwX9 cI h_t h_t_now h_t_file h_t_fresh h_t_colour h_t_table h_t_last h_t_one t_wide t_high t_size t_at t_fault t_newWide t_newHigh t_colours t_now t_file t_fresh t_colour t_table t_last t_one) s.heap.size) C hN hK (fun q h => Or.inr h) (fun H locs pc ls d hP hD hS => zend_i C.1 C.2.1 B.returns B.notSynchronized d hP hD hS) hf hP hD0.self va_S.rf hl
def rmX9_readSecond : Room := { frames := 3, cells := 0, slots := 0, locals := 64 }
theorem kX9_readSecond_20 {args : Array Value} {s : State} (h : ∀ w ∈ wsX9_readSecond, w.before args s = true) : (Cond.fieldLink RX9 20 "FourPictureFilesModel" "file" "[I").before args s = true := h _ (by decide +kernel)
theorem kX9_readSecond_35 {args : Array Value} {s : State} (h : ∀ w ∈ wsX9_readSecond, w.before args s = true) : (Cond.fieldLink RX9 35 "FourPictureFilesModel" "one" "[I").before args s = true := h _ (by decide +kernel)
theorem kX9_readSecond_57 {args : Array Value} {s : State} (h : ∀ w ∈ wsX9_readSecond, w.before args s = true) : (Cond.fieldLink RX9 57 "FourPictureFilesModel" "size" "I").before args s = true := h _ (by decide +kernel)
theorem kX9_readSecond_129 {args : Array Value} {s : State} (h : ∀ w ∈ wsX9_readSecond, w.before args s = true) : (Cond.fieldLink RX9 129 "FourPictureFilesModel" "fault" "I").before args s = true := h _ (by decide +kernel)
theorem kX9_readSecond_132 {args : Array Value} {s : State} (h : ∀ w ∈ wsX9_readSecond, w.before args s = true) : (Cond.fieldLink RX9 132 "FourPictureFilesModel" "at" "I").before args s = true := h _ (by decide +kernel)
theorem kX9_readSecond_142 {args : Array Value} {s : State} (h : ∀ w ∈ wsX9_readSecond, w.before args s = true) : (Cond.fieldLink RX9 142 "FourPictureFilesModel" "newWide" "I").before args s = true := h _ (by decide +kernel)
theorem kX9_readSecond_162 {args : Array Value} {s : State} (h : ∀ w ∈ wsX9_readSecond, w.before args s = true) : (Cond.fieldLink RX9 162 "FourPictureFilesModel" "newHigh" "I").before args s = true := h _ (by decide +kernel)
theorem iX9_readSecond_X9 : ∀ w ∈ u_ws RX9 TX9 15, w ∈ wsX9_readSecond := by decide +kernel
theorem qX9_readSecond_X9_broken_139 {args : Array Value} {s : State} (hts : ∀ w ∈ wsX9_readSecond, w.before args s = true) : CallW rmX9_readSecond s args RX9 RX9 139 yX9_broken cX9_broken 2 none wsX9_broken rmX9_broken 0 0 1 := cwV 1 hts gX9_readSecond_X9_broken rfl rfl rfl (by decide +kernel) ⟨Nat.le_of_ble_eq_true rfl, Nat.le_of_ble_eq_true rfl⟩
theorem qX9_readSecond_X9_decimal_183 {args : Array Value} {s : State} (hts : ∀ w ∈ wsX9_readSecond, w.before args s = true) : CallW rmX9_readSecond s args RX9 RX9 183 yX9_decimal cX9_decimal 4 (some .int) wsX9_decimal rmX9_decimal 0 0 0 := cwV 0 hts gX9_readSecond_X9_decimal rfl rfl rfl (by decide +kernel) ⟨Nat.le_of_ble_eq_true rfl, Nat.le_of_ble_eq_true rfl⟩
theorem qX9_readSecond_X9_gaps_177 {args : Array Value} {s : State} (hts : ∀ w ∈ wsX9_readSecond, w.before args s = true) : CallW rmX9_readSecond s args RX9 RX9 177 yX9_gaps cX9_gaps 2 (some .int) wsX9_gaps rmX9_gaps 0 0 0 := cwV 0 hts gX9_readSecond_X9_gaps rfl rfl rfl (by decide +kernel) ⟨Nat.le_of_ble_eq_true rfl, Nat.le_of_ble_eq_true rfl⟩
theorem qX9_readSecond_X9_next_135 {args : Array Value} {s : State} (hts : ∀ w ∈ wsX9_readSecond, w.before args s = true) : CallW rmX9_readSecond s args RX9 RX9 135 yX9_next cX9_next 1 (some .int) wsX9_next rmX9_next 0 0 0 := cwV 0 hts gX9_readSecond_X9_next rfl rfl rfl (by decide +kernel) ⟨Nat.le_of_ble_eq_true rfl, Nat.le_of_ble_eq_true rfl⟩
theorem qX9_readSecond_X9_set_168 {args : Array Value} {s : State} (hts : ∀ w ∈ wsX9_readSecond, w.before args s = true) : CallW rmX9_readSecond s args RX9 RX9 168 yX9_set cX9_set 3 none wsX9_set rmX9_set 0 0 1 := cwV 1 hts gX9_readSecond_X9_set rfl rfl rfl (by decide +kernel) ⟨Nat.le_of_ble_eq_true rfl, Nat.le_of_ble_eq_true rfl⟩
theorem qX9_readSecond_X9_sideOf_159 {args : Array Value} {s : State} (hts : ∀ w ∈ wsX9_readSecond, w.before args s = true) : CallW rmX9_readSecond s args RX9 RX9 159 yX9_sideOf cX9_sideOf 2 (some .int) wsX9_sideOf rmX9_sideOf 0 0 1 := cwV 1 hts gX9_readSecond_X9_sideOf rfl rfl rfl (by decide +kernel) ⟨Nat.le_of_ble_eq_true rfl, Nat.le_of_ble_eq_true rfl⟩
theorem qX9_readSecond_X9_skip_152 {args : Array Value} {s : State} (hts : ∀ w ∈ wsX9_readSecond, w.before args s = true) : CallW rmX9_readSecond s args RX9 RX9 152 yX9_skip cX9_skip 3 none wsX9_skip rmX9_skip 0 0 1 := cwV 1 hts gX9_readSecond_X9_skip rfl rfl rfl (by decide +kernel) ⟨Nat.le_of_ble_eq_true rfl, Nat.le_of_ble_eq_true rfl⟩
theorem qX9_readSecond_X9_space_174 {args : Array Value} {s : State} (hts : ∀ w ∈ wsX9_readSecond, w.before args s = true) : CallB rmX9_readSecond s args RX9 174 yX9_space cX9_space 1 (some .boolean) wsX9_space rmX9_space 0 0 1 ∧ (Cond.static yX9_space).before args s = true := va_cwS 1 hts gX9_readSecond_X9_space rfl rfl rfl (by decide +kernel) ⟨Nat.le_of_ble_eq_true rfl, Nat.le_of_ble_eq_true rfl⟩
theorem qX9_readSecond_X9_tone_145 {args : Array Value} {s : State} (hts : ∀ w ∈ wsX9_readSecond, w.before args s = true) : CallW rmX9_readSecond s args RX9 RX9 145 yX9_tone cX9_tone 5 none wsX9_tone rmX9_tone 0 0 4 := cwV 4 hts gX9_readSecond_X9_tone rfl rfl rfl (by decide +kernel) ⟨Nat.le_of_ble_eq_true rfl, Nat.le_of_ble_eq_true rfl⟩
set_option maxHeartbeats 4000000 in
set_option maxRecDepth 100000 in
theorem wX9_readSecond_311 {p : Program} {l : Launch} {e : Env} {s : State} {m : MethodId} {args : Array Value} {below : List Frame} {meth : Method} {c : Code} {D : va_G} {A : Nat → Prop} {Q : State → Prop} {cI : ClassId} {h_t h_t_now h_t_file h_t_fresh h_t_colour h_t_table h_t_last h_t_one : Nat} {t_wide : Int32} {t_high : Int32} {t_size : Int32} {t_colours : Int32} {t_now : Nat → Int32} {t_file : Nat → Int32} {t_colour : Nat → Int32} {t_table : Nat → Int32} {t_last : Nat → Int32} {zt_at : Int32} {zt_fault : Int32} {zt_newWide : Int32} {zt_newHigh : Int32} {zt_fresh : Nat → Int32} {zt_one : Nat → Int32} (C : CallFix p m c cX9_readSecond 8 s args wsX9_readSecond RX9) (hN : zN s) (hK : va_K D vwCl [(cI, .int)] s) (hA : ∀ q, s.heap.size ≤ q → A q) (hE : zEv p l e rmX9_readSecond s m args below meth c cX9_readSecond D A Q (zwX9 cI h_t h_t_now h_t_file h_t_fresh h_t_colour h_t_table h_t_last h_t_one t_wide t_high t_size zt_at zt_fault zt_newWide zt_newHigh t_colours t_now t_file zt_fresh t_colour t_table t_last zt_one)) {t_at : Int32} {t_fault : Int32} {t_newWide : Int32} {t_newHigh : Int32} {t_fresh : Nat → Int32} {t_one : Nat → Int32} {l1 : Int32} {l2 : Int32} {l3 : Int32} {l4 : Int32} {l5 : Int32} {k1 : Int32} {H : Heap} {locs : List Loc} {ls : Array Slot} : fX9_readSecond_311 t_at t_fault t_newWide t_newHigh t_fresh t_one k1 = some (zt_at, zt_fault, zt_newWide, zt_newHigh, zt_fresh, zt_one) → va_P D vwCl (zwX9 cI h_t h_t_now h_t_file h_t_fresh h_t_colour h_t_table h_t_last h_t_one t_wide t_high t_size t_at t_fault t_newWide t_newHigh t_colours t_now t_file t_fresh t_colour t_table t_last t_one) H → va_D A (zwX9 cI h_t h_t_now h_t_file h_t_fresh h_t_colour h_t_table h_t_last h_t_one t_wide t_high t_size t_at t_fault t_newWide t_newHigh t_colours t_now t_file t_fresh t_colour t_table t_last t_one) → va_S A s.heap H locs → lv_has ls 8 [(0, .ref h_t), (1, .int l1), (2, .int l2), (3, .int l3), (4, .int l4), (5, .int l5)] → W p l e rmX9_readSecond s m args below meth c H locs 0 0 Q (F0 m 311 ls [.int k1, .ref h_t]) := by
  intro hf hP hD hS hl
  obtain ⟨hx, hb, hml, hown, hts⟩ := id C
  unfold fX9_readSecond_311 at hf
  obtain ⟨u1, hc2, hf⟩ := zb1_in hf
  refine zc_v (va_runV (As := [.int k1]) (rest := []) C (mX9_broken l D cI H.size h_t h_t_now h_t_file h_t_fresh h_t_colour h_t_table h_t_last h_t_one t_wide t_high t_size t_at t_fault t_newWide t_newHigh t_colours t_now t_file t_fresh t_colour t_table t_last t_one k1 u1 hc2) (qX9_readSecond_X9_broken_139 hts) ⟨zP_blind, va_recv hK hP (ci := 8) (q0 := 0) rfl rfl, zpre hK hN hP hD [0, 1, 2, 3, 4, 5, 6, 7] rfl rfl⟩ rfl rfl hl.1 rfl (lv_room (Nat.le_of_ble_eq_true rfl)) dX9_readSecond_311 ⟨Nat.zero_le _, Nat.zero_le _⟩) hP hD hS hA [0, 1, 2, 3, 4, 5, 6, 7] [] [0, 1, 2, 3, 4, 5, 6, 7] (ws' := zwX9 cI h_t h_t_now h_t_file h_t_fresh h_t_colour h_t_table h_t_last h_t_one t_wide t_high t_size t_at u1 t_newWide t_newHigh t_colours t_now t_file t_fresh t_colour t_table t_last t_one) rfl rfl rfl rfl rfl rfl (fun H locs hP hD hS => ?_)
  cases hf
  exact hE _ _ _ _ dX9_readSecond_314 hP hD hS
set_option maxHeartbeats 4000000 in
set_option maxRecDepth 100000 in
theorem wX9_readSecond_294 {p : Program} {l : Launch} {e : Env} {s : State} {m : MethodId} {args : Array Value} {below : List Frame} {meth : Method} {c : Code} {D : va_G} {A : Nat → Prop} {Q : State → Prop} {cI : ClassId} {h_t h_t_now h_t_file h_t_fresh h_t_colour h_t_table h_t_last h_t_one : Nat} {t_wide : Int32} {t_high : Int32} {t_size : Int32} {t_colours : Int32} {t_now : Nat → Int32} {t_file : Nat → Int32} {t_colour : Nat → Int32} {t_table : Nat → Int32} {t_last : Nat → Int32} {zt_at : Int32} {zt_fault : Int32} {zt_newWide : Int32} {zt_newHigh : Int32} {zt_fresh : Nat → Int32} {zt_one : Nat → Int32} (C : CallFix p m c cX9_readSecond 8 s args wsX9_readSecond RX9) (hN : zN s) (hK : va_K D vwCl [(cI, .int)] s) (hA : ∀ q, s.heap.size ≤ q → A q) (hE : zEv p l e rmX9_readSecond s m args below meth c cX9_readSecond D A Q (zwX9 cI h_t h_t_now h_t_file h_t_fresh h_t_colour h_t_table h_t_last h_t_one t_wide t_high t_size zt_at zt_fault zt_newWide zt_newHigh t_colours t_now t_file zt_fresh t_colour t_table t_last zt_one)) {t_at : Int32} {t_fault : Int32} {t_newWide : Int32} {t_newHigh : Int32} {t_fresh : Nat → Int32} {t_one : Nat → Int32} {l1 : Int32} {l2 : Int32} {l3 : Int32} {l4 : Int32} {l5 : Int32} {H : Heap} {locs : List Loc} {ls : Array Slot} : fX9_readSecond_294 t_size t_at t_fault t_newWide t_newHigh t_fresh t_one = some (zt_at, zt_fault, zt_newWide, zt_newHigh, zt_fresh, zt_one) → va_P D vwCl (zwX9 cI h_t h_t_now h_t_file h_t_fresh h_t_colour h_t_table h_t_last h_t_one t_wide t_high t_size t_at t_fault t_newWide t_newHigh t_colours t_now t_file t_fresh t_colour t_table t_last t_one) H → va_D A (zwX9 cI h_t h_t_now h_t_file h_t_fresh h_t_colour h_t_table h_t_last h_t_one t_wide t_high t_size t_at t_fault t_newWide t_newHigh t_colours t_now t_file t_fresh t_colour t_table t_last t_one) → va_S A s.heap H locs → lv_has ls 8 [(0, .ref h_t), (1, .int l1), (2, .int l2), (3, .int l3), (4, .int l4), (5, .int l5)] → W p l e rmX9_readSecond s m args below meth c H locs 0 0 Q (F0 m 294 ls []) := by
  intro hf hP hD hS hl
  obtain ⟨hx, hb, hml, hown, hts⟩ := id C
  unfold fX9_readSecond_294 at hf
  refine lv_aload_n hx hb dX9_readSecond_294 rfl (lv_at hl 0 rfl) ?_
  refine lv_aload_n hx hb dX9_readSecond_295 rfl (lv_at hl 0 rfl) ?_
  refine va_get (D := D) (ci := 8) (v := .int t_at) (C := RX9) (T := TX9) (N := 15) hx hb hts iX9_readSecond_X9 hown hK hP 0 rfl rfl 5 (by decide) (kX9_readSecond_132 hts) (fun _ h9 => h9) rfl dX9_readSecond_296 ?_
  refine lv_aload_n hx hb dX9_readSecond_299 rfl (lv_at hl 0 rfl) ?_
  refine va_get (D := D) (ci := 8) (v := .int t_size) (C := RX9) (T := TX9) (N := 15) hx hb hts iX9_readSecond_X9 hown hK hP 0 rfl rfl 3 (by decide) (kX9_readSecond_57 hts) (fun _ h9 => h9) rfl dX9_readSecond_300 ?_
  refine lv_icmp_ge (tgt := 310) hx hb dX9_readSecond_303 (by decide) (fun c1 => ?_) (fun c1 => ?_)
  · replace hf := zif_t hf c1
    refine lv_iconst (v := 0) hx hb dX9_readSecond_310 (by decide) ?_
    exact wX9_readSecond_311 C hN hK hA hE hf hP hD hS (lv_sub hl [0, 1, 2, 3, 4, 5] rfl)
  · replace hf := zif_f hf c1
    refine lv_iconst (v := 1) hx hb dX9_readSecond_306 (by decide) ?_
    refine lv_goto (tgt := 311) hx hb dX9_readSecond_307 (by decide) ?_
    exact wX9_readSecond_311 C hN hK hA hE hf hP hD hS (lv_sub hl [0, 1, 2, 3, 4, 5] rfl)
set_option maxHeartbeats 4000000 in
set_option maxRecDepth 100000 in
theorem wX9_readSecond_285 {p : Program} {l : Launch} {e : Env} {s : State} {m : MethodId} {args : Array Value} {below : List Frame} {meth : Method} {c : Code} {D : va_G} {A : Nat → Prop} {Q : State → Prop} {cI : ClassId} {h_t h_t_now h_t_file h_t_fresh h_t_colour h_t_table h_t_last h_t_one : Nat} {t_wide : Int32} {t_high : Int32} {t_size : Int32} {t_colours : Int32} {t_now : Nat → Int32} {t_file : Nat → Int32} {t_colour : Nat → Int32} {t_table : Nat → Int32} {t_last : Nat → Int32} {zt_at : Int32} {zt_fault : Int32} {zt_newWide : Int32} {zt_newHigh : Int32} {zt_fresh : Nat → Int32} {zt_one : Nat → Int32} (C : CallFix p m c cX9_readSecond 8 s args wsX9_readSecond RX9) (hN : zN s) (hK : va_K D vwCl [(cI, .int)] s) (hA : ∀ q, s.heap.size ≤ q → A q) (hE : zEv p l e rmX9_readSecond s m args below meth c cX9_readSecond D A Q (zwX9 cI h_t h_t_now h_t_file h_t_fresh h_t_colour h_t_table h_t_last h_t_one t_wide t_high t_size zt_at zt_fault zt_newWide zt_newHigh t_colours t_now t_file zt_fresh t_colour t_table t_last zt_one)) {t_at : Int32} {t_fault : Int32} {t_newWide : Int32} {t_newHigh : Int32} {t_fresh : Nat → Int32} {t_one : Nat → Int32} {l1 : Int32} {l2 : Int32} {l3 : Int32} {l4 : Int32} {l5 : Int32} {H : Heap} {locs : List Loc} {ls : Array Slot} : fX9_readSecond_285 t_size t_at t_fault t_newWide t_newHigh t_file t_fresh t_one l3 = some (zt_at, zt_fault, zt_newWide, zt_newHigh, zt_fresh, zt_one) → va_P D vwCl (zwX9 cI h_t h_t_now h_t_file h_t_fresh h_t_colour h_t_table h_t_last h_t_one t_wide t_high t_size t_at t_fault t_newWide t_newHigh t_colours t_now t_file t_fresh t_colour t_table t_last t_one) H → va_D A (zwX9 cI h_t h_t_now h_t_file h_t_fresh h_t_colour h_t_table h_t_last h_t_one t_wide t_high t_size t_at t_fault t_newWide t_newHigh t_colours t_now t_file t_fresh t_colour t_table t_last t_one) → va_S A s.heap H locs → lv_has ls 8 [(0, .ref h_t), (1, .int l1), (2, .int l2), (3, .int l3), (4, .int l4), (5, .int l5)] → W p l e rmX9_readSecond s m args below meth c H locs 0 0 Q (F0 m 285 ls []) := by
  intro hf hP hD hS hl
  obtain ⟨hx, hb, hml, hown, hts⟩ := id C
  unfold fX9_readSecond_285 at hf
  refine lv_iload_n hx hb dX9_readSecond_285 rfl (lv_at hl 3 rfl) ?_
  refine lv_if_eq (tgt := 294) hx hb dX9_readSecond_286 (by decide) (fun c1 => ?_) (fun c1 => ?_)
  · replace hf := zif_t hf c1
    exact wX9_readSecond_294 C hN hK hA hE hf hP hD hS (lv_sub hl [0, 1, 2, 3, 4, 5] rfl)
  · replace hf := zif_f hf c1
    refine lv_aload_n hx hb dX9_readSecond_289 rfl (lv_at hl 0 rfl) ?_
    obtain ⟨r2, u3, u4, hc5, hf⟩ := zb3_in hf
    refine zc_i (va_runV (As := []) (rest := []) C (mX9_gaps l D cI H.size h_t h_t_now h_t_file h_t_fresh h_t_colour h_t_table h_t_last h_t_one t_wide t_high t_size t_at t_fault t_newWide t_newHigh t_colours t_now t_file t_fresh t_colour t_table t_last t_one r2 u3 u4 hc5) (qX9_readSecond_X9_gaps_177 hts) ⟨zP_blind, va_recv hK hP (ci := 8) (q0 := 0) rfl rfl, zpre hK hN hP hD [0, 1, 2, 3, 4, 5, 6, 7] rfl rfl⟩ rfl rfl hl.1 rfl (lv_room (Nat.le_of_ble_eq_true rfl)) dX9_readSecond_290 ⟨Nat.zero_le _, Nat.zero_le _⟩) hP hD hS hA [0, 1, 2, 3, 4, 5, 6, 7] [] [0, 1, 2, 3, 4, 5, 6, 7] (ws' := zwX9 cI h_t h_t_now h_t_file h_t_fresh h_t_colour h_t_table h_t_last h_t_one t_wide t_high t_size u3 u4 t_newWide t_newHigh t_colours t_now t_file t_fresh t_colour t_table t_last t_one) rfl rfl rfl rfl rfl rfl (fun H locs hP hD hS => ?_)
    refine lv_pop hx hb dX9_readSecond_293 rfl ?_
    exact wX9_readSecond_294 C hN hK hA hE hf hP hD hS (lv_sub hl [0, 1, 2, 3, 4, 5] rfl)
set_option maxHeartbeats 4000000 in
set_option maxRecDepth 100000 in
theorem wX9_readSecond_267 {p : Program} {l : Launch} {e : Env} {s : State} {m : MethodId} {args : Array Value} {below : List Frame} {meth : Method} {c : Code} {D : va_G} {A : Nat → Prop} {Q : State → Prop} {cI : ClassId} {h_t h_t_now h_t_file h_t_fresh h_t_colour h_t_table h_t_last h_t_one : Nat} {t_wide : Int32} {t_high : Int32} {t_size : Int32} {t_colours : Int32} {t_now : Nat → Int32} {t_file : Nat → Int32} {t_colour : Nat → Int32} {t_table : Nat → Int32} {t_last : Nat → Int32} {zt_at : Int32} {zt_fault : Int32} {zt_newWide : Int32} {zt_newHigh : Int32} {zt_fresh : Nat → Int32} {zt_one : Nat → Int32} (C : CallFix p m c cX9_readSecond 8 s args wsX9_readSecond RX9) (hN : zN s) (hK : va_K D vwCl [(cI, .int)] s) (hA : ∀ q, s.heap.size ≤ q → A q) (hE : zEv p l e rmX9_readSecond s m args below meth c cX9_readSecond D A Q (zwX9 cI h_t h_t_now h_t_file h_t_fresh h_t_colour h_t_table h_t_last h_t_one t_wide t_high t_size zt_at zt_fault zt_newWide zt_newHigh t_colours t_now t_file zt_fresh t_colour t_table t_last zt_one)) {rc119 : Int32 → Int32 → Int32 → Int32 → Int32 → (Nat → Int32) → (Nat → Int32) → (Nat → Int32) → Int32 → Int32 → Int32 → Int32 → Option (Int32 × Int32 × Int32 × Int32 × (Nat → Int32) × (Nat → Int32))} (hr_119 : ∀ {t_at : Int32} {t_fault : Int32} {t_newWide : Int32} {t_newHigh : Int32} {t_fresh : Nat → Int32} {t_one : Nat → Int32} {l1 : Int32} {l2 : Int32} {l3 : Int32} {l4 : Int32} {l5 : Int32} {H : Heap} {locs : List Loc} {ls : Array Slot}, rc119 t_size t_at t_fault t_newWide t_newHigh t_file t_fresh t_one l2 l3 l4 l5 = some (zt_at, zt_fault, zt_newWide, zt_newHigh, zt_fresh, zt_one) → va_P D vwCl (zwX9 cI h_t h_t_now h_t_file h_t_fresh h_t_colour h_t_table h_t_last h_t_one t_wide t_high t_size t_at t_fault t_newWide t_newHigh t_colours t_now t_file t_fresh t_colour t_table t_last t_one) H → va_D A (zwX9 cI h_t h_t_now h_t_file h_t_fresh h_t_colour h_t_table h_t_last h_t_one t_wide t_high t_size t_at t_fault t_newWide t_newHigh t_colours t_now t_file t_fresh t_colour t_table t_last t_one) → va_S A s.heap H locs → lv_has ls 8 [(0, .ref h_t), (1, .int l1), (2, .int l2), (3, .int l3), (4, .int l4), (5, .int l5)] → W p l e rmX9_readSecond s m args below meth c H locs 0 0 Q (F0 m 119 ls [])) {t_at : Int32} {t_fault : Int32} {t_newWide : Int32} {t_newHigh : Int32} {t_fresh : Nat → Int32} {t_one : Nat → Int32} {l1 : Int32} {l2 : Int32} {l3 : Int32} {l4 : Int32} {l5 : Int32} {l6 : Int32} {k1 : Int32} {k2 : Int32} {k3 : Int32} {H : Heap} {locs : List Loc} {ls : Array Slot} : fX9_readSecond_267 rc119 t_size t_at t_fault t_newWide t_newHigh t_file t_fresh t_one l2 l3 l4 l5 k1 k2 k3 = some (zt_at, zt_fault, zt_newWide, zt_newHigh, zt_fresh, zt_one) → va_P D vwCl (zwX9 cI h_t h_t_now h_t_file h_t_fresh h_t_colour h_t_table h_t_last h_t_one t_wide t_high t_size t_at t_fault t_newWide t_newHigh t_colours t_now t_file t_fresh t_colour t_table t_last t_one) H → va_D A (zwX9 cI h_t h_t_now h_t_file h_t_fresh h_t_colour h_t_table h_t_last h_t_one t_wide t_high t_size t_at t_fault t_newWide t_newHigh t_colours t_now t_file t_fresh t_colour t_table t_last t_one) → va_S A s.heap H locs → lv_has ls 8 [(0, .ref h_t), (1, .int l1), (2, .int l2), (3, .int l3), (4, .int l4), (5, .int l5), (6, .int l6)] → W p l e rmX9_readSecond s m args below meth c H locs 0 0 Q (F0 m 267 ls [.int k3, .int k2, .int k1, .ref h_t]) := by
  intro hf hP hD hS hl
  obtain ⟨hx, hb, hml, hown, hts⟩ := id C
  unfold fX9_readSecond_267 at hf
  refine lv_sipush (v := 255) hx hb dX9_readSecond_267 (by decide) ?_
  obtain ⟨u1, hc2, hf⟩ := zb1_in hf
  refine zc_v (va_runV (As := [.int k1, .int k2, .int k3, .int 255]) (rest := []) C (mX9_tone l D cI H.size h_t h_t_now h_t_file h_t_fresh h_t_colour h_t_table h_t_last h_t_one t_wide t_high t_size t_at t_fault t_newWide t_newHigh t_colours t_now t_file t_fresh t_colour t_table t_last t_one k1 k2 k3 255 u1 hc2) (qX9_readSecond_X9_tone_145 hts) ⟨zP_blind, va_recv hK hP (ci := 8) (q0 := 0) rfl rfl, zpre hK hN hP hD [0, 1, 2, 3, 4, 5, 6, 7] rfl rfl⟩ rfl rfl hl.1 rfl (lv_room (Nat.le_of_ble_eq_true rfl)) dX9_readSecond_270 ⟨Nat.zero_le _, Nat.zero_le _⟩) hP hD hS hA [0, 1, 2, 3, 4, 5, 6, 7] [] [0, 1, 2, 3, 4, 5, 6, 7] (ws' := zwX9 cI h_t h_t_now h_t_file h_t_fresh h_t_colour h_t_table h_t_last h_t_one t_wide t_high t_size t_at t_fault t_newWide t_newHigh t_colours t_now t_file t_fresh t_colour t_table t_last u1) rfl rfl rfl rfl rfl rfl (fun H locs hP hD hS => ?_)
  refine lv_aload_n hx hb dX9_readSecond_273 rfl (lv_at hl 0 rfl) ?_
  refine lv_iload hx hb dX9_readSecond_274 (lv_at hl 5 rfl) ?_
  obtain ⟨u3, hc4, hf⟩ := zb1_in hf
  refine zc_v (va_runV (As := [.int l5]) (rest := []) C (mX9_set l D cI H.size h_t h_t_now h_t_file h_t_fresh h_t_colour h_t_table h_t_last h_t_one t_wide t_high t_size t_at t_fault t_newWide t_newHigh t_colours t_now t_file t_fresh t_colour t_table t_last u1 l5 u3 hc4) (qX9_readSecond_X9_set_168 hts) ⟨zP_blind, va_recv hK hP (ci := 8) (q0 := 0) rfl rfl, zpre hK hN hP hD [0, 1, 2, 3, 4, 5, 6, 7] rfl rfl⟩ rfl rfl hl.1 rfl (lv_room (Nat.le_of_ble_eq_true rfl)) dX9_readSecond_276 ⟨Nat.zero_le _, Nat.zero_le _⟩) hP hD hS hA [0, 1, 2, 3, 4, 5, 6, 7] [] [0, 1, 2, 3, 4, 5, 6, 7] (ws' := zwX9 cI h_t h_t_now h_t_file h_t_fresh h_t_colour h_t_table h_t_last h_t_one t_wide t_high t_size t_at t_fault t_newWide t_newHigh t_colours t_now t_file u3 t_colour t_table t_last u1) rfl rfl rfl rfl rfl rfl (fun H locs hP hD hS => ?_)
  obtain ⟨x5, ex5⟩ : ∃ y : Int32, y = l5 + 1 := ⟨_, rfl⟩
  replace hf := zlet_in hf ex5
  refine lv_iinc (v := x5) (lv' := [(5, .int x5), (0, .ref h_t), (1, .int l1), (2, .int l2), (3, .int l3), (4, .int l4), (6, .int l6)]) hx hb dX9_readSecond_279 hl (k := 5) rfl (by rw [ex5]; rfl) (by decide) rfl (fun ls hl => ?_)
  clear ex5
  refine lv_goto (tgt := 119) hx hb dX9_readSecond_282 (by decide) ?_
  exact hr_119 hf hP hD hS (lv_sub hl [1, 2, 3, 4, 5, 0] rfl)
set_option maxHeartbeats 4000000 in
set_option maxRecDepth 100000 in
theorem wX9_readSecond_246 {p : Program} {l : Launch} {e : Env} {s : State} {m : MethodId} {args : Array Value} {below : List Frame} {meth : Method} {c : Code} {D : va_G} {A : Nat → Prop} {Q : State → Prop} {cI : ClassId} {h_t h_t_now h_t_file h_t_fresh h_t_colour h_t_table h_t_last h_t_one : Nat} {t_wide : Int32} {t_high : Int32} {t_size : Int32} {t_colours : Int32} {t_now : Nat → Int32} {t_file : Nat → Int32} {t_colour : Nat → Int32} {t_table : Nat → Int32} {t_last : Nat → Int32} {zt_at : Int32} {zt_fault : Int32} {zt_newWide : Int32} {zt_newHigh : Int32} {zt_fresh : Nat → Int32} {zt_one : Nat → Int32} (C : CallFix p m c cX9_readSecond 8 s args wsX9_readSecond RX9) (hN : zN s) (hK : va_K D vwCl [(cI, .int)] s) (hA : ∀ q, s.heap.size ≤ q → A q) (hE : zEv p l e rmX9_readSecond s m args below meth c cX9_readSecond D A Q (zwX9 cI h_t h_t_now h_t_file h_t_fresh h_t_colour h_t_table h_t_last h_t_one t_wide t_high t_size zt_at zt_fault zt_newWide zt_newHigh t_colours t_now t_file zt_fresh t_colour t_table t_last zt_one)) {rc119 : Int32 → Int32 → Int32 → Int32 → Int32 → (Nat → Int32) → (Nat → Int32) → (Nat → Int32) → Int32 → Int32 → Int32 → Int32 → Option (Int32 × Int32 × Int32 × Int32 × (Nat → Int32) × (Nat → Int32))} (hr_119 : ∀ {t_at : Int32} {t_fault : Int32} {t_newWide : Int32} {t_newHigh : Int32} {t_fresh : Nat → Int32} {t_one : Nat → Int32} {l1 : Int32} {l2 : Int32} {l3 : Int32} {l4 : Int32} {l5 : Int32} {H : Heap} {locs : List Loc} {ls : Array Slot}, rc119 t_size t_at t_fault t_newWide t_newHigh t_file t_fresh t_one l2 l3 l4 l5 = some (zt_at, zt_fault, zt_newWide, zt_newHigh, zt_fresh, zt_one) → va_P D vwCl (zwX9 cI h_t h_t_now h_t_file h_t_fresh h_t_colour h_t_table h_t_last h_t_one t_wide t_high t_size t_at t_fault t_newWide t_newHigh t_colours t_now t_file t_fresh t_colour t_table t_last t_one) H → va_D A (zwX9 cI h_t h_t_now h_t_file h_t_fresh h_t_colour h_t_table h_t_last h_t_one t_wide t_high t_size t_at t_fault t_newWide t_newHigh t_colours t_now t_file t_fresh t_colour t_table t_last t_one) → va_S A s.heap H locs → lv_has ls 8 [(0, .ref h_t), (1, .int l1), (2, .int l2), (3, .int l3), (4, .int l4), (5, .int l5)] → W p l e rmX9_readSecond s m args below meth c H locs 0 0 Q (F0 m 119 ls [])) {t_at : Int32} {t_fault : Int32} {t_newWide : Int32} {t_newHigh : Int32} {t_fresh : Nat → Int32} {t_one : Nat → Int32} {l1 : Int32} {l2 : Int32} {l3 : Int32} {l4 : Int32} {l5 : Int32} {l6 : Int32} {k1 : Int32} {k2 : Int32} {H : Heap} {locs : List Loc} {ls : Array Slot} : fX9_readSecond_246 rc119 t_size t_at t_fault t_newWide t_newHigh t_file t_fresh t_one l2 l3 l4 l5 k1 k2 = some (zt_at, zt_fault, zt_newWide, zt_newHigh, zt_fresh, zt_one) → va_P D vwCl (zwX9 cI h_t h_t_now h_t_file h_t_fresh h_t_colour h_t_table h_t_last h_t_one t_wide t_high t_size t_at t_fault t_newWide t_newHigh t_colours t_now t_file t_fresh t_colour t_table t_last t_one) H → va_D A (zwX9 cI h_t h_t_now h_t_file h_t_fresh h_t_colour h_t_table h_t_last h_t_one t_wide t_high t_size t_at t_fault t_newWide t_newHigh t_colours t_now t_file t_fresh t_colour t_table t_last t_one) → va_S A s.heap H locs → lv_has ls 8 [(0, .ref h_t), (1, .int l1), (2, .int l2), (3, .int l3), (4, .int l4), (5, .int l5), (6, .int l6)] → W p l e rmX9_readSecond s m args below meth c H locs 0 0 Q (F0 m 246 ls [.int k2, .int k1, .ref h_t]) := by
  intro hf hP hD hS hl
  obtain ⟨hx, hb, hml, hown, hts⟩ := id C
  unfold fX9_readSecond_246 at hf
  refine lv_iload hx hb dX9_readSecond_246 (lv_at hl 4 rfl) ?_
  refine lv_iconst (v := 1) hx hb dX9_readSecond_248 (by decide) ?_
  refine lv_icmp_ne (tgt := 261) hx hb dX9_readSecond_249 (by decide) (fun c1 => ?_) (fun c1 => ?_)
  · replace hf := zif_f hf c1
    refine lv_aload_n hx hb dX9_readSecond_261 rfl (lv_at hl 0 rfl) ?_
    refine va_get (D := D) (ci := 8) (v := .ref h_t_one) (C := RX9) (T := TX9) (N := 15) hx hb hts iX9_readSecond_X9 hown hK hP 0 rfl rfl 14 (by decide) (kX9_readSecond_35 hts) (fun _ h9 => h9) rfl dX9_readSecond_262 ?_
    refine lv_iconst (v := 2) hx hb dX9_readSecond_265 (by decide) ?_
    obtain ⟨hg3, hf⟩ := zrd_in hf
    refine va_iald hx hb hK hP 7 0 rfl rfl hg3 dX9_readSecond_266 ?_
    refine lv_topi (fun x2 ex2 => ?_)
    replace hf := hf x2 ex2
    clear ex2
    exact wX9_readSecond_267 C hN hK hA hE hr_119 hf hP hD hS (lv_sub hl [0, 1, 2, 3, 4, 5, 6] rfl)
  · replace hf := zif_t hf c1
    refine lv_aload_n hx hb dX9_readSecond_252 rfl (lv_at hl 0 rfl) ?_
    refine va_get (D := D) (ci := 8) (v := .ref h_t_one) (C := RX9) (T := TX9) (N := 15) hx hb hts iX9_readSecond_X9 hown hK hP 0 rfl rfl 14 (by decide) (kX9_readSecond_35 hts) (fun _ h9 => h9) rfl dX9_readSecond_253 ?_
    refine lv_iconst (v := 0) hx hb dX9_readSecond_256 (by decide) ?_
    obtain ⟨hg5, hf⟩ := zrd_in hf
    refine va_iald hx hb hK hP 7 0 rfl rfl hg5 dX9_readSecond_257 ?_
    refine lv_topi (fun x4 ex4 => ?_)
    replace hf := hf x4 ex4
    clear ex4
    refine lv_goto (tgt := 267) hx hb dX9_readSecond_258 (by decide) ?_
    exact wX9_readSecond_267 C hN hK hA hE hr_119 hf hP hD hS (lv_sub hl [0, 1, 2, 3, 4, 5, 6] rfl)
set_option maxHeartbeats 4000000 in
set_option maxRecDepth 100000 in
theorem wX9_readSecond_211 {p : Program} {l : Launch} {e : Env} {s : State} {m : MethodId} {args : Array Value} {below : List Frame} {meth : Method} {c : Code} {D : va_G} {A : Nat → Prop} {Q : State → Prop} {cI : ClassId} {h_t h_t_now h_t_file h_t_fresh h_t_colour h_t_table h_t_last h_t_one : Nat} {t_wide : Int32} {t_high : Int32} {t_size : Int32} {t_colours : Int32} {t_now : Nat → Int32} {t_file : Nat → Int32} {t_colour : Nat → Int32} {t_table : Nat → Int32} {t_last : Nat → Int32} {zt_at : Int32} {zt_fault : Int32} {zt_newWide : Int32} {zt_newHigh : Int32} {zt_fresh : Nat → Int32} {zt_one : Nat → Int32} (C : CallFix p m c cX9_readSecond 8 s args wsX9_readSecond RX9) (hN : zN s) (hK : va_K D vwCl [(cI, .int)] s) (hA : ∀ q, s.heap.size ≤ q → A q) (hE : zEv p l e rmX9_readSecond s m args below meth c cX9_readSecond D A Q (zwX9 cI h_t h_t_now h_t_file h_t_fresh h_t_colour h_t_table h_t_last h_t_one t_wide t_high t_size zt_at zt_fault zt_newWide zt_newHigh t_colours t_now t_file zt_fresh t_colour t_table t_last zt_one)) {rc119 : Int32 → Int32 → Int32 → Int32 → Int32 → (Nat → Int32) → (Nat → Int32) → (Nat → Int32) → Int32 → Int32 → Int32 → Int32 → Option (Int32 × Int32 × Int32 × Int32 × (Nat → Int32) × (Nat → Int32))} (hr_119 : ∀ {t_at : Int32} {t_fault : Int32} {t_newWide : Int32} {t_newHigh : Int32} {t_fresh : Nat → Int32} {t_one : Nat → Int32} {l1 : Int32} {l2 : Int32} {l3 : Int32} {l4 : Int32} {l5 : Int32} {H : Heap} {locs : List Loc} {ls : Array Slot}, rc119 t_size t_at t_fault t_newWide t_newHigh t_file t_fresh t_one l2 l3 l4 l5 = some (zt_at, zt_fault, zt_newWide, zt_newHigh, zt_fresh, zt_one) → va_P D vwCl (zwX9 cI h_t h_t_now h_t_file h_t_fresh h_t_colour h_t_table h_t_last h_t_one t_wide t_high t_size t_at t_fault t_newWide t_newHigh t_colours t_now t_file t_fresh t_colour t_table t_last t_one) H → va_D A (zwX9 cI h_t h_t_now h_t_file h_t_fresh h_t_colour h_t_table h_t_last h_t_one t_wide t_high t_size t_at t_fault t_newWide t_newHigh t_colours t_now t_file t_fresh t_colour t_table t_last t_one) → va_S A s.heap H locs → lv_has ls 8 [(0, .ref h_t), (1, .int l1), (2, .int l2), (3, .int l3), (4, .int l4), (5, .int l5)] → W p l e rmX9_readSecond s m args below meth c H locs 0 0 Q (F0 m 119 ls [])) {rc143 : Int32 → Int32 → Int32 → Int32 → Int32 → (Nat → Int32) → (Nat → Int32) → (Nat → Int32) → Int32 → Int32 → Int32 → Int32 → Int32 → Option (Int32 × Int32 × Int32 × Int32 × (Nat → Int32) × (Nat → Int32))} (hr_143 : ∀ {t_at : Int32} {t_fault : Int32} {t_newWide : Int32} {t_newHigh : Int32} {t_fresh : Nat → Int32} {t_one : Nat → Int32} {l1 : Int32} {l2 : Int32} {l3 : Int32} {l4 : Int32} {l5 : Int32} {l6 : Int32} {H : Heap} {locs : List Loc} {ls : Array Slot}, rc143 t_size t_at t_fault t_newWide t_newHigh t_file t_fresh t_one l2 l3 l4 l5 l6 = some (zt_at, zt_fault, zt_newWide, zt_newHigh, zt_fresh, zt_one) → va_P D vwCl (zwX9 cI h_t h_t_now h_t_file h_t_fresh h_t_colour h_t_table h_t_last h_t_one t_wide t_high t_size t_at t_fault t_newWide t_newHigh t_colours t_now t_file t_fresh t_colour t_table t_last t_one) H → va_D A (zwX9 cI h_t h_t_now h_t_file h_t_fresh h_t_colour h_t_table h_t_last h_t_one t_wide t_high t_size t_at t_fault t_newWide t_newHigh t_colours t_now t_file t_fresh t_colour t_table t_last t_one) → va_S A s.heap H locs → lv_has ls 8 [(0, .ref h_t), (1, .int l1), (2, .int l2), (3, .int l3), (4, .int l4), (5, .int l5), (6, .int l6)] → W p l e rmX9_readSecond s m args below meth c H locs 0 0 Q (F0 m 143 ls [])) {t_at : Int32} {t_fault : Int32} {t_newWide : Int32} {t_newHigh : Int32} {t_fresh : Nat → Int32} {t_one : Nat → Int32} {l1 : Int32} {l2 : Int32} {l3 : Int32} {l4 : Int32} {l5 : Int32} {l6 : Int32} {l7 : Int32} {k1 : Int32} {k2 : Int32} {H : Heap} {locs : List Loc} {ls : Array Slot} : fX9_readSecond_211 rc119 rc143 t_size t_at t_fault t_newWide t_newHigh t_file t_fresh t_one l2 l3 l4 l5 l6 k1 k2 = some (zt_at, zt_fault, zt_newWide, zt_newHigh, zt_fresh, zt_one) → va_P D vwCl (zwX9 cI h_t h_t_now h_t_file h_t_fresh h_t_colour h_t_table h_t_last h_t_one t_wide t_high t_size t_at t_fault t_newWide t_newHigh t_colours t_now t_file t_fresh t_colour t_table t_last t_one) H → va_D A (zwX9 cI h_t h_t_now h_t_file h_t_fresh h_t_colour h_t_table h_t_last h_t_one t_wide t_high t_size t_at t_fault t_newWide t_newHigh t_colours t_now t_file t_fresh t_colour t_table t_last t_one) → va_S A s.heap H locs → lv_has ls 8 [(0, .ref h_t), (1, .int l1), (2, .int l2), (3, .int l3), (4, .int l4), (5, .int l5), (6, .int l6), (7, .int l7)] → W p l e rmX9_readSecond s m args below meth c H locs 0 0 Q (F0 m 211 ls [.int k2, .int k1, .ref h_t_one]) := by
  intro hf hP hD hS hl
  obtain ⟨hx, hb, hml, hown, hts⟩ := id C
  unfold fX9_readSecond_211 at hf
  obtain ⟨hg2, g1, eg1, hf⟩ := zwr_in hf
  refine va_iast hx hb hK hP hD hS 7 0 rfl rfl hg2 dX9_readSecond_211 (fun H locs hP hD hS => ?_)
  replace hP : va_P D vwCl (zwX9 cI h_t h_t_now h_t_file h_t_fresh h_t_colour h_t_table h_t_last h_t_one t_wide t_high t_size t_at t_fault t_newWide t_newHigh t_colours t_now t_file t_fresh t_colour t_table t_last g1) H := by rw [← eg1]; exact hP
  replace hD : va_D A (zwX9 cI h_t h_t_now h_t_file h_t_fresh h_t_colour h_t_table h_t_last h_t_one t_wide t_high t_size t_at t_fault t_newWide t_newHigh t_colours t_now t_file t_fresh t_colour t_table t_last g1) := by rw [← eg1]; exact hD
  clear eg1
  obtain ⟨x3, ex3⟩ : ∃ y : Int32, y = l6 + 1 := ⟨_, rfl⟩
  replace hf := zlet_in hf ex3
  refine lv_iinc (v := x3) (lv' := [(6, .int x3), (0, .ref h_t), (1, .int l1), (2, .int l2), (3, .int l3), (4, .int l4), (5, .int l5), (7, .int l7)]) hx hb dX9_readSecond_212 hl (k := 6) rfl (by rw [ex3]; rfl) (by decide) rfl (fun ls hl => ?_)
  clear ex3
  refine lv_goto (tgt := 143) hx hb dX9_readSecond_215 (by decide) ?_
  exact hr_143 hf hP hD hS (lv_sub hl [1, 2, 3, 4, 5, 6, 0] rfl)
set_option maxHeartbeats 4000000 in
set_option maxRecDepth 100000 in
theorem wX9_readSecond_179 {p : Program} {l : Launch} {e : Env} {s : State} {m : MethodId} {args : Array Value} {below : List Frame} {meth : Method} {c : Code} {D : va_G} {A : Nat → Prop} {Q : State → Prop} {cI : ClassId} {h_t h_t_now h_t_file h_t_fresh h_t_colour h_t_table h_t_last h_t_one : Nat} {t_wide : Int32} {t_high : Int32} {t_size : Int32} {t_colours : Int32} {t_now : Nat → Int32} {t_file : Nat → Int32} {t_colour : Nat → Int32} {t_table : Nat → Int32} {t_last : Nat → Int32} {zt_at : Int32} {zt_fault : Int32} {zt_newWide : Int32} {zt_newHigh : Int32} {zt_fresh : Nat → Int32} {zt_one : Nat → Int32} (C : CallFix p m c cX9_readSecond 8 s args wsX9_readSecond RX9) (hN : zN s) (hK : va_K D vwCl [(cI, .int)] s) (hA : ∀ q, s.heap.size ≤ q → A q) (hE : zEv p l e rmX9_readSecond s m args below meth c cX9_readSecond D A Q (zwX9 cI h_t h_t_now h_t_file h_t_fresh h_t_colour h_t_table h_t_last h_t_one t_wide t_high t_size zt_at zt_fault zt_newWide zt_newHigh t_colours t_now t_file zt_fresh t_colour t_table t_last zt_one)) {rc119 : Int32 → Int32 → Int32 → Int32 → Int32 → (Nat → Int32) → (Nat → Int32) → (Nat → Int32) → Int32 → Int32 → Int32 → Int32 → Option (Int32 × Int32 × Int32 × Int32 × (Nat → Int32) × (Nat → Int32))} (hr_119 : ∀ {t_at : Int32} {t_fault : Int32} {t_newWide : Int32} {t_newHigh : Int32} {t_fresh : Nat → Int32} {t_one : Nat → Int32} {l1 : Int32} {l2 : Int32} {l3 : Int32} {l4 : Int32} {l5 : Int32} {H : Heap} {locs : List Loc} {ls : Array Slot}, rc119 t_size t_at t_fault t_newWide t_newHigh t_file t_fresh t_one l2 l3 l4 l5 = some (zt_at, zt_fault, zt_newWide, zt_newHigh, zt_fresh, zt_one) → va_P D vwCl (zwX9 cI h_t h_t_now h_t_file h_t_fresh h_t_colour h_t_table h_t_last h_t_one t_wide t_high t_size t_at t_fault t_newWide t_newHigh t_colours t_now t_file t_fresh t_colour t_table t_last t_one) H → va_D A (zwX9 cI h_t h_t_now h_t_file h_t_fresh h_t_colour h_t_table h_t_last h_t_one t_wide t_high t_size t_at t_fault t_newWide t_newHigh t_colours t_now t_file t_fresh t_colour t_table t_last t_one) → va_S A s.heap H locs → lv_has ls 8 [(0, .ref h_t), (1, .int l1), (2, .int l2), (3, .int l3), (4, .int l4), (5, .int l5)] → W p l e rmX9_readSecond s m args below meth c H locs 0 0 Q (F0 m 119 ls [])) {rc143 : Int32 → Int32 → Int32 → Int32 → Int32 → (Nat → Int32) → (Nat → Int32) → (Nat → Int32) → Int32 → Int32 → Int32 → Int32 → Int32 → Option (Int32 × Int32 × Int32 × Int32 × (Nat → Int32) × (Nat → Int32))} (hr_143 : ∀ {t_at : Int32} {t_fault : Int32} {t_newWide : Int32} {t_newHigh : Int32} {t_fresh : Nat → Int32} {t_one : Nat → Int32} {l1 : Int32} {l2 : Int32} {l3 : Int32} {l4 : Int32} {l5 : Int32} {l6 : Int32} {H : Heap} {locs : List Loc} {ls : Array Slot}, rc143 t_size t_at t_fault t_newWide t_newHigh t_file t_fresh t_one l2 l3 l4 l5 l6 = some (zt_at, zt_fault, zt_newWide, zt_newHigh, zt_fresh, zt_one) → va_P D vwCl (zwX9 cI h_t h_t_now h_t_file h_t_fresh h_t_colour h_t_table h_t_last h_t_one t_wide t_high t_size t_at t_fault t_newWide t_newHigh t_colours t_now t_file t_fresh t_colour t_table t_last t_one) H → va_D A (zwX9 cI h_t h_t_now h_t_file h_t_fresh h_t_colour h_t_table h_t_last h_t_one t_wide t_high t_size t_at t_fault t_newWide t_newHigh t_colours t_now t_file t_fresh t_colour t_table t_last t_one) → va_S A s.heap H locs → lv_has ls 8 [(0, .ref h_t), (1, .int l1), (2, .int l2), (3, .int l3), (4, .int l4), (5, .int l5), (6, .int l6)] → W p l e rmX9_readSecond s m args below meth c H locs 0 0 Q (F0 m 143 ls [])) {t_at : Int32} {t_fault : Int32} {t_newWide : Int32} {t_newHigh : Int32} {t_fresh : Nat → Int32} {t_one : Nat → Int32} {l1 : Int32} {l2 : Int32} {l3 : Int32} {l4 : Int32} {l5 : Int32} {l6 : Int32} {l7 : Int32} {k1 : Int32} {H : Heap} {locs : List Loc} {ls : Array Slot} : fX9_readSecond_179 rc119 rc143 t_size t_at t_fault t_newWide t_newHigh t_file t_fresh t_one l2 l3 l4 l5 l6 l7 k1 = some (zt_at, zt_fault, zt_newWide, zt_newHigh, zt_fresh, zt_one) → va_P D vwCl (zwX9 cI h_t h_t_now h_t_file h_t_fresh h_t_colour h_t_table h_t_last h_t_one t_wide t_high t_size t_at t_fault t_newWide t_newHigh t_colours t_now t_file t_fresh t_colour t_table t_last t_one) H → va_D A (zwX9 cI h_t h_t_now h_t_file h_t_fresh h_t_colour h_t_table h_t_last h_t_one t_wide t_high t_size t_at t_fault t_newWide t_newHigh t_colours t_now t_file t_fresh t_colour t_table t_last t_one) → va_S A s.heap H locs → lv_has ls 8 [(0, .ref h_t), (1, .int l1), (2, .int l2), (3, .int l3), (4, .int l4), (5, .int l5), (6, .int l6), (7, .int l7)] → W p l e rmX9_readSecond s m args below meth c H locs 0 0 Q (F0 m 179 ls [.int k1, .ref h_t]) := by
  intro hf hP hD hS hl
  obtain ⟨hx, hb, hml, hown, hts⟩ := id C
  unfold fX9_readSecond_179 at hf
  obtain ⟨u1, hc2, hf⟩ := zb1_in hf
  refine zc_v (va_runV (As := [.int k1]) (rest := []) C (mX9_broken l D cI H.size h_t h_t_now h_t_file h_t_fresh h_t_colour h_t_table h_t_last h_t_one t_wide t_high t_size t_at t_fault t_newWide t_newHigh t_colours t_now t_file t_fresh t_colour t_table t_last t_one k1 u1 hc2) (qX9_readSecond_X9_broken_139 hts) ⟨zP_blind, va_recv hK hP (ci := 8) (q0 := 0) rfl rfl, zpre hK hN hP hD [0, 1, 2, 3, 4, 5, 6, 7] rfl rfl⟩ rfl rfl hl.1 rfl (lv_room (Nat.le_of_ble_eq_true rfl)) dX9_readSecond_179 ⟨Nat.zero_le _, Nat.zero_le _⟩) hP hD hS hA [0, 1, 2, 3, 4, 5, 6, 7] [] [0, 1, 2, 3, 4, 5, 6, 7] (ws' := zwX9 cI h_t h_t_now h_t_file h_t_fresh h_t_colour h_t_table h_t_last h_t_one t_wide t_high t_size t_at u1 t_newWide t_newHigh t_colours t_now t_file t_fresh t_colour t_table t_last t_one) rfl rfl rfl rfl rfl rfl (fun H locs hP hD hS => ?_)
  refine lv_aload_n hx hb dX9_readSecond_182 rfl (lv_at hl 0 rfl) ?_
  refine va_get (D := D) (ci := 8) (v := .ref h_t_one) (C := RX9) (T := TX9) (N := 15) hx hb hts iX9_readSecond_X9 hown hK hP 0 rfl rfl 14 (by decide) (kX9_readSecond_35 hts) (fun _ h9 => h9) rfl dX9_readSecond_183 ?_
  refine lv_iload hx hb dX9_readSecond_186 (lv_at hl 6 rfl) ?_
  refine lv_aload_n hx hb dX9_readSecond_188 rfl (lv_at hl 0 rfl) ?_
  refine va_get (D := D) (ci := 8) (v := .int u1) (C := RX9) (T := TX9) (N := 15) hx hb hts iX9_readSecond_X9 hown hK hP 0 rfl rfl 6 (by decide) (kX9_readSecond_129 hts) (fun _ h9 => h9) rfl dX9_readSecond_189 ?_
  refine lv_if_ne (tgt := 210) hx hb dX9_readSecond_192 (by decide) (fun c3 => ?_) (fun c3 => ?_)
  · replace hf := zif_f hf c3
    refine lv_iconst (v := 0) hx hb dX9_readSecond_210 (by decide) ?_
    exact wX9_readSecond_211 C hN hK hA hE hr_119 hr_143 hf hP hD hS (lv_sub hl [0, 1, 2, 3, 4, 5, 6, 7] rfl)
  · replace hf := zif_t hf c3
    refine lv_iload hx hb dX9_readSecond_195 (lv_at hl 7 rfl) ?_
    refine lv_sipush (v := 255) hx hb dX9_readSecond_197 (by decide) ?_
    refine lv_imul hx hb dX9_readSecond_200 ?_
    refine lv_iload_n hx hb dX9_readSecond_201 rfl (lv_at hl 2 rfl) ?_
    refine lv_iconst (v := 2) hx hb dX9_readSecond_202 (by decide) ?_
    refine lv_idiv hx hb dX9_readSecond_203 (by decide) ?_
    refine lv_iadd hx hb dX9_readSecond_204 ?_
    refine lv_iload_n hx hb dX9_readSecond_205 rfl (lv_at hl 2 rfl) ?_
    obtain ⟨hg4, hf⟩ := znz_in hf
    refine lv_idiv hx hb dX9_readSecond_206 hg4 ?_
    refine lv_goto (tgt := 211) hx hb dX9_readSecond_207 (by decide) ?_
    exact wX9_readSecond_211 C hN hK hA hE hr_119 hr_143 hf hP hD hS (lv_sub hl [0, 1, 2, 3, 4, 5, 6, 7] rfl)
set_option maxHeartbeats 4000000 in
set_option maxRecDepth 100000 in
theorem wX9_readSecond_165 {p : Program} {l : Launch} {e : Env} {s : State} {m : MethodId} {args : Array Value} {below : List Frame} {meth : Method} {c : Code} {D : va_G} {A : Nat → Prop} {Q : State → Prop} {cI : ClassId} {h_t h_t_now h_t_file h_t_fresh h_t_colour h_t_table h_t_last h_t_one : Nat} {t_wide : Int32} {t_high : Int32} {t_size : Int32} {t_colours : Int32} {t_now : Nat → Int32} {t_file : Nat → Int32} {t_colour : Nat → Int32} {t_table : Nat → Int32} {t_last : Nat → Int32} {zt_at : Int32} {zt_fault : Int32} {zt_newWide : Int32} {zt_newHigh : Int32} {zt_fresh : Nat → Int32} {zt_one : Nat → Int32} (C : CallFix p m c cX9_readSecond 8 s args wsX9_readSecond RX9) (hN : zN s) (hK : va_K D vwCl [(cI, .int)] s) (hA : ∀ q, s.heap.size ≤ q → A q) (hE : zEv p l e rmX9_readSecond s m args below meth c cX9_readSecond D A Q (zwX9 cI h_t h_t_now h_t_file h_t_fresh h_t_colour h_t_table h_t_last h_t_one t_wide t_high t_size zt_at zt_fault zt_newWide zt_newHigh t_colours t_now t_file zt_fresh t_colour t_table t_last zt_one)) {rc119 : Int32 → Int32 → Int32 → Int32 → Int32 → (Nat → Int32) → (Nat → Int32) → (Nat → Int32) → Int32 → Int32 → Int32 → Int32 → Option (Int32 × Int32 × Int32 × Int32 × (Nat → Int32) × (Nat → Int32))} (hr_119 : ∀ {t_at : Int32} {t_fault : Int32} {t_newWide : Int32} {t_newHigh : Int32} {t_fresh : Nat → Int32} {t_one : Nat → Int32} {l1 : Int32} {l2 : Int32} {l3 : Int32} {l4 : Int32} {l5 : Int32} {H : Heap} {locs : List Loc} {ls : Array Slot}, rc119 t_size t_at t_fault t_newWide t_newHigh t_file t_fresh t_one l2 l3 l4 l5 = some (zt_at, zt_fault, zt_newWide, zt_newHigh, zt_fresh, zt_one) → va_P D vwCl (zwX9 cI h_t h_t_now h_t_file h_t_fresh h_t_colour h_t_table h_t_last h_t_one t_wide t_high t_size t_at t_fault t_newWide t_newHigh t_colours t_now t_file t_fresh t_colour t_table t_last t_one) H → va_D A (zwX9 cI h_t h_t_now h_t_file h_t_fresh h_t_colour h_t_table h_t_last h_t_one t_wide t_high t_size t_at t_fault t_newWide t_newHigh t_colours t_now t_file t_fresh t_colour t_table t_last t_one) → va_S A s.heap H locs → lv_has ls 8 [(0, .ref h_t), (1, .int l1), (2, .int l2), (3, .int l3), (4, .int l4), (5, .int l5)] → W p l e rmX9_readSecond s m args below meth c H locs 0 0 Q (F0 m 119 ls [])) {rc143 : Int32 → Int32 → Int32 → Int32 → Int32 → (Nat → Int32) → (Nat → Int32) → (Nat → Int32) → Int32 → Int32 → Int32 → Int32 → Int32 → Option (Int32 × Int32 × Int32 × Int32 × (Nat → Int32) × (Nat → Int32))} (hr_143 : ∀ {t_at : Int32} {t_fault : Int32} {t_newWide : Int32} {t_newHigh : Int32} {t_fresh : Nat → Int32} {t_one : Nat → Int32} {l1 : Int32} {l2 : Int32} {l3 : Int32} {l4 : Int32} {l5 : Int32} {l6 : Int32} {H : Heap} {locs : List Loc} {ls : Array Slot}, rc143 t_size t_at t_fault t_newWide t_newHigh t_file t_fresh t_one l2 l3 l4 l5 l6 = some (zt_at, zt_fault, zt_newWide, zt_newHigh, zt_fresh, zt_one) → va_P D vwCl (zwX9 cI h_t h_t_now h_t_file h_t_fresh h_t_colour h_t_table h_t_last h_t_one t_wide t_high t_size t_at t_fault t_newWide t_newHigh t_colours t_now t_file t_fresh t_colour t_table t_last t_one) H → va_D A (zwX9 cI h_t h_t_now h_t_file h_t_fresh h_t_colour h_t_table h_t_last h_t_one t_wide t_high t_size t_at t_fault t_newWide t_newHigh t_colours t_now t_file t_fresh t_colour t_table t_last t_one) → va_S A s.heap H locs → lv_has ls 8 [(0, .ref h_t), (1, .int l1), (2, .int l2), (3, .int l3), (4, .int l4), (5, .int l5), (6, .int l6)] → W p l e rmX9_readSecond s m args below meth c H locs 0 0 Q (F0 m 143 ls [])) {t_at : Int32} {t_fault : Int32} {t_newWide : Int32} {t_newHigh : Int32} {t_fresh : Nat → Int32} {t_one : Nat → Int32} {l1 : Int32} {l2 : Int32} {l3 : Int32} {l4 : Int32} {l5 : Int32} {l6 : Int32} {k0 : Int32} {H : Heap} {locs : List Loc} {ls : Array Slot} : fX9_readSecond_165 rc119 rc143 t_size t_at t_fault t_newWide t_newHigh t_file t_fresh t_one l2 l3 l4 l5 l6 k0 = some (zt_at, zt_fault, zt_newWide, zt_newHigh, zt_fresh, zt_one) → va_P D vwCl (zwX9 cI h_t h_t_now h_t_file h_t_fresh h_t_colour h_t_table h_t_last h_t_one t_wide t_high t_size t_at t_fault t_newWide t_newHigh t_colours t_now t_file t_fresh t_colour t_table t_last t_one) H → va_D A (zwX9 cI h_t h_t_now h_t_file h_t_fresh h_t_colour h_t_table h_t_last h_t_one t_wide t_high t_size t_at t_fault t_newWide t_newHigh t_colours t_now t_file t_fresh t_colour t_table t_last t_one) → va_S A s.heap H locs → lv_has ls 8 [(0, .ref h_t), (1, .int l1), (2, .int l2), (3, .int l3), (4, .int l4), (5, .int l5), (6, .int l6)] → W p l e rmX9_readSecond s m args below meth c H locs 0 0 Q (F0 m 165 ls [.int k0]) := by
  intro hf hP hD hS hl
  obtain ⟨hx, hb, hml, hown, hts⟩ := id C
  unfold fX9_readSecond_165 at hf
  refine lv_istore (lv' := [(7, .int k0), (0, .ref h_t), (1, .int l1), (2, .int l2), (3, .int l3), (4, .int l4), (5, .int l5), (6, .int l6)]) hx hb dX9_readSecond_165 hl (by decide) rfl (fun ls hl => ?_)
  refine lv_aload_n hx hb dX9_readSecond_167 rfl (lv_at hl 1 rfl) ?_
  refine lv_iload hx hb dX9_readSecond_168 (lv_at hl 0 rfl) ?_
  refine lv_iload_n hx hb dX9_readSecond_170 rfl (lv_at hl 3 rfl) ?_
  refine lv_icmp_le (tgt := 178) hx hb dX9_readSecond_171 (by decide) (fun c1 => ?_) (fun c1 => ?_)
  · replace hf := zif_t hf c1
    refine lv_iconst (v := 0) hx hb dX9_readSecond_178 (by decide) ?_
    exact wX9_readSecond_179 C hN hK hA hE hr_119 hr_143 hf hP hD hS (lv_sub hl [1, 2, 3, 4, 5, 6, 7, 0] rfl)
  · replace hf := zif_f hf c1
    refine lv_iconst (v := 1) hx hb dX9_readSecond_174 (by decide) ?_
    refine lv_goto (tgt := 179) hx hb dX9_readSecond_175 (by decide) ?_
    exact wX9_readSecond_179 C hN hK hA hE hr_119 hr_143 hf hP hD hS (lv_sub hl [1, 2, 3, 4, 5, 6, 7, 0] rfl)
set_option maxHeartbeats 4000000 in
set_option maxRecDepth 100000 in
theorem wX9_readSecond_143 {p : Program} {l : Launch} {e : Env} {s : State} {m : MethodId} {args : Array Value} {below : List Frame} {meth : Method} {c : Code} {D : va_G} {A : Nat → Prop} {Q : State → Prop} {cI : ClassId} {h_t h_t_now h_t_file h_t_fresh h_t_colour h_t_table h_t_last h_t_one : Nat} {t_wide : Int32} {t_high : Int32} {t_size : Int32} {t_colours : Int32} {t_now : Nat → Int32} {t_file : Nat → Int32} {t_colour : Nat → Int32} {t_table : Nat → Int32} {t_last : Nat → Int32} {zt_at : Int32} {zt_fault : Int32} {zt_newWide : Int32} {zt_newHigh : Int32} {zt_fresh : Nat → Int32} {zt_one : Nat → Int32} (C : CallFix p m c cX9_readSecond 8 s args wsX9_readSecond RX9) (hN : zN s) (hK : va_K D vwCl [(cI, .int)] s) (hA : ∀ q, s.heap.size ≤ q → A q) (hE : zEv p l e rmX9_readSecond s m args below meth c cX9_readSecond D A Q (zwX9 cI h_t h_t_now h_t_file h_t_fresh h_t_colour h_t_table h_t_last h_t_one t_wide t_high t_size zt_at zt_fault zt_newWide zt_newHigh t_colours t_now t_file zt_fresh t_colour t_table t_last zt_one)) {rc119 : Int32 → Int32 → Int32 → Int32 → Int32 → (Nat → Int32) → (Nat → Int32) → (Nat → Int32) → Int32 → Int32 → Int32 → Int32 → Option (Int32 × Int32 × Int32 × Int32 × (Nat → Int32) × (Nat → Int32))} (hr_119 : ∀ {t_at : Int32} {t_fault : Int32} {t_newWide : Int32} {t_newHigh : Int32} {t_fresh : Nat → Int32} {t_one : Nat → Int32} {l1 : Int32} {l2 : Int32} {l3 : Int32} {l4 : Int32} {l5 : Int32} {H : Heap} {locs : List Loc} {ls : Array Slot}, rc119 t_size t_at t_fault t_newWide t_newHigh t_file t_fresh t_one l2 l3 l4 l5 = some (zt_at, zt_fault, zt_newWide, zt_newHigh, zt_fresh, zt_one) → va_P D vwCl (zwX9 cI h_t h_t_now h_t_file h_t_fresh h_t_colour h_t_table h_t_last h_t_one t_wide t_high t_size t_at t_fault t_newWide t_newHigh t_colours t_now t_file t_fresh t_colour t_table t_last t_one) H → va_D A (zwX9 cI h_t h_t_now h_t_file h_t_fresh h_t_colour h_t_table h_t_last h_t_one t_wide t_high t_size t_at t_fault t_newWide t_newHigh t_colours t_now t_file t_fresh t_colour t_table t_last t_one) → va_S A s.heap H locs → lv_has ls 8 [(0, .ref h_t), (1, .int l1), (2, .int l2), (3, .int l3), (4, .int l4), (5, .int l5)] → W p l e rmX9_readSecond s m args below meth c H locs 0 0 Q (F0 m 119 ls [])) (n : Nat) : ∀ {t_at : Int32} {t_fault : Int32} {t_newWide : Int32} {t_newHigh : Int32} {t_fresh : Nat → Int32} {t_one : Nat → Int32} {l1 : Int32} {l2 : Int32} {l3 : Int32} {l4 : Int32} {l5 : Int32} {l6 : Int32} {H : Heap} {locs : List Loc} {ls : Array Slot}, fX9_readSecond_143 rc119 n t_size t_at t_fault t_newWide t_newHigh t_file t_fresh t_one l2 l3 l4 l5 l6 = some (zt_at, zt_fault, zt_newWide, zt_newHigh, zt_fresh, zt_one) → va_P D vwCl (zwX9 cI h_t h_t_now h_t_file h_t_fresh h_t_colour h_t_table h_t_last h_t_one t_wide t_high t_size t_at t_fault t_newWide t_newHigh t_colours t_now t_file t_fresh t_colour t_table t_last t_one) H → va_D A (zwX9 cI h_t h_t_now h_t_file h_t_fresh h_t_colour h_t_table h_t_last h_t_one t_wide t_high t_size t_at t_fault t_newWide t_newHigh t_colours t_now t_file t_fresh t_colour t_table t_last t_one) → va_S A s.heap H locs → lv_has ls 8 [(0, .ref h_t), (1, .int l1), (2, .int l2), (3, .int l3), (4, .int l4), (5, .int l5), (6, .int l6)] → W p l e rmX9_readSecond s m args below meth c H locs 0 0 Q (F0 m 143 ls []) := by
  obtain ⟨hx, hb, hml, hown, hts⟩ := id C
  induction n with
  | zero =>
    intro t_at t_fault t_newWide t_newHigh t_fresh t_one l1 l2 l3 l4 l5 l6 H locs ls hf
    cases hf
  | succ n hr_143 =>
    intro t_at t_fault t_newWide t_newHigh t_fresh t_one l1 l2 l3 l4 l5 l6 H locs ls hf hP hD hS hl
    rw [fX9_readSecond_143_s] at hf
    refine lv_iload hx hb dX9_readSecond_143 (lv_at hl 6 rfl) ?_
    refine lv_iload hx hb dX9_readSecond_145 (lv_at hl 4 rfl) ?_
    refine lv_icmp_ge (tgt := 218) hx hb dX9_readSecond_147 (by decide) (fun c1 => ?_) (fun c1 => ?_)
    · replace hf := zif_t hf c1
      refine lv_aload_n hx hb dX9_readSecond_218 rfl (lv_at hl 0 rfl) ?_
      refine lv_aload_n hx hb dX9_readSecond_219 rfl (lv_at hl 0 rfl) ?_
      refine va_get (D := D) (ci := 8) (v := .ref h_t_one) (C := RX9) (T := TX9) (N := 15) hx hb hts iX9_readSecond_X9 hown hK hP 0 rfl rfl 14 (by decide) (kX9_readSecond_35 hts) (fun _ h9 => h9) rfl dX9_readSecond_220 ?_
      refine lv_iconst (v := 0) hx hb dX9_readSecond_223 (by decide) ?_
      obtain ⟨hg3, hf⟩ := zrd_in hf
      refine va_iald hx hb hK hP 7 0 rfl rfl hg3 dX9_readSecond_224 ?_
      refine lv_topi (fun x2 ex2 => ?_)
      replace hf := hf x2 ex2
      clear ex2
      refine lv_iload hx hb dX9_readSecond_225 (lv_at hl 4 rfl) ?_
      refine lv_iconst (v := 1) hx hb dX9_readSecond_227 (by decide) ?_
      refine lv_icmp_ne (tgt := 240) hx hb dX9_readSecond_228 (by decide) (fun c4 => ?_) (fun c4 => ?_)
      · replace hf := zif_f hf c4
        refine lv_aload_n hx hb dX9_readSecond_240 rfl (lv_at hl 0 rfl) ?_
        refine va_get (D := D) (ci := 8) (v := .ref h_t_one) (C := RX9) (T := TX9) (N := 15) hx hb hts iX9_readSecond_X9 hown hK hP 0 rfl rfl 14 (by decide) (kX9_readSecond_35 hts) (fun _ h9 => h9) rfl dX9_readSecond_241 ?_
        refine lv_iconst (v := 1) hx hb dX9_readSecond_244 (by decide) ?_
        obtain ⟨hg6, hf⟩ := zrd_in hf
        refine va_iald hx hb hK hP 7 0 rfl rfl hg6 dX9_readSecond_245 ?_
        refine lv_topi (fun x5 ex5 => ?_)
        replace hf := hf x5 ex5
        clear ex5
        exact wX9_readSecond_246 C hN hK hA hE hr_119 hf hP hD hS (lv_sub hl [0, 1, 2, 3, 4, 5, 6] rfl)
      · replace hf := zif_t hf c4
        refine lv_aload_n hx hb dX9_readSecond_231 rfl (lv_at hl 0 rfl) ?_
        refine va_get (D := D) (ci := 8) (v := .ref h_t_one) (C := RX9) (T := TX9) (N := 15) hx hb hts iX9_readSecond_X9 hown hK hP 0 rfl rfl 14 (by decide) (kX9_readSecond_35 hts) (fun _ h9 => h9) rfl dX9_readSecond_232 ?_
        refine lv_iconst (v := 0) hx hb dX9_readSecond_235 (by decide) ?_
        obtain ⟨hg8, hf⟩ := zrd_in hf
        refine va_iald hx hb hK hP 7 0 rfl rfl hg8 dX9_readSecond_236 ?_
        refine lv_topi (fun x7 ex7 => ?_)
        replace hf := hf x7 ex7
        clear ex7
        refine lv_goto (tgt := 246) hx hb dX9_readSecond_237 (by decide) ?_
        exact wX9_readSecond_246 C hN hK hA hE hr_119 hf hP hD hS (lv_sub hl [0, 1, 2, 3, 4, 5, 6] rfl)
    · replace hf := zif_f hf c1
      refine lv_iload_n hx hb dX9_readSecond_150 rfl (lv_at hl 3 rfl) ?_
      refine lv_if_eq (tgt := 161) hx hb dX9_readSecond_151 (by decide) (fun c9 => ?_) (fun c9 => ?_)
      · replace hf := zif_t hf c9
        refine lv_aload_n hx hb dX9_readSecond_161 rfl (lv_at hl 0 rfl) ?_
        obtain ⟨r10, u11, u12, hc13, hf⟩ := zb3_in hf
        refine zc_i (va_runV (As := []) (rest := []) C (mX9_next l D cI H.size h_t h_t_now h_t_file h_t_fresh h_t_colour h_t_table h_t_last h_t_one t_wide t_high t_size t_at t_fault t_newWide t_newHigh t_colours t_now t_file t_fresh t_colour t_table t_last t_one r10 u11 u12 hc13) (qX9_readSecond_X9_next_135 hts) ⟨zP_blind, va_recv hK hP (ci := 8) (q0 := 0) rfl rfl, zpre hK hN hP hD [0, 1, 2, 3, 4, 5, 6, 7] rfl rfl⟩ rfl rfl hl.1 rfl (lv_room (Nat.le_of_ble_eq_true rfl)) dX9_readSecond_162 ⟨Nat.zero_le _, Nat.zero_le _⟩) hP hD hS hA [0, 1, 2, 3, 4, 5, 6, 7] [] [0, 1, 2, 3, 4, 5, 6, 7] (ws' := zwX9 cI h_t h_t_now h_t_file h_t_fresh h_t_colour h_t_table h_t_last h_t_one t_wide t_high t_size u11 u12 t_newWide t_newHigh t_colours t_now t_file t_fresh t_colour t_table t_last t_one) rfl rfl rfl rfl rfl rfl (fun H locs hP hD hS => ?_)
        exact wX9_readSecond_165 C hN hK hA hE hr_119 hr_143 hf hP hD hS (lv_sub hl [0, 1, 2, 3, 4, 5, 6] rfl)
      · replace hf := zif_f hf c9
        refine lv_aload_n hx hb dX9_readSecond_154 rfl (lv_at hl 0 rfl) ?_
        obtain ⟨r14, u15, u16, hc17, hf⟩ := zb3_in hf
        refine zc_i (va_runV (As := []) (rest := []) C (mX9_decimal l D cI H.size h_t h_t_now h_t_file h_t_fresh h_t_colour h_t_table h_t_last h_t_one t_wide t_high t_size t_at t_fault t_newWide t_newHigh t_colours t_now t_file t_fresh t_colour t_table t_last t_one r14 u15 u16 hc17) (qX9_readSecond_X9_decimal_183 hts) ⟨zP_blind, va_recv hK hP (ci := 8) (q0 := 0) rfl rfl, zpre hK hN hP hD [0, 1, 2, 3, 4, 5, 6, 7] rfl rfl⟩ rfl rfl hl.1 rfl (lv_room (Nat.le_of_ble_eq_true rfl)) dX9_readSecond_155 ⟨Nat.zero_le _, Nat.zero_le _⟩) hP hD hS hA [0, 1, 2, 3, 4, 5, 6, 7] [] [0, 1, 2, 3, 4, 5, 6, 7] (ws' := zwX9 cI h_t h_t_now h_t_file h_t_fresh h_t_colour h_t_table h_t_last h_t_one t_wide t_high t_size u15 u16 t_newWide t_newHigh t_colours t_now t_file t_fresh t_colour t_table t_last t_one) rfl rfl rfl rfl rfl rfl (fun H locs hP hD hS => ?_)
        refine lv_goto (tgt := 165) hx hb dX9_readSecond_158 (by decide) ?_
        exact wX9_readSecond_165 C hN hK hA hE hr_119 hr_143 hf hP hD hS (lv_sub hl [0, 1, 2, 3, 4, 5, 6] rfl)
set_option maxHeartbeats 4000000 in
set_option maxRecDepth 100000 in
theorem wX9_readSecond_119 {p : Program} {l : Launch} {e : Env} {s : State} {m : MethodId} {args : Array Value} {below : List Frame} {meth : Method} {c : Code} {D : va_G} {A : Nat → Prop} {Q : State → Prop} {cI : ClassId} {h_t h_t_now h_t_file h_t_fresh h_t_colour h_t_table h_t_last h_t_one : Nat} {t_wide : Int32} {t_high : Int32} {t_size : Int32} {t_colours : Int32} {t_now : Nat → Int32} {t_file : Nat → Int32} {t_colour : Nat → Int32} {t_table : Nat → Int32} {t_last : Nat → Int32} {zt_at : Int32} {zt_fault : Int32} {zt_newWide : Int32} {zt_newHigh : Int32} {zt_fresh : Nat → Int32} {zt_one : Nat → Int32} (C : CallFix p m c cX9_readSecond 8 s args wsX9_readSecond RX9) (hN : zN s) (hK : va_K D vwCl [(cI, .int)] s) (hA : ∀ q, s.heap.size ≤ q → A q) (hE : zEv p l e rmX9_readSecond s m args below meth c cX9_readSecond D A Q (zwX9 cI h_t h_t_now h_t_file h_t_fresh h_t_colour h_t_table h_t_last h_t_one t_wide t_high t_size zt_at zt_fault zt_newWide zt_newHigh t_colours t_now t_file zt_fresh t_colour t_table t_last zt_one)) (n : Nat) : ∀ {t_at : Int32} {t_fault : Int32} {t_newWide : Int32} {t_newHigh : Int32} {t_fresh : Nat → Int32} {t_one : Nat → Int32} {l1 : Int32} {l2 : Int32} {l3 : Int32} {l4 : Int32} {l5 : Int32} {H : Heap} {locs : List Loc} {ls : Array Slot}, fX9_readSecond_119 n t_size t_at t_fault t_newWide t_newHigh t_file t_fresh t_one l2 l3 l4 l5 = some (zt_at, zt_fault, zt_newWide, zt_newHigh, zt_fresh, zt_one) → va_P D vwCl (zwX9 cI h_t h_t_now h_t_file h_t_fresh h_t_colour h_t_table h_t_last h_t_one t_wide t_high t_size t_at t_fault t_newWide t_newHigh t_colours t_now t_file t_fresh t_colour t_table t_last t_one) H → va_D A (zwX9 cI h_t h_t_now h_t_file h_t_fresh h_t_colour h_t_table h_t_last h_t_one t_wide t_high t_size t_at t_fault t_newWide t_newHigh t_colours t_now t_file t_fresh t_colour t_table t_last t_one) → va_S A s.heap H locs → lv_has ls 8 [(0, .ref h_t), (1, .int l1), (2, .int l2), (3, .int l3), (4, .int l4), (5, .int l5)] → W p l e rmX9_readSecond s m args below meth c H locs 0 0 Q (F0 m 119 ls []) := by
  obtain ⟨hx, hb, hml, hown, hts⟩ := id C
  induction n with
  | zero =>
    intro t_at t_fault t_newWide t_newHigh t_fresh t_one l1 l2 l3 l4 l5 H locs ls hf
    cases hf
  | succ n hr_119 =>
    intro t_at t_fault t_newWide t_newHigh t_fresh t_one l1 l2 l3 l4 l5 H locs ls hf hP hD hS hl
    rw [fX9_readSecond_119_s] at hf
    refine lv_aload_n hx hb dX9_readSecond_119 rfl (lv_at hl 0 rfl) ?_
    refine va_get (D := D) (ci := 8) (v := .int t_fault) (C := RX9) (T := TX9) (N := 15) hx hb hts iX9_readSecond_X9 hown hK hP 0 rfl rfl 6 (by decide) (kX9_readSecond_129 hts) (fun _ h9 => h9) rfl dX9_readSecond_120 ?_
    refine lv_if_ne (tgt := 285) hx hb dX9_readSecond_123 (by decide) (fun c1 => ?_) (fun c1 => ?_)
    · replace hf := zif_f hf c1
      exact wX9_readSecond_285 C hN hK hA hE hf hP hD hS (lv_sub hl [0, 1, 2, 3, 4, 5] rfl)
    · replace hf := zif_t hf c1
      refine lv_iload hx hb dX9_readSecond_126 (lv_at hl 5 rfl) ?_
      refine lv_aload_n hx hb dX9_readSecond_128 rfl (lv_at hl 0 rfl) ?_
      refine va_get (D := D) (ci := 8) (v := .int t_newWide) (C := RX9) (T := TX9) (N := 15) hx hb hts iX9_readSecond_X9 hown hK hP 0 rfl rfl 7 (by decide) (kX9_readSecond_142 hts) (fun _ h9 => h9) rfl dX9_readSecond_129 ?_
      refine lv_aload_n hx hb dX9_readSecond_132 rfl (lv_at hl 0 rfl) ?_
      refine va_get (D := D) (ci := 8) (v := .int t_newHigh) (C := RX9) (T := TX9) (N := 15) hx hb hts iX9_readSecond_X9 hown hK hP 0 rfl rfl 8 (by decide) (kX9_readSecond_162 hts) (fun _ h9 => h9) rfl dX9_readSecond_133 ?_
      refine lv_imul hx hb dX9_readSecond_136 ?_
      refine lv_icmp_ge (tgt := 285) hx hb dX9_readSecond_137 (by decide) (fun c2 => ?_) (fun c2 => ?_)
      · replace hf := zif_t hf c2
        exact wX9_readSecond_285 C hN hK hA hE hf hP hD hS (lv_sub hl [0, 1, 2, 3, 4, 5] rfl)
      · replace hf := zif_f hf c2
        refine lv_iconst (v := 0) hx hb dX9_readSecond_140 (by decide) ?_
        refine lv_istore (lv' := [(6, .int 0), (0, .ref h_t), (1, .int l1), (2, .int l2), (3, .int l3), (4, .int l4), (5, .int l5)]) hx hb dX9_readSecond_141 hl (by decide) rfl (fun ls hl => ?_)
        exact wX9_readSecond_143 C hN hK hA hE hr_119 1000 hf hP hD hS (lv_sub hl [1, 2, 3, 4, 5, 6, 0] rfl)
set_option maxHeartbeats 4000000 in
set_option maxRecDepth 100000 in
theorem wX9_readSecond_114 {p : Program} {l : Launch} {e : Env} {s : State} {m : MethodId} {args : Array Value} {below : List Frame} {meth : Method} {c : Code} {D : va_G} {A : Nat → Prop} {Q : State → Prop} {cI : ClassId} {h_t h_t_now h_t_file h_t_fresh h_t_colour h_t_table h_t_last h_t_one : Nat} {t_wide : Int32} {t_high : Int32} {t_size : Int32} {t_colours : Int32} {t_now : Nat → Int32} {t_file : Nat → Int32} {t_colour : Nat → Int32} {t_table : Nat → Int32} {t_last : Nat → Int32} {zt_at : Int32} {zt_fault : Int32} {zt_newWide : Int32} {zt_newHigh : Int32} {zt_fresh : Nat → Int32} {zt_one : Nat → Int32} (C : CallFix p m c cX9_readSecond 8 s args wsX9_readSecond RX9) (hN : zN s) (hK : va_K D vwCl [(cI, .int)] s) (hA : ∀ q, s.heap.size ≤ q → A q) (hE : zEv p l e rmX9_readSecond s m args below meth c cX9_readSecond D A Q (zwX9 cI h_t h_t_now h_t_file h_t_fresh h_t_colour h_t_table h_t_last h_t_one t_wide t_high t_size zt_at zt_fault zt_newWide zt_newHigh t_colours t_now t_file zt_fresh t_colour t_table t_last zt_one)) {t_at : Int32} {t_fault : Int32} {t_newWide : Int32} {t_newHigh : Int32} {t_fresh : Nat → Int32} {t_one : Nat → Int32} {l1 : Int32} {l2 : Int32} {l3 : Int32} {k0 : Int32} {H : Heap} {locs : List Loc} {ls : Array Slot} : fX9_readSecond_114 t_size t_at t_fault t_newWide t_newHigh t_file t_fresh t_one l2 l3 k0 = some (zt_at, zt_fault, zt_newWide, zt_newHigh, zt_fresh, zt_one) → va_P D vwCl (zwX9 cI h_t h_t_now h_t_file h_t_fresh h_t_colour h_t_table h_t_last h_t_one t_wide t_high t_size t_at t_fault t_newWide t_newHigh t_colours t_now t_file t_fresh t_colour t_table t_last t_one) H → va_D A (zwX9 cI h_t h_t_now h_t_file h_t_fresh h_t_colour h_t_table h_t_last h_t_one t_wide t_high t_size t_at t_fault t_newWide t_newHigh t_colours t_now t_file t_fresh t_colour t_table t_last t_one) → va_S A s.heap H locs → lv_has ls 8 [(0, .ref h_t), (1, .int l1), (2, .int l2), (3, .int l3)] → W p l e rmX9_readSecond s m args below meth c H locs 0 0 Q (F0 m 114 ls [.int k0]) := by
  intro hf hP hD hS hl
  obtain ⟨hx, hb, hml, hown, hts⟩ := id C
  unfold fX9_readSecond_114 at hf
  refine lv_istore (lv' := [(4, .int k0), (0, .ref h_t), (1, .int l1), (2, .int l2), (3, .int l3)]) hx hb dX9_readSecond_114 hl (by decide) rfl (fun ls hl => ?_)
  refine lv_iconst (v := 0) hx hb dX9_readSecond_116 (by decide) ?_
  refine lv_istore (lv' := [(5, .int 0), (4, .int k0), (0, .ref h_t), (1, .int l1), (2, .int l2), (3, .int l3)]) hx hb dX9_readSecond_117 hl (by decide) rfl (fun ls hl => ?_)
  exact wX9_readSecond_119 C hN hK hA hE 1000 hf hP hD hS (lv_sub hl [2, 3, 4, 5, 1, 0] rfl)
set_option maxHeartbeats 4000000 in
set_option maxRecDepth 100000 in
theorem wX9_readSecond_109 {p : Program} {l : Launch} {e : Env} {s : State} {m : MethodId} {args : Array Value} {below : List Frame} {meth : Method} {c : Code} {D : va_G} {A : Nat → Prop} {Q : State → Prop} {cI : ClassId} {h_t h_t_now h_t_file h_t_fresh h_t_colour h_t_table h_t_last h_t_one : Nat} {t_wide : Int32} {t_high : Int32} {t_size : Int32} {t_colours : Int32} {t_now : Nat → Int32} {t_file : Nat → Int32} {t_colour : Nat → Int32} {t_table : Nat → Int32} {t_last : Nat → Int32} {zt_at : Int32} {zt_fault : Int32} {zt_newWide : Int32} {zt_newHigh : Int32} {zt_fresh : Nat → Int32} {zt_one : Nat → Int32} (C : CallFix p m c cX9_readSecond 8 s args wsX9_readSecond RX9) (hN : zN s) (hK : va_K D vwCl [(cI, .int)] s) (hA : ∀ q, s.heap.size ≤ q → A q) (hE : zEv p l e rmX9_readSecond s m args below meth c cX9_readSecond D A Q (zwX9 cI h_t h_t_now h_t_file h_t_fresh h_t_colour h_t_table h_t_last h_t_one t_wide t_high t_size zt_at zt_fault zt_newWide zt_newHigh t_colours t_now t_file zt_fresh t_colour t_table t_last zt_one)) {t_at : Int32} {t_fault : Int32} {t_newWide : Int32} {t_newHigh : Int32} {t_fresh : Nat → Int32} {t_one : Nat → Int32} {l1 : Int32} {l2 : Int32} {l3 : Int32} {H : Heap} {locs : List Loc} {ls : Array Slot} : fX9_readSecond_109 t_size t_at t_fault t_newWide t_newHigh t_file t_fresh t_one l2 l3 = some (zt_at, zt_fault, zt_newWide, zt_newHigh, zt_fresh, zt_one) → va_P D vwCl (zwX9 cI h_t h_t_now h_t_file h_t_fresh h_t_colour h_t_table h_t_last h_t_one t_wide t_high t_size t_at t_fault t_newWide t_newHigh t_colours t_now t_file t_fresh t_colour t_table t_last t_one) H → va_D A (zwX9 cI h_t h_t_now h_t_file h_t_fresh h_t_colour h_t_table h_t_last h_t_one t_wide t_high t_size t_at t_fault t_newWide t_newHigh t_colours t_now t_file t_fresh t_colour t_table t_last t_one) → va_S A s.heap H locs → lv_has ls 8 [(0, .ref h_t), (1, .int l1), (2, .int l2), (3, .int l3)] → W p l e rmX9_readSecond s m args below meth c H locs 0 0 Q (F0 m 109 ls []) := by
  intro hf hP hD hS hl
  obtain ⟨hx, hb, hml, hown, hts⟩ := id C
  unfold fX9_readSecond_109 at hf
  refine lv_iconst (v := 3) hx hb dX9_readSecond_109 (by decide) ?_
  refine lv_goto (tgt := 114) hx hb dX9_readSecond_110 (by decide) ?_
  exact wX9_readSecond_114 C hN hK hA hE hf hP hD hS (lv_sub hl [0, 1, 2, 3] rfl)
set_option maxHeartbeats 4000000 in
set_option maxRecDepth 100000 in
theorem wX9_readSecond_97 {p : Program} {l : Launch} {e : Env} {s : State} {m : MethodId} {args : Array Value} {below : List Frame} {meth : Method} {c : Code} {D : va_G} {A : Nat → Prop} {Q : State → Prop} {cI : ClassId} {h_t h_t_now h_t_file h_t_fresh h_t_colour h_t_table h_t_last h_t_one : Nat} {t_wide : Int32} {t_high : Int32} {t_size : Int32} {t_colours : Int32} {t_now : Nat → Int32} {t_file : Nat → Int32} {t_colour : Nat → Int32} {t_table : Nat → Int32} {t_last : Nat → Int32} {zt_at : Int32} {zt_fault : Int32} {zt_newWide : Int32} {zt_newHigh : Int32} {zt_fresh : Nat → Int32} {zt_one : Nat → Int32} (C : CallFix p m c cX9_readSecond 8 s args wsX9_readSecond RX9) (hN : zN s) (hK : va_K D vwCl [(cI, .int)] s) (hA : ∀ q, s.heap.size ≤ q → A q) (hE : zEv p l e rmX9_readSecond s m args below meth c cX9_readSecond D A Q (zwX9 cI h_t h_t_now h_t_file h_t_fresh h_t_colour h_t_table h_t_last h_t_one t_wide t_high t_size zt_at zt_fault zt_newWide zt_newHigh t_colours t_now t_file zt_fresh t_colour t_table t_last zt_one)) {t_at : Int32} {t_fault : Int32} {t_newWide : Int32} {t_newHigh : Int32} {t_fresh : Nat → Int32} {t_one : Nat → Int32} {l1 : Int32} {l2 : Int32} {l3 : Int32} {H : Heap} {locs : List Loc} {ls : Array Slot} : fX9_readSecond_97 t_size t_at t_fault t_newWide t_newHigh t_file t_fresh t_one l1 l2 l3 = some (zt_at, zt_fault, zt_newWide, zt_newHigh, zt_fresh, zt_one) → va_P D vwCl (zwX9 cI h_t h_t_now h_t_file h_t_fresh h_t_colour h_t_table h_t_last h_t_one t_wide t_high t_size t_at t_fault t_newWide t_newHigh t_colours t_now t_file t_fresh t_colour t_table t_last t_one) H → va_D A (zwX9 cI h_t h_t_now h_t_file h_t_fresh h_t_colour h_t_table h_t_last h_t_one t_wide t_high t_size t_at t_fault t_newWide t_newHigh t_colours t_now t_file t_fresh t_colour t_table t_last t_one) → va_S A s.heap H locs → lv_has ls 8 [(0, .ref h_t), (1, .int l1), (2, .int l2), (3, .int l3)] → W p l e rmX9_readSecond s m args below meth c H locs 0 0 Q (F0 m 97 ls []) := by
  intro hf hP hD hS hl
  obtain ⟨hx, hb, hml, hown, hts⟩ := id C
  unfold fX9_readSecond_97 at hf
  refine lv_iload_n hx hb dX9_readSecond_97 rfl (lv_at hl 1 rfl) ?_
  refine lv_bipush (v := 51) hx hb dX9_readSecond_98 (by decide) ?_
  refine lv_icmp_eq (tgt := 109) hx hb dX9_readSecond_100 (by decide) (fun c1 => ?_) (fun c1 => ?_)
  · replace hf := zif_t hf c1
    exact wX9_readSecond_109 C hN hK hA hE hf hP hD hS (lv_sub hl [0, 1, 2, 3] rfl)
  · replace hf := zif_f hf c1
    refine lv_iload_n hx hb dX9_readSecond_103 rfl (lv_at hl 1 rfl) ?_
    refine lv_bipush (v := 54) hx hb dX9_readSecond_104 (by decide) ?_
    refine lv_icmp_ne (tgt := 113) hx hb dX9_readSecond_106 (by decide) (fun c2 => ?_) (fun c2 => ?_)
    · replace hf := zif_f hf c2
      refine lv_iconst (v := 1) hx hb dX9_readSecond_113 (by decide) ?_
      exact wX9_readSecond_114 C hN hK hA hE hf hP hD hS (lv_sub hl [0, 1, 2, 3] rfl)
    · replace hf := zif_t hf c2
      exact wX9_readSecond_109 C hN hK hA hE hf hP hD hS (lv_sub hl [0, 1, 2, 3] rfl)
set_option maxHeartbeats 4000000 in
set_option maxRecDepth 100000 in
theorem wX9_readSecond_94 {p : Program} {l : Launch} {e : Env} {s : State} {m : MethodId} {args : Array Value} {below : List Frame} {meth : Method} {c : Code} {D : va_G} {A : Nat → Prop} {Q : State → Prop} {cI : ClassId} {h_t h_t_now h_t_file h_t_fresh h_t_colour h_t_table h_t_last h_t_one : Nat} {t_wide : Int32} {t_high : Int32} {t_size : Int32} {t_colours : Int32} {t_now : Nat → Int32} {t_file : Nat → Int32} {t_colour : Nat → Int32} {t_table : Nat → Int32} {t_last : Nat → Int32} {zt_at : Int32} {zt_fault : Int32} {zt_newWide : Int32} {zt_newHigh : Int32} {zt_fresh : Nat → Int32} {zt_one : Nat → Int32} (C : CallFix p m c cX9_readSecond 8 s args wsX9_readSecond RX9) (hN : zN s) (hK : va_K D vwCl [(cI, .int)] s) (hA : ∀ q, s.heap.size ≤ q → A q) (hE : zEv p l e rmX9_readSecond s m args below meth c cX9_readSecond D A Q (zwX9 cI h_t h_t_now h_t_file h_t_fresh h_t_colour h_t_table h_t_last h_t_one t_wide t_high t_size zt_at zt_fault zt_newWide zt_newHigh t_colours t_now t_file zt_fresh t_colour t_table t_last zt_one)) {t_at : Int32} {t_fault : Int32} {t_newWide : Int32} {t_newHigh : Int32} {t_fresh : Nat → Int32} {t_one : Nat → Int32} {l1 : Int32} {l2 : Int32} {l3 : Int32} {k1 : Int32} {H : Heap} {locs : List Loc} {ls : Array Slot} : fX9_readSecond_94 t_size t_at t_fault t_newWide t_newHigh t_file t_fresh t_one l1 l2 l3 k1 = some (zt_at, zt_fault, zt_newWide, zt_newHigh, zt_fresh, zt_one) → va_P D vwCl (zwX9 cI h_t h_t_now h_t_file h_t_fresh h_t_colour h_t_table h_t_last h_t_one t_wide t_high t_size t_at t_fault t_newWide t_newHigh t_colours t_now t_file t_fresh t_colour t_table t_last t_one) H → va_D A (zwX9 cI h_t h_t_now h_t_file h_t_fresh h_t_colour h_t_table h_t_last h_t_one t_wide t_high t_size t_at t_fault t_newWide t_newHigh t_colours t_now t_file t_fresh t_colour t_table t_last t_one) → va_S A s.heap H locs → lv_has ls 8 [(0, .ref h_t), (1, .int l1), (2, .int l2), (3, .int l3)] → W p l e rmX9_readSecond s m args below meth c H locs 0 0 Q (F0 m 94 ls [.int k1, .ref h_t]) := by
  intro hf hP hD hS hl
  obtain ⟨hx, hb, hml, hown, hts⟩ := id C
  unfold fX9_readSecond_94 at hf
  obtain ⟨u1, hc2, hf⟩ := zb1_in hf
  refine zc_v (va_runV (As := [.int k1]) (rest := []) C (mX9_broken l D cI H.size h_t h_t_now h_t_file h_t_fresh h_t_colour h_t_table h_t_last h_t_one t_wide t_high t_size t_at t_fault t_newWide t_newHigh t_colours t_now t_file t_fresh t_colour t_table t_last t_one k1 u1 hc2) (qX9_readSecond_X9_broken_139 hts) ⟨zP_blind, va_recv hK hP (ci := 8) (q0 := 0) rfl rfl, zpre hK hN hP hD [0, 1, 2, 3, 4, 5, 6, 7] rfl rfl⟩ rfl rfl hl.1 rfl (lv_room (Nat.le_of_ble_eq_true rfl)) dX9_readSecond_94 ⟨Nat.zero_le _, Nat.zero_le _⟩) hP hD hS hA [0, 1, 2, 3, 4, 5, 6, 7] [] [0, 1, 2, 3, 4, 5, 6, 7] (ws' := zwX9 cI h_t h_t_now h_t_file h_t_fresh h_t_colour h_t_table h_t_last h_t_one t_wide t_high t_size t_at u1 t_newWide t_newHigh t_colours t_now t_file t_fresh t_colour t_table t_last t_one) rfl rfl rfl rfl rfl rfl (fun H locs hP hD hS => ?_)
  exact wX9_readSecond_97 C hN hK hA hE hf hP hD hS (lv_sub hl [0, 1, 2, 3] rfl)
set_option maxHeartbeats 4000000 in
set_option maxRecDepth 100000 in
theorem wX9_readSecond_73 {p : Program} {l : Launch} {e : Env} {s : State} {m : MethodId} {args : Array Value} {below : List Frame} {meth : Method} {c : Code} {D : va_G} {A : Nat → Prop} {Q : State → Prop} {cI : ClassId} {h_t h_t_now h_t_file h_t_fresh h_t_colour h_t_table h_t_last h_t_one : Nat} {t_wide : Int32} {t_high : Int32} {t_size : Int32} {t_colours : Int32} {t_now : Nat → Int32} {t_file : Nat → Int32} {t_colour : Nat → Int32} {t_table : Nat → Int32} {t_last : Nat → Int32} {zt_at : Int32} {zt_fault : Int32} {zt_newWide : Int32} {zt_newHigh : Int32} {zt_fresh : Nat → Int32} {zt_one : Nat → Int32} (C : CallFix p m c cX9_readSecond 8 s args wsX9_readSecond RX9) (hN : zN s) (hK : va_K D vwCl [(cI, .int)] s) (hA : ∀ q, s.heap.size ≤ q → A q) (hE : zEv p l e rmX9_readSecond s m args below meth c cX9_readSecond D A Q (zwX9 cI h_t h_t_now h_t_file h_t_fresh h_t_colour h_t_table h_t_last h_t_one t_wide t_high t_size zt_at zt_fault zt_newWide zt_newHigh t_colours t_now t_file zt_fresh t_colour t_table t_last zt_one)) {t_at : Int32} {t_fault : Int32} {t_newWide : Int32} {t_newHigh : Int32} {t_fresh : Nat → Int32} {t_one : Nat → Int32} {l1 : Int32} {l2 : Int32} {k0 : Int32} {H : Heap} {locs : List Loc} {ls : Array Slot} : fX9_readSecond_73 t_size t_at t_fault t_newWide t_newHigh t_file t_fresh t_one l1 l2 k0 = some (zt_at, zt_fault, zt_newWide, zt_newHigh, zt_fresh, zt_one) → va_P D vwCl (zwX9 cI h_t h_t_now h_t_file h_t_fresh h_t_colour h_t_table h_t_last h_t_one t_wide t_high t_size t_at t_fault t_newWide t_newHigh t_colours t_now t_file t_fresh t_colour t_table t_last t_one) H → va_D A (zwX9 cI h_t h_t_now h_t_file h_t_fresh h_t_colour h_t_table h_t_last h_t_one t_wide t_high t_size t_at t_fault t_newWide t_newHigh t_colours t_now t_file t_fresh t_colour t_table t_last t_one) → va_S A s.heap H locs → lv_has ls 8 [(0, .ref h_t), (1, .int l1), (2, .int l2)] → W p l e rmX9_readSecond s m args below meth c H locs 0 0 Q (F0 m 73 ls [.int k0]) := by
  intro hf hP hD hS hl
  obtain ⟨hx, hb, hml, hown, hts⟩ := id C
  unfold fX9_readSecond_73 at hf
  refine lv_istore_n (lv' := [(3, .int k0), (0, .ref h_t), (1, .int l1), (2, .int l2)]) hx hb dX9_readSecond_73 rfl hl (by decide) rfl (fun ls hl => ?_)
  refine lv_iload_n hx hb dX9_readSecond_74 rfl (lv_at hl 0 rfl) ?_
  refine lv_if_ne (tgt := 97) hx hb dX9_readSecond_75 (by decide) (fun c1 => ?_) (fun c1 => ?_)
  · replace hf := zif_f hf c1
    exact wX9_readSecond_97 C hN hK hA hE hf hP hD hS (lv_sub hl [1, 2, 3, 0] rfl)
  · replace hf := zif_t hf c1
    refine lv_aload_n hx hb dX9_readSecond_78 rfl (lv_at hl 1 rfl) ?_
    refine lv_aload_n hx hb dX9_readSecond_79 rfl (lv_at hl 1 rfl) ?_
    obtain ⟨r2, u3, u4, hc5, hf⟩ := zb3_in hf
    refine zc_i (va_runV (As := []) (rest := [.ref h_t]) C (mX9_next l D cI H.size h_t h_t_now h_t_file h_t_fresh h_t_colour h_t_table h_t_last h_t_one t_wide t_high t_size t_at t_fault t_newWide t_newHigh t_colours t_now t_file t_fresh t_colour t_table t_last t_one r2 u3 u4 hc5) (qX9_readSecond_X9_next_135 hts) ⟨zP_blind, va_recv hK hP (ci := 8) (q0 := 0) rfl rfl, zpre hK hN hP hD [0, 1, 2, 3, 4, 5, 6, 7] rfl rfl⟩ rfl rfl hl.1 rfl (lv_room (Nat.le_of_ble_eq_true rfl)) dX9_readSecond_80 ⟨Nat.zero_le _, Nat.zero_le _⟩) hP hD hS hA [0, 1, 2, 3, 4, 5, 6, 7] [] [0, 1, 2, 3, 4, 5, 6, 7] (ws' := zwX9 cI h_t h_t_now h_t_file h_t_fresh h_t_colour h_t_table h_t_last h_t_one t_wide t_high t_size u3 u4 t_newWide t_newHigh t_colours t_now t_file t_fresh t_colour t_table t_last t_one) rfl rfl rfl rfl rfl rfl (fun H locs hP hD hS => ?_)
    obtain ⟨r6, hc7, hf⟩ := zb1_in hf
    refine zc_i (va_runS (As := [.int r2]) (rest := [.ref h_t]) C (mX9_space l D cI H.size r2 r6 hc7) (qX9_readSecond_X9_space_174 hts) ⟨zP_blind, zpre hK hN hP hD [] rfl rfl⟩ rfl rfl hl.1 rfl (lv_room (Nat.le_of_ble_eq_true rfl)) dX9_readSecond_83 ⟨Nat.zero_le _, Nat.zero_le _⟩) hP hD hS hA [] [0, 1, 2, 3, 4, 5, 6, 7] [0, 1, 2, 3, 4, 5, 6, 7] (ws' := zwX9 cI h_t h_t_now h_t_file h_t_fresh h_t_colour h_t_table h_t_last h_t_one t_wide t_high t_size u3 u4 t_newWide t_newHigh t_colours t_now t_file t_fresh t_colour t_table t_last t_one) rfl rfl rfl rfl rfl rfl (fun H locs hP hD hS => ?_)
    refine lv_if_ne (tgt := 93) hx hb dX9_readSecond_86 (by decide) (fun c8 => ?_) (fun c8 => ?_)
    · replace hf := zif_f hf c8
      refine lv_iconst (v := 0) hx hb dX9_readSecond_93 (by decide) ?_
      exact wX9_readSecond_94 C hN hK hA hE hf hP hD hS (lv_sub hl [1, 2, 3, 0] rfl)
    · replace hf := zif_t hf c8
      refine lv_iconst (v := 1) hx hb dX9_readSecond_89 (by decide) ?_
      refine lv_goto (tgt := 94) hx hb dX9_readSecond_90 (by decide) ?_
      exact wX9_readSecond_94 C hN hK hA hE hf hP hD hS (lv_sub hl [1, 2, 3, 0] rfl)
set_option maxHeartbeats 4000000 in
set_option maxRecDepth 100000 in
theorem wX9_readSecond_59 {p : Program} {l : Launch} {e : Env} {s : State} {m : MethodId} {args : Array Value} {below : List Frame} {meth : Method} {c : Code} {D : va_G} {A : Nat → Prop} {Q : State → Prop} {cI : ClassId} {h_t h_t_now h_t_file h_t_fresh h_t_colour h_t_table h_t_last h_t_one : Nat} {t_wide : Int32} {t_high : Int32} {t_size : Int32} {t_colours : Int32} {t_now : Nat → Int32} {t_file : Nat → Int32} {t_colour : Nat → Int32} {t_table : Nat → Int32} {t_last : Nat → Int32} {zt_at : Int32} {zt_fault : Int32} {zt_newWide : Int32} {zt_newHigh : Int32} {zt_fresh : Nat → Int32} {zt_one : Nat → Int32} (C : CallFix p m c cX9_readSecond 8 s args wsX9_readSecond RX9) (hN : zN s) (hK : va_K D vwCl [(cI, .int)] s) (hA : ∀ q, s.heap.size ≤ q → A q) (hE : zEv p l e rmX9_readSecond s m args below meth c cX9_readSecond D A Q (zwX9 cI h_t h_t_now h_t_file h_t_fresh h_t_colour h_t_table h_t_last h_t_one t_wide t_high t_size zt_at zt_fault zt_newWide zt_newHigh t_colours t_now t_file zt_fresh t_colour t_table t_last zt_one)) {t_at : Int32} {t_fault : Int32} {t_newWide : Int32} {t_newHigh : Int32} {t_fresh : Nat → Int32} {t_one : Nat → Int32} {l1 : Int32} {l2 : Int32} {k1 : Int32} {H : Heap} {locs : List Loc} {ls : Array Slot} : fX9_readSecond_59 t_size t_at t_fault t_newWide t_newHigh t_file t_fresh t_one l1 l2 k1 = some (zt_at, zt_fault, zt_newWide, zt_newHigh, zt_fresh, zt_one) → va_P D vwCl (zwX9 cI h_t h_t_now h_t_file h_t_fresh h_t_colour h_t_table h_t_last h_t_one t_wide t_high t_size t_at t_fault t_newWide t_newHigh t_colours t_now t_file t_fresh t_colour t_table t_last t_one) H → va_D A (zwX9 cI h_t h_t_now h_t_file h_t_fresh h_t_colour h_t_table h_t_last h_t_one t_wide t_high t_size t_at t_fault t_newWide t_newHigh t_colours t_now t_file t_fresh t_colour t_table t_last t_one) → va_S A s.heap H locs → lv_has ls 8 [(0, .ref h_t), (1, .int l1), (2, .int l2)] → W p l e rmX9_readSecond s m args below meth c H locs 0 0 Q (F0 m 59 ls [.int k1, .ref h_t]) := by
  intro hf hP hD hS hl
  obtain ⟨hx, hb, hml, hown, hts⟩ := id C
  unfold fX9_readSecond_59 at hf
  obtain ⟨u1, hc2, hf⟩ := zb1_in hf
  refine zc_v (va_runV (As := [.int k1]) (rest := []) C (mX9_broken l D cI H.size h_t h_t_now h_t_file h_t_fresh h_t_colour h_t_table h_t_last h_t_one t_wide t_high t_size t_at t_fault t_newWide t_newHigh t_colours t_now t_file t_fresh t_colour t_table t_last t_one k1 u1 hc2) (qX9_readSecond_X9_broken_139 hts) ⟨zP_blind, va_recv hK hP (ci := 8) (q0 := 0) rfl rfl, zpre hK hN hP hD [0, 1, 2, 3, 4, 5, 6, 7] rfl rfl⟩ rfl rfl hl.1 rfl (lv_room (Nat.le_of_ble_eq_true rfl)) dX9_readSecond_59 ⟨Nat.zero_le _, Nat.zero_le _⟩) hP hD hS hA [0, 1, 2, 3, 4, 5, 6, 7] [] [0, 1, 2, 3, 4, 5, 6, 7] (ws' := zwX9 cI h_t h_t_now h_t_file h_t_fresh h_t_colour h_t_table h_t_last h_t_one t_wide t_high t_size t_at u1 t_newWide t_newHigh t_colours t_now t_file t_fresh t_colour t_table t_last t_one) rfl rfl rfl rfl rfl rfl (fun H locs hP hD hS => ?_)
  refine lv_iload_n hx hb dX9_readSecond_62 rfl (lv_at hl 1 rfl) ?_
  refine lv_bipush (v := 53) hx hb dX9_readSecond_63 (by decide) ?_
  refine lv_icmp_ge (tgt := 72) hx hb dX9_readSecond_65 (by decide) (fun c3 => ?_) (fun c3 => ?_)
  · replace hf := zif_t hf c3
    refine lv_iconst (v := 0) hx hb dX9_readSecond_72 (by decide) ?_
    exact wX9_readSecond_73 C hN hK hA hE hf hP hD hS (lv_sub hl [0, 1, 2] rfl)
  · replace hf := zif_f hf c3
    refine lv_iconst (v := 1) hx hb dX9_readSecond_68 (by decide) ?_
    refine lv_goto (tgt := 73) hx hb dX9_readSecond_69 (by decide) ?_
    exact wX9_readSecond_73 C hN hK hA hE hf hP hD hS (lv_sub hl [0, 1, 2] rfl)
set_option maxHeartbeats 4000000 in
set_option maxRecDepth 100000 in
theorem wX9_readSecond_54 {p : Program} {l : Launch} {e : Env} {s : State} {m : MethodId} {args : Array Value} {below : List Frame} {meth : Method} {c : Code} {D : va_G} {A : Nat → Prop} {Q : State → Prop} {cI : ClassId} {h_t h_t_now h_t_file h_t_fresh h_t_colour h_t_table h_t_last h_t_one : Nat} {t_wide : Int32} {t_high : Int32} {t_size : Int32} {t_colours : Int32} {t_now : Nat → Int32} {t_file : Nat → Int32} {t_colour : Nat → Int32} {t_table : Nat → Int32} {t_last : Nat → Int32} {zt_at : Int32} {zt_fault : Int32} {zt_newWide : Int32} {zt_newHigh : Int32} {zt_fresh : Nat → Int32} {zt_one : Nat → Int32} (C : CallFix p m c cX9_readSecond 8 s args wsX9_readSecond RX9) (hN : zN s) (hK : va_K D vwCl [(cI, .int)] s) (hA : ∀ q, s.heap.size ≤ q → A q) (hE : zEv p l e rmX9_readSecond s m args below meth c cX9_readSecond D A Q (zwX9 cI h_t h_t_now h_t_file h_t_fresh h_t_colour h_t_table h_t_last h_t_one t_wide t_high t_size zt_at zt_fault zt_newWide zt_newHigh t_colours t_now t_file zt_fresh t_colour t_table t_last zt_one)) {t_at : Int32} {t_fault : Int32} {t_newWide : Int32} {t_newHigh : Int32} {t_fresh : Nat → Int32} {t_one : Nat → Int32} {l1 : Int32} {l2 : Int32} {H : Heap} {locs : List Loc} {ls : Array Slot} : fX9_readSecond_54 t_size t_at t_fault t_newWide t_newHigh t_file t_fresh t_one l1 l2 = some (zt_at, zt_fault, zt_newWide, zt_newHigh, zt_fresh, zt_one) → va_P D vwCl (zwX9 cI h_t h_t_now h_t_file h_t_fresh h_t_colour h_t_table h_t_last h_t_one t_wide t_high t_size t_at t_fault t_newWide t_newHigh t_colours t_now t_file t_fresh t_colour t_table t_last t_one) H → va_D A (zwX9 cI h_t h_t_now h_t_file h_t_fresh h_t_colour h_t_table h_t_last h_t_one t_wide t_high t_size t_at t_fault t_newWide t_newHigh t_colours t_now t_file t_fresh t_colour t_table t_last t_one) → va_S A s.heap H locs → lv_has ls 8 [(0, .ref h_t), (1, .int l1), (2, .int l2)] → W p l e rmX9_readSecond s m args below meth c H locs 0 0 Q (F0 m 54 ls [.ref h_t]) := by
  intro hf hP hD hS hl
  obtain ⟨hx, hb, hml, hown, hts⟩ := id C
  unfold fX9_readSecond_54 at hf
  refine lv_iconst (v := 1) hx hb dX9_readSecond_54 (by decide) ?_
  refine lv_goto (tgt := 59) hx hb dX9_readSecond_55 (by decide) ?_
  exact wX9_readSecond_59 C hN hK hA hE hf hP hD hS (lv_sub hl [0, 1, 2] rfl)
set_option maxHeartbeats 4000000 in
set_option maxRecDepth 100000 in
theorem wX9_readSecond_0 {p : Program} {l : Launch} {e : Env} {s : State} {m : MethodId} {args : Array Value} {below : List Frame} {meth : Method} {c : Code} {D : va_G} {A : Nat → Prop} {Q : State → Prop} {cI : ClassId} {h_t h_t_now h_t_file h_t_fresh h_t_colour h_t_table h_t_last h_t_one : Nat} {t_wide : Int32} {t_high : Int32} {t_size : Int32} {t_colours : Int32} {t_now : Nat → Int32} {t_file : Nat → Int32} {t_colour : Nat → Int32} {t_table : Nat → Int32} {t_last : Nat → Int32} {zt_at : Int32} {zt_fault : Int32} {zt_newWide : Int32} {zt_newHigh : Int32} {zt_fresh : Nat → Int32} {zt_one : Nat → Int32} (C : CallFix p m c cX9_readSecond 8 s args wsX9_readSecond RX9) (hN : zN s) (hK : va_K D vwCl [(cI, .int)] s) (hA : ∀ q, s.heap.size ≤ q → A q) (hE : zEv p l e rmX9_readSecond s m args below meth c cX9_readSecond D A Q (zwX9 cI h_t h_t_now h_t_file h_t_fresh h_t_colour h_t_table h_t_last h_t_one t_wide t_high t_size zt_at zt_fault zt_newWide zt_newHigh t_colours t_now t_file zt_fresh t_colour t_table t_last zt_one)) {t_at : Int32} {t_fault : Int32} {t_newWide : Int32} {t_newHigh : Int32} {t_fresh : Nat → Int32} {t_one : Nat → Int32} {H : Heap} {locs : List Loc} {ls : Array Slot} : fX9_readSecond t_size t_at t_fault t_file t_fresh t_one = some (zt_at, zt_fault, zt_newWide, zt_newHigh, zt_fresh, zt_one) → va_P D vwCl (zwX9 cI h_t h_t_now h_t_file h_t_fresh h_t_colour h_t_table h_t_last h_t_one t_wide t_high t_size t_at t_fault t_newWide t_newHigh t_colours t_now t_file t_fresh t_colour t_table t_last t_one) H → va_D A (zwX9 cI h_t h_t_now h_t_file h_t_fresh h_t_colour h_t_table h_t_last h_t_one t_wide t_high t_size t_at t_fault t_newWide t_newHigh t_colours t_now t_file t_fresh t_colour t_table t_last t_one) → va_S A s.heap H locs → lv_has ls 8 [(0, .ref h_t)] → W p l e rmX9_readSecond s m args below meth c H locs 0 0 Q (F0 m 0 ls []) := by
  intro hf hP hD hS hl
  obtain ⟨hx, hb, hml, hown, hts⟩ := id C
  unfold fX9_readSecond at hf
  refine lv_aload_n hx hb dX9_readSecond_0 rfl (lv_at hl 0 rfl) ?_
  refine va_get (D := D) (ci := 8) (v := .ref h_t_file) (C := RX9) (T := TX9) (N := 15) hx hb hts iX9_readSecond_X9 hown hK hP 0 rfl rfl 4 (by decide) (kX9_readSecond_20 hts) (fun _ h9 => h9) rfl dX9_readSecond_1 ?_
  refine lv_iconst (v := 1) hx hb dX9_readSecond_4 (by decide) ?_
  obtain ⟨hg2, hf⟩ := zrd_in hf
  refine va_iald hx hb hK hP 2 0 rfl rfl hg2 dX9_readSecond_5 ?_
  refine lv_topi (fun x1 ex1 => ?_)
  replace hf := hf x1 ex1
  clear ex1
  refine lv_istore_n (lv' := [(1, .int x1), (0, .ref h_t)]) hx hb dX9_readSecond_6 rfl hl (by decide) rfl (fun ls hl => ?_)
  refine lv_aload_n hx hb dX9_readSecond_7 rfl (lv_at hl 1 rfl) ?_
  refine lv_iconst (v := 2) hx hb dX9_readSecond_8 (by decide) ?_
  obtain ⟨u3, u4, hc5, hf⟩ := zb2_in hf
  refine zc_v (va_runV (As := [.int 2]) (rest := []) C (mX9_skip l D cI H.size h_t h_t_now h_t_file h_t_fresh h_t_colour h_t_table h_t_last h_t_one t_wide t_high t_size t_at t_fault t_newWide t_newHigh t_colours t_now t_file t_fresh t_colour t_table t_last t_one 2 u3 u4 hc5) (qX9_readSecond_X9_skip_152 hts) ⟨zP_blind, va_recv hK hP (ci := 8) (q0 := 0) rfl rfl, zpre hK hN hP hD [0, 1, 2, 3, 4, 5, 6, 7] rfl rfl⟩ rfl rfl hl.1 rfl (lv_room (Nat.le_of_ble_eq_true rfl)) dX9_readSecond_9 ⟨Nat.zero_le _, Nat.zero_le _⟩) hP hD hS hA [0, 1, 2, 3, 4, 5, 6, 7] [] [0, 1, 2, 3, 4, 5, 6, 7] (ws' := zwX9 cI h_t h_t_now h_t_file h_t_fresh h_t_colour h_t_table h_t_last h_t_one t_wide t_high t_size u3 u4 t_newWide t_newHigh t_colours t_now t_file t_fresh t_colour t_table t_last t_one) rfl rfl rfl rfl rfl rfl (fun H locs hP hD hS => ?_)
  refine lv_aload_n hx hb dX9_readSecond_12 rfl (lv_at hl 1 rfl) ?_
  refine lv_aload_n hx hb dX9_readSecond_13 rfl (lv_at hl 1 rfl) ?_
  refine lv_aload_n hx hb dX9_readSecond_14 rfl (lv_at hl 1 rfl) ?_
  obtain ⟨r6, u7, u8, hc9, hf⟩ := zb3_in hf
  refine zc_i (va_runV (As := []) (rest := [.ref h_t, .ref h_t]) C (mX9_decimal l D cI H.size h_t h_t_now h_t_file h_t_fresh h_t_colour h_t_table h_t_last h_t_one t_wide t_high t_size u3 u4 t_newWide t_newHigh t_colours t_now t_file t_fresh t_colour t_table t_last t_one r6 u7 u8 hc9) (qX9_readSecond_X9_decimal_183 hts) ⟨zP_blind, va_recv hK hP (ci := 8) (q0 := 0) rfl rfl, zpre hK hN hP hD [0, 1, 2, 3, 4, 5, 6, 7] rfl rfl⟩ rfl rfl hl.1 rfl (lv_room (Nat.le_of_ble_eq_true rfl)) dX9_readSecond_15 ⟨Nat.zero_le _, Nat.zero_le _⟩) hP hD hS hA [0, 1, 2, 3, 4, 5, 6, 7] [] [0, 1, 2, 3, 4, 5, 6, 7] (ws' := zwX9 cI h_t h_t_now h_t_file h_t_fresh h_t_colour h_t_table h_t_last h_t_one t_wide t_high t_size u7 u8 t_newWide t_newHigh t_colours t_now t_file t_fresh t_colour t_table t_last t_one) rfl rfl rfl rfl rfl rfl (fun H locs hP hD hS => ?_)
  obtain ⟨r10, u11, hc12, hf⟩ := zb2_in hf
  refine zc_i (va_runV (As := [.int r6]) (rest := [.ref h_t]) C (mX9_sideOf l D cI H.size h_t h_t_now h_t_file h_t_fresh h_t_colour h_t_table h_t_last h_t_one t_wide t_high t_size u7 u8 t_newWide t_newHigh t_colours t_now t_file t_fresh t_colour t_table t_last t_one r6 r10 u11 hc12) (qX9_readSecond_X9_sideOf_159 hts) ⟨zP_blind, va_recv hK hP (ci := 8) (q0 := 0) rfl rfl, zpre hK hN hP hD [0, 1, 2, 3, 4, 5, 6, 7] rfl rfl⟩ rfl rfl hl.1 rfl (lv_room (Nat.le_of_ble_eq_true rfl)) dX9_readSecond_18 ⟨Nat.zero_le _, Nat.zero_le _⟩) hP hD hS hA [0, 1, 2, 3, 4, 5, 6, 7] [] [0, 1, 2, 3, 4, 5, 6, 7] (ws' := zwX9 cI h_t h_t_now h_t_file h_t_fresh h_t_colour h_t_table h_t_last h_t_one t_wide t_high t_size u7 u11 t_newWide t_newHigh t_colours t_now t_file t_fresh t_colour t_table t_last t_one) rfl rfl rfl rfl rfl rfl (fun H locs hP hD hS => ?_)
  refine va_put (D := D) (ci := 8) (v := .int r10) (ty := .int) (C := RX9) (T := TX9) (N := 15) hx hb hts iX9_readSecond_X9 tyX9 tyX9_ok nmX9 hown hK hP hD hS 0 rfl rfl 7 (by decide) (kX9_readSecond_142 hts) (fun _ h9 => h9) rfl (by decide +kernel) rfl rfl (Nat.le_of_ble_eq_true rfl) dX9_readSecond_21 (fun H locs hP hD hS => ?_)
  replace hP : va_P D vwCl (zwX9 cI h_t h_t_now h_t_file h_t_fresh h_t_colour h_t_table h_t_last h_t_one t_wide t_high t_size u7 u11 r10 t_newHigh t_colours t_now t_file t_fresh t_colour t_table t_last t_one) H := hP
  replace hD : va_D A (zwX9 cI h_t h_t_now h_t_file h_t_fresh h_t_colour h_t_table h_t_last h_t_one t_wide t_high t_size u7 u11 r10 t_newHigh t_colours t_now t_file t_fresh t_colour t_table t_last t_one) := hD
  refine lv_aload_n hx hb dX9_readSecond_24 rfl (lv_at hl 1 rfl) ?_
  refine lv_aload_n hx hb dX9_readSecond_25 rfl (lv_at hl 1 rfl) ?_
  refine lv_aload_n hx hb dX9_readSecond_26 rfl (lv_at hl 1 rfl) ?_
  obtain ⟨r13, u14, u15, hc16, hf⟩ := zb3_in hf
  refine zc_i (va_runV (As := []) (rest := [.ref h_t, .ref h_t]) C (mX9_decimal l D cI H.size h_t h_t_now h_t_file h_t_fresh h_t_colour h_t_table h_t_last h_t_one t_wide t_high t_size u7 u11 r10 t_newHigh t_colours t_now t_file t_fresh t_colour t_table t_last t_one r13 u14 u15 hc16) (qX9_readSecond_X9_decimal_183 hts) ⟨zP_blind, va_recv hK hP (ci := 8) (q0 := 0) rfl rfl, zpre hK hN hP hD [0, 1, 2, 3, 4, 5, 6, 7] rfl rfl⟩ rfl rfl hl.1 rfl (lv_room (Nat.le_of_ble_eq_true rfl)) dX9_readSecond_27 ⟨Nat.zero_le _, Nat.zero_le _⟩) hP hD hS hA [0, 1, 2, 3, 4, 5, 6, 7] [] [0, 1, 2, 3, 4, 5, 6, 7] (ws' := zwX9 cI h_t h_t_now h_t_file h_t_fresh h_t_colour h_t_table h_t_last h_t_one t_wide t_high t_size u14 u15 r10 t_newHigh t_colours t_now t_file t_fresh t_colour t_table t_last t_one) rfl rfl rfl rfl rfl rfl (fun H locs hP hD hS => ?_)
  obtain ⟨r17, u18, hc19, hf⟩ := zb2_in hf
  refine zc_i (va_runV (As := [.int r13]) (rest := [.ref h_t]) C (mX9_sideOf l D cI H.size h_t h_t_now h_t_file h_t_fresh h_t_colour h_t_table h_t_last h_t_one t_wide t_high t_size u14 u15 r10 t_newHigh t_colours t_now t_file t_fresh t_colour t_table t_last t_one r13 r17 u18 hc19) (qX9_readSecond_X9_sideOf_159 hts) ⟨zP_blind, va_recv hK hP (ci := 8) (q0 := 0) rfl rfl, zpre hK hN hP hD [0, 1, 2, 3, 4, 5, 6, 7] rfl rfl⟩ rfl rfl hl.1 rfl (lv_room (Nat.le_of_ble_eq_true rfl)) dX9_readSecond_30 ⟨Nat.zero_le _, Nat.zero_le _⟩) hP hD hS hA [0, 1, 2, 3, 4, 5, 6, 7] [] [0, 1, 2, 3, 4, 5, 6, 7] (ws' := zwX9 cI h_t h_t_now h_t_file h_t_fresh h_t_colour h_t_table h_t_last h_t_one t_wide t_high t_size u14 u18 r10 t_newHigh t_colours t_now t_file t_fresh t_colour t_table t_last t_one) rfl rfl rfl rfl rfl rfl (fun H locs hP hD hS => ?_)
  refine va_put (D := D) (ci := 8) (v := .int r17) (ty := .int) (C := RX9) (T := TX9) (N := 15) hx hb hts iX9_readSecond_X9 tyX9 tyX9_ok nmX9 hown hK hP hD hS 0 rfl rfl 8 (by decide) (kX9_readSecond_162 hts) (fun _ h9 => h9) rfl (by decide +kernel) rfl rfl (Nat.le_of_ble_eq_true rfl) dX9_readSecond_33 (fun H locs hP hD hS => ?_)
  replace hP : va_P D vwCl (zwX9 cI h_t h_t_now h_t_file h_t_fresh h_t_colour h_t_table h_t_last h_t_one t_wide t_high t_size u14 u18 r10 r17 t_colours t_now t_file t_fresh t_colour t_table t_last t_one) H := hP
  replace hD : va_D A (zwX9 cI h_t h_t_now h_t_file h_t_fresh h_t_colour h_t_table h_t_last h_t_one t_wide t_high t_size u14 u18 r10 r17 t_colours t_now t_file t_fresh t_colour t_table t_last t_one) := hD
  refine lv_aload_n hx hb dX9_readSecond_36 rfl (lv_at hl 1 rfl) ?_
  obtain ⟨r20, u21, u22, hc23, hf⟩ := zb3_in hf
  refine zc_i (va_runV (As := []) (rest := []) C (mX9_decimal l D cI H.size h_t h_t_now h_t_file h_t_fresh h_t_colour h_t_table h_t_last h_t_one t_wide t_high t_size u14 u18 r10 r17 t_colours t_now t_file t_fresh t_colour t_table t_last t_one r20 u21 u22 hc23) (qX9_readSecond_X9_decimal_183 hts) ⟨zP_blind, va_recv hK hP (ci := 8) (q0 := 0) rfl rfl, zpre hK hN hP hD [0, 1, 2, 3, 4, 5, 6, 7] rfl rfl⟩ rfl rfl hl.1 rfl (lv_room (Nat.le_of_ble_eq_true rfl)) dX9_readSecond_37 ⟨Nat.zero_le _, Nat.zero_le _⟩) hP hD hS hA [0, 1, 2, 3, 4, 5, 6, 7] [] [0, 1, 2, 3, 4, 5, 6, 7] (ws' := zwX9 cI h_t h_t_now h_t_file h_t_fresh h_t_colour h_t_table h_t_last h_t_one t_wide t_high t_size u21 u22 r10 r17 t_colours t_now t_file t_fresh t_colour t_table t_last t_one) rfl rfl rfl rfl rfl rfl (fun H locs hP hD hS => ?_)
  refine lv_istore_n (lv' := [(2, .int r20), (1, .int x1), (0, .ref h_t)]) hx hb dX9_readSecond_40 rfl hl (by decide) rfl (fun ls hl => ?_)
  refine lv_aload_n hx hb dX9_readSecond_41 rfl (lv_at hl 2 rfl) ?_
  refine lv_iload_n hx hb dX9_readSecond_42 rfl (lv_at hl 0 rfl) ?_
  refine lv_iconst (v := 1) hx hb dX9_readSecond_43 (by decide) ?_
  refine lv_icmp_lt (tgt := 54) hx hb dX9_readSecond_44 (by decide) (fun c24 => ?_) (fun c24 => ?_)
  · replace hf := zif_t hf c24
    exact wX9_readSecond_54 C hN hK hA hE hf hP hD hS (lv_sub hl [2, 1, 0] rfl)
  · replace hf := zif_f hf c24
    refine lv_iload_n hx hb dX9_readSecond_47 rfl (lv_at hl 0 rfl) ?_
    refine lv_sipush (v := 255) hx hb dX9_readSecond_48 (by decide) ?_
    refine lv_icmp_le (tgt := 58) hx hb dX9_readSecond_51 (by decide) (fun c25 => ?_) (fun c25 => ?_)
    · replace hf := zif_t hf c25
      refine lv_iconst (v := 0) hx hb dX9_readSecond_58 (by decide) ?_
      exact wX9_readSecond_59 C hN hK hA hE hf hP hD hS (lv_sub hl [2, 1, 0] rfl)
    · replace hf := zif_f hf c25
      exact wX9_readSecond_54 C hN hK hA hE hf hP hD hS (lv_sub hl [2, 1, 0] rfl)
set_option maxHeartbeats 4000000 in
set_option maxRecDepth 100000 in
theorem mX9_readSecond (l : Launch) (D : va_G) (cI : ClassId) (sz : Nat) (h_t h_t_now h_t_file h_t_fresh h_t_colour h_t_table h_t_last h_t_one : Nat) (t_wide : Int32) (t_high : Int32) (t_size : Int32) (t_at : Int32) (t_fault : Int32) (t_newWide : Int32) (t_newHigh : Int32) (t_colours : Int32) (t_now : Nat → Int32) (t_file : Nat → Int32) (t_fresh : Nat → Int32) (t_colour : Nat → Int32) (t_table : Nat → Int32) (t_last : Nat → Int32) (t_one : Nat → Int32) (zt_at : Int32) (zt_fault : Int32) (zt_newWide : Int32) (zt_newHigh : Int32) (zt_fresh : Nat → Int32) (zt_one : Nat → Int32) (hf : fX9_readSecond t_size t_at t_fault t_file t_fresh t_one = some (zt_at, zt_fault, zt_newWide, zt_newHigh, zt_fresh, zt_one)) : Met l yX9_readSecond wsX9_readSecond rmX9_readSecond (va_Pc [.ref h_t] (zP D [(cI, .int)] (zwX9 cI h_t h_t_now h_t_file h_t_fresh h_t_colour h_t_table h_t_last h_t_one t_wide t_high t_size t_at t_fault t_newWide t_newHigh t_colours t_now t_file t_fresh t_colour t_table t_last t_one) sz)) (zQv D (zwX9 cI h_t h_t_now h_t_file h_t_fresh h_t_colour h_t_table h_t_last h_t_one t_wide t_high t_size t_at t_fault t_newWide t_newHigh t_colours t_now t_file t_fresh t_colour t_table t_last t_one) sz (zwX9 cI h_t h_t_now h_t_file h_t_fresh h_t_colour h_t_table h_t_last h_t_one t_wide t_high t_size zt_at zt_fault zt_newWide zt_newHigh t_colours t_now t_file zt_fresh t_colour t_table t_last zt_one)) 0 0 (va_A (zwX9 cI h_t h_t_now h_t_file h_t_fresh h_t_colour h_t_table h_t_last h_t_one t_wide t_high t_size t_at t_fault t_newWide t_newHigh t_colours t_now t_file t_fresh t_colour t_table t_last t_one) sz) := by
  refine Met.ofW (cc := cX9_readSecond) (maxL := 8) (ret := none) (by decide) rfl ?_
  intro p e s m args below meth c s₁ B hml hv
  obtain ⟨rfl, hsz, hP, hK, hD0, hN⟩ := hv
  subst hsz
  have C : CallFix p m c cX9_readSecond 8 s [.ref h_t].toArray wsX9_readSecond RX9 := ⟨B.exec, B.bytes, hml, findClass_of_methodNamed B.named, atoms_spec (ws := wsX9_readSecond) B.pre⟩
  have hl := lv_entry ([.ref h_t]) (n := 8) (Nat.le_of_ble_eq_true rfl)
  rw [lg_entry_eq]
  exact wX9_readSecond_0 (A := va_A (zwX9 cI h_t h_t_now h_t_file h_t_fresh h_t_colour h_t_table h_t_last h_t_one t_wide t_high t_size t_at t_fault t_newWide t_newHigh t_colours t_now t_file t_fresh t_colour t_table t_last t_one) s.heap.size) C hN hK (fun q h => Or.inr h) (fun H locs pc ls d hP hD hS => zend_v C.1 C.2.1 B.returns B.notSynchronized d hP hD hS) hf hP hD0.self va_S.rf hl
def rmX9_colourTone : Room := { frames := 1, cells := 0, slots := 0, locals := 24 }
theorem kX9_colourTone_26 {args : Array Value} {s : State} (h : ∀ w ∈ wsX9_colourTone, w.before args s = true) : (Cond.fieldLink RX9 26 "FourPictureFilesModel" "colour" "[I").before args s = true := h _ (by decide +kernel)
theorem kX9_colourTone_129 {args : Array Value} {s : State} (h : ∀ w ∈ wsX9_colourTone, w.before args s = true) : (Cond.fieldLink RX9 129 "FourPictureFilesModel" "fault" "I").before args s = true := h _ (by decide +kernel)
theorem kX9_colourTone_186 {args : Array Value} {s : State} (h : ∀ w ∈ wsX9_colourTone, w.before args s = true) : (Cond.fieldLink RX9 186 "FourPictureFilesModel" "colours" "I").before args s = true := h _ (by decide +kernel)
theorem iX9_colourTone_X9 : ∀ w ∈ u_ws RX9 TX9 15, w ∈ wsX9_colourTone := by decide +kernel
theorem qX9_colourTone_X9_broken_139 {args : Array Value} {s : State} (hts : ∀ w ∈ wsX9_colourTone, w.before args s = true) : CallW rmX9_colourTone s args RX9 RX9 139 yX9_broken cX9_broken 2 none wsX9_broken rmX9_broken 0 0 1 := cwV 1 hts gX9_colourTone_X9_broken rfl rfl rfl (by decide +kernel) ⟨Nat.le_of_ble_eq_true rfl, Nat.le_of_ble_eq_true rfl⟩
theorem qX9_colourTone_X9_tone_145 {args : Array Value} {s : State} (hts : ∀ w ∈ wsX9_colourTone, w.before args s = true) : CallW rmX9_colourTone s args RX9 RX9 145 yX9_tone cX9_tone 5 none wsX9_tone rmX9_tone 0 0 4 := cwV 4 hts gX9_colourTone_X9_tone rfl rfl rfl (by decide +kernel) ⟨Nat.le_of_ble_eq_true rfl, Nat.le_of_ble_eq_true rfl⟩
set_option maxHeartbeats 4000000 in
set_option maxRecDepth 100000 in
theorem wX9_colourTone_14 {p : Program} {l : Launch} {e : Env} {s : State} {m : MethodId} {args : Array Value} {below : List Frame} {meth : Method} {c : Code} {D : va_G} {A : Nat → Prop} {Q : State → Prop} {cI : ClassId} {h_t h_t_now h_t_file h_t_fresh h_t_colour h_t_table h_t_last h_t_one : Nat} {t_wide : Int32} {t_high : Int32} {t_size : Int32} {t_at : Int32} {t_newWide : Int32} {t_newHigh : Int32} {t_colours : Int32} {t_now : Nat → Int32} {t_file : Nat → Int32} {t_fresh : Nat → Int32} {t_colour : Nat → Int32} {t_table : Nat → Int32} {t_last : Nat → Int32} {zt_fault : Int32} {zt_one : Nat → Int32} (C : CallFix p m c cX9_colourTone 2 s args wsX9_colourTone RX9) (hN : zN s) (hK : va_K D vwCl [(cI, .int)] s) (hA : ∀ q, s.heap.size ≤ q → A q) (hE : zEv p l e rmX9_colourTone s m args below meth c cX9_colourTone D A Q (zwX9 cI h_t h_t_now h_t_file h_t_fresh h_t_colour h_t_table h_t_last h_t_one t_wide t_high t_size t_at zt_fault t_newWide t_newHigh t_colours t_now t_file t_fresh t_colour t_table t_last zt_one)) {t_fault : Int32} {t_one : Nat → Int32} {l1 : Int32} {k1 : Int32} {H : Heap} {locs : List Loc} {ls : Array Slot} : fX9_colourTone_14 t_fault t_colour t_one l1 k1 = some (zt_fault, zt_one) → va_P D vwCl (zwX9 cI h_t h_t_now h_t_file h_t_fresh h_t_colour h_t_table h_t_last h_t_one t_wide t_high t_size t_at t_fault t_newWide t_newHigh t_colours t_now t_file t_fresh t_colour t_table t_last t_one) H → va_D A (zwX9 cI h_t h_t_now h_t_file h_t_fresh h_t_colour h_t_table h_t_last h_t_one t_wide t_high t_size t_at t_fault t_newWide t_newHigh t_colours t_now t_file t_fresh t_colour t_table t_last t_one) → va_S A s.heap H locs → lv_has ls 2 [(0, .ref h_t), (1, .int l1)] → W p l e rmX9_colourTone s m args below meth c H locs 0 0 Q (F0 m 14 ls [.int k1, .ref h_t]) := by
  intro hf hP hD hS hl
  obtain ⟨hx, hb, hml, hown, hts⟩ := id C
  unfold fX9_colourTone_14 at hf
  obtain ⟨u1, hc2, hf⟩ := zb1_in hf
  refine zc_v (va_runV (As := [.int k1]) (rest := []) C (mX9_broken l D cI H.size h_t h_t_now h_t_file h_t_fresh h_t_colour h_t_table h_t_last h_t_one t_wide t_high t_size t_at t_fault t_newWide t_newHigh t_colours t_now t_file t_fresh t_colour t_table t_last t_one k1 u1 hc2) (qX9_colourTone_X9_broken_139 hts) ⟨zP_blind, va_recv hK hP (ci := 8) (q0 := 0) rfl rfl, zpre hK hN hP hD [0, 1, 2, 3, 4, 5, 6, 7] rfl rfl⟩ rfl rfl hl.1 rfl (lv_room (Nat.le_of_ble_eq_true rfl)) dX9_colourTone_14 ⟨Nat.zero_le _, Nat.zero_le _⟩) hP hD hS hA [0, 1, 2, 3, 4, 5, 6, 7] [] [0, 1, 2, 3, 4, 5, 6, 7] (ws' := zwX9 cI h_t h_t_now h_t_file h_t_fresh h_t_colour h_t_table h_t_last h_t_one t_wide t_high t_size t_at u1 t_newWide t_newHigh t_colours t_now t_file t_fresh t_colour t_table t_last t_one) rfl rfl rfl rfl rfl rfl (fun H locs hP hD hS => ?_)
  refine lv_aload_n hx hb dX9_colourTone_17 rfl (lv_at hl 0 rfl) ?_
  refine va_get (D := D) (ci := 8) (v := .int u1) (C := RX9) (T := TX9) (N := 15) hx hb hts iX9_colourTone_X9 hown hK hP 0 rfl rfl 6 (by decide) (kX9_colourTone_129 hts) (fun _ h9 => h9) rfl dX9_colourTone_18 ?_
  refine lv_if_ne (tgt := 59) hx hb dX9_colourTone_21 (by decide) (fun c3 => ?_) (fun c3 => ?_)
  · replace hf := zif_f hf c3
    cases hf
    exact hE _ _ _ _ dX9_colourTone_59 hP hD hS
  · replace hf := zif_t hf c3
    refine lv_aload_n hx hb dX9_colourTone_24 rfl (lv_at hl 0 rfl) ?_
    refine lv_aload_n hx hb dX9_colourTone_25 rfl (lv_at hl 0 rfl) ?_
    refine va_get (D := D) (ci := 8) (v := .ref h_t_colour) (C := RX9) (T := TX9) (N := 15) hx hb hts iX9_colourTone_X9 hown hK hP 0 rfl rfl 11 (by decide) (kX9_colourTone_26 hts) (fun _ h9 => h9) rfl dX9_colourTone_26 ?_
    refine lv_iconst (v := 4) hx hb dX9_colourTone_29 (by decide) ?_
    refine lv_iload_n hx hb dX9_colourTone_30 rfl (lv_at hl 1 rfl) ?_
    refine lv_imul hx hb dX9_colourTone_31 ?_
    obtain ⟨hg5, hf⟩ := zrd_in hf
    refine va_iald hx hb hK hP 4 0 rfl rfl hg5 dX9_colourTone_32 ?_
    refine lv_topi (fun x4 ex4 => ?_)
    replace hf := hf x4 ex4
    clear ex4
    refine lv_aload_n hx hb dX9_colourTone_33 rfl (lv_at hl 0 rfl) ?_
    refine va_get (D := D) (ci := 8) (v := .ref h_t_colour) (C := RX9) (T := TX9) (N := 15) hx hb hts iX9_colourTone_X9 hown hK hP 0 rfl rfl 11 (by decide) (kX9_colourTone_26 hts) (fun _ h9 => h9) rfl dX9_colourTone_34 ?_
    refine lv_iconst (v := 4) hx hb dX9_colourTone_37 (by decide) ?_
    refine lv_iload_n hx hb dX9_colourTone_38 rfl (lv_at hl 1 rfl) ?_
    refine lv_imul hx hb dX9_colourTone_39 ?_
    refine lv_iconst (v := 1) hx hb dX9_colourTone_40 (by decide) ?_
    refine lv_iadd hx hb dX9_colourTone_41 ?_
    obtain ⟨hg7, hf⟩ := zrd_in hf
    refine va_iald hx hb hK hP 4 0 rfl rfl hg7 dX9_colourTone_42 ?_
    refine lv_topi (fun x6 ex6 => ?_)
    replace hf := hf x6 ex6
    clear ex6
    refine lv_aload_n hx hb dX9_colourTone_43 rfl (lv_at hl 0 rfl) ?_
    refine va_get (D := D) (ci := 8) (v := .ref h_t_colour) (C := RX9) (T := TX9) (N := 15) hx hb hts iX9_colourTone_X9 hown hK hP 0 rfl rfl 11 (by decide) (kX9_colourTone_26 hts) (fun _ h9 => h9) rfl dX9_colourTone_44 ?_
    refine lv_iconst (v := 4) hx hb dX9_colourTone_47 (by decide) ?_
    refine lv_iload_n hx hb dX9_colourTone_48 rfl (lv_at hl 1 rfl) ?_
    refine lv_imul hx hb dX9_colourTone_49 ?_
    refine lv_iconst (v := 2) hx hb dX9_colourTone_50 (by decide) ?_
    refine lv_iadd hx hb dX9_colourTone_51 ?_
    obtain ⟨hg9, hf⟩ := zrd_in hf
    refine va_iald hx hb hK hP 4 0 rfl rfl hg9 dX9_colourTone_52 ?_
    refine lv_topi (fun x8 ex8 => ?_)
    replace hf := hf x8 ex8
    clear ex8
    refine lv_sipush (v := 255) hx hb dX9_colourTone_53 (by decide) ?_
    obtain ⟨u10, hc11, hf⟩ := zb1_in hf
    refine zc_v (va_runV (As := [.int x4, .int x6, .int x8, .int 255]) (rest := []) C (mX9_tone l D cI H.size h_t h_t_now h_t_file h_t_fresh h_t_colour h_t_table h_t_last h_t_one t_wide t_high t_size t_at u1 t_newWide t_newHigh t_colours t_now t_file t_fresh t_colour t_table t_last t_one x4 x6 x8 255 u10 hc11) (qX9_colourTone_X9_tone_145 hts) ⟨zP_blind, va_recv hK hP (ci := 8) (q0 := 0) rfl rfl, zpre hK hN hP hD [0, 1, 2, 3, 4, 5, 6, 7] rfl rfl⟩ rfl rfl hl.1 rfl (lv_room (Nat.le_of_ble_eq_true rfl)) dX9_colourTone_56 ⟨Nat.zero_le _, Nat.zero_le _⟩) hP hD hS hA [0, 1, 2, 3, 4, 5, 6, 7] [] [0, 1, 2, 3, 4, 5, 6, 7] (ws' := zwX9 cI h_t h_t_now h_t_file h_t_fresh h_t_colour h_t_table h_t_last h_t_one t_wide t_high t_size t_at u1 t_newWide t_newHigh t_colours t_now t_file t_fresh t_colour t_table t_last u10) rfl rfl rfl rfl rfl rfl (fun H locs hP hD hS => ?_)
    cases hf
    exact hE _ _ _ _ dX9_colourTone_59 hP hD hS
set_option maxHeartbeats 4000000 in
set_option maxRecDepth 100000 in
theorem wX9_colourTone_0 {p : Program} {l : Launch} {e : Env} {s : State} {m : MethodId} {args : Array Value} {below : List Frame} {meth : Method} {c : Code} {D : va_G} {A : Nat → Prop} {Q : State → Prop} {cI : ClassId} {h_t h_t_now h_t_file h_t_fresh h_t_colour h_t_table h_t_last h_t_one : Nat} {t_wide : Int32} {t_high : Int32} {t_size : Int32} {t_at : Int32} {t_newWide : Int32} {t_newHigh : Int32} {t_colours : Int32} {t_now : Nat → Int32} {t_file : Nat → Int32} {t_fresh : Nat → Int32} {t_colour : Nat → Int32} {t_table : Nat → Int32} {t_last : Nat → Int32} {zt_fault : Int32} {zt_one : Nat → Int32} (C : CallFix p m c cX9_colourTone 2 s args wsX9_colourTone RX9) (hN : zN s) (hK : va_K D vwCl [(cI, .int)] s) (hA : ∀ q, s.heap.size ≤ q → A q) (hE : zEv p l e rmX9_colourTone s m args below meth c cX9_colourTone D A Q (zwX9 cI h_t h_t_now h_t_file h_t_fresh h_t_colour h_t_table h_t_last h_t_one t_wide t_high t_size t_at zt_fault t_newWide t_newHigh t_colours t_now t_file t_fresh t_colour t_table t_last zt_one)) {t_fault : Int32} {t_one : Nat → Int32} {v0 : Int32} {H : Heap} {locs : List Loc} {ls : Array Slot} : fX9_colourTone t_fault t_colours t_colour t_one v0 = some (zt_fault, zt_one) → va_P D vwCl (zwX9 cI h_t h_t_now h_t_file h_t_fresh h_t_colour h_t_table h_t_last h_t_one t_wide t_high t_size t_at t_fault t_newWide t_newHigh t_colours t_now t_file t_fresh t_colour t_table t_last t_one) H → va_D A (zwX9 cI h_t h_t_now h_t_file h_t_fresh h_t_colour h_t_table h_t_last h_t_one t_wide t_high t_size t_at t_fault t_newWide t_newHigh t_colours t_now t_file t_fresh t_colour t_table t_last t_one) → va_S A s.heap H locs → lv_has ls 2 [(0, .ref h_t), (1, .int v0)] → W p l e rmX9_colourTone s m args below meth c H locs 0 0 Q (F0 m 0 ls []) := by
  intro hf hP hD hS hl
  obtain ⟨hx, hb, hml, hown, hts⟩ := id C
  unfold fX9_colourTone at hf
  refine lv_aload_n hx hb dX9_colourTone_0 rfl (lv_at hl 0 rfl) ?_
  refine lv_iload_n hx hb dX9_colourTone_1 rfl (lv_at hl 1 rfl) ?_
  refine lv_aload_n hx hb dX9_colourTone_2 rfl (lv_at hl 0 rfl) ?_
  refine va_get (D := D) (ci := 8) (v := .int t_colours) (C := RX9) (T := TX9) (N := 15) hx hb hts iX9_colourTone_X9 hown hK hP 0 rfl rfl 10 (by decide) (kX9_colourTone_186 hts) (fun _ h9 => h9) rfl dX9_colourTone_3 ?_
  refine lv_icmp_lt (tgt := 13) hx hb dX9_colourTone_6 (by decide) (fun c1 => ?_) (fun c1 => ?_)
  · replace hf := zif_t hf c1
    refine lv_iconst (v := 0) hx hb dX9_colourTone_13 (by decide) ?_
    exact wX9_colourTone_14 C hN hK hA hE hf hP hD hS (lv_sub hl [0, 1] rfl)
  · replace hf := zif_f hf c1
    refine lv_iconst (v := 1) hx hb dX9_colourTone_9 (by decide) ?_
    refine lv_goto (tgt := 14) hx hb dX9_colourTone_10 (by decide) ?_
    exact wX9_colourTone_14 C hN hK hA hE hf hP hD hS (lv_sub hl [0, 1] rfl)
set_option maxHeartbeats 4000000 in
set_option maxRecDepth 100000 in
theorem mX9_colourTone (l : Launch) (D : va_G) (cI : ClassId) (sz : Nat) (h_t h_t_now h_t_file h_t_fresh h_t_colour h_t_table h_t_last h_t_one : Nat) (t_wide : Int32) (t_high : Int32) (t_size : Int32) (t_at : Int32) (t_fault : Int32) (t_newWide : Int32) (t_newHigh : Int32) (t_colours : Int32) (t_now : Nat → Int32) (t_file : Nat → Int32) (t_fresh : Nat → Int32) (t_colour : Nat → Int32) (t_table : Nat → Int32) (t_last : Nat → Int32) (t_one : Nat → Int32) (v0 : Int32) (zt_fault : Int32) (zt_one : Nat → Int32) (hf : fX9_colourTone t_fault t_colours t_colour t_one v0 = some (zt_fault, zt_one)) : Met l yX9_colourTone wsX9_colourTone rmX9_colourTone (va_Pc [.ref h_t, .int v0] (zP D [(cI, .int)] (zwX9 cI h_t h_t_now h_t_file h_t_fresh h_t_colour h_t_table h_t_last h_t_one t_wide t_high t_size t_at t_fault t_newWide t_newHigh t_colours t_now t_file t_fresh t_colour t_table t_last t_one) sz)) (zQv D (zwX9 cI h_t h_t_now h_t_file h_t_fresh h_t_colour h_t_table h_t_last h_t_one t_wide t_high t_size t_at t_fault t_newWide t_newHigh t_colours t_now t_file t_fresh t_colour t_table t_last t_one) sz (zwX9 cI h_t h_t_now h_t_file h_t_fresh h_t_colour h_t_table h_t_last h_t_one t_wide t_high t_size t_at zt_fault t_newWide t_newHigh t_colours t_now t_file t_fresh t_colour t_table t_last zt_one)) 0 0 (va_A (zwX9 cI h_t h_t_now h_t_file h_t_fresh h_t_colour h_t_table h_t_last h_t_one t_wide t_high t_size t_at t_fault t_newWide t_newHigh t_colours t_now t_file t_fresh t_colour t_table t_last t_one) sz) := by
  refine Met.ofW (cc := cX9_colourTone) (maxL := 2) (ret := none) (by decide) rfl ?_
  intro p e s m args below meth c s₁ B hml hv
  obtain ⟨rfl, hsz, hP, hK, hD0, hN⟩ := hv
  subst hsz
  have C : CallFix p m c cX9_colourTone 2 s [.ref h_t, .int v0].toArray wsX9_colourTone RX9 := ⟨B.exec, B.bytes, hml, findClass_of_methodNamed B.named, atoms_spec (ws := wsX9_colourTone) B.pre⟩
  have hl := lv_entry ([.ref h_t, .int v0]) (n := 2) (Nat.le_of_ble_eq_true rfl)
  rw [lg_entry_eq]
  exact wX9_colourTone_0 (A := va_A (zwX9 cI h_t h_t_now h_t_file h_t_fresh h_t_colour h_t_table h_t_last h_t_one t_wide t_high t_size t_at t_fault t_newWide t_newHigh t_colours t_now t_file t_fresh t_colour t_table t_last t_one) s.heap.size) C hN hK (fun q h => Or.inr h) (fun H locs pc ls d hP hD hS => zend_v C.1 C.2.1 B.returns B.notSynchronized d hP hD hS) hf hP hD0.self va_S.rf hl
def rmX9_plain : Room := { frames := 2, cells := 0, slots := 0, locals := 45 }
theorem kX9_plain_129 {args : Array Value} {s : State} (h : ∀ w ∈ wsX9_plain, w.before args s = true) : (Cond.fieldLink RX9 129 "FourPictureFilesModel" "fault" "I").before args s = true := h _ (by decide +kernel)
theorem kX9_plain_142 {args : Array Value} {s : State} (h : ∀ w ∈ wsX9_plain, w.before args s = true) : (Cond.fieldLink RX9 142 "FourPictureFilesModel" "newWide" "I").before args s = true := h _ (by decide +kernel)
theorem kX9_plain_162 {args : Array Value} {s : State} (h : ∀ w ∈ wsX9_plain, w.before args s = true) : (Cond.fieldLink RX9 162 "FourPictureFilesModel" "newHigh" "I").before args s = true := h _ (by decide +kernel)
theorem iX9_plain_X9 : ∀ w ∈ u_ws RX9 TX9 15, w ∈ wsX9_plain := by decide +kernel
theorem qX9_plain_X9_colourTone_196 {args : Array Value} {s : State} (hts : ∀ w ∈ wsX9_plain, w.before args s = true) : CallW rmX9_plain s args RX9 RX9 196 yX9_colourTone cX9_colourTone 2 none wsX9_colourTone rmX9_colourTone 0 0 1 := cwV 1 hts gX9_plain_X9_colourTone rfl rfl rfl (by decide +kernel) ⟨Nat.le_of_ble_eq_true rfl, Nat.le_of_ble_eq_true rfl⟩
theorem qX9_plain_X9_next_135 {args : Array Value} {s : State} (hts : ∀ w ∈ wsX9_plain, w.before args s = true) : CallW rmX9_plain s args RX9 RX9 135 yX9_next cX9_next 1 (some .int) wsX9_next rmX9_next 0 0 0 := cwV 0 hts gX9_plain_X9_next rfl rfl rfl (by decide +kernel) ⟨Nat.le_of_ble_eq_true rfl, Nat.le_of_ble_eq_true rfl⟩
theorem qX9_plain_X9_set_168 {args : Array Value} {s : State} (hts : ∀ w ∈ wsX9_plain, w.before args s = true) : CallW rmX9_plain s args RX9 RX9 168 yX9_set cX9_set 3 none wsX9_set rmX9_set 0 0 1 := cwV 1 hts gX9_plain_X9_set rfl rfl rfl (by decide +kernel) ⟨Nat.le_of_ble_eq_true rfl, Nat.le_of_ble_eq_true rfl⟩
theorem qX9_plain_X9_skip_152 {args : Array Value} {s : State} (hts : ∀ w ∈ wsX9_plain, w.before args s = true) : CallW rmX9_plain s args RX9 RX9 152 yX9_skip cX9_skip 3 none wsX9_skip rmX9_skip 0 0 1 := cwV 1 hts gX9_plain_X9_skip rfl rfl rfl (by decide +kernel) ⟨Nat.le_of_ble_eq_true rfl, Nat.le_of_ble_eq_true rfl⟩
theorem qX9_plain_X9_tone_145 {args : Array Value} {s : State} (hts : ∀ w ∈ wsX9_plain, w.before args s = true) : CallW rmX9_plain s args RX9 RX9 145 yX9_tone cX9_tone 5 none wsX9_tone rmX9_tone 0 0 4 := cwV 4 hts gX9_plain_X9_tone rfl rfl rfl (by decide +kernel) ⟨Nat.le_of_ble_eq_true rfl, Nat.le_of_ble_eq_true rfl⟩
set_option maxHeartbeats 4000000 in
set_option maxRecDepth 100000 in
theorem wX9_plain_143 {p : Program} {l : Launch} {e : Env} {s : State} {m : MethodId} {args : Array Value} {below : List Frame} {meth : Method} {c : Code} {D : va_G} {A : Nat → Prop} {Q : State → Prop} {cI : ClassId} {h_t h_t_now h_t_file h_t_fresh h_t_colour h_t_table h_t_last h_t_one : Nat} {t_wide : Int32} {t_high : Int32} {t_size : Int32} {t_newWide : Int32} {t_newHigh : Int32} {t_colours : Int32} {t_now : Nat → Int32} {t_file : Nat → Int32} {t_colour : Nat → Int32} {t_table : Nat → Int32} {t_last : Nat → Int32} {zt_at : Int32} {zt_fault : Int32} {zt_fresh : Nat → Int32} {zt_one : Nat → Int32} (C : CallFix p m c cX9_plain 8 s args wsX9_plain RX9) (hN : zN s) (hK : va_K D vwCl [(cI, .int)] s) (hA : ∀ q, s.heap.size ≤ q → A q) (hE : zEv p l e rmX9_plain s m args below meth c cX9_plain D A Q (zwX9 cI h_t h_t_now h_t_file h_t_fresh h_t_colour h_t_table h_t_last h_t_one t_wide t_high t_size zt_at zt_fault t_newWide t_newHigh t_colours t_now t_file zt_fresh t_colour t_table t_last zt_one)) {rc2 : Int32 → Int32 → Int32 → Int32 → Int32 → Int32 → (Nat → Int32) → (Nat → Int32) → (Nat → Int32) → (Nat → Int32) → Int32 → Int32 → Int32 → Option (Int32 × Int32 × (Nat → Int32) × (Nat → Int32))} (hr_2 : ∀ {t_at : Int32} {t_fault : Int32} {t_fresh : Nat → Int32} {t_one : Nat → Int32} {l1 : Int32} {l2 : Int32} {l3 : Int32} {H : Heap} {locs : List Loc} {ls : Array Slot}, rc2 t_size t_at t_fault t_newWide t_newHigh t_colours t_file t_fresh t_colour t_one l1 l2 l3 = some (zt_at, zt_fault, zt_fresh, zt_one) → va_P D vwCl (zwX9 cI h_t h_t_now h_t_file h_t_fresh h_t_colour h_t_table h_t_last h_t_one t_wide t_high t_size t_at t_fault t_newWide t_newHigh t_colours t_now t_file t_fresh t_colour t_table t_last t_one) H → va_D A (zwX9 cI h_t h_t_now h_t_file h_t_fresh h_t_colour h_t_table h_t_last h_t_one t_wide t_high t_size t_at t_fault t_newWide t_newHigh t_colours t_now t_file t_fresh t_colour t_table t_last t_one) → va_S A s.heap H locs → lv_has ls 8 [(0, .ref h_t), (1, .int l1), (2, .int l2), (3, .int l3)] → W p l e rmX9_plain s m args below meth c H locs 0 0 Q (F0 m 2 ls [])) {t_at : Int32} {t_fault : Int32} {t_fresh : Nat → Int32} {t_one : Nat → Int32} {l1 : Int32} {l2 : Int32} {l3 : Int32} {l4 : Int32} {l5 : Int32} {k1 : Int32} {H : Heap} {locs : List Loc} {ls : Array Slot} : fX9_plain_143 rc2 t_size t_at t_fault t_newWide t_newHigh t_colours t_file t_fresh t_colour t_one l1 l2 l3 k1 = some (zt_at, zt_fault, zt_fresh, zt_one) → va_P D vwCl (zwX9 cI h_t h_t_now h_t_file h_t_fresh h_t_colour h_t_table h_t_last h_t_one t_wide t_high t_size t_at t_fault t_newWide t_newHigh t_colours t_now t_file t_fresh t_colour t_table t_last t_one) H → va_D A (zwX9 cI h_t h_t_now h_t_file h_t_fresh h_t_colour h_t_table h_t_last h_t_one t_wide t_high t_size t_at t_fault t_newWide t_newHigh t_colours t_now t_file t_fresh t_colour t_table t_last t_one) → va_S A s.heap H locs → lv_has ls 8 [(0, .ref h_t), (1, .int l1), (2, .int l2), (3, .int l3), (4, .int l4), (5, .int l5)] → W p l e rmX9_plain s m args below meth c H locs 0 0 Q (F0 m 143 ls [.int k1, .ref h_t]) := by
  intro hf hP hD hS hl
  obtain ⟨hx, hb, hml, hown, hts⟩ := id C
  unfold fX9_plain_143 at hf
  obtain ⟨u1, u2, hc3, hf⟩ := zb2_in hf
  refine zc_v (va_runV (As := [.int k1]) (rest := []) C (mX9_skip l D cI H.size h_t h_t_now h_t_file h_t_fresh h_t_colour h_t_table h_t_last h_t_one t_wide t_high t_size t_at t_fault t_newWide t_newHigh t_colours t_now t_file t_fresh t_colour t_table t_last t_one k1 u1 u2 hc3) (qX9_plain_X9_skip_152 hts) ⟨zP_blind, va_recv hK hP (ci := 8) (q0 := 0) rfl rfl, zpre hK hN hP hD [0, 1, 2, 3, 4, 5, 6, 7] rfl rfl⟩ rfl rfl hl.1 rfl (lv_room (Nat.le_of_ble_eq_true rfl)) dX9_plain_143 ⟨Nat.zero_le _, Nat.zero_le _⟩) hP hD hS hA [0, 1, 2, 3, 4, 5, 6, 7] [] [0, 1, 2, 3, 4, 5, 6, 7] (ws' := zwX9 cI h_t h_t_now h_t_file h_t_fresh h_t_colour h_t_table h_t_last h_t_one t_wide t_high t_size u1 u2 t_newWide t_newHigh t_colours t_now t_file t_fresh t_colour t_table t_last t_one) rfl rfl rfl rfl rfl rfl (fun H locs hP hD hS => ?_)
  obtain ⟨x4, ex4⟩ : ∃ y : Int32, y = l3 + 1 := ⟨_, rfl⟩
  replace hf := zlet_in hf ex4
  refine lv_iinc (v := x4) (lv' := [(3, .int x4), (0, .ref h_t), (1, .int l1), (2, .int l2), (4, .int l4), (5, .int l5)]) hx hb dX9_plain_146 hl (k := 3) rfl (by rw [ex4]; rfl) (by decide) rfl (fun ls hl => ?_)
  clear ex4
  refine lv_goto (tgt := 2) hx hb dX9_plain_149 (by decide) ?_
  exact hr_2 hf hP hD hS (lv_sub hl [1, 2, 3, 0] rfl)
set_option maxHeartbeats 4000000 in
set_option maxRecDepth 100000 in
theorem wX9_plain_118 {p : Program} {l : Launch} {e : Env} {s : State} {m : MethodId} {args : Array Value} {below : List Frame} {meth : Method} {c : Code} {D : va_G} {A : Nat → Prop} {Q : State → Prop} {cI : ClassId} {h_t h_t_now h_t_file h_t_fresh h_t_colour h_t_table h_t_last h_t_one : Nat} {t_wide : Int32} {t_high : Int32} {t_size : Int32} {t_newWide : Int32} {t_newHigh : Int32} {t_colours : Int32} {t_now : Nat → Int32} {t_file : Nat → Int32} {t_colour : Nat → Int32} {t_table : Nat → Int32} {t_last : Nat → Int32} {zt_at : Int32} {zt_fault : Int32} {zt_fresh : Nat → Int32} {zt_one : Nat → Int32} (C : CallFix p m c cX9_plain 8 s args wsX9_plain RX9) (hN : zN s) (hK : va_K D vwCl [(cI, .int)] s) (hA : ∀ q, s.heap.size ≤ q → A q) (hE : zEv p l e rmX9_plain s m args below meth c cX9_plain D A Q (zwX9 cI h_t h_t_now h_t_file h_t_fresh h_t_colour h_t_table h_t_last h_t_one t_wide t_high t_size zt_at zt_fault t_newWide t_newHigh t_colours t_now t_file zt_fresh t_colour t_table t_last zt_one)) {rc2 : Int32 → Int32 → Int32 → Int32 → Int32 → Int32 → (Nat → Int32) → (Nat → Int32) → (Nat → Int32) → (Nat → Int32) → Int32 → Int32 → Int32 → Option (Int32 × Int32 × (Nat → Int32) × (Nat → Int32))} (hr_2 : ∀ {t_at : Int32} {t_fault : Int32} {t_fresh : Nat → Int32} {t_one : Nat → Int32} {l1 : Int32} {l2 : Int32} {l3 : Int32} {H : Heap} {locs : List Loc} {ls : Array Slot}, rc2 t_size t_at t_fault t_newWide t_newHigh t_colours t_file t_fresh t_colour t_one l1 l2 l3 = some (zt_at, zt_fault, zt_fresh, zt_one) → va_P D vwCl (zwX9 cI h_t h_t_now h_t_file h_t_fresh h_t_colour h_t_table h_t_last h_t_one t_wide t_high t_size t_at t_fault t_newWide t_newHigh t_colours t_now t_file t_fresh t_colour t_table t_last t_one) H → va_D A (zwX9 cI h_t h_t_now h_t_file h_t_fresh h_t_colour h_t_table h_t_last h_t_one t_wide t_high t_size t_at t_fault t_newWide t_newHigh t_colours t_now t_file t_fresh t_colour t_table t_last t_one) → va_S A s.heap H locs → lv_has ls 8 [(0, .ref h_t), (1, .int l1), (2, .int l2), (3, .int l3)] → W p l e rmX9_plain s m args below meth c H locs 0 0 Q (F0 m 2 ls [])) {t_at : Int32} {t_fault : Int32} {t_fresh : Nat → Int32} {t_one : Nat → Int32} {l1 : Int32} {l2 : Int32} {l3 : Int32} {l4 : Int32} {l5 : Int32} {H : Heap} {locs : List Loc} {ls : Array Slot} : fX9_plain_118 rc2 t_size t_at t_fault t_newWide t_newHigh t_colours t_file t_fresh t_colour t_one l1 l2 l3 = some (zt_at, zt_fault, zt_fresh, zt_one) → va_P D vwCl (zwX9 cI h_t h_t_now h_t_file h_t_fresh h_t_colour h_t_table h_t_last h_t_one t_wide t_high t_size t_at t_fault t_newWide t_newHigh t_colours t_now t_file t_fresh t_colour t_table t_last t_one) H → va_D A (zwX9 cI h_t h_t_now h_t_file h_t_fresh h_t_colour h_t_table h_t_last h_t_one t_wide t_high t_size t_at t_fault t_newWide t_newHigh t_colours t_now t_file t_fresh t_colour t_table t_last t_one) → va_S A s.heap H locs → lv_has ls 8 [(0, .ref h_t), (1, .int l1), (2, .int l2), (3, .int l3), (4, .int l4), (5, .int l5)] → W p l e rmX9_plain s m args below meth c H locs 0 0 Q (F0 m 118 ls []) := by
  intro hf hP hD hS hl
  obtain ⟨hx, hb, hml, hown, hts⟩ := id C
  unfold fX9_plain_118 at hf
  refine lv_aload_n hx hb dX9_plain_118 rfl (lv_at hl 0 rfl) ?_
  refine lv_iload_n hx hb dX9_plain_119 rfl (lv_at hl 1 rfl) ?_
  refine lv_bipush (v := 8) hx hb dX9_plain_120 (by decide) ?_
  refine lv_icmp_ne (tgt := 137) hx hb dX9_plain_122 (by decide) (fun c1 => ?_) (fun c1 => ?_)
  · replace hf := zif_f hf c1
    refine lv_aload_n hx hb dX9_plain_137 rfl (lv_at hl 0 rfl) ?_
    refine va_get (D := D) (ci := 8) (v := .int t_newWide) (C := RX9) (T := TX9) (N := 15) hx hb hts iX9_plain_X9 hown hK hP 0 rfl rfl 7 (by decide) (kX9_plain_142 hts) (fun _ h9 => h9) rfl dX9_plain_138 ?_
    refine lv_iconst (v := 4) hx hb dX9_plain_141 (by decide) ?_
    refine lv_irem hx hb dX9_plain_142 (by decide) ?_
    exact wX9_plain_143 C hN hK hA hE hr_2 hf hP hD hS (lv_sub hl [0, 1, 2, 3, 4, 5] rfl)
  · replace hf := zif_t hf c1
    refine lv_bipush (v := 8) hx hb dX9_plain_125 (by decide) ?_
    refine lv_aload_n hx hb dX9_plain_127 rfl (lv_at hl 0 rfl) ?_
    refine va_get (D := D) (ci := 8) (v := .int t_newWide) (C := RX9) (T := TX9) (N := 15) hx hb hts iX9_plain_X9 hown hK hP 0 rfl rfl 7 (by decide) (kX9_plain_142 hts) (fun _ h9 => h9) rfl dX9_plain_128 ?_
    refine lv_isub hx hb dX9_plain_131 ?_
    refine lv_iconst (v := 4) hx hb dX9_plain_132 (by decide) ?_
    refine lv_irem hx hb dX9_plain_133 (by decide) ?_
    refine lv_goto (tgt := 143) hx hb dX9_plain_134 (by decide) ?_
    exact wX9_plain_143 C hN hK hA hE hr_2 hf hP hD hS (lv_sub hl [0, 1, 2, 3, 4, 5] rfl)
set_option maxHeartbeats 4000000 in
set_option maxRecDepth 100000 in
theorem wX9_plain_98 {p : Program} {l : Launch} {e : Env} {s : State} {m : MethodId} {args : Array Value} {below : List Frame} {meth : Method} {c : Code} {D : va_G} {A : Nat → Prop} {Q : State → Prop} {cI : ClassId} {h_t h_t_now h_t_file h_t_fresh h_t_colour h_t_table h_t_last h_t_one : Nat} {t_wide : Int32} {t_high : Int32} {t_size : Int32} {t_newWide : Int32} {t_newHigh : Int32} {t_colours : Int32} {t_now : Nat → Int32} {t_file : Nat → Int32} {t_colour : Nat → Int32} {t_table : Nat → Int32} {t_last : Nat → Int32} {zt_at : Int32} {zt_fault : Int32} {zt_fresh : Nat → Int32} {zt_one : Nat → Int32} (C : CallFix p m c cX9_plain 8 s args wsX9_plain RX9) (hN : zN s) (hK : va_K D vwCl [(cI, .int)] s) (hA : ∀ q, s.heap.size ≤ q → A q) (hE : zEv p l e rmX9_plain s m args below meth c cX9_plain D A Q (zwX9 cI h_t h_t_now h_t_file h_t_fresh h_t_colour h_t_table h_t_last h_t_one t_wide t_high t_size zt_at zt_fault t_newWide t_newHigh t_colours t_now t_file zt_fresh t_colour t_table t_last zt_one)) {rc2 : Int32 → Int32 → Int32 → Int32 → Int32 → Int32 → (Nat → Int32) → (Nat → Int32) → (Nat → Int32) → (Nat → Int32) → Int32 → Int32 → Int32 → Option (Int32 × Int32 × (Nat → Int32) × (Nat → Int32))} (hr_2 : ∀ {t_at : Int32} {t_fault : Int32} {t_fresh : Nat → Int32} {t_one : Nat → Int32} {l1 : Int32} {l2 : Int32} {l3 : Int32} {H : Heap} {locs : List Loc} {ls : Array Slot}, rc2 t_size t_at t_fault t_newWide t_newHigh t_colours t_file t_fresh t_colour t_one l1 l2 l3 = some (zt_at, zt_fault, zt_fresh, zt_one) → va_P D vwCl (zwX9 cI h_t h_t_now h_t_file h_t_fresh h_t_colour h_t_table h_t_last h_t_one t_wide t_high t_size t_at t_fault t_newWide t_newHigh t_colours t_now t_file t_fresh t_colour t_table t_last t_one) H → va_D A (zwX9 cI h_t h_t_now h_t_file h_t_fresh h_t_colour h_t_table h_t_last h_t_one t_wide t_high t_size t_at t_fault t_newWide t_newHigh t_colours t_now t_file t_fresh t_colour t_table t_last t_one) → va_S A s.heap H locs → lv_has ls 8 [(0, .ref h_t), (1, .int l1), (2, .int l2), (3, .int l3)] → W p l e rmX9_plain s m args below meth c H locs 0 0 Q (F0 m 2 ls [])) {rc38 : Int32 → Int32 → Int32 → Int32 → Int32 → Int32 → (Nat → Int32) → (Nat → Int32) → (Nat → Int32) → (Nat → Int32) → Int32 → Int32 → Int32 → Int32 → Int32 → Option (Int32 × Int32 × (Nat → Int32) × (Nat → Int32))} (hr_38 : ∀ {t_at : Int32} {t_fault : Int32} {t_fresh : Nat → Int32} {t_one : Nat → Int32} {l1 : Int32} {l2 : Int32} {l3 : Int32} {l4 : Int32} {l5 : Int32} {H : Heap} {locs : List Loc} {ls : Array Slot}, rc38 t_size t_at t_fault t_newWide t_newHigh t_colours t_file t_fresh t_colour t_one l1 l2 l3 l4 l5 = some (zt_at, zt_fault, zt_fresh, zt_one) → va_P D vwCl (zwX9 cI h_t h_t_now h_t_file h_t_fresh h_t_colour h_t_table h_t_last h_t_one t_wide t_high t_size t_at t_fault t_newWide t_newHigh t_colours t_now t_file t_fresh t_colour t_table t_last t_one) H → va_D A (zwX9 cI h_t h_t_now h_t_file h_t_fresh h_t_colour h_t_table h_t_last h_t_one t_wide t_high t_size t_at t_fault t_newWide t_newHigh t_colours t_now t_file t_fresh t_colour t_table t_last t_one) → va_S A s.heap H locs → lv_has ls 8 [(0, .ref h_t), (1, .int l1), (2, .int l2), (3, .int l3), (4, .int l4), (5, .int l5)] → W p l e rmX9_plain s m args below meth c H locs 0 0 Q (F0 m 38 ls [])) {t_at : Int32} {t_fault : Int32} {t_fresh : Nat → Int32} {t_one : Nat → Int32} {l1 : Int32} {l2 : Int32} {l3 : Int32} {l4 : Int32} {l5 : Int32} {H : Heap} {locs : List Loc} {ls : Array Slot} : fX9_plain_98 rc2 rc38 t_size t_at t_fault t_newWide t_newHigh t_colours t_file t_fresh t_colour t_one l1 l2 l3 l4 l5 = some (zt_at, zt_fault, zt_fresh, zt_one) → va_P D vwCl (zwX9 cI h_t h_t_now h_t_file h_t_fresh h_t_colour h_t_table h_t_last h_t_one t_wide t_high t_size t_at t_fault t_newWide t_newHigh t_colours t_now t_file t_fresh t_colour t_table t_last t_one) H → va_D A (zwX9 cI h_t h_t_now h_t_file h_t_fresh h_t_colour h_t_table h_t_last h_t_one t_wide t_high t_size t_at t_fault t_newWide t_newHigh t_colours t_now t_file t_fresh t_colour t_table t_last t_one) → va_S A s.heap H locs → lv_has ls 8 [(0, .ref h_t), (1, .int l1), (2, .int l2), (3, .int l3), (4, .int l4), (5, .int l5)] → W p l e rmX9_plain s m args below meth c H locs 0 0 Q (F0 m 98 ls []) := by
  intro hf hP hD hS hl
  obtain ⟨hx, hb, hml, hown, hts⟩ := id C
  unfold fX9_plain_98 at hf
  refine lv_aload_n hx hb dX9_plain_98 rfl (lv_at hl 0 rfl) ?_
  refine lv_aload_n hx hb dX9_plain_99 rfl (lv_at hl 0 rfl) ?_
  refine va_get (D := D) (ci := 8) (v := .int t_newWide) (C := RX9) (T := TX9) (N := 15) hx hb hts iX9_plain_X9 hown hK hP 0 rfl rfl 7 (by decide) (kX9_plain_142 hts) (fun _ h9 => h9) rfl dX9_plain_100 ?_
  refine lv_iload hx hb dX9_plain_103 (lv_at hl 4 rfl) ?_
  refine lv_imul hx hb dX9_plain_105 ?_
  refine lv_iload hx hb dX9_plain_106 (lv_at hl 5 rfl) ?_
  refine lv_iadd hx hb dX9_plain_108 ?_
  obtain ⟨u1, hc2, hf⟩ := zb1_in hf
  refine zc_v (va_runV (As := [.int ((t_newWide * l4) + l5)]) (rest := []) C (mX9_set l D cI H.size h_t h_t_now h_t_file h_t_fresh h_t_colour h_t_table h_t_last h_t_one t_wide t_high t_size t_at t_fault t_newWide t_newHigh t_colours t_now t_file t_fresh t_colour t_table t_last t_one ((t_newWide * l4) + l5) u1 hc2) (qX9_plain_X9_set_168 hts) ⟨zP_blind, va_recv hK hP (ci := 8) (q0 := 0) rfl rfl, zpre hK hN hP hD [0, 1, 2, 3, 4, 5, 6, 7] rfl rfl⟩ rfl rfl hl.1 rfl (lv_room (Nat.le_of_ble_eq_true rfl)) dX9_plain_109 ⟨Nat.zero_le _, Nat.zero_le _⟩) hP hD hS hA [0, 1, 2, 3, 4, 5, 6, 7] [] [0, 1, 2, 3, 4, 5, 6, 7] (ws' := zwX9 cI h_t h_t_now h_t_file h_t_fresh h_t_colour h_t_table h_t_last h_t_one t_wide t_high t_size t_at t_fault t_newWide t_newHigh t_colours t_now t_file u1 t_colour t_table t_last t_one) rfl rfl rfl rfl rfl rfl (fun H locs hP hD hS => ?_)
  obtain ⟨x3, ex3⟩ : ∃ y : Int32, y = l5 + 1 := ⟨_, rfl⟩
  replace hf := zlet_in hf ex3
  refine lv_iinc (v := x3) (lv' := [(5, .int x3), (0, .ref h_t), (1, .int l1), (2, .int l2), (3, .int l3), (4, .int l4)]) hx hb dX9_plain_112 hl (k := 5) rfl (by rw [ex3]; rfl) (by decide) rfl (fun ls hl => ?_)
  clear ex3
  refine lv_goto (tgt := 38) hx hb dX9_plain_115 (by decide) ?_
  exact hr_38 hf hP hD hS (lv_sub hl [1, 2, 3, 4, 5, 0] rfl)
set_option maxHeartbeats 4000000 in
set_option maxRecDepth 100000 in
theorem wX9_plain_38 {p : Program} {l : Launch} {e : Env} {s : State} {m : MethodId} {args : Array Value} {below : List Frame} {meth : Method} {c : Code} {D : va_G} {A : Nat → Prop} {Q : State → Prop} {cI : ClassId} {h_t h_t_now h_t_file h_t_fresh h_t_colour h_t_table h_t_last h_t_one : Nat} {t_wide : Int32} {t_high : Int32} {t_size : Int32} {t_newWide : Int32} {t_newHigh : Int32} {t_colours : Int32} {t_now : Nat → Int32} {t_file : Nat → Int32} {t_colour : Nat → Int32} {t_table : Nat → Int32} {t_last : Nat → Int32} {zt_at : Int32} {zt_fault : Int32} {zt_fresh : Nat → Int32} {zt_one : Nat → Int32} (C : CallFix p m c cX9_plain 8 s args wsX9_plain RX9) (hN : zN s) (hK : va_K D vwCl [(cI, .int)] s) (hA : ∀ q, s.heap.size ≤ q → A q) (hE : zEv p l e rmX9_plain s m args below meth c cX9_plain D A Q (zwX9 cI h_t h_t_now h_t_file h_t_fresh h_t_colour h_t_table h_t_last h_t_one t_wide t_high t_size zt_at zt_fault t_newWide t_newHigh t_colours t_now t_file zt_fresh t_colour t_table t_last zt_one)) {rc2 : Int32 → Int32 → Int32 → Int32 → Int32 → Int32 → (Nat → Int32) → (Nat → Int32) → (Nat → Int32) → (Nat → Int32) → Int32 → Int32 → Int32 → Option (Int32 × Int32 × (Nat → Int32) × (Nat → Int32))} (hr_2 : ∀ {t_at : Int32} {t_fault : Int32} {t_fresh : Nat → Int32} {t_one : Nat → Int32} {l1 : Int32} {l2 : Int32} {l3 : Int32} {H : Heap} {locs : List Loc} {ls : Array Slot}, rc2 t_size t_at t_fault t_newWide t_newHigh t_colours t_file t_fresh t_colour t_one l1 l2 l3 = some (zt_at, zt_fault, zt_fresh, zt_one) → va_P D vwCl (zwX9 cI h_t h_t_now h_t_file h_t_fresh h_t_colour h_t_table h_t_last h_t_one t_wide t_high t_size t_at t_fault t_newWide t_newHigh t_colours t_now t_file t_fresh t_colour t_table t_last t_one) H → va_D A (zwX9 cI h_t h_t_now h_t_file h_t_fresh h_t_colour h_t_table h_t_last h_t_one t_wide t_high t_size t_at t_fault t_newWide t_newHigh t_colours t_now t_file t_fresh t_colour t_table t_last t_one) → va_S A s.heap H locs → lv_has ls 8 [(0, .ref h_t), (1, .int l1), (2, .int l2), (3, .int l3)] → W p l e rmX9_plain s m args below meth c H locs 0 0 Q (F0 m 2 ls [])) (n : Nat) : ∀ {t_at : Int32} {t_fault : Int32} {t_fresh : Nat → Int32} {t_one : Nat → Int32} {l1 : Int32} {l2 : Int32} {l3 : Int32} {l4 : Int32} {l5 : Int32} {H : Heap} {locs : List Loc} {ls : Array Slot}, fX9_plain_38 rc2 n t_size t_at t_fault t_newWide t_newHigh t_colours t_file t_fresh t_colour t_one l1 l2 l3 l4 l5 = some (zt_at, zt_fault, zt_fresh, zt_one) → va_P D vwCl (zwX9 cI h_t h_t_now h_t_file h_t_fresh h_t_colour h_t_table h_t_last h_t_one t_wide t_high t_size t_at t_fault t_newWide t_newHigh t_colours t_now t_file t_fresh t_colour t_table t_last t_one) H → va_D A (zwX9 cI h_t h_t_now h_t_file h_t_fresh h_t_colour h_t_table h_t_last h_t_one t_wide t_high t_size t_at t_fault t_newWide t_newHigh t_colours t_now t_file t_fresh t_colour t_table t_last t_one) → va_S A s.heap H locs → lv_has ls 8 [(0, .ref h_t), (1, .int l1), (2, .int l2), (3, .int l3), (4, .int l4), (5, .int l5)] → W p l e rmX9_plain s m args below meth c H locs 0 0 Q (F0 m 38 ls []) := by
  obtain ⟨hx, hb, hml, hown, hts⟩ := id C
  induction n with
  | zero =>
    intro t_at t_fault t_fresh t_one l1 l2 l3 l4 l5 H locs ls hf
    cases hf
  | succ n hr_38 =>
    intro t_at t_fault t_fresh t_one l1 l2 l3 l4 l5 H locs ls hf hP hD hS hl
    rw [fX9_plain_38_s] at hf
    refine lv_iload hx hb dX9_plain_38 (lv_at hl 5 rfl) ?_
    refine lv_aload_n hx hb dX9_plain_40 rfl (lv_at hl 0 rfl) ?_
    refine va_get (D := D) (ci := 8) (v := .int t_newWide) (C := RX9) (T := TX9) (N := 15) hx hb hts iX9_plain_X9 hown hK hP 0 rfl rfl 7 (by decide) (kX9_plain_142 hts) (fun _ h9 => h9) rfl dX9_plain_41 ?_
    refine lv_icmp_ge (tgt := 118) hx hb dX9_plain_44 (by decide) (fun c1 => ?_) (fun c1 => ?_)
    · replace hf := zif_t hf c1
      exact wX9_plain_118 C hN hK hA hE hr_2 hf hP hD hS (lv_sub hl [0, 1, 2, 3, 4, 5] rfl)
    · replace hf := zif_f hf c1
      refine lv_aload_n hx hb dX9_plain_47 rfl (lv_at hl 0 rfl) ?_
      refine va_get (D := D) (ci := 8) (v := .int t_fault) (C := RX9) (T := TX9) (N := 15) hx hb hts iX9_plain_X9 hown hK hP 0 rfl rfl 6 (by decide) (kX9_plain_129 hts) (fun _ h9 => h9) rfl dX9_plain_48 ?_
      refine lv_if_ne (tgt := 118) hx hb dX9_plain_51 (by decide) (fun c2 => ?_) (fun c2 => ?_)
      · replace hf := zif_f hf c2
        exact wX9_plain_118 C hN hK hA hE hr_2 hf hP hD hS (lv_sub hl [0, 1, 2, 3, 4, 5] rfl)
      · replace hf := zif_t hf c2
        refine lv_iload_n hx hb dX9_plain_54 rfl (lv_at hl 1 rfl) ?_
        refine lv_bipush (v := 8) hx hb dX9_plain_55 (by decide) ?_
        refine lv_icmp_ne (tgt := 71) hx hb dX9_plain_57 (by decide) (fun c3 => ?_) (fun c3 => ?_)
        · replace hf := zif_f hf c3
          refine lv_aload_n hx hb dX9_plain_71 rfl (lv_at hl 0 rfl) ?_
          obtain ⟨r4, u5, u6, hc7, hf⟩ := zb3_in hf
          refine zc_i (va_runV (As := []) (rest := []) C (mX9_next l D cI H.size h_t h_t_now h_t_file h_t_fresh h_t_colour h_t_table h_t_last h_t_one t_wide t_high t_size t_at t_fault t_newWide t_newHigh t_colours t_now t_file t_fresh t_colour t_table t_last t_one r4 u5 u6 hc7) (qX9_plain_X9_next_135 hts) ⟨zP_blind, va_recv hK hP (ci := 8) (q0 := 0) rfl rfl, zpre hK hN hP hD [0, 1, 2, 3, 4, 5, 6, 7] rfl rfl⟩ rfl rfl hl.1 rfl (lv_room (Nat.le_of_ble_eq_true rfl)) dX9_plain_72 ⟨Nat.zero_le _, Nat.zero_le _⟩) hP hD hS hA [0, 1, 2, 3, 4, 5, 6, 7] [] [0, 1, 2, 3, 4, 5, 6, 7] (ws' := zwX9 cI h_t h_t_now h_t_file h_t_fresh h_t_colour h_t_table h_t_last h_t_one t_wide t_high t_size u5 u6 t_newWide t_newHigh t_colours t_now t_file t_fresh t_colour t_table t_last t_one) rfl rfl rfl rfl rfl rfl (fun H locs hP hD hS => ?_)
          refine lv_istore (lv' := [(6, .int r4), (0, .ref h_t), (1, .int l1), (2, .int l2), (3, .int l3), (4, .int l4), (5, .int l5)]) hx hb dX9_plain_75 hl (by decide) rfl (fun ls hl => ?_)
          refine lv_aload_n hx hb dX9_plain_77 rfl (lv_at hl 1 rfl) ?_
          obtain ⟨r8, u9, u10, hc11, hf⟩ := zb3_in hf
          refine zc_i (va_runV (As := []) (rest := []) C (mX9_next l D cI H.size h_t h_t_now h_t_file h_t_fresh h_t_colour h_t_table h_t_last h_t_one t_wide t_high t_size u5 u6 t_newWide t_newHigh t_colours t_now t_file t_fresh t_colour t_table t_last t_one r8 u9 u10 hc11) (qX9_plain_X9_next_135 hts) ⟨zP_blind, va_recv hK hP (ci := 8) (q0 := 0) rfl rfl, zpre hK hN hP hD [0, 1, 2, 3, 4, 5, 6, 7] rfl rfl⟩ rfl rfl hl.1 rfl (lv_room (Nat.le_of_ble_eq_true rfl)) dX9_plain_78 ⟨Nat.zero_le _, Nat.zero_le _⟩) hP hD hS hA [0, 1, 2, 3, 4, 5, 6, 7] [] [0, 1, 2, 3, 4, 5, 6, 7] (ws' := zwX9 cI h_t h_t_now h_t_file h_t_fresh h_t_colour h_t_table h_t_last h_t_one t_wide t_high t_size u9 u10 t_newWide t_newHigh t_colours t_now t_file t_fresh t_colour t_table t_last t_one) rfl rfl rfl rfl rfl rfl (fun H locs hP hD hS => ?_)
          refine lv_istore (lv' := [(7, .int r8), (6, .int r4), (0, .ref h_t), (1, .int l1), (2, .int l2), (3, .int l3), (4, .int l4), (5, .int l5)]) hx hb dX9_plain_81 hl (by decide) rfl (fun ls hl => ?_)
          refine lv_aload_n hx hb dX9_plain_83 rfl (lv_at hl 2 rfl) ?_
          refine lv_aload_n hx hb dX9_plain_84 rfl (lv_at hl 2 rfl) ?_
          obtain ⟨r12, u13, u14, hc15, hf⟩ := zb3_in hf
          refine zc_i (va_runV (As := []) (rest := [.ref h_t]) C (mX9_next l D cI H.size h_t h_t_now h_t_file h_t_fresh h_t_colour h_t_table h_t_last h_t_one t_wide t_high t_size u9 u10 t_newWide t_newHigh t_colours t_now t_file t_fresh t_colour t_table t_last t_one r12 u13 u14 hc15) (qX9_plain_X9_next_135 hts) ⟨zP_blind, va_recv hK hP (ci := 8) (q0 := 0) rfl rfl, zpre hK hN hP hD [0, 1, 2, 3, 4, 5, 6, 7] rfl rfl⟩ rfl rfl hl.1 rfl (lv_room (Nat.le_of_ble_eq_true rfl)) dX9_plain_85 ⟨Nat.zero_le _, Nat.zero_le _⟩) hP hD hS hA [0, 1, 2, 3, 4, 5, 6, 7] [] [0, 1, 2, 3, 4, 5, 6, 7] (ws' := zwX9 cI h_t h_t_now h_t_file h_t_fresh h_t_colour h_t_table h_t_last h_t_one t_wide t_high t_size u13 u14 t_newWide t_newHigh t_colours t_now t_file t_fresh t_colour t_table t_last t_one) rfl rfl rfl rfl rfl rfl (fun H locs hP hD hS => ?_)
          refine lv_iload hx hb dX9_plain_88 (lv_at hl 0 rfl) ?_
          refine lv_iload hx hb dX9_plain_90 (lv_at hl 1 rfl) ?_
          refine lv_sipush (v := 255) hx hb dX9_plain_92 (by decide) ?_
          obtain ⟨u16, hc17, hf⟩ := zb1_in hf
          refine zc_v (va_runV (As := [.int r12, .int r8, .int r4, .int 255]) (rest := []) C (mX9_tone l D cI H.size h_t h_t_now h_t_file h_t_fresh h_t_colour h_t_table h_t_last h_t_one t_wide t_high t_size u13 u14 t_newWide t_newHigh t_colours t_now t_file t_fresh t_colour t_table t_last t_one r12 r8 r4 255 u16 hc17) (qX9_plain_X9_tone_145 hts) ⟨zP_blind, va_recv hK hP (ci := 8) (q0 := 0) rfl rfl, zpre hK hN hP hD [0, 1, 2, 3, 4, 5, 6, 7] rfl rfl⟩ rfl rfl hl.1 rfl (lv_room (Nat.le_of_ble_eq_true rfl)) dX9_plain_95 ⟨Nat.zero_le _, Nat.zero_le _⟩) hP hD hS hA [0, 1, 2, 3, 4, 5, 6, 7] [] [0, 1, 2, 3, 4, 5, 6, 7] (ws' := zwX9 cI h_t h_t_now h_t_file h_t_fresh h_t_colour h_t_table h_t_last h_t_one t_wide t_high t_size u13 u14 t_newWide t_newHigh t_colours t_now t_file t_fresh t_colour t_table t_last u16) rfl rfl rfl rfl rfl rfl (fun H locs hP hD hS => ?_)
          exact wX9_plain_98 C hN hK hA hE hr_2 hr_38 hf hP hD hS (lv_sub hl [2, 3, 4, 5, 6, 7] rfl)
        · replace hf := zif_t hf c3
          refine lv_aload_n hx hb dX9_plain_60 rfl (lv_at hl 0 rfl) ?_
          refine lv_aload_n hx hb dX9_plain_61 rfl (lv_at hl 0 rfl) ?_
          obtain ⟨r18, u19, u20, hc21, hf⟩ := zb3_in hf
          refine zc_i (va_runV (As := []) (rest := [.ref h_t]) C (mX9_next l D cI H.size h_t h_t_now h_t_file h_t_fresh h_t_colour h_t_table h_t_last h_t_one t_wide t_high t_size t_at t_fault t_newWide t_newHigh t_colours t_now t_file t_fresh t_colour t_table t_last t_one r18 u19 u20 hc21) (qX9_plain_X9_next_135 hts) ⟨zP_blind, va_recv hK hP (ci := 8) (q0 := 0) rfl rfl, zpre hK hN hP hD [0, 1, 2, 3, 4, 5, 6, 7] rfl rfl⟩ rfl rfl hl.1 rfl (lv_room (Nat.le_of_ble_eq_true rfl)) dX9_plain_62 ⟨Nat.zero_le _, Nat.zero_le _⟩) hP hD hS hA [0, 1, 2, 3, 4, 5, 6, 7] [] [0, 1, 2, 3, 4, 5, 6, 7] (ws' := zwX9 cI h_t h_t_now h_t_file h_t_fresh h_t_colour h_t_table h_t_last h_t_one t_wide t_high t_size u19 u20 t_newWide t_newHigh t_colours t_now t_file t_fresh t_colour t_table t_last t_one) rfl rfl rfl rfl rfl rfl (fun H locs hP hD hS => ?_)
          obtain ⟨u22, u23, hc24, hf⟩ := zb2_in hf
          refine zc_v (va_runV (As := [.int r18]) (rest := []) C (mX9_colourTone l D cI H.size h_t h_t_now h_t_file h_t_fresh h_t_colour h_t_table h_t_last h_t_one t_wide t_high t_size u19 u20 t_newWide t_newHigh t_colours t_now t_file t_fresh t_colour t_table t_last t_one r18 u22 u23 hc24) (qX9_plain_X9_colourTone_196 hts) ⟨zP_blind, va_recv hK hP (ci := 8) (q0 := 0) rfl rfl, zpre hK hN hP hD [0, 1, 2, 3, 4, 5, 6, 7] rfl rfl⟩ rfl rfl hl.1 rfl (lv_room (Nat.le_of_ble_eq_true rfl)) dX9_plain_65 ⟨Nat.zero_le _, Nat.zero_le _⟩) hP hD hS hA [0, 1, 2, 3, 4, 5, 6, 7] [] [0, 1, 2, 3, 4, 5, 6, 7] (ws' := zwX9 cI h_t h_t_now h_t_file h_t_fresh h_t_colour h_t_table h_t_last h_t_one t_wide t_high t_size u19 u22 t_newWide t_newHigh t_colours t_now t_file t_fresh t_colour t_table t_last u23) rfl rfl rfl rfl rfl rfl (fun H locs hP hD hS => ?_)
          refine lv_goto (tgt := 98) hx hb dX9_plain_68 (by decide) ?_
          exact wX9_plain_98 C hN hK hA hE hr_2 hr_38 hf hP hD hS (lv_sub hl [0, 1, 2, 3, 4, 5] rfl)
set_option maxHeartbeats 4000000 in
set_option maxRecDepth 100000 in
theorem wX9_plain_33 {p : Program} {l : Launch} {e : Env} {s : State} {m : MethodId} {args : Array Value} {below : List Frame} {meth : Method} {c : Code} {D : va_G} {A : Nat → Prop} {Q : State → Prop} {cI : ClassId} {h_t h_t_now h_t_file h_t_fresh h_t_colour h_t_table h_t_last h_t_one : Nat} {t_wide : Int32} {t_high : Int32} {t_size : Int32} {t_newWide : Int32} {t_newHigh : Int32} {t_colours : Int32} {t_now : Nat → Int32} {t_file : Nat → Int32} {t_colour : Nat → Int32} {t_table : Nat → Int32} {t_last : Nat → Int32} {zt_at : Int32} {zt_fault : Int32} {zt_fresh : Nat → Int32} {zt_one : Nat → Int32} (C : CallFix p m c cX9_plain 8 s args wsX9_plain RX9) (hN : zN s) (hK : va_K D vwCl [(cI, .int)] s) (hA : ∀ q, s.heap.size ≤ q → A q) (hE : zEv p l e rmX9_plain s m args below meth c cX9_plain D A Q (zwX9 cI h_t h_t_now h_t_file h_t_fresh h_t_colour h_t_table h_t_last h_t_one t_wide t_high t_size zt_at zt_fault t_newWide t_newHigh t_colours t_now t_file zt_fresh t_colour t_table t_last zt_one)) {rc2 : Int32 → Int32 → Int32 → Int32 → Int32 → Int32 → (Nat → Int32) → (Nat → Int32) → (Nat → Int32) → (Nat → Int32) → Int32 → Int32 → Int32 → Option (Int32 × Int32 × (Nat → Int32) × (Nat → Int32))} (hr_2 : ∀ {t_at : Int32} {t_fault : Int32} {t_fresh : Nat → Int32} {t_one : Nat → Int32} {l1 : Int32} {l2 : Int32} {l3 : Int32} {H : Heap} {locs : List Loc} {ls : Array Slot}, rc2 t_size t_at t_fault t_newWide t_newHigh t_colours t_file t_fresh t_colour t_one l1 l2 l3 = some (zt_at, zt_fault, zt_fresh, zt_one) → va_P D vwCl (zwX9 cI h_t h_t_now h_t_file h_t_fresh h_t_colour h_t_table h_t_last h_t_one t_wide t_high t_size t_at t_fault t_newWide t_newHigh t_colours t_now t_file t_fresh t_colour t_table t_last t_one) H → va_D A (zwX9 cI h_t h_t_now h_t_file h_t_fresh h_t_colour h_t_table h_t_last h_t_one t_wide t_high t_size t_at t_fault t_newWide t_newHigh t_colours t_now t_file t_fresh t_colour t_table t_last t_one) → va_S A s.heap H locs → lv_has ls 8 [(0, .ref h_t), (1, .int l1), (2, .int l2), (3, .int l3)] → W p l e rmX9_plain s m args below meth c H locs 0 0 Q (F0 m 2 ls [])) {t_at : Int32} {t_fault : Int32} {t_fresh : Nat → Int32} {t_one : Nat → Int32} {l1 : Int32} {l2 : Int32} {l3 : Int32} {k0 : Int32} {H : Heap} {locs : List Loc} {ls : Array Slot} : fX9_plain_33 rc2 t_size t_at t_fault t_newWide t_newHigh t_colours t_file t_fresh t_colour t_one l1 l2 l3 k0 = some (zt_at, zt_fault, zt_fresh, zt_one) → va_P D vwCl (zwX9 cI h_t h_t_now h_t_file h_t_fresh h_t_colour h_t_table h_t_last h_t_one t_wide t_high t_size t_at t_fault t_newWide t_newHigh t_colours t_now t_file t_fresh t_colour t_table t_last t_one) H → va_D A (zwX9 cI h_t h_t_now h_t_file h_t_fresh h_t_colour h_t_table h_t_last h_t_one t_wide t_high t_size t_at t_fault t_newWide t_newHigh t_colours t_now t_file t_fresh t_colour t_table t_last t_one) → va_S A s.heap H locs → lv_has ls 8 [(0, .ref h_t), (1, .int l1), (2, .int l2), (3, .int l3)] → W p l e rmX9_plain s m args below meth c H locs 0 0 Q (F0 m 33 ls [.int k0]) := by
  intro hf hP hD hS hl
  obtain ⟨hx, hb, hml, hown, hts⟩ := id C
  unfold fX9_plain_33 at hf
  refine lv_istore (lv' := [(4, .int k0), (0, .ref h_t), (1, .int l1), (2, .int l2), (3, .int l3)]) hx hb dX9_plain_33 hl (by decide) rfl (fun ls hl => ?_)
  refine lv_iconst (v := 0) hx hb dX9_plain_35 (by decide) ?_
  refine lv_istore (lv' := [(5, .int 0), (4, .int k0), (0, .ref h_t), (1, .int l1), (2, .int l2), (3, .int l3)]) hx hb dX9_plain_36 hl (by decide) rfl (fun ls hl => ?_)
  exact wX9_plain_38 C hN hK hA hE hr_2 1000 hf hP hD hS (lv_sub hl [2, 3, 4, 5, 1, 0] rfl)
set_option maxHeartbeats 4000000 in
set_option maxRecDepth 100000 in
theorem wX9_plain_2 {p : Program} {l : Launch} {e : Env} {s : State} {m : MethodId} {args : Array Value} {below : List Frame} {meth : Method} {c : Code} {D : va_G} {A : Nat → Prop} {Q : State → Prop} {cI : ClassId} {h_t h_t_now h_t_file h_t_fresh h_t_colour h_t_table h_t_last h_t_one : Nat} {t_wide : Int32} {t_high : Int32} {t_size : Int32} {t_newWide : Int32} {t_newHigh : Int32} {t_colours : Int32} {t_now : Nat → Int32} {t_file : Nat → Int32} {t_colour : Nat → Int32} {t_table : Nat → Int32} {t_last : Nat → Int32} {zt_at : Int32} {zt_fault : Int32} {zt_fresh : Nat → Int32} {zt_one : Nat → Int32} (C : CallFix p m c cX9_plain 8 s args wsX9_plain RX9) (hN : zN s) (hK : va_K D vwCl [(cI, .int)] s) (hA : ∀ q, s.heap.size ≤ q → A q) (hE : zEv p l e rmX9_plain s m args below meth c cX9_plain D A Q (zwX9 cI h_t h_t_now h_t_file h_t_fresh h_t_colour h_t_table h_t_last h_t_one t_wide t_high t_size zt_at zt_fault t_newWide t_newHigh t_colours t_now t_file zt_fresh t_colour t_table t_last zt_one)) (n : Nat) : ∀ {t_at : Int32} {t_fault : Int32} {t_fresh : Nat → Int32} {t_one : Nat → Int32} {l1 : Int32} {l2 : Int32} {l3 : Int32} {H : Heap} {locs : List Loc} {ls : Array Slot}, fX9_plain_2 n t_size t_at t_fault t_newWide t_newHigh t_colours t_file t_fresh t_colour t_one l1 l2 l3 = some (zt_at, zt_fault, zt_fresh, zt_one) → va_P D vwCl (zwX9 cI h_t h_t_now h_t_file h_t_fresh h_t_colour h_t_table h_t_last h_t_one t_wide t_high t_size t_at t_fault t_newWide t_newHigh t_colours t_now t_file t_fresh t_colour t_table t_last t_one) H → va_D A (zwX9 cI h_t h_t_now h_t_file h_t_fresh h_t_colour h_t_table h_t_last h_t_one t_wide t_high t_size t_at t_fault t_newWide t_newHigh t_colours t_now t_file t_fresh t_colour t_table t_last t_one) → va_S A s.heap H locs → lv_has ls 8 [(0, .ref h_t), (1, .int l1), (2, .int l2), (3, .int l3)] → W p l e rmX9_plain s m args below meth c H locs 0 0 Q (F0 m 2 ls []) := by
  obtain ⟨hx, hb, hml, hown, hts⟩ := id C
  induction n with
  | zero =>
    intro t_at t_fault t_fresh t_one l1 l2 l3 H locs ls hf
    cases hf
  | succ n hr_2 =>
    intro t_at t_fault t_fresh t_one l1 l2 l3 H locs ls hf hP hD hS hl
    rw [fX9_plain_2_s] at hf
    refine lv_iload_n hx hb dX9_plain_2 rfl (lv_at hl 3 rfl) ?_
    refine lv_aload_n hx hb dX9_plain_3 rfl (lv_at hl 0 rfl) ?_
    refine va_get (D := D) (ci := 8) (v := .int t_newHigh) (C := RX9) (T := TX9) (N := 15) hx hb hts iX9_plain_X9 hown hK hP 0 rfl rfl 8 (by decide) (kX9_plain_162 hts) (fun _ h9 => h9) rfl dX9_plain_4 ?_
    refine lv_icmp_ge (tgt := 152) hx hb dX9_plain_7 (by decide) (fun c1 => ?_) (fun c1 => ?_)
    · replace hf := zif_t hf c1
      cases hf
      exact hE _ _ _ _ dX9_plain_152 hP hD hS
    · replace hf := zif_f hf c1
      refine lv_aload_n hx hb dX9_plain_10 rfl (lv_at hl 0 rfl) ?_
      refine va_get (D := D) (ci := 8) (v := .int t_fault) (C := RX9) (T := TX9) (N := 15) hx hb hts iX9_plain_X9 hown hK hP 0 rfl rfl 6 (by decide) (kX9_plain_129 hts) (fun _ h9 => h9) rfl dX9_plain_11 ?_
      refine lv_if_ne (tgt := 152) hx hb dX9_plain_14 (by decide) (fun c2 => ?_) (fun c2 => ?_)
      · replace hf := zif_f hf c2
        cases hf
        exact hE _ _ _ _ dX9_plain_152 hP hD hS
      · replace hf := zif_t hf c2
        refine lv_iload_n hx hb dX9_plain_17 rfl (lv_at hl 2 rfl) ?_
        refine lv_if_eq (tgt := 32) hx hb dX9_plain_18 (by decide) (fun c3 => ?_) (fun c3 => ?_)
        · replace hf := zif_t hf c3
          refine lv_iload_n hx hb dX9_plain_32 rfl (lv_at hl 3 rfl) ?_
          exact wX9_plain_33 C hN hK hA hE hr_2 hf hP hD hS (lv_sub hl [0, 1, 2, 3] rfl)
        · replace hf := zif_f hf c3
          refine lv_aload_n hx hb dX9_plain_21 rfl (lv_at hl 0 rfl) ?_
          refine va_get (D := D) (ci := 8) (v := .int t_newHigh) (C := RX9) (T := TX9) (N := 15) hx hb hts iX9_plain_X9 hown hK hP 0 rfl rfl 8 (by decide) (kX9_plain_162 hts) (fun _ h9 => h9) rfl dX9_plain_22 ?_
          refine lv_iconst (v := 1) hx hb dX9_plain_25 (by decide) ?_
          refine lv_isub hx hb dX9_plain_26 ?_
          refine lv_iload_n hx hb dX9_plain_27 rfl (lv_at hl 3 rfl) ?_
          refine lv_isub hx hb dX9_plain_28 ?_
          refine lv_goto (tgt := 33) hx hb dX9_plain_29 (by decide) ?_
          exact wX9_plain_33 C hN hK hA hE hr_2 hf hP hD hS (lv_sub hl [0, 1, 2, 3] rfl)
set_option maxHeartbeats 4000000 in
set_option maxRecDepth 100000 in
theorem wX9_plain_0 {p : Program} {l : Launch} {e : Env} {s : State} {m : MethodId} {args : Array Value} {below : List Frame} {meth : Method} {c : Code} {D : va_G} {A : Nat → Prop} {Q : State → Prop} {cI : ClassId} {h_t h_t_now h_t_file h_t_fresh h_t_colour h_t_table h_t_last h_t_one : Nat} {t_wide : Int32} {t_high : Int32} {t_size : Int32} {t_newWide : Int32} {t_newHigh : Int32} {t_colours : Int32} {t_now : Nat → Int32} {t_file : Nat → Int32} {t_colour : Nat → Int32} {t_table : Nat → Int32} {t_last : Nat → Int32} {zt_at : Int32} {zt_fault : Int32} {zt_fresh : Nat → Int32} {zt_one : Nat → Int32} (C : CallFix p m c cX9_plain 8 s args wsX9_plain RX9) (hN : zN s) (hK : va_K D vwCl [(cI, .int)] s) (hA : ∀ q, s.heap.size ≤ q → A q) (hE : zEv p l e rmX9_plain s m args below meth c cX9_plain D A Q (zwX9 cI h_t h_t_now h_t_file h_t_fresh h_t_colour h_t_table h_t_last h_t_one t_wide t_high t_size zt_at zt_fault t_newWide t_newHigh t_colours t_now t_file zt_fresh t_colour t_table t_last zt_one)) {t_at : Int32} {t_fault : Int32} {t_fresh : Nat → Int32} {t_one : Nat → Int32} {v0 : Int32} {v1 : Int32} {H : Heap} {locs : List Loc} {ls : Array Slot} : fX9_plain t_size t_at t_fault t_newWide t_newHigh t_colours t_file t_fresh t_colour t_one v0 v1 = some (zt_at, zt_fault, zt_fresh, zt_one) → va_P D vwCl (zwX9 cI h_t h_t_now h_t_file h_t_fresh h_t_colour h_t_table h_t_last h_t_one t_wide t_high t_size t_at t_fault t_newWide t_newHigh t_colours t_now t_file t_fresh t_colour t_table t_last t_one) H → va_D A (zwX9 cI h_t h_t_now h_t_file h_t_fresh h_t_colour h_t_table h_t_last h_t_one t_wide t_high t_size t_at t_fault t_newWide t_newHigh t_colours t_now t_file t_fresh t_colour t_table t_last t_one) → va_S A s.heap H locs → lv_has ls 8 [(0, .ref h_t), (1, .int v0), (2, .int v1)] → W p l e rmX9_plain s m args below meth c H locs 0 0 Q (F0 m 0 ls []) := by
  intro hf hP hD hS hl
  obtain ⟨hx, hb, hml, hown, hts⟩ := id C
  unfold fX9_plain at hf
  refine lv_iconst (v := 0) hx hb dX9_plain_0 (by decide) ?_
  refine lv_istore_n (lv' := [(3, .int 0), (0, .ref h_t), (1, .int v0), (2, .int v1)]) hx hb dX9_plain_1 rfl hl (by decide) rfl (fun ls hl => ?_)
  exact wX9_plain_2 C hN hK hA hE 1000 hf hP hD hS (lv_sub hl [1, 2, 3, 0] rfl)
set_option maxHeartbeats 4000000 in
set_option maxRecDepth 100000 in
theorem mX9_plain (l : Launch) (D : va_G) (cI : ClassId) (sz : Nat) (h_t h_t_now h_t_file h_t_fresh h_t_colour h_t_table h_t_last h_t_one : Nat) (t_wide : Int32) (t_high : Int32) (t_size : Int32) (t_at : Int32) (t_fault : Int32) (t_newWide : Int32) (t_newHigh : Int32) (t_colours : Int32) (t_now : Nat → Int32) (t_file : Nat → Int32) (t_fresh : Nat → Int32) (t_colour : Nat → Int32) (t_table : Nat → Int32) (t_last : Nat → Int32) (t_one : Nat → Int32) (v0 v1 : Int32) (zt_at : Int32) (zt_fault : Int32) (zt_fresh : Nat → Int32) (zt_one : Nat → Int32) (hf : fX9_plain t_size t_at t_fault t_newWide t_newHigh t_colours t_file t_fresh t_colour t_one v0 v1 = some (zt_at, zt_fault, zt_fresh, zt_one)) : Met l yX9_plain wsX9_plain rmX9_plain (va_Pc [.ref h_t, .int v0, .int v1] (zP D [(cI, .int)] (zwX9 cI h_t h_t_now h_t_file h_t_fresh h_t_colour h_t_table h_t_last h_t_one t_wide t_high t_size t_at t_fault t_newWide t_newHigh t_colours t_now t_file t_fresh t_colour t_table t_last t_one) sz)) (zQv D (zwX9 cI h_t h_t_now h_t_file h_t_fresh h_t_colour h_t_table h_t_last h_t_one t_wide t_high t_size t_at t_fault t_newWide t_newHigh t_colours t_now t_file t_fresh t_colour t_table t_last t_one) sz (zwX9 cI h_t h_t_now h_t_file h_t_fresh h_t_colour h_t_table h_t_last h_t_one t_wide t_high t_size zt_at zt_fault t_newWide t_newHigh t_colours t_now t_file zt_fresh t_colour t_table t_last zt_one)) 0 0 (va_A (zwX9 cI h_t h_t_now h_t_file h_t_fresh h_t_colour h_t_table h_t_last h_t_one t_wide t_high t_size t_at t_fault t_newWide t_newHigh t_colours t_now t_file t_fresh t_colour t_table t_last t_one) sz) := by
  refine Met.ofW (cc := cX9_plain) (maxL := 8) (ret := none) (by decide) rfl ?_
  intro p e s m args below meth c s₁ B hml hv
  obtain ⟨rfl, hsz, hP, hK, hD0, hN⟩ := hv
  subst hsz
  have C : CallFix p m c cX9_plain 8 s [.ref h_t, .int v0, .int v1].toArray wsX9_plain RX9 := ⟨B.exec, B.bytes, hml, findClass_of_methodNamed B.named, atoms_spec (ws := wsX9_plain) B.pre⟩
  have hl := lv_entry ([.ref h_t, .int v0, .int v1]) (n := 8) (Nat.le_of_ble_eq_true rfl)
  rw [lg_entry_eq]
  exact wX9_plain_0 (A := va_A (zwX9 cI h_t h_t_now h_t_file h_t_fresh h_t_colour h_t_table h_t_last h_t_one t_wide t_high t_size t_at t_fault t_newWide t_newHigh t_colours t_now t_file t_fresh t_colour t_table t_last t_one) s.heap.size) C hN hK (fun q h => Or.inr h) (fun H locs pc ls d hP hD hS => zend_v C.1 C.2.1 B.returns B.notSynchronized d hP hD hS) hf hP hD0.self va_S.rf hl
def rmX9_dab : Room := { frames := 2, cells := 0, slots := 0, locals := 45 }
theorem kX9_dab_129 {args : Array Value} {s : State} (h : ∀ w ∈ wsX9_dab, w.before args s = true) : (Cond.fieldLink RX9 129 "FourPictureFilesModel" "fault" "I").before args s = true := h _ (by decide +kernel)
theorem kX9_dab_142 {args : Array Value} {s : State} (h : ∀ w ∈ wsX9_dab, w.before args s = true) : (Cond.fieldLink RX9 142 "FourPictureFilesModel" "newWide" "I").before args s = true := h _ (by decide +kernel)
theorem kX9_dab_162 {args : Array Value} {s : State} (h : ∀ w ∈ wsX9_dab, w.before args s = true) : (Cond.fieldLink RX9 162 "FourPictureFilesModel" "newHigh" "I").before args s = true := h _ (by decide +kernel)
theorem iX9_dab_X9 : ∀ w ∈ u_ws RX9 TX9 15, w ∈ wsX9_dab := by decide +kernel
theorem qX9_dab_X9_broken_139 {args : Array Value} {s : State} (hts : ∀ w ∈ wsX9_dab, w.before args s = true) : CallW rmX9_dab s args RX9 RX9 139 yX9_broken cX9_broken 2 none wsX9_broken rmX9_broken 0 0 1 := cwV 1 hts gX9_dab_X9_broken rfl rfl rfl (by decide +kernel) ⟨Nat.le_of_ble_eq_true rfl, Nat.le_of_ble_eq_true rfl⟩
theorem qX9_dab_X9_colourTone_196 {args : Array Value} {s : State} (hts : ∀ w ∈ wsX9_dab, w.before args s = true) : CallW rmX9_dab s args RX9 RX9 196 yX9_colourTone cX9_colourTone 2 none wsX9_colourTone rmX9_colourTone 0 0 1 := cwV 1 hts gX9_dab_X9_colourTone rfl rfl rfl (by decide +kernel) ⟨Nat.le_of_ble_eq_true rfl, Nat.le_of_ble_eq_true rfl⟩
theorem qX9_dab_X9_set_168 {args : Array Value} {s : State} (hts : ∀ w ∈ wsX9_dab, w.before args s = true) : CallW rmX9_dab s args RX9 RX9 168 yX9_set cX9_set 3 none wsX9_set rmX9_set 0 0 1 := cwV 1 hts gX9_dab_X9_set rfl rfl rfl (by decide +kernel) ⟨Nat.le_of_ble_eq_true rfl, Nat.le_of_ble_eq_true rfl⟩
set_option maxHeartbeats 4000000 in
set_option maxRecDepth 100000 in
theorem wX9_dab_22 {p : Program} {l : Launch} {e : Env} {s : State} {m : MethodId} {args : Array Value} {below : List Frame} {meth : Method} {c : Code} {D : va_G} {A : Nat → Prop} {Q : State → Prop} {cI : ClassId} {h_t h_t_now h_t_file h_t_fresh h_t_colour h_t_table h_t_last h_t_one : Nat} {t_wide : Int32} {t_high : Int32} {t_size : Int32} {t_at : Int32} {t_newWide : Int32} {t_newHigh : Int32} {t_colours : Int32} {t_now : Nat → Int32} {t_file : Nat → Int32} {t_colour : Nat → Int32} {t_table : Nat → Int32} {t_last : Nat → Int32} {zt_fault : Int32} {zt_fresh : Nat → Int32} {zt_one : Nat → Int32} (C : CallFix p m c cX9_dab 4 s args wsX9_dab RX9) (hN : zN s) (hK : va_K D vwCl [(cI, .int)] s) (hA : ∀ q, s.heap.size ≤ q → A q) (hE : zEv p l e rmX9_dab s m args below meth c cX9_dab D A Q (zwX9 cI h_t h_t_now h_t_file h_t_fresh h_t_colour h_t_table h_t_last h_t_one t_wide t_high t_size t_at zt_fault t_newWide t_newHigh t_colours t_now t_file zt_fresh t_colour t_table t_last zt_one)) {t_fault : Int32} {t_fresh : Nat → Int32} {t_one : Nat → Int32} {l1 : Int32} {l2 : Int32} {l3 : Int32} {k1 : Int32} {H : Heap} {locs : List Loc} {ls : Array Slot} : fX9_dab_22 t_fault t_newWide t_newHigh t_colours t_fresh t_colour t_one l1 l2 l3 k1 = some (zt_fault, zt_fresh, zt_one) → va_P D vwCl (zwX9 cI h_t h_t_now h_t_file h_t_fresh h_t_colour h_t_table h_t_last h_t_one t_wide t_high t_size t_at t_fault t_newWide t_newHigh t_colours t_now t_file t_fresh t_colour t_table t_last t_one) H → va_D A (zwX9 cI h_t h_t_now h_t_file h_t_fresh h_t_colour h_t_table h_t_last h_t_one t_wide t_high t_size t_at t_fault t_newWide t_newHigh t_colours t_now t_file t_fresh t_colour t_table t_last t_one) → va_S A s.heap H locs → lv_has ls 4 [(0, .ref h_t), (1, .int l1), (2, .int l2), (3, .int l3)] → W p l e rmX9_dab s m args below meth c H locs 0 0 Q (F0 m 22 ls [.int k1, .ref h_t]) := by
  intro hf hP hD hS hl
  obtain ⟨hx, hb, hml, hown, hts⟩ := id C
  unfold fX9_dab_22 at hf
  obtain ⟨u1, hc2, hf⟩ := zb1_in hf
  refine zc_v (va_runV (As := [.int k1]) (rest := []) C (mX9_broken l D cI H.size h_t h_t_now h_t_file h_t_fresh h_t_colour h_t_table h_t_last h_t_one t_wide t_high t_size t_at t_fault t_newWide t_newHigh t_colours t_now t_file t_fresh t_colour t_table t_last t_one k1 u1 hc2) (qX9_dab_X9_broken_139 hts) ⟨zP_blind, va_recv hK hP (ci := 8) (q0 := 0) rfl rfl, zpre hK hN hP hD [0, 1, 2, 3, 4, 5, 6, 7] rfl rfl⟩ rfl rfl hl.1 rfl (lv_room (Nat.le_of_ble_eq_true rfl)) dX9_dab_22 ⟨Nat.zero_le _, Nat.zero_le _⟩) hP hD hS hA [0, 1, 2, 3, 4, 5, 6, 7] [] [0, 1, 2, 3, 4, 5, 6, 7] (ws' := zwX9 cI h_t h_t_now h_t_file h_t_fresh h_t_colour h_t_table h_t_last h_t_one t_wide t_high t_size t_at u1 t_newWide t_newHigh t_colours t_now t_file t_fresh t_colour t_table t_last t_one) rfl rfl rfl rfl rfl rfl (fun H locs hP hD hS => ?_)
  refine lv_aload_n hx hb dX9_dab_25 rfl (lv_at hl 0 rfl) ?_
  refine lv_iload_n hx hb dX9_dab_26 rfl (lv_at hl 3 rfl) ?_
  obtain ⟨u3, u4, hc5, hf⟩ := zb2_in hf
  refine zc_v (va_runV (As := [.int l3]) (rest := []) C (mX9_colourTone l D cI H.size h_t h_t_now h_t_file h_t_fresh h_t_colour h_t_table h_t_last h_t_one t_wide t_high t_size t_at u1 t_newWide t_newHigh t_colours t_now t_file t_fresh t_colour t_table t_last t_one l3 u3 u4 hc5) (qX9_dab_X9_colourTone_196 hts) ⟨zP_blind, va_recv hK hP (ci := 8) (q0 := 0) rfl rfl, zpre hK hN hP hD [0, 1, 2, 3, 4, 5, 6, 7] rfl rfl⟩ rfl rfl hl.1 rfl (lv_room (Nat.le_of_ble_eq_true rfl)) dX9_dab_27 ⟨Nat.zero_le _, Nat.zero_le _⟩) hP hD hS hA [0, 1, 2, 3, 4, 5, 6, 7] [] [0, 1, 2, 3, 4, 5, 6, 7] (ws' := zwX9 cI h_t h_t_now h_t_file h_t_fresh h_t_colour h_t_table h_t_last h_t_one t_wide t_high t_size t_at u3 t_newWide t_newHigh t_colours t_now t_file t_fresh t_colour t_table t_last u4) rfl rfl rfl rfl rfl rfl (fun H locs hP hD hS => ?_)
  refine lv_aload_n hx hb dX9_dab_30 rfl (lv_at hl 0 rfl) ?_
  refine va_get (D := D) (ci := 8) (v := .int u3) (C := RX9) (T := TX9) (N := 15) hx hb hts iX9_dab_X9 hown hK hP 0 rfl rfl 6 (by decide) (kX9_dab_129 hts) (fun _ h9 => h9) rfl dX9_dab_31 ?_
  refine lv_if_ne (tgt := 56) hx hb dX9_dab_34 (by decide) (fun c6 => ?_) (fun c6 => ?_)
  · replace hf := zif_f hf c6
    cases hf
    exact hE _ _ _ _ dX9_dab_56 hP hD hS
  · replace hf := zif_t hf c6
    refine lv_aload_n hx hb dX9_dab_37 rfl (lv_at hl 0 rfl) ?_
    refine lv_aload_n hx hb dX9_dab_38 rfl (lv_at hl 0 rfl) ?_
    refine va_get (D := D) (ci := 8) (v := .int t_newWide) (C := RX9) (T := TX9) (N := 15) hx hb hts iX9_dab_X9 hown hK hP 0 rfl rfl 7 (by decide) (kX9_dab_142 hts) (fun _ h9 => h9) rfl dX9_dab_39 ?_
    refine lv_aload_n hx hb dX9_dab_42 rfl (lv_at hl 0 rfl) ?_
    refine va_get (D := D) (ci := 8) (v := .int t_newHigh) (C := RX9) (T := TX9) (N := 15) hx hb hts iX9_dab_X9 hown hK hP 0 rfl rfl 8 (by decide) (kX9_dab_162 hts) (fun _ h9 => h9) rfl dX9_dab_43 ?_
    refine lv_iconst (v := 1) hx hb dX9_dab_46 (by decide) ?_
    refine lv_isub hx hb dX9_dab_47 ?_
    refine lv_iload_n hx hb dX9_dab_48 rfl (lv_at hl 2 rfl) ?_
    refine lv_isub hx hb dX9_dab_49 ?_
    refine lv_imul hx hb dX9_dab_50 ?_
    refine lv_iload_n hx hb dX9_dab_51 rfl (lv_at hl 1 rfl) ?_
    refine lv_iadd hx hb dX9_dab_52 ?_
    obtain ⟨u7, hc8, hf⟩ := zb1_in hf
    refine zc_v (va_runV (As := [.int ((t_newWide * ((t_newHigh - 1) - l2)) + l1)]) (rest := []) C (mX9_set l D cI H.size h_t h_t_now h_t_file h_t_fresh h_t_colour h_t_table h_t_last h_t_one t_wide t_high t_size t_at u3 t_newWide t_newHigh t_colours t_now t_file t_fresh t_colour t_table t_last u4 ((t_newWide * ((t_newHigh - 1) - l2)) + l1) u7 hc8) (qX9_dab_X9_set_168 hts) ⟨zP_blind, va_recv hK hP (ci := 8) (q0 := 0) rfl rfl, zpre hK hN hP hD [0, 1, 2, 3, 4, 5, 6, 7] rfl rfl⟩ rfl rfl hl.1 rfl (lv_room (Nat.le_of_ble_eq_true rfl)) dX9_dab_53 ⟨Nat.zero_le _, Nat.zero_le _⟩) hP hD hS hA [0, 1, 2, 3, 4, 5, 6, 7] [] [0, 1, 2, 3, 4, 5, 6, 7] (ws' := zwX9 cI h_t h_t_now h_t_file h_t_fresh h_t_colour h_t_table h_t_last h_t_one t_wide t_high t_size t_at u3 t_newWide t_newHigh t_colours t_now t_file u7 t_colour t_table t_last u4) rfl rfl rfl rfl rfl rfl (fun H locs hP hD hS => ?_)
    cases hf
    exact hE _ _ _ _ dX9_dab_56 hP hD hS
set_option maxHeartbeats 4000000 in
set_option maxRecDepth 100000 in
theorem wX9_dab_17 {p : Program} {l : Launch} {e : Env} {s : State} {m : MethodId} {args : Array Value} {below : List Frame} {meth : Method} {c : Code} {D : va_G} {A : Nat → Prop} {Q : State → Prop} {cI : ClassId} {h_t h_t_now h_t_file h_t_fresh h_t_colour h_t_table h_t_last h_t_one : Nat} {t_wide : Int32} {t_high : Int32} {t_size : Int32} {t_at : Int32} {t_newWide : Int32} {t_newHigh : Int32} {t_colours : Int32} {t_now : Nat → Int32} {t_file : Nat → Int32} {t_colour : Nat → Int32} {t_table : Nat → Int32} {t_last : Nat → Int32} {zt_fault : Int32} {zt_fresh : Nat → Int32} {zt_one : Nat → Int32} (C : CallFix p m c cX9_dab 4 s args wsX9_dab RX9) (hN : zN s) (hK : va_K D vwCl [(cI, .int)] s) (hA : ∀ q, s.heap.size ≤ q → A q) (hE : zEv p l e rmX9_dab s m args below meth c cX9_dab D A Q (zwX9 cI h_t h_t_now h_t_file h_t_fresh h_t_colour h_t_table h_t_last h_t_one t_wide t_high t_size t_at zt_fault t_newWide t_newHigh t_colours t_now t_file zt_fresh t_colour t_table t_last zt_one)) {t_fault : Int32} {t_fresh : Nat → Int32} {t_one : Nat → Int32} {l1 : Int32} {l2 : Int32} {l3 : Int32} {H : Heap} {locs : List Loc} {ls : Array Slot} : fX9_dab_17 t_fault t_newWide t_newHigh t_colours t_fresh t_colour t_one l1 l2 l3 = some (zt_fault, zt_fresh, zt_one) → va_P D vwCl (zwX9 cI h_t h_t_now h_t_file h_t_fresh h_t_colour h_t_table h_t_last h_t_one t_wide t_high t_size t_at t_fault t_newWide t_newHigh t_colours t_now t_file t_fresh t_colour t_table t_last t_one) H → va_D A (zwX9 cI h_t h_t_now h_t_file h_t_fresh h_t_colour h_t_table h_t_last h_t_one t_wide t_high t_size t_at t_fault t_newWide t_newHigh t_colours t_now t_file t_fresh t_colour t_table t_last t_one) → va_S A s.heap H locs → lv_has ls 4 [(0, .ref h_t), (1, .int l1), (2, .int l2), (3, .int l3)] → W p l e rmX9_dab s m args below meth c H locs 0 0 Q (F0 m 17 ls [.ref h_t]) := by
  intro hf hP hD hS hl
  obtain ⟨hx, hb, hml, hown, hts⟩ := id C
  unfold fX9_dab_17 at hf
  refine lv_iconst (v := 1) hx hb dX9_dab_17 (by decide) ?_
  refine lv_goto (tgt := 22) hx hb dX9_dab_18 (by decide) ?_
  exact wX9_dab_22 C hN hK hA hE hf hP hD hS (lv_sub hl [0, 1, 2, 3] rfl)
set_option maxHeartbeats 4000000 in
set_option maxRecDepth 100000 in
theorem wX9_dab_0 {p : Program} {l : Launch} {e : Env} {s : State} {m : MethodId} {args : Array Value} {below : List Frame} {meth : Method} {c : Code} {D : va_G} {A : Nat → Prop} {Q : State → Prop} {cI : ClassId} {h_t h_t_now h_t_file h_t_fresh h_t_colour h_t_table h_t_last h_t_one : Nat} {t_wide : Int32} {t_high : Int32} {t_size : Int32} {t_at : Int32} {t_newWide : Int32} {t_newHigh : Int32} {t_colours : Int32} {t_now : Nat → Int32} {t_file : Nat → Int32} {t_colour : Nat → Int32} {t_table : Nat → Int32} {t_last : Nat → Int32} {zt_fault : Int32} {zt_fresh : Nat → Int32} {zt_one : Nat → Int32} (C : CallFix p m c cX9_dab 4 s args wsX9_dab RX9) (hN : zN s) (hK : va_K D vwCl [(cI, .int)] s) (hA : ∀ q, s.heap.size ≤ q → A q) (hE : zEv p l e rmX9_dab s m args below meth c cX9_dab D A Q (zwX9 cI h_t h_t_now h_t_file h_t_fresh h_t_colour h_t_table h_t_last h_t_one t_wide t_high t_size t_at zt_fault t_newWide t_newHigh t_colours t_now t_file zt_fresh t_colour t_table t_last zt_one)) {t_fault : Int32} {t_fresh : Nat → Int32} {t_one : Nat → Int32} {v0 : Int32} {v1 : Int32} {v2 : Int32} {H : Heap} {locs : List Loc} {ls : Array Slot} : fX9_dab t_fault t_newWide t_newHigh t_colours t_fresh t_colour t_one v0 v1 v2 = some (zt_fault, zt_fresh, zt_one) → va_P D vwCl (zwX9 cI h_t h_t_now h_t_file h_t_fresh h_t_colour h_t_table h_t_last h_t_one t_wide t_high t_size t_at t_fault t_newWide t_newHigh t_colours t_now t_file t_fresh t_colour t_table t_last t_one) H → va_D A (zwX9 cI h_t h_t_now h_t_file h_t_fresh h_t_colour h_t_table h_t_last h_t_one t_wide t_high t_size t_at t_fault t_newWide t_newHigh t_colours t_now t_file t_fresh t_colour t_table t_last t_one) → va_S A s.heap H locs → lv_has ls 4 [(0, .ref h_t), (1, .int v0), (2, .int v1), (3, .int v2)] → W p l e rmX9_dab s m args below meth c H locs 0 0 Q (F0 m 0 ls []) := by
  intro hf hP hD hS hl
  obtain ⟨hx, hb, hml, hown, hts⟩ := id C
  unfold fX9_dab at hf
  refine lv_aload_n hx hb dX9_dab_0 rfl (lv_at hl 0 rfl) ?_
  refine lv_iload_n hx hb dX9_dab_1 rfl (lv_at hl 1 rfl) ?_
  refine lv_aload_n hx hb dX9_dab_2 rfl (lv_at hl 0 rfl) ?_
  refine va_get (D := D) (ci := 8) (v := .int t_newWide) (C := RX9) (T := TX9) (N := 15) hx hb hts iX9_dab_X9 hown hK hP 0 rfl rfl 7 (by decide) (kX9_dab_142 hts) (fun _ h9 => h9) rfl dX9_dab_3 ?_
  refine lv_icmp_ge (tgt := 17) hx hb dX9_dab_6 (by decide) (fun c1 => ?_) (fun c1 => ?_)
  · replace hf := zif_t hf c1
    exact wX9_dab_17 C hN hK hA hE hf hP hD hS (lv_sub hl [0, 1, 2, 3] rfl)
  · replace hf := zif_f hf c1
    refine lv_iload_n hx hb dX9_dab_9 rfl (lv_at hl 2 rfl) ?_
    refine lv_aload_n hx hb dX9_dab_10 rfl (lv_at hl 0 rfl) ?_
    refine va_get (D := D) (ci := 8) (v := .int t_newHigh) (C := RX9) (T := TX9) (N := 15) hx hb hts iX9_dab_X9 hown hK hP 0 rfl rfl 8 (by decide) (kX9_dab_162 hts) (fun _ h9 => h9) rfl dX9_dab_11 ?_
    refine lv_icmp_lt (tgt := 21) hx hb dX9_dab_14 (by decide) (fun c2 => ?_) (fun c2 => ?_)
    · replace hf := zif_t hf c2
      refine lv_iconst (v := 0) hx hb dX9_dab_21 (by decide) ?_
      exact wX9_dab_22 C hN hK hA hE hf hP hD hS (lv_sub hl [0, 1, 2, 3] rfl)
    · replace hf := zif_f hf c2
      exact wX9_dab_17 C hN hK hA hE hf hP hD hS (lv_sub hl [0, 1, 2, 3] rfl)
set_option maxHeartbeats 4000000 in
set_option maxRecDepth 100000 in
theorem mX9_dab (l : Launch) (D : va_G) (cI : ClassId) (sz : Nat) (h_t h_t_now h_t_file h_t_fresh h_t_colour h_t_table h_t_last h_t_one : Nat) (t_wide : Int32) (t_high : Int32) (t_size : Int32) (t_at : Int32) (t_fault : Int32) (t_newWide : Int32) (t_newHigh : Int32) (t_colours : Int32) (t_now : Nat → Int32) (t_file : Nat → Int32) (t_fresh : Nat → Int32) (t_colour : Nat → Int32) (t_table : Nat → Int32) (t_last : Nat → Int32) (t_one : Nat → Int32) (v0 v1 v2 : Int32) (zt_fault : Int32) (zt_fresh : Nat → Int32) (zt_one : Nat → Int32) (hf : fX9_dab t_fault t_newWide t_newHigh t_colours t_fresh t_colour t_one v0 v1 v2 = some (zt_fault, zt_fresh, zt_one)) : Met l yX9_dab wsX9_dab rmX9_dab (va_Pc [.ref h_t, .int v0, .int v1, .int v2] (zP D [(cI, .int)] (zwX9 cI h_t h_t_now h_t_file h_t_fresh h_t_colour h_t_table h_t_last h_t_one t_wide t_high t_size t_at t_fault t_newWide t_newHigh t_colours t_now t_file t_fresh t_colour t_table t_last t_one) sz)) (zQv D (zwX9 cI h_t h_t_now h_t_file h_t_fresh h_t_colour h_t_table h_t_last h_t_one t_wide t_high t_size t_at t_fault t_newWide t_newHigh t_colours t_now t_file t_fresh t_colour t_table t_last t_one) sz (zwX9 cI h_t h_t_now h_t_file h_t_fresh h_t_colour h_t_table h_t_last h_t_one t_wide t_high t_size t_at zt_fault t_newWide t_newHigh t_colours t_now t_file zt_fresh t_colour t_table t_last zt_one)) 0 0 (va_A (zwX9 cI h_t h_t_now h_t_file h_t_fresh h_t_colour h_t_table h_t_last h_t_one t_wide t_high t_size t_at t_fault t_newWide t_newHigh t_colours t_now t_file t_fresh t_colour t_table t_last t_one) sz) := by
  refine Met.ofW (cc := cX9_dab) (maxL := 4) (ret := none) (by decide) rfl ?_
  intro p e s m args below meth c s₁ B hml hv
  obtain ⟨rfl, hsz, hP, hK, hD0, hN⟩ := hv
  subst hsz
  have C : CallFix p m c cX9_dab 4 s [.ref h_t, .int v0, .int v1, .int v2].toArray wsX9_dab RX9 := ⟨B.exec, B.bytes, hml, findClass_of_methodNamed B.named, atoms_spec (ws := wsX9_dab) B.pre⟩
  have hl := lv_entry ([.ref h_t, .int v0, .int v1, .int v2]) (n := 4) (Nat.le_of_ble_eq_true rfl)
  rw [lg_entry_eq]
  exact wX9_dab_0 (A := va_A (zwX9 cI h_t h_t_now h_t_file h_t_fresh h_t_colour h_t_table h_t_last h_t_one t_wide t_high t_size t_at t_fault t_newWide t_newHigh t_colours t_now t_file t_fresh t_colour t_table t_last t_one) s.heap.size) C hN hK (fun q h => Or.inr h) (fun H locs pc ls d hP hD hS => zend_v C.1 C.2.1 B.returns B.notSynchronized d hP hD hS) hf hP hD0.self va_S.rf hl
def rmX9_pieces : Room := { frames := 3, cells := 0, slots := 0, locals := 68 }
theorem kX9_pieces_129 {args : Array Value} {s : State} (h : ∀ w ∈ wsX9_pieces, w.before args s = true) : (Cond.fieldLink RX9 129 "FourPictureFilesModel" "fault" "I").before args s = true := h _ (by decide +kernel)
theorem kX9_pieces_142 {args : Array Value} {s : State} (h : ∀ w ∈ wsX9_pieces, w.before args s = true) : (Cond.fieldLink RX9 142 "FourPictureFilesModel" "newWide" "I").before args s = true := h _ (by decide +kernel)
theorem kX9_pieces_162 {args : Array Value} {s : State} (h : ∀ w ∈ wsX9_pieces, w.before args s = true) : (Cond.fieldLink RX9 162 "FourPictureFilesModel" "newHigh" "I").before args s = true := h _ (by decide +kernel)
theorem kX9_pieces_186 {args : Array Value} {s : State} (h : ∀ w ∈ wsX9_pieces, w.before args s = true) : (Cond.fieldLink RX9 186 "FourPictureFilesModel" "colours" "I").before args s = true := h _ (by decide +kernel)
theorem iX9_pieces_X9 : ∀ w ∈ u_ws RX9 TX9 15, w ∈ wsX9_pieces := by decide +kernel
theorem qX9_pieces_X9_broken_139 {args : Array Value} {s : State} (hts : ∀ w ∈ wsX9_pieces, w.before args s = true) : CallW rmX9_pieces s args RX9 RX9 139 yX9_broken cX9_broken 2 none wsX9_broken rmX9_broken 0 0 1 := cwV 1 hts gX9_pieces_X9_broken rfl rfl rfl (by decide +kernel) ⟨Nat.le_of_ble_eq_true rfl, Nat.le_of_ble_eq_true rfl⟩
theorem qX9_pieces_X9_dab_199 {args : Array Value} {s : State} (hts : ∀ w ∈ wsX9_pieces, w.before args s = true) : CallW rmX9_pieces s args RX9 RX9 199 yX9_dab cX9_dab 4 none wsX9_dab rmX9_dab 0 0 3 := cwV 3 hts gX9_pieces_X9_dab rfl rfl rfl (by decide +kernel) ⟨Nat.le_of_ble_eq_true rfl, Nat.le_of_ble_eq_true rfl⟩
theorem qX9_pieces_X9_next_135 {args : Array Value} {s : State} (hts : ∀ w ∈ wsX9_pieces, w.before args s = true) : CallW rmX9_pieces s args RX9 RX9 135 yX9_next cX9_next 1 (some .int) wsX9_next rmX9_next 0 0 0 := cwV 0 hts gX9_pieces_X9_next rfl rfl rfl (by decide +kernel) ⟨Nat.le_of_ble_eq_true rfl, Nat.le_of_ble_eq_true rfl⟩
theorem qX9_pieces_X9_skip_152 {args : Array Value} {s : State} (hts : ∀ w ∈ wsX9_pieces, w.before args s = true) : CallW rmX9_pieces s args RX9 RX9 152 yX9_skip cX9_skip 3 none wsX9_skip rmX9_skip 0 0 1 := cwV 1 hts gX9_pieces_X9_skip rfl rfl rfl (by decide +kernel) ⟨Nat.le_of_ble_eq_true rfl, Nat.le_of_ble_eq_true rfl⟩
set_option maxHeartbeats 4000000 in
set_option maxRecDepth 100000 in
theorem wX9_pieces_294 {p : Program} {l : Launch} {e : Env} {s : State} {m : MethodId} {args : Array Value} {below : List Frame} {meth : Method} {c : Code} {D : va_G} {A : Nat → Prop} {Q : State → Prop} {cI : ClassId} {h_t h_t_now h_t_file h_t_fresh h_t_colour h_t_table h_t_last h_t_one : Nat} {t_wide : Int32} {t_high : Int32} {t_size : Int32} {t_newWide : Int32} {t_newHigh : Int32} {t_colours : Int32} {t_now : Nat → Int32} {t_file : Nat → Int32} {t_colour : Nat → Int32} {t_table : Nat → Int32} {t_last : Nat → Int32} {zt_at : Int32} {zt_fault : Int32} {zt_fresh : Nat → Int32} {zt_one : Nat → Int32} (C : CallFix p m c cX9_pieces 8 s args wsX9_pieces RX9) (hN : zN s) (hK : va_K D vwCl [(cI, .int)] s) (hA : ∀ q, s.heap.size ≤ q → A q) (hE : zEv p l e rmX9_pieces s m args below meth c cX9_pieces D A Q (zwX9 cI h_t h_t_now h_t_file h_t_fresh h_t_colour h_t_table h_t_last h_t_one t_wide t_high t_size zt_at zt_fault t_newWide t_newHigh t_colours t_now t_file zt_fresh t_colour t_table t_last zt_one)) {rc52 : Int32 → Int32 → Int32 → Int32 → Int32 → Int32 → (Nat → Int32) → (Nat → Int32) → (Nat → Int32) → (Nat → Int32) → Int32 → Int32 → Int32 → Option (Int32 × Int32 × (Nat → Int32) × (Nat → Int32))} (hr_52 : ∀ {t_at : Int32} {t_fault : Int32} {t_fresh : Nat → Int32} {t_one : Nat → Int32} {l1 : Int32} {l2 : Int32} {l3 : Int32} {H : Heap} {locs : List Loc} {ls : Array Slot}, rc52 t_size t_at t_fault t_newWide t_newHigh t_colours t_file t_fresh t_colour t_one l1 l2 l3 = some (zt_at, zt_fault, zt_fresh, zt_one) → va_P D vwCl (zwX9 cI h_t h_t_now h_t_file h_t_fresh h_t_colour h_t_table h_t_last h_t_one t_wide t_high t_size t_at t_fault t_newWide t_newHigh t_colours t_now t_file t_fresh t_colour t_table t_last t_one) H → va_D A (zwX9 cI h_t h_t_now h_t_file h_t_fresh h_t_colour h_t_table h_t_last h_t_one t_wide t_high t_size t_at t_fault t_newWide t_newHigh t_colours t_now t_file t_fresh t_colour t_table t_last t_one) → va_S A s.heap H locs → lv_has ls 8 [(0, .ref h_t), (1, .int l1), (2, .int l2), (3, .int l3)] → W p l e rmX9_pieces s m args below meth c H locs 0 0 Q (F0 m 52 ls [])) {t_at : Int32} {t_fault : Int32} {t_fresh : Nat → Int32} {t_one : Nat → Int32} {l1 : Int32} {l2 : Int32} {l3 : Int32} {l4 : Int32} {l5 : Int32} {k1 : Int32} {H : Heap} {locs : List Loc} {ls : Array Slot} : fX9_pieces_294 rc52 t_size t_at t_fault t_newWide t_newHigh t_colours t_file t_fresh t_colour t_one l1 l2 l3 k1 = some (zt_at, zt_fault, zt_fresh, zt_one) → va_P D vwCl (zwX9 cI h_t h_t_now h_t_file h_t_fresh h_t_colour h_t_table h_t_last h_t_one t_wide t_high t_size t_at t_fault t_newWide t_newHigh t_colours t_now t_file t_fresh t_colour t_table t_last t_one) H → va_D A (zwX9 cI h_t h_t_now h_t_file h_t_fresh h_t_colour h_t_table h_t_last h_t_one t_wide t_high t_size t_at t_fault t_newWide t_newHigh t_colours t_now t_file t_fresh t_colour t_table t_last t_one) → va_S A s.heap H locs → lv_has ls 8 [(0, .ref h_t), (1, .int l1), (2, .int l2), (3, .int l3), (4, .int l4), (5, .int l5)] → W p l e rmX9_pieces s m args below meth c H locs 0 0 Q (F0 m 294 ls [.int k1, .ref h_t]) := by
  intro hf hP hD hS hl
  obtain ⟨hx, hb, hml, hown, hts⟩ := id C
  unfold fX9_pieces_294 at hf
  obtain ⟨u1, hc2, hf⟩ := zb1_in hf
  refine zc_v (va_runV (As := [.int k1]) (rest := []) C (mX9_broken l D cI H.size h_t h_t_now h_t_file h_t_fresh h_t_colour h_t_table h_t_last h_t_one t_wide t_high t_size t_at t_fault t_newWide t_newHigh t_colours t_now t_file t_fresh t_colour t_table t_last t_one k1 u1 hc2) (qX9_pieces_X9_broken_139 hts) ⟨zP_blind, va_recv hK hP (ci := 8) (q0 := 0) rfl rfl, zpre hK hN hP hD [0, 1, 2, 3, 4, 5, 6, 7] rfl rfl⟩ rfl rfl hl.1 rfl (lv_room (Nat.le_of_ble_eq_true rfl)) dX9_pieces_294 ⟨Nat.zero_le _, Nat.zero_le _⟩) hP hD hS hA [0, 1, 2, 3, 4, 5, 6, 7] [] [0, 1, 2, 3, 4, 5, 6, 7] (ws' := zwX9 cI h_t h_t_now h_t_file h_t_fresh h_t_colour h_t_table h_t_last h_t_one t_wide t_high t_size t_at u1 t_newWide t_newHigh t_colours t_now t_file t_fresh t_colour t_table t_last t_one) rfl rfl rfl rfl rfl rfl (fun H locs hP hD hS => ?_)
  refine lv_goto (tgt := 52) hx hb dX9_pieces_297 (by decide) ?_
  exact hr_52 hf hP hD hS (lv_sub hl [0, 1, 2, 3] rfl)
set_option maxHeartbeats 4000000 in
set_option maxRecDepth 100000 in
theorem wX9_pieces_289 {p : Program} {l : Launch} {e : Env} {s : State} {m : MethodId} {args : Array Value} {below : List Frame} {meth : Method} {c : Code} {D : va_G} {A : Nat → Prop} {Q : State → Prop} {cI : ClassId} {h_t h_t_now h_t_file h_t_fresh h_t_colour h_t_table h_t_last h_t_one : Nat} {t_wide : Int32} {t_high : Int32} {t_size : Int32} {t_newWide : Int32} {t_newHigh : Int32} {t_colours : Int32} {t_now : Nat → Int32} {t_file : Nat → Int32} {t_colour : Nat → Int32} {t_table : Nat → Int32} {t_last : Nat → Int32} {zt_at : Int32} {zt_fault : Int32} {zt_fresh : Nat → Int32} {zt_one : Nat → Int32} (C : CallFix p m c cX9_pieces 8 s args wsX9_pieces RX9) (hN : zN s) (hK : va_K D vwCl [(cI, .int)] s) (hA : ∀ q, s.heap.size ≤ q → A q) (hE : zEv p l e rmX9_pieces s m args below meth c cX9_pieces D A Q (zwX9 cI h_t h_t_now h_t_file h_t_fresh h_t_colour h_t_table h_t_last h_t_one t_wide t_high t_size zt_at zt_fault t_newWide t_newHigh t_colours t_now t_file zt_fresh t_colour t_table t_last zt_one)) {rc52 : Int32 → Int32 → Int32 → Int32 → Int32 → Int32 → (Nat → Int32) → (Nat → Int32) → (Nat → Int32) → (Nat → Int32) → Int32 → Int32 → Int32 → Option (Int32 × Int32 × (Nat → Int32) × (Nat → Int32))} (hr_52 : ∀ {t_at : Int32} {t_fault : Int32} {t_fresh : Nat → Int32} {t_one : Nat → Int32} {l1 : Int32} {l2 : Int32} {l3 : Int32} {H : Heap} {locs : List Loc} {ls : Array Slot}, rc52 t_size t_at t_fault t_newWide t_newHigh t_colours t_file t_fresh t_colour t_one l1 l2 l3 = some (zt_at, zt_fault, zt_fresh, zt_one) → va_P D vwCl (zwX9 cI h_t h_t_now h_t_file h_t_fresh h_t_colour h_t_table h_t_last h_t_one t_wide t_high t_size t_at t_fault t_newWide t_newHigh t_colours t_now t_file t_fresh t_colour t_table t_last t_one) H → va_D A (zwX9 cI h_t h_t_now h_t_file h_t_fresh h_t_colour h_t_table h_t_last h_t_one t_wide t_high t_size t_at t_fault t_newWide t_newHigh t_colours t_now t_file t_fresh t_colour t_table t_last t_one) → va_S A s.heap H locs → lv_has ls 8 [(0, .ref h_t), (1, .int l1), (2, .int l2), (3, .int l3)] → W p l e rmX9_pieces s m args below meth c H locs 0 0 Q (F0 m 52 ls [])) {t_at : Int32} {t_fault : Int32} {t_fresh : Nat → Int32} {t_one : Nat → Int32} {l1 : Int32} {l2 : Int32} {l3 : Int32} {l4 : Int32} {l5 : Int32} {H : Heap} {locs : List Loc} {ls : Array Slot} : fX9_pieces_289 rc52 t_size t_at t_fault t_newWide t_newHigh t_colours t_file t_fresh t_colour t_one l1 l2 l3 = some (zt_at, zt_fault, zt_fresh, zt_one) → va_P D vwCl (zwX9 cI h_t h_t_now h_t_file h_t_fresh h_t_colour h_t_table h_t_last h_t_one t_wide t_high t_size t_at t_fault t_newWide t_newHigh t_colours t_now t_file t_fresh t_colour t_table t_last t_one) H → va_D A (zwX9 cI h_t h_t_now h_t_file h_t_fresh h_t_colour h_t_table h_t_last h_t_one t_wide t_high t_size t_at t_fault t_newWide t_newHigh t_colours t_now t_file t_fresh t_colour t_table t_last t_one) → va_S A s.heap H locs → lv_has ls 8 [(0, .ref h_t), (1, .int l1), (2, .int l2), (3, .int l3), (4, .int l4), (5, .int l5)] → W p l e rmX9_pieces s m args below meth c H locs 0 0 Q (F0 m 289 ls [.ref h_t]) := by
  intro hf hP hD hS hl
  obtain ⟨hx, hb, hml, hown, hts⟩ := id C
  unfold fX9_pieces_289 at hf
  refine lv_iconst (v := 1) hx hb dX9_pieces_289 (by decide) ?_
  refine lv_goto (tgt := 294) hx hb dX9_pieces_290 (by decide) ?_
  exact wX9_pieces_294 C hN hK hA hE hr_52 hf hP hD hS (lv_sub hl [0, 1, 2, 3, 4, 5] rfl)
set_option maxHeartbeats 4000000 in
set_option maxRecDepth 100000 in
theorem wX9_pieces_272 {p : Program} {l : Launch} {e : Env} {s : State} {m : MethodId} {args : Array Value} {below : List Frame} {meth : Method} {c : Code} {D : va_G} {A : Nat → Prop} {Q : State → Prop} {cI : ClassId} {h_t h_t_now h_t_file h_t_fresh h_t_colour h_t_table h_t_last h_t_one : Nat} {t_wide : Int32} {t_high : Int32} {t_size : Int32} {t_newWide : Int32} {t_newHigh : Int32} {t_colours : Int32} {t_now : Nat → Int32} {t_file : Nat → Int32} {t_colour : Nat → Int32} {t_table : Nat → Int32} {t_last : Nat → Int32} {zt_at : Int32} {zt_fault : Int32} {zt_fresh : Nat → Int32} {zt_one : Nat → Int32} (C : CallFix p m c cX9_pieces 8 s args wsX9_pieces RX9) (hN : zN s) (hK : va_K D vwCl [(cI, .int)] s) (hA : ∀ q, s.heap.size ≤ q → A q) (hE : zEv p l e rmX9_pieces s m args below meth c cX9_pieces D A Q (zwX9 cI h_t h_t_now h_t_file h_t_fresh h_t_colour h_t_table h_t_last h_t_one t_wide t_high t_size zt_at zt_fault t_newWide t_newHigh t_colours t_now t_file zt_fresh t_colour t_table t_last zt_one)) {rc52 : Int32 → Int32 → Int32 → Int32 → Int32 → Int32 → (Nat → Int32) → (Nat → Int32) → (Nat → Int32) → (Nat → Int32) → Int32 → Int32 → Int32 → Option (Int32 × Int32 × (Nat → Int32) × (Nat → Int32))} (hr_52 : ∀ {t_at : Int32} {t_fault : Int32} {t_fresh : Nat → Int32} {t_one : Nat → Int32} {l1 : Int32} {l2 : Int32} {l3 : Int32} {H : Heap} {locs : List Loc} {ls : Array Slot}, rc52 t_size t_at t_fault t_newWide t_newHigh t_colours t_file t_fresh t_colour t_one l1 l2 l3 = some (zt_at, zt_fault, zt_fresh, zt_one) → va_P D vwCl (zwX9 cI h_t h_t_now h_t_file h_t_fresh h_t_colour h_t_table h_t_last h_t_one t_wide t_high t_size t_at t_fault t_newWide t_newHigh t_colours t_now t_file t_fresh t_colour t_table t_last t_one) H → va_D A (zwX9 cI h_t h_t_now h_t_file h_t_fresh h_t_colour h_t_table h_t_last h_t_one t_wide t_high t_size t_at t_fault t_newWide t_newHigh t_colours t_now t_file t_fresh t_colour t_table t_last t_one) → va_S A s.heap H locs → lv_has ls 8 [(0, .ref h_t), (1, .int l1), (2, .int l2), (3, .int l3)] → W p l e rmX9_pieces s m args below meth c H locs 0 0 Q (F0 m 52 ls [])) {t_at : Int32} {t_fault : Int32} {t_fresh : Nat → Int32} {t_one : Nat → Int32} {l1 : Int32} {l2 : Int32} {l3 : Int32} {l4 : Int32} {l5 : Int32} {H : Heap} {locs : List Loc} {ls : Array Slot} : fX9_pieces_272 rc52 t_size t_at t_fault t_newWide t_newHigh t_colours t_file t_fresh t_colour t_one l1 l2 l3 = some (zt_at, zt_fault, zt_fresh, zt_one) → va_P D vwCl (zwX9 cI h_t h_t_now h_t_file h_t_fresh h_t_colour h_t_table h_t_last h_t_one t_wide t_high t_size t_at t_fault t_newWide t_newHigh t_colours t_now t_file t_fresh t_colour t_table t_last t_one) H → va_D A (zwX9 cI h_t h_t_now h_t_file h_t_fresh h_t_colour h_t_table h_t_last h_t_one t_wide t_high t_size t_at t_fault t_newWide t_newHigh t_colours t_now t_file t_fresh t_colour t_table t_last t_one) → va_S A s.heap H locs → lv_has ls 8 [(0, .ref h_t), (1, .int l1), (2, .int l2), (3, .int l3), (4, .int l4), (5, .int l5)] → W p l e rmX9_pieces s m args below meth c H locs 0 0 Q (F0 m 272 ls []) := by
  intro hf hP hD hS hl
  obtain ⟨hx, hb, hml, hown, hts⟩ := id C
  unfold fX9_pieces_272 at hf
  refine lv_aload_n hx hb dX9_pieces_272 rfl (lv_at hl 0 rfl) ?_
  refine lv_iload_n hx hb dX9_pieces_273 rfl (lv_at hl 1 rfl) ?_
  refine lv_aload_n hx hb dX9_pieces_274 rfl (lv_at hl 0 rfl) ?_
  refine va_get (D := D) (ci := 8) (v := .int t_newWide) (C := RX9) (T := TX9) (N := 15) hx hb hts iX9_pieces_X9 hown hK hP 0 rfl rfl 7 (by decide) (kX9_pieces_142 hts) (fun _ h9 => h9) rfl dX9_pieces_275 ?_
  refine lv_icmp_gt (tgt := 289) hx hb dX9_pieces_278 (by decide) (fun c1 => ?_) (fun c1 => ?_)
  · replace hf := zif_t hf c1
    exact wX9_pieces_289 C hN hK hA hE hr_52 hf hP hD hS (lv_sub hl [0, 1, 2, 3, 4, 5] rfl)
  · replace hf := zif_f hf c1
    refine lv_iload_n hx hb dX9_pieces_281 rfl (lv_at hl 2 rfl) ?_
    refine lv_aload_n hx hb dX9_pieces_282 rfl (lv_at hl 0 rfl) ?_
    refine va_get (D := D) (ci := 8) (v := .int t_newHigh) (C := RX9) (T := TX9) (N := 15) hx hb hts iX9_pieces_X9 hown hK hP 0 rfl rfl 8 (by decide) (kX9_pieces_162 hts) (fun _ h9 => h9) rfl dX9_pieces_283 ?_
    refine lv_icmp_le (tgt := 293) hx hb dX9_pieces_286 (by decide) (fun c2 => ?_) (fun c2 => ?_)
    · replace hf := zif_t hf c2
      refine lv_iconst (v := 0) hx hb dX9_pieces_293 (by decide) ?_
      exact wX9_pieces_294 C hN hK hA hE hr_52 hf hP hD hS (lv_sub hl [0, 1, 2, 3, 4, 5] rfl)
    · replace hf := zif_f hf c2
      exact wX9_pieces_289 C hN hK hA hE hr_52 hf hP hD hS (lv_sub hl [0, 1, 2, 3, 4, 5] rfl)
set_option maxHeartbeats 4000000 in
set_option maxRecDepth 100000 in
theorem wX9_pieces_192 {p : Program} {l : Launch} {e : Env} {s : State} {m : MethodId} {args : Array Value} {below : List Frame} {meth : Method} {c : Code} {D : va_G} {A : Nat → Prop} {Q : State → Prop} {cI : ClassId} {h_t h_t_now h_t_file h_t_fresh h_t_colour h_t_table h_t_last h_t_one : Nat} {t_wide : Int32} {t_high : Int32} {t_size : Int32} {t_newWide : Int32} {t_newHigh : Int32} {t_colours : Int32} {t_now : Nat → Int32} {t_file : Nat → Int32} {t_colour : Nat → Int32} {t_table : Nat → Int32} {t_last : Nat → Int32} {zt_at : Int32} {zt_fault : Int32} {zt_fresh : Nat → Int32} {zt_one : Nat → Int32} (C : CallFix p m c cX9_pieces 8 s args wsX9_pieces RX9) (hN : zN s) (hK : va_K D vwCl [(cI, .int)] s) (hA : ∀ q, s.heap.size ≤ q → A q) (hE : zEv p l e rmX9_pieces s m args below meth c cX9_pieces D A Q (zwX9 cI h_t h_t_now h_t_file h_t_fresh h_t_colour h_t_table h_t_last h_t_one t_wide t_high t_size zt_at zt_fault t_newWide t_newHigh t_colours t_now t_file zt_fresh t_colour t_table t_last zt_one)) {rc52 : Int32 → Int32 → Int32 → Int32 → Int32 → Int32 → (Nat → Int32) → (Nat → Int32) → (Nat → Int32) → (Nat → Int32) → Int32 → Int32 → Int32 → Option (Int32 × Int32 × (Nat → Int32) × (Nat → Int32))} (hr_52 : ∀ {t_at : Int32} {t_fault : Int32} {t_fresh : Nat → Int32} {t_one : Nat → Int32} {l1 : Int32} {l2 : Int32} {l3 : Int32} {H : Heap} {locs : List Loc} {ls : Array Slot}, rc52 t_size t_at t_fault t_newWide t_newHigh t_colours t_file t_fresh t_colour t_one l1 l2 l3 = some (zt_at, zt_fault, zt_fresh, zt_one) → va_P D vwCl (zwX9 cI h_t h_t_now h_t_file h_t_fresh h_t_colour h_t_table h_t_last h_t_one t_wide t_high t_size t_at t_fault t_newWide t_newHigh t_colours t_now t_file t_fresh t_colour t_table t_last t_one) H → va_D A (zwX9 cI h_t h_t_now h_t_file h_t_fresh h_t_colour h_t_table h_t_last h_t_one t_wide t_high t_size t_at t_fault t_newWide t_newHigh t_colours t_now t_file t_fresh t_colour t_table t_last t_one) → va_S A s.heap H locs → lv_has ls 8 [(0, .ref h_t), (1, .int l1), (2, .int l2), (3, .int l3)] → W p l e rmX9_pieces s m args below meth c H locs 0 0 Q (F0 m 52 ls [])) {t_at : Int32} {t_fault : Int32} {t_fresh : Nat → Int32} {t_one : Nat → Int32} {l1 : Int32} {l2 : Int32} {l3 : Int32} {l4 : Int32} {l5 : Int32} {k0 : Int32} {H : Heap} {locs : List Loc} {ls : Array Slot} : fX9_pieces_192 rc52 t_size t_at t_fault t_newWide t_newHigh t_colours t_file t_fresh t_colour t_one l1 l2 k0 = some (zt_at, zt_fault, zt_fresh, zt_one) → va_P D vwCl (zwX9 cI h_t h_t_now h_t_file h_t_fresh h_t_colour h_t_table h_t_last h_t_one t_wide t_high t_size t_at t_fault t_newWide t_newHigh t_colours t_now t_file t_fresh t_colour t_table t_last t_one) H → va_D A (zwX9 cI h_t h_t_now h_t_file h_t_fresh h_t_colour h_t_table h_t_last h_t_one t_wide t_high t_size t_at t_fault t_newWide t_newHigh t_colours t_now t_file t_fresh t_colour t_table t_last t_one) → va_S A s.heap H locs → lv_has ls 8 [(0, .ref h_t), (1, .int l1), (2, .int l2), (3, .int l3), (4, .int l4), (5, .int l5)] → W p l e rmX9_pieces s m args below meth c H locs 0 0 Q (F0 m 192 ls [.int k0]) := by
  intro hf hP hD hS hl
  obtain ⟨hx, hb, hml, hown, hts⟩ := id C
  unfold fX9_pieces_192 at hf
  refine lv_istore_n (lv' := [(3, .int k0), (0, .ref h_t), (1, .int l1), (2, .int l2), (4, .int l4), (5, .int l5)]) hx hb dX9_pieces_192 rfl hl (by decide) rfl (fun ls hl => ?_)
  refine lv_goto (tgt := 272) hx hb dX9_pieces_193 (by decide) ?_
  exact wX9_pieces_272 C hN hK hA hE hr_52 hf hP hD hS (lv_sub hl [1, 2, 3, 0, 4, 5] rfl)
set_option maxHeartbeats 4000000 in
set_option maxRecDepth 100000 in
theorem wX9_pieces_259 {p : Program} {l : Launch} {e : Env} {s : State} {m : MethodId} {args : Array Value} {below : List Frame} {meth : Method} {c : Code} {D : va_G} {A : Nat → Prop} {Q : State → Prop} {cI : ClassId} {h_t h_t_now h_t_file h_t_fresh h_t_colour h_t_table h_t_last h_t_one : Nat} {t_wide : Int32} {t_high : Int32} {t_size : Int32} {t_newWide : Int32} {t_newHigh : Int32} {t_colours : Int32} {t_now : Nat → Int32} {t_file : Nat → Int32} {t_colour : Nat → Int32} {t_table : Nat → Int32} {t_last : Nat → Int32} {zt_at : Int32} {zt_fault : Int32} {zt_fresh : Nat → Int32} {zt_one : Nat → Int32} (C : CallFix p m c cX9_pieces 8 s args wsX9_pieces RX9) (hN : zN s) (hK : va_K D vwCl [(cI, .int)] s) (hA : ∀ q, s.heap.size ≤ q → A q) (hE : zEv p l e rmX9_pieces s m args below meth c cX9_pieces D A Q (zwX9 cI h_t h_t_now h_t_file h_t_fresh h_t_colour h_t_table h_t_last h_t_one t_wide t_high t_size zt_at zt_fault t_newWide t_newHigh t_colours t_now t_file zt_fresh t_colour t_table t_last zt_one)) {rc52 : Int32 → Int32 → Int32 → Int32 → Int32 → Int32 → (Nat → Int32) → (Nat → Int32) → (Nat → Int32) → (Nat → Int32) → Int32 → Int32 → Int32 → Option (Int32 × Int32 × (Nat → Int32) × (Nat → Int32))} (hr_52 : ∀ {t_at : Int32} {t_fault : Int32} {t_fresh : Nat → Int32} {t_one : Nat → Int32} {l1 : Int32} {l2 : Int32} {l3 : Int32} {H : Heap} {locs : List Loc} {ls : Array Slot}, rc52 t_size t_at t_fault t_newWide t_newHigh t_colours t_file t_fresh t_colour t_one l1 l2 l3 = some (zt_at, zt_fault, zt_fresh, zt_one) → va_P D vwCl (zwX9 cI h_t h_t_now h_t_file h_t_fresh h_t_colour h_t_table h_t_last h_t_one t_wide t_high t_size t_at t_fault t_newWide t_newHigh t_colours t_now t_file t_fresh t_colour t_table t_last t_one) H → va_D A (zwX9 cI h_t h_t_now h_t_file h_t_fresh h_t_colour h_t_table h_t_last h_t_one t_wide t_high t_size t_at t_fault t_newWide t_newHigh t_colours t_now t_file t_fresh t_colour t_table t_last t_one) → va_S A s.heap H locs → lv_has ls 8 [(0, .ref h_t), (1, .int l1), (2, .int l2), (3, .int l3)] → W p l e rmX9_pieces s m args below meth c H locs 0 0 Q (F0 m 52 ls [])) {t_at : Int32} {t_fault : Int32} {t_fresh : Nat → Int32} {t_one : Nat → Int32} {l1 : Int32} {l2 : Int32} {l3 : Int32} {l4 : Int32} {l5 : Int32} {l6 : Int32} {H : Heap} {locs : List Loc} {ls : Array Slot} : fX9_pieces_259 rc52 t_size t_at t_fault t_newWide t_newHigh t_colours t_file t_fresh t_colour t_one l1 l2 l3 l5 = some (zt_at, zt_fault, zt_fresh, zt_one) → va_P D vwCl (zwX9 cI h_t h_t_now h_t_file h_t_fresh h_t_colour h_t_table h_t_last h_t_one t_wide t_high t_size t_at t_fault t_newWide t_newHigh t_colours t_now t_file t_fresh t_colour t_table t_last t_one) H → va_D A (zwX9 cI h_t h_t_now h_t_file h_t_fresh h_t_colour h_t_table h_t_last h_t_one t_wide t_high t_size t_at t_fault t_newWide t_newHigh t_colours t_now t_file t_fresh t_colour t_table t_last t_one) → va_S A s.heap H locs → lv_has ls 8 [(0, .ref h_t), (1, .int l1), (2, .int l2), (3, .int l3), (4, .int l4), (5, .int l5), (6, .int l6)] → W p l e rmX9_pieces s m args below meth c H locs 0 0 Q (F0 m 259 ls []) := by
  intro hf hP hD hS hl
  obtain ⟨hx, hb, hml, hown, hts⟩ := id C
  unfold fX9_pieces_259 at hf
  refine lv_iload_n hx hb dX9_pieces_259 rfl (lv_at hl 1 rfl) ?_
  refine lv_iload hx hb dX9_pieces_260 (lv_at hl 5 rfl) ?_
  refine lv_iadd hx hb dX9_pieces_262 ?_
  refine lv_topi (fun x1 ex1 => ?_)
  replace hf := zlet_in hf ex1
  clear ex1
  refine lv_istore_n (lv' := [(1, .int x1), (0, .ref h_t), (2, .int l2), (3, .int l3), (4, .int l4), (5, .int l5), (6, .int l6)]) hx hb dX9_pieces_263 rfl hl (by decide) rfl (fun ls hl => ?_)
  refine lv_aload_n hx hb dX9_pieces_264 rfl (lv_at hl 1 rfl) ?_
  refine lv_iload hx hb dX9_pieces_265 (lv_at hl 5 rfl) ?_
  refine lv_iconst (v := 2) hx hb dX9_pieces_267 (by decide) ?_
  refine lv_irem hx hb dX9_pieces_268 (by decide) ?_
  obtain ⟨u2, u3, hc4, hf⟩ := zb2_in hf
  refine zc_v (va_runV (As := [.int (zrem l5 2)]) (rest := []) C (mX9_skip l D cI H.size h_t h_t_now h_t_file h_t_fresh h_t_colour h_t_table h_t_last h_t_one t_wide t_high t_size t_at t_fault t_newWide t_newHigh t_colours t_now t_file t_fresh t_colour t_table t_last t_one (zrem l5 2) u2 u3 hc4) (qX9_pieces_X9_skip_152 hts) ⟨zP_blind, va_recv hK hP (ci := 8) (q0 := 0) rfl rfl, zpre hK hN hP hD [0, 1, 2, 3, 4, 5, 6, 7] rfl rfl⟩ rfl rfl hl.1 rfl (lv_room (Nat.le_of_ble_eq_true rfl)) dX9_pieces_269 ⟨Nat.zero_le _, Nat.zero_le _⟩) hP hD hS hA [0, 1, 2, 3, 4, 5, 6, 7] [] [0, 1, 2, 3, 4, 5, 6, 7] (ws' := zwX9 cI h_t h_t_now h_t_file h_t_fresh h_t_colour h_t_table h_t_last h_t_one t_wide t_high t_size u2 u3 t_newWide t_newHigh t_colours t_now t_file t_fresh t_colour t_table t_last t_one) rfl rfl rfl rfl rfl rfl (fun H locs hP hD hS => ?_)
  exact wX9_pieces_272 C hN hK hA hE hr_52 hf hP hD hS (lv_sub hl [1, 0, 2, 3, 4, 5] rfl)
set_option maxHeartbeats 4000000 in
set_option maxRecDepth 100000 in
theorem wX9_pieces_222 {p : Program} {l : Launch} {e : Env} {s : State} {m : MethodId} {args : Array Value} {below : List Frame} {meth : Method} {c : Code} {D : va_G} {A : Nat → Prop} {Q : State → Prop} {cI : ClassId} {h_t h_t_now h_t_file h_t_fresh h_t_colour h_t_table h_t_last h_t_one : Nat} {t_wide : Int32} {t_high : Int32} {t_size : Int32} {t_newWide : Int32} {t_newHigh : Int32} {t_colours : Int32} {t_now : Nat → Int32} {t_file : Nat → Int32} {t_colour : Nat → Int32} {t_table : Nat → Int32} {t_last : Nat → Int32} {zt_at : Int32} {zt_fault : Int32} {zt_fresh : Nat → Int32} {zt_one : Nat → Int32} (C : CallFix p m c cX9_pieces 8 s args wsX9_pieces RX9) (hN : zN s) (hK : va_K D vwCl [(cI, .int)] s) (hA : ∀ q, s.heap.size ≤ q → A q) (hE : zEv p l e rmX9_pieces s m args below meth c cX9_pieces D A Q (zwX9 cI h_t h_t_now h_t_file h_t_fresh h_t_colour h_t_table h_t_last h_t_one t_wide t_high t_size zt_at zt_fault t_newWide t_newHigh t_colours t_now t_file zt_fresh t_colour t_table t_last zt_one)) {rc52 : Int32 → Int32 → Int32 → Int32 → Int32 → Int32 → (Nat → Int32) → (Nat → Int32) → (Nat → Int32) → (Nat → Int32) → Int32 → Int32 → Int32 → Option (Int32 × Int32 × (Nat → Int32) × (Nat → Int32))} (hr_52 : ∀ {t_at : Int32} {t_fault : Int32} {t_fresh : Nat → Int32} {t_one : Nat → Int32} {l1 : Int32} {l2 : Int32} {l3 : Int32} {H : Heap} {locs : List Loc} {ls : Array Slot}, rc52 t_size t_at t_fault t_newWide t_newHigh t_colours t_file t_fresh t_colour t_one l1 l2 l3 = some (zt_at, zt_fault, zt_fresh, zt_one) → va_P D vwCl (zwX9 cI h_t h_t_now h_t_file h_t_fresh h_t_colour h_t_table h_t_last h_t_one t_wide t_high t_size t_at t_fault t_newWide t_newHigh t_colours t_now t_file t_fresh t_colour t_table t_last t_one) H → va_D A (zwX9 cI h_t h_t_now h_t_file h_t_fresh h_t_colour h_t_table h_t_last h_t_one t_wide t_high t_size t_at t_fault t_newWide t_newHigh t_colours t_now t_file t_fresh t_colour t_table t_last t_one) → va_S A s.heap H locs → lv_has ls 8 [(0, .ref h_t), (1, .int l1), (2, .int l2), (3, .int l3)] → W p l e rmX9_pieces s m args below meth c H locs 0 0 Q (F0 m 52 ls [])) (n : Nat) : ∀ {t_at : Int32} {t_fault : Int32} {t_fresh : Nat → Int32} {t_one : Nat → Int32} {l1 : Int32} {l2 : Int32} {l3 : Int32} {l4 : Int32} {l5 : Int32} {l6 : Int32} {H : Heap} {locs : List Loc} {ls : Array Slot}, fX9_pieces_222 rc52 n t_size t_at t_fault t_newWide t_newHigh t_colours t_file t_fresh t_colour t_one l1 l2 l3 l5 l6 = some (zt_at, zt_fault, zt_fresh, zt_one) → va_P D vwCl (zwX9 cI h_t h_t_now h_t_file h_t_fresh h_t_colour h_t_table h_t_last h_t_one t_wide t_high t_size t_at t_fault t_newWide t_newHigh t_colours t_now t_file t_fresh t_colour t_table t_last t_one) H → va_D A (zwX9 cI h_t h_t_now h_t_file h_t_fresh h_t_colour h_t_table h_t_last h_t_one t_wide t_high t_size t_at t_fault t_newWide t_newHigh t_colours t_now t_file t_fresh t_colour t_table t_last t_one) → va_S A s.heap H locs → lv_has ls 8 [(0, .ref h_t), (1, .int l1), (2, .int l2), (3, .int l3), (4, .int l4), (5, .int l5), (6, .int l6)] → W p l e rmX9_pieces s m args below meth c H locs 0 0 Q (F0 m 222 ls []) := by
  obtain ⟨hx, hb, hml, hown, hts⟩ := id C
  induction n with
  | zero =>
    intro t_at t_fault t_fresh t_one l1 l2 l3 l4 l5 l6 H locs ls hf
    cases hf
  | succ n hr_222 =>
    intro t_at t_fault t_fresh t_one l1 l2 l3 l4 l5 l6 H locs ls hf hP hD hS hl
    rw [fX9_pieces_222_s] at hf
    refine lv_iload hx hb dX9_pieces_222 (lv_at hl 6 rfl) ?_
    refine lv_iload hx hb dX9_pieces_224 (lv_at hl 5 rfl) ?_
    refine lv_icmp_ge (tgt := 259) hx hb dX9_pieces_226 (by decide) (fun c1 => ?_) (fun c1 => ?_)
    · replace hf := zif_t hf c1
      exact wX9_pieces_259 C hN hK hA hE hr_52 hf hP hD hS (lv_sub hl [0, 1, 2, 3, 4, 5, 6] rfl)
    · replace hf := zif_f hf c1
      refine lv_aload_n hx hb dX9_pieces_229 rfl (lv_at hl 0 rfl) ?_
      refine va_get (D := D) (ci := 8) (v := .int t_fault) (C := RX9) (T := TX9) (N := 15) hx hb hts iX9_pieces_X9 hown hK hP 0 rfl rfl 6 (by decide) (kX9_pieces_129 hts) (fun _ h9 => h9) rfl dX9_pieces_230 ?_
      refine lv_if_ne (tgt := 259) hx hb dX9_pieces_233 (by decide) (fun c2 => ?_) (fun c2 => ?_)
      · replace hf := zif_f hf c2
        exact wX9_pieces_259 C hN hK hA hE hr_52 hf hP hD hS (lv_sub hl [0, 1, 2, 3, 4, 5, 6] rfl)
      · replace hf := zif_t hf c2
        refine lv_aload_n hx hb dX9_pieces_236 rfl (lv_at hl 0 rfl) ?_
        obtain ⟨r3, u4, u5, hc6, hf⟩ := zb3_in hf
        refine zc_i (va_runV (As := []) (rest := []) C (mX9_next l D cI H.size h_t h_t_now h_t_file h_t_fresh h_t_colour h_t_table h_t_last h_t_one t_wide t_high t_size t_at t_fault t_newWide t_newHigh t_colours t_now t_file t_fresh t_colour t_table t_last t_one r3 u4 u5 hc6) (qX9_pieces_X9_next_135 hts) ⟨zP_blind, va_recv hK hP (ci := 8) (q0 := 0) rfl rfl, zpre hK hN hP hD [0, 1, 2, 3, 4, 5, 6, 7] rfl rfl⟩ rfl rfl hl.1 rfl (lv_room (Nat.le_of_ble_eq_true rfl)) dX9_pieces_237 ⟨Nat.zero_le _, Nat.zero_le _⟩) hP hD hS hA [0, 1, 2, 3, 4, 5, 6, 7] [] [0, 1, 2, 3, 4, 5, 6, 7] (ws' := zwX9 cI h_t h_t_now h_t_file h_t_fresh h_t_colour h_t_table h_t_last h_t_one t_wide t_high t_size u4 u5 t_newWide t_newHigh t_colours t_now t_file t_fresh t_colour t_table t_last t_one) rfl rfl rfl rfl rfl rfl (fun H locs hP hD hS => ?_)
        refine lv_istore (lv' := [(7, .int r3), (0, .ref h_t), (1, .int l1), (2, .int l2), (3, .int l3), (4, .int l4), (5, .int l5), (6, .int l6)]) hx hb dX9_pieces_240 hl (by decide) rfl (fun ls hl => ?_)
        refine lv_aload_n hx hb dX9_pieces_242 rfl (lv_at hl 1 rfl) ?_
        refine lv_iload_n hx hb dX9_pieces_243 rfl (lv_at hl 2 rfl) ?_
        refine lv_iload hx hb dX9_pieces_244 (lv_at hl 7 rfl) ?_
        refine lv_iadd hx hb dX9_pieces_246 ?_
        refine lv_iload_n hx hb dX9_pieces_247 rfl (lv_at hl 3 rfl) ?_
        refine lv_iload hx hb dX9_pieces_248 (lv_at hl 0 rfl) ?_
        obtain ⟨u7, u8, u9, hc10, hf⟩ := zb3_in hf
        refine zc_v (va_runV (As := [.int (l1 + l6), .int l2, .int r3]) (rest := []) C (mX9_dab l D cI H.size h_t h_t_now h_t_file h_t_fresh h_t_colour h_t_table h_t_last h_t_one t_wide t_high t_size u4 u5 t_newWide t_newHigh t_colours t_now t_file t_fresh t_colour t_table t_last t_one (l1 + l6) l2 r3 u7 u8 u9 hc10) (qX9_pieces_X9_dab_199 hts) ⟨zP_blind, va_recv hK hP (ci := 8) (q0 := 0) rfl rfl, zpre hK hN hP hD [0, 1, 2, 3, 4, 5, 6, 7] rfl rfl⟩ rfl rfl hl.1 rfl (lv_room (Nat.le_of_ble_eq_true rfl)) dX9_pieces_250 ⟨Nat.zero_le _, Nat.zero_le _⟩) hP hD hS hA [0, 1, 2, 3, 4, 5, 6, 7] [] [0, 1, 2, 3, 4, 5, 6, 7] (ws' := zwX9 cI h_t h_t_now h_t_file h_t_fresh h_t_colour h_t_table h_t_last h_t_one t_wide t_high t_size u4 u7 t_newWide t_newHigh t_colours t_now t_file u8 t_colour t_table t_last u9) rfl rfl rfl rfl rfl rfl (fun H locs hP hD hS => ?_)
        obtain ⟨x11, ex11⟩ : ∃ y : Int32, y = l6 + 1 := ⟨_, rfl⟩
        replace hf := zlet_in hf ex11
        refine lv_iinc (v := x11) (lv' := [(6, .int x11), (7, .int r3), (0, .ref h_t), (1, .int l1), (2, .int l2), (3, .int l3), (4, .int l4), (5, .int l5)]) hx hb dX9_pieces_253 hl (k := 7) rfl (by rw [ex11]; rfl) (by decide) rfl (fun ls hl => ?_)
        clear ex11
        refine lv_goto (tgt := 222) hx hb dX9_pieces_256 (by decide) ?_
        exact hr_222 hf hP hD hS (lv_sub hl [2, 3, 4, 5, 6, 7, 0] rfl)
set_option maxHeartbeats 4000000 in
set_option maxRecDepth 100000 in
theorem wX9_pieces_152 {p : Program} {l : Launch} {e : Env} {s : State} {m : MethodId} {args : Array Value} {below : List Frame} {meth : Method} {c : Code} {D : va_G} {A : Nat → Prop} {Q : State → Prop} {cI : ClassId} {h_t h_t_now h_t_file h_t_fresh h_t_colour h_t_table h_t_last h_t_one : Nat} {t_wide : Int32} {t_high : Int32} {t_size : Int32} {t_newWide : Int32} {t_newHigh : Int32} {t_colours : Int32} {t_now : Nat → Int32} {t_file : Nat → Int32} {t_colour : Nat → Int32} {t_table : Nat → Int32} {t_last : Nat → Int32} {zt_at : Int32} {zt_fault : Int32} {zt_fresh : Nat → Int32} {zt_one : Nat → Int32} (C : CallFix p m c cX9_pieces 8 s args wsX9_pieces RX9) (hN : zN s) (hK : va_K D vwCl [(cI, .int)] s) (hA : ∀ q, s.heap.size ≤ q → A q) (hE : zEv p l e rmX9_pieces s m args below meth c cX9_pieces D A Q (zwX9 cI h_t h_t_now h_t_file h_t_fresh h_t_colour h_t_table h_t_last h_t_one t_wide t_high t_size zt_at zt_fault t_newWide t_newHigh t_colours t_now t_file zt_fresh t_colour t_table t_last zt_one)) {rc52 : Int32 → Int32 → Int32 → Int32 → Int32 → Int32 → (Nat → Int32) → (Nat → Int32) → (Nat → Int32) → (Nat → Int32) → Int32 → Int32 → Int32 → Option (Int32 × Int32 × (Nat → Int32) × (Nat → Int32))} (hr_52 : ∀ {t_at : Int32} {t_fault : Int32} {t_fresh : Nat → Int32} {t_one : Nat → Int32} {l1 : Int32} {l2 : Int32} {l3 : Int32} {H : Heap} {locs : List Loc} {ls : Array Slot}, rc52 t_size t_at t_fault t_newWide t_newHigh t_colours t_file t_fresh t_colour t_one l1 l2 l3 = some (zt_at, zt_fault, zt_fresh, zt_one) → va_P D vwCl (zwX9 cI h_t h_t_now h_t_file h_t_fresh h_t_colour h_t_table h_t_last h_t_one t_wide t_high t_size t_at t_fault t_newWide t_newHigh t_colours t_now t_file t_fresh t_colour t_table t_last t_one) H → va_D A (zwX9 cI h_t h_t_now h_t_file h_t_fresh h_t_colour h_t_table h_t_last h_t_one t_wide t_high t_size t_at t_fault t_newWide t_newHigh t_colours t_now t_file t_fresh t_colour t_table t_last t_one) → va_S A s.heap H locs → lv_has ls 8 [(0, .ref h_t), (1, .int l1), (2, .int l2), (3, .int l3)] → W p l e rmX9_pieces s m args below meth c H locs 0 0 Q (F0 m 52 ls [])) {t_at : Int32} {t_fault : Int32} {t_fresh : Nat → Int32} {t_one : Nat → Int32} {l1 : Int32} {l2 : Int32} {l3 : Int32} {l4 : Int32} {l5 : Int32} {l6 : Int32} {H : Heap} {locs : List Loc} {ls : Array Slot} : fX9_pieces_152 rc52 t_size t_at t_fault t_newWide t_newHigh t_colours t_file t_fresh t_colour t_one l1 l2 l3 l4 = some (zt_at, zt_fault, zt_fresh, zt_one) → va_P D vwCl (zwX9 cI h_t h_t_now h_t_file h_t_fresh h_t_colour h_t_table h_t_last h_t_one t_wide t_high t_size t_at t_fault t_newWide t_newHigh t_colours t_now t_file t_fresh t_colour t_table t_last t_one) H → va_D A (zwX9 cI h_t h_t_now h_t_file h_t_fresh h_t_colour h_t_table h_t_last h_t_one t_wide t_high t_size t_at t_fault t_newWide t_newHigh t_colours t_now t_file t_fresh t_colour t_table t_last t_one) → va_S A s.heap H locs → lv_has ls 8 [(0, .ref h_t), (1, .int l1), (2, .int l2), (3, .int l3), (4, .int l4), (5, .int l5), (6, .int l6)] → W p l e rmX9_pieces s m args below meth c H locs 0 0 Q (F0 m 152 ls []) := by
  intro hf hP hD hS hl
  obtain ⟨hx, hb, hml, hown, hts⟩ := id C
  unfold fX9_pieces_152 at hf
  refine lv_iload_n hx hb dX9_pieces_152 rfl (lv_at hl 1 rfl) ?_
  refine lv_iload hx hb dX9_pieces_153 (lv_at hl 4 rfl) ?_
  refine lv_iadd hx hb dX9_pieces_155 ?_
  refine lv_topi (fun x1 ex1 => ?_)
  replace hf := zlet_in hf ex1
  clear ex1
  refine lv_istore_n (lv' := [(1, .int x1), (0, .ref h_t), (2, .int l2), (3, .int l3), (4, .int l4), (5, .int l5), (6, .int l6)]) hx hb dX9_pieces_156 rfl hl (by decide) rfl (fun ls hl => ?_)
  refine lv_goto (tgt := 272) hx hb dX9_pieces_157 (by decide) ?_
  exact wX9_pieces_272 C hN hK hA hE hr_52 hf hP hD hS (lv_sub hl [1, 0, 2, 3, 4, 5] rfl)
set_option maxHeartbeats 4000000 in
set_option maxRecDepth 100000 in
theorem wX9_pieces_121 {p : Program} {l : Launch} {e : Env} {s : State} {m : MethodId} {args : Array Value} {below : List Frame} {meth : Method} {c : Code} {D : va_G} {A : Nat → Prop} {Q : State → Prop} {cI : ClassId} {h_t h_t_now h_t_file h_t_fresh h_t_colour h_t_table h_t_last h_t_one : Nat} {t_wide : Int32} {t_high : Int32} {t_size : Int32} {t_newWide : Int32} {t_newHigh : Int32} {t_colours : Int32} {t_now : Nat → Int32} {t_file : Nat → Int32} {t_colour : Nat → Int32} {t_table : Nat → Int32} {t_last : Nat → Int32} {zt_at : Int32} {zt_fault : Int32} {zt_fresh : Nat → Int32} {zt_one : Nat → Int32} (C : CallFix p m c cX9_pieces 8 s args wsX9_pieces RX9) (hN : zN s) (hK : va_K D vwCl [(cI, .int)] s) (hA : ∀ q, s.heap.size ≤ q → A q) (hE : zEv p l e rmX9_pieces s m args below meth c cX9_pieces D A Q (zwX9 cI h_t h_t_now h_t_file h_t_fresh h_t_colour h_t_table h_t_last h_t_one t_wide t_high t_size zt_at zt_fault t_newWide t_newHigh t_colours t_now t_file zt_fresh t_colour t_table t_last zt_one)) {rc52 : Int32 → Int32 → Int32 → Int32 → Int32 → Int32 → (Nat → Int32) → (Nat → Int32) → (Nat → Int32) → (Nat → Int32) → Int32 → Int32 → Int32 → Option (Int32 × Int32 × (Nat → Int32) × (Nat → Int32))} (hr_52 : ∀ {t_at : Int32} {t_fault : Int32} {t_fresh : Nat → Int32} {t_one : Nat → Int32} {l1 : Int32} {l2 : Int32} {l3 : Int32} {H : Heap} {locs : List Loc} {ls : Array Slot}, rc52 t_size t_at t_fault t_newWide t_newHigh t_colours t_file t_fresh t_colour t_one l1 l2 l3 = some (zt_at, zt_fault, zt_fresh, zt_one) → va_P D vwCl (zwX9 cI h_t h_t_now h_t_file h_t_fresh h_t_colour h_t_table h_t_last h_t_one t_wide t_high t_size t_at t_fault t_newWide t_newHigh t_colours t_now t_file t_fresh t_colour t_table t_last t_one) H → va_D A (zwX9 cI h_t h_t_now h_t_file h_t_fresh h_t_colour h_t_table h_t_last h_t_one t_wide t_high t_size t_at t_fault t_newWide t_newHigh t_colours t_now t_file t_fresh t_colour t_table t_last t_one) → va_S A s.heap H locs → lv_has ls 8 [(0, .ref h_t), (1, .int l1), (2, .int l2), (3, .int l3)] → W p l e rmX9_pieces s m args below meth c H locs 0 0 Q (F0 m 52 ls [])) (n : Nat) : ∀ {t_at : Int32} {t_fault : Int32} {t_fresh : Nat → Int32} {t_one : Nat → Int32} {l1 : Int32} {l2 : Int32} {l3 : Int32} {l4 : Int32} {l5 : Int32} {l6 : Int32} {H : Heap} {locs : List Loc} {ls : Array Slot}, fX9_pieces_121 rc52 n t_size t_at t_fault t_newWide t_newHigh t_colours t_file t_fresh t_colour t_one l1 l2 l3 l4 l5 l6 = some (zt_at, zt_fault, zt_fresh, zt_one) → va_P D vwCl (zwX9 cI h_t h_t_now h_t_file h_t_fresh h_t_colour h_t_table h_t_last h_t_one t_wide t_high t_size t_at t_fault t_newWide t_newHigh t_colours t_now t_file t_fresh t_colour t_table t_last t_one) H → va_D A (zwX9 cI h_t h_t_now h_t_file h_t_fresh h_t_colour h_t_table h_t_last h_t_one t_wide t_high t_size t_at t_fault t_newWide t_newHigh t_colours t_now t_file t_fresh t_colour t_table t_last t_one) → va_S A s.heap H locs → lv_has ls 8 [(0, .ref h_t), (1, .int l1), (2, .int l2), (3, .int l3), (4, .int l4), (5, .int l5), (6, .int l6)] → W p l e rmX9_pieces s m args below meth c H locs 0 0 Q (F0 m 121 ls []) := by
  obtain ⟨hx, hb, hml, hown, hts⟩ := id C
  induction n with
  | zero =>
    intro t_at t_fault t_fresh t_one l1 l2 l3 l4 l5 l6 H locs ls hf
    cases hf
  | succ n hr_121 =>
    intro t_at t_fault t_fresh t_one l1 l2 l3 l4 l5 l6 H locs ls hf hP hD hS hl
    rw [fX9_pieces_121_s] at hf
    refine lv_iload hx hb dX9_pieces_121 (lv_at hl 6 rfl) ?_
    refine lv_iload hx hb dX9_pieces_123 (lv_at hl 4 rfl) ?_
    refine lv_icmp_ge (tgt := 152) hx hb dX9_pieces_125 (by decide) (fun c1 => ?_) (fun c1 => ?_)
    · replace hf := zif_t hf c1
      exact wX9_pieces_152 C hN hK hA hE hr_52 hf hP hD hS (lv_sub hl [0, 1, 2, 3, 4, 5, 6] rfl)
    · replace hf := zif_f hf c1
      refine lv_aload_n hx hb dX9_pieces_128 rfl (lv_at hl 0 rfl) ?_
      refine va_get (D := D) (ci := 8) (v := .int t_fault) (C := RX9) (T := TX9) (N := 15) hx hb hts iX9_pieces_X9 hown hK hP 0 rfl rfl 6 (by decide) (kX9_pieces_129 hts) (fun _ h9 => h9) rfl dX9_pieces_129 ?_
      refine lv_if_ne (tgt := 152) hx hb dX9_pieces_132 (by decide) (fun c2 => ?_) (fun c2 => ?_)
      · replace hf := zif_f hf c2
        exact wX9_pieces_152 C hN hK hA hE hr_52 hf hP hD hS (lv_sub hl [0, 1, 2, 3, 4, 5, 6] rfl)
      · replace hf := zif_t hf c2
        refine lv_aload_n hx hb dX9_pieces_135 rfl (lv_at hl 0 rfl) ?_
        refine lv_iload_n hx hb dX9_pieces_136 rfl (lv_at hl 1 rfl) ?_
        refine lv_iload hx hb dX9_pieces_137 (lv_at hl 6 rfl) ?_
        refine lv_iadd hx hb dX9_pieces_139 ?_
        refine lv_iload_n hx hb dX9_pieces_140 rfl (lv_at hl 2 rfl) ?_
        refine lv_iload hx hb dX9_pieces_141 (lv_at hl 5 rfl) ?_
        obtain ⟨u3, u4, u5, hc6, hf⟩ := zb3_in hf
        refine zc_v (va_runV (As := [.int (l1 + l6), .int l2, .int l5]) (rest := []) C (mX9_dab l D cI H.size h_t h_t_now h_t_file h_t_fresh h_t_colour h_t_table h_t_last h_t_one t_wide t_high t_size t_at t_fault t_newWide t_newHigh t_colours t_now t_file t_fresh t_colour t_table t_last t_one (l1 + l6) l2 l5 u3 u4 u5 hc6) (qX9_pieces_X9_dab_199 hts) ⟨zP_blind, va_recv hK hP (ci := 8) (q0 := 0) rfl rfl, zpre hK hN hP hD [0, 1, 2, 3, 4, 5, 6, 7] rfl rfl⟩ rfl rfl hl.1 rfl (lv_room (Nat.le_of_ble_eq_true rfl)) dX9_pieces_143 ⟨Nat.zero_le _, Nat.zero_le _⟩) hP hD hS hA [0, 1, 2, 3, 4, 5, 6, 7] [] [0, 1, 2, 3, 4, 5, 6, 7] (ws' := zwX9 cI h_t h_t_now h_t_file h_t_fresh h_t_colour h_t_table h_t_last h_t_one t_wide t_high t_size t_at u3 t_newWide t_newHigh t_colours t_now t_file u4 t_colour t_table t_last u5) rfl rfl rfl rfl rfl rfl (fun H locs hP hD hS => ?_)
        obtain ⟨x7, ex7⟩ : ∃ y : Int32, y = l6 + 1 := ⟨_, rfl⟩
        replace hf := zlet_in hf ex7
        refine lv_iinc (v := x7) (lv' := [(6, .int x7), (0, .ref h_t), (1, .int l1), (2, .int l2), (3, .int l3), (4, .int l4), (5, .int l5)]) hx hb dX9_pieces_146 hl (k := 6) rfl (by rw [ex7]; rfl) (by decide) rfl (fun ls hl => ?_)
        clear ex7
        refine lv_goto (tgt := 121) hx hb dX9_pieces_149 (by decide) ?_
        exact hr_121 hf hP hD hS (lv_sub hl [1, 2, 3, 4, 5, 6, 0] rfl)
set_option maxHeartbeats 4000000 in
set_option maxRecDepth 100000 in
theorem wX9_pieces_115 {p : Program} {l : Launch} {e : Env} {s : State} {m : MethodId} {args : Array Value} {below : List Frame} {meth : Method} {c : Code} {D : va_G} {A : Nat → Prop} {Q : State → Prop} {cI : ClassId} {h_t h_t_now h_t_file h_t_fresh h_t_colour h_t_table h_t_last h_t_one : Nat} {t_wide : Int32} {t_high : Int32} {t_size : Int32} {t_newWide : Int32} {t_newHigh : Int32} {t_colours : Int32} {t_now : Nat → Int32} {t_file : Nat → Int32} {t_colour : Nat → Int32} {t_table : Nat → Int32} {t_last : Nat → Int32} {zt_at : Int32} {zt_fault : Int32} {zt_fresh : Nat → Int32} {zt_one : Nat → Int32} (C : CallFix p m c cX9_pieces 8 s args wsX9_pieces RX9) (hN : zN s) (hK : va_K D vwCl [(cI, .int)] s) (hA : ∀ q, s.heap.size ≤ q → A q) (hE : zEv p l e rmX9_pieces s m args below meth c cX9_pieces D A Q (zwX9 cI h_t h_t_now h_t_file h_t_fresh h_t_colour h_t_table h_t_last h_t_one t_wide t_high t_size zt_at zt_fault t_newWide t_newHigh t_colours t_now t_file zt_fresh t_colour t_table t_last zt_one)) {rc52 : Int32 → Int32 → Int32 → Int32 → Int32 → Int32 → (Nat → Int32) → (Nat → Int32) → (Nat → Int32) → (Nat → Int32) → Int32 → Int32 → Int32 → Option (Int32 × Int32 × (Nat → Int32) × (Nat → Int32))} (hr_52 : ∀ {t_at : Int32} {t_fault : Int32} {t_fresh : Nat → Int32} {t_one : Nat → Int32} {l1 : Int32} {l2 : Int32} {l3 : Int32} {H : Heap} {locs : List Loc} {ls : Array Slot}, rc52 t_size t_at t_fault t_newWide t_newHigh t_colours t_file t_fresh t_colour t_one l1 l2 l3 = some (zt_at, zt_fault, zt_fresh, zt_one) → va_P D vwCl (zwX9 cI h_t h_t_now h_t_file h_t_fresh h_t_colour h_t_table h_t_last h_t_one t_wide t_high t_size t_at t_fault t_newWide t_newHigh t_colours t_now t_file t_fresh t_colour t_table t_last t_one) H → va_D A (zwX9 cI h_t h_t_now h_t_file h_t_fresh h_t_colour h_t_table h_t_last h_t_one t_wide t_high t_size t_at t_fault t_newWide t_newHigh t_colours t_now t_file t_fresh t_colour t_table t_last t_one) → va_S A s.heap H locs → lv_has ls 8 [(0, .ref h_t), (1, .int l1), (2, .int l2), (3, .int l3)] → W p l e rmX9_pieces s m args below meth c H locs 0 0 Q (F0 m 52 ls [])) {t_at : Int32} {t_fault : Int32} {t_fresh : Nat → Int32} {t_one : Nat → Int32} {l1 : Int32} {l2 : Int32} {l3 : Int32} {l4 : Int32} {l5 : Int32} {k1 : Int32} {H : Heap} {locs : List Loc} {ls : Array Slot} : fX9_pieces_115 rc52 t_size t_at t_fault t_newWide t_newHigh t_colours t_file t_fresh t_colour t_one l1 l2 l3 l4 l5 k1 = some (zt_at, zt_fault, zt_fresh, zt_one) → va_P D vwCl (zwX9 cI h_t h_t_now h_t_file h_t_fresh h_t_colour h_t_table h_t_last h_t_one t_wide t_high t_size t_at t_fault t_newWide t_newHigh t_colours t_now t_file t_fresh t_colour t_table t_last t_one) H → va_D A (zwX9 cI h_t h_t_now h_t_file h_t_fresh h_t_colour h_t_table h_t_last h_t_one t_wide t_high t_size t_at t_fault t_newWide t_newHigh t_colours t_now t_file t_fresh t_colour t_table t_last t_one) → va_S A s.heap H locs → lv_has ls 8 [(0, .ref h_t), (1, .int l1), (2, .int l2), (3, .int l3), (4, .int l4), (5, .int l5)] → W p l e rmX9_pieces s m args below meth c H locs 0 0 Q (F0 m 115 ls [.int k1, .ref h_t]) := by
  intro hf hP hD hS hl
  obtain ⟨hx, hb, hml, hown, hts⟩ := id C
  unfold fX9_pieces_115 at hf
  obtain ⟨u1, hc2, hf⟩ := zb1_in hf
  refine zc_v (va_runV (As := [.int k1]) (rest := []) C (mX9_broken l D cI H.size h_t h_t_now h_t_file h_t_fresh h_t_colour h_t_table h_t_last h_t_one t_wide t_high t_size t_at t_fault t_newWide t_newHigh t_colours t_now t_file t_fresh t_colour t_table t_last t_one k1 u1 hc2) (qX9_pieces_X9_broken_139 hts) ⟨zP_blind, va_recv hK hP (ci := 8) (q0 := 0) rfl rfl, zpre hK hN hP hD [0, 1, 2, 3, 4, 5, 6, 7] rfl rfl⟩ rfl rfl hl.1 rfl (lv_room (Nat.le_of_ble_eq_true rfl)) dX9_pieces_115 ⟨Nat.zero_le _, Nat.zero_le _⟩) hP hD hS hA [0, 1, 2, 3, 4, 5, 6, 7] [] [0, 1, 2, 3, 4, 5, 6, 7] (ws' := zwX9 cI h_t h_t_now h_t_file h_t_fresh h_t_colour h_t_table h_t_last h_t_one t_wide t_high t_size t_at u1 t_newWide t_newHigh t_colours t_now t_file t_fresh t_colour t_table t_last t_one) rfl rfl rfl rfl rfl rfl (fun H locs hP hD hS => ?_)
  refine lv_iconst (v := 0) hx hb dX9_pieces_118 (by decide) ?_
  refine lv_istore (lv' := [(6, .int 0), (0, .ref h_t), (1, .int l1), (2, .int l2), (3, .int l3), (4, .int l4), (5, .int l5)]) hx hb dX9_pieces_119 hl (by decide) rfl (fun ls hl => ?_)
  exact wX9_pieces_121 C hN hK hA hE hr_52 1000 hf hP hD hS (lv_sub hl [1, 2, 3, 4, 5, 6, 0] rfl)
set_option maxHeartbeats 4000000 in
set_option maxRecDepth 100000 in
theorem wX9_pieces_97 {p : Program} {l : Launch} {e : Env} {s : State} {m : MethodId} {args : Array Value} {below : List Frame} {meth : Method} {c : Code} {D : va_G} {A : Nat → Prop} {Q : State → Prop} {cI : ClassId} {h_t h_t_now h_t_file h_t_fresh h_t_colour h_t_table h_t_last h_t_one : Nat} {t_wide : Int32} {t_high : Int32} {t_size : Int32} {t_newWide : Int32} {t_newHigh : Int32} {t_colours : Int32} {t_now : Nat → Int32} {t_file : Nat → Int32} {t_colour : Nat → Int32} {t_table : Nat → Int32} {t_last : Nat → Int32} {zt_at : Int32} {zt_fault : Int32} {zt_fresh : Nat → Int32} {zt_one : Nat → Int32} (C : CallFix p m c cX9_pieces 8 s args wsX9_pieces RX9) (hN : zN s) (hK : va_K D vwCl [(cI, .int)] s) (hA : ∀ q, s.heap.size ≤ q → A q) (hE : zEv p l e rmX9_pieces s m args below meth c cX9_pieces D A Q (zwX9 cI h_t h_t_now h_t_file h_t_fresh h_t_colour h_t_table h_t_last h_t_one t_wide t_high t_size zt_at zt_fault t_newWide t_newHigh t_colours t_now t_file zt_fresh t_colour t_table t_last zt_one)) {rc52 : Int32 → Int32 → Int32 → Int32 → Int32 → Int32 → (Nat → Int32) → (Nat → Int32) → (Nat → Int32) → (Nat → Int32) → Int32 → Int32 → Int32 → Option (Int32 × Int32 × (Nat → Int32) × (Nat → Int32))} (hr_52 : ∀ {t_at : Int32} {t_fault : Int32} {t_fresh : Nat → Int32} {t_one : Nat → Int32} {l1 : Int32} {l2 : Int32} {l3 : Int32} {H : Heap} {locs : List Loc} {ls : Array Slot}, rc52 t_size t_at t_fault t_newWide t_newHigh t_colours t_file t_fresh t_colour t_one l1 l2 l3 = some (zt_at, zt_fault, zt_fresh, zt_one) → va_P D vwCl (zwX9 cI h_t h_t_now h_t_file h_t_fresh h_t_colour h_t_table h_t_last h_t_one t_wide t_high t_size t_at t_fault t_newWide t_newHigh t_colours t_now t_file t_fresh t_colour t_table t_last t_one) H → va_D A (zwX9 cI h_t h_t_now h_t_file h_t_fresh h_t_colour h_t_table h_t_last h_t_one t_wide t_high t_size t_at t_fault t_newWide t_newHigh t_colours t_now t_file t_fresh t_colour t_table t_last t_one) → va_S A s.heap H locs → lv_has ls 8 [(0, .ref h_t), (1, .int l1), (2, .int l2), (3, .int l3)] → W p l e rmX9_pieces s m args below meth c H locs 0 0 Q (F0 m 52 ls [])) {t_at : Int32} {t_fault : Int32} {t_fresh : Nat → Int32} {t_one : Nat → Int32} {l1 : Int32} {l2 : Int32} {l3 : Int32} {l4 : Int32} {l5 : Int32} {k1 : Int32} {H : Heap} {locs : List Loc} {ls : Array Slot} : fX9_pieces_97 rc52 t_size t_at t_fault t_newWide t_newHigh t_colours t_file t_fresh t_colour t_one l1 l2 l3 l4 l5 k1 = some (zt_at, zt_fault, zt_fresh, zt_one) → va_P D vwCl (zwX9 cI h_t h_t_now h_t_file h_t_fresh h_t_colour h_t_table h_t_last h_t_one t_wide t_high t_size t_at t_fault t_newWide t_newHigh t_colours t_now t_file t_fresh t_colour t_table t_last t_one) H → va_D A (zwX9 cI h_t h_t_now h_t_file h_t_fresh h_t_colour h_t_table h_t_last h_t_one t_wide t_high t_size t_at t_fault t_newWide t_newHigh t_colours t_now t_file t_fresh t_colour t_table t_last t_one) → va_S A s.heap H locs → lv_has ls 8 [(0, .ref h_t), (1, .int l1), (2, .int l2), (3, .int l3), (4, .int l4), (5, .int l5)] → W p l e rmX9_pieces s m args below meth c H locs 0 0 Q (F0 m 97 ls [.int k1, .ref h_t]) := by
  intro hf hP hD hS hl
  obtain ⟨hx, hb, hml, hown, hts⟩ := id C
  unfold fX9_pieces_97 at hf
  obtain ⟨u1, hc2, hf⟩ := zb1_in hf
  refine zc_v (va_runV (As := [.int k1]) (rest := []) C (mX9_broken l D cI H.size h_t h_t_now h_t_file h_t_fresh h_t_colour h_t_table h_t_last h_t_one t_wide t_high t_size t_at t_fault t_newWide t_newHigh t_colours t_now t_file t_fresh t_colour t_table t_last t_one k1 u1 hc2) (qX9_pieces_X9_broken_139 hts) ⟨zP_blind, va_recv hK hP (ci := 8) (q0 := 0) rfl rfl, zpre hK hN hP hD [0, 1, 2, 3, 4, 5, 6, 7] rfl rfl⟩ rfl rfl hl.1 rfl (lv_room (Nat.le_of_ble_eq_true rfl)) dX9_pieces_97 ⟨Nat.zero_le _, Nat.zero_le _⟩) hP hD hS hA [0, 1, 2, 3, 4, 5, 6, 7] [] [0, 1, 2, 3, 4, 5, 6, 7] (ws' := zwX9 cI h_t h_t_now h_t_file h_t_fresh h_t_colour h_t_table h_t_last h_t_one t_wide t_high t_size t_at u1 t_newWide t_newHigh t_colours t_now t_file t_fresh t_colour t_table t_last t_one) rfl rfl rfl rfl rfl rfl (fun H locs hP hD hS => ?_)
  refine lv_aload_n hx hb dX9_pieces_100 rfl (lv_at hl 0 rfl) ?_
  refine lv_iload hx hb dX9_pieces_101 (lv_at hl 5 rfl) ?_
  refine lv_aload_n hx hb dX9_pieces_103 rfl (lv_at hl 0 rfl) ?_
  refine va_get (D := D) (ci := 8) (v := .int t_colours) (C := RX9) (T := TX9) (N := 15) hx hb hts iX9_pieces_X9 hown hK hP 0 rfl rfl 10 (by decide) (kX9_pieces_186 hts) (fun _ h9 => h9) rfl dX9_pieces_104 ?_
  refine lv_icmp_lt (tgt := 114) hx hb dX9_pieces_107 (by decide) (fun c3 => ?_) (fun c3 => ?_)
  · replace hf := zif_t hf c3
    refine lv_iconst (v := 0) hx hb dX9_pieces_114 (by decide) ?_
    exact wX9_pieces_115 C hN hK hA hE hr_52 hf hP hD hS (lv_sub hl [0, 1, 2, 3, 4, 5] rfl)
  · replace hf := zif_f hf c3
    refine lv_iconst (v := 1) hx hb dX9_pieces_110 (by decide) ?_
    refine lv_goto (tgt := 115) hx hb dX9_pieces_111 (by decide) ?_
    exact wX9_pieces_115 C hN hK hA hE hr_52 hf hP hD hS (lv_sub hl [0, 1, 2, 3, 4, 5] rfl)
set_option maxHeartbeats 4000000 in
set_option maxRecDepth 100000 in
theorem wX9_pieces_52 {p : Program} {l : Launch} {e : Env} {s : State} {m : MethodId} {args : Array Value} {below : List Frame} {meth : Method} {c : Code} {D : va_G} {A : Nat → Prop} {Q : State → Prop} {cI : ClassId} {h_t h_t_now h_t_file h_t_fresh h_t_colour h_t_table h_t_last h_t_one : Nat} {t_wide : Int32} {t_high : Int32} {t_size : Int32} {t_newWide : Int32} {t_newHigh : Int32} {t_colours : Int32} {t_now : Nat → Int32} {t_file : Nat → Int32} {t_colour : Nat → Int32} {t_table : Nat → Int32} {t_last : Nat → Int32} {zt_at : Int32} {zt_fault : Int32} {zt_fresh : Nat → Int32} {zt_one : Nat → Int32} (C : CallFix p m c cX9_pieces 8 s args wsX9_pieces RX9) (hN : zN s) (hK : va_K D vwCl [(cI, .int)] s) (hA : ∀ q, s.heap.size ≤ q → A q) (hE : zEv p l e rmX9_pieces s m args below meth c cX9_pieces D A Q (zwX9 cI h_t h_t_now h_t_file h_t_fresh h_t_colour h_t_table h_t_last h_t_one t_wide t_high t_size zt_at zt_fault t_newWide t_newHigh t_colours t_now t_file zt_fresh t_colour t_table t_last zt_one)) (n : Nat) : ∀ {t_at : Int32} {t_fault : Int32} {t_fresh : Nat → Int32} {t_one : Nat → Int32} {l1 : Int32} {l2 : Int32} {l3 : Int32} {H : Heap} {locs : List Loc} {ls : Array Slot}, fX9_pieces_52 n t_size t_at t_fault t_newWide t_newHigh t_colours t_file t_fresh t_colour t_one l1 l2 l3 = some (zt_at, zt_fault, zt_fresh, zt_one) → va_P D vwCl (zwX9 cI h_t h_t_now h_t_file h_t_fresh h_t_colour h_t_table h_t_last h_t_one t_wide t_high t_size t_at t_fault t_newWide t_newHigh t_colours t_now t_file t_fresh t_colour t_table t_last t_one) H → va_D A (zwX9 cI h_t h_t_now h_t_file h_t_fresh h_t_colour h_t_table h_t_last h_t_one t_wide t_high t_size t_at t_fault t_newWide t_newHigh t_colours t_now t_file t_fresh t_colour t_table t_last t_one) → va_S A s.heap H locs → lv_has ls 8 [(0, .ref h_t), (1, .int l1), (2, .int l2), (3, .int l3)] → W p l e rmX9_pieces s m args below meth c H locs 0 0 Q (F0 m 52 ls []) := by
  obtain ⟨hx, hb, hml, hown, hts⟩ := id C
  induction n with
  | zero =>
    intro t_at t_fault t_fresh t_one l1 l2 l3 H locs ls hf
    cases hf
  | succ n hr_52 =>
    intro t_at t_fault t_fresh t_one l1 l2 l3 H locs ls hf hP hD hS hl
    rw [fX9_pieces_52_s] at hf
    refine lv_iload_n hx hb dX9_pieces_52 rfl (lv_at hl 3 rfl) ?_
    refine lv_if_eq (tgt := 300) hx hb dX9_pieces_53 (by decide) (fun c1 => ?_) (fun c1 => ?_)
    · replace hf := zif_t hf c1
      cases hf
      exact hE _ _ _ _ dX9_pieces_300 hP hD hS
    · replace hf := zif_f hf c1
      refine lv_aload_n hx hb dX9_pieces_56 rfl (lv_at hl 0 rfl) ?_
      refine va_get (D := D) (ci := 8) (v := .int t_fault) (C := RX9) (T := TX9) (N := 15) hx hb hts iX9_pieces_X9 hown hK hP 0 rfl rfl 6 (by decide) (kX9_pieces_129 hts) (fun _ h9 => h9) rfl dX9_pieces_57 ?_
      refine lv_if_ne (tgt := 300) hx hb dX9_pieces_60 (by decide) (fun c2 => ?_) (fun c2 => ?_)
      · replace hf := zif_f hf c2
        cases hf
        exact hE _ _ _ _ dX9_pieces_300 hP hD hS
      · replace hf := zif_t hf c2
        refine lv_aload_n hx hb dX9_pieces_63 rfl (lv_at hl 0 rfl) ?_
        obtain ⟨r3, u4, u5, hc6, hf⟩ := zb3_in hf
        refine zc_i (va_runV (As := []) (rest := []) C (mX9_next l D cI H.size h_t h_t_now h_t_file h_t_fresh h_t_colour h_t_table h_t_last h_t_one t_wide t_high t_size t_at t_fault t_newWide t_newHigh t_colours t_now t_file t_fresh t_colour t_table t_last t_one r3 u4 u5 hc6) (qX9_pieces_X9_next_135 hts) ⟨zP_blind, va_recv hK hP (ci := 8) (q0 := 0) rfl rfl, zpre hK hN hP hD [0, 1, 2, 3, 4, 5, 6, 7] rfl rfl⟩ rfl rfl hl.1 rfl (lv_room (Nat.le_of_ble_eq_true rfl)) dX9_pieces_64 ⟨Nat.zero_le _, Nat.zero_le _⟩) hP hD hS hA [0, 1, 2, 3, 4, 5, 6, 7] [] [0, 1, 2, 3, 4, 5, 6, 7] (ws' := zwX9 cI h_t h_t_now h_t_file h_t_fresh h_t_colour h_t_table h_t_last h_t_one t_wide t_high t_size u4 u5 t_newWide t_newHigh t_colours t_now t_file t_fresh t_colour t_table t_last t_one) rfl rfl rfl rfl rfl rfl (fun H locs hP hD hS => ?_)
        refine lv_istore (lv' := [(4, .int r3), (0, .ref h_t), (1, .int l1), (2, .int l2), (3, .int l3)]) hx hb dX9_pieces_67 hl (by decide) rfl (fun ls hl => ?_)
        refine lv_aload_n hx hb dX9_pieces_69 rfl (lv_at hl 1 rfl) ?_
        obtain ⟨r7, u8, u9, hc10, hf⟩ := zb3_in hf
        refine zc_i (va_runV (As := []) (rest := []) C (mX9_next l D cI H.size h_t h_t_now h_t_file h_t_fresh h_t_colour h_t_table h_t_last h_t_one t_wide t_high t_size u4 u5 t_newWide t_newHigh t_colours t_now t_file t_fresh t_colour t_table t_last t_one r7 u8 u9 hc10) (qX9_pieces_X9_next_135 hts) ⟨zP_blind, va_recv hK hP (ci := 8) (q0 := 0) rfl rfl, zpre hK hN hP hD [0, 1, 2, 3, 4, 5, 6, 7] rfl rfl⟩ rfl rfl hl.1 rfl (lv_room (Nat.le_of_ble_eq_true rfl)) dX9_pieces_70 ⟨Nat.zero_le _, Nat.zero_le _⟩) hP hD hS hA [0, 1, 2, 3, 4, 5, 6, 7] [] [0, 1, 2, 3, 4, 5, 6, 7] (ws' := zwX9 cI h_t h_t_now h_t_file h_t_fresh h_t_colour h_t_table h_t_last h_t_one t_wide t_high t_size u8 u9 t_newWide t_newHigh t_colours t_now t_file t_fresh t_colour t_table t_last t_one) rfl rfl rfl rfl rfl rfl (fun H locs hP hD hS => ?_)
        refine lv_istore (lv' := [(5, .int r7), (4, .int r3), (0, .ref h_t), (1, .int l1), (2, .int l2), (3, .int l3)]) hx hb dX9_pieces_73 hl (by decide) rfl (fun ls hl => ?_)
        refine lv_iload hx hb dX9_pieces_75 (lv_at hl 1 rfl) ?_
        refine lv_if_le (tgt := 160) hx hb dX9_pieces_77 (by decide) (fun c11 => ?_) (fun c11 => ?_)
        · replace hf := zif_t hf c11
          refine lv_iload hx hb dX9_pieces_160 (lv_at hl 0 rfl) ?_
          refine lv_if_ne (tgt := 174) hx hb dX9_pieces_162 (by decide) (fun c12 => ?_) (fun c12 => ?_)
          · replace hf := zif_f hf c12
            refine lv_iload hx hb dX9_pieces_174 (lv_at hl 0 rfl) ?_
            refine lv_iconst (v := 1) hx hb dX9_pieces_176 (by decide) ?_
            refine lv_icmp_ne (tgt := 196) hx hb dX9_pieces_177 (by decide) (fun c13 => ?_) (fun c13 => ?_)
            · replace hf := zif_f hf c13
              refine lv_iload hx hb dX9_pieces_196 (lv_at hl 0 rfl) ?_
              refine lv_iconst (v := 2) hx hb dX9_pieces_198 (by decide) ?_
              refine lv_icmp_ne (tgt := 219) hx hb dX9_pieces_199 (by decide) (fun c14 => ?_) (fun c14 => ?_)
              · replace hf := zif_f hf c14
                refine lv_iconst (v := 0) hx hb dX9_pieces_219 (by decide) ?_
                refine lv_istore (lv' := [(6, .int 0), (5, .int r7), (4, .int r3), (0, .ref h_t), (1, .int l1), (2, .int l2), (3, .int l3)]) hx hb dX9_pieces_220 hl (by decide) rfl (fun ls hl => ?_)
                exact wX9_pieces_222 C hN hK hA hE hr_52 1000 hf hP hD hS (lv_sub hl [3, 4, 5, 6, 2, 1, 0] rfl)
              · replace hf := zif_t hf c14
                refine lv_iload_n hx hb dX9_pieces_202 rfl (lv_at hl 3 rfl) ?_
                refine lv_aload_n hx hb dX9_pieces_203 rfl (lv_at hl 2 rfl) ?_
                obtain ⟨r15, u16, u17, hc18, hf⟩ := zb3_in hf
                refine zc_i (va_runV (As := []) (rest := [.int l1]) C (mX9_next l D cI H.size h_t h_t_now h_t_file h_t_fresh h_t_colour h_t_table h_t_last h_t_one t_wide t_high t_size u8 u9 t_newWide t_newHigh t_colours t_now t_file t_fresh t_colour t_table t_last t_one r15 u16 u17 hc18) (qX9_pieces_X9_next_135 hts) ⟨zP_blind, va_recv hK hP (ci := 8) (q0 := 0) rfl rfl, zpre hK hN hP hD [0, 1, 2, 3, 4, 5, 6, 7] rfl rfl⟩ rfl rfl hl.1 rfl (lv_room (Nat.le_of_ble_eq_true rfl)) dX9_pieces_204 ⟨Nat.zero_le _, Nat.zero_le _⟩) hP hD hS hA [0, 1, 2, 3, 4, 5, 6, 7] [] [0, 1, 2, 3, 4, 5, 6, 7] (ws' := zwX9 cI h_t h_t_now h_t_file h_t_fresh h_t_colour h_t_table h_t_last h_t_one t_wide t_high t_size u16 u17 t_newWide t_newHigh t_colours t_now t_file t_fresh t_colour t_table t_last t_one) rfl rfl rfl rfl rfl rfl (fun H locs hP hD hS => ?_)
                refine lv_iadd hx hb dX9_pieces_207 ?_
                refine lv_topi (fun x19 ex19 => ?_)
                replace hf := zlet_in hf ex19
                clear ex19
                refine lv_istore_n (lv' := [(1, .int x19), (5, .int r7), (4, .int r3), (0, .ref h_t), (2, .int l2), (3, .int l3)]) hx hb dX9_pieces_208 rfl hl (by decide) rfl (fun ls hl => ?_)
                refine lv_iload_n hx hb dX9_pieces_209 rfl (lv_at hl 4 rfl) ?_
                refine lv_aload_n hx hb dX9_pieces_210 rfl (lv_at hl 3 rfl) ?_
                obtain ⟨r20, u21, u22, hc23, hf⟩ := zb3_in hf
                refine zc_i (va_runV (As := []) (rest := [.int l2]) C (mX9_next l D cI H.size h_t h_t_now h_t_file h_t_fresh h_t_colour h_t_table h_t_last h_t_one t_wide t_high t_size u16 u17 t_newWide t_newHigh t_colours t_now t_file t_fresh t_colour t_table t_last t_one r20 u21 u22 hc23) (qX9_pieces_X9_next_135 hts) ⟨zP_blind, va_recv hK hP (ci := 8) (q0 := 0) rfl rfl, zpre hK hN hP hD [0, 1, 2, 3, 4, 5, 6, 7] rfl rfl⟩ rfl rfl hl.1 rfl (lv_room (Nat.le_of_ble_eq_true rfl)) dX9_pieces_211 ⟨Nat.zero_le _, Nat.zero_le _⟩) hP hD hS hA [0, 1, 2, 3, 4, 5, 6, 7] [] [0, 1, 2, 3, 4, 5, 6, 7] (ws' := zwX9 cI h_t h_t_now h_t_file h_t_fresh h_t_colour h_t_table h_t_last h_t_one t_wide t_high t_size u21 u22 t_newWide t_newHigh t_colours t_now t_file t_fresh t_colour t_table t_last t_one) rfl rfl rfl rfl rfl rfl (fun H locs hP hD hS => ?_)
                refine lv_iadd hx hb dX9_pieces_214 ?_
                refine lv_topi (fun x24 ex24 => ?_)
                replace hf := zlet_in hf ex24
                clear ex24
                refine lv_istore_n (lv' := [(2, .int x24), (1, .int x19), (5, .int r7), (4, .int r3), (0, .ref h_t), (3, .int l3)]) hx hb dX9_pieces_215 rfl hl (by decide) rfl (fun ls hl => ?_)
                refine lv_goto (tgt := 272) hx hb dX9_pieces_216 (by decide) ?_
                exact wX9_pieces_272 C hN hK hA hE hr_52 hf hP hD hS (lv_sub hl [4, 1, 0, 5, 3, 2] rfl)
            · replace hf := zif_t hf c13
              refine lv_aload_n hx hb dX9_pieces_180 rfl (lv_at hl 2 rfl) ?_
              refine va_get (D := D) (ci := 8) (v := .int u9) (C := RX9) (T := TX9) (N := 15) hx hb hts iX9_pieces_X9 hown hK hP 0 rfl rfl 6 (by decide) (kX9_pieces_129 hts) (fun _ h9 => h9) rfl dX9_pieces_181 ?_
              refine lv_if_eq (tgt := 191) hx hb dX9_pieces_184 (by decide) (fun c25 => ?_) (fun c25 => ?_)
              · replace hf := zif_t hf c25
                refine lv_iconst (v := 0) hx hb dX9_pieces_191 (by decide) ?_
                exact wX9_pieces_192 C hN hK hA hE hr_52 hf hP hD hS (lv_sub hl [2, 3, 4, 5, 1, 0] rfl)
              · replace hf := zif_f hf c25
                refine lv_iconst (v := 1) hx hb dX9_pieces_187 (by decide) ?_
                refine lv_goto (tgt := 192) hx hb dX9_pieces_188 (by decide) ?_
                exact wX9_pieces_192 C hN hK hA hE hr_52 hf hP hD hS (lv_sub hl [2, 3, 4, 5, 1, 0] rfl)
          · replace hf := zif_t hf c12
            refine lv_iconst (v := 0) hx hb dX9_pieces_165 (by decide) ?_
            refine lv_istore_n (lv' := [(1, .int 0), (5, .int r7), (4, .int r3), (0, .ref h_t), (2, .int l2), (3, .int l3)]) hx hb dX9_pieces_166 rfl hl (by decide) rfl (fun ls hl => ?_)
            refine lv_iload_n hx hb dX9_pieces_167 rfl (lv_at hl 4 rfl) ?_
            refine lv_iconst (v := 1) hx hb dX9_pieces_168 (by decide) ?_
            refine lv_iadd hx hb dX9_pieces_169 ?_
            refine lv_topi (fun x26 ex26 => ?_)
            replace hf := zlet_in hf ex26
            clear ex26
            refine lv_istore_n (lv' := [(2, .int x26), (1, .int 0), (5, .int r7), (4, .int r3), (0, .ref h_t), (3, .int l3)]) hx hb dX9_pieces_170 rfl hl (by decide) rfl (fun ls hl => ?_)
            refine lv_goto (tgt := 272) hx hb dX9_pieces_171 (by decide) ?_
            exact wX9_pieces_272 C hN hK hA hE hr_52 hf hP hD hS (lv_sub hl [4, 1, 0, 5, 3, 2] rfl)
        · replace hf := zif_f hf c11
          refine lv_aload_n hx hb dX9_pieces_80 rfl (lv_at hl 2 rfl) ?_
          refine lv_iload_n hx hb dX9_pieces_81 rfl (lv_at hl 3 rfl) ?_
          refine lv_iload hx hb dX9_pieces_82 (lv_at hl 1 rfl) ?_
          refine lv_iadd hx hb dX9_pieces_84 ?_
          refine lv_aload_n hx hb dX9_pieces_85 rfl (lv_at hl 2 rfl) ?_
          refine va_get (D := D) (ci := 8) (v := .int t_newWide) (C := RX9) (T := TX9) (N := 15) hx hb hts iX9_pieces_X9 hown hK hP 0 rfl rfl 7 (by decide) (kX9_pieces_142 hts) (fun _ h9 => h9) rfl dX9_pieces_86 ?_
          refine lv_icmp_le (tgt := 96) hx hb dX9_pieces_89 (by decide) (fun c27 => ?_) (fun c27 => ?_)
          · replace hf := zif_t hf c27
            refine lv_iconst (v := 0) hx hb dX9_pieces_96 (by decide) ?_
            exact wX9_pieces_97 C hN hK hA hE hr_52 hf hP hD hS (lv_sub hl [2, 3, 4, 5, 1, 0] rfl)
          · replace hf := zif_f hf c27
            refine lv_iconst (v := 1) hx hb dX9_pieces_92 (by decide) ?_
            refine lv_goto (tgt := 97) hx hb dX9_pieces_93 (by decide) ?_
            exact wX9_pieces_97 C hN hK hA hE hr_52 hf hP hD hS (lv_sub hl [2, 3, 4, 5, 1, 0] rfl)
set_option maxHeartbeats 4000000 in
set_option maxRecDepth 100000 in
theorem wX9_pieces_46 {p : Program} {l : Launch} {e : Env} {s : State} {m : MethodId} {args : Array Value} {below : List Frame} {meth : Method} {c : Code} {D : va_G} {A : Nat → Prop} {Q : State → Prop} {cI : ClassId} {h_t h_t_now h_t_file h_t_fresh h_t_colour h_t_table h_t_last h_t_one : Nat} {t_wide : Int32} {t_high : Int32} {t_size : Int32} {t_newWide : Int32} {t_newHigh : Int32} {t_colours : Int32} {t_now : Nat → Int32} {t_file : Nat → Int32} {t_colour : Nat → Int32} {t_table : Nat → Int32} {t_last : Nat → Int32} {zt_at : Int32} {zt_fault : Int32} {zt_fresh : Nat → Int32} {zt_one : Nat → Int32} (C : CallFix p m c cX9_pieces 8 s args wsX9_pieces RX9) (hN : zN s) (hK : va_K D vwCl [(cI, .int)] s) (hA : ∀ q, s.heap.size ≤ q → A q) (hE : zEv p l e rmX9_pieces s m args below meth c cX9_pieces D A Q (zwX9 cI h_t h_t_now h_t_file h_t_fresh h_t_colour h_t_table h_t_last h_t_one t_wide t_high t_size zt_at zt_fault t_newWide t_newHigh t_colours t_now t_file zt_fresh t_colour t_table t_last zt_one)) {t_at : Int32} {t_fault : Int32} {t_fresh : Nat → Int32} {t_one : Nat → Int32} {l1 : Int32} {H : Heap} {locs : List Loc} {ls : Array Slot} : fX9_pieces_46 t_size t_at t_fault t_newWide t_newHigh t_colours t_file t_fresh t_colour t_one = some (zt_at, zt_fault, zt_fresh, zt_one) → va_P D vwCl (zwX9 cI h_t h_t_now h_t_file h_t_fresh h_t_colour h_t_table h_t_last h_t_one t_wide t_high t_size t_at t_fault t_newWide t_newHigh t_colours t_now t_file t_fresh t_colour t_table t_last t_one) H → va_D A (zwX9 cI h_t h_t_now h_t_file h_t_fresh h_t_colour h_t_table h_t_last h_t_one t_wide t_high t_size t_at t_fault t_newWide t_newHigh t_colours t_now t_file t_fresh t_colour t_table t_last t_one) → va_S A s.heap H locs → lv_has ls 8 [(0, .ref h_t), (1, .int l1)] → W p l e rmX9_pieces s m args below meth c H locs 0 0 Q (F0 m 46 ls []) := by
  intro hf hP hD hS hl
  obtain ⟨hx, hb, hml, hown, hts⟩ := id C
  unfold fX9_pieces_46 at hf
  refine lv_iconst (v := 0) hx hb dX9_pieces_46 (by decide) ?_
  refine lv_istore_n (lv' := [(1, .int 0), (0, .ref h_t)]) hx hb dX9_pieces_47 rfl hl (by decide) rfl (fun ls hl => ?_)
  refine lv_iconst (v := 0) hx hb dX9_pieces_48 (by decide) ?_
  refine lv_istore_n (lv' := [(2, .int 0), (1, .int 0), (0, .ref h_t)]) hx hb dX9_pieces_49 rfl hl (by decide) rfl (fun ls hl => ?_)
  refine lv_iconst (v := 1) hx hb dX9_pieces_50 (by decide) ?_
  refine lv_istore_n (lv' := [(3, .int 1), (2, .int 0), (1, .int 0), (0, .ref h_t)]) hx hb dX9_pieces_51 rfl hl (by decide) rfl (fun ls hl => ?_)
  exact wX9_pieces_52 C hN hK hA hE 1000 hf hP hD hS (lv_sub hl [3, 2, 1, 0] rfl)
set_option maxHeartbeats 4000000 in
set_option maxRecDepth 100000 in
theorem wX9_pieces_19 {p : Program} {l : Launch} {e : Env} {s : State} {m : MethodId} {args : Array Value} {below : List Frame} {meth : Method} {c : Code} {D : va_G} {A : Nat → Prop} {Q : State → Prop} {cI : ClassId} {h_t h_t_now h_t_file h_t_fresh h_t_colour h_t_table h_t_last h_t_one : Nat} {t_wide : Int32} {t_high : Int32} {t_size : Int32} {t_newWide : Int32} {t_newHigh : Int32} {t_colours : Int32} {t_now : Nat → Int32} {t_file : Nat → Int32} {t_colour : Nat → Int32} {t_table : Nat → Int32} {t_last : Nat → Int32} {zt_at : Int32} {zt_fault : Int32} {zt_fresh : Nat → Int32} {zt_one : Nat → Int32} (C : CallFix p m c cX9_pieces 8 s args wsX9_pieces RX9) (hN : zN s) (hK : va_K D vwCl [(cI, .int)] s) (hA : ∀ q, s.heap.size ≤ q → A q) (hE : zEv p l e rmX9_pieces s m args below meth c cX9_pieces D A Q (zwX9 cI h_t h_t_now h_t_file h_t_fresh h_t_colour h_t_table h_t_last h_t_one t_wide t_high t_size zt_at zt_fault t_newWide t_newHigh t_colours t_now t_file zt_fresh t_colour t_table t_last zt_one)) {rc2 : Int32 → Int32 → Int32 → Int32 → Int32 → Int32 → (Nat → Int32) → (Nat → Int32) → (Nat → Int32) → (Nat → Int32) → Int32 → Option (Int32 × Int32 × (Nat → Int32) × (Nat → Int32))} (hr_2 : ∀ {t_at : Int32} {t_fault : Int32} {t_fresh : Nat → Int32} {t_one : Nat → Int32} {l1 : Int32} {H : Heap} {locs : List Loc} {ls : Array Slot}, rc2 t_size t_at t_fault t_newWide t_newHigh t_colours t_file t_fresh t_colour t_one l1 = some (zt_at, zt_fault, zt_fresh, zt_one) → va_P D vwCl (zwX9 cI h_t h_t_now h_t_file h_t_fresh h_t_colour h_t_table h_t_last h_t_one t_wide t_high t_size t_at t_fault t_newWide t_newHigh t_colours t_now t_file t_fresh t_colour t_table t_last t_one) H → va_D A (zwX9 cI h_t h_t_now h_t_file h_t_fresh h_t_colour h_t_table h_t_last h_t_one t_wide t_high t_size t_at t_fault t_newWide t_newHigh t_colours t_now t_file t_fresh t_colour t_table t_last t_one) → va_S A s.heap H locs → lv_has ls 8 [(0, .ref h_t), (1, .int l1)] → W p l e rmX9_pieces s m args below meth c H locs 0 0 Q (F0 m 2 ls [])) (n : Nat) : ∀ {t_at : Int32} {t_fault : Int32} {t_fresh : Nat → Int32} {t_one : Nat → Int32} {l1 : Int32} {l2 : Int32} {H : Heap} {locs : List Loc} {ls : Array Slot}, fX9_pieces_19 rc2 n t_size t_at t_fault t_newWide t_newHigh t_colours t_file t_fresh t_colour t_one l1 l2 = some (zt_at, zt_fault, zt_fresh, zt_one) → va_P D vwCl (zwX9 cI h_t h_t_now h_t_file h_t_fresh h_t_colour h_t_table h_t_last h_t_one t_wide t_high t_size t_at t_fault t_newWide t_newHigh t_colours t_now t_file t_fresh t_colour t_table t_last t_one) H → va_D A (zwX9 cI h_t h_t_now h_t_file h_t_fresh h_t_colour h_t_table h_t_last h_t_one t_wide t_high t_size t_at t_fault t_newWide t_newHigh t_colours t_now t_file t_fresh t_colour t_table t_last t_one) → va_S A s.heap H locs → lv_has ls 8 [(0, .ref h_t), (1, .int l1), (2, .int l2)] → W p l e rmX9_pieces s m args below meth c H locs 0 0 Q (F0 m 19 ls []) := by
  obtain ⟨hx, hb, hml, hown, hts⟩ := id C
  induction n with
  | zero =>
    intro t_at t_fault t_fresh t_one l1 l2 H locs ls hf
    cases hf
  | succ n hr_19 =>
    intro t_at t_fault t_fresh t_one l1 l2 H locs ls hf hP hD hS hl
    rw [fX9_pieces_19_s] at hf
    refine lv_iload_n hx hb dX9_pieces_19 rfl (lv_at hl 2 rfl) ?_
    refine lv_aload_n hx hb dX9_pieces_20 rfl (lv_at hl 0 rfl) ?_
    refine va_get (D := D) (ci := 8) (v := .int t_newWide) (C := RX9) (T := TX9) (N := 15) hx hb hts iX9_pieces_X9 hown hK hP 0 rfl rfl 7 (by decide) (kX9_pieces_142 hts) (fun _ h9 => h9) rfl dX9_pieces_21 ?_
    refine lv_icmp_ge (tgt := 40) hx hb dX9_pieces_24 (by decide) (fun c1 => ?_) (fun c1 => ?_)
    · replace hf := zif_t hf c1
      obtain ⟨x2, ex2⟩ : ∃ y : Int32, y = l1 + 1 := ⟨_, rfl⟩
      replace hf := zlet_in hf ex2
      refine lv_iinc (v := x2) (lv' := [(1, .int x2), (0, .ref h_t), (2, .int l2)]) hx hb dX9_pieces_40 hl (k := 1) rfl (by rw [ex2]; rfl) (by decide) rfl (fun ls hl => ?_)
      clear ex2
      refine lv_goto (tgt := 2) hx hb dX9_pieces_43 (by decide) ?_
      exact hr_2 hf hP hD hS (lv_sub hl [1, 0] rfl)
    · replace hf := zif_f hf c1
      refine lv_aload_n hx hb dX9_pieces_27 rfl (lv_at hl 0 rfl) ?_
      refine lv_iload_n hx hb dX9_pieces_28 rfl (lv_at hl 2 rfl) ?_
      refine lv_iload_n hx hb dX9_pieces_29 rfl (lv_at hl 1 rfl) ?_
      refine lv_iconst (v := 0) hx hb dX9_pieces_30 (by decide) ?_
      obtain ⟨u3, u4, u5, hc6, hf⟩ := zb3_in hf
      refine zc_v (va_runV (As := [.int l2, .int l1, .int 0]) (rest := []) C (mX9_dab l D cI H.size h_t h_t_now h_t_file h_t_fresh h_t_colour h_t_table h_t_last h_t_one t_wide t_high t_size t_at t_fault t_newWide t_newHigh t_colours t_now t_file t_fresh t_colour t_table t_last t_one l2 l1 0 u3 u4 u5 hc6) (qX9_pieces_X9_dab_199 hts) ⟨zP_blind, va_recv hK hP (ci := 8) (q0 := 0) rfl rfl, zpre hK hN hP hD [0, 1, 2, 3, 4, 5, 6, 7] rfl rfl⟩ rfl rfl hl.1 rfl (lv_room (Nat.le_of_ble_eq_true rfl)) dX9_pieces_31 ⟨Nat.zero_le _, Nat.zero_le _⟩) hP hD hS hA [0, 1, 2, 3, 4, 5, 6, 7] [] [0, 1, 2, 3, 4, 5, 6, 7] (ws' := zwX9 cI h_t h_t_now h_t_file h_t_fresh h_t_colour h_t_table h_t_last h_t_one t_wide t_high t_size t_at u3 t_newWide t_newHigh t_colours t_now t_file u4 t_colour t_table t_last u5) rfl rfl rfl rfl rfl rfl (fun H locs hP hD hS => ?_)
      obtain ⟨x7, ex7⟩ : ∃ y : Int32, y = l2 + 1 := ⟨_, rfl⟩
      replace hf := zlet_in hf ex7
      refine lv_iinc (v := x7) (lv' := [(2, .int x7), (0, .ref h_t), (1, .int l1)]) hx hb dX9_pieces_34 hl (k := 2) rfl (by rw [ex7]; rfl) (by decide) rfl (fun ls hl => ?_)
      clear ex7
      refine lv_goto (tgt := 19) hx hb dX9_pieces_37 (by decide) ?_
      exact hr_19 hf hP hD hS (lv_sub hl [1, 2, 0] rfl)
set_option maxHeartbeats 4000000 in
set_option maxRecDepth 100000 in
theorem wX9_pieces_2 {p : Program} {l : Launch} {e : Env} {s : State} {m : MethodId} {args : Array Value} {below : List Frame} {meth : Method} {c : Code} {D : va_G} {A : Nat → Prop} {Q : State → Prop} {cI : ClassId} {h_t h_t_now h_t_file h_t_fresh h_t_colour h_t_table h_t_last h_t_one : Nat} {t_wide : Int32} {t_high : Int32} {t_size : Int32} {t_newWide : Int32} {t_newHigh : Int32} {t_colours : Int32} {t_now : Nat → Int32} {t_file : Nat → Int32} {t_colour : Nat → Int32} {t_table : Nat → Int32} {t_last : Nat → Int32} {zt_at : Int32} {zt_fault : Int32} {zt_fresh : Nat → Int32} {zt_one : Nat → Int32} (C : CallFix p m c cX9_pieces 8 s args wsX9_pieces RX9) (hN : zN s) (hK : va_K D vwCl [(cI, .int)] s) (hA : ∀ q, s.heap.size ≤ q → A q) (hE : zEv p l e rmX9_pieces s m args below meth c cX9_pieces D A Q (zwX9 cI h_t h_t_now h_t_file h_t_fresh h_t_colour h_t_table h_t_last h_t_one t_wide t_high t_size zt_at zt_fault t_newWide t_newHigh t_colours t_now t_file zt_fresh t_colour t_table t_last zt_one)) (n : Nat) : ∀ {t_at : Int32} {t_fault : Int32} {t_fresh : Nat → Int32} {t_one : Nat → Int32} {l1 : Int32} {H : Heap} {locs : List Loc} {ls : Array Slot}, fX9_pieces_2 n t_size t_at t_fault t_newWide t_newHigh t_colours t_file t_fresh t_colour t_one l1 = some (zt_at, zt_fault, zt_fresh, zt_one) → va_P D vwCl (zwX9 cI h_t h_t_now h_t_file h_t_fresh h_t_colour h_t_table h_t_last h_t_one t_wide t_high t_size t_at t_fault t_newWide t_newHigh t_colours t_now t_file t_fresh t_colour t_table t_last t_one) H → va_D A (zwX9 cI h_t h_t_now h_t_file h_t_fresh h_t_colour h_t_table h_t_last h_t_one t_wide t_high t_size t_at t_fault t_newWide t_newHigh t_colours t_now t_file t_fresh t_colour t_table t_last t_one) → va_S A s.heap H locs → lv_has ls 8 [(0, .ref h_t), (1, .int l1)] → W p l e rmX9_pieces s m args below meth c H locs 0 0 Q (F0 m 2 ls []) := by
  obtain ⟨hx, hb, hml, hown, hts⟩ := id C
  induction n with
  | zero =>
    intro t_at t_fault t_fresh t_one l1 H locs ls hf
    cases hf
  | succ n hr_2 =>
    intro t_at t_fault t_fresh t_one l1 H locs ls hf hP hD hS hl
    rw [fX9_pieces_2_s] at hf
    refine lv_iload_n hx hb dX9_pieces_2 rfl (lv_at hl 1 rfl) ?_
    refine lv_aload_n hx hb dX9_pieces_3 rfl (lv_at hl 0 rfl) ?_
    refine va_get (D := D) (ci := 8) (v := .int t_newHigh) (C := RX9) (T := TX9) (N := 15) hx hb hts iX9_pieces_X9 hown hK hP 0 rfl rfl 8 (by decide) (kX9_pieces_162 hts) (fun _ h9 => h9) rfl dX9_pieces_4 ?_
    refine lv_icmp_ge (tgt := 46) hx hb dX9_pieces_7 (by decide) (fun c1 => ?_) (fun c1 => ?_)
    · replace hf := zif_t hf c1
      exact wX9_pieces_46 C hN hK hA hE hf hP hD hS (lv_sub hl [0, 1] rfl)
    · replace hf := zif_f hf c1
      refine lv_aload_n hx hb dX9_pieces_10 rfl (lv_at hl 0 rfl) ?_
      refine va_get (D := D) (ci := 8) (v := .int t_fault) (C := RX9) (T := TX9) (N := 15) hx hb hts iX9_pieces_X9 hown hK hP 0 rfl rfl 6 (by decide) (kX9_pieces_129 hts) (fun _ h9 => h9) rfl dX9_pieces_11 ?_
      refine lv_if_ne (tgt := 46) hx hb dX9_pieces_14 (by decide) (fun c2 => ?_) (fun c2 => ?_)
      · replace hf := zif_f hf c2
        exact wX9_pieces_46 C hN hK hA hE hf hP hD hS (lv_sub hl [0, 1] rfl)
      · replace hf := zif_t hf c2
        refine lv_iconst (v := 0) hx hb dX9_pieces_17 (by decide) ?_
        refine lv_istore_n (lv' := [(2, .int 0), (0, .ref h_t), (1, .int l1)]) hx hb dX9_pieces_18 rfl hl (by decide) rfl (fun ls hl => ?_)
        exact wX9_pieces_19 C hN hK hA hE hr_2 1000 hf hP hD hS (lv_sub hl [1, 2, 0] rfl)
set_option maxHeartbeats 4000000 in
set_option maxRecDepth 100000 in
theorem wX9_pieces_0 {p : Program} {l : Launch} {e : Env} {s : State} {m : MethodId} {args : Array Value} {below : List Frame} {meth : Method} {c : Code} {D : va_G} {A : Nat → Prop} {Q : State → Prop} {cI : ClassId} {h_t h_t_now h_t_file h_t_fresh h_t_colour h_t_table h_t_last h_t_one : Nat} {t_wide : Int32} {t_high : Int32} {t_size : Int32} {t_newWide : Int32} {t_newHigh : Int32} {t_colours : Int32} {t_now : Nat → Int32} {t_file : Nat → Int32} {t_colour : Nat → Int32} {t_table : Nat → Int32} {t_last : Nat → Int32} {zt_at : Int32} {zt_fault : Int32} {zt_fresh : Nat → Int32} {zt_one : Nat → Int32} (C : CallFix p m c cX9_pieces 8 s args wsX9_pieces RX9) (hN : zN s) (hK : va_K D vwCl [(cI, .int)] s) (hA : ∀ q, s.heap.size ≤ q → A q) (hE : zEv p l e rmX9_pieces s m args below meth c cX9_pieces D A Q (zwX9 cI h_t h_t_now h_t_file h_t_fresh h_t_colour h_t_table h_t_last h_t_one t_wide t_high t_size zt_at zt_fault t_newWide t_newHigh t_colours t_now t_file zt_fresh t_colour t_table t_last zt_one)) {t_at : Int32} {t_fault : Int32} {t_fresh : Nat → Int32} {t_one : Nat → Int32} {H : Heap} {locs : List Loc} {ls : Array Slot} : fX9_pieces t_size t_at t_fault t_newWide t_newHigh t_colours t_file t_fresh t_colour t_one = some (zt_at, zt_fault, zt_fresh, zt_one) → va_P D vwCl (zwX9 cI h_t h_t_now h_t_file h_t_fresh h_t_colour h_t_table h_t_last h_t_one t_wide t_high t_size t_at t_fault t_newWide t_newHigh t_colours t_now t_file t_fresh t_colour t_table t_last t_one) H → va_D A (zwX9 cI h_t h_t_now h_t_file h_t_fresh h_t_colour h_t_table h_t_last h_t_one t_wide t_high t_size t_at t_fault t_newWide t_newHigh t_colours t_now t_file t_fresh t_colour t_table t_last t_one) → va_S A s.heap H locs → lv_has ls 8 [(0, .ref h_t)] → W p l e rmX9_pieces s m args below meth c H locs 0 0 Q (F0 m 0 ls []) := by
  intro hf hP hD hS hl
  obtain ⟨hx, hb, hml, hown, hts⟩ := id C
  unfold fX9_pieces at hf
  refine lv_iconst (v := 0) hx hb dX9_pieces_0 (by decide) ?_
  refine lv_istore_n (lv' := [(1, .int 0), (0, .ref h_t)]) hx hb dX9_pieces_1 rfl hl (by decide) rfl (fun ls hl => ?_)
  exact wX9_pieces_2 C hN hK hA hE 1000 hf hP hD hS (lv_sub hl [1, 0] rfl)
set_option maxHeartbeats 4000000 in
set_option maxRecDepth 100000 in
theorem mX9_pieces (l : Launch) (D : va_G) (cI : ClassId) (sz : Nat) (h_t h_t_now h_t_file h_t_fresh h_t_colour h_t_table h_t_last h_t_one : Nat) (t_wide : Int32) (t_high : Int32) (t_size : Int32) (t_at : Int32) (t_fault : Int32) (t_newWide : Int32) (t_newHigh : Int32) (t_colours : Int32) (t_now : Nat → Int32) (t_file : Nat → Int32) (t_fresh : Nat → Int32) (t_colour : Nat → Int32) (t_table : Nat → Int32) (t_last : Nat → Int32) (t_one : Nat → Int32) (zt_at : Int32) (zt_fault : Int32) (zt_fresh : Nat → Int32) (zt_one : Nat → Int32) (hf : fX9_pieces t_size t_at t_fault t_newWide t_newHigh t_colours t_file t_fresh t_colour t_one = some (zt_at, zt_fault, zt_fresh, zt_one)) : Met l yX9_pieces wsX9_pieces rmX9_pieces (va_Pc [.ref h_t] (zP D [(cI, .int)] (zwX9 cI h_t h_t_now h_t_file h_t_fresh h_t_colour h_t_table h_t_last h_t_one t_wide t_high t_size t_at t_fault t_newWide t_newHigh t_colours t_now t_file t_fresh t_colour t_table t_last t_one) sz)) (zQv D (zwX9 cI h_t h_t_now h_t_file h_t_fresh h_t_colour h_t_table h_t_last h_t_one t_wide t_high t_size t_at t_fault t_newWide t_newHigh t_colours t_now t_file t_fresh t_colour t_table t_last t_one) sz (zwX9 cI h_t h_t_now h_t_file h_t_fresh h_t_colour h_t_table h_t_last h_t_one t_wide t_high t_size zt_at zt_fault t_newWide t_newHigh t_colours t_now t_file zt_fresh t_colour t_table t_last zt_one)) 0 0 (va_A (zwX9 cI h_t h_t_now h_t_file h_t_fresh h_t_colour h_t_table h_t_last h_t_one t_wide t_high t_size t_at t_fault t_newWide t_newHigh t_colours t_now t_file t_fresh t_colour t_table t_last t_one) sz) := by
  refine Met.ofW (cc := cX9_pieces) (maxL := 8) (ret := none) (by decide) rfl ?_
  intro p e s m args below meth c s₁ B hml hv
  obtain ⟨rfl, hsz, hP, hK, hD0, hN⟩ := hv
  subst hsz
  have C : CallFix p m c cX9_pieces 8 s [.ref h_t].toArray wsX9_pieces RX9 := ⟨B.exec, B.bytes, hml, findClass_of_methodNamed B.named, atoms_spec (ws := wsX9_pieces) B.pre⟩
  have hl := lv_entry ([.ref h_t]) (n := 8) (Nat.le_of_ble_eq_true rfl)
  rw [lg_entry_eq]
  exact wX9_pieces_0 (A := va_A (zwX9 cI h_t h_t_now h_t_file h_t_fresh h_t_colour h_t_table h_t_last h_t_one t_wide t_high t_size t_at t_fault t_newWide t_newHigh t_colours t_now t_file t_fresh t_colour t_table t_last t_one) s.heap.size) C hN hK (fun q h => Or.inr h) (fun H locs pc ls d hP hD hS => zend_v C.1 C.2.1 B.returns B.notSynchronized d hP hD hS) hf hP hD0.self va_S.rf hl
def rmX9_readThird : Room := { frames := 4, cells := 0, slots := 0, locals := 95 }
theorem kX9_readThird_26 {args : Array Value} {s : State} (h : ∀ w ∈ wsX9_readThird, w.before args s = true) : (Cond.fieldLink RX9 26 "FourPictureFilesModel" "colour" "[I").before args s = true := h _ (by decide +kernel)
theorem kX9_readThird_129 {args : Array Value} {s : State} (h : ∀ w ∈ wsX9_readThird, w.before args s = true) : (Cond.fieldLink RX9 129 "FourPictureFilesModel" "fault" "I").before args s = true := h _ (by decide +kernel)
theorem kX9_readThird_132 {args : Array Value} {s : State} (h : ∀ w ∈ wsX9_readThird, w.before args s = true) : (Cond.fieldLink RX9 132 "FourPictureFilesModel" "at" "I").before args s = true := h _ (by decide +kernel)
theorem kX9_readThird_142 {args : Array Value} {s : State} (h : ∀ w ∈ wsX9_readThird, w.before args s = true) : (Cond.fieldLink RX9 142 "FourPictureFilesModel" "newWide" "I").before args s = true := h _ (by decide +kernel)
theorem kX9_readThird_162 {args : Array Value} {s : State} (h : ∀ w ∈ wsX9_readThird, w.before args s = true) : (Cond.fieldLink RX9 162 "FourPictureFilesModel" "newHigh" "I").before args s = true := h _ (by decide +kernel)
theorem kX9_readThird_186 {args : Array Value} {s : State} (h : ∀ w ∈ wsX9_readThird, w.before args s = true) : (Cond.fieldLink RX9 186 "FourPictureFilesModel" "colours" "I").before args s = true := h _ (by decide +kernel)
theorem iX9_readThird_X9 : ∀ w ∈ u_ws RX9 TX9 15, w ∈ wsX9_readThird := by decide +kernel
theorem qX9_readThird_X9_broken_139 {args : Array Value} {s : State} (hts : ∀ w ∈ wsX9_readThird, w.before args s = true) : CallW rmX9_readThird s args RX9 RX9 139 yX9_broken cX9_broken 2 none wsX9_broken rmX9_broken 0 0 1 := cwV 1 hts gX9_readThird_X9_broken rfl rfl rfl (by decide +kernel) ⟨Nat.le_of_ble_eq_true rfl, Nat.le_of_ble_eq_true rfl⟩
theorem qX9_readThird_X9_must_171 {args : Array Value} {s : State} (hts : ∀ w ∈ wsX9_readThird, w.before args s = true) : CallW rmX9_readThird s args RX9 RX9 171 yX9_must cX9_must 3 none wsX9_must rmX9_must 0 0 2 := cwV 2 hts gX9_readThird_X9_must rfl rfl rfl (by decide +kernel) ⟨Nat.le_of_ble_eq_true rfl, Nat.le_of_ble_eq_true rfl⟩
theorem qX9_readThird_X9_next_135 {args : Array Value} {s : State} (hts : ∀ w ∈ wsX9_readThird, w.before args s = true) : CallW rmX9_readThird s args RX9 RX9 135 yX9_next cX9_next 1 (some .int) wsX9_next rmX9_next 0 0 0 := cwV 0 hts gX9_readThird_X9_next rfl rfl rfl (by decide +kernel) ⟨Nat.le_of_ble_eq_true rfl, Nat.le_of_ble_eq_true rfl⟩
theorem qX9_readThird_X9_number_155 {args : Array Value} {s : State} (hts : ∀ w ∈ wsX9_readThird, w.before args s = true) : CallW rmX9_readThird s args RX9 RX9 155 yX9_number cX9_number 6 (some .int) wsX9_number rmX9_number 0 0 2 := cwV 2 hts gX9_readThird_X9_number rfl rfl rfl (by decide +kernel) ⟨Nat.le_of_ble_eq_true rfl, Nat.le_of_ble_eq_true rfl⟩
theorem qX9_readThird_X9_pieces_189 {args : Array Value} {s : State} (hts : ∀ w ∈ wsX9_readThird, w.before args s = true) : CallW rmX9_readThird s args RX9 RX9 189 yX9_pieces cX9_pieces 8 none wsX9_pieces rmX9_pieces 0 0 0 := cwV 0 hts gX9_readThird_X9_pieces rfl rfl rfl (by decide +kernel) ⟨Nat.le_of_ble_eq_true rfl, Nat.le_of_ble_eq_true rfl⟩
theorem qX9_readThird_X9_plain_192 {args : Array Value} {s : State} (hts : ∀ w ∈ wsX9_readThird, w.before args s = true) : CallW rmX9_readThird s args RX9 RX9 192 yX9_plain cX9_plain 8 none wsX9_plain rmX9_plain 0 0 2 := cwV 2 hts gX9_readThird_X9_plain rfl rfl rfl (by decide +kernel) ⟨Nat.le_of_ble_eq_true rfl, Nat.le_of_ble_eq_true rfl⟩
theorem qX9_readThird_X9_sideOf_159 {args : Array Value} {s : State} (hts : ∀ w ∈ wsX9_readThird, w.before args s = true) : CallW rmX9_readThird s args RX9 RX9 159 yX9_sideOf cX9_sideOf 2 (some .int) wsX9_sideOf rmX9_sideOf 0 0 1 := cwV 1 hts gX9_readThird_X9_sideOf rfl rfl rfl (by decide +kernel) ⟨Nat.le_of_ble_eq_true rfl, Nat.le_of_ble_eq_true rfl⟩
theorem qX9_readThird_X9_skip_152 {args : Array Value} {s : State} (hts : ∀ w ∈ wsX9_readThird, w.before args s = true) : CallW rmX9_readThird s args RX9 RX9 152 yX9_skip cX9_skip 3 none wsX9_skip rmX9_skip 0 0 1 := cwV 1 hts gX9_readThird_X9_skip rfl rfl rfl (by decide +kernel) ⟨Nat.le_of_ble_eq_true rfl, Nat.le_of_ble_eq_true rfl⟩
set_option maxHeartbeats 4000000 in
set_option maxRecDepth 100000 in
theorem wX9_readThird_334 {p : Program} {l : Launch} {e : Env} {s : State} {m : MethodId} {args : Array Value} {below : List Frame} {meth : Method} {c : Code} {D : va_G} {A : Nat → Prop} {Q : State → Prop} {cI : ClassId} {h_t h_t_now h_t_file h_t_fresh h_t_colour h_t_table h_t_last h_t_one : Nat} {t_wide : Int32} {t_high : Int32} {t_size : Int32} {t_now : Nat → Int32} {t_file : Nat → Int32} {t_table : Nat → Int32} {t_last : Nat → Int32} {zt_at : Int32} {zt_fault : Int32} {zt_newWide : Int32} {zt_newHigh : Int32} {zt_colours : Int32} {zt_fresh : Nat → Int32} {zt_colour : Nat → Int32} {zt_one : Nat → Int32} (C : CallFix p m c cX9_readThird 7 s args wsX9_readThird RX9) (hN : zN s) (hK : va_K D vwCl [(cI, .int)] s) (hA : ∀ q, s.heap.size ≤ q → A q) (hE : zEv p l e rmX9_readThird s m args below meth c cX9_readThird D A Q (zwX9 cI h_t h_t_now h_t_file h_t_fresh h_t_colour h_t_table h_t_last h_t_one t_wide t_high t_size zt_at zt_fault zt_newWide zt_newHigh zt_colours t_now t_file zt_fresh zt_colour t_table t_last zt_one)) {t_at : Int32} {t_fault : Int32} {t_newWide : Int32} {t_newHigh : Int32} {t_colours : Int32} {t_fresh : Nat → Int32} {t_colour : Nat → Int32} {t_one : Nat → Int32} {l1 : Int32} {l2 : Int32} {l3 : Int32} {l4 : Int32} {l5 : Int32} {k1 : Int32} {k2 : Int32} {H : Heap} {locs : List Loc} {ls : Array Slot} : fX9_readThird_334 t_size t_at t_fault t_newWide t_newHigh t_colours t_file t_fresh t_colour t_one k1 k2 = some (zt_at, zt_fault, zt_newWide, zt_newHigh, zt_colours, zt_fresh, zt_colour, zt_one) → va_P D vwCl (zwX9 cI h_t h_t_now h_t_file h_t_fresh h_t_colour h_t_table h_t_last h_t_one t_wide t_high t_size t_at t_fault t_newWide t_newHigh t_colours t_now t_file t_fresh t_colour t_table t_last t_one) H → va_D A (zwX9 cI h_t h_t_now h_t_file h_t_fresh h_t_colour h_t_table h_t_last h_t_one t_wide t_high t_size t_at t_fault t_newWide t_newHigh t_colours t_now t_file t_fresh t_colour t_table t_last t_one) → va_S A s.heap H locs → lv_has ls 7 [(0, .ref h_t), (1, .int l1), (2, .int l2), (3, .int l3), (4, .int l4), (5, .int l5)] → W p l e rmX9_readThird s m args below meth c H locs 0 0 Q (F0 m 334 ls [.int k2, .int k1, .ref h_t]) := by
  intro hf hP hD hS hl
  obtain ⟨hx, hb, hml, hown, hts⟩ := id C
  unfold fX9_readThird_334 at hf
  obtain ⟨u1, u2, u3, u4, hc5, hf⟩ := zb4_in hf
  refine zc_v (va_runV (As := [.int k1, .int k2]) (rest := []) C (mX9_plain l D cI H.size h_t h_t_now h_t_file h_t_fresh h_t_colour h_t_table h_t_last h_t_one t_wide t_high t_size t_at t_fault t_newWide t_newHigh t_colours t_now t_file t_fresh t_colour t_table t_last t_one k1 k2 u1 u2 u3 u4 hc5) (qX9_readThird_X9_plain_192 hts) ⟨zP_blind, va_recv hK hP (ci := 8) (q0 := 0) rfl rfl, zpre hK hN hP hD [0, 1, 2, 3, 4, 5, 6, 7] rfl rfl⟩ rfl rfl hl.1 rfl (lv_room (Nat.le_of_ble_eq_true rfl)) dX9_readThird_334 ⟨Nat.zero_le _, Nat.zero_le _⟩) hP hD hS hA [0, 1, 2, 3, 4, 5, 6, 7] [] [0, 1, 2, 3, 4, 5, 6, 7] (ws' := zwX9 cI h_t h_t_now h_t_file h_t_fresh h_t_colour h_t_table h_t_last h_t_one t_wide t_high t_size u1 u2 t_newWide t_newHigh t_colours t_now t_file u3 t_colour t_table t_last u4) rfl rfl rfl rfl rfl rfl (fun H locs hP hD hS => ?_)
  cases hf
  exact hE _ _ _ _ dX9_readThird_337 hP hD hS
set_option maxHeartbeats 4000000 in
set_option maxRecDepth 100000 in
theorem wX9_readThird_310 {p : Program} {l : Launch} {e : Env} {s : State} {m : MethodId} {args : Array Value} {below : List Frame} {meth : Method} {c : Code} {D : va_G} {A : Nat → Prop} {Q : State → Prop} {cI : ClassId} {h_t h_t_now h_t_file h_t_fresh h_t_colour h_t_table h_t_last h_t_one : Nat} {t_wide : Int32} {t_high : Int32} {t_size : Int32} {t_now : Nat → Int32} {t_file : Nat → Int32} {t_table : Nat → Int32} {t_last : Nat → Int32} {zt_at : Int32} {zt_fault : Int32} {zt_newWide : Int32} {zt_newHigh : Int32} {zt_colours : Int32} {zt_fresh : Nat → Int32} {zt_colour : Nat → Int32} {zt_one : Nat → Int32} (C : CallFix p m c cX9_readThird 7 s args wsX9_readThird RX9) (hN : zN s) (hK : va_K D vwCl [(cI, .int)] s) (hA : ∀ q, s.heap.size ≤ q → A q) (hE : zEv p l e rmX9_readThird s m args below meth c cX9_readThird D A Q (zwX9 cI h_t h_t_now h_t_file h_t_fresh h_t_colour h_t_table h_t_last h_t_one t_wide t_high t_size zt_at zt_fault zt_newWide zt_newHigh zt_colours t_now t_file zt_fresh zt_colour t_table t_last zt_one)) {t_at : Int32} {t_fault : Int32} {t_newWide : Int32} {t_newHigh : Int32} {t_colours : Int32} {t_fresh : Nat → Int32} {t_colour : Nat → Int32} {t_one : Nat → Int32} {l1 : Int32} {l2 : Int32} {l3 : Int32} {l4 : Int32} {l5 : Int32} {H : Heap} {locs : List Loc} {ls : Array Slot} : fX9_readThird_310 t_size t_at t_fault t_newWide t_newHigh t_colours t_file t_fresh t_colour t_one l2 l3 l4 = some (zt_at, zt_fault, zt_newWide, zt_newHigh, zt_colours, zt_fresh, zt_colour, zt_one) → va_P D vwCl (zwX9 cI h_t h_t_now h_t_file h_t_fresh h_t_colour h_t_table h_t_last h_t_one t_wide t_high t_size t_at t_fault t_newWide t_newHigh t_colours t_now t_file t_fresh t_colour t_table t_last t_one) H → va_D A (zwX9 cI h_t h_t_now h_t_file h_t_fresh h_t_colour h_t_table h_t_last h_t_one t_wide t_high t_size t_at t_fault t_newWide t_newHigh t_colours t_now t_file t_fresh t_colour t_table t_last t_one) → va_S A s.heap H locs → lv_has ls 7 [(0, .ref h_t), (1, .int l1), (2, .int l2), (3, .int l3), (4, .int l4), (5, .int l5)] → W p l e rmX9_readThird s m args below meth c H locs 0 0 Q (F0 m 310 ls []) := by
  intro hf hP hD hS hl
  obtain ⟨hx, hb, hml, hown, hts⟩ := id C
  unfold fX9_readThird_310 at hf
  refine lv_iload hx hb dX9_readThird_310 (lv_at hl 4 rfl) ?_
  refine lv_iconst (v := 1) hx hb dX9_readThird_312 (by decide) ?_
  refine lv_icmp_ne (tgt := 323) hx hb dX9_readThird_313 (by decide) (fun c1 => ?_) (fun c1 => ?_)
  · replace hf := zif_f hf c1
    refine lv_aload_n hx hb dX9_readThird_323 rfl (lv_at hl 0 rfl) ?_
    refine lv_iload_n hx hb dX9_readThird_324 rfl (lv_at hl 3 rfl) ?_
    refine lv_iload_n hx hb dX9_readThird_325 rfl (lv_at hl 2 rfl) ?_
    refine lv_if_le (tgt := 333) hx hb dX9_readThird_326 (by decide) (fun c2 => ?_) (fun c2 => ?_)
    · replace hf := zif_t hf c2
      refine lv_iconst (v := 0) hx hb dX9_readThird_333 (by decide) ?_
      exact wX9_readThird_334 C hN hK hA hE hf hP hD hS (lv_sub hl [0, 1, 2, 3, 4, 5] rfl)
    · replace hf := zif_f hf c2
      refine lv_iconst (v := 1) hx hb dX9_readThird_329 (by decide) ?_
      refine lv_goto (tgt := 334) hx hb dX9_readThird_330 (by decide) ?_
      exact wX9_readThird_334 C hN hK hA hE hf hP hD hS (lv_sub hl [0, 1, 2, 3, 4, 5] rfl)
  · replace hf := zif_t hf c1
    refine lv_aload_n hx hb dX9_readThird_316 rfl (lv_at hl 0 rfl) ?_
    obtain ⟨u3, u4, u5, u6, hc7, hf⟩ := zb4_in hf
    refine zc_v (va_runV (As := []) (rest := []) C (mX9_pieces l D cI H.size h_t h_t_now h_t_file h_t_fresh h_t_colour h_t_table h_t_last h_t_one t_wide t_high t_size t_at t_fault t_newWide t_newHigh t_colours t_now t_file t_fresh t_colour t_table t_last t_one u3 u4 u5 u6 hc7) (qX9_readThird_X9_pieces_189 hts) ⟨zP_blind, va_recv hK hP (ci := 8) (q0 := 0) rfl rfl, zpre hK hN hP hD [0, 1, 2, 3, 4, 5, 6, 7] rfl rfl⟩ rfl rfl hl.1 rfl (lv_room (Nat.le_of_ble_eq_true rfl)) dX9_readThird_317 ⟨Nat.zero_le _, Nat.zero_le _⟩) hP hD hS hA [0, 1, 2, 3, 4, 5, 6, 7] [] [0, 1, 2, 3, 4, 5, 6, 7] (ws' := zwX9 cI h_t h_t_now h_t_file h_t_fresh h_t_colour h_t_table h_t_last h_t_one t_wide t_high t_size u3 u4 t_newWide t_newHigh t_colours t_now t_file u5 t_colour t_table t_last u6) rfl rfl rfl rfl rfl rfl (fun H locs hP hD hS => ?_)
    refine lv_goto (tgt := 337) hx hb dX9_readThird_320 (by decide) ?_
    cases hf
    exact hE _ _ _ _ dX9_readThird_337 hP hD hS
set_option maxHeartbeats 4000000 in
set_option maxRecDepth 100000 in
theorem wX9_readThird_290 {p : Program} {l : Launch} {e : Env} {s : State} {m : MethodId} {args : Array Value} {below : List Frame} {meth : Method} {c : Code} {D : va_G} {A : Nat → Prop} {Q : State → Prop} {cI : ClassId} {h_t h_t_now h_t_file h_t_fresh h_t_colour h_t_table h_t_last h_t_one : Nat} {t_wide : Int32} {t_high : Int32} {t_size : Int32} {t_now : Nat → Int32} {t_file : Nat → Int32} {t_table : Nat → Int32} {t_last : Nat → Int32} {zt_at : Int32} {zt_fault : Int32} {zt_newWide : Int32} {zt_newHigh : Int32} {zt_colours : Int32} {zt_fresh : Nat → Int32} {zt_colour : Nat → Int32} {zt_one : Nat → Int32} (C : CallFix p m c cX9_readThird 7 s args wsX9_readThird RX9) (hN : zN s) (hK : va_K D vwCl [(cI, .int)] s) (hA : ∀ q, s.heap.size ≤ q → A q) (hE : zEv p l e rmX9_readThird s m args below meth c cX9_readThird D A Q (zwX9 cI h_t h_t_now h_t_file h_t_fresh h_t_colour h_t_table h_t_last h_t_one t_wide t_high t_size zt_at zt_fault zt_newWide zt_newHigh zt_colours t_now t_file zt_fresh zt_colour t_table t_last zt_one)) {t_at : Int32} {t_fault : Int32} {t_newWide : Int32} {t_newHigh : Int32} {t_colours : Int32} {t_fresh : Nat → Int32} {t_colour : Nat → Int32} {t_one : Nat → Int32} {l1 : Int32} {l2 : Int32} {l3 : Int32} {l4 : Int32} {l5 : Int32} {k1 : Int32} {H : Heap} {locs : List Loc} {ls : Array Slot} : fX9_readThird_290 t_size t_at t_fault t_newWide t_newHigh t_colours t_file t_fresh t_colour t_one l1 l2 l3 l4 k1 = some (zt_at, zt_fault, zt_newWide, zt_newHigh, zt_colours, zt_fresh, zt_colour, zt_one) → va_P D vwCl (zwX9 cI h_t h_t_now h_t_file h_t_fresh h_t_colour h_t_table h_t_last h_t_one t_wide t_high t_size t_at t_fault t_newWide t_newHigh t_colours t_now t_file t_fresh t_colour t_table t_last t_one) H → va_D A (zwX9 cI h_t h_t_now h_t_file h_t_fresh h_t_colour h_t_table h_t_last h_t_one t_wide t_high t_size t_at t_fault t_newWide t_newHigh t_colours t_now t_file t_fresh t_colour t_table t_last t_one) → va_S A s.heap H locs → lv_has ls 7 [(0, .ref h_t), (1, .int l1), (2, .int l2), (3, .int l3), (4, .int l4), (5, .int l5)] → W p l e rmX9_readThird s m args below meth c H locs 0 0 Q (F0 m 290 ls [.int k1, .ref h_t]) := by
  intro hf hP hD hS hl
  obtain ⟨hx, hb, hml, hown, hts⟩ := id C
  unfold fX9_readThird_290 at hf
  obtain ⟨u1, hc2, hf⟩ := zb1_in hf
  refine zc_v (va_runV (As := [.int k1]) (rest := []) C (mX9_broken l D cI H.size h_t h_t_now h_t_file h_t_fresh h_t_colour h_t_table h_t_last h_t_one t_wide t_high t_size t_at t_fault t_newWide t_newHigh t_colours t_now t_file t_fresh t_colour t_table t_last t_one k1 u1 hc2) (qX9_readThird_X9_broken_139 hts) ⟨zP_blind, va_recv hK hP (ci := 8) (q0 := 0) rfl rfl, zpre hK hN hP hD [0, 1, 2, 3, 4, 5, 6, 7] rfl rfl⟩ rfl rfl hl.1 rfl (lv_room (Nat.le_of_ble_eq_true rfl)) dX9_readThird_290 ⟨Nat.zero_le _, Nat.zero_le _⟩) hP hD hS hA [0, 1, 2, 3, 4, 5, 6, 7] [] [0, 1, 2, 3, 4, 5, 6, 7] (ws' := zwX9 cI h_t h_t_now h_t_file h_t_fresh h_t_colour h_t_table h_t_last h_t_one t_wide t_high t_size t_at u1 t_newWide t_newHigh t_colours t_now t_file t_fresh t_colour t_table t_last t_one) rfl rfl rfl rfl rfl rfl (fun H locs hP hD hS => ?_)
  refine lv_aload_n hx hb dX9_readThird_293 rfl (lv_at hl 0 rfl) ?_
  refine va_get (D := D) (ci := 8) (v := .int u1) (C := RX9) (T := TX9) (N := 15) hx hb hts iX9_readThird_X9 hown hK hP 0 rfl rfl 6 (by decide) (kX9_readThird_129 hts) (fun _ h9 => h9) rfl dX9_readThird_294 ?_
  refine lv_if_ne (tgt := 310) hx hb dX9_readThird_297 (by decide) (fun c3 => ?_) (fun c3 => ?_)
  · replace hf := zif_f hf c3
    exact wX9_readThird_310 C hN hK hA hE hf hP hD hS (lv_sub hl [0, 1, 2, 3, 4, 5] rfl)
  · replace hf := zif_t hf c3
    refine lv_aload_n hx hb dX9_readThird_300 rfl (lv_at hl 0 rfl) ?_
    refine lv_iload_n hx hb dX9_readThird_301 rfl (lv_at hl 1 rfl) ?_
    refine lv_aload_n hx hb dX9_readThird_302 rfl (lv_at hl 0 rfl) ?_
    refine va_get (D := D) (ci := 8) (v := .int t_at) (C := RX9) (T := TX9) (N := 15) hx hb hts iX9_readThird_X9 hown hK hP 0 rfl rfl 5 (by decide) (kX9_readThird_132 hts) (fun _ h9 => h9) rfl dX9_readThird_303 ?_
    refine lv_isub hx hb dX9_readThird_306 ?_
    obtain ⟨u4, u5, hc6, hf⟩ := zb2_in hf
    refine zc_v (va_runV (As := [.int (l1 - t_at)]) (rest := []) C (mX9_skip l D cI H.size h_t h_t_now h_t_file h_t_fresh h_t_colour h_t_table h_t_last h_t_one t_wide t_high t_size t_at u1 t_newWide t_newHigh t_colours t_now t_file t_fresh t_colour t_table t_last t_one (l1 - t_at) u4 u5 hc6) (qX9_readThird_X9_skip_152 hts) ⟨zP_blind, va_recv hK hP (ci := 8) (q0 := 0) rfl rfl, zpre hK hN hP hD [0, 1, 2, 3, 4, 5, 6, 7] rfl rfl⟩ rfl rfl hl.1 rfl (lv_room (Nat.le_of_ble_eq_true rfl)) dX9_readThird_307 ⟨Nat.zero_le _, Nat.zero_le _⟩) hP hD hS hA [0, 1, 2, 3, 4, 5, 6, 7] [] [0, 1, 2, 3, 4, 5, 6, 7] (ws' := zwX9 cI h_t h_t_now h_t_file h_t_fresh h_t_colour h_t_table h_t_last h_t_one t_wide t_high t_size u4 u5 t_newWide t_newHigh t_colours t_now t_file t_fresh t_colour t_table t_last t_one) rfl rfl rfl rfl rfl rfl (fun H locs hP hD hS => ?_)
    exact wX9_readThird_310 C hN hK hA hE hf hP hD hS (lv_sub hl [0, 1, 2, 3, 4, 5] rfl)
set_option maxHeartbeats 4000000 in
set_option maxRecDepth 100000 in
theorem wX9_readThird_285 {p : Program} {l : Launch} {e : Env} {s : State} {m : MethodId} {args : Array Value} {below : List Frame} {meth : Method} {c : Code} {D : va_G} {A : Nat → Prop} {Q : State → Prop} {cI : ClassId} {h_t h_t_now h_t_file h_t_fresh h_t_colour h_t_table h_t_last h_t_one : Nat} {t_wide : Int32} {t_high : Int32} {t_size : Int32} {t_now : Nat → Int32} {t_file : Nat → Int32} {t_table : Nat → Int32} {t_last : Nat → Int32} {zt_at : Int32} {zt_fault : Int32} {zt_newWide : Int32} {zt_newHigh : Int32} {zt_colours : Int32} {zt_fresh : Nat → Int32} {zt_colour : Nat → Int32} {zt_one : Nat → Int32} (C : CallFix p m c cX9_readThird 7 s args wsX9_readThird RX9) (hN : zN s) (hK : va_K D vwCl [(cI, .int)] s) (hA : ∀ q, s.heap.size ≤ q → A q) (hE : zEv p l e rmX9_readThird s m args below meth c cX9_readThird D A Q (zwX9 cI h_t h_t_now h_t_file h_t_fresh h_t_colour h_t_table h_t_last h_t_one t_wide t_high t_size zt_at zt_fault zt_newWide zt_newHigh zt_colours t_now t_file zt_fresh zt_colour t_table t_last zt_one)) {t_at : Int32} {t_fault : Int32} {t_newWide : Int32} {t_newHigh : Int32} {t_colours : Int32} {t_fresh : Nat → Int32} {t_colour : Nat → Int32} {t_one : Nat → Int32} {l1 : Int32} {l2 : Int32} {l3 : Int32} {l4 : Int32} {l5 : Int32} {H : Heap} {locs : List Loc} {ls : Array Slot} : fX9_readThird_285 t_size t_at t_fault t_newWide t_newHigh t_colours t_file t_fresh t_colour t_one l1 l2 l3 l4 = some (zt_at, zt_fault, zt_newWide, zt_newHigh, zt_colours, zt_fresh, zt_colour, zt_one) → va_P D vwCl (zwX9 cI h_t h_t_now h_t_file h_t_fresh h_t_colour h_t_table h_t_last h_t_one t_wide t_high t_size t_at t_fault t_newWide t_newHigh t_colours t_now t_file t_fresh t_colour t_table t_last t_one) H → va_D A (zwX9 cI h_t h_t_now h_t_file h_t_fresh h_t_colour h_t_table h_t_last h_t_one t_wide t_high t_size t_at t_fault t_newWide t_newHigh t_colours t_now t_file t_fresh t_colour t_table t_last t_one) → va_S A s.heap H locs → lv_has ls 7 [(0, .ref h_t), (1, .int l1), (2, .int l2), (3, .int l3), (4, .int l4), (5, .int l5)] → W p l e rmX9_readThird s m args below meth c H locs 0 0 Q (F0 m 285 ls [.ref h_t]) := by
  intro hf hP hD hS hl
  obtain ⟨hx, hb, hml, hown, hts⟩ := id C
  unfold fX9_readThird_285 at hf
  refine lv_iconst (v := 1) hx hb dX9_readThird_285 (by decide) ?_
  refine lv_goto (tgt := 290) hx hb dX9_readThird_286 (by decide) ?_
  exact wX9_readThird_290 C hN hK hA hE hf hP hD hS (lv_sub hl [0, 1, 2, 3, 4, 5] rfl)
set_option maxHeartbeats 4000000 in
set_option maxRecDepth 100000 in
theorem wX9_readThird_269 {p : Program} {l : Launch} {e : Env} {s : State} {m : MethodId} {args : Array Value} {below : List Frame} {meth : Method} {c : Code} {D : va_G} {A : Nat → Prop} {Q : State → Prop} {cI : ClassId} {h_t h_t_now h_t_file h_t_fresh h_t_colour h_t_table h_t_last h_t_one : Nat} {t_wide : Int32} {t_high : Int32} {t_size : Int32} {t_now : Nat → Int32} {t_file : Nat → Int32} {t_table : Nat → Int32} {t_last : Nat → Int32} {zt_at : Int32} {zt_fault : Int32} {zt_newWide : Int32} {zt_newHigh : Int32} {zt_colours : Int32} {zt_fresh : Nat → Int32} {zt_colour : Nat → Int32} {zt_one : Nat → Int32} (C : CallFix p m c cX9_readThird 7 s args wsX9_readThird RX9) (hN : zN s) (hK : va_K D vwCl [(cI, .int)] s) (hA : ∀ q, s.heap.size ≤ q → A q) (hE : zEv p l e rmX9_readThird s m args below meth c cX9_readThird D A Q (zwX9 cI h_t h_t_now h_t_file h_t_fresh h_t_colour h_t_table h_t_last h_t_one t_wide t_high t_size zt_at zt_fault zt_newWide zt_newHigh zt_colours t_now t_file zt_fresh zt_colour t_table t_last zt_one)) {t_at : Int32} {t_fault : Int32} {t_newWide : Int32} {t_newHigh : Int32} {t_colours : Int32} {t_fresh : Nat → Int32} {t_colour : Nat → Int32} {t_one : Nat → Int32} {l1 : Int32} {l2 : Int32} {l3 : Int32} {l4 : Int32} {l5 : Int32} {H : Heap} {locs : List Loc} {ls : Array Slot} : fX9_readThird_269 t_size t_at t_fault t_newWide t_newHigh t_colours t_file t_fresh t_colour t_one l1 l2 l3 l4 = some (zt_at, zt_fault, zt_newWide, zt_newHigh, zt_colours, zt_fresh, zt_colour, zt_one) → va_P D vwCl (zwX9 cI h_t h_t_now h_t_file h_t_fresh h_t_colour h_t_table h_t_last h_t_one t_wide t_high t_size t_at t_fault t_newWide t_newHigh t_colours t_now t_file t_fresh t_colour t_table t_last t_one) H → va_D A (zwX9 cI h_t h_t_now h_t_file h_t_fresh h_t_colour h_t_table h_t_last h_t_one t_wide t_high t_size t_at t_fault t_newWide t_newHigh t_colours t_now t_file t_fresh t_colour t_table t_last t_one) → va_S A s.heap H locs → lv_has ls 7 [(0, .ref h_t), (1, .int l1), (2, .int l2), (3, .int l3), (4, .int l4), (5, .int l5)] → W p l e rmX9_readThird s m args below meth c H locs 0 0 Q (F0 m 269 ls []) := by
  intro hf hP hD hS hl
  obtain ⟨hx, hb, hml, hown, hts⟩ := id C
  unfold fX9_readThird_269 at hf
  refine lv_aload_n hx hb dX9_readThird_269 rfl (lv_at hl 0 rfl) ?_
  refine lv_iload_n hx hb dX9_readThird_270 rfl (lv_at hl 1 rfl) ?_
  refine lv_aload_n hx hb dX9_readThird_271 rfl (lv_at hl 0 rfl) ?_
  refine va_get (D := D) (ci := 8) (v := .int t_at) (C := RX9) (T := TX9) (N := 15) hx hb hts iX9_readThird_X9 hown hK hP 0 rfl rfl 5 (by decide) (kX9_readThird_132 hts) (fun _ h9 => h9) rfl dX9_readThird_272 ?_
  refine lv_icmp_lt (tgt := 285) hx hb dX9_readThird_275 (by decide) (fun c1 => ?_) (fun c1 => ?_)
  · replace hf := zif_t hf c1
    exact wX9_readThird_285 C hN hK hA hE hf hP hD hS (lv_sub hl [0, 1, 2, 3, 4, 5] rfl)
  · replace hf := zif_f hf c1
    refine lv_iload_n hx hb dX9_readThird_278 rfl (lv_at hl 1 rfl) ?_
    refine lv_sipush (v := 800) hx hb dX9_readThird_279 (by decide) ?_
    refine lv_icmp_le (tgt := 289) hx hb dX9_readThird_282 (by decide) (fun c2 => ?_) (fun c2 => ?_)
    · replace hf := zif_t hf c2
      refine lv_iconst (v := 0) hx hb dX9_readThird_289 (by decide) ?_
      exact wX9_readThird_290 C hN hK hA hE hf hP hD hS (lv_sub hl [0, 1, 2, 3, 4, 5] rfl)
    · replace hf := zif_f hf c2
      exact wX9_readThird_285 C hN hK hA hE hf hP hD hS (lv_sub hl [0, 1, 2, 3, 4, 5] rfl)
set_option maxHeartbeats 4000000 in
set_option maxRecDepth 100000 in
theorem wX9_readThird_231 {p : Program} {l : Launch} {e : Env} {s : State} {m : MethodId} {args : Array Value} {below : List Frame} {meth : Method} {c : Code} {D : va_G} {A : Nat → Prop} {Q : State → Prop} {cI : ClassId} {h_t h_t_now h_t_file h_t_fresh h_t_colour h_t_table h_t_last h_t_one : Nat} {t_wide : Int32} {t_high : Int32} {t_size : Int32} {t_now : Nat → Int32} {t_file : Nat → Int32} {t_table : Nat → Int32} {t_last : Nat → Int32} {zt_at : Int32} {zt_fault : Int32} {zt_newWide : Int32} {zt_newHigh : Int32} {zt_colours : Int32} {zt_fresh : Nat → Int32} {zt_colour : Nat → Int32} {zt_one : Nat → Int32} (C : CallFix p m c cX9_readThird 7 s args wsX9_readThird RX9) (hN : zN s) (hK : va_K D vwCl [(cI, .int)] s) (hA : ∀ q, s.heap.size ≤ q → A q) (hE : zEv p l e rmX9_readThird s m args below meth c cX9_readThird D A Q (zwX9 cI h_t h_t_now h_t_file h_t_fresh h_t_colour h_t_table h_t_last h_t_one t_wide t_high t_size zt_at zt_fault zt_newWide zt_newHigh zt_colours t_now t_file zt_fresh zt_colour t_table t_last zt_one)) {rc212 : Int32 → Int32 → Int32 → Int32 → Int32 → Int32 → (Nat → Int32) → (Nat → Int32) → (Nat → Int32) → (Nat → Int32) → Int32 → Int32 → Int32 → Int32 → Int32 → Option (Int32 × Int32 × Int32 × Int32 × Int32 × (Nat → Int32) × (Nat → Int32) × (Nat → Int32))} (hr_212 : ∀ {t_at : Int32} {t_fault : Int32} {t_newWide : Int32} {t_newHigh : Int32} {t_colours : Int32} {t_fresh : Nat → Int32} {t_colour : Nat → Int32} {t_one : Nat → Int32} {l1 : Int32} {l2 : Int32} {l3 : Int32} {l4 : Int32} {l5 : Int32} {H : Heap} {locs : List Loc} {ls : Array Slot}, rc212 t_size t_at t_fault t_newWide t_newHigh t_colours t_file t_fresh t_colour t_one l1 l2 l3 l4 l5 = some (zt_at, zt_fault, zt_newWide, zt_newHigh, zt_colours, zt_fresh, zt_colour, zt_one) → va_P D vwCl (zwX9 cI h_t h_t_now h_t_file h_t_fresh h_t_colour h_t_table h_t_last h_t_one t_wide t_high t_size t_at t_fault t_newWide t_newHigh t_colours t_now t_file t_fresh t_colour t_table t_last t_one) H → va_D A (zwX9 cI h_t h_t_now h_t_file h_t_fresh h_t_colour h_t_table h_t_last h_t_one t_wide t_high t_size t_at t_fault t_newWide t_newHigh t_colours t_now t_file t_fresh t_colour t_table t_last t_one) → va_S A s.heap H locs → lv_has ls 7 [(0, .ref h_t), (1, .int l1), (2, .int l2), (3, .int l3), (4, .int l4), (5, .int l5)] → W p l e rmX9_readThird s m args below meth c H locs 0 0 Q (F0 m 212 ls [])) (n : Nat) : ∀ {t_at : Int32} {t_fault : Int32} {t_newWide : Int32} {t_newHigh : Int32} {t_colours : Int32} {t_fresh : Nat → Int32} {t_colour : Nat → Int32} {t_one : Nat → Int32} {l1 : Int32} {l2 : Int32} {l3 : Int32} {l4 : Int32} {l5 : Int32} {l6 : Int32} {H : Heap} {locs : List Loc} {ls : Array Slot}, fX9_readThird_231 rc212 n t_size t_at t_fault t_newWide t_newHigh t_colours t_file t_fresh t_colour t_one l1 l2 l3 l4 l5 l6 = some (zt_at, zt_fault, zt_newWide, zt_newHigh, zt_colours, zt_fresh, zt_colour, zt_one) → va_P D vwCl (zwX9 cI h_t h_t_now h_t_file h_t_fresh h_t_colour h_t_table h_t_last h_t_one t_wide t_high t_size t_at t_fault t_newWide t_newHigh t_colours t_now t_file t_fresh t_colour t_table t_last t_one) H → va_D A (zwX9 cI h_t h_t_now h_t_file h_t_fresh h_t_colour h_t_table h_t_last h_t_one t_wide t_high t_size t_at t_fault t_newWide t_newHigh t_colours t_now t_file t_fresh t_colour t_table t_last t_one) → va_S A s.heap H locs → lv_has ls 7 [(0, .ref h_t), (1, .int l1), (2, .int l2), (3, .int l3), (4, .int l4), (5, .int l5), (6, .int l6)] → W p l e rmX9_readThird s m args below meth c H locs 0 0 Q (F0 m 231 ls []) := by
  obtain ⟨hx, hb, hml, hown, hts⟩ := id C
  induction n with
  | zero =>
    intro t_at t_fault t_newWide t_newHigh t_colours t_fresh t_colour t_one l1 l2 l3 l4 l5 l6 H locs ls hf
    cases hf
  | succ n hr_231 =>
    intro t_at t_fault t_newWide t_newHigh t_colours t_fresh t_colour t_one l1 l2 l3 l4 l5 l6 H locs ls hf hP hD hS hl
    rw [fX9_readThird_231_s] at hf
    refine lv_iload hx hb dX9_readThird_231 (lv_at hl 6 rfl) ?_
    refine lv_if_lt (tgt := 258) hx hb dX9_readThird_233 (by decide) (fun c1 => ?_) (fun c1 => ?_)
    · replace hf := zif_t hf c1
      refine lv_aload_n hx hb dX9_readThird_258 rfl (lv_at hl 0 rfl) ?_
      obtain ⟨r2, u3, u4, hc5, hf⟩ := zb3_in hf
      refine zc_i (va_runV (As := []) (rest := []) C (mX9_next l D cI H.size h_t h_t_now h_t_file h_t_fresh h_t_colour h_t_table h_t_last h_t_one t_wide t_high t_size t_at t_fault t_newWide t_newHigh t_colours t_now t_file t_fresh t_colour t_table t_last t_one r2 u3 u4 hc5) (qX9_readThird_X9_next_135 hts) ⟨zP_blind, va_recv hK hP (ci := 8) (q0 := 0) rfl rfl, zpre hK hN hP hD [0, 1, 2, 3, 4, 5, 6, 7] rfl rfl⟩ rfl rfl hl.1 rfl (lv_room (Nat.le_of_ble_eq_true rfl)) dX9_readThird_259 ⟨Nat.zero_le _, Nat.zero_le _⟩) hP hD hS hA [0, 1, 2, 3, 4, 5, 6, 7] [] [0, 1, 2, 3, 4, 5, 6, 7] (ws' := zwX9 cI h_t h_t_now h_t_file h_t_fresh h_t_colour h_t_table h_t_last h_t_one t_wide t_high t_size u3 u4 t_newWide t_newHigh t_colours t_now t_file t_fresh t_colour t_table t_last t_one) rfl rfl rfl rfl rfl rfl (fun H locs hP hD hS => ?_)
      refine lv_pop hx hb dX9_readThird_262 rfl ?_
      obtain ⟨x6, ex6⟩ : ∃ y : Int32, y = l5 + 1 := ⟨_, rfl⟩
      replace hf := zlet_in hf ex6
      refine lv_iinc (v := x6) (lv' := [(5, .int x6), (0, .ref h_t), (1, .int l1), (2, .int l2), (3, .int l3), (4, .int l4), (6, .int l6)]) hx hb dX9_readThird_263 hl (k := 5) rfl (by rw [ex6]; rfl) (by decide) rfl (fun ls hl => ?_)
      clear ex6
      refine lv_goto (tgt := 212) hx hb dX9_readThird_266 (by decide) ?_
      exact hr_212 hf hP hD hS (lv_sub hl [1, 2, 3, 4, 5, 0] rfl)
    · replace hf := zif_f hf c1
      refine lv_aload_n hx hb dX9_readThird_236 rfl (lv_at hl 0 rfl) ?_
      refine va_get (D := D) (ci := 8) (v := .ref h_t_colour) (C := RX9) (T := TX9) (N := 15) hx hb hts iX9_readThird_X9 hown hK hP 0 rfl rfl 11 (by decide) (kX9_readThird_26 hts) (fun _ h9 => h9) rfl dX9_readThird_237 ?_
      refine lv_iconst (v := 4) hx hb dX9_readThird_240 (by decide) ?_
      refine lv_iload hx hb dX9_readThird_241 (lv_at hl 5 rfl) ?_
      refine lv_imul hx hb dX9_readThird_243 ?_
      refine lv_iload hx hb dX9_readThird_244 (lv_at hl 6 rfl) ?_
      refine lv_iadd hx hb dX9_readThird_246 ?_
      refine lv_aload_n hx hb dX9_readThird_247 rfl (lv_at hl 0 rfl) ?_
      obtain ⟨r7, u8, u9, hc10, hf⟩ := zb3_in hf
      refine zc_i (va_runV (As := []) (rest := [.int ((4 * l5) + l6), .ref h_t_colour]) C (mX9_next l D cI H.size h_t h_t_now h_t_file h_t_fresh h_t_colour h_t_table h_t_last h_t_one t_wide t_high t_size t_at t_fault t_newWide t_newHigh t_colours t_now t_file t_fresh t_colour t_table t_last t_one r7 u8 u9 hc10) (qX9_readThird_X9_next_135 hts) ⟨zP_blind, va_recv hK hP (ci := 8) (q0 := 0) rfl rfl, zpre hK hN hP hD [0, 1, 2, 3, 4, 5, 6, 7] rfl rfl⟩ rfl rfl hl.1 rfl (lv_room (Nat.le_of_ble_eq_true rfl)) dX9_readThird_248 ⟨Nat.zero_le _, Nat.zero_le _⟩) hP hD hS hA [0, 1, 2, 3, 4, 5, 6, 7] [] [0, 1, 2, 3, 4, 5, 6, 7] (ws' := zwX9 cI h_t h_t_now h_t_file h_t_fresh h_t_colour h_t_table h_t_last h_t_one t_wide t_high t_size u8 u9 t_newWide t_newHigh t_colours t_now t_file t_fresh t_colour t_table t_last t_one) rfl rfl rfl rfl rfl rfl (fun H locs hP hD hS => ?_)
      obtain ⟨hg12, g11, eg11, hf⟩ := zwr_in hf
      refine va_iast hx hb hK hP hD hS 4 0 rfl rfl hg12 dX9_readThird_251 (fun H locs hP hD hS => ?_)
      replace hP : va_P D vwCl (zwX9 cI h_t h_t_now h_t_file h_t_fresh h_t_colour h_t_table h_t_last h_t_one t_wide t_high t_size u8 u9 t_newWide t_newHigh t_colours t_now t_file t_fresh g11 t_table t_last t_one) H := by rw [← eg11]; exact hP
      replace hD : va_D A (zwX9 cI h_t h_t_now h_t_file h_t_fresh h_t_colour h_t_table h_t_last h_t_one t_wide t_high t_size u8 u9 t_newWide t_newHigh t_colours t_now t_file t_fresh g11 t_table t_last t_one) := by rw [← eg11]; exact hD
      clear eg11
      obtain ⟨x13, ex13⟩ : ∃ y : Int32, y = l6 + (-1) := ⟨_, rfl⟩
      replace hf := zlet_in hf ex13
      refine lv_iinc (v := x13) (lv' := [(6, .int x13), (0, .ref h_t), (1, .int l1), (2, .int l2), (3, .int l3), (4, .int l4), (5, .int l5)]) hx hb dX9_readThird_252 hl (k := 6) rfl (by rw [ex13]; rfl) (by decide) rfl (fun ls hl => ?_)
      clear ex13
      refine lv_goto (tgt := 231) hx hb dX9_readThird_255 (by decide) ?_
      exact hr_231 hf hP hD hS (lv_sub hl [1, 2, 3, 4, 5, 6, 0] rfl)
set_option maxHeartbeats 4000000 in
set_option maxRecDepth 100000 in
theorem wX9_readThird_212 {p : Program} {l : Launch} {e : Env} {s : State} {m : MethodId} {args : Array Value} {below : List Frame} {meth : Method} {c : Code} {D : va_G} {A : Nat → Prop} {Q : State → Prop} {cI : ClassId} {h_t h_t_now h_t_file h_t_fresh h_t_colour h_t_table h_t_last h_t_one : Nat} {t_wide : Int32} {t_high : Int32} {t_size : Int32} {t_now : Nat → Int32} {t_file : Nat → Int32} {t_table : Nat → Int32} {t_last : Nat → Int32} {zt_at : Int32} {zt_fault : Int32} {zt_newWide : Int32} {zt_newHigh : Int32} {zt_colours : Int32} {zt_fresh : Nat → Int32} {zt_colour : Nat → Int32} {zt_one : Nat → Int32} (C : CallFix p m c cX9_readThird 7 s args wsX9_readThird RX9) (hN : zN s) (hK : va_K D vwCl [(cI, .int)] s) (hA : ∀ q, s.heap.size ≤ q → A q) (hE : zEv p l e rmX9_readThird s m args below meth c cX9_readThird D A Q (zwX9 cI h_t h_t_now h_t_file h_t_fresh h_t_colour h_t_table h_t_last h_t_one t_wide t_high t_size zt_at zt_fault zt_newWide zt_newHigh zt_colours t_now t_file zt_fresh zt_colour t_table t_last zt_one)) (n : Nat) : ∀ {t_at : Int32} {t_fault : Int32} {t_newWide : Int32} {t_newHigh : Int32} {t_colours : Int32} {t_fresh : Nat → Int32} {t_colour : Nat → Int32} {t_one : Nat → Int32} {l1 : Int32} {l2 : Int32} {l3 : Int32} {l4 : Int32} {l5 : Int32} {H : Heap} {locs : List Loc} {ls : Array Slot}, fX9_readThird_212 n t_size t_at t_fault t_newWide t_newHigh t_colours t_file t_fresh t_colour t_one l1 l2 l3 l4 l5 = some (zt_at, zt_fault, zt_newWide, zt_newHigh, zt_colours, zt_fresh, zt_colour, zt_one) → va_P D vwCl (zwX9 cI h_t h_t_now h_t_file h_t_fresh h_t_colour h_t_table h_t_last h_t_one t_wide t_high t_size t_at t_fault t_newWide t_newHigh t_colours t_now t_file t_fresh t_colour t_table t_last t_one) H → va_D A (zwX9 cI h_t h_t_now h_t_file h_t_fresh h_t_colour h_t_table h_t_last h_t_one t_wide t_high t_size t_at t_fault t_newWide t_newHigh t_colours t_now t_file t_fresh t_colour t_table t_last t_one) → va_S A s.heap H locs → lv_has ls 7 [(0, .ref h_t), (1, .int l1), (2, .int l2), (3, .int l3), (4, .int l4), (5, .int l5)] → W p l e rmX9_readThird s m args below meth c H locs 0 0 Q (F0 m 212 ls []) := by
  obtain ⟨hx, hb, hml, hown, hts⟩ := id C
  induction n with
  | zero =>
    intro t_at t_fault t_newWide t_newHigh t_colours t_fresh t_colour t_one l1 l2 l3 l4 l5 H locs ls hf
    cases hf
  | succ n hr_212 =>
    intro t_at t_fault t_newWide t_newHigh t_colours t_fresh t_colour t_one l1 l2 l3 l4 l5 H locs ls hf hP hD hS hl
    rw [fX9_readThird_212_s] at hf
    refine lv_aload_n hx hb dX9_readThird_212 rfl (lv_at hl 0 rfl) ?_
    refine va_get (D := D) (ci := 8) (v := .int t_fault) (C := RX9) (T := TX9) (N := 15) hx hb hts iX9_readThird_X9 hown hK hP 0 rfl rfl 6 (by decide) (kX9_readThird_129 hts) (fun _ h9 => h9) rfl dX9_readThird_213 ?_
    refine lv_if_ne (tgt := 269) hx hb dX9_readThird_216 (by decide) (fun c1 => ?_) (fun c1 => ?_)
    · replace hf := zif_f hf c1
      exact wX9_readThird_269 C hN hK hA hE hf hP hD hS (lv_sub hl [0, 1, 2, 3, 4, 5] rfl)
    · replace hf := zif_t hf c1
      refine lv_iload hx hb dX9_readThird_219 (lv_at hl 5 rfl) ?_
      refine lv_aload_n hx hb dX9_readThird_221 rfl (lv_at hl 0 rfl) ?_
      refine va_get (D := D) (ci := 8) (v := .int t_colours) (C := RX9) (T := TX9) (N := 15) hx hb hts iX9_readThird_X9 hown hK hP 0 rfl rfl 10 (by decide) (kX9_readThird_186 hts) (fun _ h9 => h9) rfl dX9_readThird_222 ?_
      refine lv_icmp_ge (tgt := 269) hx hb dX9_readThird_225 (by decide) (fun c2 => ?_) (fun c2 => ?_)
      · replace hf := zif_t hf c2
        exact wX9_readThird_269 C hN hK hA hE hf hP hD hS (lv_sub hl [0, 1, 2, 3, 4, 5] rfl)
      · replace hf := zif_f hf c2
        refine lv_iconst (v := 2) hx hb dX9_readThird_228 (by decide) ?_
        refine lv_istore (lv' := [(6, .int 2), (0, .ref h_t), (1, .int l1), (2, .int l2), (3, .int l3), (4, .int l4), (5, .int l5)]) hx hb dX9_readThird_229 hl (by decide) rfl (fun ls hl => ?_)
        exact wX9_readThird_231 C hN hK hA hE hr_212 1000 hf hP hD hS (lv_sub hl [1, 2, 3, 4, 5, 6, 0] rfl)
set_option maxHeartbeats 4000000 in
set_option maxRecDepth 100000 in
theorem wX9_readThird_201 {p : Program} {l : Launch} {e : Env} {s : State} {m : MethodId} {args : Array Value} {below : List Frame} {meth : Method} {c : Code} {D : va_G} {A : Nat → Prop} {Q : State → Prop} {cI : ClassId} {h_t h_t_now h_t_file h_t_fresh h_t_colour h_t_table h_t_last h_t_one : Nat} {t_wide : Int32} {t_high : Int32} {t_size : Int32} {t_now : Nat → Int32} {t_file : Nat → Int32} {t_table : Nat → Int32} {t_last : Nat → Int32} {zt_at : Int32} {zt_fault : Int32} {zt_newWide : Int32} {zt_newHigh : Int32} {zt_colours : Int32} {zt_fresh : Nat → Int32} {zt_colour : Nat → Int32} {zt_one : Nat → Int32} (C : CallFix p m c cX9_readThird 7 s args wsX9_readThird RX9) (hN : zN s) (hK : va_K D vwCl [(cI, .int)] s) (hA : ∀ q, s.heap.size ≤ q → A q) (hE : zEv p l e rmX9_readThird s m args below meth c cX9_readThird D A Q (zwX9 cI h_t h_t_now h_t_file h_t_fresh h_t_colour h_t_table h_t_last h_t_one t_wide t_high t_size zt_at zt_fault zt_newWide zt_newHigh zt_colours t_now t_file zt_fresh zt_colour t_table t_last zt_one)) {t_at : Int32} {t_fault : Int32} {t_newWide : Int32} {t_newHigh : Int32} {t_colours : Int32} {t_fresh : Nat → Int32} {t_colour : Nat → Int32} {t_one : Nat → Int32} {l1 : Int32} {l2 : Int32} {l3 : Int32} {l4 : Int32} {k1 : Int32} {H : Heap} {locs : List Loc} {ls : Array Slot} : fX9_readThird_201 t_size t_at t_fault t_newWide t_newHigh t_colours t_file t_fresh t_colour t_one l1 l2 l3 l4 k1 = some (zt_at, zt_fault, zt_newWide, zt_newHigh, zt_colours, zt_fresh, zt_colour, zt_one) → va_P D vwCl (zwX9 cI h_t h_t_now h_t_file h_t_fresh h_t_colour h_t_table h_t_last h_t_one t_wide t_high t_size t_at t_fault t_newWide t_newHigh t_colours t_now t_file t_fresh t_colour t_table t_last t_one) H → va_D A (zwX9 cI h_t h_t_now h_t_file h_t_fresh h_t_colour h_t_table h_t_last h_t_one t_wide t_high t_size t_at t_fault t_newWide t_newHigh t_colours t_now t_file t_fresh t_colour t_table t_last t_one) → va_S A s.heap H locs → lv_has ls 7 [(0, .ref h_t), (1, .int l1), (2, .int l2), (3, .int l3), (4, .int l4)] → W p l e rmX9_readThird s m args below meth c H locs 0 0 Q (F0 m 201 ls [.int k1, .ref h_t]) := by
  intro hf hP hD hS hl
  obtain ⟨hx, hb, hml, hown, hts⟩ := id C
  unfold fX9_readThird_201 at hf
  obtain ⟨u1, hc2, hf⟩ := zb1_in hf
  refine zc_v (va_runV (As := [.int k1]) (rest := []) C (mX9_broken l D cI H.size h_t h_t_now h_t_file h_t_fresh h_t_colour h_t_table h_t_last h_t_one t_wide t_high t_size t_at t_fault t_newWide t_newHigh t_colours t_now t_file t_fresh t_colour t_table t_last t_one k1 u1 hc2) (qX9_readThird_X9_broken_139 hts) ⟨zP_blind, va_recv hK hP (ci := 8) (q0 := 0) rfl rfl, zpre hK hN hP hD [0, 1, 2, 3, 4, 5, 6, 7] rfl rfl⟩ rfl rfl hl.1 rfl (lv_room (Nat.le_of_ble_eq_true rfl)) dX9_readThird_201 ⟨Nat.zero_le _, Nat.zero_le _⟩) hP hD hS hA [0, 1, 2, 3, 4, 5, 6, 7] [] [0, 1, 2, 3, 4, 5, 6, 7] (ws' := zwX9 cI h_t h_t_now h_t_file h_t_fresh h_t_colour h_t_table h_t_last h_t_one t_wide t_high t_size t_at u1 t_newWide t_newHigh t_colours t_now t_file t_fresh t_colour t_table t_last t_one) rfl rfl rfl rfl rfl rfl (fun H locs hP hD hS => ?_)
  refine lv_aload_n hx hb dX9_readThird_204 rfl (lv_at hl 0 rfl) ?_
  refine lv_iconst (v := 4) hx hb dX9_readThird_205 (by decide) ?_
  obtain ⟨u3, u4, hc5, hf⟩ := zb2_in hf
  refine zc_v (va_runV (As := [.int 4]) (rest := []) C (mX9_skip l D cI H.size h_t h_t_now h_t_file h_t_fresh h_t_colour h_t_table h_t_last h_t_one t_wide t_high t_size t_at u1 t_newWide t_newHigh t_colours t_now t_file t_fresh t_colour t_table t_last t_one 4 u3 u4 hc5) (qX9_readThird_X9_skip_152 hts) ⟨zP_blind, va_recv hK hP (ci := 8) (q0 := 0) rfl rfl, zpre hK hN hP hD [0, 1, 2, 3, 4, 5, 6, 7] rfl rfl⟩ rfl rfl hl.1 rfl (lv_room (Nat.le_of_ble_eq_true rfl)) dX9_readThird_206 ⟨Nat.zero_le _, Nat.zero_le _⟩) hP hD hS hA [0, 1, 2, 3, 4, 5, 6, 7] [] [0, 1, 2, 3, 4, 5, 6, 7] (ws' := zwX9 cI h_t h_t_now h_t_file h_t_fresh h_t_colour h_t_table h_t_last h_t_one t_wide t_high t_size u3 u4 t_newWide t_newHigh t_colours t_now t_file t_fresh t_colour t_table t_last t_one) rfl rfl rfl rfl rfl rfl (fun H locs hP hD hS => ?_)
  refine lv_iconst (v := 0) hx hb dX9_readThird_209 (by decide) ?_
  refine lv_istore (lv' := [(5, .int 0), (0, .ref h_t), (1, .int l1), (2, .int l2), (3, .int l3), (4, .int l4)]) hx hb dX9_readThird_210 hl (by decide) rfl (fun ls hl => ?_)
  exact wX9_readThird_212 C hN hK hA hE 1000 hf hP hD hS (lv_sub hl [1, 2, 3, 4, 5, 0] rfl)
set_option maxHeartbeats 4000000 in
set_option maxRecDepth 100000 in
theorem wX9_readThird_181 {p : Program} {l : Launch} {e : Env} {s : State} {m : MethodId} {args : Array Value} {below : List Frame} {meth : Method} {c : Code} {D : va_G} {A : Nat → Prop} {Q : State → Prop} {cI : ClassId} {h_t h_t_now h_t_file h_t_fresh h_t_colour h_t_table h_t_last h_t_one : Nat} {t_wide : Int32} {t_high : Int32} {t_size : Int32} {t_now : Nat → Int32} {t_file : Nat → Int32} {t_table : Nat → Int32} {t_last : Nat → Int32} {zt_at : Int32} {zt_fault : Int32} {zt_newWide : Int32} {zt_newHigh : Int32} {zt_colours : Int32} {zt_fresh : Nat → Int32} {zt_colour : Nat → Int32} {zt_one : Nat → Int32} (C : CallFix p m c cX9_readThird 7 s args wsX9_readThird RX9) (hN : zN s) (hK : va_K D vwCl [(cI, .int)] s) (hA : ∀ q, s.heap.size ≤ q → A q) (hE : zEv p l e rmX9_readThird s m args below meth c cX9_readThird D A Q (zwX9 cI h_t h_t_now h_t_file h_t_fresh h_t_colour h_t_table h_t_last h_t_one t_wide t_high t_size zt_at zt_fault zt_newWide zt_newHigh zt_colours t_now t_file zt_fresh zt_colour t_table t_last zt_one)) {t_at : Int32} {t_fault : Int32} {t_newWide : Int32} {t_newHigh : Int32} {t_colours : Int32} {t_fresh : Nat → Int32} {t_colour : Nat → Int32} {t_one : Nat → Int32} {l1 : Int32} {l2 : Int32} {l3 : Int32} {l4 : Int32} {H : Heap} {locs : List Loc} {ls : Array Slot} : fX9_readThird_181 t_size t_at t_fault t_newWide t_newHigh t_colours t_file t_fresh t_colour t_one l1 l2 l3 l4 = some (zt_at, zt_fault, zt_newWide, zt_newHigh, zt_colours, zt_fresh, zt_colour, zt_one) → va_P D vwCl (zwX9 cI h_t h_t_now h_t_file h_t_fresh h_t_colour h_t_table h_t_last h_t_one t_wide t_high t_size t_at t_fault t_newWide t_newHigh t_colours t_now t_file t_fresh t_colour t_table t_last t_one) H → va_D A (zwX9 cI h_t h_t_now h_t_file h_t_fresh h_t_colour h_t_table h_t_last h_t_one t_wide t_high t_size t_at t_fault t_newWide t_newHigh t_colours t_now t_file t_fresh t_colour t_table t_last t_one) → va_S A s.heap H locs → lv_has ls 7 [(0, .ref h_t), (1, .int l1), (2, .int l2), (3, .int l3), (4, .int l4)] → W p l e rmX9_readThird s m args below meth c H locs 0 0 Q (F0 m 181 ls [.ref h_t]) := by
  intro hf hP hD hS hl
  obtain ⟨hx, hb, hml, hown, hts⟩ := id C
  unfold fX9_readThird_181 at hf
  refine lv_iconst (v := 1) hx hb dX9_readThird_181 (by decide) ?_
  refine lv_goto (tgt := 201) hx hb dX9_readThird_182 (by decide) ?_
  exact wX9_readThird_201 C hN hK hA hE hf hP hD hS (lv_sub hl [0, 1, 2, 3, 4] rfl)
set_option maxHeartbeats 4000000 in
set_option maxRecDepth 100000 in
theorem wX9_readThird_138 {p : Program} {l : Launch} {e : Env} {s : State} {m : MethodId} {args : Array Value} {below : List Frame} {meth : Method} {c : Code} {D : va_G} {A : Nat → Prop} {Q : State → Prop} {cI : ClassId} {h_t h_t_now h_t_file h_t_fresh h_t_colour h_t_table h_t_last h_t_one : Nat} {t_wide : Int32} {t_high : Int32} {t_size : Int32} {t_now : Nat → Int32} {t_file : Nat → Int32} {t_table : Nat → Int32} {t_last : Nat → Int32} {zt_at : Int32} {zt_fault : Int32} {zt_newWide : Int32} {zt_newHigh : Int32} {zt_colours : Int32} {zt_fresh : Nat → Int32} {zt_colour : Nat → Int32} {zt_one : Nat → Int32} (C : CallFix p m c cX9_readThird 7 s args wsX9_readThird RX9) (hN : zN s) (hK : va_K D vwCl [(cI, .int)] s) (hA : ∀ q, s.heap.size ≤ q → A q) (hE : zEv p l e rmX9_readThird s m args below meth c cX9_readThird D A Q (zwX9 cI h_t h_t_now h_t_file h_t_fresh h_t_colour h_t_table h_t_last h_t_one t_wide t_high t_size zt_at zt_fault zt_newWide zt_newHigh zt_colours t_now t_file zt_fresh zt_colour t_table t_last zt_one)) {t_at : Int32} {t_fault : Int32} {t_newWide : Int32} {t_newHigh : Int32} {t_colours : Int32} {t_fresh : Nat → Int32} {t_colour : Nat → Int32} {t_one : Nat → Int32} {l1 : Int32} {l2 : Int32} {l3 : Int32} {l4 : Int32} {k1 : Int32} {H : Heap} {locs : List Loc} {ls : Array Slot} : fX9_readThird_138 t_size t_at t_fault t_newWide t_newHigh t_file t_fresh t_colour t_one l1 l2 l3 l4 k1 = some (zt_at, zt_fault, zt_newWide, zt_newHigh, zt_colours, zt_fresh, zt_colour, zt_one) → va_P D vwCl (zwX9 cI h_t h_t_now h_t_file h_t_fresh h_t_colour h_t_table h_t_last h_t_one t_wide t_high t_size t_at t_fault t_newWide t_newHigh t_colours t_now t_file t_fresh t_colour t_table t_last t_one) H → va_D A (zwX9 cI h_t h_t_now h_t_file h_t_fresh h_t_colour h_t_table h_t_last h_t_one t_wide t_high t_size t_at t_fault t_newWide t_newHigh t_colours t_now t_file t_fresh t_colour t_table t_last t_one) → va_S A s.heap H locs → lv_has ls 7 [(0, .ref h_t), (1, .int l1), (2, .int l2), (3, .int l3), (4, .int l4)] → W p l e rmX9_readThird s m args below meth c H locs 0 0 Q (F0 m 138 ls [.int k1, .ref h_t]) := by
  intro hf hP hD hS hl
  obtain ⟨hx, hb, hml, hown, hts⟩ := id C
  unfold fX9_readThird_138 at hf
  obtain ⟨u1, hc2, hf⟩ := zb1_in hf
  refine zc_v (va_runV (As := [.int k1]) (rest := []) C (mX9_broken l D cI H.size h_t h_t_now h_t_file h_t_fresh h_t_colour h_t_table h_t_last h_t_one t_wide t_high t_size t_at t_fault t_newWide t_newHigh t_colours t_now t_file t_fresh t_colour t_table t_last t_one k1 u1 hc2) (qX9_readThird_X9_broken_139 hts) ⟨zP_blind, va_recv hK hP (ci := 8) (q0 := 0) rfl rfl, zpre hK hN hP hD [0, 1, 2, 3, 4, 5, 6, 7] rfl rfl⟩ rfl rfl hl.1 rfl (lv_room (Nat.le_of_ble_eq_true rfl)) dX9_readThird_138 ⟨Nat.zero_le _, Nat.zero_le _⟩) hP hD hS hA [0, 1, 2, 3, 4, 5, 6, 7] [] [0, 1, 2, 3, 4, 5, 6, 7] (ws' := zwX9 cI h_t h_t_now h_t_file h_t_fresh h_t_colour h_t_table h_t_last h_t_one t_wide t_high t_size t_at u1 t_newWide t_newHigh t_colours t_now t_file t_fresh t_colour t_table t_last t_one) rfl rfl rfl rfl rfl rfl (fun H locs hP hD hS => ?_)
  refine lv_aload_n hx hb dX9_readThird_141 rfl (lv_at hl 0 rfl) ?_
  refine lv_bipush (v := 12) hx hb dX9_readThird_142 (by decide) ?_
  obtain ⟨u3, u4, hc5, hf⟩ := zb2_in hf
  refine zc_v (va_runV (As := [.int 12]) (rest := []) C (mX9_skip l D cI H.size h_t h_t_now h_t_file h_t_fresh h_t_colour h_t_table h_t_last h_t_one t_wide t_high t_size t_at u1 t_newWide t_newHigh t_colours t_now t_file t_fresh t_colour t_table t_last t_one 12 u3 u4 hc5) (qX9_readThird_X9_skip_152 hts) ⟨zP_blind, va_recv hK hP (ci := 8) (q0 := 0) rfl rfl, zpre hK hN hP hD [0, 1, 2, 3, 4, 5, 6, 7] rfl rfl⟩ rfl rfl hl.1 rfl (lv_room (Nat.le_of_ble_eq_true rfl)) dX9_readThird_144 ⟨Nat.zero_le _, Nat.zero_le _⟩) hP hD hS hA [0, 1, 2, 3, 4, 5, 6, 7] [] [0, 1, 2, 3, 4, 5, 6, 7] (ws' := zwX9 cI h_t h_t_now h_t_file h_t_fresh h_t_colour h_t_table h_t_last h_t_one t_wide t_high t_size u3 u4 t_newWide t_newHigh t_colours t_now t_file t_fresh t_colour t_table t_last t_one) rfl rfl rfl rfl rfl rfl (fun H locs hP hD hS => ?_)
  refine lv_aload_n hx hb dX9_readThird_147 rfl (lv_at hl 0 rfl) ?_
  refine lv_aload_n hx hb dX9_readThird_148 rfl (lv_at hl 0 rfl) ?_
  refine lv_iconst (v := 4) hx hb dX9_readThird_149 (by decide) ?_
  refine lv_iconst (v := 0) hx hb dX9_readThird_150 (by decide) ?_
  obtain ⟨r6, u7, u8, hc9, hf⟩ := zb3_in hf
  refine zc_i (va_runV (As := [.int 4, .int 0]) (rest := [.ref h_t]) C (mX9_number l D cI H.size h_t h_t_now h_t_file h_t_fresh h_t_colour h_t_table h_t_last h_t_one t_wide t_high t_size u3 u4 t_newWide t_newHigh t_colours t_now t_file t_fresh t_colour t_table t_last t_one 4 0 r6 u7 u8 hc9) (qX9_readThird_X9_number_155 hts) ⟨zP_blind, va_recv hK hP (ci := 8) (q0 := 0) rfl rfl, zpre hK hN hP hD [0, 1, 2, 3, 4, 5, 6, 7] rfl rfl⟩ rfl rfl hl.1 rfl (lv_room (Nat.le_of_ble_eq_true rfl)) dX9_readThird_151 ⟨Nat.zero_le _, Nat.zero_le _⟩) hP hD hS hA [0, 1, 2, 3, 4, 5, 6, 7] [] [0, 1, 2, 3, 4, 5, 6, 7] (ws' := zwX9 cI h_t h_t_now h_t_file h_t_fresh h_t_colour h_t_table h_t_last h_t_one t_wide t_high t_size u7 u8 t_newWide t_newHigh t_colours t_now t_file t_fresh t_colour t_table t_last t_one) rfl rfl rfl rfl rfl rfl (fun H locs hP hD hS => ?_)
  refine va_put (D := D) (ci := 8) (v := .int r6) (ty := .int) (C := RX9) (T := TX9) (N := 15) hx hb hts iX9_readThird_X9 tyX9 tyX9_ok nmX9 hown hK hP hD hS 0 rfl rfl 10 (by decide) (kX9_readThird_186 hts) (fun _ h9 => h9) rfl (by decide +kernel) rfl rfl (Nat.le_of_ble_eq_true rfl) dX9_readThird_154 (fun H locs hP hD hS => ?_)
  replace hP : va_P D vwCl (zwX9 cI h_t h_t_now h_t_file h_t_fresh h_t_colour h_t_table h_t_last h_t_one t_wide t_high t_size u7 u8 t_newWide t_newHigh r6 t_now t_file t_fresh t_colour t_table t_last t_one) H := hP
  replace hD : va_D A (zwX9 cI h_t h_t_now h_t_file h_t_fresh h_t_colour h_t_table h_t_last h_t_one t_wide t_high t_size u7 u8 t_newWide t_newHigh r6 t_now t_file t_fresh t_colour t_table t_last t_one) := hD
  refine lv_aload_n hx hb dX9_readThird_157 rfl (lv_at hl 0 rfl) ?_
  refine lv_iload_n hx hb dX9_readThird_158 rfl (lv_at hl 3 rfl) ?_
  refine lv_bipush (v := 8) hx hb dX9_readThird_159 (by decide) ?_
  refine lv_icmp_ne (tgt := 189) hx hb dX9_readThird_161 (by decide) (fun c10 => ?_) (fun c10 => ?_)
  · replace hf := zif_f hf c10
    refine lv_aload_n hx hb dX9_readThird_189 rfl (lv_at hl 0 rfl) ?_
    refine va_get (D := D) (ci := 8) (v := .int r6) (C := RX9) (T := TX9) (N := 15) hx hb hts iX9_readThird_X9 hown hK hP 0 rfl rfl 10 (by decide) (kX9_readThird_186 hts) (fun _ h9 => h9) rfl dX9_readThird_190 ?_
    refine lv_if_eq (tgt := 200) hx hb dX9_readThird_193 (by decide) (fun c11 => ?_) (fun c11 => ?_)
    · replace hf := zif_t hf c11
      refine lv_iconst (v := 0) hx hb dX9_readThird_200 (by decide) ?_
      exact wX9_readThird_201 C hN hK hA hE hf hP hD hS (lv_sub hl [0, 1, 2, 3, 4] rfl)
    · replace hf := zif_f hf c11
      refine lv_iconst (v := 1) hx hb dX9_readThird_196 (by decide) ?_
      refine lv_goto (tgt := 201) hx hb dX9_readThird_197 (by decide) ?_
      exact wX9_readThird_201 C hN hK hA hE hf hP hD hS (lv_sub hl [0, 1, 2, 3, 4] rfl)
  · replace hf := zif_t hf c10
    refine lv_aload_n hx hb dX9_readThird_164 rfl (lv_at hl 0 rfl) ?_
    refine va_get (D := D) (ci := 8) (v := .int r6) (C := RX9) (T := TX9) (N := 15) hx hb hts iX9_readThird_X9 hown hK hP 0 rfl rfl 10 (by decide) (kX9_readThird_186 hts) (fun _ h9 => h9) rfl dX9_readThird_165 ?_
    refine lv_iconst (v := 1) hx hb dX9_readThird_168 (by decide) ?_
    refine lv_icmp_lt (tgt := 181) hx hb dX9_readThird_169 (by decide) (fun c12 => ?_) (fun c12 => ?_)
    · replace hf := zif_t hf c12
      exact wX9_readThird_181 C hN hK hA hE hf hP hD hS (lv_sub hl [0, 1, 2, 3, 4] rfl)
    · replace hf := zif_f hf c12
      refine lv_aload_n hx hb dX9_readThird_172 rfl (lv_at hl 0 rfl) ?_
      refine va_get (D := D) (ci := 8) (v := .int r6) (C := RX9) (T := TX9) (N := 15) hx hb hts iX9_readThird_X9 hown hK hP 0 rfl rfl 10 (by decide) (kX9_readThird_186 hts) (fun _ h9 => h9) rfl dX9_readThird_173 ?_
      refine lv_bipush (v := 64) hx hb dX9_readThird_176 (by decide) ?_
      refine lv_icmp_le (tgt := 185) hx hb dX9_readThird_178 (by decide) (fun c13 => ?_) (fun c13 => ?_)
      · replace hf := zif_t hf c13
        refine lv_iconst (v := 0) hx hb dX9_readThird_185 (by decide) ?_
        refine lv_goto (tgt := 201) hx hb dX9_readThird_186 (by decide) ?_
        exact wX9_readThird_201 C hN hK hA hE hf hP hD hS (lv_sub hl [0, 1, 2, 3, 4] rfl)
      · replace hf := zif_f hf c13
        exact wX9_readThird_181 C hN hK hA hE hf hP hD hS (lv_sub hl [0, 1, 2, 3, 4] rfl)
set_option maxHeartbeats 4000000 in
set_option maxRecDepth 100000 in
theorem wX9_readThird_137 {p : Program} {l : Launch} {e : Env} {s : State} {m : MethodId} {args : Array Value} {below : List Frame} {meth : Method} {c : Code} {D : va_G} {A : Nat → Prop} {Q : State → Prop} {cI : ClassId} {h_t h_t_now h_t_file h_t_fresh h_t_colour h_t_table h_t_last h_t_one : Nat} {t_wide : Int32} {t_high : Int32} {t_size : Int32} {t_now : Nat → Int32} {t_file : Nat → Int32} {t_table : Nat → Int32} {t_last : Nat → Int32} {zt_at : Int32} {zt_fault : Int32} {zt_newWide : Int32} {zt_newHigh : Int32} {zt_colours : Int32} {zt_fresh : Nat → Int32} {zt_colour : Nat → Int32} {zt_one : Nat → Int32} (C : CallFix p m c cX9_readThird 7 s args wsX9_readThird RX9) (hN : zN s) (hK : va_K D vwCl [(cI, .int)] s) (hA : ∀ q, s.heap.size ≤ q → A q) (hE : zEv p l e rmX9_readThird s m args below meth c cX9_readThird D A Q (zwX9 cI h_t h_t_now h_t_file h_t_fresh h_t_colour h_t_table h_t_last h_t_one t_wide t_high t_size zt_at zt_fault zt_newWide zt_newHigh zt_colours t_now t_file zt_fresh zt_colour t_table t_last zt_one)) {t_at : Int32} {t_fault : Int32} {t_newWide : Int32} {t_newHigh : Int32} {t_colours : Int32} {t_fresh : Nat → Int32} {t_colour : Nat → Int32} {t_one : Nat → Int32} {l1 : Int32} {l2 : Int32} {l3 : Int32} {l4 : Int32} {H : Heap} {locs : List Loc} {ls : Array Slot} : fX9_readThird_137 t_size t_at t_fault t_newWide t_newHigh t_file t_fresh t_colour t_one l1 l2 l3 l4 = some (zt_at, zt_fault, zt_newWide, zt_newHigh, zt_colours, zt_fresh, zt_colour, zt_one) → va_P D vwCl (zwX9 cI h_t h_t_now h_t_file h_t_fresh h_t_colour h_t_table h_t_last h_t_one t_wide t_high t_size t_at t_fault t_newWide t_newHigh t_colours t_now t_file t_fresh t_colour t_table t_last t_one) H → va_D A (zwX9 cI h_t h_t_now h_t_file h_t_fresh h_t_colour h_t_table h_t_last h_t_one t_wide t_high t_size t_at t_fault t_newWide t_newHigh t_colours t_now t_file t_fresh t_colour t_table t_last t_one) → va_S A s.heap H locs → lv_has ls 7 [(0, .ref h_t), (1, .int l1), (2, .int l2), (3, .int l3), (4, .int l4)] → W p l e rmX9_readThird s m args below meth c H locs 0 0 Q (F0 m 137 ls [.ref h_t]) := by
  intro hf hP hD hS hl
  obtain ⟨hx, hb, hml, hown, hts⟩ := id C
  unfold fX9_readThird_137 at hf
  refine lv_iconst (v := 0) hx hb dX9_readThird_137 (by decide) ?_
  exact wX9_readThird_138 C hN hK hA hE hf hP hD hS (lv_sub hl [0, 1, 2, 3, 4] rfl)
set_option maxHeartbeats 4000000 in
set_option maxRecDepth 100000 in
theorem wX9_readThird_133 {p : Program} {l : Launch} {e : Env} {s : State} {m : MethodId} {args : Array Value} {below : List Frame} {meth : Method} {c : Code} {D : va_G} {A : Nat → Prop} {Q : State → Prop} {cI : ClassId} {h_t h_t_now h_t_file h_t_fresh h_t_colour h_t_table h_t_last h_t_one : Nat} {t_wide : Int32} {t_high : Int32} {t_size : Int32} {t_now : Nat → Int32} {t_file : Nat → Int32} {t_table : Nat → Int32} {t_last : Nat → Int32} {zt_at : Int32} {zt_fault : Int32} {zt_newWide : Int32} {zt_newHigh : Int32} {zt_colours : Int32} {zt_fresh : Nat → Int32} {zt_colour : Nat → Int32} {zt_one : Nat → Int32} (C : CallFix p m c cX9_readThird 7 s args wsX9_readThird RX9) (hN : zN s) (hK : va_K D vwCl [(cI, .int)] s) (hA : ∀ q, s.heap.size ≤ q → A q) (hE : zEv p l e rmX9_readThird s m args below meth c cX9_readThird D A Q (zwX9 cI h_t h_t_now h_t_file h_t_fresh h_t_colour h_t_table h_t_last h_t_one t_wide t_high t_size zt_at zt_fault zt_newWide zt_newHigh zt_colours t_now t_file zt_fresh zt_colour t_table t_last zt_one)) {t_at : Int32} {t_fault : Int32} {t_newWide : Int32} {t_newHigh : Int32} {t_colours : Int32} {t_fresh : Nat → Int32} {t_colour : Nat → Int32} {t_one : Nat → Int32} {l1 : Int32} {l2 : Int32} {l3 : Int32} {l4 : Int32} {H : Heap} {locs : List Loc} {ls : Array Slot} : fX9_readThird_133 t_size t_at t_fault t_newWide t_newHigh t_file t_fresh t_colour t_one l1 l2 l3 l4 = some (zt_at, zt_fault, zt_newWide, zt_newHigh, zt_colours, zt_fresh, zt_colour, zt_one) → va_P D vwCl (zwX9 cI h_t h_t_now h_t_file h_t_fresh h_t_colour h_t_table h_t_last h_t_one t_wide t_high t_size t_at t_fault t_newWide t_newHigh t_colours t_now t_file t_fresh t_colour t_table t_last t_one) H → va_D A (zwX9 cI h_t h_t_now h_t_file h_t_fresh h_t_colour h_t_table h_t_last h_t_one t_wide t_high t_size t_at t_fault t_newWide t_newHigh t_colours t_now t_file t_fresh t_colour t_table t_last t_one) → va_S A s.heap H locs → lv_has ls 7 [(0, .ref h_t), (1, .int l1), (2, .int l2), (3, .int l3), (4, .int l4)] → W p l e rmX9_readThird s m args below meth c H locs 0 0 Q (F0 m 133 ls [.ref h_t]) := by
  intro hf hP hD hS hl
  obtain ⟨hx, hb, hml, hown, hts⟩ := id C
  unfold fX9_readThird_133 at hf
  refine lv_iconst (v := 1) hx hb dX9_readThird_133 (by decide) ?_
  refine lv_goto (tgt := 138) hx hb dX9_readThird_134 (by decide) ?_
  exact wX9_readThird_138 C hN hK hA hE hf hP hD hS (lv_sub hl [0, 1, 2, 3, 4] rfl)
set_option maxHeartbeats 4000000 in
set_option maxRecDepth 100000 in
theorem wX9_readThird_100 {p : Program} {l : Launch} {e : Env} {s : State} {m : MethodId} {args : Array Value} {below : List Frame} {meth : Method} {c : Code} {D : va_G} {A : Nat → Prop} {Q : State → Prop} {cI : ClassId} {h_t h_t_now h_t_file h_t_fresh h_t_colour h_t_table h_t_last h_t_one : Nat} {t_wide : Int32} {t_high : Int32} {t_size : Int32} {t_now : Nat → Int32} {t_file : Nat → Int32} {t_table : Nat → Int32} {t_last : Nat → Int32} {zt_at : Int32} {zt_fault : Int32} {zt_newWide : Int32} {zt_newHigh : Int32} {zt_colours : Int32} {zt_fresh : Nat → Int32} {zt_colour : Nat → Int32} {zt_one : Nat → Int32} (C : CallFix p m c cX9_readThird 7 s args wsX9_readThird RX9) (hN : zN s) (hK : va_K D vwCl [(cI, .int)] s) (hA : ∀ q, s.heap.size ≤ q → A q) (hE : zEv p l e rmX9_readThird s m args below meth c cX9_readThird D A Q (zwX9 cI h_t h_t_now h_t_file h_t_fresh h_t_colour h_t_table h_t_last h_t_one t_wide t_high t_size zt_at zt_fault zt_newWide zt_newHigh zt_colours t_now t_file zt_fresh zt_colour t_table t_last zt_one)) {t_at : Int32} {t_fault : Int32} {t_newWide : Int32} {t_newHigh : Int32} {t_colours : Int32} {t_fresh : Nat → Int32} {t_colour : Nat → Int32} {t_one : Nat → Int32} {l1 : Int32} {l2 : Int32} {l3 : Int32} {k1 : Int32} {H : Heap} {locs : List Loc} {ls : Array Slot} : fX9_readThird_100 t_size t_at t_fault t_newWide t_newHigh t_file t_fresh t_colour t_one l1 l2 l3 k1 = some (zt_at, zt_fault, zt_newWide, zt_newHigh, zt_colours, zt_fresh, zt_colour, zt_one) → va_P D vwCl (zwX9 cI h_t h_t_now h_t_file h_t_fresh h_t_colour h_t_table h_t_last h_t_one t_wide t_high t_size t_at t_fault t_newWide t_newHigh t_colours t_now t_file t_fresh t_colour t_table t_last t_one) H → va_D A (zwX9 cI h_t h_t_now h_t_file h_t_fresh h_t_colour h_t_table h_t_last h_t_one t_wide t_high t_size t_at t_fault t_newWide t_newHigh t_colours t_now t_file t_fresh t_colour t_table t_last t_one) → va_S A s.heap H locs → lv_has ls 7 [(0, .ref h_t), (1, .int l1), (2, .int l2), (3, .int l3)] → W p l e rmX9_readThird s m args below meth c H locs 0 0 Q (F0 m 100 ls [.int k1, .ref h_t]) := by
  intro hf hP hD hS hl
  obtain ⟨hx, hb, hml, hown, hts⟩ := id C
  unfold fX9_readThird_100 at hf
  obtain ⟨u1, hc2, hf⟩ := zb1_in hf
  refine zc_v (va_runV (As := [.int k1]) (rest := []) C (mX9_broken l D cI H.size h_t h_t_now h_t_file h_t_fresh h_t_colour h_t_table h_t_last h_t_one t_wide t_high t_size t_at t_fault t_newWide t_newHigh t_colours t_now t_file t_fresh t_colour t_table t_last t_one k1 u1 hc2) (qX9_readThird_X9_broken_139 hts) ⟨zP_blind, va_recv hK hP (ci := 8) (q0 := 0) rfl rfl, zpre hK hN hP hD [0, 1, 2, 3, 4, 5, 6, 7] rfl rfl⟩ rfl rfl hl.1 rfl (lv_room (Nat.le_of_ble_eq_true rfl)) dX9_readThird_100 ⟨Nat.zero_le _, Nat.zero_le _⟩) hP hD hS hA [0, 1, 2, 3, 4, 5, 6, 7] [] [0, 1, 2, 3, 4, 5, 6, 7] (ws' := zwX9 cI h_t h_t_now h_t_file h_t_fresh h_t_colour h_t_table h_t_last h_t_one t_wide t_high t_size t_at u1 t_newWide t_newHigh t_colours t_now t_file t_fresh t_colour t_table t_last t_one) rfl rfl rfl rfl rfl rfl (fun H locs hP hD hS => ?_)
  refine lv_aload_n hx hb dX9_readThird_103 rfl (lv_at hl 0 rfl) ?_
  refine lv_iconst (v := 4) hx hb dX9_readThird_104 (by decide) ?_
  refine lv_iconst (v := 0) hx hb dX9_readThird_105 (by decide) ?_
  obtain ⟨r3, u4, u5, hc6, hf⟩ := zb3_in hf
  refine zc_i (va_runV (As := [.int 4, .int 0]) (rest := []) C (mX9_number l D cI H.size h_t h_t_now h_t_file h_t_fresh h_t_colour h_t_table h_t_last h_t_one t_wide t_high t_size t_at u1 t_newWide t_newHigh t_colours t_now t_file t_fresh t_colour t_table t_last t_one 4 0 r3 u4 u5 hc6) (qX9_readThird_X9_number_155 hts) ⟨zP_blind, va_recv hK hP (ci := 8) (q0 := 0) rfl rfl, zpre hK hN hP hD [0, 1, 2, 3, 4, 5, 6, 7] rfl rfl⟩ rfl rfl hl.1 rfl (lv_room (Nat.le_of_ble_eq_true rfl)) dX9_readThird_106 ⟨Nat.zero_le _, Nat.zero_le _⟩) hP hD hS hA [0, 1, 2, 3, 4, 5, 6, 7] [] [0, 1, 2, 3, 4, 5, 6, 7] (ws' := zwX9 cI h_t h_t_now h_t_file h_t_fresh h_t_colour h_t_table h_t_last h_t_one t_wide t_high t_size u4 u5 t_newWide t_newHigh t_colours t_now t_file t_fresh t_colour t_table t_last t_one) rfl rfl rfl rfl rfl rfl (fun H locs hP hD hS => ?_)
  refine lv_istore (lv' := [(4, .int r3), (0, .ref h_t), (1, .int l1), (2, .int l2), (3, .int l3)]) hx hb dX9_readThird_109 hl (by decide) rfl (fun ls hl => ?_)
  refine lv_aload_n hx hb dX9_readThird_111 rfl (lv_at hl 1 rfl) ?_
  refine lv_iload hx hb dX9_readThird_112 (lv_at hl 0 rfl) ?_
  refine lv_if_eq (tgt := 137) hx hb dX9_readThird_114 (by decide) (fun c7 => ?_) (fun c7 => ?_)
  · replace hf := zif_t hf c7
    exact wX9_readThird_137 C hN hK hA hE hf hP hD hS (lv_sub hl [1, 2, 3, 4, 0] rfl)
  · replace hf := zif_f hf c7
    refine lv_iload hx hb dX9_readThird_117 (lv_at hl 0 rfl) ?_
    refine lv_iconst (v := 1) hx hb dX9_readThird_119 (by decide) ?_
    refine lv_icmp_ne (tgt := 133) hx hb dX9_readThird_120 (by decide) (fun c8 => ?_) (fun c8 => ?_)
    · replace hf := zif_f hf c8
      exact wX9_readThird_133 C hN hK hA hE hf hP hD hS (lv_sub hl [1, 2, 3, 4, 0] rfl)
    · replace hf := zif_t hf c8
      refine lv_iload_n hx hb dX9_readThird_123 rfl (lv_at hl 4 rfl) ?_
      refine lv_bipush (v := 8) hx hb dX9_readThird_124 (by decide) ?_
      refine lv_icmp_ne (tgt := 133) hx hb dX9_readThird_126 (by decide) (fun c9 => ?_) (fun c9 => ?_)
      · replace hf := zif_f hf c9
        exact wX9_readThird_133 C hN hK hA hE hf hP hD hS (lv_sub hl [1, 2, 3, 4, 0] rfl)
      · replace hf := zif_t hf c9
        refine lv_iload_n hx hb dX9_readThird_129 rfl (lv_at hl 3 rfl) ?_
        refine lv_if_ge (tgt := 137) hx hb dX9_readThird_130 (by decide) (fun c10 => ?_) (fun c10 => ?_)
        · replace hf := zif_t hf c10
          exact wX9_readThird_137 C hN hK hA hE hf hP hD hS (lv_sub hl [1, 2, 3, 4, 0] rfl)
        · replace hf := zif_f hf c10
          exact wX9_readThird_133 C hN hK hA hE hf hP hD hS (lv_sub hl [1, 2, 3, 4, 0] rfl)
set_option maxHeartbeats 4000000 in
set_option maxRecDepth 100000 in
theorem wX9_readThird_99 {p : Program} {l : Launch} {e : Env} {s : State} {m : MethodId} {args : Array Value} {below : List Frame} {meth : Method} {c : Code} {D : va_G} {A : Nat → Prop} {Q : State → Prop} {cI : ClassId} {h_t h_t_now h_t_file h_t_fresh h_t_colour h_t_table h_t_last h_t_one : Nat} {t_wide : Int32} {t_high : Int32} {t_size : Int32} {t_now : Nat → Int32} {t_file : Nat → Int32} {t_table : Nat → Int32} {t_last : Nat → Int32} {zt_at : Int32} {zt_fault : Int32} {zt_newWide : Int32} {zt_newHigh : Int32} {zt_colours : Int32} {zt_fresh : Nat → Int32} {zt_colour : Nat → Int32} {zt_one : Nat → Int32} (C : CallFix p m c cX9_readThird 7 s args wsX9_readThird RX9) (hN : zN s) (hK : va_K D vwCl [(cI, .int)] s) (hA : ∀ q, s.heap.size ≤ q → A q) (hE : zEv p l e rmX9_readThird s m args below meth c cX9_readThird D A Q (zwX9 cI h_t h_t_now h_t_file h_t_fresh h_t_colour h_t_table h_t_last h_t_one t_wide t_high t_size zt_at zt_fault zt_newWide zt_newHigh zt_colours t_now t_file zt_fresh zt_colour t_table t_last zt_one)) {t_at : Int32} {t_fault : Int32} {t_newWide : Int32} {t_newHigh : Int32} {t_colours : Int32} {t_fresh : Nat → Int32} {t_colour : Nat → Int32} {t_one : Nat → Int32} {l1 : Int32} {l2 : Int32} {l3 : Int32} {H : Heap} {locs : List Loc} {ls : Array Slot} : fX9_readThird_99 t_size t_at t_fault t_newWide t_newHigh t_file t_fresh t_colour t_one l1 l2 l3 = some (zt_at, zt_fault, zt_newWide, zt_newHigh, zt_colours, zt_fresh, zt_colour, zt_one) → va_P D vwCl (zwX9 cI h_t h_t_now h_t_file h_t_fresh h_t_colour h_t_table h_t_last h_t_one t_wide t_high t_size t_at t_fault t_newWide t_newHigh t_colours t_now t_file t_fresh t_colour t_table t_last t_one) H → va_D A (zwX9 cI h_t h_t_now h_t_file h_t_fresh h_t_colour h_t_table h_t_last h_t_one t_wide t_high t_size t_at t_fault t_newWide t_newHigh t_colours t_now t_file t_fresh t_colour t_table t_last t_one) → va_S A s.heap H locs → lv_has ls 7 [(0, .ref h_t), (1, .int l1), (2, .int l2), (3, .int l3)] → W p l e rmX9_readThird s m args below meth c H locs 0 0 Q (F0 m 99 ls [.ref h_t]) := by
  intro hf hP hD hS hl
  obtain ⟨hx, hb, hml, hown, hts⟩ := id C
  unfold fX9_readThird_99 at hf
  refine lv_iconst (v := 0) hx hb dX9_readThird_99 (by decide) ?_
  exact wX9_readThird_100 C hN hK hA hE hf hP hD hS (lv_sub hl [0, 1, 2, 3] rfl)
set_option maxHeartbeats 4000000 in
set_option maxRecDepth 100000 in
theorem wX9_readThird_58 {p : Program} {l : Launch} {e : Env} {s : State} {m : MethodId} {args : Array Value} {below : List Frame} {meth : Method} {c : Code} {D : va_G} {A : Nat → Prop} {Q : State → Prop} {cI : ClassId} {h_t h_t_now h_t_file h_t_fresh h_t_colour h_t_table h_t_last h_t_one : Nat} {t_wide : Int32} {t_high : Int32} {t_size : Int32} {t_now : Nat → Int32} {t_file : Nat → Int32} {t_table : Nat → Int32} {t_last : Nat → Int32} {zt_at : Int32} {zt_fault : Int32} {zt_newWide : Int32} {zt_newHigh : Int32} {zt_colours : Int32} {zt_fresh : Nat → Int32} {zt_colour : Nat → Int32} {zt_one : Nat → Int32} (C : CallFix p m c cX9_readThird 7 s args wsX9_readThird RX9) (hN : zN s) (hK : va_K D vwCl [(cI, .int)] s) (hA : ∀ q, s.heap.size ≤ q → A q) (hE : zEv p l e rmX9_readThird s m args below meth c cX9_readThird D A Q (zwX9 cI h_t h_t_now h_t_file h_t_fresh h_t_colour h_t_table h_t_last h_t_one t_wide t_high t_size zt_at zt_fault zt_newWide zt_newHigh zt_colours t_now t_file zt_fresh zt_colour t_table t_last zt_one)) {t_at : Int32} {t_fault : Int32} {t_newWide : Int32} {t_newHigh : Int32} {t_colours : Int32} {t_fresh : Nat → Int32} {t_colour : Nat → Int32} {t_one : Nat → Int32} {l1 : Int32} {l2 : Int32} {k2 : Int32} {H : Heap} {locs : List Loc} {ls : Array Slot} : fX9_readThird_58 t_size t_at t_fault t_newWide t_file t_fresh t_colour t_one l1 l2 k2 = some (zt_at, zt_fault, zt_newWide, zt_newHigh, zt_colours, zt_fresh, zt_colour, zt_one) → va_P D vwCl (zwX9 cI h_t h_t_now h_t_file h_t_fresh h_t_colour h_t_table h_t_last h_t_one t_wide t_high t_size t_at t_fault t_newWide t_newHigh t_colours t_now t_file t_fresh t_colour t_table t_last t_one) H → va_D A (zwX9 cI h_t h_t_now h_t_file h_t_fresh h_t_colour h_t_table h_t_last h_t_one t_wide t_high t_size t_at t_fault t_newWide t_newHigh t_colours t_now t_file t_fresh t_colour t_table t_last t_one) → va_S A s.heap H locs → lv_has ls 7 [(0, .ref h_t), (1, .int l1), (2, .int l2)] → W p l e rmX9_readThird s m args below meth c H locs 0 0 Q (F0 m 58 ls [.int k2, .ref h_t, .ref h_t]) := by
  intro hf hP hD hS hl
  obtain ⟨hx, hb, hml, hown, hts⟩ := id C
  unfold fX9_readThird_58 at hf
  obtain ⟨r1, u2, hc3, hf⟩ := zb2_in hf
  refine zc_i (va_runV (As := [.int k2]) (rest := [.ref h_t]) C (mX9_sideOf l D cI H.size h_t h_t_now h_t_file h_t_fresh h_t_colour h_t_table h_t_last h_t_one t_wide t_high t_size t_at t_fault t_newWide t_newHigh t_colours t_now t_file t_fresh t_colour t_table t_last t_one k2 r1 u2 hc3) (qX9_readThird_X9_sideOf_159 hts) ⟨zP_blind, va_recv hK hP (ci := 8) (q0 := 0) rfl rfl, zpre hK hN hP hD [0, 1, 2, 3, 4, 5, 6, 7] rfl rfl⟩ rfl rfl hl.1 rfl (lv_room (Nat.le_of_ble_eq_true rfl)) dX9_readThird_58 ⟨Nat.zero_le _, Nat.zero_le _⟩) hP hD hS hA [0, 1, 2, 3, 4, 5, 6, 7] [] [0, 1, 2, 3, 4, 5, 6, 7] (ws' := zwX9 cI h_t h_t_now h_t_file h_t_fresh h_t_colour h_t_table h_t_last h_t_one t_wide t_high t_size t_at u2 t_newWide t_newHigh t_colours t_now t_file t_fresh t_colour t_table t_last t_one) rfl rfl rfl rfl rfl rfl (fun H locs hP hD hS => ?_)
  refine va_put (D := D) (ci := 8) (v := .int r1) (ty := .int) (C := RX9) (T := TX9) (N := 15) hx hb hts iX9_readThird_X9 tyX9 tyX9_ok nmX9 hown hK hP hD hS 0 rfl rfl 8 (by decide) (kX9_readThird_162 hts) (fun _ h9 => h9) rfl (by decide +kernel) rfl rfl (Nat.le_of_ble_eq_true rfl) dX9_readThird_61 (fun H locs hP hD hS => ?_)
  replace hP : va_P D vwCl (zwX9 cI h_t h_t_now h_t_file h_t_fresh h_t_colour h_t_table h_t_last h_t_one t_wide t_high t_size t_at u2 t_newWide r1 t_colours t_now t_file t_fresh t_colour t_table t_last t_one) H := hP
  replace hD : va_D A (zwX9 cI h_t h_t_now h_t_file h_t_fresh h_t_colour h_t_table h_t_last h_t_one t_wide t_high t_size t_at u2 t_newWide r1 t_colours t_now t_file t_fresh t_colour t_table t_last t_one) := hD
  refine lv_aload_n hx hb dX9_readThird_64 rfl (lv_at hl 0 rfl) ?_
  refine lv_aload_n hx hb dX9_readThird_65 rfl (lv_at hl 0 rfl) ?_
  refine lv_iconst (v := 2) hx hb dX9_readThird_66 (by decide) ?_
  refine lv_iconst (v := 0) hx hb dX9_readThird_67 (by decide) ?_
  obtain ⟨r4, u5, u6, hc7, hf⟩ := zb3_in hf
  refine zc_i (va_runV (As := [.int 2, .int 0]) (rest := [.ref h_t]) C (mX9_number l D cI H.size h_t h_t_now h_t_file h_t_fresh h_t_colour h_t_table h_t_last h_t_one t_wide t_high t_size t_at u2 t_newWide r1 t_colours t_now t_file t_fresh t_colour t_table t_last t_one 2 0 r4 u5 u6 hc7) (qX9_readThird_X9_number_155 hts) ⟨zP_blind, va_recv hK hP (ci := 8) (q0 := 0) rfl rfl, zpre hK hN hP hD [0, 1, 2, 3, 4, 5, 6, 7] rfl rfl⟩ rfl rfl hl.1 rfl (lv_room (Nat.le_of_ble_eq_true rfl)) dX9_readThird_68 ⟨Nat.zero_le _, Nat.zero_le _⟩) hP hD hS hA [0, 1, 2, 3, 4, 5, 6, 7] [] [0, 1, 2, 3, 4, 5, 6, 7] (ws' := zwX9 cI h_t h_t_now h_t_file h_t_fresh h_t_colour h_t_table h_t_last h_t_one t_wide t_high t_size u5 u6 t_newWide r1 t_colours t_now t_file t_fresh t_colour t_table t_last t_one) rfl rfl rfl rfl rfl rfl (fun H locs hP hD hS => ?_)
  refine lv_iconst (v := 1) hx hb dX9_readThird_71 (by decide) ?_
  obtain ⟨u8, hc9, hf⟩ := zb1_in hf
  refine zc_v (va_runV (As := [.int r4, .int 1]) (rest := []) C (mX9_must l D cI H.size h_t h_t_now h_t_file h_t_fresh h_t_colour h_t_table h_t_last h_t_one t_wide t_high t_size u5 u6 t_newWide r1 t_colours t_now t_file t_fresh t_colour t_table t_last t_one r4 1 u8 hc9) (qX9_readThird_X9_must_171 hts) ⟨zP_blind, va_recv hK hP (ci := 8) (q0 := 0) rfl rfl, zpre hK hN hP hD [0, 1, 2, 3, 4, 5, 6, 7] rfl rfl⟩ rfl rfl hl.1 rfl (lv_room (Nat.le_of_ble_eq_true rfl)) dX9_readThird_72 ⟨Nat.zero_le _, Nat.zero_le _⟩) hP hD hS hA [0, 1, 2, 3, 4, 5, 6, 7] [] [0, 1, 2, 3, 4, 5, 6, 7] (ws' := zwX9 cI h_t h_t_now h_t_file h_t_fresh h_t_colour h_t_table h_t_last h_t_one t_wide t_high t_size u5 u8 t_newWide r1 t_colours t_now t_file t_fresh t_colour t_table t_last t_one) rfl rfl rfl rfl rfl rfl (fun H locs hP hD hS => ?_)
  refine lv_aload_n hx hb dX9_readThird_75 rfl (lv_at hl 0 rfl) ?_
  refine lv_iconst (v := 2) hx hb dX9_readThird_76 (by decide) ?_
  refine lv_iconst (v := 0) hx hb dX9_readThird_77 (by decide) ?_
  obtain ⟨r10, u11, u12, hc13, hf⟩ := zb3_in hf
  refine zc_i (va_runV (As := [.int 2, .int 0]) (rest := []) C (mX9_number l D cI H.size h_t h_t_now h_t_file h_t_fresh h_t_colour h_t_table h_t_last h_t_one t_wide t_high t_size u5 u8 t_newWide r1 t_colours t_now t_file t_fresh t_colour t_table t_last t_one 2 0 r10 u11 u12 hc13) (qX9_readThird_X9_number_155 hts) ⟨zP_blind, va_recv hK hP (ci := 8) (q0 := 0) rfl rfl, zpre hK hN hP hD [0, 1, 2, 3, 4, 5, 6, 7] rfl rfl⟩ rfl rfl hl.1 rfl (lv_room (Nat.le_of_ble_eq_true rfl)) dX9_readThird_78 ⟨Nat.zero_le _, Nat.zero_le _⟩) hP hD hS hA [0, 1, 2, 3, 4, 5, 6, 7] [] [0, 1, 2, 3, 4, 5, 6, 7] (ws' := zwX9 cI h_t h_t_now h_t_file h_t_fresh h_t_colour h_t_table h_t_last h_t_one t_wide t_high t_size u11 u12 t_newWide r1 t_colours t_now t_file t_fresh t_colour t_table t_last t_one) rfl rfl rfl rfl rfl rfl (fun H locs hP hD hS => ?_)
  refine lv_istore_n (lv' := [(3, .int r10), (0, .ref h_t), (1, .int l1), (2, .int l2)]) hx hb dX9_readThird_81 rfl hl (by decide) rfl (fun ls hl => ?_)
  refine lv_aload_n hx hb dX9_readThird_82 rfl (lv_at hl 1 rfl) ?_
  refine lv_iload_n hx hb dX9_readThird_83 rfl (lv_at hl 0 rfl) ?_
  refine lv_bipush (v := 8) hx hb dX9_readThird_84 (by decide) ?_
  refine lv_icmp_eq (tgt := 99) hx hb dX9_readThird_86 (by decide) (fun c14 => ?_) (fun c14 => ?_)
  · replace hf := zif_t hf c14
    exact wX9_readThird_99 C hN hK hA hE hf hP hD hS (lv_sub hl [1, 2, 3, 0] rfl)
  · replace hf := zif_f hf c14
    refine lv_iload_n hx hb dX9_readThird_89 rfl (lv_at hl 0 rfl) ?_
    refine lv_bipush (v := 24) hx hb dX9_readThird_90 (by decide) ?_
    refine lv_icmp_eq (tgt := 99) hx hb dX9_readThird_92 (by decide) (fun c15 => ?_) (fun c15 => ?_)
    · replace hf := zif_t hf c15
      exact wX9_readThird_99 C hN hK hA hE hf hP hD hS (lv_sub hl [1, 2, 3, 0] rfl)
    · replace hf := zif_f hf c15
      refine lv_iconst (v := 1) hx hb dX9_readThird_95 (by decide) ?_
      refine lv_goto (tgt := 100) hx hb dX9_readThird_96 (by decide) ?_
      exact wX9_readThird_100 C hN hK hA hE hf hP hD hS (lv_sub hl [1, 2, 3, 0] rfl)
set_option maxHeartbeats 4000000 in
set_option maxRecDepth 100000 in
theorem wX9_readThird_0 {p : Program} {l : Launch} {e : Env} {s : State} {m : MethodId} {args : Array Value} {below : List Frame} {meth : Method} {c : Code} {D : va_G} {A : Nat → Prop} {Q : State → Prop} {cI : ClassId} {h_t h_t_now h_t_file h_t_fresh h_t_colour h_t_table h_t_last h_t_one : Nat} {t_wide : Int32} {t_high : Int32} {t_size : Int32} {t_now : Nat → Int32} {t_file : Nat → Int32} {t_table : Nat → Int32} {t_last : Nat → Int32} {zt_at : Int32} {zt_fault : Int32} {zt_newWide : Int32} {zt_newHigh : Int32} {zt_colours : Int32} {zt_fresh : Nat → Int32} {zt_colour : Nat → Int32} {zt_one : Nat → Int32} (C : CallFix p m c cX9_readThird 7 s args wsX9_readThird RX9) (hN : zN s) (hK : va_K D vwCl [(cI, .int)] s) (hA : ∀ q, s.heap.size ≤ q → A q) (hE : zEv p l e rmX9_readThird s m args below meth c cX9_readThird D A Q (zwX9 cI h_t h_t_now h_t_file h_t_fresh h_t_colour h_t_table h_t_last h_t_one t_wide t_high t_size zt_at zt_fault zt_newWide zt_newHigh zt_colours t_now t_file zt_fresh zt_colour t_table t_last zt_one)) {t_at : Int32} {t_fault : Int32} {t_newWide : Int32} {t_newHigh : Int32} {t_colours : Int32} {t_fresh : Nat → Int32} {t_colour : Nat → Int32} {t_one : Nat → Int32} {H : Heap} {locs : List Loc} {ls : Array Slot} : fX9_readThird t_size t_at t_fault t_file t_fresh t_colour t_one = some (zt_at, zt_fault, zt_newWide, zt_newHigh, zt_colours, zt_fresh, zt_colour, zt_one) → va_P D vwCl (zwX9 cI h_t h_t_now h_t_file h_t_fresh h_t_colour h_t_table h_t_last h_t_one t_wide t_high t_size t_at t_fault t_newWide t_newHigh t_colours t_now t_file t_fresh t_colour t_table t_last t_one) H → va_D A (zwX9 cI h_t h_t_now h_t_file h_t_fresh h_t_colour h_t_table h_t_last h_t_one t_wide t_high t_size t_at t_fault t_newWide t_newHigh t_colours t_now t_file t_fresh t_colour t_table t_last t_one) → va_S A s.heap H locs → lv_has ls 7 [(0, .ref h_t)] → W p l e rmX9_readThird s m args below meth c H locs 0 0 Q (F0 m 0 ls []) := by
  intro hf hP hD hS hl
  obtain ⟨hx, hb, hml, hown, hts⟩ := id C
  unfold fX9_readThird at hf
  refine lv_aload_n hx hb dX9_readThird_0 rfl (lv_at hl 0 rfl) ?_
  refine lv_bipush (v := 10) hx hb dX9_readThird_1 (by decide) ?_
  obtain ⟨u1, u2, hc3, hf⟩ := zb2_in hf
  refine zc_v (va_runV (As := [.int 10]) (rest := []) C (mX9_skip l D cI H.size h_t h_t_now h_t_file h_t_fresh h_t_colour h_t_table h_t_last h_t_one t_wide t_high t_size t_at t_fault t_newWide t_newHigh t_colours t_now t_file t_fresh t_colour t_table t_last t_one 10 u1 u2 hc3) (qX9_readThird_X9_skip_152 hts) ⟨zP_blind, va_recv hK hP (ci := 8) (q0 := 0) rfl rfl, zpre hK hN hP hD [0, 1, 2, 3, 4, 5, 6, 7] rfl rfl⟩ rfl rfl hl.1 rfl (lv_room (Nat.le_of_ble_eq_true rfl)) dX9_readThird_3 ⟨Nat.zero_le _, Nat.zero_le _⟩) hP hD hS hA [0, 1, 2, 3, 4, 5, 6, 7] [] [0, 1, 2, 3, 4, 5, 6, 7] (ws' := zwX9 cI h_t h_t_now h_t_file h_t_fresh h_t_colour h_t_table h_t_last h_t_one t_wide t_high t_size u1 u2 t_newWide t_newHigh t_colours t_now t_file t_fresh t_colour t_table t_last t_one) rfl rfl rfl rfl rfl rfl (fun H locs hP hD hS => ?_)
  refine lv_aload_n hx hb dX9_readThird_6 rfl (lv_at hl 0 rfl) ?_
  refine lv_iconst (v := 4) hx hb dX9_readThird_7 (by decide) ?_
  refine lv_iconst (v := 0) hx hb dX9_readThird_8 (by decide) ?_
  obtain ⟨r4, u5, u6, hc7, hf⟩ := zb3_in hf
  refine zc_i (va_runV (As := [.int 4, .int 0]) (rest := []) C (mX9_number l D cI H.size h_t h_t_now h_t_file h_t_fresh h_t_colour h_t_table h_t_last h_t_one t_wide t_high t_size u1 u2 t_newWide t_newHigh t_colours t_now t_file t_fresh t_colour t_table t_last t_one 4 0 r4 u5 u6 hc7) (qX9_readThird_X9_number_155 hts) ⟨zP_blind, va_recv hK hP (ci := 8) (q0 := 0) rfl rfl, zpre hK hN hP hD [0, 1, 2, 3, 4, 5, 6, 7] rfl rfl⟩ rfl rfl hl.1 rfl (lv_room (Nat.le_of_ble_eq_true rfl)) dX9_readThird_9 ⟨Nat.zero_le _, Nat.zero_le _⟩) hP hD hS hA [0, 1, 2, 3, 4, 5, 6, 7] [] [0, 1, 2, 3, 4, 5, 6, 7] (ws' := zwX9 cI h_t h_t_now h_t_file h_t_fresh h_t_colour h_t_table h_t_last h_t_one t_wide t_high t_size u5 u6 t_newWide t_newHigh t_colours t_now t_file t_fresh t_colour t_table t_last t_one) rfl rfl rfl rfl rfl rfl (fun H locs hP hD hS => ?_)
  refine lv_istore_n (lv' := [(1, .int r4), (0, .ref h_t)]) hx hb dX9_readThird_12 rfl hl (by decide) rfl (fun ls hl => ?_)
  refine lv_aload_n hx hb dX9_readThird_13 rfl (lv_at hl 1 rfl) ?_
  refine lv_aload_n hx hb dX9_readThird_14 rfl (lv_at hl 1 rfl) ?_
  refine lv_iconst (v := 4) hx hb dX9_readThird_15 (by decide) ?_
  refine lv_iconst (v := 0) hx hb dX9_readThird_16 (by decide) ?_
  obtain ⟨r8, u9, u10, hc11, hf⟩ := zb3_in hf
  refine zc_i (va_runV (As := [.int 4, .int 0]) (rest := [.ref h_t]) C (mX9_number l D cI H.size h_t h_t_now h_t_file h_t_fresh h_t_colour h_t_table h_t_last h_t_one t_wide t_high t_size u5 u6 t_newWide t_newHigh t_colours t_now t_file t_fresh t_colour t_table t_last t_one 4 0 r8 u9 u10 hc11) (qX9_readThird_X9_number_155 hts) ⟨zP_blind, va_recv hK hP (ci := 8) (q0 := 0) rfl rfl, zpre hK hN hP hD [0, 1, 2, 3, 4, 5, 6, 7] rfl rfl⟩ rfl rfl hl.1 rfl (lv_room (Nat.le_of_ble_eq_true rfl)) dX9_readThird_17 ⟨Nat.zero_le _, Nat.zero_le _⟩) hP hD hS hA [0, 1, 2, 3, 4, 5, 6, 7] [] [0, 1, 2, 3, 4, 5, 6, 7] (ws' := zwX9 cI h_t h_t_now h_t_file h_t_fresh h_t_colour h_t_table h_t_last h_t_one t_wide t_high t_size u9 u10 t_newWide t_newHigh t_colours t_now t_file t_fresh t_colour t_table t_last t_one) rfl rfl rfl rfl rfl rfl (fun H locs hP hD hS => ?_)
  refine lv_bipush (v := 40) hx hb dX9_readThird_20 (by decide) ?_
  obtain ⟨u12, hc13, hf⟩ := zb1_in hf
  refine zc_v (va_runV (As := [.int r8, .int 40]) (rest := []) C (mX9_must l D cI H.size h_t h_t_now h_t_file h_t_fresh h_t_colour h_t_table h_t_last h_t_one t_wide t_high t_size u9 u10 t_newWide t_newHigh t_colours t_now t_file t_fresh t_colour t_table t_last t_one r8 40 u12 hc13) (qX9_readThird_X9_must_171 hts) ⟨zP_blind, va_recv hK hP (ci := 8) (q0 := 0) rfl rfl, zpre hK hN hP hD [0, 1, 2, 3, 4, 5, 6, 7] rfl rfl⟩ rfl rfl hl.1 rfl (lv_room (Nat.le_of_ble_eq_true rfl)) dX9_readThird_22 ⟨Nat.zero_le _, Nat.zero_le _⟩) hP hD hS hA [0, 1, 2, 3, 4, 5, 6, 7] [] [0, 1, 2, 3, 4, 5, 6, 7] (ws' := zwX9 cI h_t h_t_now h_t_file h_t_fresh h_t_colour h_t_table h_t_last h_t_one t_wide t_high t_size u9 u12 t_newWide t_newHigh t_colours t_now t_file t_fresh t_colour t_table t_last t_one) rfl rfl rfl rfl rfl rfl (fun H locs hP hD hS => ?_)
  refine lv_aload_n hx hb dX9_readThird_25 rfl (lv_at hl 1 rfl) ?_
  refine lv_aload_n hx hb dX9_readThird_26 rfl (lv_at hl 1 rfl) ?_
  refine lv_aload_n hx hb dX9_readThird_27 rfl (lv_at hl 1 rfl) ?_
  refine lv_iconst (v := 4) hx hb dX9_readThird_28 (by decide) ?_
  refine lv_iconst (v := 0) hx hb dX9_readThird_29 (by decide) ?_
  obtain ⟨r14, u15, u16, hc17, hf⟩ := zb3_in hf
  refine zc_i (va_runV (As := [.int 4, .int 0]) (rest := [.ref h_t, .ref h_t]) C (mX9_number l D cI H.size h_t h_t_now h_t_file h_t_fresh h_t_colour h_t_table h_t_last h_t_one t_wide t_high t_size u9 u12 t_newWide t_newHigh t_colours t_now t_file t_fresh t_colour t_table t_last t_one 4 0 r14 u15 u16 hc17) (qX9_readThird_X9_number_155 hts) ⟨zP_blind, va_recv hK hP (ci := 8) (q0 := 0) rfl rfl, zpre hK hN hP hD [0, 1, 2, 3, 4, 5, 6, 7] rfl rfl⟩ rfl rfl hl.1 rfl (lv_room (Nat.le_of_ble_eq_true rfl)) dX9_readThird_30 ⟨Nat.zero_le _, Nat.zero_le _⟩) hP hD hS hA [0, 1, 2, 3, 4, 5, 6, 7] [] [0, 1, 2, 3, 4, 5, 6, 7] (ws' := zwX9 cI h_t h_t_now h_t_file h_t_fresh h_t_colour h_t_table h_t_last h_t_one t_wide t_high t_size u15 u16 t_newWide t_newHigh t_colours t_now t_file t_fresh t_colour t_table t_last t_one) rfl rfl rfl rfl rfl rfl (fun H locs hP hD hS => ?_)
  obtain ⟨r18, u19, hc20, hf⟩ := zb2_in hf
  refine zc_i (va_runV (As := [.int r14]) (rest := [.ref h_t]) C (mX9_sideOf l D cI H.size h_t h_t_now h_t_file h_t_fresh h_t_colour h_t_table h_t_last h_t_one t_wide t_high t_size u15 u16 t_newWide t_newHigh t_colours t_now t_file t_fresh t_colour t_table t_last t_one r14 r18 u19 hc20) (qX9_readThird_X9_sideOf_159 hts) ⟨zP_blind, va_recv hK hP (ci := 8) (q0 := 0) rfl rfl, zpre hK hN hP hD [0, 1, 2, 3, 4, 5, 6, 7] rfl rfl⟩ rfl rfl hl.1 rfl (lv_room (Nat.le_of_ble_eq_true rfl)) dX9_readThird_33 ⟨Nat.zero_le _, Nat.zero_le _⟩) hP hD hS hA [0, 1, 2, 3, 4, 5, 6, 7] [] [0, 1, 2, 3, 4, 5, 6, 7] (ws' := zwX9 cI h_t h_t_now h_t_file h_t_fresh h_t_colour h_t_table h_t_last h_t_one t_wide t_high t_size u15 u19 t_newWide t_newHigh t_colours t_now t_file t_fresh t_colour t_table t_last t_one) rfl rfl rfl rfl rfl rfl (fun H locs hP hD hS => ?_)
  refine va_put (D := D) (ci := 8) (v := .int r18) (ty := .int) (C := RX9) (T := TX9) (N := 15) hx hb hts iX9_readThird_X9 tyX9 tyX9_ok nmX9 hown hK hP hD hS 0 rfl rfl 7 (by decide) (kX9_readThird_142 hts) (fun _ h9 => h9) rfl (by decide +kernel) rfl rfl (Nat.le_of_ble_eq_true rfl) dX9_readThird_36 (fun H locs hP hD hS => ?_)
  replace hP : va_P D vwCl (zwX9 cI h_t h_t_now h_t_file h_t_fresh h_t_colour h_t_table h_t_last h_t_one t_wide t_high t_size u15 u19 r18 t_newHigh t_colours t_now t_file t_fresh t_colour t_table t_last t_one) H := hP
  replace hD : va_D A (zwX9 cI h_t h_t_now h_t_file h_t_fresh h_t_colour h_t_table h_t_last h_t_one t_wide t_high t_size u15 u19 r18 t_newHigh t_colours t_now t_file t_fresh t_colour t_table t_last t_one) := hD
  refine lv_aload_n hx hb dX9_readThird_39 rfl (lv_at hl 1 rfl) ?_
  refine lv_iconst (v := 4) hx hb dX9_readThird_40 (by decide) ?_
  refine lv_iconst (v := 0) hx hb dX9_readThird_41 (by decide) ?_
  obtain ⟨r21, u22, u23, hc24, hf⟩ := zb3_in hf
  refine zc_i (va_runV (As := [.int 4, .int 0]) (rest := []) C (mX9_number l D cI H.size h_t h_t_now h_t_file h_t_fresh h_t_colour h_t_table h_t_last h_t_one t_wide t_high t_size u15 u19 r18 t_newHigh t_colours t_now t_file t_fresh t_colour t_table t_last t_one 4 0 r21 u22 u23 hc24) (qX9_readThird_X9_number_155 hts) ⟨zP_blind, va_recv hK hP (ci := 8) (q0 := 0) rfl rfl, zpre hK hN hP hD [0, 1, 2, 3, 4, 5, 6, 7] rfl rfl⟩ rfl rfl hl.1 rfl (lv_room (Nat.le_of_ble_eq_true rfl)) dX9_readThird_42 ⟨Nat.zero_le _, Nat.zero_le _⟩) hP hD hS hA [0, 1, 2, 3, 4, 5, 6, 7] [] [0, 1, 2, 3, 4, 5, 6, 7] (ws' := zwX9 cI h_t h_t_now h_t_file h_t_fresh h_t_colour h_t_table h_t_last h_t_one t_wide t_high t_size u22 u23 r18 t_newHigh t_colours t_now t_file t_fresh t_colour t_table t_last t_one) rfl rfl rfl rfl rfl rfl (fun H locs hP hD hS => ?_)
  refine lv_istore_n (lv' := [(2, .int r21), (1, .int r4), (0, .ref h_t)]) hx hb dX9_readThird_45 rfl hl (by decide) rfl (fun ls hl => ?_)
  refine lv_aload_n hx hb dX9_readThird_46 rfl (lv_at hl 2 rfl) ?_
  refine lv_aload_n hx hb dX9_readThird_47 rfl (lv_at hl 2 rfl) ?_
  refine lv_iload_n hx hb dX9_readThird_48 rfl (lv_at hl 0 rfl) ?_
  refine lv_if_ge (tgt := 57) hx hb dX9_readThird_49 (by decide) (fun c25 => ?_) (fun c25 => ?_)
  · replace hf := zif_t hf c25
    refine lv_iload_n hx hb dX9_readThird_57 rfl (lv_at hl 0 rfl) ?_
    exact wX9_readThird_58 C hN hK hA hE hf hP hD hS (lv_sub hl [2, 1, 0] rfl)
  · replace hf := zif_f hf c25
    refine lv_iload_n hx hb dX9_readThird_52 rfl (lv_at hl 0 rfl) ?_
    refine lv_ineg hx hb dX9_readThird_53 ?_
    refine lv_goto (tgt := 58) hx hb dX9_readThird_54 (by decide) ?_
    exact wX9_readThird_58 C hN hK hA hE hf hP hD hS (lv_sub hl [2, 1, 0] rfl)
set_option maxHeartbeats 4000000 in
set_option maxRecDepth 100000 in
theorem mX9_readThird (l : Launch) (D : va_G) (cI : ClassId) (sz : Nat) (h_t h_t_now h_t_file h_t_fresh h_t_colour h_t_table h_t_last h_t_one : Nat) (t_wide : Int32) (t_high : Int32) (t_size : Int32) (t_at : Int32) (t_fault : Int32) (t_newWide : Int32) (t_newHigh : Int32) (t_colours : Int32) (t_now : Nat → Int32) (t_file : Nat → Int32) (t_fresh : Nat → Int32) (t_colour : Nat → Int32) (t_table : Nat → Int32) (t_last : Nat → Int32) (t_one : Nat → Int32) (zt_at : Int32) (zt_fault : Int32) (zt_newWide : Int32) (zt_newHigh : Int32) (zt_colours : Int32) (zt_fresh : Nat → Int32) (zt_colour : Nat → Int32) (zt_one : Nat → Int32) (hf : fX9_readThird t_size t_at t_fault t_file t_fresh t_colour t_one = some (zt_at, zt_fault, zt_newWide, zt_newHigh, zt_colours, zt_fresh, zt_colour, zt_one)) : Met l yX9_readThird wsX9_readThird rmX9_readThird (va_Pc [.ref h_t] (zP D [(cI, .int)] (zwX9 cI h_t h_t_now h_t_file h_t_fresh h_t_colour h_t_table h_t_last h_t_one t_wide t_high t_size t_at t_fault t_newWide t_newHigh t_colours t_now t_file t_fresh t_colour t_table t_last t_one) sz)) (zQv D (zwX9 cI h_t h_t_now h_t_file h_t_fresh h_t_colour h_t_table h_t_last h_t_one t_wide t_high t_size t_at t_fault t_newWide t_newHigh t_colours t_now t_file t_fresh t_colour t_table t_last t_one) sz (zwX9 cI h_t h_t_now h_t_file h_t_fresh h_t_colour h_t_table h_t_last h_t_one t_wide t_high t_size zt_at zt_fault zt_newWide zt_newHigh zt_colours t_now t_file zt_fresh zt_colour t_table t_last zt_one)) 0 0 (va_A (zwX9 cI h_t h_t_now h_t_file h_t_fresh h_t_colour h_t_table h_t_last h_t_one t_wide t_high t_size t_at t_fault t_newWide t_newHigh t_colours t_now t_file t_fresh t_colour t_table t_last t_one) sz) := by
  refine Met.ofW (cc := cX9_readThird) (maxL := 7) (ret := none) (by decide) rfl ?_
  intro p e s m args below meth c s₁ B hml hv
  obtain ⟨rfl, hsz, hP, hK, hD0, hN⟩ := hv
  subst hsz
  have C : CallFix p m c cX9_readThird 7 s [.ref h_t].toArray wsX9_readThird RX9 := ⟨B.exec, B.bytes, hml, findClass_of_methodNamed B.named, atoms_spec (ws := wsX9_readThird) B.pre⟩
  have hl := lv_entry ([.ref h_t]) (n := 7) (Nat.le_of_ble_eq_true rfl)
  rw [lg_entry_eq]
  exact wX9_readThird_0 (A := va_A (zwX9 cI h_t h_t_now h_t_file h_t_fresh h_t_colour h_t_table h_t_last h_t_one t_wide t_high t_size t_at t_fault t_newWide t_newHigh t_colours t_now t_file t_fresh t_colour t_table t_last t_one) s.heap.size) C hN hK (fun q h => Or.inr h) (fun H locs pc ls d hP hD hS => zend_v C.1 C.2.1 B.returns B.notSynchronized d hP hD hS) hf hP hD0.self va_S.rf hl
def rmX9_sample : Room := { frames := 1, cells := 0, slots := 0, locals := 24 }
theorem qX9_sample_X9_next_135 {args : Array Value} {s : State} (hts : ∀ w ∈ wsX9_sample, w.before args s = true) : CallW rmX9_sample s args RX9 RX9 135 yX9_next cX9_next 1 (some .int) wsX9_next rmX9_next 0 0 0 := cwV 0 hts gX9_sample_X9_next rfl rfl rfl (by decide +kernel) ⟨Nat.le_of_ble_eq_true rfl, Nat.le_of_ble_eq_true rfl⟩
theorem qX9_sample_X9_tone_145 {args : Array Value} {s : State} (hts : ∀ w ∈ wsX9_sample, w.before args s = true) : CallW rmX9_sample s args RX9 RX9 145 yX9_tone cX9_tone 5 none wsX9_tone rmX9_tone 0 0 4 := cwV 4 hts gX9_sample_X9_tone rfl rfl rfl (by decide +kernel) ⟨Nat.le_of_ble_eq_true rfl, Nat.le_of_ble_eq_true rfl⟩
set_option maxHeartbeats 4000000 in
set_option maxRecDepth 100000 in
theorem wX9_sample_54 {p : Program} {l : Launch} {e : Env} {s : State} {m : MethodId} {args : Array Value} {below : List Frame} {meth : Method} {c : Code} {D : va_G} {A : Nat → Prop} {Q : State → Prop} {cI : ClassId} {h_t h_t_now h_t_file h_t_fresh h_t_colour h_t_table h_t_last h_t_one : Nat} {t_wide : Int32} {t_high : Int32} {t_size : Int32} {t_newWide : Int32} {t_newHigh : Int32} {t_colours : Int32} {t_now : Nat → Int32} {t_file : Nat → Int32} {t_fresh : Nat → Int32} {t_colour : Nat → Int32} {t_table : Nat → Int32} {t_last : Nat → Int32} {zt_at : Int32} {zt_fault : Int32} {zt_one : Nat → Int32} (C : CallFix p m c cX9_sample 5 s args wsX9_sample RX9) (hN : zN s) (hK : va_K D vwCl [(cI, .int)] s) (hA : ∀ q, s.heap.size ≤ q → A q) (hE : zEv p l e rmX9_sample s m args below meth c cX9_sample D A Q (zwX9 cI h_t h_t_now h_t_file h_t_fresh h_t_colour h_t_table h_t_last h_t_one t_wide t_high t_size zt_at zt_fault t_newWide t_newHigh t_colours t_now t_file t_fresh t_colour t_table t_last zt_one)) {t_at : Int32} {t_fault : Int32} {t_one : Nat → Int32} {l1 : Int32} {l2 : Int32} {l3 : Int32} {l4 : Int32} {k1 : Int32} {k2 : Int32} {k3 : Int32} {k4 : Int32} {H : Heap} {locs : List Loc} {ls : Array Slot} : fX9_sample_54 t_at t_fault t_one k1 k2 k3 k4 = some (zt_at, zt_fault, zt_one) → va_P D vwCl (zwX9 cI h_t h_t_now h_t_file h_t_fresh h_t_colour h_t_table h_t_last h_t_one t_wide t_high t_size t_at t_fault t_newWide t_newHigh t_colours t_now t_file t_fresh t_colour t_table t_last t_one) H → va_D A (zwX9 cI h_t h_t_now h_t_file h_t_fresh h_t_colour h_t_table h_t_last h_t_one t_wide t_high t_size t_at t_fault t_newWide t_newHigh t_colours t_now t_file t_fresh t_colour t_table t_last t_one) → va_S A s.heap H locs → lv_has ls 5 [(0, .ref h_t), (1, .int l1), (2, .int l2), (3, .int l3), (4, .int l4)] → W p l e rmX9_sample s m args below meth c H locs 0 0 Q (F0 m 54 ls [.int k4, .int k3, .int k2, .int k1, .ref h_t]) := by
  intro hf hP hD hS hl
  obtain ⟨hx, hb, hml, hown, hts⟩ := id C
  unfold fX9_sample_54 at hf
  obtain ⟨u1, hc2, hf⟩ := zb1_in hf
  refine zc_v (va_runV (As := [.int k1, .int k2, .int k3, .int k4]) (rest := []) C (mX9_tone l D cI H.size h_t h_t_now h_t_file h_t_fresh h_t_colour h_t_table h_t_last h_t_one t_wide t_high t_size t_at t_fault t_newWide t_newHigh t_colours t_now t_file t_fresh t_colour t_table t_last t_one k1 k2 k3 k4 u1 hc2) (qX9_sample_X9_tone_145 hts) ⟨zP_blind, va_recv hK hP (ci := 8) (q0 := 0) rfl rfl, zpre hK hN hP hD [0, 1, 2, 3, 4, 5, 6, 7] rfl rfl⟩ rfl rfl hl.1 rfl (lv_room (Nat.le_of_ble_eq_true rfl)) dX9_sample_54 ⟨Nat.zero_le _, Nat.zero_le _⟩) hP hD hS hA [0, 1, 2, 3, 4, 5, 6, 7] [] [0, 1, 2, 3, 4, 5, 6, 7] (ws' := zwX9 cI h_t h_t_now h_t_file h_t_fresh h_t_colour h_t_table h_t_last h_t_one t_wide t_high t_size t_at t_fault t_newWide t_newHigh t_colours t_now t_file t_fresh t_colour t_table t_last u1) rfl rfl rfl rfl rfl rfl (fun H locs hP hD hS => ?_)
  cases hf
  exact hE _ _ _ _ dX9_sample_57 hP hD hS
set_option maxHeartbeats 4000000 in
set_option maxRecDepth 100000 in
theorem wX9_sample_32 {p : Program} {l : Launch} {e : Env} {s : State} {m : MethodId} {args : Array Value} {below : List Frame} {meth : Method} {c : Code} {D : va_G} {A : Nat → Prop} {Q : State → Prop} {cI : ClassId} {h_t h_t_now h_t_file h_t_fresh h_t_colour h_t_table h_t_last h_t_one : Nat} {t_wide : Int32} {t_high : Int32} {t_size : Int32} {t_newWide : Int32} {t_newHigh : Int32} {t_colours : Int32} {t_now : Nat → Int32} {t_file : Nat → Int32} {t_fresh : Nat → Int32} {t_colour : Nat → Int32} {t_table : Nat → Int32} {t_last : Nat → Int32} {zt_at : Int32} {zt_fault : Int32} {zt_one : Nat → Int32} (C : CallFix p m c cX9_sample 5 s args wsX9_sample RX9) (hN : zN s) (hK : va_K D vwCl [(cI, .int)] s) (hA : ∀ q, s.heap.size ≤ q → A q) (hE : zEv p l e rmX9_sample s m args below meth c cX9_sample D A Q (zwX9 cI h_t h_t_now h_t_file h_t_fresh h_t_colour h_t_table h_t_last h_t_one t_wide t_high t_size zt_at zt_fault t_newWide t_newHigh t_colours t_now t_file t_fresh t_colour t_table t_last zt_one)) {t_at : Int32} {t_fault : Int32} {t_one : Nat → Int32} {l1 : Int32} {l2 : Int32} {l3 : Int32} {k0 : Int32} {H : Heap} {locs : List Loc} {ls : Array Slot} : fX9_sample_32 t_size t_at t_fault t_file t_one l1 l2 l3 k0 = some (zt_at, zt_fault, zt_one) → va_P D vwCl (zwX9 cI h_t h_t_now h_t_file h_t_fresh h_t_colour h_t_table h_t_last h_t_one t_wide t_high t_size t_at t_fault t_newWide t_newHigh t_colours t_now t_file t_fresh t_colour t_table t_last t_one) H → va_D A (zwX9 cI h_t h_t_now h_t_file h_t_fresh h_t_colour h_t_table h_t_last h_t_one t_wide t_high t_size t_at t_fault t_newWide t_newHigh t_colours t_now t_file t_fresh t_colour t_table t_last t_one) → va_S A s.heap H locs → lv_has ls 5 [(0, .ref h_t), (1, .int l1), (2, .int l2), (3, .int l3)] → W p l e rmX9_sample s m args below meth c H locs 0 0 Q (F0 m 32 ls [.int k0]) := by
  intro hf hP hD hS hl
  obtain ⟨hx, hb, hml, hown, hts⟩ := id C
  unfold fX9_sample_32 at hf
  refine lv_istore (lv' := [(4, .int k0), (0, .ref h_t), (1, .int l1), (2, .int l2), (3, .int l3)]) hx hb dX9_sample_32 hl (by decide) rfl (fun ls hl => ?_)
  refine lv_aload_n hx hb dX9_sample_34 rfl (lv_at hl 1 rfl) ?_
  refine lv_iload hx hb dX9_sample_35 (lv_at hl 0 rfl) ?_
  refine lv_iload_n hx hb dX9_sample_37 rfl (lv_at hl 4 rfl) ?_
  refine lv_iload_n hx hb dX9_sample_38 rfl (lv_at hl 3 rfl) ?_
  refine lv_iload_n hx hb dX9_sample_39 rfl (lv_at hl 2 rfl) ?_
  refine lv_iconst (v := 4) hx hb dX9_sample_40 (by decide) ?_
  refine lv_icmp_ne (tgt := 51) hx hb dX9_sample_41 (by decide) (fun c1 => ?_) (fun c1 => ?_)
  · replace hf := zif_f hf c1
    refine lv_sipush (v := 255) hx hb dX9_sample_51 (by decide) ?_
    exact wX9_sample_54 C hN hK hA hE hf hP hD hS (lv_sub hl [1, 2, 3, 4, 0] rfl)
  · replace hf := zif_t hf c1
    refine lv_aload_n hx hb dX9_sample_44 rfl (lv_at hl 1 rfl) ?_
    obtain ⟨r2, u3, u4, hc5, hf⟩ := zb3_in hf
    refine zc_i (va_runV (As := []) (rest := [.int l2, .int l3, .int k0, .ref h_t]) C (mX9_next l D cI H.size h_t h_t_now h_t_file h_t_fresh h_t_colour h_t_table h_t_last h_t_one t_wide t_high t_size t_at t_fault t_newWide t_newHigh t_colours t_now t_file t_fresh t_colour t_table t_last t_one r2 u3 u4 hc5) (qX9_sample_X9_next_135 hts) ⟨zP_blind, va_recv hK hP (ci := 8) (q0 := 0) rfl rfl, zpre hK hN hP hD [0, 1, 2, 3, 4, 5, 6, 7] rfl rfl⟩ rfl rfl hl.1 rfl (lv_room (Nat.le_of_ble_eq_true rfl)) dX9_sample_45 ⟨Nat.zero_le _, Nat.zero_le _⟩) hP hD hS hA [0, 1, 2, 3, 4, 5, 6, 7] [] [0, 1, 2, 3, 4, 5, 6, 7] (ws' := zwX9 cI h_t h_t_now h_t_file h_t_fresh h_t_colour h_t_table h_t_last h_t_one t_wide t_high t_size u3 u4 t_newWide t_newHigh t_colours t_now t_file t_fresh t_colour t_table t_last t_one) rfl rfl rfl rfl rfl rfl (fun H locs hP hD hS => ?_)
    refine lv_goto (tgt := 54) hx hb dX9_sample_48 (by decide) ?_
    exact wX9_sample_54 C hN hK hA hE hf hP hD hS (lv_sub hl [1, 2, 3, 4, 0] rfl)
set_option maxHeartbeats 4000000 in
set_option maxRecDepth 100000 in
theorem wX9_sample_18 {p : Program} {l : Launch} {e : Env} {s : State} {m : MethodId} {args : Array Value} {below : List Frame} {meth : Method} {c : Code} {D : va_G} {A : Nat → Prop} {Q : State → Prop} {cI : ClassId} {h_t h_t_now h_t_file h_t_fresh h_t_colour h_t_table h_t_last h_t_one : Nat} {t_wide : Int32} {t_high : Int32} {t_size : Int32} {t_newWide : Int32} {t_newHigh : Int32} {t_colours : Int32} {t_now : Nat → Int32} {t_file : Nat → Int32} {t_fresh : Nat → Int32} {t_colour : Nat → Int32} {t_table : Nat → Int32} {t_last : Nat → Int32} {zt_at : Int32} {zt_fault : Int32} {zt_one : Nat → Int32} (C : CallFix p m c cX9_sample 5 s args wsX9_sample RX9) (hN : zN s) (hK : va_K D vwCl [(cI, .int)] s) (hA : ∀ q, s.heap.size ≤ q → A q) (hE : zEv p l e rmX9_sample s m args below meth c cX9_sample D A Q (zwX9 cI h_t h_t_now h_t_file h_t_fresh h_t_colour h_t_table h_t_last h_t_one t_wide t_high t_size zt_at zt_fault t_newWide t_newHigh t_colours t_now t_file t_fresh t_colour t_table t_last zt_one)) {t_at : Int32} {t_fault : Int32} {t_one : Nat → Int32} {l1 : Int32} {l2 : Int32} {k0 : Int32} {H : Heap} {locs : List Loc} {ls : Array Slot} : fX9_sample_18 t_size t_at t_fault t_file t_one l1 l2 k0 = some (zt_at, zt_fault, zt_one) → va_P D vwCl (zwX9 cI h_t h_t_now h_t_file h_t_fresh h_t_colour h_t_table h_t_last h_t_one t_wide t_high t_size t_at t_fault t_newWide t_newHigh t_colours t_now t_file t_fresh t_colour t_table t_last t_one) H → va_D A (zwX9 cI h_t h_t_now h_t_file h_t_fresh h_t_colour h_t_table h_t_last h_t_one t_wide t_high t_size t_at t_fault t_newWide t_newHigh t_colours t_now t_file t_fresh t_colour t_table t_last t_one) → va_S A s.heap H locs → lv_has ls 5 [(0, .ref h_t), (1, .int l1), (2, .int l2)] → W p l e rmX9_sample s m args below meth c H locs 0 0 Q (F0 m 18 ls [.int k0]) := by
  intro hf hP hD hS hl
  obtain ⟨hx, hb, hml, hown, hts⟩ := id C
  unfold fX9_sample_18 at hf
  refine lv_istore_n (lv' := [(3, .int k0), (0, .ref h_t), (1, .int l1), (2, .int l2)]) hx hb dX9_sample_18 rfl hl (by decide) rfl (fun ls hl => ?_)
  refine lv_iload_n hx hb dX9_sample_19 rfl (lv_at hl 2 rfl) ?_
  refine lv_iconst (v := 1) hx hb dX9_sample_20 (by decide) ?_
  refine lv_icmp_le (tgt := 31) hx hb dX9_sample_21 (by decide) (fun c1 => ?_) (fun c1 => ?_)
  · replace hf := zif_t hf c1
    refine lv_iload_n hx hb dX9_sample_31 rfl (lv_at hl 3 rfl) ?_
    exact wX9_sample_32 C hN hK hA hE hf hP hD hS (lv_sub hl [1, 2, 3, 0] rfl)
  · replace hf := zif_f hf c1
    refine lv_aload_n hx hb dX9_sample_24 rfl (lv_at hl 1 rfl) ?_
    obtain ⟨r2, u3, u4, hc5, hf⟩ := zb3_in hf
    refine zc_i (va_runV (As := []) (rest := []) C (mX9_next l D cI H.size h_t h_t_now h_t_file h_t_fresh h_t_colour h_t_table h_t_last h_t_one t_wide t_high t_size t_at t_fault t_newWide t_newHigh t_colours t_now t_file t_fresh t_colour t_table t_last t_one r2 u3 u4 hc5) (qX9_sample_X9_next_135 hts) ⟨zP_blind, va_recv hK hP (ci := 8) (q0 := 0) rfl rfl, zpre hK hN hP hD [0, 1, 2, 3, 4, 5, 6, 7] rfl rfl⟩ rfl rfl hl.1 rfl (lv_room (Nat.le_of_ble_eq_true rfl)) dX9_sample_25 ⟨Nat.zero_le _, Nat.zero_le _⟩) hP hD hS hA [0, 1, 2, 3, 4, 5, 6, 7] [] [0, 1, 2, 3, 4, 5, 6, 7] (ws' := zwX9 cI h_t h_t_now h_t_file h_t_fresh h_t_colour h_t_table h_t_last h_t_one t_wide t_high t_size u3 u4 t_newWide t_newHigh t_colours t_now t_file t_fresh t_colour t_table t_last t_one) rfl rfl rfl rfl rfl rfl (fun H locs hP hD hS => ?_)
    refine lv_goto (tgt := 32) hx hb dX9_sample_28 (by decide) ?_
    exact wX9_sample_32 C hN hK hA hE hf hP hD hS (lv_sub hl [1, 2, 3, 0] rfl)
set_option maxHeartbeats 4000000 in
set_option maxRecDepth 100000 in
theorem wX9_sample_0 {p : Program} {l : Launch} {e : Env} {s : State} {m : MethodId} {args : Array Value} {below : List Frame} {meth : Method} {c : Code} {D : va_G} {A : Nat → Prop} {Q : State → Prop} {cI : ClassId} {h_t h_t_now h_t_file h_t_fresh h_t_colour h_t_table h_t_last h_t_one : Nat} {t_wide : Int32} {t_high : Int32} {t_size : Int32} {t_newWide : Int32} {t_newHigh : Int32} {t_colours : Int32} {t_now : Nat → Int32} {t_file : Nat → Int32} {t_fresh : Nat → Int32} {t_colour : Nat → Int32} {t_table : Nat → Int32} {t_last : Nat → Int32} {zt_at : Int32} {zt_fault : Int32} {zt_one : Nat → Int32} (C : CallFix p m c cX9_sample 5 s args wsX9_sample RX9) (hN : zN s) (hK : va_K D vwCl [(cI, .int)] s) (hA : ∀ q, s.heap.size ≤ q → A q) (hE : zEv p l e rmX9_sample s m args below meth c cX9_sample D A Q (zwX9 cI h_t h_t_now h_t_file h_t_fresh h_t_colour h_t_table h_t_last h_t_one t_wide t_high t_size zt_at zt_fault t_newWide t_newHigh t_colours t_now t_file t_fresh t_colour t_table t_last zt_one)) {t_at : Int32} {t_fault : Int32} {t_one : Nat → Int32} {v0 : Int32} {H : Heap} {locs : List Loc} {ls : Array Slot} : fX9_sample t_size t_at t_fault t_file t_one v0 = some (zt_at, zt_fault, zt_one) → va_P D vwCl (zwX9 cI h_t h_t_now h_t_file h_t_fresh h_t_colour h_t_table h_t_last h_t_one t_wide t_high t_size t_at t_fault t_newWide t_newHigh t_colours t_now t_file t_fresh t_colour t_table t_last t_one) H → va_D A (zwX9 cI h_t h_t_now h_t_file h_t_fresh h_t_colour h_t_table h_t_last h_t_one t_wide t_high t_size t_at t_fault t_newWide t_newHigh t_colours t_now t_file t_fresh t_colour t_table t_last t_one) → va_S A s.heap H locs → lv_has ls 5 [(0, .ref h_t), (1, .int v0)] → W p l e rmX9_sample s m args below meth c H locs 0 0 Q (F0 m 0 ls []) := by
  intro hf hP hD hS hl
  obtain ⟨hx, hb, hml, hown, hts⟩ := id C
  unfold fX9_sample at hf
  refine lv_aload_n hx hb dX9_sample_0 rfl (lv_at hl 0 rfl) ?_
  obtain ⟨r1, u2, u3, hc4, hf⟩ := zb3_in hf
  refine zc_i (va_runV (As := []) (rest := []) C (mX9_next l D cI H.size h_t h_t_now h_t_file h_t_fresh h_t_colour h_t_table h_t_last h_t_one t_wide t_high t_size t_at t_fault t_newWide t_newHigh t_colours t_now t_file t_fresh t_colour t_table t_last t_one r1 u2 u3 hc4) (qX9_sample_X9_next_135 hts) ⟨zP_blind, va_recv hK hP (ci := 8) (q0 := 0) rfl rfl, zpre hK hN hP hD [0, 1, 2, 3, 4, 5, 6, 7] rfl rfl⟩ rfl rfl hl.1 rfl (lv_room (Nat.le_of_ble_eq_true rfl)) dX9_sample_1 ⟨Nat.zero_le _, Nat.zero_le _⟩) hP hD hS hA [0, 1, 2, 3, 4, 5, 6, 7] [] [0, 1, 2, 3, 4, 5, 6, 7] (ws' := zwX9 cI h_t h_t_now h_t_file h_t_fresh h_t_colour h_t_table h_t_last h_t_one t_wide t_high t_size u2 u3 t_newWide t_newHigh t_colours t_now t_file t_fresh t_colour t_table t_last t_one) rfl rfl rfl rfl rfl rfl (fun H locs hP hD hS => ?_)
  refine lv_istore_n (lv' := [(2, .int r1), (0, .ref h_t), (1, .int v0)]) hx hb dX9_sample_4 rfl hl (by decide) rfl (fun ls hl => ?_)
  refine lv_iload_n hx hb dX9_sample_5 rfl (lv_at hl 2 rfl) ?_
  refine lv_iconst (v := 1) hx hb dX9_sample_6 (by decide) ?_
  refine lv_icmp_le (tgt := 17) hx hb dX9_sample_7 (by decide) (fun c5 => ?_) (fun c5 => ?_)
  · replace hf := zif_t hf c5
    refine lv_iload_n hx hb dX9_sample_17 rfl (lv_at hl 0 rfl) ?_
    exact wX9_sample_18 C hN hK hA hE hf hP hD hS (lv_sub hl [1, 2, 0] rfl)
  · replace hf := zif_f hf c5
    refine lv_aload_n hx hb dX9_sample_10 rfl (lv_at hl 1 rfl) ?_
    obtain ⟨r6, u7, u8, hc9, hf⟩ := zb3_in hf
    refine zc_i (va_runV (As := []) (rest := []) C (mX9_next l D cI H.size h_t h_t_now h_t_file h_t_fresh h_t_colour h_t_table h_t_last h_t_one t_wide t_high t_size u2 u3 t_newWide t_newHigh t_colours t_now t_file t_fresh t_colour t_table t_last t_one r6 u7 u8 hc9) (qX9_sample_X9_next_135 hts) ⟨zP_blind, va_recv hK hP (ci := 8) (q0 := 0) rfl rfl, zpre hK hN hP hD [0, 1, 2, 3, 4, 5, 6, 7] rfl rfl⟩ rfl rfl hl.1 rfl (lv_room (Nat.le_of_ble_eq_true rfl)) dX9_sample_11 ⟨Nat.zero_le _, Nat.zero_le _⟩) hP hD hS hA [0, 1, 2, 3, 4, 5, 6, 7] [] [0, 1, 2, 3, 4, 5, 6, 7] (ws' := zwX9 cI h_t h_t_now h_t_file h_t_fresh h_t_colour h_t_table h_t_last h_t_one t_wide t_high t_size u7 u8 t_newWide t_newHigh t_colours t_now t_file t_fresh t_colour t_table t_last t_one) rfl rfl rfl rfl rfl rfl (fun H locs hP hD hS => ?_)
    refine lv_goto (tgt := 18) hx hb dX9_sample_14 (by decide) ?_
    exact wX9_sample_18 C hN hK hA hE hf hP hD hS (lv_sub hl [1, 2, 0] rfl)
set_option maxHeartbeats 4000000 in
set_option maxRecDepth 100000 in
theorem mX9_sample (l : Launch) (D : va_G) (cI : ClassId) (sz : Nat) (h_t h_t_now h_t_file h_t_fresh h_t_colour h_t_table h_t_last h_t_one : Nat) (t_wide : Int32) (t_high : Int32) (t_size : Int32) (t_at : Int32) (t_fault : Int32) (t_newWide : Int32) (t_newHigh : Int32) (t_colours : Int32) (t_now : Nat → Int32) (t_file : Nat → Int32) (t_fresh : Nat → Int32) (t_colour : Nat → Int32) (t_table : Nat → Int32) (t_last : Nat → Int32) (t_one : Nat → Int32) (v0 : Int32) (zt_at : Int32) (zt_fault : Int32) (zt_one : Nat → Int32) (hf : fX9_sample t_size t_at t_fault t_file t_one v0 = some (zt_at, zt_fault, zt_one)) : Met l yX9_sample wsX9_sample rmX9_sample (va_Pc [.ref h_t, .int v0] (zP D [(cI, .int)] (zwX9 cI h_t h_t_now h_t_file h_t_fresh h_t_colour h_t_table h_t_last h_t_one t_wide t_high t_size t_at t_fault t_newWide t_newHigh t_colours t_now t_file t_fresh t_colour t_table t_last t_one) sz)) (zQv D (zwX9 cI h_t h_t_now h_t_file h_t_fresh h_t_colour h_t_table h_t_last h_t_one t_wide t_high t_size t_at t_fault t_newWide t_newHigh t_colours t_now t_file t_fresh t_colour t_table t_last t_one) sz (zwX9 cI h_t h_t_now h_t_file h_t_fresh h_t_colour h_t_table h_t_last h_t_one t_wide t_high t_size zt_at zt_fault t_newWide t_newHigh t_colours t_now t_file t_fresh t_colour t_table t_last zt_one)) 0 0 (va_A (zwX9 cI h_t h_t_now h_t_file h_t_fresh h_t_colour h_t_table h_t_last h_t_one t_wide t_high t_size t_at t_fault t_newWide t_newHigh t_colours t_now t_file t_fresh t_colour t_table t_last t_one) sz) := by
  refine Met.ofW (cc := cX9_sample) (maxL := 5) (ret := none) (by decide) rfl ?_
  intro p e s m args below meth c s₁ B hml hv
  obtain ⟨rfl, hsz, hP, hK, hD0, hN⟩ := hv
  subst hsz
  have C : CallFix p m c cX9_sample 5 s [.ref h_t, .int v0].toArray wsX9_sample RX9 := ⟨B.exec, B.bytes, hml, findClass_of_methodNamed B.named, atoms_spec (ws := wsX9_sample) B.pre⟩
  have hl := lv_entry ([.ref h_t, .int v0]) (n := 5) (Nat.le_of_ble_eq_true rfl)
  rw [lg_entry_eq]
  exact wX9_sample_0 (A := va_A (zwX9 cI h_t h_t_now h_t_file h_t_fresh h_t_colour h_t_table h_t_last h_t_one t_wide t_high t_size t_at t_fault t_newWide t_newHigh t_colours t_now t_file t_fresh t_colour t_table t_last t_one) s.heap.size) C hN hK (fun q h => Or.inr h) (fun H locs pc ls d hP hD hS => zend_v C.1 C.2.1 B.returns B.notSynchronized d hP hD hS) hf hP hD0.self va_S.rf hl
def rmX9_readFourth : Room := { frames := 2, cells := 0, slots := 0, locals := 48 }
theorem kX9_readFourth_129 {args : Array Value} {s : State} (h : ∀ w ∈ wsX9_readFourth, w.before args s = true) : (Cond.fieldLink RX9 129 "FourPictureFilesModel" "fault" "I").before args s = true := h _ (by decide +kernel)
theorem kX9_readFourth_142 {args : Array Value} {s : State} (h : ∀ w ∈ wsX9_readFourth, w.before args s = true) : (Cond.fieldLink RX9 142 "FourPictureFilesModel" "newWide" "I").before args s = true := h _ (by decide +kernel)
theorem kX9_readFourth_162 {args : Array Value} {s : State} (h : ∀ w ∈ wsX9_readFourth, w.before args s = true) : (Cond.fieldLink RX9 162 "FourPictureFilesModel" "newHigh" "I").before args s = true := h _ (by decide +kernel)
theorem iX9_readFourth_X9 : ∀ w ∈ u_ws RX9 TX9 15, w ∈ wsX9_readFourth := by decide +kernel
theorem qX9_readFourth_X9_broken_139 {args : Array Value} {s : State} (hts : ∀ w ∈ wsX9_readFourth, w.before args s = true) : CallW rmX9_readFourth s args RX9 RX9 139 yX9_broken cX9_broken 2 none wsX9_broken rmX9_broken 0 0 1 := cwV 1 hts gX9_readFourth_X9_broken rfl rfl rfl (by decide +kernel) ⟨Nat.le_of_ble_eq_true rfl, Nat.le_of_ble_eq_true rfl⟩
theorem qX9_readFourth_X9_next_135 {args : Array Value} {s : State} (hts : ∀ w ∈ wsX9_readFourth, w.before args s = true) : CallW rmX9_readFourth s args RX9 RX9 135 yX9_next cX9_next 1 (some .int) wsX9_next rmX9_next 0 0 0 := cwV 0 hts gX9_readFourth_X9_next rfl rfl rfl (by decide +kernel) ⟨Nat.le_of_ble_eq_true rfl, Nat.le_of_ble_eq_true rfl⟩
theorem qX9_readFourth_X9_number_155 {args : Array Value} {s : State} (hts : ∀ w ∈ wsX9_readFourth, w.before args s = true) : CallW rmX9_readFourth s args RX9 RX9 155 yX9_number cX9_number 6 (some .int) wsX9_number rmX9_number 0 0 2 := cwV 2 hts gX9_readFourth_X9_number rfl rfl rfl (by decide +kernel) ⟨Nat.le_of_ble_eq_true rfl, Nat.le_of_ble_eq_true rfl⟩
theorem qX9_readFourth_X9_sample_202 {args : Array Value} {s : State} (hts : ∀ w ∈ wsX9_readFourth, w.before args s = true) : CallW rmX9_readFourth s args RX9 RX9 202 yX9_sample cX9_sample 5 none wsX9_sample rmX9_sample 0 0 1 := cwV 1 hts gX9_readFourth_X9_sample rfl rfl rfl (by decide +kernel) ⟨Nat.le_of_ble_eq_true rfl, Nat.le_of_ble_eq_true rfl⟩
theorem qX9_readFourth_X9_set_168 {args : Array Value} {s : State} (hts : ∀ w ∈ wsX9_readFourth, w.before args s = true) : CallW rmX9_readFourth s args RX9 RX9 168 yX9_set cX9_set 3 none wsX9_set rmX9_set 0 0 1 := cwV 1 hts gX9_readFourth_X9_set rfl rfl rfl (by decide +kernel) ⟨Nat.le_of_ble_eq_true rfl, Nat.le_of_ble_eq_true rfl⟩
theorem qX9_readFourth_X9_sideOf_159 {args : Array Value} {s : State} (hts : ∀ w ∈ wsX9_readFourth, w.before args s = true) : CallW rmX9_readFourth s args RX9 RX9 159 yX9_sideOf cX9_sideOf 2 (some .int) wsX9_sideOf rmX9_sideOf 0 0 1 := cwV 1 hts gX9_readFourth_X9_sideOf rfl rfl rfl (by decide +kernel) ⟨Nat.le_of_ble_eq_true rfl, Nat.le_of_ble_eq_true rfl⟩
theorem qX9_readFourth_X9_skip_152 {args : Array Value} {s : State} (hts : ∀ w ∈ wsX9_readFourth, w.before args s = true) : CallW rmX9_readFourth s args RX9 RX9 152 yX9_skip cX9_skip 3 none wsX9_skip rmX9_skip 0 0 1 := cwV 1 hts gX9_readFourth_X9_skip rfl rfl rfl (by decide +kernel) ⟨Nat.le_of_ble_eq_true rfl, Nat.le_of_ble_eq_true rfl⟩
set_option maxHeartbeats 4000000 in
set_option maxRecDepth 100000 in
theorem wX9_readFourth_321 {p : Program} {l : Launch} {e : Env} {s : State} {m : MethodId} {args : Array Value} {below : List Frame} {meth : Method} {c : Code} {D : va_G} {A : Nat → Prop} {Q : State → Prop} {cI : ClassId} {h_t h_t_now h_t_file h_t_fresh h_t_colour h_t_table h_t_last h_t_one : Nat} {t_wide : Int32} {t_high : Int32} {t_size : Int32} {t_colours : Int32} {t_now : Nat → Int32} {t_file : Nat → Int32} {t_colour : Nat → Int32} {t_table : Nat → Int32} {t_last : Nat → Int32} {zt_at : Int32} {zt_fault : Int32} {zt_newWide : Int32} {zt_newHigh : Int32} {zt_fresh : Nat → Int32} {zt_one : Nat → Int32} (C : CallFix p m c cX9_readFourth 12 s args wsX9_readFourth RX9) (hN : zN s) (hK : va_K D vwCl [(cI, .int)] s) (hA : ∀ q, s.heap.size ≤ q → A q) (hE : zEv p l e rmX9_readFourth s m args below meth c cX9_readFourth D A Q (zwX9 cI h_t h_t_now h_t_file h_t_fresh h_t_colour h_t_table h_t_last h_t_one t_wide t_high t_size zt_at zt_fault zt_newWide zt_newHigh t_colours t_now t_file zt_fresh t_colour t_table t_last zt_one)) {rc117 : Int32 → Int32 → Int32 → Int32 → Int32 → (Nat → Int32) → (Nat → Int32) → (Nat → Int32) → Int32 → Int32 → Int32 → Int32 → Int32 → Option (Int32 × Int32 × Int32 × Int32 × (Nat → Int32) × (Nat → Int32))} (hr_117 : ∀ {t_at : Int32} {t_fault : Int32} {t_newWide : Int32} {t_newHigh : Int32} {t_fresh : Nat → Int32} {t_one : Nat → Int32} {l1 : Int32} {l2 : Int32} {l3 : Int32} {l4 : Int32} {l5 : Int32} {l6 : Int32} {H : Heap} {locs : List Loc} {ls : Array Slot}, rc117 t_size t_at t_fault t_newWide t_newHigh t_file t_fresh t_one l2 l3 l4 l5 l6 = some (zt_at, zt_fault, zt_newWide, zt_newHigh, zt_fresh, zt_one) → va_P D vwCl (zwX9 cI h_t h_t_now h_t_file h_t_fresh h_t_colour h_t_table h_t_last h_t_one t_wide t_high t_size t_at t_fault t_newWide t_newHigh t_colours t_now t_file t_fresh t_colour t_table t_last t_one) H → va_D A (zwX9 cI h_t h_t_now h_t_file h_t_fresh h_t_colour h_t_table h_t_last h_t_one t_wide t_high t_size t_at t_fault t_newWide t_newHigh t_colours t_now t_file t_fresh t_colour t_table t_last t_one) → va_S A s.heap H locs → lv_has ls 12 [(0, .ref h_t), (1, .int l1), (2, .int l2), (3, .int l3), (4, .int l4), (5, .int l5), (6, .int l6)] → W p l e rmX9_readFourth s m args below meth c H locs 0 0 Q (F0 m 117 ls [])) {t_at : Int32} {t_fault : Int32} {t_newWide : Int32} {t_newHigh : Int32} {t_fresh : Nat → Int32} {t_one : Nat → Int32} {l1 : Int32} {l2 : Int32} {l3 : Int32} {l4 : Int32} {l5 : Int32} {l6 : Int32} {l7 : Int32} {l8 : Int32} {l9 : Int32} {H : Heap} {locs : List Loc} {ls : Array Slot} : fX9_readFourth_321 rc117 t_size t_at t_fault t_newWide t_newHigh t_file t_fresh t_one l2 l3 l4 l5 l6 = some (zt_at, zt_fault, zt_newWide, zt_newHigh, zt_fresh, zt_one) → va_P D vwCl (zwX9 cI h_t h_t_now h_t_file h_t_fresh h_t_colour h_t_table h_t_last h_t_one t_wide t_high t_size t_at t_fault t_newWide t_newHigh t_colours t_now t_file t_fresh t_colour t_table t_last t_one) H → va_D A (zwX9 cI h_t h_t_now h_t_file h_t_fresh h_t_colour h_t_table h_t_last h_t_one t_wide t_high t_size t_at t_fault t_newWide t_newHigh t_colours t_now t_file t_fresh t_colour t_table t_last t_one) → va_S A s.heap H locs → lv_has ls 12 [(0, .ref h_t), (1, .int l1), (2, .int l2), (3, .int l3), (4, .int l4), (5, .int l5), (6, .int l6), (7, .int l7), (8, .int l8), (9, .int l9)] → W p l e rmX9_readFourth s m args below meth c H locs 0 0 Q (F0 m 321 ls []) := by
  intro hf hP hD hS hl
  obtain ⟨hx, hb, hml, hown, hts⟩ := id C
  unfold fX9_readFourth_321 at hf
  refine lv_goto (tgt := 117) hx hb dX9_readFourth_321 (by decide) ?_
  exact hr_117 hf hP hD hS (lv_sub hl [0, 1, 2, 3, 4, 5, 6] rfl)
set_option maxHeartbeats 4000000 in
set_option maxRecDepth 100000 in
theorem wX9_readFourth_296 {p : Program} {l : Launch} {e : Env} {s : State} {m : MethodId} {args : Array Value} {below : List Frame} {meth : Method} {c : Code} {D : va_G} {A : Nat → Prop} {Q : State → Prop} {cI : ClassId} {h_t h_t_now h_t_file h_t_fresh h_t_colour h_t_table h_t_last h_t_one : Nat} {t_wide : Int32} {t_high : Int32} {t_size : Int32} {t_colours : Int32} {t_now : Nat → Int32} {t_file : Nat → Int32} {t_colour : Nat → Int32} {t_table : Nat → Int32} {t_last : Nat → Int32} {zt_at : Int32} {zt_fault : Int32} {zt_newWide : Int32} {zt_newHigh : Int32} {zt_fresh : Nat → Int32} {zt_one : Nat → Int32} (C : CallFix p m c cX9_readFourth 12 s args wsX9_readFourth RX9) (hN : zN s) (hK : va_K D vwCl [(cI, .int)] s) (hA : ∀ q, s.heap.size ≤ q → A q) (hE : zEv p l e rmX9_readFourth s m args below meth c cX9_readFourth D A Q (zwX9 cI h_t h_t_now h_t_file h_t_fresh h_t_colour h_t_table h_t_last h_t_one t_wide t_high t_size zt_at zt_fault zt_newWide zt_newHigh t_colours t_now t_file zt_fresh t_colour t_table t_last zt_one)) {rc117 : Int32 → Int32 → Int32 → Int32 → Int32 → (Nat → Int32) → (Nat → Int32) → (Nat → Int32) → Int32 → Int32 → Int32 → Int32 → Int32 → Option (Int32 × Int32 × Int32 × Int32 × (Nat → Int32) × (Nat → Int32))} (hr_117 : ∀ {t_at : Int32} {t_fault : Int32} {t_newWide : Int32} {t_newHigh : Int32} {t_fresh : Nat → Int32} {t_one : Nat → Int32} {l1 : Int32} {l2 : Int32} {l3 : Int32} {l4 : Int32} {l5 : Int32} {l6 : Int32} {H : Heap} {locs : List Loc} {ls : Array Slot}, rc117 t_size t_at t_fault t_newWide t_newHigh t_file t_fresh t_one l2 l3 l4 l5 l6 = some (zt_at, zt_fault, zt_newWide, zt_newHigh, zt_fresh, zt_one) → va_P D vwCl (zwX9 cI h_t h_t_now h_t_file h_t_fresh h_t_colour h_t_table h_t_last h_t_one t_wide t_high t_size t_at t_fault t_newWide t_newHigh t_colours t_now t_file t_fresh t_colour t_table t_last t_one) H → va_D A (zwX9 cI h_t h_t_now h_t_file h_t_fresh h_t_colour h_t_table h_t_last h_t_one t_wide t_high t_size t_at t_fault t_newWide t_newHigh t_colours t_now t_file t_fresh t_colour t_table t_last t_one) → va_S A s.heap H locs → lv_has ls 12 [(0, .ref h_t), (1, .int l1), (2, .int l2), (3, .int l3), (4, .int l4), (5, .int l5), (6, .int l6)] → W p l e rmX9_readFourth s m args below meth c H locs 0 0 Q (F0 m 117 ls [])) {rc192 : Int32 → Int32 → Int32 → Int32 → Int32 → (Nat → Int32) → (Nat → Int32) → (Nat → Int32) → Int32 → Int32 → Int32 → Int32 → Int32 → Int32 → Int32 → Int32 → Option (Int32 × Int32 × Int32 × Int32 × (Nat → Int32) × (Nat → Int32))} (hr_192 : ∀ {t_at : Int32} {t_fault : Int32} {t_newWide : Int32} {t_newHigh : Int32} {t_fresh : Nat → Int32} {t_one : Nat → Int32} {l1 : Int32} {l2 : Int32} {l3 : Int32} {l4 : Int32} {l5 : Int32} {l6 : Int32} {l7 : Int32} {l8 : Int32} {l9 : Int32} {H : Heap} {locs : List Loc} {ls : Array Slot}, rc192 t_size t_at t_fault t_newWide t_newHigh t_file t_fresh t_one l2 l3 l4 l5 l6 l7 l8 l9 = some (zt_at, zt_fault, zt_newWide, zt_newHigh, zt_fresh, zt_one) → va_P D vwCl (zwX9 cI h_t h_t_now h_t_file h_t_fresh h_t_colour h_t_table h_t_last h_t_one t_wide t_high t_size t_at t_fault t_newWide t_newHigh t_colours t_now t_file t_fresh t_colour t_table t_last t_one) H → va_D A (zwX9 cI h_t h_t_now h_t_file h_t_fresh h_t_colour h_t_table h_t_last h_t_one t_wide t_high t_size t_at t_fault t_newWide t_newHigh t_colours t_now t_file t_fresh t_colour t_table t_last t_one) → va_S A s.heap H locs → lv_has ls 12 [(0, .ref h_t), (1, .int l1), (2, .int l2), (3, .int l3), (4, .int l4), (5, .int l5), (6, .int l6), (7, .int l7), (8, .int l8), (9, .int l9)] → W p l e rmX9_readFourth s m args below meth c H locs 0 0 Q (F0 m 192 ls [])) {t_at : Int32} {t_fault : Int32} {t_newWide : Int32} {t_newHigh : Int32} {t_fresh : Nat → Int32} {t_one : Nat → Int32} {l1 : Int32} {l2 : Int32} {l3 : Int32} {l4 : Int32} {l5 : Int32} {l6 : Int32} {l7 : Int32} {l8 : Int32} {l9 : Int32} {l10 : Int32} {k0 : Int32} {H : Heap} {locs : List Loc} {ls : Array Slot} : fX9_readFourth_296 rc117 rc192 t_size t_at t_fault t_newWide t_newHigh t_file t_fresh t_one l2 l3 l4 l5 l6 l7 l8 l9 l10 k0 = some (zt_at, zt_fault, zt_newWide, zt_newHigh, zt_fresh, zt_one) → va_P D vwCl (zwX9 cI h_t h_t_now h_t_file h_t_fresh h_t_colour h_t_table h_t_last h_t_one t_wide t_high t_size t_at t_fault t_newWide t_newHigh t_colours t_now t_file t_fresh t_colour t_table t_last t_one) H → va_D A (zwX9 cI h_t h_t_now h_t_file h_t_fresh h_t_colour h_t_table h_t_last h_t_one t_wide t_high t_size t_at t_fault t_newWide t_newHigh t_colours t_now t_file t_fresh t_colour t_table t_last t_one) → va_S A s.heap H locs → lv_has ls 12 [(0, .ref h_t), (1, .int l1), (2, .int l2), (3, .int l3), (4, .int l4), (5, .int l5), (6, .int l6), (7, .int l7), (8, .int l8), (9, .int l9), (10, .int l10)] → W p l e rmX9_readFourth s m args below meth c H locs 0 0 Q (F0 m 296 ls [.int k0]) := by
  intro hf hP hD hS hl
  obtain ⟨hx, hb, hml, hown, hts⟩ := id C
  unfold fX9_readFourth_296 at hf
  refine lv_istore (lv' := [(11, .int k0), (0, .ref h_t), (1, .int l1), (2, .int l2), (3, .int l3), (4, .int l4), (5, .int l5), (6, .int l6), (7, .int l7), (8, .int l8), (9, .int l9), (10, .int l10)]) hx hb dX9_readFourth_296 hl (by decide) rfl (fun ls hl => ?_)
  refine lv_aload_n hx hb dX9_readFourth_298 rfl (lv_at hl 1 rfl) ?_
  refine lv_aload_n hx hb dX9_readFourth_299 rfl (lv_at hl 1 rfl) ?_
  refine va_get (D := D) (ci := 8) (v := .int t_newWide) (C := RX9) (T := TX9) (N := 15) hx hb hts iX9_readFourth_X9 hown hK hP 0 rfl rfl 7 (by decide) (kX9_readFourth_142 hts) (fun _ h9 => h9) rfl dX9_readFourth_300 ?_
  refine lv_iload hx hb dX9_readFourth_303 (lv_at hl 0 rfl) ?_
  refine lv_imul hx hb dX9_readFourth_305 ?_
  refine lv_iload hx hb dX9_readFourth_306 (lv_at hl 11 rfl) ?_
  refine lv_iadd hx hb dX9_readFourth_308 ?_
  obtain ⟨u1, hc2, hf⟩ := zb1_in hf
  refine zc_v (va_runV (As := [.int ((t_newWide * k0) + l10)]) (rest := []) C (mX9_set l D cI H.size h_t h_t_now h_t_file h_t_fresh h_t_colour h_t_table h_t_last h_t_one t_wide t_high t_size t_at t_fault t_newWide t_newHigh t_colours t_now t_file t_fresh t_colour t_table t_last t_one ((t_newWide * k0) + l10) u1 hc2) (qX9_readFourth_X9_set_168 hts) ⟨zP_blind, va_recv hK hP (ci := 8) (q0 := 0) rfl rfl, zpre hK hN hP hD [0, 1, 2, 3, 4, 5, 6, 7] rfl rfl⟩ rfl rfl hl.1 rfl (lv_room (Nat.le_of_ble_eq_true rfl)) dX9_readFourth_309 ⟨Nat.zero_le _, Nat.zero_le _⟩) hP hD hS hA [0, 1, 2, 3, 4, 5, 6, 7] [] [0, 1, 2, 3, 4, 5, 6, 7] (ws' := zwX9 cI h_t h_t_now h_t_file h_t_fresh h_t_colour h_t_table h_t_last h_t_one t_wide t_high t_size t_at t_fault t_newWide t_newHigh t_colours t_now t_file u1 t_colour t_table t_last t_one) rfl rfl rfl rfl rfl rfl (fun H locs hP hD hS => ?_)
  obtain ⟨x3, ex3⟩ : ∃ y : Int32, y = l6 + 1 := ⟨_, rfl⟩
  replace hf := zlet_in hf ex3
  refine lv_iinc (v := x3) (lv' := [(6, .int x3), (11, .int k0), (0, .ref h_t), (1, .int l1), (2, .int l2), (3, .int l3), (4, .int l4), (5, .int l5), (7, .int l7), (8, .int l8), (9, .int l9), (10, .int l10)]) hx hb dX9_readFourth_312 hl (k := 7) rfl (by rw [ex3]; rfl) (by decide) rfl (fun ls hl => ?_)
  clear ex3
  obtain ⟨x4, ex4⟩ : ∃ y : Int32, y = l9 + 1 := ⟨_, rfl⟩
  replace hf := zlet_in hf ex4
  refine lv_iinc (v := x4) (lv' := [(9, .int x4), (6, .int x3), (11, .int k0), (0, .ref h_t), (1, .int l1), (2, .int l2), (3, .int l3), (4, .int l4), (5, .int l5), (7, .int l7), (8, .int l8), (10, .int l10)]) hx hb dX9_readFourth_315 hl (k := 10) rfl (by rw [ex4]; rfl) (by decide) rfl (fun ls hl => ?_)
  clear ex4
  refine lv_goto (tgt := 192) hx hb dX9_readFourth_318 (by decide) ?_
  exact hr_192 hf hP hD hS (lv_sub hl [3, 4, 5, 6, 7, 8, 1, 9, 10, 0] rfl)
set_option maxHeartbeats 4000000 in
set_option maxRecDepth 100000 in
theorem wX9_readFourth_259 {p : Program} {l : Launch} {e : Env} {s : State} {m : MethodId} {args : Array Value} {below : List Frame} {meth : Method} {c : Code} {D : va_G} {A : Nat → Prop} {Q : State → Prop} {cI : ClassId} {h_t h_t_now h_t_file h_t_fresh h_t_colour h_t_table h_t_last h_t_one : Nat} {t_wide : Int32} {t_high : Int32} {t_size : Int32} {t_colours : Int32} {t_now : Nat → Int32} {t_file : Nat → Int32} {t_colour : Nat → Int32} {t_table : Nat → Int32} {t_last : Nat → Int32} {zt_at : Int32} {zt_fault : Int32} {zt_newWide : Int32} {zt_newHigh : Int32} {zt_fresh : Nat → Int32} {zt_one : Nat → Int32} (C : CallFix p m c cX9_readFourth 12 s args wsX9_readFourth RX9) (hN : zN s) (hK : va_K D vwCl [(cI, .int)] s) (hA : ∀ q, s.heap.size ≤ q → A q) (hE : zEv p l e rmX9_readFourth s m args below meth c cX9_readFourth D A Q (zwX9 cI h_t h_t_now h_t_file h_t_fresh h_t_colour h_t_table h_t_last h_t_one t_wide t_high t_size zt_at zt_fault zt_newWide zt_newHigh t_colours t_now t_file zt_fresh t_colour t_table t_last zt_one)) {rc117 : Int32 → Int32 → Int32 → Int32 → Int32 → (Nat → Int32) → (Nat → Int32) → (Nat → Int32) → Int32 → Int32 → Int32 → Int32 → Int32 → Option (Int32 × Int32 × Int32 × Int32 × (Nat → Int32) × (Nat → Int32))} (hr_117 : ∀ {t_at : Int32} {t_fault : Int32} {t_newWide : Int32} {t_newHigh : Int32} {t_fresh : Nat → Int32} {t_one : Nat → Int32} {l1 : Int32} {l2 : Int32} {l3 : Int32} {l4 : Int32} {l5 : Int32} {l6 : Int32} {H : Heap} {locs : List Loc} {ls : Array Slot}, rc117 t_size t_at t_fault t_newWide t_newHigh t_file t_fresh t_one l2 l3 l4 l5 l6 = some (zt_at, zt_fault, zt_newWide, zt_newHigh, zt_fresh, zt_one) → va_P D vwCl (zwX9 cI h_t h_t_now h_t_file h_t_fresh h_t_colour h_t_table h_t_last h_t_one t_wide t_high t_size t_at t_fault t_newWide t_newHigh t_colours t_now t_file t_fresh t_colour t_table t_last t_one) H → va_D A (zwX9 cI h_t h_t_now h_t_file h_t_fresh h_t_colour h_t_table h_t_last h_t_one t_wide t_high t_size t_at t_fault t_newWide t_newHigh t_colours t_now t_file t_fresh t_colour t_table t_last t_one) → va_S A s.heap H locs → lv_has ls 12 [(0, .ref h_t), (1, .int l1), (2, .int l2), (3, .int l3), (4, .int l4), (5, .int l5), (6, .int l6)] → W p l e rmX9_readFourth s m args below meth c H locs 0 0 Q (F0 m 117 ls [])) {rc192 : Int32 → Int32 → Int32 → Int32 → Int32 → (Nat → Int32) → (Nat → Int32) → (Nat → Int32) → Int32 → Int32 → Int32 → Int32 → Int32 → Int32 → Int32 → Int32 → Option (Int32 × Int32 × Int32 × Int32 × (Nat → Int32) × (Nat → Int32))} (hr_192 : ∀ {t_at : Int32} {t_fault : Int32} {t_newWide : Int32} {t_newHigh : Int32} {t_fresh : Nat → Int32} {t_one : Nat → Int32} {l1 : Int32} {l2 : Int32} {l3 : Int32} {l4 : Int32} {l5 : Int32} {l6 : Int32} {l7 : Int32} {l8 : Int32} {l9 : Int32} {H : Heap} {locs : List Loc} {ls : Array Slot}, rc192 t_size t_at t_fault t_newWide t_newHigh t_file t_fresh t_one l2 l3 l4 l5 l6 l7 l8 l9 = some (zt_at, zt_fault, zt_newWide, zt_newHigh, zt_fresh, zt_one) → va_P D vwCl (zwX9 cI h_t h_t_now h_t_file h_t_fresh h_t_colour h_t_table h_t_last h_t_one t_wide t_high t_size t_at t_fault t_newWide t_newHigh t_colours t_now t_file t_fresh t_colour t_table t_last t_one) H → va_D A (zwX9 cI h_t h_t_now h_t_file h_t_fresh h_t_colour h_t_table h_t_last h_t_one t_wide t_high t_size t_at t_fault t_newWide t_newHigh t_colours t_now t_file t_fresh t_colour t_table t_last t_one) → va_S A s.heap H locs → lv_has ls 12 [(0, .ref h_t), (1, .int l1), (2, .int l2), (3, .int l3), (4, .int l4), (5, .int l5), (6, .int l6), (7, .int l7), (8, .int l8), (9, .int l9)] → W p l e rmX9_readFourth s m args below meth c H locs 0 0 Q (F0 m 192 ls [])) {t_at : Int32} {t_fault : Int32} {t_newWide : Int32} {t_newHigh : Int32} {t_fresh : Nat → Int32} {t_one : Nat → Int32} {l1 : Int32} {l2 : Int32} {l3 : Int32} {l4 : Int32} {l5 : Int32} {l6 : Int32} {l7 : Int32} {l8 : Int32} {l9 : Int32} {k0 : Int32} {H : Heap} {locs : List Loc} {ls : Array Slot} : fX9_readFourth_259 rc117 rc192 t_size t_at t_fault t_newWide t_newHigh t_file t_fresh t_one l2 l3 l4 l5 l6 l7 l8 l9 k0 = some (zt_at, zt_fault, zt_newWide, zt_newHigh, zt_fresh, zt_one) → va_P D vwCl (zwX9 cI h_t h_t_now h_t_file h_t_fresh h_t_colour h_t_table h_t_last h_t_one t_wide t_high t_size t_at t_fault t_newWide t_newHigh t_colours t_now t_file t_fresh t_colour t_table t_last t_one) H → va_D A (zwX9 cI h_t h_t_now h_t_file h_t_fresh h_t_colour h_t_table h_t_last h_t_one t_wide t_high t_size t_at t_fault t_newWide t_newHigh t_colours t_now t_file t_fresh t_colour t_table t_last t_one) → va_S A s.heap H locs → lv_has ls 12 [(0, .ref h_t), (1, .int l1), (2, .int l2), (3, .int l3), (4, .int l4), (5, .int l5), (6, .int l6), (7, .int l7), (8, .int l8), (9, .int l9)] → W p l e rmX9_readFourth s m args below meth c H locs 0 0 Q (F0 m 259 ls [.int k0]) := by
  intro hf hP hD hS hl
  obtain ⟨hx, hb, hml, hown, hts⟩ := id C
  unfold fX9_readFourth_259 at hf
  refine lv_istore (lv' := [(10, .int k0), (0, .ref h_t), (1, .int l1), (2, .int l2), (3, .int l3), (4, .int l4), (5, .int l5), (6, .int l6), (7, .int l7), (8, .int l8), (9, .int l9)]) hx hb dX9_readFourth_259 hl (by decide) rfl (fun ls hl => ?_)
  refine lv_iload hx hb dX9_readFourth_261 (lv_at hl 5 rfl) ?_
  refine lv_bipush (v := 32) hx hb dX9_readFourth_263 (by decide) ?_
  refine lv_idiv hx hb dX9_readFourth_265 (by decide) ?_
  refine lv_iconst (v := 2) hx hb dX9_readFourth_266 (by decide) ?_
  refine lv_irem hx hb dX9_readFourth_267 (by decide) ?_
  refine lv_iconst (v := 1) hx hb dX9_readFourth_268 (by decide) ?_
  refine lv_icmp_ne (tgt := 282) hx hb dX9_readFourth_269 (by decide) (fun c1 => ?_) (fun c1 => ?_)
  · replace hf := zif_f hf c1
    refine lv_aload_n hx hb dX9_readFourth_282 rfl (lv_at hl 1 rfl) ?_
    refine va_get (D := D) (ci := 8) (v := .int t_newHigh) (C := RX9) (T := TX9) (N := 15) hx hb hts iX9_readFourth_X9 hown hK hP 0 rfl rfl 8 (by decide) (kX9_readFourth_162 hts) (fun _ h9 => h9) rfl dX9_readFourth_283 ?_
    refine lv_iconst (v := 1) hx hb dX9_readFourth_286 (by decide) ?_
    refine lv_isub hx hb dX9_readFourth_287 ?_
    refine lv_iload hx hb dX9_readFourth_288 (lv_at hl 7 rfl) ?_
    refine lv_aload_n hx hb dX9_readFourth_290 rfl (lv_at hl 1 rfl) ?_
    refine va_get (D := D) (ci := 8) (v := .int t_newWide) (C := RX9) (T := TX9) (N := 15) hx hb hts iX9_readFourth_X9 hown hK hP 0 rfl rfl 7 (by decide) (kX9_readFourth_142 hts) (fun _ h9 => h9) rfl dX9_readFourth_291 ?_
    obtain ⟨hg2, hf⟩ := znz_in hf
    refine lv_idiv hx hb dX9_readFourth_294 hg2 ?_
    refine lv_isub hx hb dX9_readFourth_295 ?_
    exact wX9_readFourth_296 C hN hK hA hE hr_117 hr_192 hf hP hD hS (lv_sub hl [1, 2, 3, 4, 5, 6, 7, 8, 9, 10, 0] rfl)
  · replace hf := zif_t hf c1
    refine lv_iload hx hb dX9_readFourth_272 (lv_at hl 7 rfl) ?_
    refine lv_aload_n hx hb dX9_readFourth_274 rfl (lv_at hl 1 rfl) ?_
    refine va_get (D := D) (ci := 8) (v := .int t_newWide) (C := RX9) (T := TX9) (N := 15) hx hb hts iX9_readFourth_X9 hown hK hP 0 rfl rfl 7 (by decide) (kX9_readFourth_142 hts) (fun _ h9 => h9) rfl dX9_readFourth_275 ?_
    obtain ⟨hg3, hf⟩ := znz_in hf
    refine lv_idiv hx hb dX9_readFourth_278 hg3 ?_
    refine lv_goto (tgt := 296) hx hb dX9_readFourth_279 (by decide) ?_
    exact wX9_readFourth_296 C hN hK hA hE hr_117 hr_192 hf hP hD hS (lv_sub hl [1, 2, 3, 4, 5, 6, 7, 8, 9, 10, 0] rfl)
set_option maxHeartbeats 4000000 in
set_option maxRecDepth 100000 in
theorem wX9_readFourth_224 {p : Program} {l : Launch} {e : Env} {s : State} {m : MethodId} {args : Array Value} {below : List Frame} {meth : Method} {c : Code} {D : va_G} {A : Nat → Prop} {Q : State → Prop} {cI : ClassId} {h_t h_t_now h_t_file h_t_fresh h_t_colour h_t_table h_t_last h_t_one : Nat} {t_wide : Int32} {t_high : Int32} {t_size : Int32} {t_colours : Int32} {t_now : Nat → Int32} {t_file : Nat → Int32} {t_colour : Nat → Int32} {t_table : Nat → Int32} {t_last : Nat → Int32} {zt_at : Int32} {zt_fault : Int32} {zt_newWide : Int32} {zt_newHigh : Int32} {zt_fresh : Nat → Int32} {zt_one : Nat → Int32} (C : CallFix p m c cX9_readFourth 12 s args wsX9_readFourth RX9) (hN : zN s) (hK : va_K D vwCl [(cI, .int)] s) (hA : ∀ q, s.heap.size ≤ q → A q) (hE : zEv p l e rmX9_readFourth s m args below meth c cX9_readFourth D A Q (zwX9 cI h_t h_t_now h_t_file h_t_fresh h_t_colour h_t_table h_t_last h_t_one t_wide t_high t_size zt_at zt_fault zt_newWide zt_newHigh t_colours t_now t_file zt_fresh t_colour t_table t_last zt_one)) {rc117 : Int32 → Int32 → Int32 → Int32 → Int32 → (Nat → Int32) → (Nat → Int32) → (Nat → Int32) → Int32 → Int32 → Int32 → Int32 → Int32 → Option (Int32 × Int32 × Int32 × Int32 × (Nat → Int32) × (Nat → Int32))} (hr_117 : ∀ {t_at : Int32} {t_fault : Int32} {t_newWide : Int32} {t_newHigh : Int32} {t_fresh : Nat → Int32} {t_one : Nat → Int32} {l1 : Int32} {l2 : Int32} {l3 : Int32} {l4 : Int32} {l5 : Int32} {l6 : Int32} {H : Heap} {locs : List Loc} {ls : Array Slot}, rc117 t_size t_at t_fault t_newWide t_newHigh t_file t_fresh t_one l2 l3 l4 l5 l6 = some (zt_at, zt_fault, zt_newWide, zt_newHigh, zt_fresh, zt_one) → va_P D vwCl (zwX9 cI h_t h_t_now h_t_file h_t_fresh h_t_colour h_t_table h_t_last h_t_one t_wide t_high t_size t_at t_fault t_newWide t_newHigh t_colours t_now t_file t_fresh t_colour t_table t_last t_one) H → va_D A (zwX9 cI h_t h_t_now h_t_file h_t_fresh h_t_colour h_t_table h_t_last h_t_one t_wide t_high t_size t_at t_fault t_newWide t_newHigh t_colours t_now t_file t_fresh t_colour t_table t_last t_one) → va_S A s.heap H locs → lv_has ls 12 [(0, .ref h_t), (1, .int l1), (2, .int l2), (3, .int l3), (4, .int l4), (5, .int l5), (6, .int l6)] → W p l e rmX9_readFourth s m args below meth c H locs 0 0 Q (F0 m 117 ls [])) {rc192 : Int32 → Int32 → Int32 → Int32 → Int32 → (Nat → Int32) → (Nat → Int32) → (Nat → Int32) → Int32 → Int32 → Int32 → Int32 → Int32 → Int32 → Int32 → Int32 → Option (Int32 × Int32 × Int32 × Int32 × (Nat → Int32) × (Nat → Int32))} (hr_192 : ∀ {t_at : Int32} {t_fault : Int32} {t_newWide : Int32} {t_newHigh : Int32} {t_fresh : Nat → Int32} {t_one : Nat → Int32} {l1 : Int32} {l2 : Int32} {l3 : Int32} {l4 : Int32} {l5 : Int32} {l6 : Int32} {l7 : Int32} {l8 : Int32} {l9 : Int32} {H : Heap} {locs : List Loc} {ls : Array Slot}, rc192 t_size t_at t_fault t_newWide t_newHigh t_file t_fresh t_one l2 l3 l4 l5 l6 l7 l8 l9 = some (zt_at, zt_fault, zt_newWide, zt_newHigh, zt_fresh, zt_one) → va_P D vwCl (zwX9 cI h_t h_t_now h_t_file h_t_fresh h_t_colour h_t_table h_t_last h_t_one t_wide t_high t_size t_at t_fault t_newWide t_newHigh t_colours t_now t_file t_fresh t_colour t_table t_last t_one) H → va_D A (zwX9 cI h_t h_t_now h_t_file h_t_fresh h_t_colour h_t_table h_t_last h_t_one t_wide t_high t_size t_at t_fault t_newWide t_newHigh t_colours t_now t_file t_fresh t_colour t_table t_last t_one) → va_S A s.heap H locs → lv_has ls 12 [(0, .ref h_t), (1, .int l1), (2, .int l2), (3, .int l3), (4, .int l4), (5, .int l5), (6, .int l6), (7, .int l7), (8, .int l8), (9, .int l9)] → W p l e rmX9_readFourth s m args below meth c H locs 0 0 Q (F0 m 192 ls [])) {t_at : Int32} {t_fault : Int32} {t_newWide : Int32} {t_newHigh : Int32} {t_fresh : Nat → Int32} {t_one : Nat → Int32} {l1 : Int32} {l2 : Int32} {l3 : Int32} {l4 : Int32} {l5 : Int32} {l6 : Int32} {l7 : Int32} {l8 : Int32} {l9 : Int32} {H : Heap} {locs : List Loc} {ls : Array Slot} : fX9_readFourth_224 rc117 rc192 t_size t_at t_fault t_newWide t_newHigh t_file t_fresh t_one l2 l3 l4 l5 l6 l7 l8 l9 = some (zt_at, zt_fault, zt_newWide, zt_newHigh, zt_fresh, zt_one) → va_P D vwCl (zwX9 cI h_t h_t_now h_t_file h_t_fresh h_t_colour h_t_table h_t_last h_t_one t_wide t_high t_size t_at t_fault t_newWide t_newHigh t_colours t_now t_file t_fresh t_colour t_table t_last t_one) H → va_D A (zwX9 cI h_t h_t_now h_t_file h_t_fresh h_t_colour h_t_table h_t_last h_t_one t_wide t_high t_size t_at t_fault t_newWide t_newHigh t_colours t_now t_file t_fresh t_colour t_table t_last t_one) → va_S A s.heap H locs → lv_has ls 12 [(0, .ref h_t), (1, .int l1), (2, .int l2), (3, .int l3), (4, .int l4), (5, .int l5), (6, .int l6), (7, .int l7), (8, .int l8), (9, .int l9)] → W p l e rmX9_readFourth s m args below meth c H locs 0 0 Q (F0 m 224 ls []) := by
  intro hf hP hD hS hl
  obtain ⟨hx, hb, hml, hown, hts⟩ := id C
  unfold fX9_readFourth_224 at hf
  refine lv_iload hx hb dX9_readFourth_224 (lv_at hl 4 rfl) ?_
  refine lv_bipush (v := 16) hx hb dX9_readFourth_226 (by decide) ?_
  refine lv_idiv hx hb dX9_readFourth_228 (by decide) ?_
  refine lv_iconst (v := 2) hx hb dX9_readFourth_229 (by decide) ?_
  refine lv_irem hx hb dX9_readFourth_230 (by decide) ?_
  refine lv_iconst (v := 1) hx hb dX9_readFourth_231 (by decide) ?_
  refine lv_icmp_ne (tgt := 252) hx hb dX9_readFourth_232 (by decide) (fun c1 => ?_) (fun c1 => ?_)
  · replace hf := zif_f hf c1
    refine lv_iload hx hb dX9_readFourth_252 (lv_at hl 6 rfl) ?_
    refine lv_aload_n hx hb dX9_readFourth_254 rfl (lv_at hl 0 rfl) ?_
    refine va_get (D := D) (ci := 8) (v := .int t_newWide) (C := RX9) (T := TX9) (N := 15) hx hb hts iX9_readFourth_X9 hown hK hP 0 rfl rfl 7 (by decide) (kX9_readFourth_142 hts) (fun _ h9 => h9) rfl dX9_readFourth_255 ?_
    obtain ⟨hg2, hf⟩ := znz_in hf
    refine lv_irem hx hb dX9_readFourth_258 hg2 ?_
    exact wX9_readFourth_259 C hN hK hA hE hr_117 hr_192 hf hP hD hS (lv_sub hl [0, 1, 2, 3, 4, 5, 6, 7, 8, 9] rfl)
  · replace hf := zif_t hf c1
    refine lv_aload_n hx hb dX9_readFourth_235 rfl (lv_at hl 0 rfl) ?_
    refine va_get (D := D) (ci := 8) (v := .int t_newWide) (C := RX9) (T := TX9) (N := 15) hx hb hts iX9_readFourth_X9 hown hK hP 0 rfl rfl 7 (by decide) (kX9_readFourth_142 hts) (fun _ h9 => h9) rfl dX9_readFourth_236 ?_
    refine lv_iconst (v := 1) hx hb dX9_readFourth_239 (by decide) ?_
    refine lv_isub hx hb dX9_readFourth_240 ?_
    refine lv_iload hx hb dX9_readFourth_241 (lv_at hl 6 rfl) ?_
    refine lv_aload_n hx hb dX9_readFourth_243 rfl (lv_at hl 0 rfl) ?_
    refine va_get (D := D) (ci := 8) (v := .int t_newWide) (C := RX9) (T := TX9) (N := 15) hx hb hts iX9_readFourth_X9 hown hK hP 0 rfl rfl 7 (by decide) (kX9_readFourth_142 hts) (fun _ h9 => h9) rfl dX9_readFourth_244 ?_
    obtain ⟨hg3, hf⟩ := znz_in hf
    refine lv_irem hx hb dX9_readFourth_247 hg3 ?_
    refine lv_isub hx hb dX9_readFourth_248 ?_
    refine lv_goto (tgt := 259) hx hb dX9_readFourth_249 (by decide) ?_
    exact wX9_readFourth_259 C hN hK hA hE hr_117 hr_192 hf hP hD hS (lv_sub hl [0, 1, 2, 3, 4, 5, 6, 7, 8, 9] rfl)
set_option maxHeartbeats 4000000 in
set_option maxRecDepth 100000 in
theorem wX9_readFourth_219 {p : Program} {l : Launch} {e : Env} {s : State} {m : MethodId} {args : Array Value} {below : List Frame} {meth : Method} {c : Code} {D : va_G} {A : Nat → Prop} {Q : State → Prop} {cI : ClassId} {h_t h_t_now h_t_file h_t_fresh h_t_colour h_t_table h_t_last h_t_one : Nat} {t_wide : Int32} {t_high : Int32} {t_size : Int32} {t_colours : Int32} {t_now : Nat → Int32} {t_file : Nat → Int32} {t_colour : Nat → Int32} {t_table : Nat → Int32} {t_last : Nat → Int32} {zt_at : Int32} {zt_fault : Int32} {zt_newWide : Int32} {zt_newHigh : Int32} {zt_fresh : Nat → Int32} {zt_one : Nat → Int32} (C : CallFix p m c cX9_readFourth 12 s args wsX9_readFourth RX9) (hN : zN s) (hK : va_K D vwCl [(cI, .int)] s) (hA : ∀ q, s.heap.size ≤ q → A q) (hE : zEv p l e rmX9_readFourth s m args below meth c cX9_readFourth D A Q (zwX9 cI h_t h_t_now h_t_file h_t_fresh h_t_colour h_t_table h_t_last h_t_one t_wide t_high t_size zt_at zt_fault zt_newWide zt_newHigh t_colours t_now t_file zt_fresh t_colour t_table t_last zt_one)) {rc117 : Int32 → Int32 → Int32 → Int32 → Int32 → (Nat → Int32) → (Nat → Int32) → (Nat → Int32) → Int32 → Int32 → Int32 → Int32 → Int32 → Option (Int32 × Int32 × Int32 × Int32 × (Nat → Int32) × (Nat → Int32))} (hr_117 : ∀ {t_at : Int32} {t_fault : Int32} {t_newWide : Int32} {t_newHigh : Int32} {t_fresh : Nat → Int32} {t_one : Nat → Int32} {l1 : Int32} {l2 : Int32} {l3 : Int32} {l4 : Int32} {l5 : Int32} {l6 : Int32} {H : Heap} {locs : List Loc} {ls : Array Slot}, rc117 t_size t_at t_fault t_newWide t_newHigh t_file t_fresh t_one l2 l3 l4 l5 l6 = some (zt_at, zt_fault, zt_newWide, zt_newHigh, zt_fresh, zt_one) → va_P D vwCl (zwX9 cI h_t h_t_now h_t_file h_t_fresh h_t_colour h_t_table h_t_last h_t_one t_wide t_high t_size t_at t_fault t_newWide t_newHigh t_colours t_now t_file t_fresh t_colour t_table t_last t_one) H → va_D A (zwX9 cI h_t h_t_now h_t_file h_t_fresh h_t_colour h_t_table h_t_last h_t_one t_wide t_high t_size t_at t_fault t_newWide t_newHigh t_colours t_now t_file t_fresh t_colour t_table t_last t_one) → va_S A s.heap H locs → lv_has ls 12 [(0, .ref h_t), (1, .int l1), (2, .int l2), (3, .int l3), (4, .int l4), (5, .int l5), (6, .int l6)] → W p l e rmX9_readFourth s m args below meth c H locs 0 0 Q (F0 m 117 ls [])) {rc192 : Int32 → Int32 → Int32 → Int32 → Int32 → (Nat → Int32) → (Nat → Int32) → (Nat → Int32) → Int32 → Int32 → Int32 → Int32 → Int32 → Int32 → Int32 → Int32 → Option (Int32 × Int32 × Int32 × Int32 × (Nat → Int32) × (Nat → Int32))} (hr_192 : ∀ {t_at : Int32} {t_fault : Int32} {t_newWide : Int32} {t_newHigh : Int32} {t_fresh : Nat → Int32} {t_one : Nat → Int32} {l1 : Int32} {l2 : Int32} {l3 : Int32} {l4 : Int32} {l5 : Int32} {l6 : Int32} {l7 : Int32} {l8 : Int32} {l9 : Int32} {H : Heap} {locs : List Loc} {ls : Array Slot}, rc192 t_size t_at t_fault t_newWide t_newHigh t_file t_fresh t_one l2 l3 l4 l5 l6 l7 l8 l9 = some (zt_at, zt_fault, zt_newWide, zt_newHigh, zt_fresh, zt_one) → va_P D vwCl (zwX9 cI h_t h_t_now h_t_file h_t_fresh h_t_colour h_t_table h_t_last h_t_one t_wide t_high t_size t_at t_fault t_newWide t_newHigh t_colours t_now t_file t_fresh t_colour t_table t_last t_one) H → va_D A (zwX9 cI h_t h_t_now h_t_file h_t_fresh h_t_colour h_t_table h_t_last h_t_one t_wide t_high t_size t_at t_fault t_newWide t_newHigh t_colours t_now t_file t_fresh t_colour t_table t_last t_one) → va_S A s.heap H locs → lv_has ls 12 [(0, .ref h_t), (1, .int l1), (2, .int l2), (3, .int l3), (4, .int l4), (5, .int l5), (6, .int l6), (7, .int l7), (8, .int l8), (9, .int l9)] → W p l e rmX9_readFourth s m args below meth c H locs 0 0 Q (F0 m 192 ls [])) {t_at : Int32} {t_fault : Int32} {t_newWide : Int32} {t_newHigh : Int32} {t_fresh : Nat → Int32} {t_one : Nat → Int32} {l1 : Int32} {l2 : Int32} {l3 : Int32} {l4 : Int32} {l5 : Int32} {l6 : Int32} {l7 : Int32} {l8 : Int32} {l9 : Int32} {H : Heap} {locs : List Loc} {ls : Array Slot} : fX9_readFourth_219 rc117 rc192 t_size t_at t_fault t_newWide t_newHigh t_file t_fresh t_one l2 l3 l4 l5 l6 l7 l8 l9 = some (zt_at, zt_fault, zt_newWide, zt_newHigh, zt_fresh, zt_one) → va_P D vwCl (zwX9 cI h_t h_t_now h_t_file h_t_fresh h_t_colour h_t_table h_t_last h_t_one t_wide t_high t_size t_at t_fault t_newWide t_newHigh t_colours t_now t_file t_fresh t_colour t_table t_last t_one) H → va_D A (zwX9 cI h_t h_t_now h_t_file h_t_fresh h_t_colour h_t_table h_t_last h_t_one t_wide t_high t_size t_at t_fault t_newWide t_newHigh t_colours t_now t_file t_fresh t_colour t_table t_last t_one) → va_S A s.heap H locs → lv_has ls 12 [(0, .ref h_t), (1, .int l1), (2, .int l2), (3, .int l3), (4, .int l4), (5, .int l5), (6, .int l6), (7, .int l7), (8, .int l8), (9, .int l9)] → W p l e rmX9_readFourth s m args below meth c H locs 0 0 Q (F0 m 219 ls []) := by
  intro hf hP hD hS hl
  obtain ⟨hx, hb, hml, hown, hts⟩ := id C
  unfold fX9_readFourth_219 at hf
  refine lv_aload_n hx hb dX9_readFourth_219 rfl (lv_at hl 0 rfl) ?_
  refine lv_iload_n hx hb dX9_readFourth_220 rfl (lv_at hl 3 rfl) ?_
  obtain ⟨u1, u2, u3, hc4, hf⟩ := zb3_in hf
  refine zc_v (va_runV (As := [.int l3]) (rest := []) C (mX9_sample l D cI H.size h_t h_t_now h_t_file h_t_fresh h_t_colour h_t_table h_t_last h_t_one t_wide t_high t_size t_at t_fault t_newWide t_newHigh t_colours t_now t_file t_fresh t_colour t_table t_last t_one l3 u1 u2 u3 hc4) (qX9_readFourth_X9_sample_202 hts) ⟨zP_blind, va_recv hK hP (ci := 8) (q0 := 0) rfl rfl, zpre hK hN hP hD [0, 1, 2, 3, 4, 5, 6, 7] rfl rfl⟩ rfl rfl hl.1 rfl (lv_room (Nat.le_of_ble_eq_true rfl)) dX9_readFourth_221 ⟨Nat.zero_le _, Nat.zero_le _⟩) hP hD hS hA [0, 1, 2, 3, 4, 5, 6, 7] [] [0, 1, 2, 3, 4, 5, 6, 7] (ws' := zwX9 cI h_t h_t_now h_t_file h_t_fresh h_t_colour h_t_table h_t_last h_t_one t_wide t_high t_size u1 u2 t_newWide t_newHigh t_colours t_now t_file t_fresh t_colour t_table t_last u3) rfl rfl rfl rfl rfl rfl (fun H locs hP hD hS => ?_)
  exact wX9_readFourth_224 C hN hK hA hE hr_117 hr_192 hf hP hD hS (lv_sub hl [0, 1, 2, 3, 4, 5, 6, 7, 8, 9] rfl)
set_option maxHeartbeats 4000000 in
set_option maxRecDepth 100000 in
theorem wX9_readFourth_192 {p : Program} {l : Launch} {e : Env} {s : State} {m : MethodId} {args : Array Value} {below : List Frame} {meth : Method} {c : Code} {D : va_G} {A : Nat → Prop} {Q : State → Prop} {cI : ClassId} {h_t h_t_now h_t_file h_t_fresh h_t_colour h_t_table h_t_last h_t_one : Nat} {t_wide : Int32} {t_high : Int32} {t_size : Int32} {t_colours : Int32} {t_now : Nat → Int32} {t_file : Nat → Int32} {t_colour : Nat → Int32} {t_table : Nat → Int32} {t_last : Nat → Int32} {zt_at : Int32} {zt_fault : Int32} {zt_newWide : Int32} {zt_newHigh : Int32} {zt_fresh : Nat → Int32} {zt_one : Nat → Int32} (C : CallFix p m c cX9_readFourth 12 s args wsX9_readFourth RX9) (hN : zN s) (hK : va_K D vwCl [(cI, .int)] s) (hA : ∀ q, s.heap.size ≤ q → A q) (hE : zEv p l e rmX9_readFourth s m args below meth c cX9_readFourth D A Q (zwX9 cI h_t h_t_now h_t_file h_t_fresh h_t_colour h_t_table h_t_last h_t_one t_wide t_high t_size zt_at zt_fault zt_newWide zt_newHigh t_colours t_now t_file zt_fresh t_colour t_table t_last zt_one)) {rc117 : Int32 → Int32 → Int32 → Int32 → Int32 → (Nat → Int32) → (Nat → Int32) → (Nat → Int32) → Int32 → Int32 → Int32 → Int32 → Int32 → Option (Int32 × Int32 × Int32 × Int32 × (Nat → Int32) × (Nat → Int32))} (hr_117 : ∀ {t_at : Int32} {t_fault : Int32} {t_newWide : Int32} {t_newHigh : Int32} {t_fresh : Nat → Int32} {t_one : Nat → Int32} {l1 : Int32} {l2 : Int32} {l3 : Int32} {l4 : Int32} {l5 : Int32} {l6 : Int32} {H : Heap} {locs : List Loc} {ls : Array Slot}, rc117 t_size t_at t_fault t_newWide t_newHigh t_file t_fresh t_one l2 l3 l4 l5 l6 = some (zt_at, zt_fault, zt_newWide, zt_newHigh, zt_fresh, zt_one) → va_P D vwCl (zwX9 cI h_t h_t_now h_t_file h_t_fresh h_t_colour h_t_table h_t_last h_t_one t_wide t_high t_size t_at t_fault t_newWide t_newHigh t_colours t_now t_file t_fresh t_colour t_table t_last t_one) H → va_D A (zwX9 cI h_t h_t_now h_t_file h_t_fresh h_t_colour h_t_table h_t_last h_t_one t_wide t_high t_size t_at t_fault t_newWide t_newHigh t_colours t_now t_file t_fresh t_colour t_table t_last t_one) → va_S A s.heap H locs → lv_has ls 12 [(0, .ref h_t), (1, .int l1), (2, .int l2), (3, .int l3), (4, .int l4), (5, .int l5), (6, .int l6)] → W p l e rmX9_readFourth s m args below meth c H locs 0 0 Q (F0 m 117 ls [])) (n : Nat) : ∀ {t_at : Int32} {t_fault : Int32} {t_newWide : Int32} {t_newHigh : Int32} {t_fresh : Nat → Int32} {t_one : Nat → Int32} {l1 : Int32} {l2 : Int32} {l3 : Int32} {l4 : Int32} {l5 : Int32} {l6 : Int32} {l7 : Int32} {l8 : Int32} {l9 : Int32} {H : Heap} {locs : List Loc} {ls : Array Slot}, fX9_readFourth_192 rc117 n t_size t_at t_fault t_newWide t_newHigh t_file t_fresh t_one l2 l3 l4 l5 l6 l7 l8 l9 = some (zt_at, zt_fault, zt_newWide, zt_newHigh, zt_fresh, zt_one) → va_P D vwCl (zwX9 cI h_t h_t_now h_t_file h_t_fresh h_t_colour h_t_table h_t_last h_t_one t_wide t_high t_size t_at t_fault t_newWide t_newHigh t_colours t_now t_file t_fresh t_colour t_table t_last t_one) H → va_D A (zwX9 cI h_t h_t_now h_t_file h_t_fresh h_t_colour h_t_table h_t_last h_t_one t_wide t_high t_size t_at t_fault t_newWide t_newHigh t_colours t_now t_file t_fresh t_colour t_table t_last t_one) → va_S A s.heap H locs → lv_has ls 12 [(0, .ref h_t), (1, .int l1), (2, .int l2), (3, .int l3), (4, .int l4), (5, .int l5), (6, .int l6), (7, .int l7), (8, .int l8), (9, .int l9)] → W p l e rmX9_readFourth s m args below meth c H locs 0 0 Q (F0 m 192 ls []) := by
  obtain ⟨hx, hb, hml, hown, hts⟩ := id C
  induction n with
  | zero =>
    intro t_at t_fault t_newWide t_newHigh t_fresh t_one l1 l2 l3 l4 l5 l6 l7 l8 l9 H locs ls hf
    cases hf
  | succ n hr_192 =>
    intro t_at t_fault t_newWide t_newHigh t_fresh t_one l1 l2 l3 l4 l5 l6 l7 l8 l9 H locs ls hf hP hD hS hl
    rw [fX9_readFourth_192_s] at hf
    refine lv_iload hx hb dX9_readFourth_192 (lv_at hl 9 rfl) ?_
    refine lv_iload hx hb dX9_readFourth_194 (lv_at hl 8 rfl) ?_
    refine lv_icmp_ge (tgt := 321) hx hb dX9_readFourth_196 (by decide) (fun c1 => ?_) (fun c1 => ?_)
    · replace hf := zif_t hf c1
      exact wX9_readFourth_321 C hN hK hA hE hr_117 hf hP hD hS (lv_sub hl [0, 1, 2, 3, 4, 5, 6, 7, 8, 9] rfl)
    · replace hf := zif_f hf c1
      refine lv_aload_n hx hb dX9_readFourth_199 rfl (lv_at hl 0 rfl) ?_
      refine va_get (D := D) (ci := 8) (v := .int t_fault) (C := RX9) (T := TX9) (N := 15) hx hb hts iX9_readFourth_X9 hown hK hP 0 rfl rfl 6 (by decide) (kX9_readFourth_129 hts) (fun _ h9 => h9) rfl dX9_readFourth_200 ?_
      refine lv_if_ne (tgt := 321) hx hb dX9_readFourth_203 (by decide) (fun c2 => ?_) (fun c2 => ?_)
      · replace hf := zif_f hf c2
        exact wX9_readFourth_321 C hN hK hA hE hr_117 hf hP hD hS (lv_sub hl [0, 1, 2, 3, 4, 5, 6, 7, 8, 9] rfl)
      · replace hf := zif_t hf c2
        refine lv_iload hx hb dX9_readFourth_206 (lv_at hl 9 rfl) ?_
        refine lv_if_eq (tgt := 219) hx hb dX9_readFourth_208 (by decide) (fun c3 => ?_) (fun c3 => ?_)
        · replace hf := zif_t hf c3
          exact wX9_readFourth_219 C hN hK hA hE hr_117 hr_192 hf hP hD hS (lv_sub hl [0, 1, 2, 3, 4, 5, 6, 7, 8, 9] rfl)
        · replace hf := zif_f hf c3
          refine lv_iload hx hb dX9_readFourth_211 (lv_at hl 7 rfl) ?_
          refine lv_sipush (v := 128) hx hb dX9_readFourth_213 (by decide) ?_
          refine lv_icmp_ge (tgt := 224) hx hb dX9_readFourth_216 (by decide) (fun c4 => ?_) (fun c4 => ?_)
          · replace hf := zif_t hf c4
            exact wX9_readFourth_224 C hN hK hA hE hr_117 hr_192 hf hP hD hS (lv_sub hl [0, 1, 2, 3, 4, 5, 6, 7, 8, 9] rfl)
          · replace hf := zif_f hf c4
            exact wX9_readFourth_219 C hN hK hA hE hr_117 hr_192 hf hP hD hS (lv_sub hl [0, 1, 2, 3, 4, 5, 6, 7, 8, 9] rfl)
set_option maxHeartbeats 4000000 in
set_option maxRecDepth 100000 in
theorem wX9_readFourth_186 {p : Program} {l : Launch} {e : Env} {s : State} {m : MethodId} {args : Array Value} {below : List Frame} {meth : Method} {c : Code} {D : va_G} {A : Nat → Prop} {Q : State → Prop} {cI : ClassId} {h_t h_t_now h_t_file h_t_fresh h_t_colour h_t_table h_t_last h_t_one : Nat} {t_wide : Int32} {t_high : Int32} {t_size : Int32} {t_colours : Int32} {t_now : Nat → Int32} {t_file : Nat → Int32} {t_colour : Nat → Int32} {t_table : Nat → Int32} {t_last : Nat → Int32} {zt_at : Int32} {zt_fault : Int32} {zt_newWide : Int32} {zt_newHigh : Int32} {zt_fresh : Nat → Int32} {zt_one : Nat → Int32} (C : CallFix p m c cX9_readFourth 12 s args wsX9_readFourth RX9) (hN : zN s) (hK : va_K D vwCl [(cI, .int)] s) (hA : ∀ q, s.heap.size ≤ q → A q) (hE : zEv p l e rmX9_readFourth s m args below meth c cX9_readFourth D A Q (zwX9 cI h_t h_t_now h_t_file h_t_fresh h_t_colour h_t_table h_t_last h_t_one t_wide t_high t_size zt_at zt_fault zt_newWide zt_newHigh t_colours t_now t_file zt_fresh t_colour t_table t_last zt_one)) {rc117 : Int32 → Int32 → Int32 → Int32 → Int32 → (Nat → Int32) → (Nat → Int32) → (Nat → Int32) → Int32 → Int32 → Int32 → Int32 → Int32 → Option (Int32 × Int32 × Int32 × Int32 × (Nat → Int32) × (Nat → Int32))} (hr_117 : ∀ {t_at : Int32} {t_fault : Int32} {t_newWide : Int32} {t_newHigh : Int32} {t_fresh : Nat → Int32} {t_one : Nat → Int32} {l1 : Int32} {l2 : Int32} {l3 : Int32} {l4 : Int32} {l5 : Int32} {l6 : Int32} {H : Heap} {locs : List Loc} {ls : Array Slot}, rc117 t_size t_at t_fault t_newWide t_newHigh t_file t_fresh t_one l2 l3 l4 l5 l6 = some (zt_at, zt_fault, zt_newWide, zt_newHigh, zt_fresh, zt_one) → va_P D vwCl (zwX9 cI h_t h_t_now h_t_file h_t_fresh h_t_colour h_t_table h_t_last h_t_one t_wide t_high t_size t_at t_fault t_newWide t_newHigh t_colours t_now t_file t_fresh t_colour t_table t_last t_one) H → va_D A (zwX9 cI h_t h_t_now h_t_file h_t_fresh h_t_colour h_t_table h_t_last h_t_one t_wide t_high t_size t_at t_fault t_newWide t_newHigh t_colours t_now t_file t_fresh t_colour t_table t_last t_one) → va_S A s.heap H locs → lv_has ls 12 [(0, .ref h_t), (1, .int l1), (2, .int l2), (3, .int l3), (4, .int l4), (5, .int l5), (6, .int l6)] → W p l e rmX9_readFourth s m args below meth c H locs 0 0 Q (F0 m 117 ls [])) {t_at : Int32} {t_fault : Int32} {t_newWide : Int32} {t_newHigh : Int32} {t_fresh : Nat → Int32} {t_one : Nat → Int32} {l1 : Int32} {l2 : Int32} {l3 : Int32} {l4 : Int32} {l5 : Int32} {l6 : Int32} {l7 : Int32} {l8 : Int32} {k1 : Int32} {H : Heap} {locs : List Loc} {ls : Array Slot} : fX9_readFourth_186 rc117 t_size t_at t_fault t_newWide t_newHigh t_file t_fresh t_one l2 l3 l4 l5 l6 l7 l8 k1 = some (zt_at, zt_fault, zt_newWide, zt_newHigh, zt_fresh, zt_one) → va_P D vwCl (zwX9 cI h_t h_t_now h_t_file h_t_fresh h_t_colour h_t_table h_t_last h_t_one t_wide t_high t_size t_at t_fault t_newWide t_newHigh t_colours t_now t_file t_fresh t_colour t_table t_last t_one) H → va_D A (zwX9 cI h_t h_t_now h_t_file h_t_fresh h_t_colour h_t_table h_t_last h_t_one t_wide t_high t_size t_at t_fault t_newWide t_newHigh t_colours t_now t_file t_fresh t_colour t_table t_last t_one) → va_S A s.heap H locs → lv_has ls 12 [(0, .ref h_t), (1, .int l1), (2, .int l2), (3, .int l3), (4, .int l4), (5, .int l5), (6, .int l6), (7, .int l7), (8, .int l8)] → W p l e rmX9_readFourth s m args below meth c H locs 0 0 Q (F0 m 186 ls [.int k1, .ref h_t]) := by
  intro hf hP hD hS hl
  obtain ⟨hx, hb, hml, hown, hts⟩ := id C
  unfold fX9_readFourth_186 at hf
  obtain ⟨u1, hc2, hf⟩ := zb1_in hf
  refine zc_v (va_runV (As := [.int k1]) (rest := []) C (mX9_broken l D cI H.size h_t h_t_now h_t_file h_t_fresh h_t_colour h_t_table h_t_last h_t_one t_wide t_high t_size t_at t_fault t_newWide t_newHigh t_colours t_now t_file t_fresh t_colour t_table t_last t_one k1 u1 hc2) (qX9_readFourth_X9_broken_139 hts) ⟨zP_blind, va_recv hK hP (ci := 8) (q0 := 0) rfl rfl, zpre hK hN hP hD [0, 1, 2, 3, 4, 5, 6, 7] rfl rfl⟩ rfl rfl hl.1 rfl (lv_room (Nat.le_of_ble_eq_true rfl)) dX9_readFourth_186 ⟨Nat.zero_le _, Nat.zero_le _⟩) hP hD hS hA [0, 1, 2, 3, 4, 5, 6, 7] [] [0, 1, 2, 3, 4, 5, 6, 7] (ws' := zwX9 cI h_t h_t_now h_t_file h_t_fresh h_t_colour h_t_table h_t_last h_t_one t_wide t_high t_size t_at u1 t_newWide t_newHigh t_colours t_now t_file t_fresh t_colour t_table t_last t_one) rfl rfl rfl rfl rfl rfl (fun H locs hP hD hS => ?_)
  refine lv_iconst (v := 0) hx hb dX9_readFourth_189 (by decide) ?_
  refine lv_istore (lv' := [(9, .int 0), (0, .ref h_t), (1, .int l1), (2, .int l2), (3, .int l3), (4, .int l4), (5, .int l5), (6, .int l6), (7, .int l7), (8, .int l8)]) hx hb dX9_readFourth_190 hl (by decide) rfl (fun ls hl => ?_)
  exact wX9_readFourth_192 C hN hK hA hE hr_117 1000 hf hP hD hS (lv_sub hl [1, 2, 3, 4, 5, 6, 7, 8, 9, 0] rfl)
set_option maxHeartbeats 4000000 in
set_option maxRecDepth 100000 in
theorem wX9_readFourth_168 {p : Program} {l : Launch} {e : Env} {s : State} {m : MethodId} {args : Array Value} {below : List Frame} {meth : Method} {c : Code} {D : va_G} {A : Nat → Prop} {Q : State → Prop} {cI : ClassId} {h_t h_t_now h_t_file h_t_fresh h_t_colour h_t_table h_t_last h_t_one : Nat} {t_wide : Int32} {t_high : Int32} {t_size : Int32} {t_colours : Int32} {t_now : Nat → Int32} {t_file : Nat → Int32} {t_colour : Nat → Int32} {t_table : Nat → Int32} {t_last : Nat → Int32} {zt_at : Int32} {zt_fault : Int32} {zt_newWide : Int32} {zt_newHigh : Int32} {zt_fresh : Nat → Int32} {zt_one : Nat → Int32} (C : CallFix p m c cX9_readFourth 12 s args wsX9_readFourth RX9) (hN : zN s) (hK : va_K D vwCl [(cI, .int)] s) (hA : ∀ q, s.heap.size ≤ q → A q) (hE : zEv p l e rmX9_readFourth s m args below meth c cX9_readFourth D A Q (zwX9 cI h_t h_t_now h_t_file h_t_fresh h_t_colour h_t_table h_t_last h_t_one t_wide t_high t_size zt_at zt_fault zt_newWide zt_newHigh t_colours t_now t_file zt_fresh t_colour t_table t_last zt_one)) {rc117 : Int32 → Int32 → Int32 → Int32 → Int32 → (Nat → Int32) → (Nat → Int32) → (Nat → Int32) → Int32 → Int32 → Int32 → Int32 → Int32 → Option (Int32 × Int32 × Int32 × Int32 × (Nat → Int32) × (Nat → Int32))} (hr_117 : ∀ {t_at : Int32} {t_fault : Int32} {t_newWide : Int32} {t_newHigh : Int32} {t_fresh : Nat → Int32} {t_one : Nat → Int32} {l1 : Int32} {l2 : Int32} {l3 : Int32} {l4 : Int32} {l5 : Int32} {l6 : Int32} {H : Heap} {locs : List Loc} {ls : Array Slot}, rc117 t_size t_at t_fault t_newWide t_newHigh t_file t_fresh t_one l2 l3 l4 l5 l6 = some (zt_at, zt_fault, zt_newWide, zt_newHigh, zt_fresh, zt_one) → va_P D vwCl (zwX9 cI h_t h_t_now h_t_file h_t_fresh h_t_colour h_t_table h_t_last h_t_one t_wide t_high t_size t_at t_fault t_newWide t_newHigh t_colours t_now t_file t_fresh t_colour t_table t_last t_one) H → va_D A (zwX9 cI h_t h_t_now h_t_file h_t_fresh h_t_colour h_t_table h_t_last h_t_one t_wide t_high t_size t_at t_fault t_newWide t_newHigh t_colours t_now t_file t_fresh t_colour t_table t_last t_one) → va_S A s.heap H locs → lv_has ls 12 [(0, .ref h_t), (1, .int l1), (2, .int l2), (3, .int l3), (4, .int l4), (5, .int l5), (6, .int l6)] → W p l e rmX9_readFourth s m args below meth c H locs 0 0 Q (F0 m 117 ls [])) {t_at : Int32} {t_fault : Int32} {t_newWide : Int32} {t_newHigh : Int32} {t_fresh : Nat → Int32} {t_one : Nat → Int32} {l1 : Int32} {l2 : Int32} {l3 : Int32} {l4 : Int32} {l5 : Int32} {l6 : Int32} {l7 : Int32} {k0 : Int32} {H : Heap} {locs : List Loc} {ls : Array Slot} : fX9_readFourth_168 rc117 t_size t_at t_fault t_newWide t_newHigh t_file t_fresh t_one l2 l3 l4 l5 l6 l7 k0 = some (zt_at, zt_fault, zt_newWide, zt_newHigh, zt_fresh, zt_one) → va_P D vwCl (zwX9 cI h_t h_t_now h_t_file h_t_fresh h_t_colour h_t_table h_t_last h_t_one t_wide t_high t_size t_at t_fault t_newWide t_newHigh t_colours t_now t_file t_fresh t_colour t_table t_last t_one) H → va_D A (zwX9 cI h_t h_t_now h_t_file h_t_fresh h_t_colour h_t_table h_t_last h_t_one t_wide t_high t_size t_at t_fault t_newWide t_newHigh t_colours t_now t_file t_fresh t_colour t_table t_last t_one) → va_S A s.heap H locs → lv_has ls 12 [(0, .ref h_t), (1, .int l1), (2, .int l2), (3, .int l3), (4, .int l4), (5, .int l5), (6, .int l6), (7, .int l7)] → W p l e rmX9_readFourth s m args below meth c H locs 0 0 Q (F0 m 168 ls [.int k0]) := by
  intro hf hP hD hS hl
  obtain ⟨hx, hb, hml, hown, hts⟩ := id C
  unfold fX9_readFourth_168 at hf
  refine lv_istore (lv' := [(8, .int k0), (0, .ref h_t), (1, .int l1), (2, .int l2), (3, .int l3), (4, .int l4), (5, .int l5), (6, .int l6), (7, .int l7)]) hx hb dX9_readFourth_168 hl (by decide) rfl (fun ls hl => ?_)
  refine lv_aload_n hx hb dX9_readFourth_170 rfl (lv_at hl 1 rfl) ?_
  refine lv_iload hx hb dX9_readFourth_171 (lv_at hl 0 rfl) ?_
  refine lv_iload hx hb dX9_readFourth_173 (lv_at hl 6 rfl) ?_
  refine lv_iload hx hb dX9_readFourth_175 (lv_at hl 7 rfl) ?_
  refine lv_isub hx hb dX9_readFourth_177 ?_
  refine lv_icmp_le (tgt := 185) hx hb dX9_readFourth_178 (by decide) (fun c1 => ?_) (fun c1 => ?_)
  · replace hf := zif_t hf c1
    refine lv_iconst (v := 0) hx hb dX9_readFourth_185 (by decide) ?_
    exact wX9_readFourth_186 C hN hK hA hE hr_117 hf hP hD hS (lv_sub hl [1, 2, 3, 4, 5, 6, 7, 8, 0] rfl)
  · replace hf := zif_f hf c1
    refine lv_iconst (v := 1) hx hb dX9_readFourth_181 (by decide) ?_
    refine lv_goto (tgt := 186) hx hb dX9_readFourth_182 (by decide) ?_
    exact wX9_readFourth_186 C hN hK hA hE hr_117 hf hP hD hS (lv_sub hl [1, 2, 3, 4, 5, 6, 7, 8, 0] rfl)
set_option maxHeartbeats 4000000 in
set_option maxRecDepth 100000 in
theorem wX9_readFourth_147 {p : Program} {l : Launch} {e : Env} {s : State} {m : MethodId} {args : Array Value} {below : List Frame} {meth : Method} {c : Code} {D : va_G} {A : Nat → Prop} {Q : State → Prop} {cI : ClassId} {h_t h_t_now h_t_file h_t_fresh h_t_colour h_t_table h_t_last h_t_one : Nat} {t_wide : Int32} {t_high : Int32} {t_size : Int32} {t_colours : Int32} {t_now : Nat → Int32} {t_file : Nat → Int32} {t_colour : Nat → Int32} {t_table : Nat → Int32} {t_last : Nat → Int32} {zt_at : Int32} {zt_fault : Int32} {zt_newWide : Int32} {zt_newHigh : Int32} {zt_fresh : Nat → Int32} {zt_one : Nat → Int32} (C : CallFix p m c cX9_readFourth 12 s args wsX9_readFourth RX9) (hN : zN s) (hK : va_K D vwCl [(cI, .int)] s) (hA : ∀ q, s.heap.size ≤ q → A q) (hE : zEv p l e rmX9_readFourth s m args below meth c cX9_readFourth D A Q (zwX9 cI h_t h_t_now h_t_file h_t_fresh h_t_colour h_t_table h_t_last h_t_one t_wide t_high t_size zt_at zt_fault zt_newWide zt_newHigh t_colours t_now t_file zt_fresh t_colour t_table t_last zt_one)) {rc117 : Int32 → Int32 → Int32 → Int32 → Int32 → (Nat → Int32) → (Nat → Int32) → (Nat → Int32) → Int32 → Int32 → Int32 → Int32 → Int32 → Option (Int32 × Int32 × Int32 × Int32 × (Nat → Int32) × (Nat → Int32))} (hr_117 : ∀ {t_at : Int32} {t_fault : Int32} {t_newWide : Int32} {t_newHigh : Int32} {t_fresh : Nat → Int32} {t_one : Nat → Int32} {l1 : Int32} {l2 : Int32} {l3 : Int32} {l4 : Int32} {l5 : Int32} {l6 : Int32} {H : Heap} {locs : List Loc} {ls : Array Slot}, rc117 t_size t_at t_fault t_newWide t_newHigh t_file t_fresh t_one l2 l3 l4 l5 l6 = some (zt_at, zt_fault, zt_newWide, zt_newHigh, zt_fresh, zt_one) → va_P D vwCl (zwX9 cI h_t h_t_now h_t_file h_t_fresh h_t_colour h_t_table h_t_last h_t_one t_wide t_high t_size t_at t_fault t_newWide t_newHigh t_colours t_now t_file t_fresh t_colour t_table t_last t_one) H → va_D A (zwX9 cI h_t h_t_now h_t_file h_t_fresh h_t_colour h_t_table h_t_last h_t_one t_wide t_high t_size t_at t_fault t_newWide t_newHigh t_colours t_now t_file t_fresh t_colour t_table t_last t_one) → va_S A s.heap H locs → lv_has ls 12 [(0, .ref h_t), (1, .int l1), (2, .int l2), (3, .int l3), (4, .int l4), (5, .int l5), (6, .int l6)] → W p l e rmX9_readFourth s m args below meth c H locs 0 0 Q (F0 m 117 ls [])) {t_at : Int32} {t_fault : Int32} {t_newWide : Int32} {t_newHigh : Int32} {t_fresh : Nat → Int32} {t_one : Nat → Int32} {l1 : Int32} {l2 : Int32} {l3 : Int32} {l4 : Int32} {l5 : Int32} {l6 : Int32} {k0 : Int32} {H : Heap} {locs : List Loc} {ls : Array Slot} : fX9_readFourth_147 rc117 t_size t_at t_fault t_newWide t_newHigh t_file t_fresh t_one l2 l3 l4 l5 l6 k0 = some (zt_at, zt_fault, zt_newWide, zt_newHigh, zt_fresh, zt_one) → va_P D vwCl (zwX9 cI h_t h_t_now h_t_file h_t_fresh h_t_colour h_t_table h_t_last h_t_one t_wide t_high t_size t_at t_fault t_newWide t_newHigh t_colours t_now t_file t_fresh t_colour t_table t_last t_one) H → va_D A (zwX9 cI h_t h_t_now h_t_file h_t_fresh h_t_colour h_t_table h_t_last h_t_one t_wide t_high t_size t_at t_fault t_newWide t_newHigh t_colours t_now t_file t_fresh t_colour t_table t_last t_one) → va_S A s.heap H locs → lv_has ls 12 [(0, .ref h_t), (1, .int l1), (2, .int l2), (3, .int l3), (4, .int l4), (5, .int l5), (6, .int l6)] → W p l e rmX9_readFourth s m args below meth c H locs 0 0 Q (F0 m 147 ls [.int k0]) := by
  intro hf hP hD hS hl
  obtain ⟨hx, hb, hml, hown, hts⟩ := id C
  unfold fX9_readFourth_147 at hf
  refine lv_istore (lv' := [(7, .int k0), (0, .ref h_t), (1, .int l1), (2, .int l2), (3, .int l3), (4, .int l4), (5, .int l5), (6, .int l6)]) hx hb dX9_readFourth_147 hl (by decide) rfl (fun ls hl => ?_)
  refine lv_iload hx hb dX9_readFourth_149 (lv_at hl 0 rfl) ?_
  refine lv_bipush (v := 127) hx hb dX9_readFourth_151 (by decide) ?_
  refine lv_icmp_le (tgt := 164) hx hb dX9_readFourth_153 (by decide) (fun c1 => ?_) (fun c1 => ?_)
  · replace hf := zif_t hf c1
    refine lv_iload hx hb dX9_readFourth_164 (lv_at hl 0 rfl) ?_
    refine lv_iconst (v := 1) hx hb dX9_readFourth_166 (by decide) ?_
    refine lv_iadd hx hb dX9_readFourth_167 ?_
    exact wX9_readFourth_168 C hN hK hA hE hr_117 hf hP hD hS (lv_sub hl [1, 2, 3, 4, 5, 6, 7, 0] rfl)
  · replace hf := zif_f hf c1
    refine lv_iload hx hb dX9_readFourth_156 (lv_at hl 0 rfl) ?_
    refine lv_bipush (v := 127) hx hb dX9_readFourth_158 (by decide) ?_
    refine lv_isub hx hb dX9_readFourth_160 ?_
    refine lv_goto (tgt := 168) hx hb dX9_readFourth_161 (by decide) ?_
    exact wX9_readFourth_168 C hN hK hA hE hr_117 hf hP hD hS (lv_sub hl [1, 2, 3, 4, 5, 6, 7, 0] rfl)
set_option maxHeartbeats 4000000 in
set_option maxRecDepth 100000 in
theorem wX9_readFourth_117 {p : Program} {l : Launch} {e : Env} {s : State} {m : MethodId} {args : Array Value} {below : List Frame} {meth : Method} {c : Code} {D : va_G} {A : Nat → Prop} {Q : State → Prop} {cI : ClassId} {h_t h_t_now h_t_file h_t_fresh h_t_colour h_t_table h_t_last h_t_one : Nat} {t_wide : Int32} {t_high : Int32} {t_size : Int32} {t_colours : Int32} {t_now : Nat → Int32} {t_file : Nat → Int32} {t_colour : Nat → Int32} {t_table : Nat → Int32} {t_last : Nat → Int32} {zt_at : Int32} {zt_fault : Int32} {zt_newWide : Int32} {zt_newHigh : Int32} {zt_fresh : Nat → Int32} {zt_one : Nat → Int32} (C : CallFix p m c cX9_readFourth 12 s args wsX9_readFourth RX9) (hN : zN s) (hK : va_K D vwCl [(cI, .int)] s) (hA : ∀ q, s.heap.size ≤ q → A q) (hE : zEv p l e rmX9_readFourth s m args below meth c cX9_readFourth D A Q (zwX9 cI h_t h_t_now h_t_file h_t_fresh h_t_colour h_t_table h_t_last h_t_one t_wide t_high t_size zt_at zt_fault zt_newWide zt_newHigh t_colours t_now t_file zt_fresh t_colour t_table t_last zt_one)) (n : Nat) : ∀ {t_at : Int32} {t_fault : Int32} {t_newWide : Int32} {t_newHigh : Int32} {t_fresh : Nat → Int32} {t_one : Nat → Int32} {l1 : Int32} {l2 : Int32} {l3 : Int32} {l4 : Int32} {l5 : Int32} {l6 : Int32} {H : Heap} {locs : List Loc} {ls : Array Slot}, fX9_readFourth_117 n t_size t_at t_fault t_newWide t_newHigh t_file t_fresh t_one l2 l3 l4 l5 l6 = some (zt_at, zt_fault, zt_newWide, zt_newHigh, zt_fresh, zt_one) → va_P D vwCl (zwX9 cI h_t h_t_now h_t_file h_t_fresh h_t_colour h_t_table h_t_last h_t_one t_wide t_high t_size t_at t_fault t_newWide t_newHigh t_colours t_now t_file t_fresh t_colour t_table t_last t_one) H → va_D A (zwX9 cI h_t h_t_now h_t_file h_t_fresh h_t_colour h_t_table h_t_last h_t_one t_wide t_high t_size t_at t_fault t_newWide t_newHigh t_colours t_now t_file t_fresh t_colour t_table t_last t_one) → va_S A s.heap H locs → lv_has ls 12 [(0, .ref h_t), (1, .int l1), (2, .int l2), (3, .int l3), (4, .int l4), (5, .int l5), (6, .int l6)] → W p l e rmX9_readFourth s m args below meth c H locs 0 0 Q (F0 m 117 ls []) := by
  obtain ⟨hx, hb, hml, hown, hts⟩ := id C
  induction n with
  | zero =>
    intro t_at t_fault t_newWide t_newHigh t_fresh t_one l1 l2 l3 l4 l5 l6 H locs ls hf
    cases hf
  | succ n hr_117 =>
    intro t_at t_fault t_newWide t_newHigh t_fresh t_one l1 l2 l3 l4 l5 l6 H locs ls hf hP hD hS hl
    rw [fX9_readFourth_117_s] at hf
    refine lv_aload_n hx hb dX9_readFourth_117 rfl (lv_at hl 0 rfl) ?_
    refine va_get (D := D) (ci := 8) (v := .int t_fault) (C := RX9) (T := TX9) (N := 15) hx hb hts iX9_readFourth_X9 hown hK hP 0 rfl rfl 6 (by decide) (kX9_readFourth_129 hts) (fun _ h9 => h9) rfl dX9_readFourth_118 ?_
    refine lv_if_ne (tgt := 324) hx hb dX9_readFourth_121 (by decide) (fun c1 => ?_) (fun c1 => ?_)
    · replace hf := zif_f hf c1
      cases hf
      exact hE _ _ _ _ dX9_readFourth_324 hP hD hS
    · replace hf := zif_t hf c1
      refine lv_iload hx hb dX9_readFourth_124 (lv_at hl 6 rfl) ?_
      refine lv_iload hx hb dX9_readFourth_126 (lv_at hl 5 rfl) ?_
      refine lv_icmp_ge (tgt := 324) hx hb dX9_readFourth_128 (by decide) (fun c2 => ?_) (fun c2 => ?_)
      · replace hf := zif_t hf c2
        cases hf
        exact hE _ _ _ _ dX9_readFourth_324 hP hD hS
      · replace hf := zif_f hf c2
        refine lv_iload_n hx hb dX9_readFourth_131 rfl (lv_at hl 2 rfl) ?_
        refine lv_bipush (v := 9) hx hb dX9_readFourth_132 (by decide) ?_
        refine lv_icmp_le (tgt := 144) hx hb dX9_readFourth_134 (by decide) (fun c3 => ?_) (fun c3 => ?_)
        · replace hf := zif_t hf c3
          refine lv_sipush (v := 128) hx hb dX9_readFourth_144 (by decide) ?_
          exact wX9_readFourth_147 C hN hK hA hE hr_117 hf hP hD hS (lv_sub hl [0, 1, 2, 3, 4, 5, 6] rfl)
        · replace hf := zif_f hf c3
          refine lv_aload_n hx hb dX9_readFourth_137 rfl (lv_at hl 0 rfl) ?_
          obtain ⟨r4, u5, u6, hc7, hf⟩ := zb3_in hf
          refine zc_i (va_runV (As := []) (rest := []) C (mX9_next l D cI H.size h_t h_t_now h_t_file h_t_fresh h_t_colour h_t_table h_t_last h_t_one t_wide t_high t_size t_at t_fault t_newWide t_newHigh t_colours t_now t_file t_fresh t_colour t_table t_last t_one r4 u5 u6 hc7) (qX9_readFourth_X9_next_135 hts) ⟨zP_blind, va_recv hK hP (ci := 8) (q0 := 0) rfl rfl, zpre hK hN hP hD [0, 1, 2, 3, 4, 5, 6, 7] rfl rfl⟩ rfl rfl hl.1 rfl (lv_room (Nat.le_of_ble_eq_true rfl)) dX9_readFourth_138 ⟨Nat.zero_le _, Nat.zero_le _⟩) hP hD hS hA [0, 1, 2, 3, 4, 5, 6, 7] [] [0, 1, 2, 3, 4, 5, 6, 7] (ws' := zwX9 cI h_t h_t_now h_t_file h_t_fresh h_t_colour h_t_table h_t_last h_t_one t_wide t_high t_size u5 u6 t_newWide t_newHigh t_colours t_now t_file t_fresh t_colour t_table t_last t_one) rfl rfl rfl rfl rfl rfl (fun H locs hP hD hS => ?_)
          refine lv_goto (tgt := 147) hx hb dX9_readFourth_141 (by decide) ?_
          exact wX9_readFourth_147 C hN hK hA hE hr_117 hf hP hD hS (lv_sub hl [0, 1, 2, 3, 4, 5, 6] rfl)
set_option maxHeartbeats 4000000 in
set_option maxRecDepth 100000 in
theorem wX9_readFourth_95 {p : Program} {l : Launch} {e : Env} {s : State} {m : MethodId} {args : Array Value} {below : List Frame} {meth : Method} {c : Code} {D : va_G} {A : Nat → Prop} {Q : State → Prop} {cI : ClassId} {h_t h_t_now h_t_file h_t_fresh h_t_colour h_t_table h_t_last h_t_one : Nat} {t_wide : Int32} {t_high : Int32} {t_size : Int32} {t_colours : Int32} {t_now : Nat → Int32} {t_file : Nat → Int32} {t_colour : Nat → Int32} {t_table : Nat → Int32} {t_last : Nat → Int32} {zt_at : Int32} {zt_fault : Int32} {zt_newWide : Int32} {zt_newHigh : Int32} {zt_fresh : Nat → Int32} {zt_one : Nat → Int32} (C : CallFix p m c cX9_readFourth 12 s args wsX9_readFourth RX9) (hN : zN s) (hK : va_K D vwCl [(cI, .int)] s) (hA : ∀ q, s.heap.size ≤ q → A q) (hE : zEv p l e rmX9_readFourth s m args below meth c cX9_readFourth D A Q (zwX9 cI h_t h_t_now h_t_file h_t_fresh h_t_colour h_t_table h_t_last h_t_one t_wide t_high t_size zt_at zt_fault zt_newWide zt_newHigh t_colours t_now t_file zt_fresh t_colour t_table t_last zt_one)) {t_at : Int32} {t_fault : Int32} {t_newWide : Int32} {t_newHigh : Int32} {t_fresh : Nat → Int32} {t_one : Nat → Int32} {l1 : Int32} {l2 : Int32} {l3 : Int32} {l4 : Int32} {k1 : Int32} {H : Heap} {locs : List Loc} {ls : Array Slot} : fX9_readFourth_95 t_size t_at t_fault t_newWide t_newHigh t_file t_fresh t_one l1 l2 l3 l4 k1 = some (zt_at, zt_fault, zt_newWide, zt_newHigh, zt_fresh, zt_one) → va_P D vwCl (zwX9 cI h_t h_t_now h_t_file h_t_fresh h_t_colour h_t_table h_t_last h_t_one t_wide t_high t_size t_at t_fault t_newWide t_newHigh t_colours t_now t_file t_fresh t_colour t_table t_last t_one) H → va_D A (zwX9 cI h_t h_t_now h_t_file h_t_fresh h_t_colour h_t_table h_t_last h_t_one t_wide t_high t_size t_at t_fault t_newWide t_newHigh t_colours t_now t_file t_fresh t_colour t_table t_last t_one) → va_S A s.heap H locs → lv_has ls 12 [(0, .ref h_t), (1, .int l1), (2, .int l2), (3, .int l3), (4, .int l4)] → W p l e rmX9_readFourth s m args below meth c H locs 0 0 Q (F0 m 95 ls [.int k1, .ref h_t]) := by
  intro hf hP hD hS hl
  obtain ⟨hx, hb, hml, hown, hts⟩ := id C
  unfold fX9_readFourth_95 at hf
  obtain ⟨u1, hc2, hf⟩ := zb1_in hf
  refine zc_v (va_runV (As := [.int k1]) (rest := []) C (mX9_broken l D cI H.size h_t h_t_now h_t_file h_t_fresh h_t_colour h_t_table h_t_last h_t_one t_wide t_high t_size t_at t_fault t_newWide t_newHigh t_colours t_now t_file t_fresh t_colour t_table t_last t_one k1 u1 hc2) (qX9_readFourth_X9_broken_139 hts) ⟨zP_blind, va_recv hK hP (ci := 8) (q0 := 0) rfl rfl, zpre hK hN hP hD [0, 1, 2, 3, 4, 5, 6, 7] rfl rfl⟩ rfl rfl hl.1 rfl (lv_room (Nat.le_of_ble_eq_true rfl)) dX9_readFourth_95 ⟨Nat.zero_le _, Nat.zero_le _⟩) hP hD hS hA [0, 1, 2, 3, 4, 5, 6, 7] [] [0, 1, 2, 3, 4, 5, 6, 7] (ws' := zwX9 cI h_t h_t_now h_t_file h_t_fresh h_t_colour h_t_table h_t_last h_t_one t_wide t_high t_size t_at u1 t_newWide t_newHigh t_colours t_now t_file t_fresh t_colour t_table t_last t_one) rfl rfl rfl rfl rfl rfl (fun H locs hP hD hS => ?_)
  refine lv_aload_n hx hb dX9_readFourth_98 rfl (lv_at hl 0 rfl) ?_
  refine lv_iload_n hx hb dX9_readFourth_99 rfl (lv_at hl 1 rfl) ?_
  obtain ⟨u3, u4, hc5, hf⟩ := zb2_in hf
  refine zc_v (va_runV (As := [.int l1]) (rest := []) C (mX9_skip l D cI H.size h_t h_t_now h_t_file h_t_fresh h_t_colour h_t_table h_t_last h_t_one t_wide t_high t_size t_at u1 t_newWide t_newHigh t_colours t_now t_file t_fresh t_colour t_table t_last t_one l1 u3 u4 hc5) (qX9_readFourth_X9_skip_152 hts) ⟨zP_blind, va_recv hK hP (ci := 8) (q0 := 0) rfl rfl, zpre hK hN hP hD [0, 1, 2, 3, 4, 5, 6, 7] rfl rfl⟩ rfl rfl hl.1 rfl (lv_room (Nat.le_of_ble_eq_true rfl)) dX9_readFourth_100 ⟨Nat.zero_le _, Nat.zero_le _⟩) hP hD hS hA [0, 1, 2, 3, 4, 5, 6, 7] [] [0, 1, 2, 3, 4, 5, 6, 7] (ws' := zwX9 cI h_t h_t_now h_t_file h_t_fresh h_t_colour h_t_table h_t_last h_t_one t_wide t_high t_size u3 u4 t_newWide t_newHigh t_colours t_now t_file t_fresh t_colour t_table t_last t_one) rfl rfl rfl rfl rfl rfl (fun H locs hP hD hS => ?_)
  refine lv_aload_n hx hb dX9_readFourth_103 rfl (lv_at hl 0 rfl) ?_
  refine va_get (D := D) (ci := 8) (v := .int t_newWide) (C := RX9) (T := TX9) (N := 15) hx hb hts iX9_readFourth_X9 hown hK hP 0 rfl rfl 7 (by decide) (kX9_readFourth_142 hts) (fun _ h9 => h9) rfl dX9_readFourth_104 ?_
  refine lv_aload_n hx hb dX9_readFourth_107 rfl (lv_at hl 0 rfl) ?_
  refine va_get (D := D) (ci := 8) (v := .int t_newHigh) (C := RX9) (T := TX9) (N := 15) hx hb hts iX9_readFourth_X9 hown hK hP 0 rfl rfl 8 (by decide) (kX9_readFourth_162 hts) (fun _ h9 => h9) rfl dX9_readFourth_108 ?_
  refine lv_imul hx hb dX9_readFourth_111 ?_
  refine lv_topi (fun x6 ex6 => ?_)
  replace hf := zlet_in hf ex6
  clear ex6
  refine lv_istore (lv' := [(5, .int x6), (0, .ref h_t), (1, .int l1), (2, .int l2), (3, .int l3), (4, .int l4)]) hx hb dX9_readFourth_112 hl (by decide) rfl (fun ls hl => ?_)
  refine lv_iconst (v := 0) hx hb dX9_readFourth_114 (by decide) ?_
  refine lv_istore (lv' := [(6, .int 0), (5, .int x6), (0, .ref h_t), (1, .int l1), (2, .int l2), (3, .int l3), (4, .int l4)]) hx hb dX9_readFourth_115 hl (by decide) rfl (fun ls hl => ?_)
  exact wX9_readFourth_117 C hN hK hA hE 1000 hf hP hD hS (lv_sub hl [2, 3, 4, 5, 6, 1, 0] rfl)
set_option maxHeartbeats 4000000 in
set_option maxRecDepth 100000 in
theorem wX9_readFourth_90 {p : Program} {l : Launch} {e : Env} {s : State} {m : MethodId} {args : Array Value} {below : List Frame} {meth : Method} {c : Code} {D : va_G} {A : Nat → Prop} {Q : State → Prop} {cI : ClassId} {h_t h_t_now h_t_file h_t_fresh h_t_colour h_t_table h_t_last h_t_one : Nat} {t_wide : Int32} {t_high : Int32} {t_size : Int32} {t_colours : Int32} {t_now : Nat → Int32} {t_file : Nat → Int32} {t_colour : Nat → Int32} {t_table : Nat → Int32} {t_last : Nat → Int32} {zt_at : Int32} {zt_fault : Int32} {zt_newWide : Int32} {zt_newHigh : Int32} {zt_fresh : Nat → Int32} {zt_one : Nat → Int32} (C : CallFix p m c cX9_readFourth 12 s args wsX9_readFourth RX9) (hN : zN s) (hK : va_K D vwCl [(cI, .int)] s) (hA : ∀ q, s.heap.size ≤ q → A q) (hE : zEv p l e rmX9_readFourth s m args below meth c cX9_readFourth D A Q (zwX9 cI h_t h_t_now h_t_file h_t_fresh h_t_colour h_t_table h_t_last h_t_one t_wide t_high t_size zt_at zt_fault zt_newWide zt_newHigh t_colours t_now t_file zt_fresh t_colour t_table t_last zt_one)) {t_at : Int32} {t_fault : Int32} {t_newWide : Int32} {t_newHigh : Int32} {t_fresh : Nat → Int32} {t_one : Nat → Int32} {l1 : Int32} {l2 : Int32} {l3 : Int32} {l4 : Int32} {H : Heap} {locs : List Loc} {ls : Array Slot} : fX9_readFourth_90 t_size t_at t_fault t_newWide t_newHigh t_file t_fresh t_one l1 l2 l3 l4 = some (zt_at, zt_fault, zt_newWide, zt_newHigh, zt_fresh, zt_one) → va_P D vwCl (zwX9 cI h_t h_t_now h_t_file h_t_fresh h_t_colour h_t_table h_t_last h_t_one t_wide t_high t_size t_at t_fault t_newWide t_newHigh t_colours t_now t_file t_fresh t_colour t_table t_last t_one) H → va_D A (zwX9 cI h_t h_t_now h_t_file h_t_fresh h_t_colour h_t_table h_t_last h_t_one t_wide t_high t_size t_at t_fault t_newWide t_newHigh t_colours t_now t_file t_fresh t_colour t_table t_last t_one) → va_S A s.heap H locs → lv_has ls 12 [(0, .ref h_t), (1, .int l1), (2, .int l2), (3, .int l3), (4, .int l4)] → W p l e rmX9_readFourth s m args below meth c H locs 0 0 Q (F0 m 90 ls [.ref h_t]) := by
  intro hf hP hD hS hl
  obtain ⟨hx, hb, hml, hown, hts⟩ := id C
  unfold fX9_readFourth_90 at hf
  refine lv_iconst (v := 1) hx hb dX9_readFourth_90 (by decide) ?_
  refine lv_goto (tgt := 95) hx hb dX9_readFourth_91 (by decide) ?_
  exact wX9_readFourth_95 C hN hK hA hE hf hP hD hS (lv_sub hl [0, 1, 2, 3, 4] rfl)
set_option maxHeartbeats 4000000 in
set_option maxRecDepth 100000 in
theorem wX9_readFourth_80 {p : Program} {l : Launch} {e : Env} {s : State} {m : MethodId} {args : Array Value} {below : List Frame} {meth : Method} {c : Code} {D : va_G} {A : Nat → Prop} {Q : State → Prop} {cI : ClassId} {h_t h_t_now h_t_file h_t_fresh h_t_colour h_t_table h_t_last h_t_one : Nat} {t_wide : Int32} {t_high : Int32} {t_size : Int32} {t_colours : Int32} {t_now : Nat → Int32} {t_file : Nat → Int32} {t_colour : Nat → Int32} {t_table : Nat → Int32} {t_last : Nat → Int32} {zt_at : Int32} {zt_fault : Int32} {zt_newWide : Int32} {zt_newHigh : Int32} {zt_fresh : Nat → Int32} {zt_one : Nat → Int32} (C : CallFix p m c cX9_readFourth 12 s args wsX9_readFourth RX9) (hN : zN s) (hK : va_K D vwCl [(cI, .int)] s) (hA : ∀ q, s.heap.size ≤ q → A q) (hE : zEv p l e rmX9_readFourth s m args below meth c cX9_readFourth D A Q (zwX9 cI h_t h_t_now h_t_file h_t_fresh h_t_colour h_t_table h_t_last h_t_one t_wide t_high t_size zt_at zt_fault zt_newWide zt_newHigh t_colours t_now t_file zt_fresh t_colour t_table t_last zt_one)) {t_at : Int32} {t_fault : Int32} {t_newWide : Int32} {t_newHigh : Int32} {t_fresh : Nat → Int32} {t_one : Nat → Int32} {l1 : Int32} {l2 : Int32} {l3 : Int32} {l4 : Int32} {k1 : Int32} {k2 : Int32} {H : Heap} {locs : List Loc} {ls : Array Slot} : fX9_readFourth_80 t_size t_at t_fault t_newWide t_newHigh t_file t_fresh t_one l1 l2 l3 l4 k1 k2 = some (zt_at, zt_fault, zt_newWide, zt_newHigh, zt_fresh, zt_one) → va_P D vwCl (zwX9 cI h_t h_t_now h_t_file h_t_fresh h_t_colour h_t_table h_t_last h_t_one t_wide t_high t_size t_at t_fault t_newWide t_newHigh t_colours t_now t_file t_fresh t_colour t_table t_last t_one) H → va_D A (zwX9 cI h_t h_t_now h_t_file h_t_fresh h_t_colour h_t_table h_t_last h_t_one t_wide t_high t_size t_at t_fault t_newWide t_newHigh t_colours t_now t_file t_fresh t_colour t_table t_last t_one) → va_S A s.heap H locs → lv_has ls 12 [(0, .ref h_t), (1, .int l1), (2, .int l2), (3, .int l3), (4, .int l4)] → W p l e rmX9_readFourth s m args below meth c H locs 0 0 Q (F0 m 80 ls [.int k2, .int k1, .ref h_t]) := by
  intro hf hP hD hS hl
  obtain ⟨hx, hb, hml, hown, hts⟩ := id C
  unfold fX9_readFourth_80 at hf
  refine lv_icmp_ne (tgt := 90) hx hb dX9_readFourth_80 (by decide) (fun c1 => ?_) (fun c1 => ?_)
  · replace hf := zif_f hf c1
    exact wX9_readFourth_90 C hN hK hA hE hf hP hD hS (lv_sub hl [0, 1, 2, 3, 4] rfl)
  · replace hf := zif_t hf c1
    refine lv_iload hx hb dX9_readFourth_83 (lv_at hl 4 rfl) ?_
    refine lv_bipush (v := 63) hx hb dX9_readFourth_85 (by decide) ?_
    refine lv_icmp_le (tgt := 94) hx hb dX9_readFourth_87 (by decide) (fun c2 => ?_) (fun c2 => ?_)
    · replace hf := zif_t hf c2
      refine lv_iconst (v := 0) hx hb dX9_readFourth_94 (by decide) ?_
      exact wX9_readFourth_95 C hN hK hA hE hf hP hD hS (lv_sub hl [0, 1, 2, 3, 4] rfl)
    · replace hf := zif_f hf c2
      exact wX9_readFourth_90 C hN hK hA hE hf hP hD hS (lv_sub hl [0, 1, 2, 3, 4] rfl)
set_option maxHeartbeats 4000000 in
set_option maxRecDepth 100000 in
theorem wX9_readFourth_0 {p : Program} {l : Launch} {e : Env} {s : State} {m : MethodId} {args : Array Value} {below : List Frame} {meth : Method} {c : Code} {D : va_G} {A : Nat → Prop} {Q : State → Prop} {cI : ClassId} {h_t h_t_now h_t_file h_t_fresh h_t_colour h_t_table h_t_last h_t_one : Nat} {t_wide : Int32} {t_high : Int32} {t_size : Int32} {t_colours : Int32} {t_now : Nat → Int32} {t_file : Nat → Int32} {t_colour : Nat → Int32} {t_table : Nat → Int32} {t_last : Nat → Int32} {zt_at : Int32} {zt_fault : Int32} {zt_newWide : Int32} {zt_newHigh : Int32} {zt_fresh : Nat → Int32} {zt_one : Nat → Int32} (C : CallFix p m c cX9_readFourth 12 s args wsX9_readFourth RX9) (hN : zN s) (hK : va_K D vwCl [(cI, .int)] s) (hA : ∀ q, s.heap.size ≤ q → A q) (hE : zEv p l e rmX9_readFourth s m args below meth c cX9_readFourth D A Q (zwX9 cI h_t h_t_now h_t_file h_t_fresh h_t_colour h_t_table h_t_last h_t_one t_wide t_high t_size zt_at zt_fault zt_newWide zt_newHigh t_colours t_now t_file zt_fresh t_colour t_table t_last zt_one)) {t_at : Int32} {t_fault : Int32} {t_newWide : Int32} {t_newHigh : Int32} {t_fresh : Nat → Int32} {t_one : Nat → Int32} {H : Heap} {locs : List Loc} {ls : Array Slot} : fX9_readFourth t_size t_at t_fault t_file t_fresh t_one = some (zt_at, zt_fault, zt_newWide, zt_newHigh, zt_fresh, zt_one) → va_P D vwCl (zwX9 cI h_t h_t_now h_t_file h_t_fresh h_t_colour h_t_table h_t_last h_t_one t_wide t_high t_size t_at t_fault t_newWide t_newHigh t_colours t_now t_file t_fresh t_colour t_table t_last t_one) H → va_D A (zwX9 cI h_t h_t_now h_t_file h_t_fresh h_t_colour h_t_table h_t_last h_t_one t_wide t_high t_size t_at t_fault t_newWide t_newHigh t_colours t_now t_file t_fresh t_colour t_table t_last t_one) → va_S A s.heap H locs → lv_has ls 12 [(0, .ref h_t)] → W p l e rmX9_readFourth s m args below meth c H locs 0 0 Q (F0 m 0 ls []) := by
  intro hf hP hD hS hl
  obtain ⟨hx, hb, hml, hown, hts⟩ := id C
  unfold fX9_readFourth at hf
  refine lv_aload_n hx hb dX9_readFourth_0 rfl (lv_at hl 0 rfl) ?_
  obtain ⟨r1, u2, u3, hc4, hf⟩ := zb3_in hf
  refine zc_i (va_runV (As := []) (rest := []) C (mX9_next l D cI H.size h_t h_t_now h_t_file h_t_fresh h_t_colour h_t_table h_t_last h_t_one t_wide t_high t_size t_at t_fault t_newWide t_newHigh t_colours t_now t_file t_fresh t_colour t_table t_last t_one r1 u2 u3 hc4) (qX9_readFourth_X9_next_135 hts) ⟨zP_blind, va_recv hK hP (ci := 8) (q0 := 0) rfl rfl, zpre hK hN hP hD [0, 1, 2, 3, 4, 5, 6, 7] rfl rfl⟩ rfl rfl hl.1 rfl (lv_room (Nat.le_of_ble_eq_true rfl)) dX9_readFourth_1 ⟨Nat.zero_le _, Nat.zero_le _⟩) hP hD hS hA [0, 1, 2, 3, 4, 5, 6, 7] [] [0, 1, 2, 3, 4, 5, 6, 7] (ws' := zwX9 cI h_t h_t_now h_t_file h_t_fresh h_t_colour h_t_table h_t_last h_t_one t_wide t_high t_size u2 u3 t_newWide t_newHigh t_colours t_now t_file t_fresh t_colour t_table t_last t_one) rfl rfl rfl rfl rfl rfl (fun H locs hP hD hS => ?_)
  refine lv_istore_n (lv' := [(1, .int r1), (0, .ref h_t)]) hx hb dX9_readFourth_4 rfl hl (by decide) rfl (fun ls hl => ?_)
  refine lv_aload_n hx hb dX9_readFourth_5 rfl (lv_at hl 1 rfl) ?_
  obtain ⟨r5, u6, u7, hc8, hf⟩ := zb3_in hf
  refine zc_i (va_runV (As := []) (rest := []) C (mX9_next l D cI H.size h_t h_t_now h_t_file h_t_fresh h_t_colour h_t_table h_t_last h_t_one t_wide t_high t_size u2 u3 t_newWide t_newHigh t_colours t_now t_file t_fresh t_colour t_table t_last t_one r5 u6 u7 hc8) (qX9_readFourth_X9_next_135 hts) ⟨zP_blind, va_recv hK hP (ci := 8) (q0 := 0) rfl rfl, zpre hK hN hP hD [0, 1, 2, 3, 4, 5, 6, 7] rfl rfl⟩ rfl rfl hl.1 rfl (lv_room (Nat.le_of_ble_eq_true rfl)) dX9_readFourth_6 ⟨Nat.zero_le _, Nat.zero_le _⟩) hP hD hS hA [0, 1, 2, 3, 4, 5, 6, 7] [] [0, 1, 2, 3, 4, 5, 6, 7] (ws' := zwX9 cI h_t h_t_now h_t_file h_t_fresh h_t_colour h_t_table h_t_last h_t_one t_wide t_high t_size u6 u7 t_newWide t_newHigh t_colours t_now t_file t_fresh t_colour t_table t_last t_one) rfl rfl rfl rfl rfl rfl (fun H locs hP hD hS => ?_)
  refine lv_pop hx hb dX9_readFourth_9 rfl ?_
  refine lv_aload_n hx hb dX9_readFourth_10 rfl (lv_at hl 1 rfl) ?_
  obtain ⟨r9, u10, u11, hc12, hf⟩ := zb3_in hf
  refine zc_i (va_runV (As := []) (rest := []) C (mX9_next l D cI H.size h_t h_t_now h_t_file h_t_fresh h_t_colour h_t_table h_t_last h_t_one t_wide t_high t_size u6 u7 t_newWide t_newHigh t_colours t_now t_file t_fresh t_colour t_table t_last t_one r9 u10 u11 hc12) (qX9_readFourth_X9_next_135 hts) ⟨zP_blind, va_recv hK hP (ci := 8) (q0 := 0) rfl rfl, zpre hK hN hP hD [0, 1, 2, 3, 4, 5, 6, 7] rfl rfl⟩ rfl rfl hl.1 rfl (lv_room (Nat.le_of_ble_eq_true rfl)) dX9_readFourth_11 ⟨Nat.zero_le _, Nat.zero_le _⟩) hP hD hS hA [0, 1, 2, 3, 4, 5, 6, 7] [] [0, 1, 2, 3, 4, 5, 6, 7] (ws' := zwX9 cI h_t h_t_now h_t_file h_t_fresh h_t_colour h_t_table h_t_last h_t_one t_wide t_high t_size u10 u11 t_newWide t_newHigh t_colours t_now t_file t_fresh t_colour t_table t_last t_one) rfl rfl rfl rfl rfl rfl (fun H locs hP hD hS => ?_)
  refine lv_istore_n (lv' := [(2, .int r9), (1, .int r1), (0, .ref h_t)]) hx hb dX9_readFourth_14 rfl hl (by decide) rfl (fun ls hl => ?_)
  refine lv_aload_n hx hb dX9_readFourth_15 rfl (lv_at hl 2 rfl) ?_
  refine lv_bipush (v := 9) hx hb dX9_readFourth_16 (by decide) ?_
  obtain ⟨u13, u14, hc15, hf⟩ := zb2_in hf
  refine zc_v (va_runV (As := [.int 9]) (rest := []) C (mX9_skip l D cI H.size h_t h_t_now h_t_file h_t_fresh h_t_colour h_t_table h_t_last h_t_one t_wide t_high t_size u10 u11 t_newWide t_newHigh t_colours t_now t_file t_fresh t_colour t_table t_last t_one 9 u13 u14 hc15) (qX9_readFourth_X9_skip_152 hts) ⟨zP_blind, va_recv hK hP (ci := 8) (q0 := 0) rfl rfl, zpre hK hN hP hD [0, 1, 2, 3, 4, 5, 6, 7] rfl rfl⟩ rfl rfl hl.1 rfl (lv_room (Nat.le_of_ble_eq_true rfl)) dX9_readFourth_18 ⟨Nat.zero_le _, Nat.zero_le _⟩) hP hD hS hA [0, 1, 2, 3, 4, 5, 6, 7] [] [0, 1, 2, 3, 4, 5, 6, 7] (ws' := zwX9 cI h_t h_t_now h_t_file h_t_fresh h_t_colour h_t_table h_t_last h_t_one t_wide t_high t_size u13 u14 t_newWide t_newHigh t_colours t_now t_file t_fresh t_colour t_table t_last t_one) rfl rfl rfl rfl rfl rfl (fun H locs hP hD hS => ?_)
  refine lv_aload_n hx hb dX9_readFourth_21 rfl (lv_at hl 2 rfl) ?_
  refine lv_aload_n hx hb dX9_readFourth_22 rfl (lv_at hl 2 rfl) ?_
  refine lv_aload_n hx hb dX9_readFourth_23 rfl (lv_at hl 2 rfl) ?_
  refine lv_iconst (v := 2) hx hb dX9_readFourth_24 (by decide) ?_
  refine lv_iconst (v := 0) hx hb dX9_readFourth_25 (by decide) ?_
  obtain ⟨r16, u17, u18, hc19, hf⟩ := zb3_in hf
  refine zc_i (va_runV (As := [.int 2, .int 0]) (rest := [.ref h_t, .ref h_t]) C (mX9_number l D cI H.size h_t h_t_now h_t_file h_t_fresh h_t_colour h_t_table h_t_last h_t_one t_wide t_high t_size u13 u14 t_newWide t_newHigh t_colours t_now t_file t_fresh t_colour t_table t_last t_one 2 0 r16 u17 u18 hc19) (qX9_readFourth_X9_number_155 hts) ⟨zP_blind, va_recv hK hP (ci := 8) (q0 := 0) rfl rfl, zpre hK hN hP hD [0, 1, 2, 3, 4, 5, 6, 7] rfl rfl⟩ rfl rfl hl.1 rfl (lv_room (Nat.le_of_ble_eq_true rfl)) dX9_readFourth_26 ⟨Nat.zero_le _, Nat.zero_le _⟩) hP hD hS hA [0, 1, 2, 3, 4, 5, 6, 7] [] [0, 1, 2, 3, 4, 5, 6, 7] (ws' := zwX9 cI h_t h_t_now h_t_file h_t_fresh h_t_colour h_t_table h_t_last h_t_one t_wide t_high t_size u17 u18 t_newWide t_newHigh t_colours t_now t_file t_fresh t_colour t_table t_last t_one) rfl rfl rfl rfl rfl rfl (fun H locs hP hD hS => ?_)
  obtain ⟨r20, u21, hc22, hf⟩ := zb2_in hf
  refine zc_i (va_runV (As := [.int r16]) (rest := [.ref h_t]) C (mX9_sideOf l D cI H.size h_t h_t_now h_t_file h_t_fresh h_t_colour h_t_table h_t_last h_t_one t_wide t_high t_size u17 u18 t_newWide t_newHigh t_colours t_now t_file t_fresh t_colour t_table t_last t_one r16 r20 u21 hc22) (qX9_readFourth_X9_sideOf_159 hts) ⟨zP_blind, va_recv hK hP (ci := 8) (q0 := 0) rfl rfl, zpre hK hN hP hD [0, 1, 2, 3, 4, 5, 6, 7] rfl rfl⟩ rfl rfl hl.1 rfl (lv_room (Nat.le_of_ble_eq_true rfl)) dX9_readFourth_29 ⟨Nat.zero_le _, Nat.zero_le _⟩) hP hD hS hA [0, 1, 2, 3, 4, 5, 6, 7] [] [0, 1, 2, 3, 4, 5, 6, 7] (ws' := zwX9 cI h_t h_t_now h_t_file h_t_fresh h_t_colour h_t_table h_t_last h_t_one t_wide t_high t_size u17 u21 t_newWide t_newHigh t_colours t_now t_file t_fresh t_colour t_table t_last t_one) rfl rfl rfl rfl rfl rfl (fun H locs hP hD hS => ?_)
  refine va_put (D := D) (ci := 8) (v := .int r20) (ty := .int) (C := RX9) (T := TX9) (N := 15) hx hb hts iX9_readFourth_X9 tyX9 tyX9_ok nmX9 hown hK hP hD hS 0 rfl rfl 7 (by decide) (kX9_readFourth_142 hts) (fun _ h9 => h9) rfl (by decide +kernel) rfl rfl (Nat.le_of_ble_eq_true rfl) dX9_readFourth_32 (fun H locs hP hD hS => ?_)
  replace hP : va_P D vwCl (zwX9 cI h_t h_t_now h_t_file h_t_fresh h_t_colour h_t_table h_t_last h_t_one t_wide t_high t_size u17 u21 r20 t_newHigh t_colours t_now t_file t_fresh t_colour t_table t_last t_one) H := hP
  replace hD : va_D A (zwX9 cI h_t h_t_now h_t_file h_t_fresh h_t_colour h_t_table h_t_last h_t_one t_wide t_high t_size u17 u21 r20 t_newHigh t_colours t_now t_file t_fresh t_colour t_table t_last t_one) := hD
  refine lv_aload_n hx hb dX9_readFourth_35 rfl (lv_at hl 2 rfl) ?_
  refine lv_aload_n hx hb dX9_readFourth_36 rfl (lv_at hl 2 rfl) ?_
  refine lv_aload_n hx hb dX9_readFourth_37 rfl (lv_at hl 2 rfl) ?_
  refine lv_iconst (v := 2) hx hb dX9_readFourth_38 (by decide) ?_
  refine lv_iconst (v := 0) hx hb dX9_readFourth_39 (by decide) ?_
  obtain ⟨r23, u24, u25, hc26, hf⟩ := zb3_in hf
  refine zc_i (va_runV (As := [.int 2, .int 0]) (rest := [.ref h_t, .ref h_t]) C (mX9_number l D cI H.size h_t h_t_now h_t_file h_t_fresh h_t_colour h_t_table h_t_last h_t_one t_wide t_high t_size u17 u21 r20 t_newHigh t_colours t_now t_file t_fresh t_colour t_table t_last t_one 2 0 r23 u24 u25 hc26) (qX9_readFourth_X9_number_155 hts) ⟨zP_blind, va_recv hK hP (ci := 8) (q0 := 0) rfl rfl, zpre hK hN hP hD [0, 1, 2, 3, 4, 5, 6, 7] rfl rfl⟩ rfl rfl hl.1 rfl (lv_room (Nat.le_of_ble_eq_true rfl)) dX9_readFourth_40 ⟨Nat.zero_le _, Nat.zero_le _⟩) hP hD hS hA [0, 1, 2, 3, 4, 5, 6, 7] [] [0, 1, 2, 3, 4, 5, 6, 7] (ws' := zwX9 cI h_t h_t_now h_t_file h_t_fresh h_t_colour h_t_table h_t_last h_t_one t_wide t_high t_size u24 u25 r20 t_newHigh t_colours t_now t_file t_fresh t_colour t_table t_last t_one) rfl rfl rfl rfl rfl rfl (fun H locs hP hD hS => ?_)
  obtain ⟨r27, u28, hc29, hf⟩ := zb2_in hf
  refine zc_i (va_runV (As := [.int r23]) (rest := [.ref h_t]) C (mX9_sideOf l D cI H.size h_t h_t_now h_t_file h_t_fresh h_t_colour h_t_table h_t_last h_t_one t_wide t_high t_size u24 u25 r20 t_newHigh t_colours t_now t_file t_fresh t_colour t_table t_last t_one r23 r27 u28 hc29) (qX9_readFourth_X9_sideOf_159 hts) ⟨zP_blind, va_recv hK hP (ci := 8) (q0 := 0) rfl rfl, zpre hK hN hP hD [0, 1, 2, 3, 4, 5, 6, 7] rfl rfl⟩ rfl rfl hl.1 rfl (lv_room (Nat.le_of_ble_eq_true rfl)) dX9_readFourth_43 ⟨Nat.zero_le _, Nat.zero_le _⟩) hP hD hS hA [0, 1, 2, 3, 4, 5, 6, 7] [] [0, 1, 2, 3, 4, 5, 6, 7] (ws' := zwX9 cI h_t h_t_now h_t_file h_t_fresh h_t_colour h_t_table h_t_last h_t_one t_wide t_high t_size u24 u28 r20 t_newHigh t_colours t_now t_file t_fresh t_colour t_table t_last t_one) rfl rfl rfl rfl rfl rfl (fun H locs hP hD hS => ?_)
  refine va_put (D := D) (ci := 8) (v := .int r27) (ty := .int) (C := RX9) (T := TX9) (N := 15) hx hb hts iX9_readFourth_X9 tyX9 tyX9_ok nmX9 hown hK hP hD hS 0 rfl rfl 8 (by decide) (kX9_readFourth_162 hts) (fun _ h9 => h9) rfl (by decide +kernel) rfl rfl (Nat.le_of_ble_eq_true rfl) dX9_readFourth_46 (fun H locs hP hD hS => ?_)
  replace hP : va_P D vwCl (zwX9 cI h_t h_t_now h_t_file h_t_fresh h_t_colour h_t_table h_t_last h_t_one t_wide t_high t_size u24 u28 r20 r27 t_colours t_now t_file t_fresh t_colour t_table t_last t_one) H := hP
  replace hD : va_D A (zwX9 cI h_t h_t_now h_t_file h_t_fresh h_t_colour h_t_table h_t_last h_t_one t_wide t_high t_size u24 u28 r20 r27 t_colours t_now t_file t_fresh t_colour t_table t_last t_one) := hD
  refine lv_aload_n hx hb dX9_readFourth_49 rfl (lv_at hl 2 rfl) ?_
  obtain ⟨r30, u31, u32, hc33, hf⟩ := zb3_in hf
  refine zc_i (va_runV (As := []) (rest := []) C (mX9_next l D cI H.size h_t h_t_now h_t_file h_t_fresh h_t_colour h_t_table h_t_last h_t_one t_wide t_high t_size u24 u28 r20 r27 t_colours t_now t_file t_fresh t_colour t_table t_last t_one r30 u31 u32 hc33) (qX9_readFourth_X9_next_135 hts) ⟨zP_blind, va_recv hK hP (ci := 8) (q0 := 0) rfl rfl, zpre hK hN hP hD [0, 1, 2, 3, 4, 5, 6, 7] rfl rfl⟩ rfl rfl hl.1 rfl (lv_room (Nat.le_of_ble_eq_true rfl)) dX9_readFourth_50 ⟨Nat.zero_le _, Nat.zero_le _⟩) hP hD hS hA [0, 1, 2, 3, 4, 5, 6, 7] [] [0, 1, 2, 3, 4, 5, 6, 7] (ws' := zwX9 cI h_t h_t_now h_t_file h_t_fresh h_t_colour h_t_table h_t_last h_t_one t_wide t_high t_size u31 u32 r20 r27 t_colours t_now t_file t_fresh t_colour t_table t_last t_one) rfl rfl rfl rfl rfl rfl (fun H locs hP hD hS => ?_)
  refine lv_bipush (v := 8) hx hb dX9_readFourth_53 (by decide) ?_
  refine lv_idiv hx hb dX9_readFourth_55 (by decide) ?_
  refine lv_topi (fun x34 ex34 => ?_)
  replace hf := zlet_in hf ex34
  clear ex34
  refine lv_istore_n (lv' := [(3, .int x34), (2, .int r9), (1, .int r1), (0, .ref h_t)]) hx hb dX9_readFourth_56 rfl hl (by decide) rfl (fun ls hl => ?_)
  refine lv_aload_n hx hb dX9_readFourth_57 rfl (lv_at hl 3 rfl) ?_
  obtain ⟨r35, u36, u37, hc38, hf⟩ := zb3_in hf
  refine zc_i (va_runV (As := []) (rest := []) C (mX9_next l D cI H.size h_t h_t_now h_t_file h_t_fresh h_t_colour h_t_table h_t_last h_t_one t_wide t_high t_size u31 u32 r20 r27 t_colours t_now t_file t_fresh t_colour t_table t_last t_one r35 u36 u37 hc38) (qX9_readFourth_X9_next_135 hts) ⟨zP_blind, va_recv hK hP (ci := 8) (q0 := 0) rfl rfl, zpre hK hN hP hD [0, 1, 2, 3, 4, 5, 6, 7] rfl rfl⟩ rfl rfl hl.1 rfl (lv_room (Nat.le_of_ble_eq_true rfl)) dX9_readFourth_58 ⟨Nat.zero_le _, Nat.zero_le _⟩) hP hD hS hA [0, 1, 2, 3, 4, 5, 6, 7] [] [0, 1, 2, 3, 4, 5, 6, 7] (ws' := zwX9 cI h_t h_t_now h_t_file h_t_fresh h_t_colour h_t_table h_t_last h_t_one t_wide t_high t_size u36 u37 r20 r27 t_colours t_now t_file t_fresh t_colour t_table t_last t_one) rfl rfl rfl rfl rfl rfl (fun H locs hP hD hS => ?_)
  refine lv_istore (lv' := [(4, .int r35), (3, .int x34), (2, .int r9), (1, .int r1), (0, .ref h_t)]) hx hb dX9_readFourth_61 hl (by decide) rfl (fun ls hl => ?_)
  refine lv_aload_n hx hb dX9_readFourth_63 rfl (lv_at hl 4 rfl) ?_
  refine lv_iload hx hb dX9_readFourth_64 (lv_at hl 0 rfl) ?_
  refine lv_bipush (v := 16) hx hb dX9_readFourth_66 (by decide) ?_
  refine lv_irem hx hb dX9_readFourth_68 (by decide) ?_
  refine lv_iload_n hx hb dX9_readFourth_69 rfl (lv_at hl 1 rfl) ?_
  refine lv_iconst (v := 4) hx hb dX9_readFourth_70 (by decide) ?_
  refine lv_icmp_ne (tgt := 79) hx hb dX9_readFourth_71 (by decide) (fun c39 => ?_) (fun c39 => ?_)
  · replace hf := zif_f hf c39
    refine lv_iconst (v := 0) hx hb dX9_readFourth_79 (by decide) ?_
    exact wX9_readFourth_80 C hN hK hA hE hf hP hD hS (lv_sub hl [4, 3, 2, 1, 0] rfl)
  · replace hf := zif_t hf c39
    refine lv_bipush (v := 8) hx hb dX9_readFourth_74 (by decide) ?_
    refine lv_goto (tgt := 80) hx hb dX9_readFourth_76 (by decide) ?_
    exact wX9_readFourth_80 C hN hK hA hE hf hP hD hS (lv_sub hl [4, 3, 2, 1, 0] rfl)
set_option maxHeartbeats 4000000 in
set_option maxRecDepth 100000 in
theorem mX9_readFourth (l : Launch) (D : va_G) (cI : ClassId) (sz : Nat) (h_t h_t_now h_t_file h_t_fresh h_t_colour h_t_table h_t_last h_t_one : Nat) (t_wide : Int32) (t_high : Int32) (t_size : Int32) (t_at : Int32) (t_fault : Int32) (t_newWide : Int32) (t_newHigh : Int32) (t_colours : Int32) (t_now : Nat → Int32) (t_file : Nat → Int32) (t_fresh : Nat → Int32) (t_colour : Nat → Int32) (t_table : Nat → Int32) (t_last : Nat → Int32) (t_one : Nat → Int32) (zt_at : Int32) (zt_fault : Int32) (zt_newWide : Int32) (zt_newHigh : Int32) (zt_fresh : Nat → Int32) (zt_one : Nat → Int32) (hf : fX9_readFourth t_size t_at t_fault t_file t_fresh t_one = some (zt_at, zt_fault, zt_newWide, zt_newHigh, zt_fresh, zt_one)) : Met l yX9_readFourth wsX9_readFourth rmX9_readFourth (va_Pc [.ref h_t] (zP D [(cI, .int)] (zwX9 cI h_t h_t_now h_t_file h_t_fresh h_t_colour h_t_table h_t_last h_t_one t_wide t_high t_size t_at t_fault t_newWide t_newHigh t_colours t_now t_file t_fresh t_colour t_table t_last t_one) sz)) (zQv D (zwX9 cI h_t h_t_now h_t_file h_t_fresh h_t_colour h_t_table h_t_last h_t_one t_wide t_high t_size t_at t_fault t_newWide t_newHigh t_colours t_now t_file t_fresh t_colour t_table t_last t_one) sz (zwX9 cI h_t h_t_now h_t_file h_t_fresh h_t_colour h_t_table h_t_last h_t_one t_wide t_high t_size zt_at zt_fault zt_newWide zt_newHigh t_colours t_now t_file zt_fresh t_colour t_table t_last zt_one)) 0 0 (va_A (zwX9 cI h_t h_t_now h_t_file h_t_fresh h_t_colour h_t_table h_t_last h_t_one t_wide t_high t_size t_at t_fault t_newWide t_newHigh t_colours t_now t_file t_fresh t_colour t_table t_last t_one) sz) := by
  refine Met.ofW (cc := cX9_readFourth) (maxL := 12) (ret := none) (by decide) rfl ?_
  intro p e s m args below meth c s₁ B hml hv
  obtain ⟨rfl, hsz, hP, hK, hD0, hN⟩ := hv
  subst hsz
  have C : CallFix p m c cX9_readFourth 12 s [.ref h_t].toArray wsX9_readFourth RX9 := ⟨B.exec, B.bytes, hml, findClass_of_methodNamed B.named, atoms_spec (ws := wsX9_readFourth) B.pre⟩
  have hl := lv_entry ([.ref h_t]) (n := 12) (Nat.le_of_ble_eq_true rfl)
  rw [lg_entry_eq]
  exact wX9_readFourth_0 (A := va_A (zwX9 cI h_t h_t_now h_t_file h_t_fresh h_t_colour h_t_table h_t_last h_t_one t_wide t_high t_size t_at t_fault t_newWide t_newHigh t_colours t_now t_file t_fresh t_colour t_table t_last t_one) s.heap.size) C hN hK (fun q h => Or.inr h) (fun H locs pc ls d hP hD hS => zend_v C.1 C.2.1 B.returns B.notSynchronized d hP hD hS) hf hP hD0.self va_S.rf hl
def rmX9_decode : Room := { frames := 5, cells := 0, slots := 0, locals := 121 }
theorem kX9_decode_7 {args : Array Value} {s : State} (h : ∀ w ∈ wsX9_decode, w.before args s = true) : (Cond.fieldLink RX9 7 "FourPictureFilesModel" "wide" "I").before args s = true := h _ (by decide +kernel)
theorem kX9_decode_13 {args : Array Value} {s : State} (h : ∀ w ∈ wsX9_decode, w.before args s = true) : (Cond.fieldLink RX9 13 "FourPictureFilesModel" "high" "I").before args s = true := h _ (by decide +kernel)
theorem kX9_decode_129 {args : Array Value} {s : State} (h : ∀ w ∈ wsX9_decode, w.before args s = true) : (Cond.fieldLink RX9 129 "FourPictureFilesModel" "fault" "I").before args s = true := h _ (by decide +kernel)
theorem kX9_decode_132 {args : Array Value} {s : State} (h : ∀ w ∈ wsX9_decode, w.before args s = true) : (Cond.fieldLink RX9 132 "FourPictureFilesModel" "at" "I").before args s = true := h _ (by decide +kernel)
theorem kX9_decode_142 {args : Array Value} {s : State} (h : ∀ w ∈ wsX9_decode, w.before args s = true) : (Cond.fieldLink RX9 142 "FourPictureFilesModel" "newWide" "I").before args s = true := h _ (by decide +kernel)
theorem kX9_decode_162 {args : Array Value} {s : State} (h : ∀ w ∈ wsX9_decode, w.before args s = true) : (Cond.fieldLink RX9 162 "FourPictureFilesModel" "newHigh" "I").before args s = true := h _ (by decide +kernel)
theorem iX9_decode_X9 : ∀ w ∈ u_ws RX9 TX9 15, w ∈ wsX9_decode := by decide +kernel
theorem qX9_decode_X9_copyBack_46 {args : Array Value} {s : State} (hts : ∀ w ∈ wsX9_decode, w.before args s = true) : CallW rmX9_decode s args RX9 RX9 46 yX9_copyBack cX9_copyBack 2 none wsX9_copyBack rmX9_copyBack 0 0 0 := cwV 0 hts gX9_decode_X9_copyBack rfl rfl rfl (by decide +kernel) ⟨Nat.le_of_ble_eq_true rfl, Nat.le_of_ble_eq_true rfl⟩
theorem qX9_decode_X9_readFirst_208 {args : Array Value} {s : State} (hts : ∀ w ∈ wsX9_decode, w.before args s = true) : CallW rmX9_decode s args RX9 RX9 208 yX9_readFirst cX9_readFirst 6 none wsX9_readFirst rmX9_readFirst 0 0 0 := cwV 0 hts gX9_decode_X9_readFirst rfl rfl rfl (by decide +kernel) ⟨Nat.le_of_ble_eq_true rfl, Nat.le_of_ble_eq_true rfl⟩
theorem qX9_decode_X9_readFourth_217 {args : Array Value} {s : State} (hts : ∀ w ∈ wsX9_decode, w.before args s = true) : CallW rmX9_decode s args RX9 RX9 217 yX9_readFourth cX9_readFourth 12 none wsX9_readFourth rmX9_readFourth 0 0 0 := cwV 0 hts gX9_decode_X9_readFourth rfl rfl rfl (by decide +kernel) ⟨Nat.le_of_ble_eq_true rfl, Nat.le_of_ble_eq_true rfl⟩
theorem qX9_decode_X9_readSecond_211 {args : Array Value} {s : State} (hts : ∀ w ∈ wsX9_decode, w.before args s = true) : CallW rmX9_decode s args RX9 RX9 211 yX9_readSecond cX9_readSecond 8 none wsX9_readSecond rmX9_readSecond 0 0 0 := cwV 0 hts gX9_decode_X9_readSecond rfl rfl rfl (by decide +kernel) ⟨Nat.le_of_ble_eq_true rfl, Nat.le_of_ble_eq_true rfl⟩
theorem qX9_decode_X9_readThird_214 {args : Array Value} {s : State} (hts : ∀ w ∈ wsX9_decode, w.before args s = true) : CallW rmX9_decode s args RX9 RX9 214 yX9_readThird cX9_readThird 7 none wsX9_readThird rmX9_readThird 0 0 0 := cwV 0 hts gX9_decode_X9_readThird rfl rfl rfl (by decide +kernel) ⟨Nat.le_of_ble_eq_true rfl, Nat.le_of_ble_eq_true rfl⟩
theorem qX9_decode_X9_sniff_205 {args : Array Value} {s : State} (hts : ∀ w ∈ wsX9_decode, w.before args s = true) : CallW rmX9_decode s args RX9 RX9 205 yX9_sniff cX9_sniff 3 (some .int) wsX9_sniff rmX9_sniff 0 0 0 := cwV 0 hts gX9_decode_X9_sniff rfl rfl rfl (by decide +kernel) ⟨Nat.le_of_ble_eq_true rfl, Nat.le_of_ble_eq_true rfl⟩
set_option maxHeartbeats 4000000 in
set_option maxRecDepth 100000 in
theorem wX9_decode_60 {p : Program} {l : Launch} {e : Env} {s : State} {m : MethodId} {args : Array Value} {below : List Frame} {meth : Method} {c : Code} {D : va_G} {A : Nat → Prop} {Q : State → Prop} {cI : ClassId} {h_t h_t_now h_t_file h_t_fresh h_t_colour h_t_table h_t_last h_t_one : Nat} {t_size : Int32} {t_file : Nat → Int32} {r0 : Int32} {zt_wide : Int32} {zt_high : Int32} {zt_at : Int32} {zt_fault : Int32} {zt_newWide : Int32} {zt_newHigh : Int32} {zt_colours : Int32} {zt_now : Nat → Int32} {zt_fresh : Nat → Int32} {zt_colour : Nat → Int32} {zt_table : Nat → Int32} {zt_last : Nat → Int32} {zt_one : Nat → Int32} (C : CallFix p m c cX9_decode 2 s args wsX9_decode RX9) (hN : zN s) (hK : va_K D vwCl [(cI, .int)] s) (hA : ∀ q, s.heap.size ≤ q → A q) (hE : zEi p l e rmX9_decode s m args below meth c cX9_decode D A Q (zwX9 cI h_t h_t_now h_t_file h_t_fresh h_t_colour h_t_table h_t_last h_t_one zt_wide zt_high t_size zt_at zt_fault zt_newWide zt_newHigh zt_colours zt_now t_file zt_fresh zt_colour zt_table zt_last zt_one) r0) {t_wide : Int32} {t_high : Int32} {t_at : Int32} {t_fault : Int32} {t_newWide : Int32} {t_newHigh : Int32} {t_colours : Int32} {t_now : Nat → Int32} {t_fresh : Nat → Int32} {t_colour : Nat → Int32} {t_table : Nat → Int32} {t_last : Nat → Int32} {t_one : Nat → Int32} {l1 : Int32} {H : Heap} {locs : List Loc} {ls : Array Slot} : fX9_decode_60 t_wide t_high t_at t_fault t_newWide t_newHigh t_colours t_now t_fresh t_colour t_table t_last t_one l1 = some (r0, zt_wide, zt_high, zt_at, zt_fault, zt_newWide, zt_newHigh, zt_colours, zt_now, zt_fresh, zt_colour, zt_table, zt_last, zt_one) → va_P D vwCl (zwX9 cI h_t h_t_now h_t_file h_t_fresh h_t_colour h_t_table h_t_last h_t_one t_wide t_high t_size t_at t_fault t_newWide t_newHigh t_colours t_now t_file t_fresh t_colour t_table t_last t_one) H → va_D A (zwX9 cI h_t h_t_now h_t_file h_t_fresh h_t_colour h_t_table h_t_last h_t_one t_wide t_high t_size t_at t_fault t_newWide t_newHigh t_colours t_now t_file t_fresh t_colour t_table t_last t_one) → va_S A s.heap H locs → lv_has ls 2 [(0, .ref h_t), (1, .int l1)] → W p l e rmX9_decode s m args below meth c H locs 0 0 Q (F0 m 60 ls []) := by
  intro hf hP hD hS hl
  obtain ⟨hx, hb, hml, hown, hts⟩ := id C
  unfold fX9_decode_60 at hf
  refine lv_aload_n hx hb dX9_decode_60 rfl (lv_at hl 0 rfl) ?_
  refine va_get (D := D) (ci := 8) (v := .int t_fault) (C := RX9) (T := TX9) (N := 15) hx hb hts iX9_decode_X9 hown hK hP 0 rfl rfl 6 (by decide) (kX9_decode_129 hts) (fun _ h9 => h9) rfl dX9_decode_61 ?_
  refine lv_if_eq (tgt := 72) hx hb dX9_decode_64 (by decide) (fun c1 => ?_) (fun c1 => ?_)
  · replace hf := zif_t hf c1
    refine lv_aload_n hx hb dX9_decode_72 rfl (lv_at hl 0 rfl) ?_
    refine lv_aload_n hx hb dX9_decode_73 rfl (lv_at hl 0 rfl) ?_
    refine va_get (D := D) (ci := 8) (v := .int t_newWide) (C := RX9) (T := TX9) (N := 15) hx hb hts iX9_decode_X9 hown hK hP 0 rfl rfl 7 (by decide) (kX9_decode_142 hts) (fun _ h9 => h9) rfl dX9_decode_74 ?_
    refine va_put (D := D) (ci := 8) (v := .int t_newWide) (ty := .int) (C := RX9) (T := TX9) (N := 15) hx hb hts iX9_decode_X9 tyX9 tyX9_ok nmX9 hown hK hP hD hS 0 rfl rfl 0 (by decide) (kX9_decode_7 hts) (fun _ h9 => h9) rfl (by decide +kernel) rfl rfl (Nat.le_of_ble_eq_true rfl) dX9_decode_77 (fun H locs hP hD hS => ?_)
    replace hP : va_P D vwCl (zwX9 cI h_t h_t_now h_t_file h_t_fresh h_t_colour h_t_table h_t_last h_t_one t_newWide t_high t_size t_at t_fault t_newWide t_newHigh t_colours t_now t_file t_fresh t_colour t_table t_last t_one) H := hP
    replace hD : va_D A (zwX9 cI h_t h_t_now h_t_file h_t_fresh h_t_colour h_t_table h_t_last h_t_one t_newWide t_high t_size t_at t_fault t_newWide t_newHigh t_colours t_now t_file t_fresh t_colour t_table t_last t_one) := hD
    refine lv_aload_n hx hb dX9_decode_80 rfl (lv_at hl 0 rfl) ?_
    refine lv_aload_n hx hb dX9_decode_81 rfl (lv_at hl 0 rfl) ?_
    refine va_get (D := D) (ci := 8) (v := .int t_newHigh) (C := RX9) (T := TX9) (N := 15) hx hb hts iX9_decode_X9 hown hK hP 0 rfl rfl 8 (by decide) (kX9_decode_162 hts) (fun _ h9 => h9) rfl dX9_decode_82 ?_
    refine va_put (D := D) (ci := 8) (v := .int t_newHigh) (ty := .int) (C := RX9) (T := TX9) (N := 15) hx hb hts iX9_decode_X9 tyX9 tyX9_ok nmX9 hown hK hP hD hS 0 rfl rfl 1 (by decide) (kX9_decode_13 hts) (fun _ h9 => h9) rfl (by decide +kernel) rfl rfl (Nat.le_of_ble_eq_true rfl) dX9_decode_85 (fun H locs hP hD hS => ?_)
    replace hP : va_P D vwCl (zwX9 cI h_t h_t_now h_t_file h_t_fresh h_t_colour h_t_table h_t_last h_t_one t_newWide t_newHigh t_size t_at t_fault t_newWide t_newHigh t_colours t_now t_file t_fresh t_colour t_table t_last t_one) H := hP
    replace hD : va_D A (zwX9 cI h_t h_t_now h_t_file h_t_fresh h_t_colour h_t_table h_t_last h_t_one t_newWide t_newHigh t_size t_at t_fault t_newWide t_newHigh t_colours t_now t_file t_fresh t_colour t_table t_last t_one) := hD
    refine lv_aload_n hx hb dX9_decode_88 rfl (lv_at hl 0 rfl) ?_
    obtain ⟨u2, hc3, hf⟩ := zb1_in hf
    refine zc_v (va_runV (As := []) (rest := []) C (mX9_copyBack l D cI H.size h_t h_t_now h_t_file h_t_fresh h_t_colour h_t_table h_t_last h_t_one t_newWide t_newHigh t_size t_at t_fault t_newWide t_newHigh t_colours t_now t_file t_fresh t_colour t_table t_last t_one u2 hc3) (qX9_decode_X9_copyBack_46 hts) ⟨zP_blind, va_recv hK hP (ci := 8) (q0 := 0) rfl rfl, zpre hK hN hP hD [0, 1, 2, 3, 4, 5, 6, 7] rfl rfl⟩ rfl rfl hl.1 rfl (lv_room (Nat.le_of_ble_eq_true rfl)) dX9_decode_89 ⟨Nat.zero_le _, Nat.zero_le _⟩) hP hD hS hA [0, 1, 2, 3, 4, 5, 6, 7] [] [0, 1, 2, 3, 4, 5, 6, 7] (ws' := zwX9 cI h_t h_t_now h_t_file h_t_fresh h_t_colour h_t_table h_t_last h_t_one t_newWide t_newHigh t_size t_at t_fault t_newWide t_newHigh t_colours u2 t_file t_fresh t_colour t_table t_last t_one) rfl rfl rfl rfl rfl rfl (fun H locs hP hD hS => ?_)
    refine lv_iload_n hx hb dX9_decode_92 rfl (lv_at hl 1 rfl) ?_
    cases hf
    exact hE _ _ _ _ dX9_decode_93 hP hD hS
  · replace hf := zif_f hf c1
    refine lv_aload_n hx hb dX9_decode_67 rfl (lv_at hl 0 rfl) ?_
    refine va_get (D := D) (ci := 8) (v := .int t_fault) (C := RX9) (T := TX9) (N := 15) hx hb hts iX9_decode_X9 hown hK hP 0 rfl rfl 6 (by decide) (kX9_decode_129 hts) (fun _ h9 => h9) rfl dX9_decode_68 ?_
    cases hf
    exact hE _ _ _ _ dX9_decode_71 hP hD hS
set_option maxHeartbeats 4000000 in
set_option maxRecDepth 100000 in
theorem wX9_decode_0 {p : Program} {l : Launch} {e : Env} {s : State} {m : MethodId} {args : Array Value} {below : List Frame} {meth : Method} {c : Code} {D : va_G} {A : Nat → Prop} {Q : State → Prop} {cI : ClassId} {h_t h_t_now h_t_file h_t_fresh h_t_colour h_t_table h_t_last h_t_one : Nat} {t_size : Int32} {t_file : Nat → Int32} {r0 : Int32} {zt_wide : Int32} {zt_high : Int32} {zt_at : Int32} {zt_fault : Int32} {zt_newWide : Int32} {zt_newHigh : Int32} {zt_colours : Int32} {zt_now : Nat → Int32} {zt_fresh : Nat → Int32} {zt_colour : Nat → Int32} {zt_table : Nat → Int32} {zt_last : Nat → Int32} {zt_one : Nat → Int32} (C : CallFix p m c cX9_decode 2 s args wsX9_decode RX9) (hN : zN s) (hK : va_K D vwCl [(cI, .int)] s) (hA : ∀ q, s.heap.size ≤ q → A q) (hE : zEi p l e rmX9_decode s m args below meth c cX9_decode D A Q (zwX9 cI h_t h_t_now h_t_file h_t_fresh h_t_colour h_t_table h_t_last h_t_one zt_wide zt_high t_size zt_at zt_fault zt_newWide zt_newHigh zt_colours zt_now t_file zt_fresh zt_colour zt_table zt_last zt_one) r0) {t_wide : Int32} {t_high : Int32} {t_at : Int32} {t_fault : Int32} {t_newWide : Int32} {t_newHigh : Int32} {t_colours : Int32} {t_now : Nat → Int32} {t_fresh : Nat → Int32} {t_colour : Nat → Int32} {t_table : Nat → Int32} {t_last : Nat → Int32} {t_one : Nat → Int32} {H : Heap} {locs : List Loc} {ls : Array Slot} : fX9_decode t_wide t_high t_size t_at t_fault t_newWide t_newHigh t_colours t_now t_file t_fresh t_colour t_table t_last t_one = some (r0, zt_wide, zt_high, zt_at, zt_fault, zt_newWide, zt_newHigh, zt_colours, zt_now, zt_fresh, zt_colour, zt_table, zt_last, zt_one) → va_P D vwCl (zwX9 cI h_t h_t_now h_t_file h_t_fresh h_t_colour h_t_table h_t_last h_t_one t_wide t_high t_size t_at t_fault t_newWide t_newHigh t_colours t_now t_file t_fresh t_colour t_table t_last t_one) H → va_D A (zwX9 cI h_t h_t_now h_t_file h_t_fresh h_t_colour h_t_table h_t_last h_t_one t_wide t_high t_size t_at t_fault t_newWide t_newHigh t_colours t_now t_file t_fresh t_colour t_table t_last t_one) → va_S A s.heap H locs → lv_has ls 2 [(0, .ref h_t)] → W p l e rmX9_decode s m args below meth c H locs 0 0 Q (F0 m 0 ls []) := by
  intro hf hP hD hS hl
  obtain ⟨hx, hb, hml, hown, hts⟩ := id C
  unfold fX9_decode at hf
  refine lv_aload_n hx hb dX9_decode_0 rfl (lv_at hl 0 rfl) ?_
  obtain ⟨r1, hc2, hf⟩ := zb1_in hf
  refine zc_i (va_runV (As := []) (rest := []) C (mX9_sniff l D cI H.size h_t h_t_now h_t_file h_t_fresh h_t_colour h_t_table h_t_last h_t_one t_wide t_high t_size t_at t_fault t_newWide t_newHigh t_colours t_now t_file t_fresh t_colour t_table t_last t_one r1 hc2) (qX9_decode_X9_sniff_205 hts) ⟨zP_blind, va_recv hK hP (ci := 8) (q0 := 0) rfl rfl, zpre hK hN hP hD [0, 1, 2, 3, 4, 5, 6, 7] rfl rfl⟩ rfl rfl hl.1 rfl (lv_room (Nat.le_of_ble_eq_true rfl)) dX9_decode_1 ⟨Nat.zero_le _, Nat.zero_le _⟩) hP hD hS hA [0, 1, 2, 3, 4, 5, 6, 7] [] [0, 1, 2, 3, 4, 5, 6, 7] (ws' := zwX9 cI h_t h_t_now h_t_file h_t_fresh h_t_colour h_t_table h_t_last h_t_one t_wide t_high t_size t_at t_fault t_newWide t_newHigh t_colours t_now t_file t_fresh t_colour t_table t_last t_one) rfl rfl rfl rfl rfl rfl (fun H locs hP hD hS => ?_)
  refine lv_istore_n (lv' := [(1, .int r1), (0, .ref h_t)]) hx hb dX9_decode_4 rfl hl (by decide) rfl (fun ls hl => ?_)
  refine lv_iload_n hx hb dX9_decode_5 rfl (lv_at hl 0 rfl) ?_
  refine lv_if_ge (tgt := 11) hx hb dX9_decode_6 (by decide) (fun c3 => ?_) (fun c3 => ?_)
  · replace hf := zif_t hf c3
    refine lv_aload_n hx hb dX9_decode_11 rfl (lv_at hl 1 rfl) ?_
    refine lv_iconst (v := 0) hx hb dX9_decode_12 (by decide) ?_
    refine va_put (D := D) (ci := 8) (v := .int 0) (ty := .int) (C := RX9) (T := TX9) (N := 15) hx hb hts iX9_decode_X9 tyX9 tyX9_ok nmX9 hown hK hP hD hS 0 rfl rfl 5 (by decide) (kX9_decode_132 hts) (fun _ h9 => h9) rfl (by decide +kernel) rfl rfl (Nat.le_of_ble_eq_true rfl) dX9_decode_13 (fun H locs hP hD hS => ?_)
    replace hP : va_P D vwCl (zwX9 cI h_t h_t_now h_t_file h_t_fresh h_t_colour h_t_table h_t_last h_t_one t_wide t_high t_size 0 t_fault t_newWide t_newHigh t_colours t_now t_file t_fresh t_colour t_table t_last t_one) H := hP
    replace hD : va_D A (zwX9 cI h_t h_t_now h_t_file h_t_fresh h_t_colour h_t_table h_t_last h_t_one t_wide t_high t_size 0 t_fault t_newWide t_newHigh t_colours t_now t_file t_fresh t_colour t_table t_last t_one) := hD
    refine lv_aload_n hx hb dX9_decode_16 rfl (lv_at hl 1 rfl) ?_
    refine lv_iconst (v := 0) hx hb dX9_decode_17 (by decide) ?_
    refine va_put (D := D) (ci := 8) (v := .int 0) (ty := .int) (C := RX9) (T := TX9) (N := 15) hx hb hts iX9_decode_X9 tyX9 tyX9_ok nmX9 hown hK hP hD hS 0 rfl rfl 6 (by decide) (kX9_decode_129 hts) (fun _ h9 => h9) rfl (by decide +kernel) rfl rfl (Nat.le_of_ble_eq_true rfl) dX9_decode_18 (fun H locs hP hD hS => ?_)
    replace hP : va_P D vwCl (zwX9 cI h_t h_t_now h_t_file h_t_fresh h_t_colour h_t_table h_t_last h_t_one t_wide t_high t_size 0 0 t_newWide t_newHigh t_colours t_now t_file t_fresh t_colour t_table t_last t_one) H := hP
    replace hD : va_D A (zwX9 cI h_t h_t_now h_t_file h_t_fresh h_t_colour h_t_table h_t_last h_t_one t_wide t_high t_size 0 0 t_newWide t_newHigh t_colours t_now t_file t_fresh t_colour t_table t_last t_one) := hD
    refine lv_iload_n hx hb dX9_decode_21 rfl (lv_at hl 0 rfl) ?_
    refine lv_if_ne (tgt := 32) hx hb dX9_decode_22 (by decide) (fun c4 => ?_) (fun c4 => ?_)
    · replace hf := zif_f hf c4
      refine lv_iload_n hx hb dX9_decode_32 rfl (lv_at hl 0 rfl) ?_
      refine lv_iconst (v := 1) hx hb dX9_decode_33 (by decide) ?_
      refine lv_icmp_ne (tgt := 44) hx hb dX9_decode_34 (by decide) (fun c5 => ?_) (fun c5 => ?_)
      · replace hf := zif_f hf c5
        refine lv_iload_n hx hb dX9_decode_44 rfl (lv_at hl 0 rfl) ?_
        refine lv_iconst (v := 2) hx hb dX9_decode_45 (by decide) ?_
        refine lv_icmp_ne (tgt := 56) hx hb dX9_decode_46 (by decide) (fun c6 => ?_) (fun c6 => ?_)
        · replace hf := zif_f hf c6
          refine lv_aload_n hx hb dX9_decode_56 rfl (lv_at hl 1 rfl) ?_
          obtain ⟨u7, u8, u9, u10, u11, u12, hc13, hf⟩ := zb6_in hf
          refine zc_v (va_runV (As := []) (rest := []) C (mX9_readFourth l D cI H.size h_t h_t_now h_t_file h_t_fresh h_t_colour h_t_table h_t_last h_t_one t_wide t_high t_size 0 0 t_newWide t_newHigh t_colours t_now t_file t_fresh t_colour t_table t_last t_one u7 u8 u9 u10 u11 u12 hc13) (qX9_decode_X9_readFourth_217 hts) ⟨zP_blind, va_recv hK hP (ci := 8) (q0 := 0) rfl rfl, zpre hK hN hP hD [0, 1, 2, 3, 4, 5, 6, 7] rfl rfl⟩ rfl rfl hl.1 rfl (lv_room (Nat.le_of_ble_eq_true rfl)) dX9_decode_57 ⟨Nat.zero_le _, Nat.zero_le _⟩) hP hD hS hA [0, 1, 2, 3, 4, 5, 6, 7] [] [0, 1, 2, 3, 4, 5, 6, 7] (ws' := zwX9 cI h_t h_t_now h_t_file h_t_fresh h_t_colour h_t_table h_t_last h_t_one t_wide t_high t_size u7 u8 u9 u10 t_colours t_now t_file u11 t_colour t_table t_last u12) rfl rfl rfl rfl rfl rfl (fun H locs hP hD hS => ?_)
          exact wX9_decode_60 C hN hK hA hE hf hP hD hS (lv_sub hl [1, 0] rfl)
        · replace hf := zif_t hf c6
          refine lv_aload_n hx hb dX9_decode_49 rfl (lv_at hl 1 rfl) ?_
          obtain ⟨u14, u15, u16, u17, u18, u19, u20, u21, hc22, hf⟩ := zb8_in hf
          refine zc_v (va_runV (As := []) (rest := []) C (mX9_readThird l D cI H.size h_t h_t_now h_t_file h_t_fresh h_t_colour h_t_table h_t_last h_t_one t_wide t_high t_size 0 0 t_newWide t_newHigh t_colours t_now t_file t_fresh t_colour t_table t_last t_one u14 u15 u16 u17 u18 u19 u20 u21 hc22) (qX9_decode_X9_readThird_214 hts) ⟨zP_blind, va_recv hK hP (ci := 8) (q0 := 0) rfl rfl, zpre hK hN hP hD [0, 1, 2, 3, 4, 5, 6, 7] rfl rfl⟩ rfl rfl hl.1 rfl (lv_room (Nat.le_of_ble_eq_true rfl)) dX9_decode_50 ⟨Nat.zero_le _, Nat.zero_le _⟩) hP hD hS hA [0, 1, 2, 3, 4, 5, 6, 7] [] [0, 1, 2, 3, 4, 5, 6, 7] (ws' := zwX9 cI h_t h_t_now h_t_file h_t_fresh h_t_colour h_t_table h_t_last h_t_one t_wide t_high t_size u14 u15 u16 u17 u18 t_now t_file u19 u20 t_table t_last u21) rfl rfl rfl rfl rfl rfl (fun H locs hP hD hS => ?_)
          refine lv_goto (tgt := 60) hx hb dX9_decode_53 (by decide) ?_
          exact wX9_decode_60 C hN hK hA hE hf hP hD hS (lv_sub hl [1, 0] rfl)
      · replace hf := zif_t hf c5
        refine lv_aload_n hx hb dX9_decode_37 rfl (lv_at hl 1 rfl) ?_
        obtain ⟨u23, u24, u25, u26, u27, u28, hc29, hf⟩ := zb6_in hf
        refine zc_v (va_runV (As := []) (rest := []) C (mX9_readSecond l D cI H.size h_t h_t_now h_t_file h_t_fresh h_t_colour h_t_table h_t_last h_t_one t_wide t_high t_size 0 0 t_newWide t_newHigh t_colours t_now t_file t_fresh t_colour t_table t_last t_one u23 u24 u25 u26 u27 u28 hc29) (qX9_decode_X9_readSecond_211 hts) ⟨zP_blind, va_recv hK hP (ci := 8) (q0 := 0) rfl rfl, zpre hK hN hP hD [0, 1, 2, 3, 4, 5, 6, 7] rfl rfl⟩ rfl rfl hl.1 rfl (lv_room (Nat.le_of_ble_eq_true rfl)) dX9_decode_38 ⟨Nat.zero_le _, Nat.zero_le _⟩) hP hD hS hA [0, 1, 2, 3, 4, 5, 6, 7] [] [0, 1, 2, 3, 4, 5, 6, 7] (ws' := zwX9 cI h_t h_t_now h_t_file h_t_fresh h_t_colour h_t_table h_t_last h_t_one t_wide t_high t_size u23 u24 u25 u26 t_colours t_now t_file u27 t_colour t_table t_last u28) rfl rfl rfl rfl rfl rfl (fun H locs hP hD hS => ?_)
        refine lv_goto (tgt := 60) hx hb dX9_decode_41 (by decide) ?_
        exact wX9_decode_60 C hN hK hA hE hf hP hD hS (lv_sub hl [1, 0] rfl)
    · replace hf := zif_t hf c4
      refine lv_aload_n hx hb dX9_decode_25 rfl (lv_at hl 1 rfl) ?_
      obtain ⟨u30, u31, u32, u33, u34, u35, u36, u37, hc38, hf⟩ := zb8_in hf
      refine zc_v (va_runV (As := []) (rest := []) C (mX9_readFirst l D cI H.size h_t h_t_now h_t_file h_t_fresh h_t_colour h_t_table h_t_last h_t_one t_wide t_high t_size 0 0 t_newWide t_newHigh t_colours t_now t_file t_fresh t_colour t_table t_last t_one u30 u31 u32 u33 u34 u35 u36 u37 hc38) (qX9_decode_X9_readFirst_208 hts) ⟨zP_blind, va_recv hK hP (ci := 8) (q0 := 0) rfl rfl, zpre hK hN hP hD [0, 1, 2, 3, 4, 5, 6, 7] rfl rfl⟩ rfl rfl hl.1 rfl (lv_room (Nat.le_of_ble_eq_true rfl)) dX9_decode_26 ⟨Nat.zero_le _, Nat.zero_le _⟩) hP hD hS hA [0, 1, 2, 3, 4, 5, 6, 7] [] [0, 1, 2, 3, 4, 5, 6, 7] (ws' := zwX9 cI h_t h_t_now h_t_file h_t_fresh h_t_colour h_t_table h_t_last h_t_one t_wide t_high t_size u30 u31 u32 u33 t_colours t_now t_file u34 t_colour u35 u36 u37) rfl rfl rfl rfl rfl rfl (fun H locs hP hD hS => ?_)
      refine lv_goto (tgt := 60) hx hb dX9_decode_29 (by decide) ?_
      exact wX9_decode_60 C hN hK hA hE hf hP hD hS (lv_sub hl [1, 0] rfl)
  · replace hf := zif_f hf c3
    refine lv_iconst (v := (-1)) hx hb dX9_decode_9 (by decide) ?_
    cases hf
    exact hE _ _ _ _ dX9_decode_10 hP hD hS
set_option maxHeartbeats 4000000 in
set_option maxRecDepth 100000 in
theorem mX9_decode (l : Launch) (D : va_G) (cI : ClassId) (sz : Nat) (h_t h_t_now h_t_file h_t_fresh h_t_colour h_t_table h_t_last h_t_one : Nat) (t_wide : Int32) (t_high : Int32) (t_size : Int32) (t_at : Int32) (t_fault : Int32) (t_newWide : Int32) (t_newHigh : Int32) (t_colours : Int32) (t_now : Nat → Int32) (t_file : Nat → Int32) (t_fresh : Nat → Int32) (t_colour : Nat → Int32) (t_table : Nat → Int32) (t_last : Nat → Int32) (t_one : Nat → Int32) (r0 : Int32) (zt_wide : Int32) (zt_high : Int32) (zt_at : Int32) (zt_fault : Int32) (zt_newWide : Int32) (zt_newHigh : Int32) (zt_colours : Int32) (zt_now : Nat → Int32) (zt_fresh : Nat → Int32) (zt_colour : Nat → Int32) (zt_table : Nat → Int32) (zt_last : Nat → Int32) (zt_one : Nat → Int32) (hf : fX9_decode t_wide t_high t_size t_at t_fault t_newWide t_newHigh t_colours t_now t_file t_fresh t_colour t_table t_last t_one = some (r0, zt_wide, zt_high, zt_at, zt_fault, zt_newWide, zt_newHigh, zt_colours, zt_now, zt_fresh, zt_colour, zt_table, zt_last, zt_one)) : Met l yX9_decode wsX9_decode rmX9_decode (va_Pc [.ref h_t] (zP D [(cI, .int)] (zwX9 cI h_t h_t_now h_t_file h_t_fresh h_t_colour h_t_table h_t_last h_t_one t_wide t_high t_size t_at t_fault t_newWide t_newHigh t_colours t_now t_file t_fresh t_colour t_table t_last t_one) sz)) (zQi D (zwX9 cI h_t h_t_now h_t_file h_t_fresh h_t_colour h_t_table h_t_last h_t_one t_wide t_high t_size t_at t_fault t_newWide t_newHigh t_colours t_now t_file t_fresh t_colour t_table t_last t_one) sz r0 (zwX9 cI h_t h_t_now h_t_file h_t_fresh h_t_colour h_t_table h_t_last h_t_one zt_wide zt_high t_size zt_at zt_fault zt_newWide zt_newHigh zt_colours zt_now t_file zt_fresh zt_colour zt_table zt_last zt_one)) 0 0 (va_A (zwX9 cI h_t h_t_now h_t_file h_t_fresh h_t_colour h_t_table h_t_last h_t_one t_wide t_high t_size t_at t_fault t_newWide t_newHigh t_colours t_now t_file t_fresh t_colour t_table t_last t_one) sz) := by
  refine Met.ofW (cc := cX9_decode) (maxL := 2) (ret := (some .int)) (by decide) rfl ?_
  intro p e s m args below meth c s₁ B hml hv
  obtain ⟨rfl, hsz, hP, hK, hD0, hN⟩ := hv
  subst hsz
  have C : CallFix p m c cX9_decode 2 s [.ref h_t].toArray wsX9_decode RX9 := ⟨B.exec, B.bytes, hml, findClass_of_methodNamed B.named, atoms_spec (ws := wsX9_decode) B.pre⟩
  have hl := lv_entry ([.ref h_t]) (n := 2) (Nat.le_of_ble_eq_true rfl)
  rw [lg_entry_eq]
  exact wX9_decode_0 (A := va_A (zwX9 cI h_t h_t_now h_t_file h_t_fresh h_t_colour h_t_table h_t_last h_t_one t_wide t_high t_size t_at t_fault t_newWide t_newHigh t_colours t_now t_file t_fresh t_colour t_table t_last t_one) s.heap.size) C hN hK (fun q h => Or.inr h) (fun H locs pc ls d hP hD hS => zend_i C.1 C.2.1 B.returns B.notSynchronized d hP hD hS) hf hP hD0.self va_S.rf hl
