def fX9_colourOf_79 (rc4 : Int32 → (Nat → Int32) → Int32 → Int32 → Int32 → Option (Int32)) (t_wide : Int32) (t_now : Nat → Int32) (l1 : Int32) (l2 : Int32) (l3 : Int32) : Option (Int32) :=
  zlet (l3 + 1) fun x1 =>
  rc4 t_wide t_now l1 l2 x1
def fX9_colourOf_41 (rc4 : Int32 → (Nat → Int32) → Int32 → Int32 → Int32 → Option (Int32)) (rc15 : Int32 → (Nat → Int32) → Int32 → Int32 → Int32 → Int32 → Int32 → Option (Int32)) (t_wide : Int32) (t_now : Nat → Int32) (l1 : Int32) (l2 : Int32) (l3 : Int32) (l5 : Int32) (k0 : Int32) : Option (Int32) :=
  zlet (l5 + 1) fun x1 =>
  rc15 t_wide t_now l1 l2 l3 k0 x1
def fX9_colourOf_40 (rc4 : Int32 → (Nat → Int32) → Int32 → Int32 → Int32 → Option (Int32)) (rc15 : Int32 → (Nat → Int32) → Int32 → Int32 → Int32 → Int32 → Int32 → Option (Int32)) (t_wide : Int32) (t_now : Nat → Int32) (l1 : Int32) (l2 : Int32) (l3 : Int32) (l5 : Int32) : Option (Int32) :=
  fX9_colourOf_41 rc4 rc15 t_wide t_now l1 l2 l3 l5 0
def fX9_colourOf_15 (rc4 : Int32 → (Nat → Int32) → Int32 → Int32 → Int32 → Option (Int32)) : Nat → Int32 → (Nat → Int32) → Int32 → Int32 → Int32 → Int32 → Int32 → Option (Int32)
  | 0, _, _, _, _, _, _, _ => none
  | n + 1, t_wide, t_now, l1, l2, l3, l4, l5 =>
    if l3 ≤ l5 then
      if l4 = 0 then
        fX9_colourOf_79 rc4 t_wide t_now l1 l2 l3
      else
        zb1 (fX9_alike t_wide t_now l3 l1) fun r3 =>
        if r3 = 0 then
          zlet (l2 + 1) fun x6 =>
          fX9_colourOf_79 rc4 t_wide t_now l1 x6 l3
        else
          if l3 = l1 then
            zlet ((-1) - l2) fun x8 =>
            some x8
          else
            some l2
    else
      if l4 = 0 then
        fX9_colourOf_40 rc4 (fX9_colourOf_15 rc4 n) t_wide t_now l1 l2 l3 l5
      else
        zb1 (fX9_alike t_wide t_now l5 l3) fun r10 =>
        if r10 = 0 then
          fX9_colourOf_41 rc4 (fX9_colourOf_15 rc4 n) t_wide t_now l1 l2 l3 l5 1
        else
          fX9_colourOf_40 rc4 (fX9_colourOf_15 rc4 n) t_wide t_now l1 l2 l3 l5
theorem fX9_colourOf_15_s (rc4 : Int32 → (Nat → Int32) → Int32 → Int32 → Int32 → Option (Int32)) (n : Nat) (t_wide : Int32) (t_now : Nat → Int32) (l1 : Int32) (l2 : Int32) (l3 : Int32) (l4 : Int32) (l5 : Int32) : fX9_colourOf_15 rc4 (n + 1) t_wide t_now l1 l2 l3 l4 l5 =
    if l3 ≤ l5 then
      if l4 = 0 then
        fX9_colourOf_79 rc4 t_wide t_now l1 l2 l3
      else
        zb1 (fX9_alike t_wide t_now l3 l1) fun r3 =>
        if r3 = 0 then
          zlet (l2 + 1) fun x6 =>
          fX9_colourOf_79 rc4 t_wide t_now l1 x6 l3
        else
          if l3 = l1 then
            zlet ((-1) - l2) fun x8 =>
            some x8
          else
            some l2
    else
      if l4 = 0 then
        fX9_colourOf_40 rc4 (fX9_colourOf_15 rc4 n) t_wide t_now l1 l2 l3 l5
      else
        zb1 (fX9_alike t_wide t_now l5 l3) fun r10 =>
        if r10 = 0 then
          fX9_colourOf_41 rc4 (fX9_colourOf_15 rc4 n) t_wide t_now l1 l2 l3 l5 1
        else
          fX9_colourOf_40 rc4 (fX9_colourOf_15 rc4 n) t_wide t_now l1 l2 l3 l5 := rfl
def fX9_colourOf_4 : Nat → Int32 → (Nat → Int32) → Int32 → Int32 → Int32 → Option (Int32)
  | 0, _, _, _, _, _ => none
  | n + 1, t_wide, t_now, l1, l2, l3 =>
    if l1 < l3 then
      some l2
    else
      fX9_colourOf_15 (fX9_colourOf_4 n) 1000 t_wide t_now l1 l2 l3 1 0
theorem fX9_colourOf_4_s (n : Nat) (t_wide : Int32) (t_now : Nat → Int32) (l1 : Int32) (l2 : Int32) (l3 : Int32) : fX9_colourOf_4 (n + 1) t_wide t_now l1 l2 l3 =
    if l1 < l3 then
      some l2
    else
      fX9_colourOf_15 (fX9_colourOf_4 n) 1000 t_wide t_now l1 l2 l3 1 0 := rfl
def fX9_colourOf (t_wide : Int32) (t_now : Nat → Int32) (v0 : Int32) : Option (Int32) :=
  fX9_colourOf_4 1000 t_wide t_now v0 0 0
def fX9_pairs_108 (t_size : Int32) (t_file : Nat → Int32) (k1 : Int32) (k2 : Int32) : Option (Int32 × (Nat → Int32)) :=
  zb2 (fX9_addTwo t_size t_file k1 k2) fun u1 u2 =>
  some (u1, u2)
def fX9_pairs_87 (rc2 : Int32 → Int32 → (Nat → Int32) → (Nat → Int32) → Int32 → Int32 → Option (Int32 × (Nat → Int32))) (t_wide : Int32) (t_size : Int32) (t_now : Nat → Int32) (t_file : Nat → Int32) (l1 : Int32) (l2 : Int32) (l3 : Int32) (k1 : Int32) : Option (Int32 × (Nat → Int32)) :=
  zb2 (fX9_add t_size t_file k1) fun u1 u2 =>
  zlet (l2 + l3) fun x4 =>
  rc2 t_wide u1 t_now u2 l1 x4
def fX9_pairs_53 (rc2 : Int32 → Int32 → (Nat → Int32) → (Nat → Int32) → Int32 → Int32 → Option (Int32 × (Nat → Int32))) (t_wide : Int32) (t_size : Int32) (t_now : Nat → Int32) (t_file : Nat → Int32) (l1 : Int32) (l2 : Int32) (l3 : Int32) : Option (Int32 × (Nat → Int32)) :=
  zb1 (fX9_colourOf t_wide t_now ((t_wide * l1) + l2)) fun r1 =>
  zb2 (fX9_add t_size t_file l3) fun u3 u4 =>
  if 0 ≤ r1 then
    fX9_pairs_87 rc2 t_wide u3 t_now u4 l1 l2 l3 r1
  else
    fX9_pairs_87 rc2 t_wide u3 t_now u4 l1 l2 l3 ((-1) - r1)
def fX9_pairs_12 (rc2 : Int32 → Int32 → (Nat → Int32) → (Nat → Int32) → Int32 → Int32 → Option (Int32 × (Nat → Int32))) : Nat → Int32 → Int32 → (Nat → Int32) → (Nat → Int32) → Int32 → Int32 → Int32 → Option (Int32 × (Nat → Int32))
  | 0, _, _, _, _, _, _, _ => none
  | n + 1, t_wide, t_size, t_now, t_file, l1, l2, l3 =>
    if t_wide ≤ (l2 + l3) then
      fX9_pairs_53 rc2 t_wide t_size t_now t_file l1 l2 l3
    else
      zb1 (fX9_alike t_wide t_now ((t_wide * l1) + l2) (((t_wide * l1) + l2) + l3)) fun r2 =>
      if r2 = 0 then
        fX9_pairs_53 rc2 t_wide t_size t_now t_file l1 l2 l3
      else
        zlet (l3 + 1) fun x5 =>
        (fX9_pairs_12 rc2 n) t_wide t_size t_now t_file l1 l2 x5
theorem fX9_pairs_12_s (rc2 : Int32 → Int32 → (Nat → Int32) → (Nat → Int32) → Int32 → Int32 → Option (Int32 × (Nat → Int32))) (n : Nat) (t_wide : Int32) (t_size : Int32) (t_now : Nat → Int32) (t_file : Nat → Int32) (l1 : Int32) (l2 : Int32) (l3 : Int32) : fX9_pairs_12 rc2 (n + 1) t_wide t_size t_now t_file l1 l2 l3 =
    if t_wide ≤ (l2 + l3) then
      fX9_pairs_53 rc2 t_wide t_size t_now t_file l1 l2 l3
    else
      zb1 (fX9_alike t_wide t_now ((t_wide * l1) + l2) (((t_wide * l1) + l2) + l3)) fun r2 =>
      if r2 = 0 then
        fX9_pairs_53 rc2 t_wide t_size t_now t_file l1 l2 l3
      else
        zlet (l3 + 1) fun x5 =>
        (fX9_pairs_12 rc2 n) t_wide t_size t_now t_file l1 l2 x5 := rfl
def fX9_pairs_2 : Nat → Int32 → Int32 → (Nat → Int32) → (Nat → Int32) → Int32 → Int32 → Option (Int32 × (Nat → Int32))
  | 0, _, _, _, _, _, _ => none
  | n + 1, t_wide, t_size, t_now, t_file, l1, l2 =>
    if t_wide ≤ l2 then
      if l1 = 0 then
        fX9_pairs_108 t_size t_file 0 1
      else
        fX9_pairs_108 t_size t_file 0 0
    else
      fX9_pairs_12 (fX9_pairs_2 n) 1000 t_wide t_size t_now t_file l1 l2 1
theorem fX9_pairs_2_s (n : Nat) (t_wide : Int32) (t_size : Int32) (t_now : Nat → Int32) (t_file : Nat → Int32) (l1 : Int32) (l2 : Int32) : fX9_pairs_2 (n + 1) t_wide t_size t_now t_file l1 l2 =
    if t_wide ≤ l2 then
      if l1 = 0 then
        fX9_pairs_108 t_size t_file 0 1
      else
        fX9_pairs_108 t_size t_file 0 0
    else
      fX9_pairs_12 (fX9_pairs_2 n) 1000 t_wide t_size t_now t_file l1 l2 1 := rfl
def fX9_pairs (t_wide : Int32) (t_size : Int32) (t_now : Nat → Int32) (t_file : Nat → Int32) (v0 : Int32) : Option (Int32 × (Nat → Int32)) :=
  fX9_pairs_2 1000 t_wide t_size t_now t_file v0 0
def fX9_writeThird_257 (rc199 : Int32 → Int32 → (Nat → Int32) → (Nat → Int32) → Int32 → Int32 → Option (Int32 × (Nat → Int32))) (t_wide : Int32) (t_size : Int32) (t_now : Nat → Int32) (t_file : Nat → Int32) (l1 : Int32) (l3 : Int32) : Option (Int32 × (Nat → Int32)) :=
  zlet (l3 + (-1)) fun x1 =>
  rc199 t_wide t_size t_now t_file l1 x1
def fX9_writeThird_218 (rc199 : Int32 → Int32 → (Nat → Int32) → (Nat → Int32) → Int32 → Int32 → Option (Int32 × (Nat → Int32))) : Nat → Int32 → Int32 → (Nat → Int32) → (Nat → Int32) → Int32 → Int32 → Int32 → Option (Int32 × (Nat → Int32))
  | 0, _, _, _, _, _, _, _ => none
  | n + 1, t_wide, t_size, t_now, t_file, l1, l3, l4 =>
    if t_wide ≤ l4 then
      zb2 (fX9_little t_size t_file 0 (zrem t_wide 4)) fun u2 u3 =>
      fX9_writeThird_257 rc199 t_wide u2 t_now u3 l1 l3
    else
      zb2 (fX9_backwards t_wide t_size t_now t_file ((t_wide * l3) + l4)) fun u5 u6 =>
      zlet (l4 + 1) fun x8 =>
      (fX9_writeThird_218 rc199 n) t_wide u5 t_now u6 l1 l3 x8
theorem fX9_writeThird_218_s (rc199 : Int32 → Int32 → (Nat → Int32) → (Nat → Int32) → Int32 → Int32 → Option (Int32 × (Nat → Int32))) (n : Nat) (t_wide : Int32) (t_size : Int32) (t_now : Nat → Int32) (t_file : Nat → Int32) (l1 : Int32) (l3 : Int32) (l4 : Int32) : fX9_writeThird_218 rc199 (n + 1) t_wide t_size t_now t_file l1 l3 l4 =
    if t_wide ≤ l4 then
      zb2 (fX9_little t_size t_file 0 (zrem t_wide 4)) fun u2 u3 =>
      fX9_writeThird_257 rc199 t_wide u2 t_now u3 l1 l3
    else
      zb2 (fX9_backwards t_wide t_size t_now t_file ((t_wide * l3) + l4)) fun u5 u6 =>
      zlet (l4 + 1) fun x8 =>
      (fX9_writeThird_218 rc199 n) t_wide u5 t_now u6 l1 l3 x8 := rfl
def fX9_writeThird_199 : Nat → Int32 → Int32 → (Nat → Int32) → (Nat → Int32) → Int32 → Int32 → Option (Int32 × (Nat → Int32))
  | 0, _, _, _, _, _, _ => none
  | n + 1, t_wide, t_size, t_now, t_file, l1, l3 =>
    if l3 < 0 then
      zb2 (fX9_little 2 t_file t_size 4) fun u2 u3 =>
      some (t_size, u3)
    else
      if l1 = 0 then
        fX9_writeThird_218 (fX9_writeThird_199 n) 1000 t_wide t_size t_now t_file l1 l3 0
      else
        zb2 (fX9_pairs t_wide t_size t_now t_file l3) fun u6 u7 =>
        fX9_writeThird_257 (fX9_writeThird_199 n) t_wide u6 t_now u7 l1 l3
theorem fX9_writeThird_199_s (n : Nat) (t_wide : Int32) (t_size : Int32) (t_now : Nat → Int32) (t_file : Nat → Int32) (l1 : Int32) (l3 : Int32) : fX9_writeThird_199 (n + 1) t_wide t_size t_now t_file l1 l3 =
    if l3 < 0 then
      zb2 (fX9_little 2 t_file t_size 4) fun u2 u3 =>
      some (t_size, u3)
    else
      if l1 = 0 then
        fX9_writeThird_218 (fX9_writeThird_199 n) 1000 t_wide t_size t_now t_file l1 l3 0
      else
        zb2 (fX9_pairs t_wide t_size t_now t_file l3) fun u6 u7 =>
        fX9_writeThird_257 (fX9_writeThird_199 n) t_wide u6 t_now u7 l1 l3 := rfl
def fX9_writeThird_192 (t_wide : Int32) (t_high : Int32) (t_size : Int32) (t_now : Nat → Int32) (t_file : Nat → Int32) (l1 : Int32) : Option (Int32 × (Nat → Int32)) :=
  zlet (t_high - 1) fun x1 =>
  fX9_writeThird_199 1000 t_wide t_size t_now t_file l1 x1
def fX9_writeThird_186 (rc151 : Int32 → Int32 → Int32 → (Nat → Int32) → (Nat → Int32) → Int32 → Int32 → Option (Int32 × (Nat → Int32))) (t_wide : Int32) (t_high : Int32) (t_size : Int32) (t_now : Nat → Int32) (t_file : Nat → Int32) (l1 : Int32) (l3 : Int32) : Option (Int32 × (Nat → Int32)) :=
  zlet (l3 + 1) fun x1 =>
  rc151 t_wide t_high t_size t_now t_file l1 x1
def fX9_writeThird_151 : Nat → Int32 → Int32 → Int32 → (Nat → Int32) → (Nat → Int32) → Int32 → Int32 → Option (Int32 × (Nat → Int32))
  | 0, _, _, _, _, _, _, _ => none
  | n + 1, t_wide, t_high, t_size, t_now, t_file, l1, l3 =>
    if (t_wide * t_high) ≤ l3 then
      fX9_writeThird_192 t_wide t_high t_size t_now t_file l1
    else
      if l1 = 0 then
        fX9_writeThird_192 t_wide t_high t_size t_now t_file l1
      else
        zb1 (fX9_colourOf t_wide t_now l3) fun r3 =>
        if 0 ≤ r3 then
          fX9_writeThird_186 (fX9_writeThird_151 n) t_wide t_high t_size t_now t_file l1 l3
        else
          zb2 (fX9_backwards t_wide t_size t_now t_file l3) fun u6 u7 =>
          zb2 (fX9_add u6 u7 0) fun u9 u10 =>
          fX9_writeThird_186 (fX9_writeThird_151 n) t_wide t_high u9 t_now u10 l1 l3
theorem fX9_writeThird_151_s (n : Nat) (t_wide : Int32) (t_high : Int32) (t_size : Int32) (t_now : Nat → Int32) (t_file : Nat → Int32) (l1 : Int32) (l3 : Int32) : fX9_writeThird_151 (n + 1) t_wide t_high t_size t_now t_file l1 l3 =
    if (t_wide * t_high) ≤ l3 then
      fX9_writeThird_192 t_wide t_high t_size t_now t_file l1
    else
      if l1 = 0 then
        fX9_writeThird_192 t_wide t_high t_size t_now t_file l1
      else
        zb1 (fX9_colourOf t_wide t_now l3) fun r3 =>
        if 0 ≤ r3 then
          fX9_writeThird_186 (fX9_writeThird_151 n) t_wide t_high t_size t_now t_file l1 l3
        else
          zb2 (fX9_backwards t_wide t_size t_now t_file l3) fun u6 u7 =>
          zb2 (fX9_add u6 u7 0) fun u9 u10 =>
          fX9_writeThird_186 (fX9_writeThird_151 n) t_wide t_high u9 t_now u10 l1 l3 := rfl
def fX9_writeThird_126 (t_wide : Int32) (t_high : Int32) (t_size : Int32) (t_now : Nat → Int32) (t_file : Nat → Int32) (l1 : Int32) (l2 : Int32) (k1 : Int32) : Option (Int32 × (Nat → Int32)) :=
  zb2 (fX9_little t_size t_file k1 4) fun u1 u2 =>
  zb2 (fX9_little u1 u2 0 12) fun u4 u5 =>
  zb2 (fX9_little u4 u5 l2 4) fun u7 u8 =>
  zb2 (fX9_little u7 u8 0 4) fun u10 u11 =>
  fX9_writeThird_151 1000 t_wide t_high u10 t_now u11 l1 0
def fX9_writeThird_112 (t_wide : Int32) (t_high : Int32) (t_size : Int32) (t_now : Nat → Int32) (t_file : Nat → Int32) (l1 : Int32) (l2 : Int32) (k1 : Int32) : Option (Int32 × (Nat → Int32)) :=
  zb2 (fX9_little t_size t_file k1 2) fun u1 u2 =>
  if l1 = 0 then
    fX9_writeThird_126 t_wide t_high u1 t_now u2 l1 l2 0
  else
    fX9_writeThird_126 t_wide t_high u1 t_now u2 l1 l2 1
def fX9_writeThird_43 (t_wide : Int32) (t_high : Int32) (t_size : Int32) (t_now : Nat → Int32) (t_file : Nat → Int32) (l1 : Int32) (l2 : Int32) : Option (Int32 × (Nat → Int32)) :=
  zb2 (fX9_addTwo t_size t_file 66 77) fun u1 u2 =>
  zb2 (fX9_little u1 u2 0 8) fun u4 u5 =>
  zb2 (fX9_little u4 u5 (54 + (4 * l2)) 4) fun u7 u8 =>
  zb2 (fX9_little u7 u8 40 4) fun u10 u11 =>
  zb2 (fX9_little u10 u11 t_wide 4) fun u13 u14 =>
  zb2 (fX9_little u13 u14 t_high 4) fun u16 u17 =>
  zb2 (fX9_little u16 u17 1 2) fun u19 u20 =>
  if l1 = 0 then
    fX9_writeThird_112 t_wide t_high u19 t_now u20 l1 l2 24
  else
    fX9_writeThird_112 t_wide t_high u19 t_now u20 l1 l2 8
def fX9_writeThird_36 (rc4 : Int32 → Int32 → Int32 → (Nat → Int32) → (Nat → Int32) → Int32 → Int32 → Int32 → Option (Int32 × (Nat → Int32))) (t_wide : Int32) (t_high : Int32) (t_size : Int32) (t_now : Nat → Int32) (t_file : Nat → Int32) (l1 : Int32) (l3 : Int32) (k0 : Int32) : Option (Int32 × (Nat → Int32)) :=
  zlet (l3 + 1) fun x1 =>
  rc4 t_wide t_high t_size t_now t_file l1 k0 x1
def fX9_writeThird_4 : Nat → Int32 → Int32 → Int32 → (Nat → Int32) → (Nat → Int32) → Int32 → Int32 → Int32 → Option (Int32 × (Nat → Int32))
  | 0, _, _, _, _, _, _, _, _ => none
  | n + 1, t_wide, t_high, t_size, t_now, t_file, l1, l2, l3 =>
    if (t_wide * t_high) ≤ l3 then
      fX9_writeThird_43 t_wide t_high t_size t_now t_file l1 l2
    else
      if l1 = 0 then
        fX9_writeThird_43 t_wide t_high t_size t_now t_file l1 l2
      else
        zb1 (fX9_colourOf t_wide t_now l3) fun r3 =>
        if 0 ≤ r3 then
          fX9_writeThird_36 (fX9_writeThird_4 n) t_wide t_high t_size t_now t_file l1 l3 l2
        else
          fX9_writeThird_36 (fX9_writeThird_4 n) t_wide t_high t_size t_now t_file l1 l3 (l2 + 1)
theorem fX9_writeThird_4_s (n : Nat) (t_wide : Int32) (t_high : Int32) (t_size : Int32) (t_now : Nat → Int32) (t_file : Nat → Int32) (l1 : Int32) (l2 : Int32) (l3 : Int32) : fX9_writeThird_4 (n + 1) t_wide t_high t_size t_now t_file l1 l2 l3 =
    if (t_wide * t_high) ≤ l3 then
      fX9_writeThird_43 t_wide t_high t_size t_now t_file l1 l2
    else
      if l1 = 0 then
        fX9_writeThird_43 t_wide t_high t_size t_now t_file l1 l2
      else
        zb1 (fX9_colourOf t_wide t_now l3) fun r3 =>
        if 0 ≤ r3 then
          fX9_writeThird_36 (fX9_writeThird_4 n) t_wide t_high t_size t_now t_file l1 l3 l2
        else
          fX9_writeThird_36 (fX9_writeThird_4 n) t_wide t_high t_size t_now t_file l1 l3 (l2 + 1) := rfl
def fX9_writeThird (t_wide : Int32) (t_high : Int32) (t_size : Int32) (t_now : Nat → Int32) (t_file : Nat → Int32) (v0 : Int32) : Option (Int32 × (Nat → Int32)) :=
  fX9_writeThird_4 1000 t_wide t_high t_size t_now t_file v0 0 0
def fX9_tones (t_wide : Int32) (t_size : Int32) (t_now : Nat → Int32) (t_file : Nat → Int32) (v0 : Int32) (v1 : Int32) : Option (Int32 × (Nat → Int32)) :=
  if v1 = 1 then
    zb1 (fX9_channel t_wide t_now v0 0) fun r11 =>
    zb2 (fX9_add t_size t_file r11) fun u13 u14 =>
    some (u13, u14)
  else
    zb2 (fX9_backwards t_wide t_size t_now t_file v0) fun u2 u3 =>
    if v1 = 4 then
      zb1 (fX9_channel t_wide t_now v0 3) fun r6 =>
      zb2 (fX9_add u2 u3 r6) fun u8 u9 =>
      some (u8, u9)
    else
      some (u2, u3)
def fX9_packets_145 (rc3 : Int32 → Int32 → (Nat → Int32) → (Nat → Int32) → Int32 → Int32 → Int32 → Option (Int32 × (Nat → Int32))) (t_wide : Int32) (t_size : Int32) (t_now : Nat → Int32) (t_file : Nat → Int32) (l2 : Int32) (l3 : Int32) (l5 : Int32) : Option (Int32 × (Nat → Int32)) :=
  rc3 t_wide t_size t_now t_file l2 l3 l5
def fX9_packets_125 (rc3 : Int32 → Int32 → (Nat → Int32) → (Nat → Int32) → Int32 → Int32 → Int32 → Option (Int32 × (Nat → Int32))) : Nat → Int32 → Int32 → (Nat → Int32) → (Nat → Int32) → Int32 → Int32 → Int32 → Int32 → Option (Int32 × (Nat → Int32))
  | 0, _, _, _, _, _, _, _, _ => none
  | n + 1, t_wide, t_size, t_now, t_file, l2, l3, l5, l6 =>
    if l5 ≤ l6 then
      fX9_packets_145 rc3 t_wide t_size t_now t_file l2 l3 l5
    else
      zb2 (fX9_tones t_wide t_size t_now t_file l6 l3) fun u2 u3 =>
      zlet (l6 + 1) fun x5 =>
      (fX9_packets_125 rc3 n) t_wide u2 t_now u3 l2 l3 l5 x5
theorem fX9_packets_125_s (rc3 : Int32 → Int32 → (Nat → Int32) → (Nat → Int32) → Int32 → Int32 → Int32 → Option (Int32 × (Nat → Int32))) (n : Nat) (t_wide : Int32) (t_size : Int32) (t_now : Nat → Int32) (t_file : Nat → Int32) (l2 : Int32) (l3 : Int32) (l5 : Int32) (l6 : Int32) : fX9_packets_125 rc3 (n + 1) t_wide t_size t_now t_file l2 l3 l5 l6 =
    if l5 ≤ l6 then
      fX9_packets_145 rc3 t_wide t_size t_now t_file l2 l3 l5
    else
      zb2 (fX9_tones t_wide t_size t_now t_file l6 l3) fun u2 u3 =>
      zlet (l6 + 1) fun x5 =>
      (fX9_packets_125 rc3 n) t_wide u2 t_now u3 l2 l3 l5 x5 := rfl
def fX9_packets_110 (rc3 : Int32 → Int32 → (Nat → Int32) → (Nat → Int32) → Int32 → Int32 → Int32 → Option (Int32 × (Nat → Int32))) (t_wide : Int32) (t_size : Int32) (t_now : Nat → Int32) (t_file : Nat → Int32) (l2 : Int32) (l3 : Int32) (l4 : Int32) (l5 : Int32) : Option (Int32 × (Nat → Int32)) :=
  zb2 (fX9_add t_size t_file ((l5 - l4) - 1)) fun u1 u2 =>
  fX9_packets_125 rc3 1000 t_wide u1 t_now u2 l2 l3 l5 l4
def fX9_packets_104 (rc3 : Int32 → Int32 → (Nat → Int32) → (Nat → Int32) → Int32 → Int32 → Int32 → Option (Int32 × (Nat → Int32))) (rc77 : Int32 → Int32 → (Nat → Int32) → (Nat → Int32) → Int32 → Int32 → Int32 → Int32 → Option (Int32 × (Nat → Int32))) (t_wide : Int32) (t_size : Int32) (t_now : Nat → Int32) (t_file : Nat → Int32) (l2 : Int32) (l3 : Int32) (l4 : Int32) (l5 : Int32) : Option (Int32 × (Nat → Int32)) :=
  zlet (l5 + 1) fun x1 =>
  rc77 t_wide t_size t_now t_file l2 l3 l4 x1
def fX9_packets_77 (rc3 : Int32 → Int32 → (Nat → Int32) → (Nat → Int32) → Int32 → Int32 → Int32 → Option (Int32 × (Nat → Int32))) : Nat → Int32 → Int32 → (Nat → Int32) → (Nat → Int32) → Int32 → Int32 → Int32 → Int32 → Option (Int32 × (Nat → Int32))
  | 0, _, _, _, _, _, _, _, _ => none
  | n + 1, t_wide, t_size, t_now, t_file, l2, l3, l4, l5 =>
    if l2 ≤ l5 then
      fX9_packets_110 rc3 t_wide t_size t_now t_file l2 l3 l4 l5
    else
      if l2 ≤ (l5 + 1) then
        fX9_packets_104 rc3 (fX9_packets_77 rc3 n) t_wide t_size t_now t_file l2 l3 l4 l5
      else
        zb1 (fX9_alike t_wide t_now l5 (l5 + 1)) fun r3 =>
        if r3 = 0 then
          fX9_packets_104 rc3 (fX9_packets_77 rc3 n) t_wide t_size t_now t_file l2 l3 l4 l5
        else
          fX9_packets_110 rc3 t_wide t_size t_now t_file l2 l3 l4 l5
theorem fX9_packets_77_s (rc3 : Int32 → Int32 → (Nat → Int32) → (Nat → Int32) → Int32 → Int32 → Int32 → Option (Int32 × (Nat → Int32))) (n : Nat) (t_wide : Int32) (t_size : Int32) (t_now : Nat → Int32) (t_file : Nat → Int32) (l2 : Int32) (l3 : Int32) (l4 : Int32) (l5 : Int32) : fX9_packets_77 rc3 (n + 1) t_wide t_size t_now t_file l2 l3 l4 l5 =
    if l2 ≤ l5 then
      fX9_packets_110 rc3 t_wide t_size t_now t_file l2 l3 l4 l5
    else
      if l2 ≤ (l5 + 1) then
        fX9_packets_104 rc3 (fX9_packets_77 rc3 n) t_wide t_size t_now t_file l2 l3 l4 l5
      else
        zb1 (fX9_alike t_wide t_now l5 (l5 + 1)) fun r3 =>
        if r3 = 0 then
          fX9_packets_104 rc3 (fX9_packets_77 rc3 n) t_wide t_size t_now t_file l2 l3 l4 l5
        else
          fX9_packets_110 rc3 t_wide t_size t_now t_file l2 l3 l4 l5 := rfl
def fX9_packets_55 (rc3 : Int32 → Int32 → (Nat → Int32) → (Nat → Int32) → Int32 → Int32 → Int32 → Option (Int32 × (Nat → Int32))) (t_wide : Int32) (t_size : Int32) (t_now : Nat → Int32) (t_file : Nat → Int32) (l2 : Int32) (l3 : Int32) (l4 : Int32) (l5 : Int32) : Option (Int32 × (Nat → Int32)) :=
  zb2 (fX9_add t_size t_file ((127 + l5) - l4)) fun u1 u2 =>
  zb2 (fX9_tones t_wide u1 t_now u2 l4 l3) fun u4 u5 =>
  fX9_packets_145 rc3 t_wide u4 t_now u5 l2 l3 l5
def fX9_packets_32 (rc3 : Int32 → Int32 → (Nat → Int32) → (Nat → Int32) → Int32 → Int32 → Int32 → Option (Int32 × (Nat → Int32))) : Nat → Int32 → Int32 → (Nat → Int32) → (Nat → Int32) → Int32 → Int32 → Int32 → Int32 → Option (Int32 × (Nat → Int32))
  | 0, _, _, _, _, _, _, _, _ => none
  | n + 1, t_wide, t_size, t_now, t_file, l2, l3, l4, l5 =>
    if l2 ≤ l5 then
      fX9_packets_55 rc3 t_wide t_size t_now t_file l2 l3 l4 l5
    else
      zb1 (fX9_alike t_wide t_now l4 l5) fun r2 =>
      if r2 = 0 then
        fX9_packets_55 rc3 t_wide t_size t_now t_file l2 l3 l4 l5
      else
        zlet (l5 + 1) fun x5 =>
        (fX9_packets_32 rc3 n) t_wide t_size t_now t_file l2 l3 l4 x5
theorem fX9_packets_32_s (rc3 : Int32 → Int32 → (Nat → Int32) → (Nat → Int32) → Int32 → Int32 → Int32 → Option (Int32 × (Nat → Int32))) (n : Nat) (t_wide : Int32) (t_size : Int32) (t_now : Nat → Int32) (t_file : Nat → Int32) (l2 : Int32) (l3 : Int32) (l4 : Int32) (l5 : Int32) : fX9_packets_32 rc3 (n + 1) t_wide t_size t_now t_file l2 l3 l4 l5 =
    if l2 ≤ l5 then
      fX9_packets_55 rc3 t_wide t_size t_now t_file l2 l3 l4 l5
    else
      zb1 (fX9_alike t_wide t_now l4 l5) fun r2 =>
      if r2 = 0 then
        fX9_packets_55 rc3 t_wide t_size t_now t_file l2 l3 l4 l5
      else
        zlet (l5 + 1) fun x5 =>
        (fX9_packets_32 rc3 n) t_wide t_size t_now t_file l2 l3 l4 x5 := rfl
def fX9_packets_3 : Nat → Int32 → Int32 → (Nat → Int32) → (Nat → Int32) → Int32 → Int32 → Int32 → Option (Int32 × (Nat → Int32))
  | 0, _, _, _, _, _, _, _ => none
  | n + 1, t_wide, t_size, t_now, t_file, l2, l3, l4 =>
    if l2 ≤ l4 then
      some (t_size, t_file)
    else
      zlet (l4 + 1) fun x2 =>
      if l2 ≤ x2 then
        fX9_packets_77 (fX9_packets_3 n) 1000 t_wide t_size t_now t_file l2 l3 l4 x2
      else
        zb1 (fX9_alike t_wide t_now l4 x2) fun r4 =>
        if r4 = 0 then
          fX9_packets_77 (fX9_packets_3 n) 1000 t_wide t_size t_now t_file l2 l3 l4 x2
        else
          fX9_packets_32 (fX9_packets_3 n) 1000 t_wide t_size t_now t_file l2 l3 l4 x2
theorem fX9_packets_3_s (n : Nat) (t_wide : Int32) (t_size : Int32) (t_now : Nat → Int32) (t_file : Nat → Int32) (l2 : Int32) (l3 : Int32) (l4 : Int32) : fX9_packets_3 (n + 1) t_wide t_size t_now t_file l2 l3 l4 =
    if l2 ≤ l4 then
      some (t_size, t_file)
    else
      zlet (l4 + 1) fun x2 =>
      if l2 ≤ x2 then
        fX9_packets_77 (fX9_packets_3 n) 1000 t_wide t_size t_now t_file l2 l3 l4 x2
      else
        zb1 (fX9_alike t_wide t_now l4 x2) fun r4 =>
        if r4 = 0 then
          fX9_packets_77 (fX9_packets_3 n) 1000 t_wide t_size t_now t_file l2 l3 l4 x2
        else
          fX9_packets_32 (fX9_packets_3 n) 1000 t_wide t_size t_now t_file l2 l3 l4 x2 := rfl
def fX9_packets (t_wide : Int32) (t_size : Int32) (t_now : Nat → Int32) (t_file : Nat → Int32) (v0 : Int32) (v1 : Int32) (v2 : Int32) : Option (Int32 × (Nat → Int32)) :=
  fX9_packets_3 1000 t_wide t_size t_now t_file v1 v2 v0
def fX9_writeFourth_133 : Nat → Int32 → Int32 → Int32 → (Nat → Int32) → (Nat → Int32) → Int32 → Int32 → Int32 → Option (Int32 × (Nat → Int32))
  | 0, _, _, _, _, _, _, _, _ => none
  | n + 1, t_wide, t_high, t_size, t_now, t_file, l1, l2, l3 =>
    if t_high ≤ l3 then
      some (t_size, t_file)
    else
      if l1 = 0 then
        some (t_size, t_file)
      else
        zb2 (fX9_packets t_wide t_size t_now t_file (t_wide * l3) ((t_wide * l3) + t_wide) l2) fun u3 u4 =>
        zlet (l3 + 1) fun x6 =>
        (fX9_writeFourth_133 n) t_wide t_high u3 t_now u4 l1 l2 x6
theorem fX9_writeFourth_133_s (n : Nat) (t_wide : Int32) (t_high : Int32) (t_size : Int32) (t_now : Nat → Int32) (t_file : Nat → Int32) (l1 : Int32) (l2 : Int32) (l3 : Int32) : fX9_writeFourth_133 (n + 1) t_wide t_high t_size t_now t_file l1 l2 l3 =
    if t_high ≤ l3 then
      some (t_size, t_file)
    else
      if l1 = 0 then
        some (t_size, t_file)
      else
        zb2 (fX9_packets t_wide t_size t_now t_file (t_wide * l3) ((t_wide * l3) + t_wide) l2) fun u3 u4 =>
        zlet (l3 + 1) fun x6 =>
        (fX9_writeFourth_133 n) t_wide t_high u3 t_now u4 l1 l2 x6 := rfl
def fX9_writeFourth_125 (rc102 : Int32 → Int32 → Int32 → (Nat → Int32) → (Nat → Int32) → Int32 → Int32 → Int32 → Option (Int32 × (Nat → Int32))) (t_wide : Int32) (t_high : Int32) (t_size : Int32) (t_now : Nat → Int32) (t_file : Nat → Int32) (l1 : Int32) (l2 : Int32) (l3 : Int32) : Option (Int32 × (Nat → Int32)) :=
  zlet (l3 + 1) fun x1 =>
  rc102 t_wide t_high t_size t_now t_file l1 l2 x1
def fX9_writeFourth_102 : Nat → Int32 → Int32 → Int32 → (Nat → Int32) → (Nat → Int32) → Int32 → Int32 → Int32 → Option (Int32 × (Nat → Int32))
  | 0, _, _, _, _, _, _, _, _ => none
  | n + 1, t_wide, t_high, t_size, t_now, t_file, l1, l2, l3 =>
    if (t_wide * t_high) ≤ l3 then
      fX9_writeFourth_133 1000 t_wide t_high t_size t_now t_file l1 l2 0
    else
      if l1 = 0 then
        zb2 (fX9_tones t_wide t_size t_now t_file l3 l2) fun u3 u4 =>
        fX9_writeFourth_125 (fX9_writeFourth_102 n) t_wide t_high u3 t_now u4 l1 l2 l3
      else
        fX9_writeFourth_125 (fX9_writeFourth_102 n) t_wide t_high t_size t_now t_file l1 l2 l3
theorem fX9_writeFourth_102_s (n : Nat) (t_wide : Int32) (t_high : Int32) (t_size : Int32) (t_now : Nat → Int32) (t_file : Nat → Int32) (l1 : Int32) (l2 : Int32) (l3 : Int32) : fX9_writeFourth_102 (n + 1) t_wide t_high t_size t_now t_file l1 l2 l3 =
    if (t_wide * t_high) ≤ l3 then
      fX9_writeFourth_133 1000 t_wide t_high t_size t_now t_file l1 l2 0
    else
      if l1 = 0 then
        zb2 (fX9_tones t_wide t_size t_now t_file l3 l2) fun u3 u4 =>
        fX9_writeFourth_125 (fX9_writeFourth_102 n) t_wide t_high u3 t_now u4 l1 l2 l3
      else
        fX9_writeFourth_125 (fX9_writeFourth_102 n) t_wide t_high t_size t_now t_file l1 l2 l3 := rfl
def fX9_writeFourth_97 (t_wide : Int32) (t_high : Int32) (t_size : Int32) (t_now : Nat → Int32) (t_file : Nat → Int32) (l1 : Int32) (l2 : Int32) (k1 : Int32) (k2 : Int32) : Option (Int32 × (Nat → Int32)) :=
  zb2 (fX9_addTwo t_size t_file k1 k2) fun u1 u2 =>
  fX9_writeFourth_102 1000 t_wide t_high u1 t_now u2 l1 l2 0
def fX9_writeFourth_51 (t_wide : Int32) (t_high : Int32) (t_size : Int32) (t_now : Nat → Int32) (t_file : Nat → Int32) (l1 : Int32) (l2 : Int32) (k1 : Int32) (k2 : Int32) : Option (Int32 × (Nat → Int32)) :=
  zb2 (fX9_add t_size t_file (k1 + k2)) fun u1 u2 =>
  zb2 (fX9_little u1 u2 0 9) fun u4 u5 =>
  zb2 (fX9_little u4 u5 t_wide 2) fun u7 u8 =>
  zb2 (fX9_little u7 u8 t_high 2) fun u10 u11 =>
  if l2 = 4 then
    fX9_writeFourth_97 t_wide t_high u10 t_now u11 l1 l2 (8 * l2) 40
  else
    fX9_writeFourth_97 t_wide t_high u10 t_now u11 l1 l2 (8 * l2) 32
def fX9_writeFourth_41 (t_wide : Int32) (t_high : Int32) (t_size : Int32) (t_now : Nat → Int32) (t_file : Nat → Int32) (l1 : Int32) (l2 : Int32) (k1 : Int32) : Option (Int32 × (Nat → Int32)) :=
  if l1 = 0 then
    fX9_writeFourth_51 t_wide t_high t_size t_now t_file l1 l2 k1 0
  else
    fX9_writeFourth_51 t_wide t_high t_size t_now t_file l1 l2 k1 8
def fX9_writeFourth_23 (t_wide : Int32) (t_high : Int32) (t_size : Int32) (t_now : Nat → Int32) (t_file : Nat → Int32) (l1 : Int32) (k0 : Int32) : Option (Int32 × (Nat → Int32)) :=
  zb2 (fX9_addTwo t_size t_file 0 0) fun u1 u2 =>
  if k0 = 1 then
    fX9_writeFourth_41 t_wide t_high u1 t_now u2 l1 k0 3
  else
    fX9_writeFourth_41 t_wide t_high u1 t_now u2 l1 k0 2
def fX9_writeFourth (t_wide : Int32) (t_high : Int32) (t_size : Int32) (t_now : Nat → Int32) (t_file : Nat → Int32) (v0 : Int32) : Option (Int32 × (Nat → Int32)) :=
  zb1 (fX9_grey t_wide t_high t_now) fun r1 =>
  if r1 = 0 then
    zb1 (fX9_opaque t_wide t_high t_now) fun r4 =>
    if r4 = 0 then
      fX9_writeFourth_23 t_wide t_high t_size t_now t_file v0 4
    else
      fX9_writeFourth_23 t_wide t_high t_size t_now t_file v0 3
  else
    fX9_writeFourth_23 t_wide t_high t_size t_now t_file v0 1
def fX9_encode_79 (t_wide : Int32) (t_high : Int32) (t_size : Int32) (t_now : Nat → Int32) (t_file : Nat → Int32) (t_table : Nat → Int32) (t_last : Nat → Int32) (k1 : Int32) : Option (Int32 × Int32 × (Nat → Int32) × (Nat → Int32) × (Nat → Int32)) :=
  zb2 (fX9_writeSecond t_wide t_high t_size t_now t_file k1) fun u1 u2 =>
  some (u1, u1, u2, t_table, t_last)
def fX9_encode_101 (t_wide : Int32) (t_high : Int32) (t_size : Int32) (t_now : Nat → Int32) (t_file : Nat → Int32) (t_table : Nat → Int32) (t_last : Nat → Int32) (k1 : Int32) : Option (Int32 × Int32 × (Nat → Int32) × (Nat → Int32) × (Nat → Int32)) :=
  zb2 (fX9_writeThird t_wide t_high t_size t_now t_file k1) fun u1 u2 =>
  some (u1, u1, u2, t_table, t_last)
def fX9_encode_118 (t_wide : Int32) (t_high : Int32) (t_size : Int32) (t_now : Nat → Int32) (t_file : Nat → Int32) (t_table : Nat → Int32) (t_last : Nat → Int32) (k1 : Int32) : Option (Int32 × Int32 × (Nat → Int32) × (Nat → Int32) × (Nat → Int32)) :=
  zb2 (fX9_writeFourth t_wide t_high t_size t_now t_file k1) fun u1 u2 =>
  some (u1, u1, u2, t_table, t_last)
def fX9_encode_47 (t_wide : Int32) (t_high : Int32) (t_now : Nat → Int32) (t_file : Nat → Int32) (t_table : Nat → Int32) (t_last : Nat → Int32) (l1 : Int32) (l2 : Int32) : Option (Int32 × Int32 × (Nat → Int32) × (Nat → Int32) × (Nat → Int32)) :=
  if l1 = 0 then
    zb4 (fX9_writeFirst t_wide t_high 0 t_now t_file t_table t_last) fun u7 u8 u9 u10 =>
    some (u7, u7, u8, u9, u10)
  else
    if l1 = 1 then
      if l2 = 1 then
        fX9_encode_79 t_wide t_high 0 t_now t_file t_table t_last 1
      else
        fX9_encode_79 t_wide t_high 0 t_now t_file t_table t_last 0
    else
      if l1 = 2 then
        if l2 = 1 then
          fX9_encode_101 t_wide t_high 0 t_now t_file t_table t_last 1
        else
          fX9_encode_101 t_wide t_high 0 t_now t_file t_table t_last 0
      else
        if l2 = 1 then
          fX9_encode_118 t_wide t_high 0 t_now t_file t_table t_last 1
        else
          fX9_encode_118 t_wide t_high 0 t_now t_file t_table t_last 0
def fX9_encode_38 (t_wide : Int32) (t_high : Int32) (t_size : Int32) (t_now : Nat → Int32) (t_file : Nat → Int32) (t_table : Nat → Int32) (t_last : Nat → Int32) (l1 : Int32) (l2 : Int32) : Option (Int32 × Int32 × (Nat → Int32) × (Nat → Int32) × (Nat → Int32)) :=
  zb1 (fX9_opaque t_wide t_high t_now) fun r1 =>
  if r1 = 0 then
    some ((-1), t_size, t_file, t_table, t_last)
  else
    fX9_encode_47 t_wide t_high t_now t_file t_table t_last l1 l2
def fX9_encode_23 (t_wide : Int32) (t_high : Int32) (t_size : Int32) (t_now : Nat → Int32) (t_file : Nat → Int32) (t_table : Nat → Int32) (t_last : Nat → Int32) (l1 : Int32) (l2 : Int32) (k0 : Int32) : Option (Int32 × Int32 × (Nat → Int32) × (Nat → Int32) × (Nat → Int32)) :=
  if k0 = 0 then
    some ((-1), t_size, t_file, t_table, t_last)
  else
    if l1 = 1 then
      fX9_encode_38 t_wide t_high t_size t_now t_file t_table t_last l1 l2
    else
      if l1 = 2 then
        fX9_encode_38 t_wide t_high t_size t_now t_file t_table t_last l1 l2
      else
        fX9_encode_47 t_wide t_high t_now t_file t_table t_last l1 l2
def fX9_encode_22 (t_wide : Int32) (t_high : Int32) (t_size : Int32) (t_now : Nat → Int32) (t_file : Nat → Int32) (t_table : Nat → Int32) (t_last : Nat → Int32) (l1 : Int32) (l2 : Int32) : Option (Int32 × Int32 × (Nat → Int32) × (Nat → Int32) × (Nat → Int32)) :=
  fX9_encode_23 t_wide t_high t_size t_now t_file t_table t_last l1 l2 0
def fX9_encode (t_wide : Int32) (t_high : Int32) (t_size : Int32) (t_now : Nat → Int32) (t_file : Nat → Int32) (t_table : Nat → Int32) (t_last : Nat → Int32) (v0 : Int32) (v1 : Int32) : Option (Int32 × Int32 × (Nat → Int32) × (Nat → Int32) × (Nat → Int32)) :=
  if v0 < 0 then
    fX9_encode_22 t_wide t_high t_size t_now t_file t_table t_last v0 v1
  else
    if 3 < v0 then
      fX9_encode_22 t_wide t_high t_size t_now t_file t_table t_last v0 v1
    else
      if v1 < 0 then
        fX9_encode_22 t_wide t_high t_size t_now t_file t_table t_last v0 v1
      else
        if 1 < v1 then
          fX9_encode_22 t_wide t_high t_size t_now t_file t_table t_last v0 v1
        else
          fX9_encode_23 t_wide t_high t_size t_now t_file t_table t_last v0 v1 1
def rmX9_colourOf : Room := { frames := 2, cells := 0, slots := 0, locals := 46 }
theorem qX9_colourOf_X9_alike_94 {args : Array Value} {s : State} (hts : ∀ w ∈ wsX9_colourOf, w.before args s = true) : CallW rmX9_colourOf s args RX9 RX9 94 yX9_alike cX9_alike 5 (some .boolean) wsX9_alike rmX9_alike 0 0 2 := cwV 2 hts gX9_colourOf_X9_alike rfl rfl rfl (by decide +kernel) ⟨Nat.le_of_ble_eq_true rfl, Nat.le_of_ble_eq_true rfl⟩
set_option maxHeartbeats 4000000 in
set_option maxRecDepth 100000 in
theorem wX9_colourOf_79 {p : Program} {l : Launch} {e : Env} {s : State} {m : MethodId} {args : Array Value} {below : List Frame} {meth : Method} {c : Code} {D : va_G} {A : Nat → Prop} {Q : State → Prop} {cI : ClassId} {h_t h_t_now h_t_file h_t_fresh h_t_colour h_t_table h_t_last h_t_one : Nat} {t_wide : Int32} {t_high : Int32} {t_size : Int32} {t_at : Int32} {t_fault : Int32} {t_newWide : Int32} {t_newHigh : Int32} {t_colours : Int32} {t_now : Nat → Int32} {t_file : Nat → Int32} {t_fresh : Nat → Int32} {t_colour : Nat → Int32} {t_table : Nat → Int32} {t_last : Nat → Int32} {t_one : Nat → Int32} {r0 : Int32} (C : CallFix p m c cX9_colourOf 6 s args wsX9_colourOf RX9) (hN : zN s) (hK : va_K D vwCl [(cI, .int)] s) (hA : ∀ q, s.heap.size ≤ q → A q) (hE : zEi p l e rmX9_colourOf s m args below meth c cX9_colourOf D A Q (zwX9 cI h_t h_t_now h_t_file h_t_fresh h_t_colour h_t_table h_t_last h_t_one t_wide t_high t_size t_at t_fault t_newWide t_newHigh t_colours t_now t_file t_fresh t_colour t_table t_last t_one) r0) {rc4 : Int32 → (Nat → Int32) → Int32 → Int32 → Int32 → Option (Int32)} (hr_4 : ∀ {l1 : Int32} {l2 : Int32} {l3 : Int32} {H : Heap} {locs : List Loc} {ls : Array Slot}, rc4 t_wide t_now l1 l2 l3 = some r0 → va_P D vwCl (zwX9 cI h_t h_t_now h_t_file h_t_fresh h_t_colour h_t_table h_t_last h_t_one t_wide t_high t_size t_at t_fault t_newWide t_newHigh t_colours t_now t_file t_fresh t_colour t_table t_last t_one) H → va_D A (zwX9 cI h_t h_t_now h_t_file h_t_fresh h_t_colour h_t_table h_t_last h_t_one t_wide t_high t_size t_at t_fault t_newWide t_newHigh t_colours t_now t_file t_fresh t_colour t_table t_last t_one) → va_S A s.heap H locs → lv_has ls 6 [(0, .ref h_t), (1, .int l1), (2, .int l2), (3, .int l3)] → W p l e rmX9_colourOf s m args below meth c H locs 0 0 Q (F0 m 4 ls [])) {l1 : Int32} {l2 : Int32} {l3 : Int32} {l4 : Int32} {l5 : Int32} {H : Heap} {locs : List Loc} {ls : Array Slot} : fX9_colourOf_79 rc4 t_wide t_now l1 l2 l3 = some r0 → va_P D vwCl (zwX9 cI h_t h_t_now h_t_file h_t_fresh h_t_colour h_t_table h_t_last h_t_one t_wide t_high t_size t_at t_fault t_newWide t_newHigh t_colours t_now t_file t_fresh t_colour t_table t_last t_one) H → va_D A (zwX9 cI h_t h_t_now h_t_file h_t_fresh h_t_colour h_t_table h_t_last h_t_one t_wide t_high t_size t_at t_fault t_newWide t_newHigh t_colours t_now t_file t_fresh t_colour t_table t_last t_one) → va_S A s.heap H locs → lv_has ls 6 [(0, .ref h_t), (1, .int l1), (2, .int l2), (3, .int l3), (4, .int l4), (5, .int l5)] → W p l e rmX9_colourOf s m args below meth c H locs 0 0 Q (F0 m 79 ls []) := by
  intro hf hP hD hS hl
  obtain ⟨hx, hb, hml, hown, hts⟩ := id C
  unfold fX9_colourOf_79 at hf
  obtain ⟨x1, ex1⟩ : ∃ y : Int32, y = l3 + 1 := ⟨_, rfl⟩
  replace hf := zlet_in hf ex1
  refine lv_iinc (v := x1) (lv' := [(3, .int x1), (0, .ref h_t), (1, .int l1), (2, .int l2), (4, .int l4), (5, .int l5)]) hx hb dX9_colourOf_79 hl (k := 3) rfl (by rw [ex1]; rfl) (by decide) rfl (fun ls hl => ?_)
  clear ex1
  refine lv_goto (tgt := 4) hx hb dX9_colourOf_82 (by decide) ?_
  exact hr_4 hf hP hD hS (lv_sub hl [1, 2, 3, 0] rfl)
set_option maxHeartbeats 4000000 in
set_option maxRecDepth 100000 in
theorem wX9_colourOf_41 {p : Program} {l : Launch} {e : Env} {s : State} {m : MethodId} {args : Array Value} {below : List Frame} {meth : Method} {c : Code} {D : va_G} {A : Nat → Prop} {Q : State → Prop} {cI : ClassId} {h_t h_t_now h_t_file h_t_fresh h_t_colour h_t_table h_t_last h_t_one : Nat} {t_wide : Int32} {t_high : Int32} {t_size : Int32} {t_at : Int32} {t_fault : Int32} {t_newWide : Int32} {t_newHigh : Int32} {t_colours : Int32} {t_now : Nat → Int32} {t_file : Nat → Int32} {t_fresh : Nat → Int32} {t_colour : Nat → Int32} {t_table : Nat → Int32} {t_last : Nat → Int32} {t_one : Nat → Int32} {r0 : Int32} (C : CallFix p m c cX9_colourOf 6 s args wsX9_colourOf RX9) (hN : zN s) (hK : va_K D vwCl [(cI, .int)] s) (hA : ∀ q, s.heap.size ≤ q → A q) (hE : zEi p l e rmX9_colourOf s m args below meth c cX9_colourOf D A Q (zwX9 cI h_t h_t_now h_t_file h_t_fresh h_t_colour h_t_table h_t_last h_t_one t_wide t_high t_size t_at t_fault t_newWide t_newHigh t_colours t_now t_file t_fresh t_colour t_table t_last t_one) r0) {rc4 : Int32 → (Nat → Int32) → Int32 → Int32 → Int32 → Option (Int32)} (hr_4 : ∀ {l1 : Int32} {l2 : Int32} {l3 : Int32} {H : Heap} {locs : List Loc} {ls : Array Slot}, rc4 t_wide t_now l1 l2 l3 = some r0 → va_P D vwCl (zwX9 cI h_t h_t_now h_t_file h_t_fresh h_t_colour h_t_table h_t_last h_t_one t_wide t_high t_size t_at t_fault t_newWide t_newHigh t_colours t_now t_file t_fresh t_colour t_table t_last t_one) H → va_D A (zwX9 cI h_t h_t_now h_t_file h_t_fresh h_t_colour h_t_table h_t_last h_t_one t_wide t_high t_size t_at t_fault t_newWide t_newHigh t_colours t_now t_file t_fresh t_colour t_table t_last t_one) → va_S A s.heap H locs → lv_has ls 6 [(0, .ref h_t), (1, .int l1), (2, .int l2), (3, .int l3)] → W p l e rmX9_colourOf s m args below meth c H locs 0 0 Q (F0 m 4 ls [])) {rc15 : Int32 → (Nat → Int32) → Int32 → Int32 → Int32 → Int32 → Int32 → Option (Int32)} (hr_15 : ∀ {l1 : Int32} {l2 : Int32} {l3 : Int32} {l4 : Int32} {l5 : Int32} {H : Heap} {locs : List Loc} {ls : Array Slot}, rc15 t_wide t_now l1 l2 l3 l4 l5 = some r0 → va_P D vwCl (zwX9 cI h_t h_t_now h_t_file h_t_fresh h_t_colour h_t_table h_t_last h_t_one t_wide t_high t_size t_at t_fault t_newWide t_newHigh t_colours t_now t_file t_fresh t_colour t_table t_last t_one) H → va_D A (zwX9 cI h_t h_t_now h_t_file h_t_fresh h_t_colour h_t_table h_t_last h_t_one t_wide t_high t_size t_at t_fault t_newWide t_newHigh t_colours t_now t_file t_fresh t_colour t_table t_last t_one) → va_S A s.heap H locs → lv_has ls 6 [(0, .ref h_t), (1, .int l1), (2, .int l2), (3, .int l3), (4, .int l4), (5, .int l5)] → W p l e rmX9_colourOf s m args below meth c H locs 0 0 Q (F0 m 15 ls [])) {l1 : Int32} {l2 : Int32} {l3 : Int32} {l4 : Int32} {l5 : Int32} {k0 : Int32} {H : Heap} {locs : List Loc} {ls : Array Slot} : fX9_colourOf_41 rc4 rc15 t_wide t_now l1 l2 l3 l5 k0 = some r0 → va_P D vwCl (zwX9 cI h_t h_t_now h_t_file h_t_fresh h_t_colour h_t_table h_t_last h_t_one t_wide t_high t_size t_at t_fault t_newWide t_newHigh t_colours t_now t_file t_fresh t_colour t_table t_last t_one) H → va_D A (zwX9 cI h_t h_t_now h_t_file h_t_fresh h_t_colour h_t_table h_t_last h_t_one t_wide t_high t_size t_at t_fault t_newWide t_newHigh t_colours t_now t_file t_fresh t_colour t_table t_last t_one) → va_S A s.heap H locs → lv_has ls 6 [(0, .ref h_t), (1, .int l1), (2, .int l2), (3, .int l3), (4, .int l4), (5, .int l5)] → W p l e rmX9_colourOf s m args below meth c H locs 0 0 Q (F0 m 41 ls [.int k0]) := by
  intro hf hP hD hS hl
  obtain ⟨hx, hb, hml, hown, hts⟩ := id C
  unfold fX9_colourOf_41 at hf
  refine lv_istore (lv' := [(4, .int k0), (0, .ref h_t), (1, .int l1), (2, .int l2), (3, .int l3), (5, .int l5)]) hx hb dX9_colourOf_41 hl (by decide) rfl (fun ls hl => ?_)
  obtain ⟨x1, ex1⟩ : ∃ y : Int32, y = l5 + 1 := ⟨_, rfl⟩
  replace hf := zlet_in hf ex1
  refine lv_iinc (v := x1) (lv' := [(5, .int x1), (4, .int k0), (0, .ref h_t), (1, .int l1), (2, .int l2), (3, .int l3)]) hx hb dX9_colourOf_43 hl (k := 5) rfl (by rw [ex1]; rfl) (by decide) rfl (fun ls hl => ?_)
  clear ex1
  refine lv_goto (tgt := 15) hx hb dX9_colourOf_46 (by decide) ?_
  exact hr_15 hf hP hD hS (lv_sub hl [2, 3, 4, 5, 1, 0] rfl)
set_option maxHeartbeats 4000000 in
set_option maxRecDepth 100000 in
theorem wX9_colourOf_40 {p : Program} {l : Launch} {e : Env} {s : State} {m : MethodId} {args : Array Value} {below : List Frame} {meth : Method} {c : Code} {D : va_G} {A : Nat → Prop} {Q : State → Prop} {cI : ClassId} {h_t h_t_now h_t_file h_t_fresh h_t_colour h_t_table h_t_last h_t_one : Nat} {t_wide : Int32} {t_high : Int32} {t_size : Int32} {t_at : Int32} {t_fault : Int32} {t_newWide : Int32} {t_newHigh : Int32} {t_colours : Int32} {t_now : Nat → Int32} {t_file : Nat → Int32} {t_fresh : Nat → Int32} {t_colour : Nat → Int32} {t_table : Nat → Int32} {t_last : Nat → Int32} {t_one : Nat → Int32} {r0 : Int32} (C : CallFix p m c cX9_colourOf 6 s args wsX9_colourOf RX9) (hN : zN s) (hK : va_K D vwCl [(cI, .int)] s) (hA : ∀ q, s.heap.size ≤ q → A q) (hE : zEi p l e rmX9_colourOf s m args below meth c cX9_colourOf D A Q (zwX9 cI h_t h_t_now h_t_file h_t_fresh h_t_colour h_t_table h_t_last h_t_one t_wide t_high t_size t_at t_fault t_newWide t_newHigh t_colours t_now t_file t_fresh t_colour t_table t_last t_one) r0) {rc4 : Int32 → (Nat → Int32) → Int32 → Int32 → Int32 → Option (Int32)} (hr_4 : ∀ {l1 : Int32} {l2 : Int32} {l3 : Int32} {H : Heap} {locs : List Loc} {ls : Array Slot}, rc4 t_wide t_now l1 l2 l3 = some r0 → va_P D vwCl (zwX9 cI h_t h_t_now h_t_file h_t_fresh h_t_colour h_t_table h_t_last h_t_one t_wide t_high t_size t_at t_fault t_newWide t_newHigh t_colours t_now t_file t_fresh t_colour t_table t_last t_one) H → va_D A (zwX9 cI h_t h_t_now h_t_file h_t_fresh h_t_colour h_t_table h_t_last h_t_one t_wide t_high t_size t_at t_fault t_newWide t_newHigh t_colours t_now t_file t_fresh t_colour t_table t_last t_one) → va_S A s.heap H locs → lv_has ls 6 [(0, .ref h_t), (1, .int l1), (2, .int l2), (3, .int l3)] → W p l e rmX9_colourOf s m args below meth c H locs 0 0 Q (F0 m 4 ls [])) {rc15 : Int32 → (Nat → Int32) → Int32 → Int32 → Int32 → Int32 → Int32 → Option (Int32)} (hr_15 : ∀ {l1 : Int32} {l2 : Int32} {l3 : Int32} {l4 : Int32} {l5 : Int32} {H : Heap} {locs : List Loc} {ls : Array Slot}, rc15 t_wide t_now l1 l2 l3 l4 l5 = some r0 → va_P D vwCl (zwX9 cI h_t h_t_now h_t_file h_t_fresh h_t_colour h_t_table h_t_last h_t_one t_wide t_high t_size t_at t_fault t_newWide t_newHigh t_colours t_now t_file t_fresh t_colour t_table t_last t_one) H → va_D A (zwX9 cI h_t h_t_now h_t_file h_t_fresh h_t_colour h_t_table h_t_last h_t_one t_wide t_high t_size t_at t_fault t_newWide t_newHigh t_colours t_now t_file t_fresh t_colour t_table t_last t_one) → va_S A s.heap H locs → lv_has ls 6 [(0, .ref h_t), (1, .int l1), (2, .int l2), (3, .int l3), (4, .int l4), (5, .int l5)] → W p l e rmX9_colourOf s m args below meth c H locs 0 0 Q (F0 m 15 ls [])) {l1 : Int32} {l2 : Int32} {l3 : Int32} {l4 : Int32} {l5 : Int32} {H : Heap} {locs : List Loc} {ls : Array Slot} : fX9_colourOf_40 rc4 rc15 t_wide t_now l1 l2 l3 l5 = some r0 → va_P D vwCl (zwX9 cI h_t h_t_now h_t_file h_t_fresh h_t_colour h_t_table h_t_last h_t_one t_wide t_high t_size t_at t_fault t_newWide t_newHigh t_colours t_now t_file t_fresh t_colour t_table t_last t_one) H → va_D A (zwX9 cI h_t h_t_now h_t_file h_t_fresh h_t_colour h_t_table h_t_last h_t_one t_wide t_high t_size t_at t_fault t_newWide t_newHigh t_colours t_now t_file t_fresh t_colour t_table t_last t_one) → va_S A s.heap H locs → lv_has ls 6 [(0, .ref h_t), (1, .int l1), (2, .int l2), (3, .int l3), (4, .int l4), (5, .int l5)] → W p l e rmX9_colourOf s m args below meth c H locs 0 0 Q (F0 m 40 ls []) := by
  intro hf hP hD hS hl
  obtain ⟨hx, hb, hml, hown, hts⟩ := id C
  unfold fX9_colourOf_40 at hf
  refine lv_iconst (v := 0) hx hb dX9_colourOf_40 (by decide) ?_
  exact wX9_colourOf_41 C hN hK hA hE hr_4 hr_15 hf hP hD hS (lv_sub hl [0, 1, 2, 3, 4, 5] rfl)
set_option maxHeartbeats 4000000 in
set_option maxRecDepth 100000 in
theorem wX9_colourOf_15 {p : Program} {l : Launch} {e : Env} {s : State} {m : MethodId} {args : Array Value} {below : List Frame} {meth : Method} {c : Code} {D : va_G} {A : Nat → Prop} {Q : State → Prop} {cI : ClassId} {h_t h_t_now h_t_file h_t_fresh h_t_colour h_t_table h_t_last h_t_one : Nat} {t_wide : Int32} {t_high : Int32} {t_size : Int32} {t_at : Int32} {t_fault : Int32} {t_newWide : Int32} {t_newHigh : Int32} {t_colours : Int32} {t_now : Nat → Int32} {t_file : Nat → Int32} {t_fresh : Nat → Int32} {t_colour : Nat → Int32} {t_table : Nat → Int32} {t_last : Nat → Int32} {t_one : Nat → Int32} {r0 : Int32} (C : CallFix p m c cX9_colourOf 6 s args wsX9_colourOf RX9) (hN : zN s) (hK : va_K D vwCl [(cI, .int)] s) (hA : ∀ q, s.heap.size ≤ q → A q) (hE : zEi p l e rmX9_colourOf s m args below meth c cX9_colourOf D A Q (zwX9 cI h_t h_t_now h_t_file h_t_fresh h_t_colour h_t_table h_t_last h_t_one t_wide t_high t_size t_at t_fault t_newWide t_newHigh t_colours t_now t_file t_fresh t_colour t_table t_last t_one) r0) {rc4 : Int32 → (Nat → Int32) → Int32 → Int32 → Int32 → Option (Int32)} (hr_4 : ∀ {l1 : Int32} {l2 : Int32} {l3 : Int32} {H : Heap} {locs : List Loc} {ls : Array Slot}, rc4 t_wide t_now l1 l2 l3 = some r0 → va_P D vwCl (zwX9 cI h_t h_t_now h_t_file h_t_fresh h_t_colour h_t_table h_t_last h_t_one t_wide t_high t_size t_at t_fault t_newWide t_newHigh t_colours t_now t_file t_fresh t_colour t_table t_last t_one) H → va_D A (zwX9 cI h_t h_t_now h_t_file h_t_fresh h_t_colour h_t_table h_t_last h_t_one t_wide t_high t_size t_at t_fault t_newWide t_newHigh t_colours t_now t_file t_fresh t_colour t_table t_last t_one) → va_S A s.heap H locs → lv_has ls 6 [(0, .ref h_t), (1, .int l1), (2, .int l2), (3, .int l3)] → W p l e rmX9_colourOf s m args below meth c H locs 0 0 Q (F0 m 4 ls [])) (n : Nat) : ∀ {l1 : Int32} {l2 : Int32} {l3 : Int32} {l4 : Int32} {l5 : Int32} {H : Heap} {locs : List Loc} {ls : Array Slot}, fX9_colourOf_15 rc4 n t_wide t_now l1 l2 l3 l4 l5 = some r0 → va_P D vwCl (zwX9 cI h_t h_t_now h_t_file h_t_fresh h_t_colour h_t_table h_t_last h_t_one t_wide t_high t_size t_at t_fault t_newWide t_newHigh t_colours t_now t_file t_fresh t_colour t_table t_last t_one) H → va_D A (zwX9 cI h_t h_t_now h_t_file h_t_fresh h_t_colour h_t_table h_t_last h_t_one t_wide t_high t_size t_at t_fault t_newWide t_newHigh t_colours t_now t_file t_fresh t_colour t_table t_last t_one) → va_S A s.heap H locs → lv_has ls 6 [(0, .ref h_t), (1, .int l1), (2, .int l2), (3, .int l3), (4, .int l4), (5, .int l5)] → W p l e rmX9_colourOf s m args below meth c H locs 0 0 Q (F0 m 15 ls []) := by
  obtain ⟨hx, hb, hml, hown, hts⟩ := id C
  induction n with
  | zero =>
    intro l1 l2 l3 l4 l5 H locs ls hf
    cases hf
  | succ n hr_15 =>
    intro l1 l2 l3 l4 l5 H locs ls hf hP hD hS hl
    rw [fX9_colourOf_15_s] at hf
    refine lv_iload hx hb dX9_colourOf_15 (lv_at hl 5 rfl) ?_
    refine lv_iload_n hx hb dX9_colourOf_17 rfl (lv_at hl 3 rfl) ?_
    refine lv_icmp_ge (tgt := 49) hx hb dX9_colourOf_18 (by decide) (fun c1 => ?_) (fun c1 => ?_)
    · replace hf := zif_t hf c1
      refine lv_iload hx hb dX9_colourOf_49 (lv_at hl 4 rfl) ?_
      refine lv_if_eq (tgt := 79) hx hb dX9_colourOf_51 (by decide) (fun c2 => ?_) (fun c2 => ?_)
      · replace hf := zif_t hf c2
        exact wX9_colourOf_79 C hN hK hA hE hr_4 hf hP hD hS (lv_sub hl [0, 1, 2, 3, 4, 5] rfl)
      · replace hf := zif_f hf c2
        refine lv_aload_n hx hb dX9_colourOf_54 rfl (lv_at hl 0 rfl) ?_
        refine lv_iload_n hx hb dX9_colourOf_55 rfl (lv_at hl 3 rfl) ?_
        refine lv_iload_n hx hb dX9_colourOf_56 rfl (lv_at hl 1 rfl) ?_
        obtain ⟨r3, hc4, hf⟩ := zb1_in hf
        refine zc_i (va_runV (As := [.int l3, .int l1]) (rest := []) C (mX9_alike l D cI H.size h_t h_t_now h_t_file h_t_fresh h_t_colour h_t_table h_t_last h_t_one t_wide t_high t_size t_at t_fault t_newWide t_newHigh t_colours t_now t_file t_fresh t_colour t_table t_last t_one l3 l1 r3 hc4) (qX9_colourOf_X9_alike_94 hts) ⟨zP_blind, va_recv hK hP (ci := 8) (q0 := 0) rfl rfl, zpre hK hN hP hD [0, 1, 2, 3, 4, 5, 6, 7] rfl rfl⟩ rfl rfl hl.1 rfl (lv_room (Nat.le_of_ble_eq_true rfl)) dX9_colourOf_57 ⟨Nat.zero_le _, Nat.zero_le _⟩) hP hD hS hA [0, 1, 2, 3, 4, 5, 6, 7] [] [0, 1, 2, 3, 4, 5, 6, 7] (ws' := zwX9 cI h_t h_t_now h_t_file h_t_fresh h_t_colour h_t_table h_t_last h_t_one t_wide t_high t_size t_at t_fault t_newWide t_newHigh t_colours t_now t_file t_fresh t_colour t_table t_last t_one) rfl rfl rfl rfl rfl rfl (fun H locs hP hD hS => ?_)
        refine lv_if_eq (tgt := 76) hx hb dX9_colourOf_60 (by decide) (fun c5 => ?_) (fun c5 => ?_)
        · replace hf := zif_t hf c5
          obtain ⟨x6, ex6⟩ : ∃ y : Int32, y = l2 + 1 := ⟨_, rfl⟩
          replace hf := zlet_in hf ex6
          refine lv_iinc (v := x6) (lv' := [(2, .int x6), (0, .ref h_t), (1, .int l1), (3, .int l3), (4, .int l4), (5, .int l5)]) hx hb dX9_colourOf_76 hl (k := 2) rfl (by rw [ex6]; rfl) (by decide) rfl (fun ls hl => ?_)
          clear ex6
          exact wX9_colourOf_79 C hN hK hA hE hr_4 hf hP hD hS (lv_sub hl [1, 2, 0, 3, 4, 5] rfl)
        · replace hf := zif_f hf c5
          refine lv_iload_n hx hb dX9_colourOf_63 rfl (lv_at hl 3 rfl) ?_
          refine lv_iload_n hx hb dX9_colourOf_64 rfl (lv_at hl 1 rfl) ?_
          refine lv_icmp_ne (tgt := 74) hx hb dX9_colourOf_65 (by decide) (fun c7 => ?_) (fun c7 => ?_)
          · replace hf := zif_f hf c7
            refine lv_iload_n hx hb dX9_colourOf_74 rfl (lv_at hl 2 rfl) ?_
            cases hf
            exact hE _ _ _ _ dX9_colourOf_75 hP hD hS
          · replace hf := zif_t hf c7
            refine lv_iconst (v := (-1)) hx hb dX9_colourOf_68 (by decide) ?_
            refine lv_iload_n hx hb dX9_colourOf_69 rfl (lv_at hl 2 rfl) ?_
            refine lv_isub hx hb dX9_colourOf_70 ?_
            refine lv_goto (tgt := 75) hx hb dX9_colourOf_71 (by decide) ?_
            refine lv_topi (fun x8 ex8 => ?_)
            replace hf := zlet_in hf ex8
            clear ex8
            cases hf
            exact hE _ _ _ _ dX9_colourOf_75 hP hD hS
    · replace hf := zif_f hf c1
      refine lv_iload hx hb dX9_colourOf_21 (lv_at hl 4 rfl) ?_
      refine lv_if_eq (tgt := 40) hx hb dX9_colourOf_23 (by decide) (fun c9 => ?_) (fun c9 => ?_)
      · replace hf := zif_t hf c9
        exact wX9_colourOf_40 C hN hK hA hE hr_4 hr_15 hf hP hD hS (lv_sub hl [0, 1, 2, 3, 4, 5] rfl)
      · replace hf := zif_f hf c9
        refine lv_aload_n hx hb dX9_colourOf_26 rfl (lv_at hl 0 rfl) ?_
        refine lv_iload hx hb dX9_colourOf_27 (lv_at hl 5 rfl) ?_
        refine lv_iload_n hx hb dX9_colourOf_29 rfl (lv_at hl 3 rfl) ?_
        obtain ⟨r10, hc11, hf⟩ := zb1_in hf
        refine zc_i (va_runV (As := [.int l5, .int l3]) (rest := []) C (mX9_alike l D cI H.size h_t h_t_now h_t_file h_t_fresh h_t_colour h_t_table h_t_last h_t_one t_wide t_high t_size t_at t_fault t_newWide t_newHigh t_colours t_now t_file t_fresh t_colour t_table t_last t_one l5 l3 r10 hc11) (qX9_colourOf_X9_alike_94 hts) ⟨zP_blind, va_recv hK hP (ci := 8) (q0 := 0) rfl rfl, zpre hK hN hP hD [0, 1, 2, 3, 4, 5, 6, 7] rfl rfl⟩ rfl rfl hl.1 rfl (lv_room (Nat.le_of_ble_eq_true rfl)) dX9_colourOf_30 ⟨Nat.zero_le _, Nat.zero_le _⟩) hP hD hS hA [0, 1, 2, 3, 4, 5, 6, 7] [] [0, 1, 2, 3, 4, 5, 6, 7] (ws' := zwX9 cI h_t h_t_now h_t_file h_t_fresh h_t_colour h_t_table h_t_last h_t_one t_wide t_high t_size t_at t_fault t_newWide t_newHigh t_colours t_now t_file t_fresh t_colour t_table t_last t_one) rfl rfl rfl rfl rfl rfl (fun H locs hP hD hS => ?_)
        refine lv_if_ne (tgt := 40) hx hb dX9_colourOf_33 (by decide) (fun c12 => ?_) (fun c12 => ?_)
        · replace hf := zif_f hf c12
          exact wX9_colourOf_40 C hN hK hA hE hr_4 hr_15 hf hP hD hS (lv_sub hl [0, 1, 2, 3, 4, 5] rfl)
        · replace hf := zif_t hf c12
          refine lv_iconst (v := 1) hx hb dX9_colourOf_36 (by decide) ?_
          refine lv_goto (tgt := 41) hx hb dX9_colourOf_37 (by decide) ?_
          exact wX9_colourOf_41 C hN hK hA hE hr_4 hr_15 hf hP hD hS (lv_sub hl [0, 1, 2, 3, 4, 5] rfl)
set_option maxHeartbeats 4000000 in
set_option maxRecDepth 100000 in
theorem wX9_colourOf_4 {p : Program} {l : Launch} {e : Env} {s : State} {m : MethodId} {args : Array Value} {below : List Frame} {meth : Method} {c : Code} {D : va_G} {A : Nat → Prop} {Q : State → Prop} {cI : ClassId} {h_t h_t_now h_t_file h_t_fresh h_t_colour h_t_table h_t_last h_t_one : Nat} {t_wide : Int32} {t_high : Int32} {t_size : Int32} {t_at : Int32} {t_fault : Int32} {t_newWide : Int32} {t_newHigh : Int32} {t_colours : Int32} {t_now : Nat → Int32} {t_file : Nat → Int32} {t_fresh : Nat → Int32} {t_colour : Nat → Int32} {t_table : Nat → Int32} {t_last : Nat → Int32} {t_one : Nat → Int32} {r0 : Int32} (C : CallFix p m c cX9_colourOf 6 s args wsX9_colourOf RX9) (hN : zN s) (hK : va_K D vwCl [(cI, .int)] s) (hA : ∀ q, s.heap.size ≤ q → A q) (hE : zEi p l e rmX9_colourOf s m args below meth c cX9_colourOf D A Q (zwX9 cI h_t h_t_now h_t_file h_t_fresh h_t_colour h_t_table h_t_last h_t_one t_wide t_high t_size t_at t_fault t_newWide t_newHigh t_colours t_now t_file t_fresh t_colour t_table t_last t_one) r0) (n : Nat) : ∀ {l1 : Int32} {l2 : Int32} {l3 : Int32} {H : Heap} {locs : List Loc} {ls : Array Slot}, fX9_colourOf_4 n t_wide t_now l1 l2 l3 = some r0 → va_P D vwCl (zwX9 cI h_t h_t_now h_t_file h_t_fresh h_t_colour h_t_table h_t_last h_t_one t_wide t_high t_size t_at t_fault t_newWide t_newHigh t_colours t_now t_file t_fresh t_colour t_table t_last t_one) H → va_D A (zwX9 cI h_t h_t_now h_t_file h_t_fresh h_t_colour h_t_table h_t_last h_t_one t_wide t_high t_size t_at t_fault t_newWide t_newHigh t_colours t_now t_file t_fresh t_colour t_table t_last t_one) → va_S A s.heap H locs → lv_has ls 6 [(0, .ref h_t), (1, .int l1), (2, .int l2), (3, .int l3)] → W p l e rmX9_colourOf s m args below meth c H locs 0 0 Q (F0 m 4 ls []) := by
  obtain ⟨hx, hb, hml, hown, hts⟩ := id C
  induction n with
  | zero =>
    intro l1 l2 l3 H locs ls hf
    cases hf
  | succ n hr_4 =>
    intro l1 l2 l3 H locs ls hf hP hD hS hl
    rw [fX9_colourOf_4_s] at hf
    refine lv_iload_n hx hb dX9_colourOf_4 rfl (lv_at hl 3 rfl) ?_
    refine lv_iload_n hx hb dX9_colourOf_5 rfl (lv_at hl 1 rfl) ?_
    refine lv_icmp_gt (tgt := 85) hx hb dX9_colourOf_6 (by decide) (fun c1 => ?_) (fun c1 => ?_)
    · replace hf := zif_t hf c1
      refine lv_iload_n hx hb dX9_colourOf_85 rfl (lv_at hl 2 rfl) ?_
      cases hf
      exact hE _ _ _ _ dX9_colourOf_86 hP hD hS
    · replace hf := zif_f hf c1
      refine lv_iconst (v := 1) hx hb dX9_colourOf_9 (by decide) ?_
      refine lv_istore (lv' := [(4, .int 1), (0, .ref h_t), (1, .int l1), (2, .int l2), (3, .int l3)]) hx hb dX9_colourOf_10 hl (by decide) rfl (fun ls hl => ?_)
      refine lv_iconst (v := 0) hx hb dX9_colourOf_12 (by decide) ?_
      refine lv_istore (lv' := [(5, .int 0), (4, .int 1), (0, .ref h_t), (1, .int l1), (2, .int l2), (3, .int l3)]) hx hb dX9_colourOf_13 hl (by decide) rfl (fun ls hl => ?_)
      exact wX9_colourOf_15 C hN hK hA hE hr_4 1000 hf hP hD hS (lv_sub hl [2, 3, 4, 5, 1, 0] rfl)
set_option maxHeartbeats 4000000 in
set_option maxRecDepth 100000 in
theorem wX9_colourOf_0 {p : Program} {l : Launch} {e : Env} {s : State} {m : MethodId} {args : Array Value} {below : List Frame} {meth : Method} {c : Code} {D : va_G} {A : Nat → Prop} {Q : State → Prop} {cI : ClassId} {h_t h_t_now h_t_file h_t_fresh h_t_colour h_t_table h_t_last h_t_one : Nat} {t_wide : Int32} {t_high : Int32} {t_size : Int32} {t_at : Int32} {t_fault : Int32} {t_newWide : Int32} {t_newHigh : Int32} {t_colours : Int32} {t_now : Nat → Int32} {t_file : Nat → Int32} {t_fresh : Nat → Int32} {t_colour : Nat → Int32} {t_table : Nat → Int32} {t_last : Nat → Int32} {t_one : Nat → Int32} {r0 : Int32} (C : CallFix p m c cX9_colourOf 6 s args wsX9_colourOf RX9) (hN : zN s) (hK : va_K D vwCl [(cI, .int)] s) (hA : ∀ q, s.heap.size ≤ q → A q) (hE : zEi p l e rmX9_colourOf s m args below meth c cX9_colourOf D A Q (zwX9 cI h_t h_t_now h_t_file h_t_fresh h_t_colour h_t_table h_t_last h_t_one t_wide t_high t_size t_at t_fault t_newWide t_newHigh t_colours t_now t_file t_fresh t_colour t_table t_last t_one) r0) {v0 : Int32} {H : Heap} {locs : List Loc} {ls : Array Slot} : fX9_colourOf t_wide t_now v0 = some r0 → va_P D vwCl (zwX9 cI h_t h_t_now h_t_file h_t_fresh h_t_colour h_t_table h_t_last h_t_one t_wide t_high t_size t_at t_fault t_newWide t_newHigh t_colours t_now t_file t_fresh t_colour t_table t_last t_one) H → va_D A (zwX9 cI h_t h_t_now h_t_file h_t_fresh h_t_colour h_t_table h_t_last h_t_one t_wide t_high t_size t_at t_fault t_newWide t_newHigh t_colours t_now t_file t_fresh t_colour t_table t_last t_one) → va_S A s.heap H locs → lv_has ls 6 [(0, .ref h_t), (1, .int v0)] → W p l e rmX9_colourOf s m args below meth c H locs 0 0 Q (F0 m 0 ls []) := by
  intro hf hP hD hS hl
  obtain ⟨hx, hb, hml, hown, hts⟩ := id C
  unfold fX9_colourOf at hf
  refine lv_iconst (v := 0) hx hb dX9_colourOf_0 (by decide) ?_
  refine lv_istore_n (lv' := [(2, .int 0), (0, .ref h_t), (1, .int v0)]) hx hb dX9_colourOf_1 rfl hl (by decide) rfl (fun ls hl => ?_)
  refine lv_iconst (v := 0) hx hb dX9_colourOf_2 (by decide) ?_
  refine lv_istore_n (lv' := [(3, .int 0), (2, .int 0), (0, .ref h_t), (1, .int v0)]) hx hb dX9_colourOf_3 rfl hl (by decide) rfl (fun ls hl => ?_)
  exact wX9_colourOf_4 C hN hK hA hE 1000 hf hP hD hS (lv_sub hl [2, 3, 1, 0] rfl)
set_option maxHeartbeats 4000000 in
set_option maxRecDepth 100000 in
theorem mX9_colourOf (l : Launch) (D : va_G) (cI : ClassId) (sz : Nat) (h_t h_t_now h_t_file h_t_fresh h_t_colour h_t_table h_t_last h_t_one : Nat) (t_wide : Int32) (t_high : Int32) (t_size : Int32) (t_at : Int32) (t_fault : Int32) (t_newWide : Int32) (t_newHigh : Int32) (t_colours : Int32) (t_now : Nat → Int32) (t_file : Nat → Int32) (t_fresh : Nat → Int32) (t_colour : Nat → Int32) (t_table : Nat → Int32) (t_last : Nat → Int32) (t_one : Nat → Int32) (v0 : Int32) (r0 : Int32) (hf : fX9_colourOf t_wide t_now v0 = some r0) : Met l yX9_colourOf wsX9_colourOf rmX9_colourOf (va_Pc [.ref h_t, .int v0] (zP D [(cI, .int)] (zwX9 cI h_t h_t_now h_t_file h_t_fresh h_t_colour h_t_table h_t_last h_t_one t_wide t_high t_size t_at t_fault t_newWide t_newHigh t_colours t_now t_file t_fresh t_colour t_table t_last t_one) sz)) (zQi D (zwX9 cI h_t h_t_now h_t_file h_t_fresh h_t_colour h_t_table h_t_last h_t_one t_wide t_high t_size t_at t_fault t_newWide t_newHigh t_colours t_now t_file t_fresh t_colour t_table t_last t_one) sz r0 (zwX9 cI h_t h_t_now h_t_file h_t_fresh h_t_colour h_t_table h_t_last h_t_one t_wide t_high t_size t_at t_fault t_newWide t_newHigh t_colours t_now t_file t_fresh t_colour t_table t_last t_one)) 0 0 (va_A (zwX9 cI h_t h_t_now h_t_file h_t_fresh h_t_colour h_t_table h_t_last h_t_one t_wide t_high t_size t_at t_fault t_newWide t_newHigh t_colours t_now t_file t_fresh t_colour t_table t_last t_one) sz) := by
  refine Met.ofW (cc := cX9_colourOf) (maxL := 6) (ret := (some .int)) (by decide) rfl ?_
  intro p e s m args below meth c s₁ B hml hv
  obtain ⟨rfl, hsz, hP, hK, hD0, hN⟩ := hv
  subst hsz
  have C : CallFix p m c cX9_colourOf 6 s [.ref h_t, .int v0].toArray wsX9_colourOf RX9 := ⟨B.exec, B.bytes, hml, findClass_of_methodNamed B.named, atoms_spec (ws := wsX9_colourOf) B.pre⟩
  have hl := lv_entry ([.ref h_t, .int v0]) (n := 6) (Nat.le_of_ble_eq_true rfl)
  rw [lg_entry_eq]
  exact wX9_colourOf_0 (A := va_A (zwX9 cI h_t h_t_now h_t_file h_t_fresh h_t_colour h_t_table h_t_last h_t_one t_wide t_high t_size t_at t_fault t_newWide t_newHigh t_colours t_now t_file t_fresh t_colour t_table t_last t_one) s.heap.size) C hN hK (fun q h => Or.inr h) (fun H locs pc ls d hP hD hS => zend_i C.1 C.2.1 B.returns B.notSynchronized d hP hD hS) hf hP hD0.self va_S.rf hl
def rmX9_pairs : Room := { frames := 3, cells := 0, slots := 0, locals := 71 }
theorem kX9_pairs_7 {args : Array Value} {s : State} (h : ∀ w ∈ wsX9_pairs, w.before args s = true) : (Cond.fieldLink RX9 7 "FourPictureFilesModel" "wide" "I").before args s = true := h _ (by decide +kernel)
theorem iX9_pairs_X9 : ∀ w ∈ u_ws RX9 TX9 15, w ∈ wsX9_pairs := by decide +kernel
theorem qX9_pairs_X9_add_63 {args : Array Value} {s : State} (hts : ∀ w ∈ wsX9_pairs, w.before args s = true) : CallW rmX9_pairs s args RX9 RX9 63 yX9_add cX9_add 2 none wsX9_add rmX9_add 0 0 1 := cwV 1 hts gX9_pairs_X9_add rfl rfl rfl (by decide +kernel) ⟨Nat.le_of_ble_eq_true rfl, Nat.le_of_ble_eq_true rfl⟩
theorem qX9_pairs_X9_addTwo_71 {args : Array Value} {s : State} (hts : ∀ w ∈ wsX9_pairs, w.before args s = true) : CallW rmX9_pairs s args RX9 RX9 71 yX9_addTwo cX9_addTwo 3 none wsX9_addTwo rmX9_addTwo 0 0 2 := cwV 2 hts gX9_pairs_X9_addTwo rfl rfl rfl (by decide +kernel) ⟨Nat.le_of_ble_eq_true rfl, Nat.le_of_ble_eq_true rfl⟩
theorem qX9_pairs_X9_alike_94 {args : Array Value} {s : State} (hts : ∀ w ∈ wsX9_pairs, w.before args s = true) : CallW rmX9_pairs s args RX9 RX9 94 yX9_alike cX9_alike 5 (some .boolean) wsX9_alike rmX9_alike 0 0 2 := cwV 2 hts gX9_pairs_X9_alike rfl rfl rfl (by decide +kernel) ⟨Nat.le_of_ble_eq_true rfl, Nat.le_of_ble_eq_true rfl⟩
theorem qX9_pairs_X9_colourOf_97 {args : Array Value} {s : State} (hts : ∀ w ∈ wsX9_pairs, w.before args s = true) : CallW rmX9_pairs s args RX9 RX9 97 yX9_colourOf cX9_colourOf 6 (some .int) wsX9_colourOf rmX9_colourOf 0 0 1 := cwV 1 hts gX9_pairs_X9_colourOf rfl rfl rfl (by decide +kernel) ⟨Nat.le_of_ble_eq_true rfl, Nat.le_of_ble_eq_true rfl⟩
set_option maxHeartbeats 4000000 in
set_option maxRecDepth 100000 in
theorem wX9_pairs_108 {p : Program} {l : Launch} {e : Env} {s : State} {m : MethodId} {args : Array Value} {below : List Frame} {meth : Method} {c : Code} {D : va_G} {A : Nat → Prop} {Q : State → Prop} {cI : ClassId} {h_t h_t_now h_t_file h_t_fresh h_t_colour h_t_table h_t_last h_t_one : Nat} {t_wide : Int32} {t_high : Int32} {t_at : Int32} {t_fault : Int32} {t_newWide : Int32} {t_newHigh : Int32} {t_colours : Int32} {t_now : Nat → Int32} {t_fresh : Nat → Int32} {t_colour : Nat → Int32} {t_table : Nat → Int32} {t_last : Nat → Int32} {t_one : Nat → Int32} {zt_size : Int32} {zt_file : Nat → Int32} (C : CallFix p m c cX9_pairs 5 s args wsX9_pairs RX9) (hN : zN s) (hK : va_K D vwCl [(cI, .int)] s) (hA : ∀ q, s.heap.size ≤ q → A q) (hE : zEv p l e rmX9_pairs s m args below meth c cX9_pairs D A Q (zwX9 cI h_t h_t_now h_t_file h_t_fresh h_t_colour h_t_table h_t_last h_t_one t_wide t_high zt_size t_at t_fault t_newWide t_newHigh t_colours t_now zt_file t_fresh t_colour t_table t_last t_one)) {t_size : Int32} {t_file : Nat → Int32} {l1 : Int32} {l2 : Int32} {k1 : Int32} {k2 : Int32} {H : Heap} {locs : List Loc} {ls : Array Slot} : fX9_pairs_108 t_size t_file k1 k2 = some (zt_size, zt_file) → va_P D vwCl (zwX9 cI h_t h_t_now h_t_file h_t_fresh h_t_colour h_t_table h_t_last h_t_one t_wide t_high t_size t_at t_fault t_newWide t_newHigh t_colours t_now t_file t_fresh t_colour t_table t_last t_one) H → va_D A (zwX9 cI h_t h_t_now h_t_file h_t_fresh h_t_colour h_t_table h_t_last h_t_one t_wide t_high t_size t_at t_fault t_newWide t_newHigh t_colours t_now t_file t_fresh t_colour t_table t_last t_one) → va_S A s.heap H locs → lv_has ls 5 [(0, .ref h_t), (1, .int l1), (2, .int l2)] → W p l e rmX9_pairs s m args below meth c H locs 0 0 Q (F0 m 108 ls [.int k2, .int k1, .ref h_t]) := by
  intro hf hP hD hS hl
  obtain ⟨hx, hb, hml, hown, hts⟩ := id C
  unfold fX9_pairs_108 at hf
  obtain ⟨u1, u2, hc3, hf⟩ := zb2_in hf
  refine zc_v (va_runV (As := [.int k1, .int k2]) (rest := []) C (mX9_addTwo l D cI H.size h_t h_t_now h_t_file h_t_fresh h_t_colour h_t_table h_t_last h_t_one t_wide t_high t_size t_at t_fault t_newWide t_newHigh t_colours t_now t_file t_fresh t_colour t_table t_last t_one k1 k2 u1 u2 hc3) (qX9_pairs_X9_addTwo_71 hts) ⟨zP_blind, va_recv hK hP (ci := 8) (q0 := 0) rfl rfl, zpre hK hN hP hD [0, 1, 2, 3, 4, 5, 6, 7] rfl rfl⟩ rfl rfl hl.1 rfl (lv_room (Nat.le_of_ble_eq_true rfl)) dX9_pairs_108 ⟨Nat.zero_le _, Nat.zero_le _⟩) hP hD hS hA [0, 1, 2, 3, 4, 5, 6, 7] [] [0, 1, 2, 3, 4, 5, 6, 7] (ws' := zwX9 cI h_t h_t_now h_t_file h_t_fresh h_t_colour h_t_table h_t_last h_t_one t_wide t_high u1 t_at t_fault t_newWide t_newHigh t_colours t_now u2 t_fresh t_colour t_table t_last t_one) rfl rfl rfl rfl rfl rfl (fun H locs hP hD hS => ?_)
  cases hf
  exact hE _ _ _ _ dX9_pairs_111 hP hD hS
set_option maxHeartbeats 4000000 in
set_option maxRecDepth 100000 in
theorem wX9_pairs_87 {p : Program} {l : Launch} {e : Env} {s : State} {m : MethodId} {args : Array Value} {below : List Frame} {meth : Method} {c : Code} {D : va_G} {A : Nat → Prop} {Q : State → Prop} {cI : ClassId} {h_t h_t_now h_t_file h_t_fresh h_t_colour h_t_table h_t_last h_t_one : Nat} {t_wide : Int32} {t_high : Int32} {t_at : Int32} {t_fault : Int32} {t_newWide : Int32} {t_newHigh : Int32} {t_colours : Int32} {t_now : Nat → Int32} {t_fresh : Nat → Int32} {t_colour : Nat → Int32} {t_table : Nat → Int32} {t_last : Nat → Int32} {t_one : Nat → Int32} {zt_size : Int32} {zt_file : Nat → Int32} (C : CallFix p m c cX9_pairs 5 s args wsX9_pairs RX9) (hN : zN s) (hK : va_K D vwCl [(cI, .int)] s) (hA : ∀ q, s.heap.size ≤ q → A q) (hE : zEv p l e rmX9_pairs s m args below meth c cX9_pairs D A Q (zwX9 cI h_t h_t_now h_t_file h_t_fresh h_t_colour h_t_table h_t_last h_t_one t_wide t_high zt_size t_at t_fault t_newWide t_newHigh t_colours t_now zt_file t_fresh t_colour t_table t_last t_one)) {rc2 : Int32 → Int32 → (Nat → Int32) → (Nat → Int32) → Int32 → Int32 → Option (Int32 × (Nat → Int32))} (hr_2 : ∀ {t_size : Int32} {t_file : Nat → Int32} {l1 : Int32} {l2 : Int32} {H : Heap} {locs : List Loc} {ls : Array Slot}, rc2 t_wide t_size t_now t_file l1 l2 = some (zt_size, zt_file) → va_P D vwCl (zwX9 cI h_t h_t_now h_t_file h_t_fresh h_t_colour h_t_table h_t_last h_t_one t_wide t_high t_size t_at t_fault t_newWide t_newHigh t_colours t_now t_file t_fresh t_colour t_table t_last t_one) H → va_D A (zwX9 cI h_t h_t_now h_t_file h_t_fresh h_t_colour h_t_table h_t_last h_t_one t_wide t_high t_size t_at t_fault t_newWide t_newHigh t_colours t_now t_file t_fresh t_colour t_table t_last t_one) → va_S A s.heap H locs → lv_has ls 5 [(0, .ref h_t), (1, .int l1), (2, .int l2)] → W p l e rmX9_pairs s m args below meth c H locs 0 0 Q (F0 m 2 ls [])) {t_size : Int32} {t_file : Nat → Int32} {l1 : Int32} {l2 : Int32} {l3 : Int32} {l4 : Int32} {k1 : Int32} {H : Heap} {locs : List Loc} {ls : Array Slot} : fX9_pairs_87 rc2 t_wide t_size t_now t_file l1 l2 l3 k1 = some (zt_size, zt_file) → va_P D vwCl (zwX9 cI h_t h_t_now h_t_file h_t_fresh h_t_colour h_t_table h_t_last h_t_one t_wide t_high t_size t_at t_fault t_newWide t_newHigh t_colours t_now t_file t_fresh t_colour t_table t_last t_one) H → va_D A (zwX9 cI h_t h_t_now h_t_file h_t_fresh h_t_colour h_t_table h_t_last h_t_one t_wide t_high t_size t_at t_fault t_newWide t_newHigh t_colours t_now t_file t_fresh t_colour t_table t_last t_one) → va_S A s.heap H locs → lv_has ls 5 [(0, .ref h_t), (1, .int l1), (2, .int l2), (3, .int l3), (4, .int l4)] → W p l e rmX9_pairs s m args below meth c H locs 0 0 Q (F0 m 87 ls [.int k1, .ref h_t]) := by
  intro hf hP hD hS hl
  obtain ⟨hx, hb, hml, hown, hts⟩ := id C
  unfold fX9_pairs_87 at hf
  obtain ⟨u1, u2, hc3, hf⟩ := zb2_in hf
  refine zc_v (va_runV (As := [.int k1]) (rest := []) C (mX9_add l D cI H.size h_t h_t_now h_t_file h_t_fresh h_t_colour h_t_table h_t_last h_t_one t_wide t_high t_size t_at t_fault t_newWide t_newHigh t_colours t_now t_file t_fresh t_colour t_table t_last t_one k1 u1 u2 hc3) (qX9_pairs_X9_add_63 hts) ⟨zP_blind, va_recv hK hP (ci := 8) (q0 := 0) rfl rfl, zpre hK hN hP hD [0, 1, 2, 3, 4, 5, 6, 7] rfl rfl⟩ rfl rfl hl.1 rfl (lv_room (Nat.le_of_ble_eq_true rfl)) dX9_pairs_87 ⟨Nat.zero_le _, Nat.zero_le _⟩) hP hD hS hA [0, 1, 2, 3, 4, 5, 6, 7] [] [0, 1, 2, 3, 4, 5, 6, 7] (ws' := zwX9 cI h_t h_t_now h_t_file h_t_fresh h_t_colour h_t_table h_t_last h_t_one t_wide t_high u1 t_at t_fault t_newWide t_newHigh t_colours t_now u2 t_fresh t_colour t_table t_last t_one) rfl rfl rfl rfl rfl rfl (fun H locs hP hD hS => ?_)
  refine lv_iload_n hx hb dX9_pairs_90 rfl (lv_at hl 2 rfl) ?_
  refine lv_iload_n hx hb dX9_pairs_91 rfl (lv_at hl 3 rfl) ?_
  refine lv_iadd hx hb dX9_pairs_92 ?_
  refine lv_topi (fun x4 ex4 => ?_)
  replace hf := zlet_in hf ex4
  clear ex4
  refine lv_istore_n (lv' := [(2, .int x4), (0, .ref h_t), (1, .int l1), (3, .int l3), (4, .int l4)]) hx hb dX9_pairs_93 rfl hl (by decide) rfl (fun ls hl => ?_)
  refine lv_goto (tgt := 2) hx hb dX9_pairs_94 (by decide) ?_
  exact hr_2 hf hP hD hS (lv_sub hl [1, 2, 0] rfl)
set_option maxHeartbeats 4000000 in
set_option maxRecDepth 100000 in
theorem wX9_pairs_53 {p : Program} {l : Launch} {e : Env} {s : State} {m : MethodId} {args : Array Value} {below : List Frame} {meth : Method} {c : Code} {D : va_G} {A : Nat → Prop} {Q : State → Prop} {cI : ClassId} {h_t h_t_now h_t_file h_t_fresh h_t_colour h_t_table h_t_last h_t_one : Nat} {t_wide : Int32} {t_high : Int32} {t_at : Int32} {t_fault : Int32} {t_newWide : Int32} {t_newHigh : Int32} {t_colours : Int32} {t_now : Nat → Int32} {t_fresh : Nat → Int32} {t_colour : Nat → Int32} {t_table : Nat → Int32} {t_last : Nat → Int32} {t_one : Nat → Int32} {zt_size : Int32} {zt_file : Nat → Int32} (C : CallFix p m c cX9_pairs 5 s args wsX9_pairs RX9) (hN : zN s) (hK : va_K D vwCl [(cI, .int)] s) (hA : ∀ q, s.heap.size ≤ q → A q) (hE : zEv p l e rmX9_pairs s m args below meth c cX9_pairs D A Q (zwX9 cI h_t h_t_now h_t_file h_t_fresh h_t_colour h_t_table h_t_last h_t_one t_wide t_high zt_size t_at t_fault t_newWide t_newHigh t_colours t_now zt_file t_fresh t_colour t_table t_last t_one)) {rc2 : Int32 → Int32 → (Nat → Int32) → (Nat → Int32) → Int32 → Int32 → Option (Int32 × (Nat → Int32))} (hr_2 : ∀ {t_size : Int32} {t_file : Nat → Int32} {l1 : Int32} {l2 : Int32} {H : Heap} {locs : List Loc} {ls : Array Slot}, rc2 t_wide t_size t_now t_file l1 l2 = some (zt_size, zt_file) → va_P D vwCl (zwX9 cI h_t h_t_now h_t_file h_t_fresh h_t_colour h_t_table h_t_last h_t_one t_wide t_high t_size t_at t_fault t_newWide t_newHigh t_colours t_now t_file t_fresh t_colour t_table t_last t_one) H → va_D A (zwX9 cI h_t h_t_now h_t_file h_t_fresh h_t_colour h_t_table h_t_last h_t_one t_wide t_high t_size t_at t_fault t_newWide t_newHigh t_colours t_now t_file t_fresh t_colour t_table t_last t_one) → va_S A s.heap H locs → lv_has ls 5 [(0, .ref h_t), (1, .int l1), (2, .int l2)] → W p l e rmX9_pairs s m args below meth c H locs 0 0 Q (F0 m 2 ls [])) {t_size : Int32} {t_file : Nat → Int32} {l1 : Int32} {l2 : Int32} {l3 : Int32} {H : Heap} {locs : List Loc} {ls : Array Slot} : fX9_pairs_53 rc2 t_wide t_size t_now t_file l1 l2 l3 = some (zt_size, zt_file) → va_P D vwCl (zwX9 cI h_t h_t_now h_t_file h_t_fresh h_t_colour h_t_table h_t_last h_t_one t_wide t_high t_size t_at t_fault t_newWide t_newHigh t_colours t_now t_file t_fresh t_colour t_table t_last t_one) H → va_D A (zwX9 cI h_t h_t_now h_t_file h_t_fresh h_t_colour h_t_table h_t_last h_t_one t_wide t_high t_size t_at t_fault t_newWide t_newHigh t_colours t_now t_file t_fresh t_colour t_table t_last t_one) → va_S A s.heap H locs → lv_has ls 5 [(0, .ref h_t), (1, .int l1), (2, .int l2), (3, .int l3)] → W p l e rmX9_pairs s m args below meth c H locs 0 0 Q (F0 m 53 ls []) := by
  intro hf hP hD hS hl
  obtain ⟨hx, hb, hml, hown, hts⟩ := id C
  unfold fX9_pairs_53 at hf
  refine lv_aload_n hx hb dX9_pairs_53 rfl (lv_at hl 0 rfl) ?_
  refine lv_aload_n hx hb dX9_pairs_54 rfl (lv_at hl 0 rfl) ?_
  refine va_get (D := D) (ci := 8) (v := .int t_wide) (C := RX9) (T := TX9) (N := 15) hx hb hts iX9_pairs_X9 hown hK hP 0 rfl rfl 0 (by decide) (kX9_pairs_7 hts) (fun _ h9 => h9) rfl dX9_pairs_55 ?_
  refine lv_iload_n hx hb dX9_pairs_58 rfl (lv_at hl 1 rfl) ?_
  refine lv_imul hx hb dX9_pairs_59 ?_
  refine lv_iload_n hx hb dX9_pairs_60 rfl (lv_at hl 2 rfl) ?_
  refine lv_iadd hx hb dX9_pairs_61 ?_
  obtain ⟨r1, hc2, hf⟩ := zb1_in hf
  refine zc_i (va_runV (As := [.int ((t_wide * l1) + l2)]) (rest := []) C (mX9_colourOf l D cI H.size h_t h_t_now h_t_file h_t_fresh h_t_colour h_t_table h_t_last h_t_one t_wide t_high t_size t_at t_fault t_newWide t_newHigh t_colours t_now t_file t_fresh t_colour t_table t_last t_one ((t_wide * l1) + l2) r1 hc2) (qX9_pairs_X9_colourOf_97 hts) ⟨zP_blind, va_recv hK hP (ci := 8) (q0 := 0) rfl rfl, zpre hK hN hP hD [0, 1, 2, 3, 4, 5, 6, 7] rfl rfl⟩ rfl rfl hl.1 rfl (lv_room (Nat.le_of_ble_eq_true rfl)) dX9_pairs_62 ⟨Nat.zero_le _, Nat.zero_le _⟩) hP hD hS hA [0, 1, 2, 3, 4, 5, 6, 7] [] [0, 1, 2, 3, 4, 5, 6, 7] (ws' := zwX9 cI h_t h_t_now h_t_file h_t_fresh h_t_colour h_t_table h_t_last h_t_one t_wide t_high t_size t_at t_fault t_newWide t_newHigh t_colours t_now t_file t_fresh t_colour t_table t_last t_one) rfl rfl rfl rfl rfl rfl (fun H locs hP hD hS => ?_)
  refine lv_istore (lv' := [(4, .int r1), (0, .ref h_t), (1, .int l1), (2, .int l2), (3, .int l3)]) hx hb dX9_pairs_65 hl (by decide) rfl (fun ls hl => ?_)
  refine lv_aload_n hx hb dX9_pairs_67 rfl (lv_at hl 1 rfl) ?_
  refine lv_iload_n hx hb dX9_pairs_68 rfl (lv_at hl 4 rfl) ?_
  obtain ⟨u3, u4, hc5, hf⟩ := zb2_in hf
  refine zc_v (va_runV (As := [.int l3]) (rest := []) C (mX9_add l D cI H.size h_t h_t_now h_t_file h_t_fresh h_t_colour h_t_table h_t_last h_t_one t_wide t_high t_size t_at t_fault t_newWide t_newHigh t_colours t_now t_file t_fresh t_colour t_table t_last t_one l3 u3 u4 hc5) (qX9_pairs_X9_add_63 hts) ⟨zP_blind, va_recv hK hP (ci := 8) (q0 := 0) rfl rfl, zpre hK hN hP hD [0, 1, 2, 3, 4, 5, 6, 7] rfl rfl⟩ rfl rfl hl.1 rfl (lv_room (Nat.le_of_ble_eq_true rfl)) dX9_pairs_69 ⟨Nat.zero_le _, Nat.zero_le _⟩) hP hD hS hA [0, 1, 2, 3, 4, 5, 6, 7] [] [0, 1, 2, 3, 4, 5, 6, 7] (ws' := zwX9 cI h_t h_t_now h_t_file h_t_fresh h_t_colour h_t_table h_t_last h_t_one t_wide t_high u3 t_at t_fault t_newWide t_newHigh t_colours t_now u4 t_fresh t_colour t_table t_last t_one) rfl rfl rfl rfl rfl rfl (fun H locs hP hD hS => ?_)
  refine lv_aload_n hx hb dX9_pairs_72 rfl (lv_at hl 1 rfl) ?_
  refine lv_iload hx hb dX9_pairs_73 (lv_at hl 0 rfl) ?_
  refine lv_if_ge (tgt := 85) hx hb dX9_pairs_75 (by decide) (fun c6 => ?_) (fun c6 => ?_)
  · replace hf := zif_t hf c6
    refine lv_iload hx hb dX9_pairs_85 (lv_at hl 0 rfl) ?_
    exact wX9_pairs_87 C hN hK hA hE hr_2 hf hP hD hS (lv_sub hl [1, 2, 3, 4, 0] rfl)
  · replace hf := zif_f hf c6
    refine lv_iconst (v := (-1)) hx hb dX9_pairs_78 (by decide) ?_
    refine lv_iload hx hb dX9_pairs_79 (lv_at hl 0 rfl) ?_
    refine lv_isub hx hb dX9_pairs_81 ?_
    refine lv_goto (tgt := 87) hx hb dX9_pairs_82 (by decide) ?_
    exact wX9_pairs_87 C hN hK hA hE hr_2 hf hP hD hS (lv_sub hl [1, 2, 3, 4, 0] rfl)
set_option maxHeartbeats 4000000 in
set_option maxRecDepth 100000 in
theorem wX9_pairs_12 {p : Program} {l : Launch} {e : Env} {s : State} {m : MethodId} {args : Array Value} {below : List Frame} {meth : Method} {c : Code} {D : va_G} {A : Nat → Prop} {Q : State → Prop} {cI : ClassId} {h_t h_t_now h_t_file h_t_fresh h_t_colour h_t_table h_t_last h_t_one : Nat} {t_wide : Int32} {t_high : Int32} {t_at : Int32} {t_fault : Int32} {t_newWide : Int32} {t_newHigh : Int32} {t_colours : Int32} {t_now : Nat → Int32} {t_fresh : Nat → Int32} {t_colour : Nat → Int32} {t_table : Nat → Int32} {t_last : Nat → Int32} {t_one : Nat → Int32} {zt_size : Int32} {zt_file : Nat → Int32} (C : CallFix p m c cX9_pairs 5 s args wsX9_pairs RX9) (hN : zN s) (hK : va_K D vwCl [(cI, .int)] s) (hA : ∀ q, s.heap.size ≤ q → A q) (hE : zEv p l e rmX9_pairs s m args below meth c cX9_pairs D A Q (zwX9 cI h_t h_t_now h_t_file h_t_fresh h_t_colour h_t_table h_t_last h_t_one t_wide t_high zt_size t_at t_fault t_newWide t_newHigh t_colours t_now zt_file t_fresh t_colour t_table t_last t_one)) {rc2 : Int32 → Int32 → (Nat → Int32) → (Nat → Int32) → Int32 → Int32 → Option (Int32 × (Nat → Int32))} (hr_2 : ∀ {t_size : Int32} {t_file : Nat → Int32} {l1 : Int32} {l2 : Int32} {H : Heap} {locs : List Loc} {ls : Array Slot}, rc2 t_wide t_size t_now t_file l1 l2 = some (zt_size, zt_file) → va_P D vwCl (zwX9 cI h_t h_t_now h_t_file h_t_fresh h_t_colour h_t_table h_t_last h_t_one t_wide t_high t_size t_at t_fault t_newWide t_newHigh t_colours t_now t_file t_fresh t_colour t_table t_last t_one) H → va_D A (zwX9 cI h_t h_t_now h_t_file h_t_fresh h_t_colour h_t_table h_t_last h_t_one t_wide t_high t_size t_at t_fault t_newWide t_newHigh t_colours t_now t_file t_fresh t_colour t_table t_last t_one) → va_S A s.heap H locs → lv_has ls 5 [(0, .ref h_t), (1, .int l1), (2, .int l2)] → W p l e rmX9_pairs s m args below meth c H locs 0 0 Q (F0 m 2 ls [])) (n : Nat) : ∀ {t_size : Int32} {t_file : Nat → Int32} {l1 : Int32} {l2 : Int32} {l3 : Int32} {H : Heap} {locs : List Loc} {ls : Array Slot}, fX9_pairs_12 rc2 n t_wide t_size t_now t_file l1 l2 l3 = some (zt_size, zt_file) → va_P D vwCl (zwX9 cI h_t h_t_now h_t_file h_t_fresh h_t_colour h_t_table h_t_last h_t_one t_wide t_high t_size t_at t_fault t_newWide t_newHigh t_colours t_now t_file t_fresh t_colour t_table t_last t_one) H → va_D A (zwX9 cI h_t h_t_now h_t_file h_t_fresh h_t_colour h_t_table h_t_last h_t_one t_wide t_high t_size t_at t_fault t_newWide t_newHigh t_colours t_now t_file t_fresh t_colour t_table t_last t_one) → va_S A s.heap H locs → lv_has ls 5 [(0, .ref h_t), (1, .int l1), (2, .int l2), (3, .int l3)] → W p l e rmX9_pairs s m args below meth c H locs 0 0 Q (F0 m 12 ls []) := by
  obtain ⟨hx, hb, hml, hown, hts⟩ := id C
  induction n with
  | zero =>
    intro t_size t_file l1 l2 l3 H locs ls hf
    cases hf
  | succ n hr_12 =>
    intro t_size t_file l1 l2 l3 H locs ls hf hP hD hS hl
    rw [fX9_pairs_12_s] at hf
    refine lv_iload_n hx hb dX9_pairs_12 rfl (lv_at hl 2 rfl) ?_
    refine lv_iload_n hx hb dX9_pairs_13 rfl (lv_at hl 3 rfl) ?_
    refine lv_iadd hx hb dX9_pairs_14 ?_
    refine lv_aload_n hx hb dX9_pairs_15 rfl (lv_at hl 0 rfl) ?_
    refine va_get (D := D) (ci := 8) (v := .int t_wide) (C := RX9) (T := TX9) (N := 15) hx hb hts iX9_pairs_X9 hown hK hP 0 rfl rfl 0 (by decide) (kX9_pairs_7 hts) (fun _ h9 => h9) rfl dX9_pairs_16 ?_
    refine lv_icmp_ge (tgt := 53) hx hb dX9_pairs_19 (by decide) (fun c1 => ?_) (fun c1 => ?_)
    · replace hf := zif_t hf c1
      exact wX9_pairs_53 C hN hK hA hE hr_2 hf hP hD hS (lv_sub hl [0, 1, 2, 3] rfl)
    · replace hf := zif_f hf c1
      refine lv_aload_n hx hb dX9_pairs_22 rfl (lv_at hl 0 rfl) ?_
      refine lv_aload_n hx hb dX9_pairs_23 rfl (lv_at hl 0 rfl) ?_
      refine va_get (D := D) (ci := 8) (v := .int t_wide) (C := RX9) (T := TX9) (N := 15) hx hb hts iX9_pairs_X9 hown hK hP 0 rfl rfl 0 (by decide) (kX9_pairs_7 hts) (fun _ h9 => h9) rfl dX9_pairs_24 ?_
      refine lv_iload_n hx hb dX9_pairs_27 rfl (lv_at hl 1 rfl) ?_
      refine lv_imul hx hb dX9_pairs_28 ?_
      refine lv_iload_n hx hb dX9_pairs_29 rfl (lv_at hl 2 rfl) ?_
      refine lv_iadd hx hb dX9_pairs_30 ?_
      refine lv_aload_n hx hb dX9_pairs_31 rfl (lv_at hl 0 rfl) ?_
      refine va_get (D := D) (ci := 8) (v := .int t_wide) (C := RX9) (T := TX9) (N := 15) hx hb hts iX9_pairs_X9 hown hK hP 0 rfl rfl 0 (by decide) (kX9_pairs_7 hts) (fun _ h9 => h9) rfl dX9_pairs_32 ?_
      refine lv_iload_n hx hb dX9_pairs_35 rfl (lv_at hl 1 rfl) ?_
      refine lv_imul hx hb dX9_pairs_36 ?_
      refine lv_iload_n hx hb dX9_pairs_37 rfl (lv_at hl 2 rfl) ?_
      refine lv_iadd hx hb dX9_pairs_38 ?_
      refine lv_iload_n hx hb dX9_pairs_39 rfl (lv_at hl 3 rfl) ?_
      refine lv_iadd hx hb dX9_pairs_40 ?_
      obtain ⟨r2, hc3, hf⟩ := zb1_in hf
      refine zc_i (va_runV (As := [.int ((t_wide * l1) + l2), .int (((t_wide * l1) + l2) + l3)]) (rest := []) C (mX9_alike l D cI H.size h_t h_t_now h_t_file h_t_fresh h_t_colour h_t_table h_t_last h_t_one t_wide t_high t_size t_at t_fault t_newWide t_newHigh t_colours t_now t_file t_fresh t_colour t_table t_last t_one ((t_wide * l1) + l2) (((t_wide * l1) + l2) + l3) r2 hc3) (qX9_pairs_X9_alike_94 hts) ⟨zP_blind, va_recv hK hP (ci := 8) (q0 := 0) rfl rfl, zpre hK hN hP hD [0, 1, 2, 3, 4, 5, 6, 7] rfl rfl⟩ rfl rfl hl.1 rfl (lv_room (Nat.le_of_ble_eq_true rfl)) dX9_pairs_41 ⟨Nat.zero_le _, Nat.zero_le _⟩) hP hD hS hA [0, 1, 2, 3, 4, 5, 6, 7] [] [0, 1, 2, 3, 4, 5, 6, 7] (ws' := zwX9 cI h_t h_t_now h_t_file h_t_fresh h_t_colour h_t_table h_t_last h_t_one t_wide t_high t_size t_at t_fault t_newWide t_newHigh t_colours t_now t_file t_fresh t_colour t_table t_last t_one) rfl rfl rfl rfl rfl rfl (fun H locs hP hD hS => ?_)
      refine lv_if_eq (tgt := 53) hx hb dX9_pairs_44 (by decide) (fun c4 => ?_) (fun c4 => ?_)
      · replace hf := zif_t hf c4
        exact wX9_pairs_53 C hN hK hA hE hr_2 hf hP hD hS (lv_sub hl [0, 1, 2, 3] rfl)
      · replace hf := zif_f hf c4
        obtain ⟨x5, ex5⟩ : ∃ y : Int32, y = l3 + 1 := ⟨_, rfl⟩
        replace hf := zlet_in hf ex5
        refine lv_iinc (v := x5) (lv' := [(3, .int x5), (0, .ref h_t), (1, .int l1), (2, .int l2)]) hx hb dX9_pairs_47 hl (k := 3) rfl (by rw [ex5]; rfl) (by decide) rfl (fun ls hl => ?_)
        clear ex5
        refine lv_goto (tgt := 12) hx hb dX9_pairs_50 (by decide) ?_
        exact hr_12 hf hP hD hS (lv_sub hl [1, 2, 3, 0] rfl)
set_option maxHeartbeats 4000000 in
set_option maxRecDepth 100000 in
theorem wX9_pairs_2 {p : Program} {l : Launch} {e : Env} {s : State} {m : MethodId} {args : Array Value} {below : List Frame} {meth : Method} {c : Code} {D : va_G} {A : Nat → Prop} {Q : State → Prop} {cI : ClassId} {h_t h_t_now h_t_file h_t_fresh h_t_colour h_t_table h_t_last h_t_one : Nat} {t_wide : Int32} {t_high : Int32} {t_at : Int32} {t_fault : Int32} {t_newWide : Int32} {t_newHigh : Int32} {t_colours : Int32} {t_now : Nat → Int32} {t_fresh : Nat → Int32} {t_colour : Nat → Int32} {t_table : Nat → Int32} {t_last : Nat → Int32} {t_one : Nat → Int32} {zt_size : Int32} {zt_file : Nat → Int32} (C : CallFix p m c cX9_pairs 5 s args wsX9_pairs RX9) (hN : zN s) (hK : va_K D vwCl [(cI, .int)] s) (hA : ∀ q, s.heap.size ≤ q → A q) (hE : zEv p l e rmX9_pairs s m args below meth c cX9_pairs D A Q (zwX9 cI h_t h_t_now h_t_file h_t_fresh h_t_colour h_t_table h_t_last h_t_one t_wide t_high zt_size t_at t_fault t_newWide t_newHigh t_colours t_now zt_file t_fresh t_colour t_table t_last t_one)) (n : Nat) : ∀ {t_size : Int32} {t_file : Nat → Int32} {l1 : Int32} {l2 : Int32} {H : Heap} {locs : List Loc} {ls : Array Slot}, fX9_pairs_2 n t_wide t_size t_now t_file l1 l2 = some (zt_size, zt_file) → va_P D vwCl (zwX9 cI h_t h_t_now h_t_file h_t_fresh h_t_colour h_t_table h_t_last h_t_one t_wide t_high t_size t_at t_fault t_newWide t_newHigh t_colours t_now t_file t_fresh t_colour t_table t_last t_one) H → va_D A (zwX9 cI h_t h_t_now h_t_file h_t_fresh h_t_colour h_t_table h_t_last h_t_one t_wide t_high t_size t_at t_fault t_newWide t_newHigh t_colours t_now t_file t_fresh t_colour t_table t_last t_one) → va_S A s.heap H locs → lv_has ls 5 [(0, .ref h_t), (1, .int l1), (2, .int l2)] → W p l e rmX9_pairs s m args below meth c H locs 0 0 Q (F0 m 2 ls []) := by
  obtain ⟨hx, hb, hml, hown, hts⟩ := id C
  induction n with
  | zero =>
    intro t_size t_file l1 l2 H locs ls hf
    cases hf
  | succ n hr_2 =>
    intro t_size t_file l1 l2 H locs ls hf hP hD hS hl
    rw [fX9_pairs_2_s] at hf
    refine lv_iload_n hx hb dX9_pairs_2 rfl (lv_at hl 2 rfl) ?_
    refine lv_aload_n hx hb dX9_pairs_3 rfl (lv_at hl 0 rfl) ?_
    refine va_get (D := D) (ci := 8) (v := .int t_wide) (C := RX9) (T := TX9) (N := 15) hx hb hts iX9_pairs_X9 hown hK hP 0 rfl rfl 0 (by decide) (kX9_pairs_7 hts) (fun _ h9 => h9) rfl dX9_pairs_4 ?_
    refine lv_icmp_ge (tgt := 97) hx hb dX9_pairs_7 (by decide) (fun c1 => ?_) (fun c1 => ?_)
    · replace hf := zif_t hf c1
      refine lv_aload_n hx hb dX9_pairs_97 rfl (lv_at hl 0 rfl) ?_
      refine lv_iconst (v := 0) hx hb dX9_pairs_98 (by decide) ?_
      refine lv_iload_n hx hb dX9_pairs_99 rfl (lv_at hl 1 rfl) ?_
      refine lv_if_ne (tgt := 107) hx hb dX9_pairs_100 (by decide) (fun c2 => ?_) (fun c2 => ?_)
      · replace hf := zif_f hf c2
        refine lv_iconst (v := 0) hx hb dX9_pairs_107 (by decide) ?_
        exact wX9_pairs_108 C hN hK hA hE hf hP hD hS (lv_sub hl [0, 1, 2] rfl)
      · replace hf := zif_t hf c2
        refine lv_iconst (v := 1) hx hb dX9_pairs_103 (by decide) ?_
        refine lv_goto (tgt := 108) hx hb dX9_pairs_104 (by decide) ?_
        exact wX9_pairs_108 C hN hK hA hE hf hP hD hS (lv_sub hl [0, 1, 2] rfl)
    · replace hf := zif_f hf c1
      refine lv_iconst (v := 1) hx hb dX9_pairs_10 (by decide) ?_
      refine lv_istore_n (lv' := [(3, .int 1), (0, .ref h_t), (1, .int l1), (2, .int l2)]) hx hb dX9_pairs_11 rfl hl (by decide) rfl (fun ls hl => ?_)
      exact wX9_pairs_12 C hN hK hA hE hr_2 1000 hf hP hD hS (lv_sub hl [1, 2, 3, 0] rfl)
set_option maxHeartbeats 4000000 in
set_option maxRecDepth 100000 in
theorem wX9_pairs_0 {p : Program} {l : Launch} {e : Env} {s : State} {m : MethodId} {args : Array Value} {below : List Frame} {meth : Method} {c : Code} {D : va_G} {A : Nat → Prop} {Q : State → Prop} {cI : ClassId} {h_t h_t_now h_t_file h_t_fresh h_t_colour h_t_table h_t_last h_t_one : Nat} {t_wide : Int32} {t_high : Int32} {t_at : Int32} {t_fault : Int32} {t_newWide : Int32} {t_newHigh : Int32} {t_colours : Int32} {t_now : Nat → Int32} {t_fresh : Nat → Int32} {t_colour : Nat → Int32} {t_table : Nat → Int32} {t_last : Nat → Int32} {t_one : Nat → Int32} {zt_size : Int32} {zt_file : Nat → Int32} (C : CallFix p m c cX9_pairs 5 s args wsX9_pairs RX9) (hN : zN s) (hK : va_K D vwCl [(cI, .int)] s) (hA : ∀ q, s.heap.size ≤ q → A q) (hE : zEv p l e rmX9_pairs s m args below meth c cX9_pairs D A Q (zwX9 cI h_t h_t_now h_t_file h_t_fresh h_t_colour h_t_table h_t_last h_t_one t_wide t_high zt_size t_at t_fault t_newWide t_newHigh t_colours t_now zt_file t_fresh t_colour t_table t_last t_one)) {t_size : Int32} {t_file : Nat → Int32} {v0 : Int32} {H : Heap} {locs : List Loc} {ls : Array Slot} : fX9_pairs t_wide t_size t_now t_file v0 = some (zt_size, zt_file) → va_P D vwCl (zwX9 cI h_t h_t_now h_t_file h_t_fresh h_t_colour h_t_table h_t_last h_t_one t_wide t_high t_size t_at t_fault t_newWide t_newHigh t_colours t_now t_file t_fresh t_colour t_table t_last t_one) H → va_D A (zwX9 cI h_t h_t_now h_t_file h_t_fresh h_t_colour h_t_table h_t_last h_t_one t_wide t_high t_size t_at t_fault t_newWide t_newHigh t_colours t_now t_file t_fresh t_colour t_table t_last t_one) → va_S A s.heap H locs → lv_has ls 5 [(0, .ref h_t), (1, .int v0)] → W p l e rmX9_pairs s m args below meth c H locs 0 0 Q (F0 m 0 ls []) := by
  intro hf hP hD hS hl
  obtain ⟨hx, hb, hml, hown, hts⟩ := id C
  unfold fX9_pairs at hf
  refine lv_iconst (v := 0) hx hb dX9_pairs_0 (by decide) ?_
  refine lv_istore_n (lv' := [(2, .int 0), (0, .ref h_t), (1, .int v0)]) hx hb dX9_pairs_1 rfl hl (by decide) rfl (fun ls hl => ?_)
  exact wX9_pairs_2 C hN hK hA hE 1000 hf hP hD hS (lv_sub hl [1, 2, 0] rfl)
set_option maxHeartbeats 4000000 in
set_option maxRecDepth 100000 in
theorem mX9_pairs (l : Launch) (D : va_G) (cI : ClassId) (sz : Nat) (h_t h_t_now h_t_file h_t_fresh h_t_colour h_t_table h_t_last h_t_one : Nat) (t_wide : Int32) (t_high : Int32) (t_size : Int32) (t_at : Int32) (t_fault : Int32) (t_newWide : Int32) (t_newHigh : Int32) (t_colours : Int32) (t_now : Nat → Int32) (t_file : Nat → Int32) (t_fresh : Nat → Int32) (t_colour : Nat → Int32) (t_table : Nat → Int32) (t_last : Nat → Int32) (t_one : Nat → Int32) (v0 : Int32) (zt_size : Int32) (zt_file : Nat → Int32) (hf : fX9_pairs t_wide t_size t_now t_file v0 = some (zt_size, zt_file)) : Met l yX9_pairs wsX9_pairs rmX9_pairs (va_Pc [.ref h_t, .int v0] (zP D [(cI, .int)] (zwX9 cI h_t h_t_now h_t_file h_t_fresh h_t_colour h_t_table h_t_last h_t_one t_wide t_high t_size t_at t_fault t_newWide t_newHigh t_colours t_now t_file t_fresh t_colour t_table t_last t_one) sz)) (zQv D (zwX9 cI h_t h_t_now h_t_file h_t_fresh h_t_colour h_t_table h_t_last h_t_one t_wide t_high t_size t_at t_fault t_newWide t_newHigh t_colours t_now t_file t_fresh t_colour t_table t_last t_one) sz (zwX9 cI h_t h_t_now h_t_file h_t_fresh h_t_colour h_t_table h_t_last h_t_one t_wide t_high zt_size t_at t_fault t_newWide t_newHigh t_colours t_now zt_file t_fresh t_colour t_table t_last t_one)) 0 0 (va_A (zwX9 cI h_t h_t_now h_t_file h_t_fresh h_t_colour h_t_table h_t_last h_t_one t_wide t_high t_size t_at t_fault t_newWide t_newHigh t_colours t_now t_file t_fresh t_colour t_table t_last t_one) sz) := by
  refine Met.ofW (cc := cX9_pairs) (maxL := 5) (ret := none) (by decide) rfl ?_
  intro p e s m args below meth c s₁ B hml hv
  obtain ⟨rfl, hsz, hP, hK, hD0, hN⟩ := hv
  subst hsz
  have C : CallFix p m c cX9_pairs 5 s [.ref h_t, .int v0].toArray wsX9_pairs RX9 := ⟨B.exec, B.bytes, hml, findClass_of_methodNamed B.named, atoms_spec (ws := wsX9_pairs) B.pre⟩
  have hl := lv_entry ([.ref h_t, .int v0]) (n := 5) (Nat.le_of_ble_eq_true rfl)
  rw [lg_entry_eq]
  exact wX9_pairs_0 (A := va_A (zwX9 cI h_t h_t_now h_t_file h_t_fresh h_t_colour h_t_table h_t_last h_t_one t_wide t_high t_size t_at t_fault t_newWide t_newHigh t_colours t_now t_file t_fresh t_colour t_table t_last t_one) s.heap.size) C hN hK (fun q h => Or.inr h) (fun H locs pc ls d hP hD hS => zend_v C.1 C.2.1 B.returns B.notSynchronized d hP hD hS) hf hP hD0.self va_S.rf hl
def rmX9_writeThird : Room := { frames := 4, cells := 0, slots := 0, locals := 95 }
theorem kX9_writeThird_7 {args : Array Value} {s : State} (h : ∀ w ∈ wsX9_writeThird, w.before args s = true) : (Cond.fieldLink RX9 7 "FourPictureFilesModel" "wide" "I").before args s = true := h _ (by decide +kernel)
theorem kX9_writeThird_13 {args : Array Value} {s : State} (h : ∀ w ∈ wsX9_writeThird, w.before args s = true) : (Cond.fieldLink RX9 13 "FourPictureFilesModel" "high" "I").before args s = true := h _ (by decide +kernel)
theorem kX9_writeThird_57 {args : Array Value} {s : State} (h : ∀ w ∈ wsX9_writeThird, w.before args s = true) : (Cond.fieldLink RX9 57 "FourPictureFilesModel" "size" "I").before args s = true := h _ (by decide +kernel)
theorem iX9_writeThird_X9 : ∀ w ∈ u_ws RX9 TX9 15, w ∈ wsX9_writeThird := by decide +kernel
theorem qX9_writeThird_X9_add_63 {args : Array Value} {s : State} (hts : ∀ w ∈ wsX9_writeThird, w.before args s = true) : CallW rmX9_writeThird s args RX9 RX9 63 yX9_add cX9_add 2 none wsX9_add rmX9_add 0 0 1 := cwV 1 hts gX9_writeThird_X9_add rfl rfl rfl (by decide +kernel) ⟨Nat.le_of_ble_eq_true rfl, Nat.le_of_ble_eq_true rfl⟩
theorem qX9_writeThird_X9_addTwo_71 {args : Array Value} {s : State} (hts : ∀ w ∈ wsX9_writeThird, w.before args s = true) : CallW rmX9_writeThird s args RX9 RX9 71 yX9_addTwo cX9_addTwo 3 none wsX9_addTwo rmX9_addTwo 0 0 2 := cwV 2 hts gX9_writeThird_X9_addTwo rfl rfl rfl (by decide +kernel) ⟨Nat.le_of_ble_eq_true rfl, Nat.le_of_ble_eq_true rfl⟩
theorem qX9_writeThird_X9_backwards_103 {args : Array Value} {s : State} (hts : ∀ w ∈ wsX9_writeThird, w.before args s = true) : CallW rmX9_writeThird s args RX9 RX9 103 yX9_backwards cX9_backwards 2 none wsX9_backwards rmX9_backwards 0 0 1 := cwV 1 hts gX9_writeThird_X9_backwards rfl rfl rfl (by decide +kernel) ⟨Nat.le_of_ble_eq_true rfl, Nat.le_of_ble_eq_true rfl⟩
theorem qX9_writeThird_X9_colourOf_97 {args : Array Value} {s : State} (hts : ∀ w ∈ wsX9_writeThird, w.before args s = true) : CallW rmX9_writeThird s args RX9 RX9 97 yX9_colourOf cX9_colourOf 6 (some .int) wsX9_colourOf rmX9_colourOf 0 0 1 := cwV 1 hts gX9_writeThird_X9_colourOf rfl rfl rfl (by decide +kernel) ⟨Nat.le_of_ble_eq_true rfl, Nat.le_of_ble_eq_true rfl⟩
theorem qX9_writeThird_X9_little_100 {args : Array Value} {s : State} (hts : ∀ w ∈ wsX9_writeThird, w.before args s = true) : CallW rmX9_writeThird s args RX9 RX9 100 yX9_little cX9_little 4 none wsX9_little rmX9_little 0 0 2 := cwV 2 hts gX9_writeThird_X9_little rfl rfl rfl (by decide +kernel) ⟨Nat.le_of_ble_eq_true rfl, Nat.le_of_ble_eq_true rfl⟩
theorem qX9_writeThird_X9_pairs_106 {args : Array Value} {s : State} (hts : ∀ w ∈ wsX9_writeThird, w.before args s = true) : CallW rmX9_writeThird s args RX9 RX9 106 yX9_pairs cX9_pairs 5 none wsX9_pairs rmX9_pairs 0 0 1 := cwV 1 hts gX9_writeThird_X9_pairs rfl rfl rfl (by decide +kernel) ⟨Nat.le_of_ble_eq_true rfl, Nat.le_of_ble_eq_true rfl⟩
set_option maxHeartbeats 4000000 in
set_option maxRecDepth 100000 in
theorem wX9_writeThird_257 {p : Program} {l : Launch} {e : Env} {s : State} {m : MethodId} {args : Array Value} {below : List Frame} {meth : Method} {c : Code} {D : va_G} {A : Nat → Prop} {Q : State → Prop} {cI : ClassId} {h_t h_t_now h_t_file h_t_fresh h_t_colour h_t_table h_t_last h_t_one : Nat} {t_wide : Int32} {t_high : Int32} {t_at : Int32} {t_fault : Int32} {t_newWide : Int32} {t_newHigh : Int32} {t_colours : Int32} {t_now : Nat → Int32} {t_fresh : Nat → Int32} {t_colour : Nat → Int32} {t_table : Nat → Int32} {t_last : Nat → Int32} {t_one : Nat → Int32} {zt_size : Int32} {zt_file : Nat → Int32} (C : CallFix p m c cX9_writeThird 5 s args wsX9_writeThird RX9) (hN : zN s) (hK : va_K D vwCl [(cI, .int)] s) (hA : ∀ q, s.heap.size ≤ q → A q) (hE : zEv p l e rmX9_writeThird s m args below meth c cX9_writeThird D A Q (zwX9 cI h_t h_t_now h_t_file h_t_fresh h_t_colour h_t_table h_t_last h_t_one t_wide t_high zt_size t_at t_fault t_newWide t_newHigh t_colours t_now zt_file t_fresh t_colour t_table t_last t_one)) {rc199 : Int32 → Int32 → (Nat → Int32) → (Nat → Int32) → Int32 → Int32 → Option (Int32 × (Nat → Int32))} (hr_199 : ∀ {t_size : Int32} {t_file : Nat → Int32} {l1 : Int32} {l2 : Int32} {l3 : Int32} {H : Heap} {locs : List Loc} {ls : Array Slot}, rc199 t_wide t_size t_now t_file l1 l3 = some (zt_size, zt_file) → va_P D vwCl (zwX9 cI h_t h_t_now h_t_file h_t_fresh h_t_colour h_t_table h_t_last h_t_one t_wide t_high t_size t_at t_fault t_newWide t_newHigh t_colours t_now t_file t_fresh t_colour t_table t_last t_one) H → va_D A (zwX9 cI h_t h_t_now h_t_file h_t_fresh h_t_colour h_t_table h_t_last h_t_one t_wide t_high t_size t_at t_fault t_newWide t_newHigh t_colours t_now t_file t_fresh t_colour t_table t_last t_one) → va_S A s.heap H locs → lv_has ls 5 [(0, .ref h_t), (1, .int l1), (2, .int l2), (3, .int l3)] → W p l e rmX9_writeThird s m args below meth c H locs 0 0 Q (F0 m 199 ls [])) {t_size : Int32} {t_file : Nat → Int32} {l1 : Int32} {l2 : Int32} {l3 : Int32} {H : Heap} {locs : List Loc} {ls : Array Slot} : fX9_writeThird_257 rc199 t_wide t_size t_now t_file l1 l3 = some (zt_size, zt_file) → va_P D vwCl (zwX9 cI h_t h_t_now h_t_file h_t_fresh h_t_colour h_t_table h_t_last h_t_one t_wide t_high t_size t_at t_fault t_newWide t_newHigh t_colours t_now t_file t_fresh t_colour t_table t_last t_one) H → va_D A (zwX9 cI h_t h_t_now h_t_file h_t_fresh h_t_colour h_t_table h_t_last h_t_one t_wide t_high t_size t_at t_fault t_newWide t_newHigh t_colours t_now t_file t_fresh t_colour t_table t_last t_one) → va_S A s.heap H locs → lv_has ls 5 [(0, .ref h_t), (1, .int l1), (2, .int l2), (3, .int l3)] → W p l e rmX9_writeThird s m args below meth c H locs 0 0 Q (F0 m 257 ls []) := by
  intro hf hP hD hS hl
  obtain ⟨hx, hb, hml, hown, hts⟩ := id C
  unfold fX9_writeThird_257 at hf
  obtain ⟨x1, ex1⟩ : ∃ y : Int32, y = l3 + (-1) := ⟨_, rfl⟩
  replace hf := zlet_in hf ex1
  refine lv_iinc (v := x1) (lv' := [(3, .int x1), (0, .ref h_t), (1, .int l1), (2, .int l2)]) hx hb dX9_writeThird_257 hl (k := 3) rfl (by rw [ex1]; rfl) (by decide) rfl (fun ls hl => ?_)
  clear ex1
  refine lv_goto (tgt := 199) hx hb dX9_writeThird_260 (by decide) ?_
  exact hr_199 hf hP hD hS (lv_sub hl [1, 2, 3, 0] rfl)
set_option maxHeartbeats 4000000 in
set_option maxRecDepth 100000 in
theorem wX9_writeThird_218 {p : Program} {l : Launch} {e : Env} {s : State} {m : MethodId} {args : Array Value} {below : List Frame} {meth : Method} {c : Code} {D : va_G} {A : Nat → Prop} {Q : State → Prop} {cI : ClassId} {h_t h_t_now h_t_file h_t_fresh h_t_colour h_t_table h_t_last h_t_one : Nat} {t_wide : Int32} {t_high : Int32} {t_at : Int32} {t_fault : Int32} {t_newWide : Int32} {t_newHigh : Int32} {t_colours : Int32} {t_now : Nat → Int32} {t_fresh : Nat → Int32} {t_colour : Nat → Int32} {t_table : Nat → Int32} {t_last : Nat → Int32} {t_one : Nat → Int32} {zt_size : Int32} {zt_file : Nat → Int32} (C : CallFix p m c cX9_writeThird 5 s args wsX9_writeThird RX9) (hN : zN s) (hK : va_K D vwCl [(cI, .int)] s) (hA : ∀ q, s.heap.size ≤ q → A q) (hE : zEv p l e rmX9_writeThird s m args below meth c cX9_writeThird D A Q (zwX9 cI h_t h_t_now h_t_file h_t_fresh h_t_colour h_t_table h_t_last h_t_one t_wide t_high zt_size t_at t_fault t_newWide t_newHigh t_colours t_now zt_file t_fresh t_colour t_table t_last t_one)) {rc199 : Int32 → Int32 → (Nat → Int32) → (Nat → Int32) → Int32 → Int32 → Option (Int32 × (Nat → Int32))} (hr_199 : ∀ {t_size : Int32} {t_file : Nat → Int32} {l1 : Int32} {l2 : Int32} {l3 : Int32} {H : Heap} {locs : List Loc} {ls : Array Slot}, rc199 t_wide t_size t_now t_file l1 l3 = some (zt_size, zt_file) → va_P D vwCl (zwX9 cI h_t h_t_now h_t_file h_t_fresh h_t_colour h_t_table h_t_last h_t_one t_wide t_high t_size t_at t_fault t_newWide t_newHigh t_colours t_now t_file t_fresh t_colour t_table t_last t_one) H → va_D A (zwX9 cI h_t h_t_now h_t_file h_t_fresh h_t_colour h_t_table h_t_last h_t_one t_wide t_high t_size t_at t_fault t_newWide t_newHigh t_colours t_now t_file t_fresh t_colour t_table t_last t_one) → va_S A s.heap H locs → lv_has ls 5 [(0, .ref h_t), (1, .int l1), (2, .int l2), (3, .int l3)] → W p l e rmX9_writeThird s m args below meth c H locs 0 0 Q (F0 m 199 ls [])) (n : Nat) : ∀ {t_size : Int32} {t_file : Nat → Int32} {l1 : Int32} {l2 : Int32} {l3 : Int32} {l4 : Int32} {H : Heap} {locs : List Loc} {ls : Array Slot}, fX9_writeThird_218 rc199 n t_wide t_size t_now t_file l1 l3 l4 = some (zt_size, zt_file) → va_P D vwCl (zwX9 cI h_t h_t_now h_t_file h_t_fresh h_t_colour h_t_table h_t_last h_t_one t_wide t_high t_size t_at t_fault t_newWide t_newHigh t_colours t_now t_file t_fresh t_colour t_table t_last t_one) H → va_D A (zwX9 cI h_t h_t_now h_t_file h_t_fresh h_t_colour h_t_table h_t_last h_t_one t_wide t_high t_size t_at t_fault t_newWide t_newHigh t_colours t_now t_file t_fresh t_colour t_table t_last t_one) → va_S A s.heap H locs → lv_has ls 5 [(0, .ref h_t), (1, .int l1), (2, .int l2), (3, .int l3), (4, .int l4)] → W p l e rmX9_writeThird s m args below meth c H locs 0 0 Q (F0 m 218 ls []) := by
  obtain ⟨hx, hb, hml, hown, hts⟩ := id C
  induction n with
  | zero =>
    intro t_size t_file l1 l2 l3 l4 H locs ls hf
    cases hf
  | succ n hr_218 =>
    intro t_size t_file l1 l2 l3 l4 H locs ls hf hP hD hS hl
    rw [fX9_writeThird_218_s] at hf
    refine lv_iload hx hb dX9_writeThird_218 (lv_at hl 4 rfl) ?_
    refine lv_aload_n hx hb dX9_writeThird_220 rfl (lv_at hl 0 rfl) ?_
    refine va_get (D := D) (ci := 8) (v := .int t_wide) (C := RX9) (T := TX9) (N := 15) hx hb hts iX9_writeThird_X9 hown hK hP 0 rfl rfl 0 (by decide) (kX9_writeThird_7 hts) (fun _ h9 => h9) rfl dX9_writeThird_221 ?_
    refine lv_icmp_ge (tgt := 246) hx hb dX9_writeThird_224 (by decide) (fun c1 => ?_) (fun c1 => ?_)
    · replace hf := zif_t hf c1
      refine lv_aload_n hx hb dX9_writeThird_246 rfl (lv_at hl 0 rfl) ?_
      refine lv_iconst (v := 0) hx hb dX9_writeThird_247 (by decide) ?_
      refine lv_aload_n hx hb dX9_writeThird_248 rfl (lv_at hl 0 rfl) ?_
      refine va_get (D := D) (ci := 8) (v := .int t_wide) (C := RX9) (T := TX9) (N := 15) hx hb hts iX9_writeThird_X9 hown hK hP 0 rfl rfl 0 (by decide) (kX9_writeThird_7 hts) (fun _ h9 => h9) rfl dX9_writeThird_249 ?_
      refine lv_iconst (v := 4) hx hb dX9_writeThird_252 (by decide) ?_
      refine lv_irem hx hb dX9_writeThird_253 (by decide) ?_
      obtain ⟨u2, u3, hc4, hf⟩ := zb2_in hf
      refine zc_v (va_runV (As := [.int 0, .int (zrem t_wide 4)]) (rest := []) C (mX9_little l D cI H.size h_t h_t_now h_t_file h_t_fresh h_t_colour h_t_table h_t_last h_t_one t_wide t_high t_size t_at t_fault t_newWide t_newHigh t_colours t_now t_file t_fresh t_colour t_table t_last t_one 0 (zrem t_wide 4) u2 u3 hc4) (qX9_writeThird_X9_little_100 hts) ⟨zP_blind, va_recv hK hP (ci := 8) (q0 := 0) rfl rfl, zpre hK hN hP hD [0, 1, 2, 3, 4, 5, 6, 7] rfl rfl⟩ rfl rfl hl.1 rfl (lv_room (Nat.le_of_ble_eq_true rfl)) dX9_writeThird_254 ⟨Nat.zero_le _, Nat.zero_le _⟩) hP hD hS hA [0, 1, 2, 3, 4, 5, 6, 7] [] [0, 1, 2, 3, 4, 5, 6, 7] (ws' := zwX9 cI h_t h_t_now h_t_file h_t_fresh h_t_colour h_t_table h_t_last h_t_one t_wide t_high u2 t_at t_fault t_newWide t_newHigh t_colours t_now u3 t_fresh t_colour t_table t_last t_one) rfl rfl rfl rfl rfl rfl (fun H locs hP hD hS => ?_)
      exact wX9_writeThird_257 C hN hK hA hE hr_199 hf hP hD hS (lv_sub hl [0, 1, 2, 3] rfl)
    · replace hf := zif_f hf c1
      refine lv_aload_n hx hb dX9_writeThird_227 rfl (lv_at hl 0 rfl) ?_
      refine lv_aload_n hx hb dX9_writeThird_228 rfl (lv_at hl 0 rfl) ?_
      refine va_get (D := D) (ci := 8) (v := .int t_wide) (C := RX9) (T := TX9) (N := 15) hx hb hts iX9_writeThird_X9 hown hK hP 0 rfl rfl 0 (by decide) (kX9_writeThird_7 hts) (fun _ h9 => h9) rfl dX9_writeThird_229 ?_
      refine lv_iload_n hx hb dX9_writeThird_232 rfl (lv_at hl 3 rfl) ?_
      refine lv_imul hx hb dX9_writeThird_233 ?_
      refine lv_iload hx hb dX9_writeThird_234 (lv_at hl 4 rfl) ?_
      refine lv_iadd hx hb dX9_writeThird_236 ?_
      obtain ⟨u5, u6, hc7, hf⟩ := zb2_in hf
      refine zc_v (va_runV (As := [.int ((t_wide * l3) + l4)]) (rest := []) C (mX9_backwards l D cI H.size h_t h_t_now h_t_file h_t_fresh h_t_colour h_t_table h_t_last h_t_one t_wide t_high t_size t_at t_fault t_newWide t_newHigh t_colours t_now t_file t_fresh t_colour t_table t_last t_one ((t_wide * l3) + l4) u5 u6 hc7) (qX9_writeThird_X9_backwards_103 hts) ⟨zP_blind, va_recv hK hP (ci := 8) (q0 := 0) rfl rfl, zpre hK hN hP hD [0, 1, 2, 3, 4, 5, 6, 7] rfl rfl⟩ rfl rfl hl.1 rfl (lv_room (Nat.le_of_ble_eq_true rfl)) dX9_writeThird_237 ⟨Nat.zero_le _, Nat.zero_le _⟩) hP hD hS hA [0, 1, 2, 3, 4, 5, 6, 7] [] [0, 1, 2, 3, 4, 5, 6, 7] (ws' := zwX9 cI h_t h_t_now h_t_file h_t_fresh h_t_colour h_t_table h_t_last h_t_one t_wide t_high u5 t_at t_fault t_newWide t_newHigh t_colours t_now u6 t_fresh t_colour t_table t_last t_one) rfl rfl rfl rfl rfl rfl (fun H locs hP hD hS => ?_)
      obtain ⟨x8, ex8⟩ : ∃ y : Int32, y = l4 + 1 := ⟨_, rfl⟩
      replace hf := zlet_in hf ex8
      refine lv_iinc (v := x8) (lv' := [(4, .int x8), (0, .ref h_t), (1, .int l1), (2, .int l2), (3, .int l3)]) hx hb dX9_writeThird_240 hl (k := 4) rfl (by rw [ex8]; rfl) (by decide) rfl (fun ls hl => ?_)
      clear ex8
      refine lv_goto (tgt := 218) hx hb dX9_writeThird_243 (by decide) ?_
      exact hr_218 hf hP hD hS (lv_sub hl [1, 2, 3, 4, 0] rfl)
set_option maxHeartbeats 4000000 in
set_option maxRecDepth 100000 in
theorem wX9_writeThird_199 {p : Program} {l : Launch} {e : Env} {s : State} {m : MethodId} {args : Array Value} {below : List Frame} {meth : Method} {c : Code} {D : va_G} {A : Nat → Prop} {Q : State → Prop} {cI : ClassId} {h_t h_t_now h_t_file h_t_fresh h_t_colour h_t_table h_t_last h_t_one : Nat} {t_wide : Int32} {t_high : Int32} {t_at : Int32} {t_fault : Int32} {t_newWide : Int32} {t_newHigh : Int32} {t_colours : Int32} {t_now : Nat → Int32} {t_fresh : Nat → Int32} {t_colour : Nat → Int32} {t_table : Nat → Int32} {t_last : Nat → Int32} {t_one : Nat → Int32} {zt_size : Int32} {zt_file : Nat → Int32} (C : CallFix p m c cX9_writeThird 5 s args wsX9_writeThird RX9) (hN : zN s) (hK : va_K D vwCl [(cI, .int)] s) (hA : ∀ q, s.heap.size ≤ q → A q) (hE : zEv p l e rmX9_writeThird s m args below meth c cX9_writeThird D A Q (zwX9 cI h_t h_t_now h_t_file h_t_fresh h_t_colour h_t_table h_t_last h_t_one t_wide t_high zt_size t_at t_fault t_newWide t_newHigh t_colours t_now zt_file t_fresh t_colour t_table t_last t_one)) (n : Nat) : ∀ {t_size : Int32} {t_file : Nat → Int32} {l1 : Int32} {l2 : Int32} {l3 : Int32} {H : Heap} {locs : List Loc} {ls : Array Slot}, fX9_writeThird_199 n t_wide t_size t_now t_file l1 l3 = some (zt_size, zt_file) → va_P D vwCl (zwX9 cI h_t h_t_now h_t_file h_t_fresh h_t_colour h_t_table h_t_last h_t_one t_wide t_high t_size t_at t_fault t_newWide t_newHigh t_colours t_now t_file t_fresh t_colour t_table t_last t_one) H → va_D A (zwX9 cI h_t h_t_now h_t_file h_t_fresh h_t_colour h_t_table h_t_last h_t_one t_wide t_high t_size t_at t_fault t_newWide t_newHigh t_colours t_now t_file t_fresh t_colour t_table t_last t_one) → va_S A s.heap H locs → lv_has ls 5 [(0, .ref h_t), (1, .int l1), (2, .int l2), (3, .int l3)] → W p l e rmX9_writeThird s m args below meth c H locs 0 0 Q (F0 m 199 ls []) := by
  obtain ⟨hx, hb, hml, hown, hts⟩ := id C
  induction n with
  | zero =>
    intro t_size t_file l1 l2 l3 H locs ls hf
    cases hf
  | succ n hr_199 =>
    intro t_size t_file l1 l2 l3 H locs ls hf hP hD hS hl
    rw [fX9_writeThird_199_s] at hf
    refine lv_iload_n hx hb dX9_writeThird_199 rfl (lv_at hl 3 rfl) ?_
    refine lv_if_lt (tgt := 263) hx hb dX9_writeThird_200 (by decide) (fun c1 => ?_) (fun c1 => ?_)
    · replace hf := zif_t hf c1
      refine lv_aload_n hx hb dX9_writeThird_263 rfl (lv_at hl 0 rfl) ?_
      refine va_get (D := D) (ci := 8) (v := .int t_size) (C := RX9) (T := TX9) (N := 15) hx hb hts iX9_writeThird_X9 hown hK hP 0 rfl rfl 3 (by decide) (kX9_writeThird_57 hts) (fun _ h9 => h9) rfl dX9_writeThird_264 ?_
      refine lv_istore_n (lv' := [(3, .int t_size), (0, .ref h_t), (1, .int l1), (2, .int l2)]) hx hb dX9_writeThird_267 rfl hl (by decide) rfl (fun ls hl => ?_)
      refine lv_aload_n hx hb dX9_writeThird_268 rfl (lv_at hl 1 rfl) ?_
      refine lv_iconst (v := 2) hx hb dX9_writeThird_269 (by decide) ?_
      refine va_put (D := D) (ci := 8) (v := .int 2) (ty := .int) (C := RX9) (T := TX9) (N := 15) hx hb hts iX9_writeThird_X9 tyX9 tyX9_ok nmX9 hown hK hP hD hS 0 rfl rfl 3 (by decide) (kX9_writeThird_57 hts) (fun _ h9 => h9) rfl (by decide +kernel) rfl rfl (Nat.le_of_ble_eq_true rfl) dX9_writeThird_270 (fun H locs hP hD hS => ?_)
      replace hP : va_P D vwCl (zwX9 cI h_t h_t_now h_t_file h_t_fresh h_t_colour h_t_table h_t_last h_t_one t_wide t_high 2 t_at t_fault t_newWide t_newHigh t_colours t_now t_file t_fresh t_colour t_table t_last t_one) H := hP
      replace hD : va_D A (zwX9 cI h_t h_t_now h_t_file h_t_fresh h_t_colour h_t_table h_t_last h_t_one t_wide t_high 2 t_at t_fault t_newWide t_newHigh t_colours t_now t_file t_fresh t_colour t_table t_last t_one) := hD
      refine lv_aload_n hx hb dX9_writeThird_273 rfl (lv_at hl 1 rfl) ?_
      refine lv_iload_n hx hb dX9_writeThird_274 rfl (lv_at hl 0 rfl) ?_
      refine lv_iconst (v := 4) hx hb dX9_writeThird_275 (by decide) ?_
      obtain ⟨u2, u3, hc4, hf⟩ := zb2_in hf
      refine zc_v (va_runV (As := [.int t_size, .int 4]) (rest := []) C (mX9_little l D cI H.size h_t h_t_now h_t_file h_t_fresh h_t_colour h_t_table h_t_last h_t_one t_wide t_high 2 t_at t_fault t_newWide t_newHigh t_colours t_now t_file t_fresh t_colour t_table t_last t_one t_size 4 u2 u3 hc4) (qX9_writeThird_X9_little_100 hts) ⟨zP_blind, va_recv hK hP (ci := 8) (q0 := 0) rfl rfl, zpre hK hN hP hD [0, 1, 2, 3, 4, 5, 6, 7] rfl rfl⟩ rfl rfl hl.1 rfl (lv_room (Nat.le_of_ble_eq_true rfl)) dX9_writeThird_276 ⟨Nat.zero_le _, Nat.zero_le _⟩) hP hD hS hA [0, 1, 2, 3, 4, 5, 6, 7] [] [0, 1, 2, 3, 4, 5, 6, 7] (ws' := zwX9 cI h_t h_t_now h_t_file h_t_fresh h_t_colour h_t_table h_t_last h_t_one t_wide t_high u2 t_at t_fault t_newWide t_newHigh t_colours t_now u3 t_fresh t_colour t_table t_last t_one) rfl rfl rfl rfl rfl rfl (fun H locs hP hD hS => ?_)
      refine lv_aload_n hx hb dX9_writeThird_279 rfl (lv_at hl 1 rfl) ?_
      refine lv_iload_n hx hb dX9_writeThird_280 rfl (lv_at hl 0 rfl) ?_
      refine va_put (D := D) (ci := 8) (v := .int t_size) (ty := .int) (C := RX9) (T := TX9) (N := 15) hx hb hts iX9_writeThird_X9 tyX9 tyX9_ok nmX9 hown hK hP hD hS 0 rfl rfl 3 (by decide) (kX9_writeThird_57 hts) (fun _ h9 => h9) rfl (by decide +kernel) rfl rfl (Nat.le_of_ble_eq_true rfl) dX9_writeThird_281 (fun H locs hP hD hS => ?_)
      replace hP : va_P D vwCl (zwX9 cI h_t h_t_now h_t_file h_t_fresh h_t_colour h_t_table h_t_last h_t_one t_wide t_high t_size t_at t_fault t_newWide t_newHigh t_colours t_now u3 t_fresh t_colour t_table t_last t_one) H := hP
      replace hD : va_D A (zwX9 cI h_t h_t_now h_t_file h_t_fresh h_t_colour h_t_table h_t_last h_t_one t_wide t_high t_size t_at t_fault t_newWide t_newHigh t_colours t_now u3 t_fresh t_colour t_table t_last t_one) := hD
      cases hf
      exact hE _ _ _ _ dX9_writeThird_284 hP hD hS
    · replace hf := zif_f hf c1
      refine lv_iload_n hx hb dX9_writeThird_203 rfl (lv_at hl 1 rfl) ?_
      refine lv_if_eq (tgt := 215) hx hb dX9_writeThird_204 (by decide) (fun c5 => ?_) (fun c5 => ?_)
      · replace hf := zif_t hf c5
        refine lv_iconst (v := 0) hx hb dX9_writeThird_215 (by decide) ?_
        refine lv_istore (lv' := [(4, .int 0), (0, .ref h_t), (1, .int l1), (2, .int l2), (3, .int l3)]) hx hb dX9_writeThird_216 hl (by decide) rfl (fun ls hl => ?_)
        exact wX9_writeThird_218 C hN hK hA hE hr_199 1000 hf hP hD hS (lv_sub hl [1, 2, 3, 4, 0] rfl)
      · replace hf := zif_f hf c5
        refine lv_aload_n hx hb dX9_writeThird_207 rfl (lv_at hl 0 rfl) ?_
        refine lv_iload_n hx hb dX9_writeThird_208 rfl (lv_at hl 3 rfl) ?_
        obtain ⟨u6, u7, hc8, hf⟩ := zb2_in hf
        refine zc_v (va_runV (As := [.int l3]) (rest := []) C (mX9_pairs l D cI H.size h_t h_t_now h_t_file h_t_fresh h_t_colour h_t_table h_t_last h_t_one t_wide t_high t_size t_at t_fault t_newWide t_newHigh t_colours t_now t_file t_fresh t_colour t_table t_last t_one l3 u6 u7 hc8) (qX9_writeThird_X9_pairs_106 hts) ⟨zP_blind, va_recv hK hP (ci := 8) (q0 := 0) rfl rfl, zpre hK hN hP hD [0, 1, 2, 3, 4, 5, 6, 7] rfl rfl⟩ rfl rfl hl.1 rfl (lv_room (Nat.le_of_ble_eq_true rfl)) dX9_writeThird_209 ⟨Nat.zero_le _, Nat.zero_le _⟩) hP hD hS hA [0, 1, 2, 3, 4, 5, 6, 7] [] [0, 1, 2, 3, 4, 5, 6, 7] (ws' := zwX9 cI h_t h_t_now h_t_file h_t_fresh h_t_colour h_t_table h_t_last h_t_one t_wide t_high u6 t_at t_fault t_newWide t_newHigh t_colours t_now u7 t_fresh t_colour t_table t_last t_one) rfl rfl rfl rfl rfl rfl (fun H locs hP hD hS => ?_)
        refine lv_goto (tgt := 257) hx hb dX9_writeThird_212 (by decide) ?_
        exact wX9_writeThird_257 C hN hK hA hE hr_199 hf hP hD hS (lv_sub hl [0, 1, 2, 3] rfl)
set_option maxHeartbeats 4000000 in
set_option maxRecDepth 100000 in
theorem wX9_writeThird_192 {p : Program} {l : Launch} {e : Env} {s : State} {m : MethodId} {args : Array Value} {below : List Frame} {meth : Method} {c : Code} {D : va_G} {A : Nat → Prop} {Q : State → Prop} {cI : ClassId} {h_t h_t_now h_t_file h_t_fresh h_t_colour h_t_table h_t_last h_t_one : Nat} {t_wide : Int32} {t_high : Int32} {t_at : Int32} {t_fault : Int32} {t_newWide : Int32} {t_newHigh : Int32} {t_colours : Int32} {t_now : Nat → Int32} {t_fresh : Nat → Int32} {t_colour : Nat → Int32} {t_table : Nat → Int32} {t_last : Nat → Int32} {t_one : Nat → Int32} {zt_size : Int32} {zt_file : Nat → Int32} (C : CallFix p m c cX9_writeThird 5 s args wsX9_writeThird RX9) (hN : zN s) (hK : va_K D vwCl [(cI, .int)] s) (hA : ∀ q, s.heap.size ≤ q → A q) (hE : zEv p l e rmX9_writeThird s m args below meth c cX9_writeThird D A Q (zwX9 cI h_t h_t_now h_t_file h_t_fresh h_t_colour h_t_table h_t_last h_t_one t_wide t_high zt_size t_at t_fault t_newWide t_newHigh t_colours t_now zt_file t_fresh t_colour t_table t_last t_one)) {t_size : Int32} {t_file : Nat → Int32} {l1 : Int32} {l2 : Int32} {l3 : Int32} {H : Heap} {locs : List Loc} {ls : Array Slot} : fX9_writeThird_192 t_wide t_high t_size t_now t_file l1 = some (zt_size, zt_file) → va_P D vwCl (zwX9 cI h_t h_t_now h_t_file h_t_fresh h_t_colour h_t_table h_t_last h_t_one t_wide t_high t_size t_at t_fault t_newWide t_newHigh t_colours t_now t_file t_fresh t_colour t_table t_last t_one) H → va_D A (zwX9 cI h_t h_t_now h_t_file h_t_fresh h_t_colour h_t_table h_t_last h_t_one t_wide t_high t_size t_at t_fault t_newWide t_newHigh t_colours t_now t_file t_fresh t_colour t_table t_last t_one) → va_S A s.heap H locs → lv_has ls 5 [(0, .ref h_t), (1, .int l1), (2, .int l2), (3, .int l3)] → W p l e rmX9_writeThird s m args below meth c H locs 0 0 Q (F0 m 192 ls []) := by
  intro hf hP hD hS hl
  obtain ⟨hx, hb, hml, hown, hts⟩ := id C
  unfold fX9_writeThird_192 at hf
  refine lv_aload_n hx hb dX9_writeThird_192 rfl (lv_at hl 0 rfl) ?_
  refine va_get (D := D) (ci := 8) (v := .int t_high) (C := RX9) (T := TX9) (N := 15) hx hb hts iX9_writeThird_X9 hown hK hP 0 rfl rfl 1 (by decide) (kX9_writeThird_13 hts) (fun _ h9 => h9) rfl dX9_writeThird_193 ?_
  refine lv_iconst (v := 1) hx hb dX9_writeThird_196 (by decide) ?_
  refine lv_isub hx hb dX9_writeThird_197 ?_
  refine lv_topi (fun x1 ex1 => ?_)
  replace hf := zlet_in hf ex1
  clear ex1
  refine lv_istore_n (lv' := [(3, .int x1), (0, .ref h_t), (1, .int l1), (2, .int l2)]) hx hb dX9_writeThird_198 rfl hl (by decide) rfl (fun ls hl => ?_)
  exact wX9_writeThird_199 C hN hK hA hE 1000 hf hP hD hS (lv_sub hl [1, 2, 3, 0] rfl)
set_option maxHeartbeats 4000000 in
set_option maxRecDepth 100000 in
theorem wX9_writeThird_186 {p : Program} {l : Launch} {e : Env} {s : State} {m : MethodId} {args : Array Value} {below : List Frame} {meth : Method} {c : Code} {D : va_G} {A : Nat → Prop} {Q : State → Prop} {cI : ClassId} {h_t h_t_now h_t_file h_t_fresh h_t_colour h_t_table h_t_last h_t_one : Nat} {t_wide : Int32} {t_high : Int32} {t_at : Int32} {t_fault : Int32} {t_newWide : Int32} {t_newHigh : Int32} {t_colours : Int32} {t_now : Nat → Int32} {t_fresh : Nat → Int32} {t_colour : Nat → Int32} {t_table : Nat → Int32} {t_last : Nat → Int32} {t_one : Nat → Int32} {zt_size : Int32} {zt_file : Nat → Int32} (C : CallFix p m c cX9_writeThird 5 s args wsX9_writeThird RX9) (hN : zN s) (hK : va_K D vwCl [(cI, .int)] s) (hA : ∀ q, s.heap.size ≤ q → A q) (hE : zEv p l e rmX9_writeThird s m args below meth c cX9_writeThird D A Q (zwX9 cI h_t h_t_now h_t_file h_t_fresh h_t_colour h_t_table h_t_last h_t_one t_wide t_high zt_size t_at t_fault t_newWide t_newHigh t_colours t_now zt_file t_fresh t_colour t_table t_last t_one)) {rc151 : Int32 → Int32 → Int32 → (Nat → Int32) → (Nat → Int32) → Int32 → Int32 → Option (Int32 × (Nat → Int32))} (hr_151 : ∀ {t_size : Int32} {t_file : Nat → Int32} {l1 : Int32} {l2 : Int32} {l3 : Int32} {H : Heap} {locs : List Loc} {ls : Array Slot}, rc151 t_wide t_high t_size t_now t_file l1 l3 = some (zt_size, zt_file) → va_P D vwCl (zwX9 cI h_t h_t_now h_t_file h_t_fresh h_t_colour h_t_table h_t_last h_t_one t_wide t_high t_size t_at t_fault t_newWide t_newHigh t_colours t_now t_file t_fresh t_colour t_table t_last t_one) H → va_D A (zwX9 cI h_t h_t_now h_t_file h_t_fresh h_t_colour h_t_table h_t_last h_t_one t_wide t_high t_size t_at t_fault t_newWide t_newHigh t_colours t_now t_file t_fresh t_colour t_table t_last t_one) → va_S A s.heap H locs → lv_has ls 5 [(0, .ref h_t), (1, .int l1), (2, .int l2), (3, .int l3)] → W p l e rmX9_writeThird s m args below meth c H locs 0 0 Q (F0 m 151 ls [])) {t_size : Int32} {t_file : Nat → Int32} {l1 : Int32} {l2 : Int32} {l3 : Int32} {H : Heap} {locs : List Loc} {ls : Array Slot} : fX9_writeThird_186 rc151 t_wide t_high t_size t_now t_file l1 l3 = some (zt_size, zt_file) → va_P D vwCl (zwX9 cI h_t h_t_now h_t_file h_t_fresh h_t_colour h_t_table h_t_last h_t_one t_wide t_high t_size t_at t_fault t_newWide t_newHigh t_colours t_now t_file t_fresh t_colour t_table t_last t_one) H → va_D A (zwX9 cI h_t h_t_now h_t_file h_t_fresh h_t_colour h_t_table h_t_last h_t_one t_wide t_high t_size t_at t_fault t_newWide t_newHigh t_colours t_now t_file t_fresh t_colour t_table t_last t_one) → va_S A s.heap H locs → lv_has ls 5 [(0, .ref h_t), (1, .int l1), (2, .int l2), (3, .int l3)] → W p l e rmX9_writeThird s m args below meth c H locs 0 0 Q (F0 m 186 ls []) := by
  intro hf hP hD hS hl
  obtain ⟨hx, hb, hml, hown, hts⟩ := id C
  unfold fX9_writeThird_186 at hf
  obtain ⟨x1, ex1⟩ : ∃ y : Int32, y = l3 + 1 := ⟨_, rfl⟩
  replace hf := zlet_in hf ex1
  refine lv_iinc (v := x1) (lv' := [(3, .int x1), (0, .ref h_t), (1, .int l1), (2, .int l2)]) hx hb dX9_writeThird_186 hl (k := 3) rfl (by rw [ex1]; rfl) (by decide) rfl (fun ls hl => ?_)
  clear ex1
  refine lv_goto (tgt := 151) hx hb dX9_writeThird_189 (by decide) ?_
  exact hr_151 hf hP hD hS (lv_sub hl [1, 2, 3, 0] rfl)
set_option maxHeartbeats 4000000 in
set_option maxRecDepth 100000 in
theorem wX9_writeThird_151 {p : Program} {l : Launch} {e : Env} {s : State} {m : MethodId} {args : Array Value} {below : List Frame} {meth : Method} {c : Code} {D : va_G} {A : Nat → Prop} {Q : State → Prop} {cI : ClassId} {h_t h_t_now h_t_file h_t_fresh h_t_colour h_t_table h_t_last h_t_one : Nat} {t_wide : Int32} {t_high : Int32} {t_at : Int32} {t_fault : Int32} {t_newWide : Int32} {t_newHigh : Int32} {t_colours : Int32} {t_now : Nat → Int32} {t_fresh : Nat → Int32} {t_colour : Nat → Int32} {t_table : Nat → Int32} {t_last : Nat → Int32} {t_one : Nat → Int32} {zt_size : Int32} {zt_file : Nat → Int32} (C : CallFix p m c cX9_writeThird 5 s args wsX9_writeThird RX9) (hN : zN s) (hK : va_K D vwCl [(cI, .int)] s) (hA : ∀ q, s.heap.size ≤ q → A q) (hE : zEv p l e rmX9_writeThird s m args below meth c cX9_writeThird D A Q (zwX9 cI h_t h_t_now h_t_file h_t_fresh h_t_colour h_t_table h_t_last h_t_one t_wide t_high zt_size t_at t_fault t_newWide t_newHigh t_colours t_now zt_file t_fresh t_colour t_table t_last t_one)) (n : Nat) : ∀ {t_size : Int32} {t_file : Nat → Int32} {l1 : Int32} {l2 : Int32} {l3 : Int32} {H : Heap} {locs : List Loc} {ls : Array Slot}, fX9_writeThird_151 n t_wide t_high t_size t_now t_file l1 l3 = some (zt_size, zt_file) → va_P D vwCl (zwX9 cI h_t h_t_now h_t_file h_t_fresh h_t_colour h_t_table h_t_last h_t_one t_wide t_high t_size t_at t_fault t_newWide t_newHigh t_colours t_now t_file t_fresh t_colour t_table t_last t_one) H → va_D A (zwX9 cI h_t h_t_now h_t_file h_t_fresh h_t_colour h_t_table h_t_last h_t_one t_wide t_high t_size t_at t_fault t_newWide t_newHigh t_colours t_now t_file t_fresh t_colour t_table t_last t_one) → va_S A s.heap H locs → lv_has ls 5 [(0, .ref h_t), (1, .int l1), (2, .int l2), (3, .int l3)] → W p l e rmX9_writeThird s m args below meth c H locs 0 0 Q (F0 m 151 ls []) := by
  obtain ⟨hx, hb, hml, hown, hts⟩ := id C
  induction n with
  | zero =>
    intro t_size t_file l1 l2 l3 H locs ls hf
    cases hf
  | succ n hr_151 =>
    intro t_size t_file l1 l2 l3 H locs ls hf hP hD hS hl
    rw [fX9_writeThird_151_s] at hf
    refine lv_iload_n hx hb dX9_writeThird_151 rfl (lv_at hl 3 rfl) ?_
    refine lv_aload_n hx hb dX9_writeThird_152 rfl (lv_at hl 0 rfl) ?_
    refine va_get (D := D) (ci := 8) (v := .int t_wide) (C := RX9) (T := TX9) (N := 15) hx hb hts iX9_writeThird_X9 hown hK hP 0 rfl rfl 0 (by decide) (kX9_writeThird_7 hts) (fun _ h9 => h9) rfl dX9_writeThird_153 ?_
    refine lv_aload_n hx hb dX9_writeThird_156 rfl (lv_at hl 0 rfl) ?_
    refine va_get (D := D) (ci := 8) (v := .int t_high) (C := RX9) (T := TX9) (N := 15) hx hb hts iX9_writeThird_X9 hown hK hP 0 rfl rfl 1 (by decide) (kX9_writeThird_13 hts) (fun _ h9 => h9) rfl dX9_writeThird_157 ?_
    refine lv_imul hx hb dX9_writeThird_160 ?_
    refine lv_icmp_ge (tgt := 192) hx hb dX9_writeThird_161 (by decide) (fun c1 => ?_) (fun c1 => ?_)
    · replace hf := zif_t hf c1
      exact wX9_writeThird_192 C hN hK hA hE hf hP hD hS (lv_sub hl [0, 1, 2, 3] rfl)
    · replace hf := zif_f hf c1
      refine lv_iload_n hx hb dX9_writeThird_164 rfl (lv_at hl 1 rfl) ?_
      refine lv_if_eq (tgt := 192) hx hb dX9_writeThird_165 (by decide) (fun c2 => ?_) (fun c2 => ?_)
      · replace hf := zif_t hf c2
        exact wX9_writeThird_192 C hN hK hA hE hf hP hD hS (lv_sub hl [0, 1, 2, 3] rfl)
      · replace hf := zif_f hf c2
        refine lv_aload_n hx hb dX9_writeThird_168 rfl (lv_at hl 0 rfl) ?_
        refine lv_iload_n hx hb dX9_writeThird_169 rfl (lv_at hl 3 rfl) ?_
        obtain ⟨r3, hc4, hf⟩ := zb1_in hf
        refine zc_i (va_runV (As := [.int l3]) (rest := []) C (mX9_colourOf l D cI H.size h_t h_t_now h_t_file h_t_fresh h_t_colour h_t_table h_t_last h_t_one t_wide t_high t_size t_at t_fault t_newWide t_newHigh t_colours t_now t_file t_fresh t_colour t_table t_last t_one l3 r3 hc4) (qX9_writeThird_X9_colourOf_97 hts) ⟨zP_blind, va_recv hK hP (ci := 8) (q0 := 0) rfl rfl, zpre hK hN hP hD [0, 1, 2, 3, 4, 5, 6, 7] rfl rfl⟩ rfl rfl hl.1 rfl (lv_room (Nat.le_of_ble_eq_true rfl)) dX9_writeThird_170 ⟨Nat.zero_le _, Nat.zero_le _⟩) hP hD hS hA [0, 1, 2, 3, 4, 5, 6, 7] [] [0, 1, 2, 3, 4, 5, 6, 7] (ws' := zwX9 cI h_t h_t_now h_t_file h_t_fresh h_t_colour h_t_table h_t_last h_t_one t_wide t_high t_size t_at t_fault t_newWide t_newHigh t_colours t_now t_file t_fresh t_colour t_table t_last t_one) rfl rfl rfl rfl rfl rfl (fun H locs hP hD hS => ?_)
        refine lv_if_ge (tgt := 186) hx hb dX9_writeThird_173 (by decide) (fun c5 => ?_) (fun c5 => ?_)
        · replace hf := zif_t hf c5
          exact wX9_writeThird_186 C hN hK hA hE hr_151 hf hP hD hS (lv_sub hl [0, 1, 2, 3] rfl)
        · replace hf := zif_f hf c5
          refine lv_aload_n hx hb dX9_writeThird_176 rfl (lv_at hl 0 rfl) ?_
          refine lv_iload_n hx hb dX9_writeThird_177 rfl (lv_at hl 3 rfl) ?_
          obtain ⟨u6, u7, hc8, hf⟩ := zb2_in hf
          refine zc_v (va_runV (As := [.int l3]) (rest := []) C (mX9_backwards l D cI H.size h_t h_t_now h_t_file h_t_fresh h_t_colour h_t_table h_t_last h_t_one t_wide t_high t_size t_at t_fault t_newWide t_newHigh t_colours t_now t_file t_fresh t_colour t_table t_last t_one l3 u6 u7 hc8) (qX9_writeThird_X9_backwards_103 hts) ⟨zP_blind, va_recv hK hP (ci := 8) (q0 := 0) rfl rfl, zpre hK hN hP hD [0, 1, 2, 3, 4, 5, 6, 7] rfl rfl⟩ rfl rfl hl.1 rfl (lv_room (Nat.le_of_ble_eq_true rfl)) dX9_writeThird_178 ⟨Nat.zero_le _, Nat.zero_le _⟩) hP hD hS hA [0, 1, 2, 3, 4, 5, 6, 7] [] [0, 1, 2, 3, 4, 5, 6, 7] (ws' := zwX9 cI h_t h_t_now h_t_file h_t_fresh h_t_colour h_t_table h_t_last h_t_one t_wide t_high u6 t_at t_fault t_newWide t_newHigh t_colours t_now u7 t_fresh t_colour t_table t_last t_one) rfl rfl rfl rfl rfl rfl (fun H locs hP hD hS => ?_)
          refine lv_aload_n hx hb dX9_writeThird_181 rfl (lv_at hl 0 rfl) ?_
          refine lv_iconst (v := 0) hx hb dX9_writeThird_182 (by decide) ?_
          obtain ⟨u9, u10, hc11, hf⟩ := zb2_in hf
          refine zc_v (va_runV (As := [.int 0]) (rest := []) C (mX9_add l D cI H.size h_t h_t_now h_t_file h_t_fresh h_t_colour h_t_table h_t_last h_t_one t_wide t_high u6 t_at t_fault t_newWide t_newHigh t_colours t_now u7 t_fresh t_colour t_table t_last t_one 0 u9 u10 hc11) (qX9_writeThird_X9_add_63 hts) ⟨zP_blind, va_recv hK hP (ci := 8) (q0 := 0) rfl rfl, zpre hK hN hP hD [0, 1, 2, 3, 4, 5, 6, 7] rfl rfl⟩ rfl rfl hl.1 rfl (lv_room (Nat.le_of_ble_eq_true rfl)) dX9_writeThird_183 ⟨Nat.zero_le _, Nat.zero_le _⟩) hP hD hS hA [0, 1, 2, 3, 4, 5, 6, 7] [] [0, 1, 2, 3, 4, 5, 6, 7] (ws' := zwX9 cI h_t h_t_now h_t_file h_t_fresh h_t_colour h_t_table h_t_last h_t_one t_wide t_high u9 t_at t_fault t_newWide t_newHigh t_colours t_now u10 t_fresh t_colour t_table t_last t_one) rfl rfl rfl rfl rfl rfl (fun H locs hP hD hS => ?_)
          exact wX9_writeThird_186 C hN hK hA hE hr_151 hf hP hD hS (lv_sub hl [0, 1, 2, 3] rfl)
set_option maxHeartbeats 4000000 in
set_option maxRecDepth 100000 in
theorem wX9_writeThird_126 {p : Program} {l : Launch} {e : Env} {s : State} {m : MethodId} {args : Array Value} {below : List Frame} {meth : Method} {c : Code} {D : va_G} {A : Nat → Prop} {Q : State → Prop} {cI : ClassId} {h_t h_t_now h_t_file h_t_fresh h_t_colour h_t_table h_t_last h_t_one : Nat} {t_wide : Int32} {t_high : Int32} {t_at : Int32} {t_fault : Int32} {t_newWide : Int32} {t_newHigh : Int32} {t_colours : Int32} {t_now : Nat → Int32} {t_fresh : Nat → Int32} {t_colour : Nat → Int32} {t_table : Nat → Int32} {t_last : Nat → Int32} {t_one : Nat → Int32} {zt_size : Int32} {zt_file : Nat → Int32} (C : CallFix p m c cX9_writeThird 5 s args wsX9_writeThird RX9) (hN : zN s) (hK : va_K D vwCl [(cI, .int)] s) (hA : ∀ q, s.heap.size ≤ q → A q) (hE : zEv p l e rmX9_writeThird s m args below meth c cX9_writeThird D A Q (zwX9 cI h_t h_t_now h_t_file h_t_fresh h_t_colour h_t_table h_t_last h_t_one t_wide t_high zt_size t_at t_fault t_newWide t_newHigh t_colours t_now zt_file t_fresh t_colour t_table t_last t_one)) {t_size : Int32} {t_file : Nat → Int32} {l1 : Int32} {l2 : Int32} {l3 : Int32} {k1 : Int32} {H : Heap} {locs : List Loc} {ls : Array Slot} : fX9_writeThird_126 t_wide t_high t_size t_now t_file l1 l2 k1 = some (zt_size, zt_file) → va_P D vwCl (zwX9 cI h_t h_t_now h_t_file h_t_fresh h_t_colour h_t_table h_t_last h_t_one t_wide t_high t_size t_at t_fault t_newWide t_newHigh t_colours t_now t_file t_fresh t_colour t_table t_last t_one) H → va_D A (zwX9 cI h_t h_t_now h_t_file h_t_fresh h_t_colour h_t_table h_t_last h_t_one t_wide t_high t_size t_at t_fault t_newWide t_newHigh t_colours t_now t_file t_fresh t_colour t_table t_last t_one) → va_S A s.heap H locs → lv_has ls 5 [(0, .ref h_t), (1, .int l1), (2, .int l2), (3, .int l3)] → W p l e rmX9_writeThird s m args below meth c H locs 0 0 Q (F0 m 126 ls [.int k1, .ref h_t]) := by
  intro hf hP hD hS hl
  obtain ⟨hx, hb, hml, hown, hts⟩ := id C
  unfold fX9_writeThird_126 at hf
  refine lv_iconst (v := 4) hx hb dX9_writeThird_126 (by decide) ?_
  obtain ⟨u1, u2, hc3, hf⟩ := zb2_in hf
  refine zc_v (va_runV (As := [.int k1, .int 4]) (rest := []) C (mX9_little l D cI H.size h_t h_t_now h_t_file h_t_fresh h_t_colour h_t_table h_t_last h_t_one t_wide t_high t_size t_at t_fault t_newWide t_newHigh t_colours t_now t_file t_fresh t_colour t_table t_last t_one k1 4 u1 u2 hc3) (qX9_writeThird_X9_little_100 hts) ⟨zP_blind, va_recv hK hP (ci := 8) (q0 := 0) rfl rfl, zpre hK hN hP hD [0, 1, 2, 3, 4, 5, 6, 7] rfl rfl⟩ rfl rfl hl.1 rfl (lv_room (Nat.le_of_ble_eq_true rfl)) dX9_writeThird_127 ⟨Nat.zero_le _, Nat.zero_le _⟩) hP hD hS hA [0, 1, 2, 3, 4, 5, 6, 7] [] [0, 1, 2, 3, 4, 5, 6, 7] (ws' := zwX9 cI h_t h_t_now h_t_file h_t_fresh h_t_colour h_t_table h_t_last h_t_one t_wide t_high u1 t_at t_fault t_newWide t_newHigh t_colours t_now u2 t_fresh t_colour t_table t_last t_one) rfl rfl rfl rfl rfl rfl (fun H locs hP hD hS => ?_)
  refine lv_aload_n hx hb dX9_writeThird_130 rfl (lv_at hl 0 rfl) ?_
  refine lv_iconst (v := 0) hx hb dX9_writeThird_131 (by decide) ?_
  refine lv_bipush (v := 12) hx hb dX9_writeThird_132 (by decide) ?_
  obtain ⟨u4, u5, hc6, hf⟩ := zb2_in hf
  refine zc_v (va_runV (As := [.int 0, .int 12]) (rest := []) C (mX9_little l D cI H.size h_t h_t_now h_t_file h_t_fresh h_t_colour h_t_table h_t_last h_t_one t_wide t_high u1 t_at t_fault t_newWide t_newHigh t_colours t_now u2 t_fresh t_colour t_table t_last t_one 0 12 u4 u5 hc6) (qX9_writeThird_X9_little_100 hts) ⟨zP_blind, va_recv hK hP (ci := 8) (q0 := 0) rfl rfl, zpre hK hN hP hD [0, 1, 2, 3, 4, 5, 6, 7] rfl rfl⟩ rfl rfl hl.1 rfl (lv_room (Nat.le_of_ble_eq_true rfl)) dX9_writeThird_134 ⟨Nat.zero_le _, Nat.zero_le _⟩) hP hD hS hA [0, 1, 2, 3, 4, 5, 6, 7] [] [0, 1, 2, 3, 4, 5, 6, 7] (ws' := zwX9 cI h_t h_t_now h_t_file h_t_fresh h_t_colour h_t_table h_t_last h_t_one t_wide t_high u4 t_at t_fault t_newWide t_newHigh t_colours t_now u5 t_fresh t_colour t_table t_last t_one) rfl rfl rfl rfl rfl rfl (fun H locs hP hD hS => ?_)
  refine lv_aload_n hx hb dX9_writeThird_137 rfl (lv_at hl 0 rfl) ?_
  refine lv_iload_n hx hb dX9_writeThird_138 rfl (lv_at hl 2 rfl) ?_
  refine lv_iconst (v := 4) hx hb dX9_writeThird_139 (by decide) ?_
  obtain ⟨u7, u8, hc9, hf⟩ := zb2_in hf
  refine zc_v (va_runV (As := [.int l2, .int 4]) (rest := []) C (mX9_little l D cI H.size h_t h_t_now h_t_file h_t_fresh h_t_colour h_t_table h_t_last h_t_one t_wide t_high u4 t_at t_fault t_newWide t_newHigh t_colours t_now u5 t_fresh t_colour t_table t_last t_one l2 4 u7 u8 hc9) (qX9_writeThird_X9_little_100 hts) ⟨zP_blind, va_recv hK hP (ci := 8) (q0 := 0) rfl rfl, zpre hK hN hP hD [0, 1, 2, 3, 4, 5, 6, 7] rfl rfl⟩ rfl rfl hl.1 rfl (lv_room (Nat.le_of_ble_eq_true rfl)) dX9_writeThird_140 ⟨Nat.zero_le _, Nat.zero_le _⟩) hP hD hS hA [0, 1, 2, 3, 4, 5, 6, 7] [] [0, 1, 2, 3, 4, 5, 6, 7] (ws' := zwX9 cI h_t h_t_now h_t_file h_t_fresh h_t_colour h_t_table h_t_last h_t_one t_wide t_high u7 t_at t_fault t_newWide t_newHigh t_colours t_now u8 t_fresh t_colour t_table t_last t_one) rfl rfl rfl rfl rfl rfl (fun H locs hP hD hS => ?_)
  refine lv_aload_n hx hb dX9_writeThird_143 rfl (lv_at hl 0 rfl) ?_
  refine lv_iconst (v := 0) hx hb dX9_writeThird_144 (by decide) ?_
  refine lv_iconst (v := 4) hx hb dX9_writeThird_145 (by decide) ?_
  obtain ⟨u10, u11, hc12, hf⟩ := zb2_in hf
  refine zc_v (va_runV (As := [.int 0, .int 4]) (rest := []) C (mX9_little l D cI H.size h_t h_t_now h_t_file h_t_fresh h_t_colour h_t_table h_t_last h_t_one t_wide t_high u7 t_at t_fault t_newWide t_newHigh t_colours t_now u8 t_fresh t_colour t_table t_last t_one 0 4 u10 u11 hc12) (qX9_writeThird_X9_little_100 hts) ⟨zP_blind, va_recv hK hP (ci := 8) (q0 := 0) rfl rfl, zpre hK hN hP hD [0, 1, 2, 3, 4, 5, 6, 7] rfl rfl⟩ rfl rfl hl.1 rfl (lv_room (Nat.le_of_ble_eq_true rfl)) dX9_writeThird_146 ⟨Nat.zero_le _, Nat.zero_le _⟩) hP hD hS hA [0, 1, 2, 3, 4, 5, 6, 7] [] [0, 1, 2, 3, 4, 5, 6, 7] (ws' := zwX9 cI h_t h_t_now h_t_file h_t_fresh h_t_colour h_t_table h_t_last h_t_one t_wide t_high u10 t_at t_fault t_newWide t_newHigh t_colours t_now u11 t_fresh t_colour t_table t_last t_one) rfl rfl rfl rfl rfl rfl (fun H locs hP hD hS => ?_)
  refine lv_iconst (v := 0) hx hb dX9_writeThird_149 (by decide) ?_
  refine lv_istore_n (lv' := [(3, .int 0), (0, .ref h_t), (1, .int l1), (2, .int l2)]) hx hb dX9_writeThird_150 rfl hl (by decide) rfl (fun ls hl => ?_)
  exact wX9_writeThird_151 C hN hK hA hE 1000 hf hP hD hS (lv_sub hl [1, 2, 3, 0] rfl)
set_option maxHeartbeats 4000000 in
set_option maxRecDepth 100000 in
theorem wX9_writeThird_112 {p : Program} {l : Launch} {e : Env} {s : State} {m : MethodId} {args : Array Value} {below : List Frame} {meth : Method} {c : Code} {D : va_G} {A : Nat → Prop} {Q : State → Prop} {cI : ClassId} {h_t h_t_now h_t_file h_t_fresh h_t_colour h_t_table h_t_last h_t_one : Nat} {t_wide : Int32} {t_high : Int32} {t_at : Int32} {t_fault : Int32} {t_newWide : Int32} {t_newHigh : Int32} {t_colours : Int32} {t_now : Nat → Int32} {t_fresh : Nat → Int32} {t_colour : Nat → Int32} {t_table : Nat → Int32} {t_last : Nat → Int32} {t_one : Nat → Int32} {zt_size : Int32} {zt_file : Nat → Int32} (C : CallFix p m c cX9_writeThird 5 s args wsX9_writeThird RX9) (hN : zN s) (hK : va_K D vwCl [(cI, .int)] s) (hA : ∀ q, s.heap.size ≤ q → A q) (hE : zEv p l e rmX9_writeThird s m args below meth c cX9_writeThird D A Q (zwX9 cI h_t h_t_now h_t_file h_t_fresh h_t_colour h_t_table h_t_last h_t_one t_wide t_high zt_size t_at t_fault t_newWide t_newHigh t_colours t_now zt_file t_fresh t_colour t_table t_last t_one)) {t_size : Int32} {t_file : Nat → Int32} {l1 : Int32} {l2 : Int32} {l3 : Int32} {k1 : Int32} {H : Heap} {locs : List Loc} {ls : Array Slot} : fX9_writeThird_112 t_wide t_high t_size t_now t_file l1 l2 k1 = some (zt_size, zt_file) → va_P D vwCl (zwX9 cI h_t h_t_now h_t_file h_t_fresh h_t_colour h_t_table h_t_last h_t_one t_wide t_high t_size t_at t_fault t_newWide t_newHigh t_colours t_now t_file t_fresh t_colour t_table t_last t_one) H → va_D A (zwX9 cI h_t h_t_now h_t_file h_t_fresh h_t_colour h_t_table h_t_last h_t_one t_wide t_high t_size t_at t_fault t_newWide t_newHigh t_colours t_now t_file t_fresh t_colour t_table t_last t_one) → va_S A s.heap H locs → lv_has ls 5 [(0, .ref h_t), (1, .int l1), (2, .int l2), (3, .int l3)] → W p l e rmX9_writeThird s m args below meth c H locs 0 0 Q (F0 m 112 ls [.int k1, .ref h_t]) := by
  intro hf hP hD hS hl
  obtain ⟨hx, hb, hml, hown, hts⟩ := id C
  unfold fX9_writeThird_112 at hf
  refine lv_iconst (v := 2) hx hb dX9_writeThird_112 (by decide) ?_
  obtain ⟨u1, u2, hc3, hf⟩ := zb2_in hf
  refine zc_v (va_runV (As := [.int k1, .int 2]) (rest := []) C (mX9_little l D cI H.size h_t h_t_now h_t_file h_t_fresh h_t_colour h_t_table h_t_last h_t_one t_wide t_high t_size t_at t_fault t_newWide t_newHigh t_colours t_now t_file t_fresh t_colour t_table t_last t_one k1 2 u1 u2 hc3) (qX9_writeThird_X9_little_100 hts) ⟨zP_blind, va_recv hK hP (ci := 8) (q0 := 0) rfl rfl, zpre hK hN hP hD [0, 1, 2, 3, 4, 5, 6, 7] rfl rfl⟩ rfl rfl hl.1 rfl (lv_room (Nat.le_of_ble_eq_true rfl)) dX9_writeThird_113 ⟨Nat.zero_le _, Nat.zero_le _⟩) hP hD hS hA [0, 1, 2, 3, 4, 5, 6, 7] [] [0, 1, 2, 3, 4, 5, 6, 7] (ws' := zwX9 cI h_t h_t_now h_t_file h_t_fresh h_t_colour h_t_table h_t_last h_t_one t_wide t_high u1 t_at t_fault t_newWide t_newHigh t_colours t_now u2 t_fresh t_colour t_table t_last t_one) rfl rfl rfl rfl rfl rfl (fun H locs hP hD hS => ?_)
  refine lv_aload_n hx hb dX9_writeThird_116 rfl (lv_at hl 0 rfl) ?_
  refine lv_iload_n hx hb dX9_writeThird_117 rfl (lv_at hl 1 rfl) ?_
  refine lv_if_eq (tgt := 125) hx hb dX9_writeThird_118 (by decide) (fun c4 => ?_) (fun c4 => ?_)
  · replace hf := zif_t hf c4
    refine lv_iconst (v := 0) hx hb dX9_writeThird_125 (by decide) ?_
    exact wX9_writeThird_126 C hN hK hA hE hf hP hD hS (lv_sub hl [0, 1, 2, 3] rfl)
  · replace hf := zif_f hf c4
    refine lv_iconst (v := 1) hx hb dX9_writeThird_121 (by decide) ?_
    refine lv_goto (tgt := 126) hx hb dX9_writeThird_122 (by decide) ?_
    exact wX9_writeThird_126 C hN hK hA hE hf hP hD hS (lv_sub hl [0, 1, 2, 3] rfl)
set_option maxHeartbeats 4000000 in
set_option maxRecDepth 100000 in
theorem wX9_writeThird_43 {p : Program} {l : Launch} {e : Env} {s : State} {m : MethodId} {args : Array Value} {below : List Frame} {meth : Method} {c : Code} {D : va_G} {A : Nat → Prop} {Q : State → Prop} {cI : ClassId} {h_t h_t_now h_t_file h_t_fresh h_t_colour h_t_table h_t_last h_t_one : Nat} {t_wide : Int32} {t_high : Int32} {t_at : Int32} {t_fault : Int32} {t_newWide : Int32} {t_newHigh : Int32} {t_colours : Int32} {t_now : Nat → Int32} {t_fresh : Nat → Int32} {t_colour : Nat → Int32} {t_table : Nat → Int32} {t_last : Nat → Int32} {t_one : Nat → Int32} {zt_size : Int32} {zt_file : Nat → Int32} (C : CallFix p m c cX9_writeThird 5 s args wsX9_writeThird RX9) (hN : zN s) (hK : va_K D vwCl [(cI, .int)] s) (hA : ∀ q, s.heap.size ≤ q → A q) (hE : zEv p l e rmX9_writeThird s m args below meth c cX9_writeThird D A Q (zwX9 cI h_t h_t_now h_t_file h_t_fresh h_t_colour h_t_table h_t_last h_t_one t_wide t_high zt_size t_at t_fault t_newWide t_newHigh t_colours t_now zt_file t_fresh t_colour t_table t_last t_one)) {t_size : Int32} {t_file : Nat → Int32} {l1 : Int32} {l2 : Int32} {l3 : Int32} {H : Heap} {locs : List Loc} {ls : Array Slot} : fX9_writeThird_43 t_wide t_high t_size t_now t_file l1 l2 = some (zt_size, zt_file) → va_P D vwCl (zwX9 cI h_t h_t_now h_t_file h_t_fresh h_t_colour h_t_table h_t_last h_t_one t_wide t_high t_size t_at t_fault t_newWide t_newHigh t_colours t_now t_file t_fresh t_colour t_table t_last t_one) H → va_D A (zwX9 cI h_t h_t_now h_t_file h_t_fresh h_t_colour h_t_table h_t_last h_t_one t_wide t_high t_size t_at t_fault t_newWide t_newHigh t_colours t_now t_file t_fresh t_colour t_table t_last t_one) → va_S A s.heap H locs → lv_has ls 5 [(0, .ref h_t), (1, .int l1), (2, .int l2), (3, .int l3)] → W p l e rmX9_writeThird s m args below meth c H locs 0 0 Q (F0 m 43 ls []) := by
  intro hf hP hD hS hl
  obtain ⟨hx, hb, hml, hown, hts⟩ := id C
  unfold fX9_writeThird_43 at hf
  refine lv_aload_n hx hb dX9_writeThird_43 rfl (lv_at hl 0 rfl) ?_
  refine lv_bipush (v := 66) hx hb dX9_writeThird_44 (by decide) ?_
  refine lv_bipush (v := 77) hx hb dX9_writeThird_46 (by decide) ?_
  obtain ⟨u1, u2, hc3, hf⟩ := zb2_in hf
  refine zc_v (va_runV (As := [.int 66, .int 77]) (rest := []) C (mX9_addTwo l D cI H.size h_t h_t_now h_t_file h_t_fresh h_t_colour h_t_table h_t_last h_t_one t_wide t_high t_size t_at t_fault t_newWide t_newHigh t_colours t_now t_file t_fresh t_colour t_table t_last t_one 66 77 u1 u2 hc3) (qX9_writeThird_X9_addTwo_71 hts) ⟨zP_blind, va_recv hK hP (ci := 8) (q0 := 0) rfl rfl, zpre hK hN hP hD [0, 1, 2, 3, 4, 5, 6, 7] rfl rfl⟩ rfl rfl hl.1 rfl (lv_room (Nat.le_of_ble_eq_true rfl)) dX9_writeThird_48 ⟨Nat.zero_le _, Nat.zero_le _⟩) hP hD hS hA [0, 1, 2, 3, 4, 5, 6, 7] [] [0, 1, 2, 3, 4, 5, 6, 7] (ws' := zwX9 cI h_t h_t_now h_t_file h_t_fresh h_t_colour h_t_table h_t_last h_t_one t_wide t_high u1 t_at t_fault t_newWide t_newHigh t_colours t_now u2 t_fresh t_colour t_table t_last t_one) rfl rfl rfl rfl rfl rfl (fun H locs hP hD hS => ?_)
  refine lv_aload_n hx hb dX9_writeThird_51 rfl (lv_at hl 0 rfl) ?_
  refine lv_iconst (v := 0) hx hb dX9_writeThird_52 (by decide) ?_
  refine lv_bipush (v := 8) hx hb dX9_writeThird_53 (by decide) ?_
  obtain ⟨u4, u5, hc6, hf⟩ := zb2_in hf
  refine zc_v (va_runV (As := [.int 0, .int 8]) (rest := []) C (mX9_little l D cI H.size h_t h_t_now h_t_file h_t_fresh h_t_colour h_t_table h_t_last h_t_one t_wide t_high u1 t_at t_fault t_newWide t_newHigh t_colours t_now u2 t_fresh t_colour t_table t_last t_one 0 8 u4 u5 hc6) (qX9_writeThird_X9_little_100 hts) ⟨zP_blind, va_recv hK hP (ci := 8) (q0 := 0) rfl rfl, zpre hK hN hP hD [0, 1, 2, 3, 4, 5, 6, 7] rfl rfl⟩ rfl rfl hl.1 rfl (lv_room (Nat.le_of_ble_eq_true rfl)) dX9_writeThird_55 ⟨Nat.zero_le _, Nat.zero_le _⟩) hP hD hS hA [0, 1, 2, 3, 4, 5, 6, 7] [] [0, 1, 2, 3, 4, 5, 6, 7] (ws' := zwX9 cI h_t h_t_now h_t_file h_t_fresh h_t_colour h_t_table h_t_last h_t_one t_wide t_high u4 t_at t_fault t_newWide t_newHigh t_colours t_now u5 t_fresh t_colour t_table t_last t_one) rfl rfl rfl rfl rfl rfl (fun H locs hP hD hS => ?_)
  refine lv_aload_n hx hb dX9_writeThird_58 rfl (lv_at hl 0 rfl) ?_
  refine lv_bipush (v := 54) hx hb dX9_writeThird_59 (by decide) ?_
  refine lv_iconst (v := 4) hx hb dX9_writeThird_61 (by decide) ?_
  refine lv_iload_n hx hb dX9_writeThird_62 rfl (lv_at hl 2 rfl) ?_
  refine lv_imul hx hb dX9_writeThird_63 ?_
  refine lv_iadd hx hb dX9_writeThird_64 ?_
  refine lv_iconst (v := 4) hx hb dX9_writeThird_65 (by decide) ?_
  obtain ⟨u7, u8, hc9, hf⟩ := zb2_in hf
  refine zc_v (va_runV (As := [.int (54 + (4 * l2)), .int 4]) (rest := []) C (mX9_little l D cI H.size h_t h_t_now h_t_file h_t_fresh h_t_colour h_t_table h_t_last h_t_one t_wide t_high u4 t_at t_fault t_newWide t_newHigh t_colours t_now u5 t_fresh t_colour t_table t_last t_one (54 + (4 * l2)) 4 u7 u8 hc9) (qX9_writeThird_X9_little_100 hts) ⟨zP_blind, va_recv hK hP (ci := 8) (q0 := 0) rfl rfl, zpre hK hN hP hD [0, 1, 2, 3, 4, 5, 6, 7] rfl rfl⟩ rfl rfl hl.1 rfl (lv_room (Nat.le_of_ble_eq_true rfl)) dX9_writeThird_66 ⟨Nat.zero_le _, Nat.zero_le _⟩) hP hD hS hA [0, 1, 2, 3, 4, 5, 6, 7] [] [0, 1, 2, 3, 4, 5, 6, 7] (ws' := zwX9 cI h_t h_t_now h_t_file h_t_fresh h_t_colour h_t_table h_t_last h_t_one t_wide t_high u7 t_at t_fault t_newWide t_newHigh t_colours t_now u8 t_fresh t_colour t_table t_last t_one) rfl rfl rfl rfl rfl rfl (fun H locs hP hD hS => ?_)
  refine lv_aload_n hx hb dX9_writeThird_69 rfl (lv_at hl 0 rfl) ?_
  refine lv_bipush (v := 40) hx hb dX9_writeThird_70 (by decide) ?_
  refine lv_iconst (v := 4) hx hb dX9_writeThird_72 (by decide) ?_
  obtain ⟨u10, u11, hc12, hf⟩ := zb2_in hf
  refine zc_v (va_runV (As := [.int 40, .int 4]) (rest := []) C (mX9_little l D cI H.size h_t h_t_now h_t_file h_t_fresh h_t_colour h_t_table h_t_last h_t_one t_wide t_high u7 t_at t_fault t_newWide t_newHigh t_colours t_now u8 t_fresh t_colour t_table t_last t_one 40 4 u10 u11 hc12) (qX9_writeThird_X9_little_100 hts) ⟨zP_blind, va_recv hK hP (ci := 8) (q0 := 0) rfl rfl, zpre hK hN hP hD [0, 1, 2, 3, 4, 5, 6, 7] rfl rfl⟩ rfl rfl hl.1 rfl (lv_room (Nat.le_of_ble_eq_true rfl)) dX9_writeThird_73 ⟨Nat.zero_le _, Nat.zero_le _⟩) hP hD hS hA [0, 1, 2, 3, 4, 5, 6, 7] [] [0, 1, 2, 3, 4, 5, 6, 7] (ws' := zwX9 cI h_t h_t_now h_t_file h_t_fresh h_t_colour h_t_table h_t_last h_t_one t_wide t_high u10 t_at t_fault t_newWide t_newHigh t_colours t_now u11 t_fresh t_colour t_table t_last t_one) rfl rfl rfl rfl rfl rfl (fun H locs hP hD hS => ?_)
  refine lv_aload_n hx hb dX9_writeThird_76 rfl (lv_at hl 0 rfl) ?_
  refine lv_aload_n hx hb dX9_writeThird_77 rfl (lv_at hl 0 rfl) ?_
  refine va_get (D := D) (ci := 8) (v := .int t_wide) (C := RX9) (T := TX9) (N := 15) hx hb hts iX9_writeThird_X9 hown hK hP 0 rfl rfl 0 (by decide) (kX9_writeThird_7 hts) (fun _ h9 => h9) rfl dX9_writeThird_78 ?_
  refine lv_iconst (v := 4) hx hb dX9_writeThird_81 (by decide) ?_
  obtain ⟨u13, u14, hc15, hf⟩ := zb2_in hf
  refine zc_v (va_runV (As := [.int t_wide, .int 4]) (rest := []) C (mX9_little l D cI H.size h_t h_t_now h_t_file h_t_fresh h_t_colour h_t_table h_t_last h_t_one t_wide t_high u10 t_at t_fault t_newWide t_newHigh t_colours t_now u11 t_fresh t_colour t_table t_last t_one t_wide 4 u13 u14 hc15) (qX9_writeThird_X9_little_100 hts) ⟨zP_blind, va_recv hK hP (ci := 8) (q0 := 0) rfl rfl, zpre hK hN hP hD [0, 1, 2, 3, 4, 5, 6, 7] rfl rfl⟩ rfl rfl hl.1 rfl (lv_room (Nat.le_of_ble_eq_true rfl)) dX9_writeThird_82 ⟨Nat.zero_le _, Nat.zero_le _⟩) hP hD hS hA [0, 1, 2, 3, 4, 5, 6, 7] [] [0, 1, 2, 3, 4, 5, 6, 7] (ws' := zwX9 cI h_t h_t_now h_t_file h_t_fresh h_t_colour h_t_table h_t_last h_t_one t_wide t_high u13 t_at t_fault t_newWide t_newHigh t_colours t_now u14 t_fresh t_colour t_table t_last t_one) rfl rfl rfl rfl rfl rfl (fun H locs hP hD hS => ?_)
  refine lv_aload_n hx hb dX9_writeThird_85 rfl (lv_at hl 0 rfl) ?_
  refine lv_aload_n hx hb dX9_writeThird_86 rfl (lv_at hl 0 rfl) ?_
  refine va_get (D := D) (ci := 8) (v := .int t_high) (C := RX9) (T := TX9) (N := 15) hx hb hts iX9_writeThird_X9 hown hK hP 0 rfl rfl 1 (by decide) (kX9_writeThird_13 hts) (fun _ h9 => h9) rfl dX9_writeThird_87 ?_
  refine lv_iconst (v := 4) hx hb dX9_writeThird_90 (by decide) ?_
  obtain ⟨u16, u17, hc18, hf⟩ := zb2_in hf
  refine zc_v (va_runV (As := [.int t_high, .int 4]) (rest := []) C (mX9_little l D cI H.size h_t h_t_now h_t_file h_t_fresh h_t_colour h_t_table h_t_last h_t_one t_wide t_high u13 t_at t_fault t_newWide t_newHigh t_colours t_now u14 t_fresh t_colour t_table t_last t_one t_high 4 u16 u17 hc18) (qX9_writeThird_X9_little_100 hts) ⟨zP_blind, va_recv hK hP (ci := 8) (q0 := 0) rfl rfl, zpre hK hN hP hD [0, 1, 2, 3, 4, 5, 6, 7] rfl rfl⟩ rfl rfl hl.1 rfl (lv_room (Nat.le_of_ble_eq_true rfl)) dX9_writeThird_91 ⟨Nat.zero_le _, Nat.zero_le _⟩) hP hD hS hA [0, 1, 2, 3, 4, 5, 6, 7] [] [0, 1, 2, 3, 4, 5, 6, 7] (ws' := zwX9 cI h_t h_t_now h_t_file h_t_fresh h_t_colour h_t_table h_t_last h_t_one t_wide t_high u16 t_at t_fault t_newWide t_newHigh t_colours t_now u17 t_fresh t_colour t_table t_last t_one) rfl rfl rfl rfl rfl rfl (fun H locs hP hD hS => ?_)
  refine lv_aload_n hx hb dX9_writeThird_94 rfl (lv_at hl 0 rfl) ?_
  refine lv_iconst (v := 1) hx hb dX9_writeThird_95 (by decide) ?_
  refine lv_iconst (v := 2) hx hb dX9_writeThird_96 (by decide) ?_
  obtain ⟨u19, u20, hc21, hf⟩ := zb2_in hf
  refine zc_v (va_runV (As := [.int 1, .int 2]) (rest := []) C (mX9_little l D cI H.size h_t h_t_now h_t_file h_t_fresh h_t_colour h_t_table h_t_last h_t_one t_wide t_high u16 t_at t_fault t_newWide t_newHigh t_colours t_now u17 t_fresh t_colour t_table t_last t_one 1 2 u19 u20 hc21) (qX9_writeThird_X9_little_100 hts) ⟨zP_blind, va_recv hK hP (ci := 8) (q0 := 0) rfl rfl, zpre hK hN hP hD [0, 1, 2, 3, 4, 5, 6, 7] rfl rfl⟩ rfl rfl hl.1 rfl (lv_room (Nat.le_of_ble_eq_true rfl)) dX9_writeThird_97 ⟨Nat.zero_le _, Nat.zero_le _⟩) hP hD hS hA [0, 1, 2, 3, 4, 5, 6, 7] [] [0, 1, 2, 3, 4, 5, 6, 7] (ws' := zwX9 cI h_t h_t_now h_t_file h_t_fresh h_t_colour h_t_table h_t_last h_t_one t_wide t_high u19 t_at t_fault t_newWide t_newHigh t_colours t_now u20 t_fresh t_colour t_table t_last t_one) rfl rfl rfl rfl rfl rfl (fun H locs hP hD hS => ?_)
  refine lv_aload_n hx hb dX9_writeThird_100 rfl (lv_at hl 0 rfl) ?_
  refine lv_iload_n hx hb dX9_writeThird_101 rfl (lv_at hl 1 rfl) ?_
  refine lv_if_eq (tgt := 110) hx hb dX9_writeThird_102 (by decide) (fun c22 => ?_) (fun c22 => ?_)
  · replace hf := zif_t hf c22
    refine lv_bipush (v := 24) hx hb dX9_writeThird_110 (by decide) ?_
    exact wX9_writeThird_112 C hN hK hA hE hf hP hD hS (lv_sub hl [0, 1, 2, 3] rfl)
  · replace hf := zif_f hf c22
    refine lv_bipush (v := 8) hx hb dX9_writeThird_105 (by decide) ?_
    refine lv_goto (tgt := 112) hx hb dX9_writeThird_107 (by decide) ?_
    exact wX9_writeThird_112 C hN hK hA hE hf hP hD hS (lv_sub hl [0, 1, 2, 3] rfl)
set_option maxHeartbeats 4000000 in
set_option maxRecDepth 100000 in
theorem wX9_writeThird_36 {p : Program} {l : Launch} {e : Env} {s : State} {m : MethodId} {args : Array Value} {below : List Frame} {meth : Method} {c : Code} {D : va_G} {A : Nat → Prop} {Q : State → Prop} {cI : ClassId} {h_t h_t_now h_t_file h_t_fresh h_t_colour h_t_table h_t_last h_t_one : Nat} {t_wide : Int32} {t_high : Int32} {t_at : Int32} {t_fault : Int32} {t_newWide : Int32} {t_newHigh : Int32} {t_colours : Int32} {t_now : Nat → Int32} {t_fresh : Nat → Int32} {t_colour : Nat → Int32} {t_table : Nat → Int32} {t_last : Nat → Int32} {t_one : Nat → Int32} {zt_size : Int32} {zt_file : Nat → Int32} (C : CallFix p m c cX9_writeThird 5 s args wsX9_writeThird RX9) (hN : zN s) (hK : va_K D vwCl [(cI, .int)] s) (hA : ∀ q, s.heap.size ≤ q → A q) (hE : zEv p l e rmX9_writeThird s m args below meth c cX9_writeThird D A Q (zwX9 cI h_t h_t_now h_t_file h_t_fresh h_t_colour h_t_table h_t_last h_t_one t_wide t_high zt_size t_at t_fault t_newWide t_newHigh t_colours t_now zt_file t_fresh t_colour t_table t_last t_one)) {rc4 : Int32 → Int32 → Int32 → (Nat → Int32) → (Nat → Int32) → Int32 → Int32 → Int32 → Option (Int32 × (Nat → Int32))} (hr_4 : ∀ {t_size : Int32} {t_file : Nat → Int32} {l1 : Int32} {l2 : Int32} {l3 : Int32} {H : Heap} {locs : List Loc} {ls : Array Slot}, rc4 t_wide t_high t_size t_now t_file l1 l2 l3 = some (zt_size, zt_file) → va_P D vwCl (zwX9 cI h_t h_t_now h_t_file h_t_fresh h_t_colour h_t_table h_t_last h_t_one t_wide t_high t_size t_at t_fault t_newWide t_newHigh t_colours t_now t_file t_fresh t_colour t_table t_last t_one) H → va_D A (zwX9 cI h_t h_t_now h_t_file h_t_fresh h_t_colour h_t_table h_t_last h_t_one t_wide t_high t_size t_at t_fault t_newWide t_newHigh t_colours t_now t_file t_fresh t_colour t_table t_last t_one) → va_S A s.heap H locs → lv_has ls 5 [(0, .ref h_t), (1, .int l1), (2, .int l2), (3, .int l3)] → W p l e rmX9_writeThird s m args below meth c H locs 0 0 Q (F0 m 4 ls [])) {t_size : Int32} {t_file : Nat → Int32} {l1 : Int32} {l2 : Int32} {l3 : Int32} {k0 : Int32} {H : Heap} {locs : List Loc} {ls : Array Slot} : fX9_writeThird_36 rc4 t_wide t_high t_size t_now t_file l1 l3 k0 = some (zt_size, zt_file) → va_P D vwCl (zwX9 cI h_t h_t_now h_t_file h_t_fresh h_t_colour h_t_table h_t_last h_t_one t_wide t_high t_size t_at t_fault t_newWide t_newHigh t_colours t_now t_file t_fresh t_colour t_table t_last t_one) H → va_D A (zwX9 cI h_t h_t_now h_t_file h_t_fresh h_t_colour h_t_table h_t_last h_t_one t_wide t_high t_size t_at t_fault t_newWide t_newHigh t_colours t_now t_file t_fresh t_colour t_table t_last t_one) → va_S A s.heap H locs → lv_has ls 5 [(0, .ref h_t), (1, .int l1), (2, .int l2), (3, .int l3)] → W p l e rmX9_writeThird s m args below meth c H locs 0 0 Q (F0 m 36 ls [.int k0]) := by
  intro hf hP hD hS hl
  obtain ⟨hx, hb, hml, hown, hts⟩ := id C
  unfold fX9_writeThird_36 at hf
  refine lv_istore_n (lv' := [(2, .int k0), (0, .ref h_t), (1, .int l1), (3, .int l3)]) hx hb dX9_writeThird_36 rfl hl (by decide) rfl (fun ls hl => ?_)
  obtain ⟨x1, ex1⟩ : ∃ y : Int32, y = l3 + 1 := ⟨_, rfl⟩
  replace hf := zlet_in hf ex1
  refine lv_iinc (v := x1) (lv' := [(3, .int x1), (2, .int k0), (0, .ref h_t), (1, .int l1)]) hx hb dX9_writeThird_37 hl (k := 3) rfl (by rw [ex1]; rfl) (by decide) rfl (fun ls hl => ?_)
  clear ex1
  refine lv_goto (tgt := 4) hx hb dX9_writeThird_40 (by decide) ?_
  exact hr_4 hf hP hD hS (lv_sub hl [2, 3, 1, 0] rfl)
set_option maxHeartbeats 4000000 in
set_option maxRecDepth 100000 in
theorem wX9_writeThird_4 {p : Program} {l : Launch} {e : Env} {s : State} {m : MethodId} {args : Array Value} {below : List Frame} {meth : Method} {c : Code} {D : va_G} {A : Nat → Prop} {Q : State → Prop} {cI : ClassId} {h_t h_t_now h_t_file h_t_fresh h_t_colour h_t_table h_t_last h_t_one : Nat} {t_wide : Int32} {t_high : Int32} {t_at : Int32} {t_fault : Int32} {t_newWide : Int32} {t_newHigh : Int32} {t_colours : Int32} {t_now : Nat → Int32} {t_fresh : Nat → Int32} {t_colour : Nat → Int32} {t_table : Nat → Int32} {t_last : Nat → Int32} {t_one : Nat → Int32} {zt_size : Int32} {zt_file : Nat → Int32} (C : CallFix p m c cX9_writeThird 5 s args wsX9_writeThird RX9) (hN : zN s) (hK : va_K D vwCl [(cI, .int)] s) (hA : ∀ q, s.heap.size ≤ q → A q) (hE : zEv p l e rmX9_writeThird s m args below meth c cX9_writeThird D A Q (zwX9 cI h_t h_t_now h_t_file h_t_fresh h_t_colour h_t_table h_t_last h_t_one t_wide t_high zt_size t_at t_fault t_newWide t_newHigh t_colours t_now zt_file t_fresh t_colour t_table t_last t_one)) (n : Nat) : ∀ {t_size : Int32} {t_file : Nat → Int32} {l1 : Int32} {l2 : Int32} {l3 : Int32} {H : Heap} {locs : List Loc} {ls : Array Slot}, fX9_writeThird_4 n t_wide t_high t_size t_now t_file l1 l2 l3 = some (zt_size, zt_file) → va_P D vwCl (zwX9 cI h_t h_t_now h_t_file h_t_fresh h_t_colour h_t_table h_t_last h_t_one t_wide t_high t_size t_at t_fault t_newWide t_newHigh t_colours t_now t_file t_fresh t_colour t_table t_last t_one) H → va_D A (zwX9 cI h_t h_t_now h_t_file h_t_fresh h_t_colour h_t_table h_t_last h_t_one t_wide t_high t_size t_at t_fault t_newWide t_newHigh t_colours t_now t_file t_fresh t_colour t_table t_last t_one) → va_S A s.heap H locs → lv_has ls 5 [(0, .ref h_t), (1, .int l1), (2, .int l2), (3, .int l3)] → W p l e rmX9_writeThird s m args below meth c H locs 0 0 Q (F0 m 4 ls []) := by
  obtain ⟨hx, hb, hml, hown, hts⟩ := id C
  induction n with
  | zero =>
    intro t_size t_file l1 l2 l3 H locs ls hf
    cases hf
  | succ n hr_4 =>
    intro t_size t_file l1 l2 l3 H locs ls hf hP hD hS hl
    rw [fX9_writeThird_4_s] at hf
    refine lv_iload_n hx hb dX9_writeThird_4 rfl (lv_at hl 3 rfl) ?_
    refine lv_aload_n hx hb dX9_writeThird_5 rfl (lv_at hl 0 rfl) ?_
    refine va_get (D := D) (ci := 8) (v := .int t_wide) (C := RX9) (T := TX9) (N := 15) hx hb hts iX9_writeThird_X9 hown hK hP 0 rfl rfl 0 (by decide) (kX9_writeThird_7 hts) (fun _ h9 => h9) rfl dX9_writeThird_6 ?_
    refine lv_aload_n hx hb dX9_writeThird_9 rfl (lv_at hl 0 rfl) ?_
    refine va_get (D := D) (ci := 8) (v := .int t_high) (C := RX9) (T := TX9) (N := 15) hx hb hts iX9_writeThird_X9 hown hK hP 0 rfl rfl 1 (by decide) (kX9_writeThird_13 hts) (fun _ h9 => h9) rfl dX9_writeThird_10 ?_
    refine lv_imul hx hb dX9_writeThird_13 ?_
    refine lv_icmp_ge (tgt := 43) hx hb dX9_writeThird_14 (by decide) (fun c1 => ?_) (fun c1 => ?_)
    · replace hf := zif_t hf c1
      exact wX9_writeThird_43 C hN hK hA hE hf hP hD hS (lv_sub hl [0, 1, 2, 3] rfl)
    · replace hf := zif_f hf c1
      refine lv_iload_n hx hb dX9_writeThird_17 rfl (lv_at hl 1 rfl) ?_
      refine lv_if_eq (tgt := 43) hx hb dX9_writeThird_18 (by decide) (fun c2 => ?_) (fun c2 => ?_)
      · replace hf := zif_t hf c2
        exact wX9_writeThird_43 C hN hK hA hE hf hP hD hS (lv_sub hl [0, 1, 2, 3] rfl)
      · replace hf := zif_f hf c2
        refine lv_aload_n hx hb dX9_writeThird_21 rfl (lv_at hl 0 rfl) ?_
        refine lv_iload_n hx hb dX9_writeThird_22 rfl (lv_at hl 3 rfl) ?_
        obtain ⟨r3, hc4, hf⟩ := zb1_in hf
        refine zc_i (va_runV (As := [.int l3]) (rest := []) C (mX9_colourOf l D cI H.size h_t h_t_now h_t_file h_t_fresh h_t_colour h_t_table h_t_last h_t_one t_wide t_high t_size t_at t_fault t_newWide t_newHigh t_colours t_now t_file t_fresh t_colour t_table t_last t_one l3 r3 hc4) (qX9_writeThird_X9_colourOf_97 hts) ⟨zP_blind, va_recv hK hP (ci := 8) (q0 := 0) rfl rfl, zpre hK hN hP hD [0, 1, 2, 3, 4, 5, 6, 7] rfl rfl⟩ rfl rfl hl.1 rfl (lv_room (Nat.le_of_ble_eq_true rfl)) dX9_writeThird_23 ⟨Nat.zero_le _, Nat.zero_le _⟩) hP hD hS hA [0, 1, 2, 3, 4, 5, 6, 7] [] [0, 1, 2, 3, 4, 5, 6, 7] (ws' := zwX9 cI h_t h_t_now h_t_file h_t_fresh h_t_colour h_t_table h_t_last h_t_one t_wide t_high t_size t_at t_fault t_newWide t_newHigh t_colours t_now t_file t_fresh t_colour t_table t_last t_one) rfl rfl rfl rfl rfl rfl (fun H locs hP hD hS => ?_)
        refine lv_if_ge (tgt := 35) hx hb dX9_writeThird_26 (by decide) (fun c5 => ?_) (fun c5 => ?_)
        · replace hf := zif_t hf c5
          refine lv_iload_n hx hb dX9_writeThird_35 rfl (lv_at hl 2 rfl) ?_
          exact wX9_writeThird_36 C hN hK hA hE hr_4 hf hP hD hS (lv_sub hl [0, 1, 2, 3] rfl)
        · replace hf := zif_f hf c5
          refine lv_iload_n hx hb dX9_writeThird_29 rfl (lv_at hl 2 rfl) ?_
          refine lv_iconst (v := 1) hx hb dX9_writeThird_30 (by decide) ?_
          refine lv_iadd hx hb dX9_writeThird_31 ?_
          refine lv_goto (tgt := 36) hx hb dX9_writeThird_32 (by decide) ?_
          exact wX9_writeThird_36 C hN hK hA hE hr_4 hf hP hD hS (lv_sub hl [0, 1, 2, 3] rfl)
set_option maxHeartbeats 4000000 in
set_option maxRecDepth 100000 in
theorem wX9_writeThird_0 {p : Program} {l : Launch} {e : Env} {s : State} {m : MethodId} {args : Array Value} {below : List Frame} {meth : Method} {c : Code} {D : va_G} {A : Nat → Prop} {Q : State → Prop} {cI : ClassId} {h_t h_t_now h_t_file h_t_fresh h_t_colour h_t_table h_t_last h_t_one : Nat} {t_wide : Int32} {t_high : Int32} {t_at : Int32} {t_fault : Int32} {t_newWide : Int32} {t_newHigh : Int32} {t_colours : Int32} {t_now : Nat → Int32} {t_fresh : Nat → Int32} {t_colour : Nat → Int32} {t_table : Nat → Int32} {t_last : Nat → Int32} {t_one : Nat → Int32} {zt_size : Int32} {zt_file : Nat → Int32} (C : CallFix p m c cX9_writeThird 5 s args wsX9_writeThird RX9) (hN : zN s) (hK : va_K D vwCl [(cI, .int)] s) (hA : ∀ q, s.heap.size ≤ q → A q) (hE : zEv p l e rmX9_writeThird s m args below meth c cX9_writeThird D A Q (zwX9 cI h_t h_t_now h_t_file h_t_fresh h_t_colour h_t_table h_t_last h_t_one t_wide t_high zt_size t_at t_fault t_newWide t_newHigh t_colours t_now zt_file t_fresh t_colour t_table t_last t_one)) {t_size : Int32} {t_file : Nat → Int32} {v0 : Int32} {H : Heap} {locs : List Loc} {ls : Array Slot} : fX9_writeThird t_wide t_high t_size t_now t_file v0 = some (zt_size, zt_file) → va_P D vwCl (zwX9 cI h_t h_t_now h_t_file h_t_fresh h_t_colour h_t_table h_t_last h_t_one t_wide t_high t_size t_at t_fault t_newWide t_newHigh t_colours t_now t_file t_fresh t_colour t_table t_last t_one) H → va_D A (zwX9 cI h_t h_t_now h_t_file h_t_fresh h_t_colour h_t_table h_t_last h_t_one t_wide t_high t_size t_at t_fault t_newWide t_newHigh t_colours t_now t_file t_fresh t_colour t_table t_last t_one) → va_S A s.heap H locs → lv_has ls 5 [(0, .ref h_t), (1, .int v0)] → W p l e rmX9_writeThird s m args below meth c H locs 0 0 Q (F0 m 0 ls []) := by
  intro hf hP hD hS hl
  obtain ⟨hx, hb, hml, hown, hts⟩ := id C
  unfold fX9_writeThird at hf
  refine lv_iconst (v := 0) hx hb dX9_writeThird_0 (by decide) ?_
  refine lv_istore_n (lv' := [(2, .int 0), (0, .ref h_t), (1, .int v0)]) hx hb dX9_writeThird_1 rfl hl (by decide) rfl (fun ls hl => ?_)
  refine lv_iconst (v := 0) hx hb dX9_writeThird_2 (by decide) ?_
  refine lv_istore_n (lv' := [(3, .int 0), (2, .int 0), (0, .ref h_t), (1, .int v0)]) hx hb dX9_writeThird_3 rfl hl (by decide) rfl (fun ls hl => ?_)
  exact wX9_writeThird_4 C hN hK hA hE 1000 hf hP hD hS (lv_sub hl [2, 3, 1, 0] rfl)
set_option maxHeartbeats 4000000 in
set_option maxRecDepth 100000 in
theorem mX9_writeThird (l : Launch) (D : va_G) (cI : ClassId) (sz : Nat) (h_t h_t_now h_t_file h_t_fresh h_t_colour h_t_table h_t_last h_t_one : Nat) (t_wide : Int32) (t_high : Int32) (t_size : Int32) (t_at : Int32) (t_fault : Int32) (t_newWide : Int32) (t_newHigh : Int32) (t_colours : Int32) (t_now : Nat → Int32) (t_file : Nat → Int32) (t_fresh : Nat → Int32) (t_colour : Nat → Int32) (t_table : Nat → Int32) (t_last : Nat → Int32) (t_one : Nat → Int32) (v0 : Int32) (zt_size : Int32) (zt_file : Nat → Int32) (hf : fX9_writeThird t_wide t_high t_size t_now t_file v0 = some (zt_size, zt_file)) : Met l yX9_writeThird wsX9_writeThird rmX9_writeThird (va_Pc [.ref h_t, .int v0] (zP D [(cI, .int)] (zwX9 cI h_t h_t_now h_t_file h_t_fresh h_t_colour h_t_table h_t_last h_t_one t_wide t_high t_size t_at t_fault t_newWide t_newHigh t_colours t_now t_file t_fresh t_colour t_table t_last t_one) sz)) (zQv D (zwX9 cI h_t h_t_now h_t_file h_t_fresh h_t_colour h_t_table h_t_last h_t_one t_wide t_high t_size t_at t_fault t_newWide t_newHigh t_colours t_now t_file t_fresh t_colour t_table t_last t_one) sz (zwX9 cI h_t h_t_now h_t_file h_t_fresh h_t_colour h_t_table h_t_last h_t_one t_wide t_high zt_size t_at t_fault t_newWide t_newHigh t_colours t_now zt_file t_fresh t_colour t_table t_last t_one)) 0 0 (va_A (zwX9 cI h_t h_t_now h_t_file h_t_fresh h_t_colour h_t_table h_t_last h_t_one t_wide t_high t_size t_at t_fault t_newWide t_newHigh t_colours t_now t_file t_fresh t_colour t_table t_last t_one) sz) := by
  refine Met.ofW (cc := cX9_writeThird) (maxL := 5) (ret := none) (by decide) rfl ?_
  intro p e s m args below meth c s₁ B hml hv
  obtain ⟨rfl, hsz, hP, hK, hD0, hN⟩ := hv
  subst hsz
  have C : CallFix p m c cX9_writeThird 5 s [.ref h_t, .int v0].toArray wsX9_writeThird RX9 := ⟨B.exec, B.bytes, hml, findClass_of_methodNamed B.named, atoms_spec (ws := wsX9_writeThird) B.pre⟩
  have hl := lv_entry ([.ref h_t, .int v0]) (n := 5) (Nat.le_of_ble_eq_true rfl)
  rw [lg_entry_eq]
  exact wX9_writeThird_0 (A := va_A (zwX9 cI h_t h_t_now h_t_file h_t_fresh h_t_colour h_t_table h_t_last h_t_one t_wide t_high t_size t_at t_fault t_newWide t_newHigh t_colours t_now t_file t_fresh t_colour t_table t_last t_one) s.heap.size) C hN hK (fun q h => Or.inr h) (fun H locs pc ls d hP hD hS => zend_v C.1 C.2.1 B.returns B.notSynchronized d hP hD hS) hf hP hD0.self va_S.rf hl
def rmX9_tones : Room := { frames := 2, cells := 0, slots := 0, locals := 43 }
theorem qX9_tones_X9_add_63 {args : Array Value} {s : State} (hts : ∀ w ∈ wsX9_tones, w.before args s = true) : CallW rmX9_tones s args RX9 RX9 63 yX9_add cX9_add 2 none wsX9_add rmX9_add 0 0 1 := cwV 1 hts gX9_tones_X9_add rfl rfl rfl (by decide +kernel) ⟨Nat.le_of_ble_eq_true rfl, Nat.le_of_ble_eq_true rfl⟩
theorem qX9_tones_X9_backwards_103 {args : Array Value} {s : State} (hts : ∀ w ∈ wsX9_tones, w.before args s = true) : CallW rmX9_tones s args RX9 RX9 103 yX9_backwards cX9_backwards 2 none wsX9_backwards rmX9_backwards 0 0 1 := cwV 1 hts gX9_tones_X9_backwards rfl rfl rfl (by decide +kernel) ⟨Nat.le_of_ble_eq_true rfl, Nat.le_of_ble_eq_true rfl⟩
theorem qX9_tones_X9_channel_49 {args : Array Value} {s : State} (hts : ∀ w ∈ wsX9_tones, w.before args s = true) : CallW rmX9_tones s args RX9 RX9 49 yX9_channel cX9_channel 3 (some .int) wsX9_channel rmX9_channel 0 0 2 := cwV 2 hts gX9_tones_X9_channel rfl rfl rfl (by decide +kernel) ⟨Nat.le_of_ble_eq_true rfl, Nat.le_of_ble_eq_true rfl⟩
set_option maxHeartbeats 4000000 in
set_option maxRecDepth 100000 in
theorem wX9_tones_0 {p : Program} {l : Launch} {e : Env} {s : State} {m : MethodId} {args : Array Value} {below : List Frame} {meth : Method} {c : Code} {D : va_G} {A : Nat → Prop} {Q : State → Prop} {cI : ClassId} {h_t h_t_now h_t_file h_t_fresh h_t_colour h_t_table h_t_last h_t_one : Nat} {t_wide : Int32} {t_high : Int32} {t_at : Int32} {t_fault : Int32} {t_newWide : Int32} {t_newHigh : Int32} {t_colours : Int32} {t_now : Nat → Int32} {t_fresh : Nat → Int32} {t_colour : Nat → Int32} {t_table : Nat → Int32} {t_last : Nat → Int32} {t_one : Nat → Int32} {zt_size : Int32} {zt_file : Nat → Int32} (C : CallFix p m c cX9_tones 3 s args wsX9_tones RX9) (hN : zN s) (hK : va_K D vwCl [(cI, .int)] s) (hA : ∀ q, s.heap.size ≤ q → A q) (hE : zEv p l e rmX9_tones s m args below meth c cX9_tones D A Q (zwX9 cI h_t h_t_now h_t_file h_t_fresh h_t_colour h_t_table h_t_last h_t_one t_wide t_high zt_size t_at t_fault t_newWide t_newHigh t_colours t_now zt_file t_fresh t_colour t_table t_last t_one)) {t_size : Int32} {t_file : Nat → Int32} {v0 : Int32} {v1 : Int32} {H : Heap} {locs : List Loc} {ls : Array Slot} : fX9_tones t_wide t_size t_now t_file v0 v1 = some (zt_size, zt_file) → va_P D vwCl (zwX9 cI h_t h_t_now h_t_file h_t_fresh h_t_colour h_t_table h_t_last h_t_one t_wide t_high t_size t_at t_fault t_newWide t_newHigh t_colours t_now t_file t_fresh t_colour t_table t_last t_one) H → va_D A (zwX9 cI h_t h_t_now h_t_file h_t_fresh h_t_colour h_t_table h_t_last h_t_one t_wide t_high t_size t_at t_fault t_newWide t_newHigh t_colours t_now t_file t_fresh t_colour t_table t_last t_one) → va_S A s.heap H locs → lv_has ls 3 [(0, .ref h_t), (1, .int v0), (2, .int v1)] → W p l e rmX9_tones s m args below meth c H locs 0 0 Q (F0 m 0 ls []) := by
  intro hf hP hD hS hl
  obtain ⟨hx, hb, hml, hown, hts⟩ := id C
  unfold fX9_tones at hf
  refine lv_iload_n hx hb dX9_tones_0 rfl (lv_at hl 2 rfl) ?_
  refine lv_iconst (v := 1) hx hb dX9_tones_1 (by decide) ?_
  refine lv_icmp_ne (tgt := 18) hx hb dX9_tones_2 (by decide) (fun c1 => ?_) (fun c1 => ?_)
  · replace hf := zif_f hf c1
    refine lv_aload_n hx hb dX9_tones_18 rfl (lv_at hl 0 rfl) ?_
    refine lv_iload_n hx hb dX9_tones_19 rfl (lv_at hl 1 rfl) ?_
    obtain ⟨u2, u3, hc4, hf⟩ := zb2_in hf
    refine zc_v (va_runV (As := [.int v0]) (rest := []) C (mX9_backwards l D cI H.size h_t h_t_now h_t_file h_t_fresh h_t_colour h_t_table h_t_last h_t_one t_wide t_high t_size t_at t_fault t_newWide t_newHigh t_colours t_now t_file t_fresh t_colour t_table t_last t_one v0 u2 u3 hc4) (qX9_tones_X9_backwards_103 hts) ⟨zP_blind, va_recv hK hP (ci := 8) (q0 := 0) rfl rfl, zpre hK hN hP hD [0, 1, 2, 3, 4, 5, 6, 7] rfl rfl⟩ rfl rfl hl.1 rfl (lv_room (Nat.le_of_ble_eq_true rfl)) dX9_tones_20 ⟨Nat.zero_le _, Nat.zero_le _⟩) hP hD hS hA [0, 1, 2, 3, 4, 5, 6, 7] [] [0, 1, 2, 3, 4, 5, 6, 7] (ws' := zwX9 cI h_t h_t_now h_t_file h_t_fresh h_t_colour h_t_table h_t_last h_t_one t_wide t_high u2 t_at t_fault t_newWide t_newHigh t_colours t_now u3 t_fresh t_colour t_table t_last t_one) rfl rfl rfl rfl rfl rfl (fun H locs hP hD hS => ?_)
    refine lv_iload_n hx hb dX9_tones_23 rfl (lv_at hl 2 rfl) ?_
    refine lv_iconst (v := 4) hx hb dX9_tones_24 (by decide) ?_
    refine lv_icmp_ne (tgt := 38) hx hb dX9_tones_25 (by decide) (fun c5 => ?_) (fun c5 => ?_)
    · replace hf := zif_f hf c5
      cases hf
      exact hE _ _ _ _ dX9_tones_38 hP hD hS
    · replace hf := zif_t hf c5
      refine lv_aload_n hx hb dX9_tones_28 rfl (lv_at hl 0 rfl) ?_
      refine lv_aload_n hx hb dX9_tones_29 rfl (lv_at hl 0 rfl) ?_
      refine lv_iload_n hx hb dX9_tones_30 rfl (lv_at hl 1 rfl) ?_
      refine lv_iconst (v := 3) hx hb dX9_tones_31 (by decide) ?_
      obtain ⟨r6, hc7, hf⟩ := zb1_in hf
      refine zc_i (va_runV (As := [.int v0, .int 3]) (rest := [.ref h_t]) C (mX9_channel l D cI H.size h_t h_t_now h_t_file h_t_fresh h_t_colour h_t_table h_t_last h_t_one t_wide t_high u2 t_at t_fault t_newWide t_newHigh t_colours t_now u3 t_fresh t_colour t_table t_last t_one v0 3 r6 hc7) (qX9_tones_X9_channel_49 hts) ⟨zP_blind, va_recv hK hP (ci := 8) (q0 := 0) rfl rfl, zpre hK hN hP hD [0, 1, 2, 3, 4, 5, 6, 7] rfl rfl⟩ rfl rfl hl.1 rfl (lv_room (Nat.le_of_ble_eq_true rfl)) dX9_tones_32 ⟨Nat.zero_le _, Nat.zero_le _⟩) hP hD hS hA [0, 1, 2, 3, 4, 5, 6, 7] [] [0, 1, 2, 3, 4, 5, 6, 7] (ws' := zwX9 cI h_t h_t_now h_t_file h_t_fresh h_t_colour h_t_table h_t_last h_t_one t_wide t_high u2 t_at t_fault t_newWide t_newHigh t_colours t_now u3 t_fresh t_colour t_table t_last t_one) rfl rfl rfl rfl rfl rfl (fun H locs hP hD hS => ?_)
      obtain ⟨u8, u9, hc10, hf⟩ := zb2_in hf
      refine zc_v (va_runV (As := [.int r6]) (rest := []) C (mX9_add l D cI H.size h_t h_t_now h_t_file h_t_fresh h_t_colour h_t_table h_t_last h_t_one t_wide t_high u2 t_at t_fault t_newWide t_newHigh t_colours t_now u3 t_fresh t_colour t_table t_last t_one r6 u8 u9 hc10) (qX9_tones_X9_add_63 hts) ⟨zP_blind, va_recv hK hP (ci := 8) (q0 := 0) rfl rfl, zpre hK hN hP hD [0, 1, 2, 3, 4, 5, 6, 7] rfl rfl⟩ rfl rfl hl.1 rfl (lv_room (Nat.le_of_ble_eq_true rfl)) dX9_tones_35 ⟨Nat.zero_le _, Nat.zero_le _⟩) hP hD hS hA [0, 1, 2, 3, 4, 5, 6, 7] [] [0, 1, 2, 3, 4, 5, 6, 7] (ws' := zwX9 cI h_t h_t_now h_t_file h_t_fresh h_t_colour h_t_table h_t_last h_t_one t_wide t_high u8 t_at t_fault t_newWide t_newHigh t_colours t_now u9 t_fresh t_colour t_table t_last t_one) rfl rfl rfl rfl rfl rfl (fun H locs hP hD hS => ?_)
      cases hf
      exact hE _ _ _ _ dX9_tones_38 hP hD hS
  · replace hf := zif_t hf c1
    refine lv_aload_n hx hb dX9_tones_5 rfl (lv_at hl 0 rfl) ?_
    refine lv_aload_n hx hb dX9_tones_6 rfl (lv_at hl 0 rfl) ?_
    refine lv_iload_n hx hb dX9_tones_7 rfl (lv_at hl 1 rfl) ?_
    refine lv_iconst (v := 0) hx hb dX9_tones_8 (by decide) ?_
    obtain ⟨r11, hc12, hf⟩ := zb1_in hf
    refine zc_i (va_runV (As := [.int v0, .int 0]) (rest := [.ref h_t]) C (mX9_channel l D cI H.size h_t h_t_now h_t_file h_t_fresh h_t_colour h_t_table h_t_last h_t_one t_wide t_high t_size t_at t_fault t_newWide t_newHigh t_colours t_now t_file t_fresh t_colour t_table t_last t_one v0 0 r11 hc12) (qX9_tones_X9_channel_49 hts) ⟨zP_blind, va_recv hK hP (ci := 8) (q0 := 0) rfl rfl, zpre hK hN hP hD [0, 1, 2, 3, 4, 5, 6, 7] rfl rfl⟩ rfl rfl hl.1 rfl (lv_room (Nat.le_of_ble_eq_true rfl)) dX9_tones_9 ⟨Nat.zero_le _, Nat.zero_le _⟩) hP hD hS hA [0, 1, 2, 3, 4, 5, 6, 7] [] [0, 1, 2, 3, 4, 5, 6, 7] (ws' := zwX9 cI h_t h_t_now h_t_file h_t_fresh h_t_colour h_t_table h_t_last h_t_one t_wide t_high t_size t_at t_fault t_newWide t_newHigh t_colours t_now t_file t_fresh t_colour t_table t_last t_one) rfl rfl rfl rfl rfl rfl (fun H locs hP hD hS => ?_)
    obtain ⟨u13, u14, hc15, hf⟩ := zb2_in hf
    refine zc_v (va_runV (As := [.int r11]) (rest := []) C (mX9_add l D cI H.size h_t h_t_now h_t_file h_t_fresh h_t_colour h_t_table h_t_last h_t_one t_wide t_high t_size t_at t_fault t_newWide t_newHigh t_colours t_now t_file t_fresh t_colour t_table t_last t_one r11 u13 u14 hc15) (qX9_tones_X9_add_63 hts) ⟨zP_blind, va_recv hK hP (ci := 8) (q0 := 0) rfl rfl, zpre hK hN hP hD [0, 1, 2, 3, 4, 5, 6, 7] rfl rfl⟩ rfl rfl hl.1 rfl (lv_room (Nat.le_of_ble_eq_true rfl)) dX9_tones_12 ⟨Nat.zero_le _, Nat.zero_le _⟩) hP hD hS hA [0, 1, 2, 3, 4, 5, 6, 7] [] [0, 1, 2, 3, 4, 5, 6, 7] (ws' := zwX9 cI h_t h_t_now h_t_file h_t_fresh h_t_colour h_t_table h_t_last h_t_one t_wide t_high u13 t_at t_fault t_newWide t_newHigh t_colours t_now u14 t_fresh t_colour t_table t_last t_one) rfl rfl rfl rfl rfl rfl (fun H locs hP hD hS => ?_)
    refine lv_goto (tgt := 38) hx hb dX9_tones_15 (by decide) ?_
    cases hf
    exact hE _ _ _ _ dX9_tones_38 hP hD hS
set_option maxHeartbeats 4000000 in
set_option maxRecDepth 100000 in
theorem mX9_tones (l : Launch) (D : va_G) (cI : ClassId) (sz : Nat) (h_t h_t_now h_t_file h_t_fresh h_t_colour h_t_table h_t_last h_t_one : Nat) (t_wide : Int32) (t_high : Int32) (t_size : Int32) (t_at : Int32) (t_fault : Int32) (t_newWide : Int32) (t_newHigh : Int32) (t_colours : Int32) (t_now : Nat → Int32) (t_file : Nat → Int32) (t_fresh : Nat → Int32) (t_colour : Nat → Int32) (t_table : Nat → Int32) (t_last : Nat → Int32) (t_one : Nat → Int32) (v0 v1 : Int32) (zt_size : Int32) (zt_file : Nat → Int32) (hf : fX9_tones t_wide t_size t_now t_file v0 v1 = some (zt_size, zt_file)) : Met l yX9_tones wsX9_tones rmX9_tones (va_Pc [.ref h_t, .int v0, .int v1] (zP D [(cI, .int)] (zwX9 cI h_t h_t_now h_t_file h_t_fresh h_t_colour h_t_table h_t_last h_t_one t_wide t_high t_size t_at t_fault t_newWide t_newHigh t_colours t_now t_file t_fresh t_colour t_table t_last t_one) sz)) (zQv D (zwX9 cI h_t h_t_now h_t_file h_t_fresh h_t_colour h_t_table h_t_last h_t_one t_wide t_high t_size t_at t_fault t_newWide t_newHigh t_colours t_now t_file t_fresh t_colour t_table t_last t_one) sz (zwX9 cI h_t h_t_now h_t_file h_t_fresh h_t_colour h_t_table h_t_last h_t_one t_wide t_high zt_size t_at t_fault t_newWide t_newHigh t_colours t_now zt_file t_fresh t_colour t_table t_last t_one)) 0 0 (va_A (zwX9 cI h_t h_t_now h_t_file h_t_fresh h_t_colour h_t_table h_t_last h_t_one t_wide t_high t_size t_at t_fault t_newWide t_newHigh t_colours t_now t_file t_fresh t_colour t_table t_last t_one) sz) := by
  refine Met.ofW (cc := cX9_tones) (maxL := 3) (ret := none) (by decide) rfl ?_
  intro p e s m args below meth c s₁ B hml hv
  obtain ⟨rfl, hsz, hP, hK, hD0, hN⟩ := hv
  subst hsz
  have C : CallFix p m c cX9_tones 3 s [.ref h_t, .int v0, .int v1].toArray wsX9_tones RX9 := ⟨B.exec, B.bytes, hml, findClass_of_methodNamed B.named, atoms_spec (ws := wsX9_tones) B.pre⟩
  have hl := lv_entry ([.ref h_t, .int v0, .int v1]) (n := 3) (Nat.le_of_ble_eq_true rfl)
  rw [lg_entry_eq]
  exact wX9_tones_0 (A := va_A (zwX9 cI h_t h_t_now h_t_file h_t_fresh h_t_colour h_t_table h_t_last h_t_one t_wide t_high t_size t_at t_fault t_newWide t_newHigh t_colours t_now t_file t_fresh t_colour t_table t_last t_one) s.heap.size) C hN hK (fun q h => Or.inr h) (fun H locs pc ls d hP hD hS => zend_v C.1 C.2.1 B.returns B.notSynchronized d hP hD hS) hf hP hD0.self va_S.rf hl
def rmX9_packets : Room := { frames := 3, cells := 0, slots := 0, locals := 65 }
theorem qX9_packets_X9_add_63 {args : Array Value} {s : State} (hts : ∀ w ∈ wsX9_packets, w.before args s = true) : CallW rmX9_packets s args RX9 RX9 63 yX9_add cX9_add 2 none wsX9_add rmX9_add 0 0 1 := cwV 1 hts gX9_packets_X9_add rfl rfl rfl (by decide +kernel) ⟨Nat.le_of_ble_eq_true rfl, Nat.le_of_ble_eq_true rfl⟩
theorem qX9_packets_X9_alike_94 {args : Array Value} {s : State} (hts : ∀ w ∈ wsX9_packets, w.before args s = true) : CallW rmX9_packets s args RX9 RX9 94 yX9_alike cX9_alike 5 (some .boolean) wsX9_alike rmX9_alike 0 0 2 := cwV 2 hts gX9_packets_X9_alike rfl rfl rfl (by decide +kernel) ⟨Nat.le_of_ble_eq_true rfl, Nat.le_of_ble_eq_true rfl⟩
theorem qX9_packets_X9_tones_109 {args : Array Value} {s : State} (hts : ∀ w ∈ wsX9_packets, w.before args s = true) : CallW rmX9_packets s args RX9 RX9 109 yX9_tones cX9_tones 3 none wsX9_tones rmX9_tones 0 0 2 := cwV 2 hts gX9_packets_X9_tones rfl rfl rfl (by decide +kernel) ⟨Nat.le_of_ble_eq_true rfl, Nat.le_of_ble_eq_true rfl⟩
set_option maxHeartbeats 4000000 in
set_option maxRecDepth 100000 in
theorem wX9_packets_145 {p : Program} {l : Launch} {e : Env} {s : State} {m : MethodId} {args : Array Value} {below : List Frame} {meth : Method} {c : Code} {D : va_G} {A : Nat → Prop} {Q : State → Prop} {cI : ClassId} {h_t h_t_now h_t_file h_t_fresh h_t_colour h_t_table h_t_last h_t_one : Nat} {t_wide : Int32} {t_high : Int32} {t_at : Int32} {t_fault : Int32} {t_newWide : Int32} {t_newHigh : Int32} {t_colours : Int32} {t_now : Nat → Int32} {t_fresh : Nat → Int32} {t_colour : Nat → Int32} {t_table : Nat → Int32} {t_last : Nat → Int32} {t_one : Nat → Int32} {zt_size : Int32} {zt_file : Nat → Int32} (C : CallFix p m c cX9_packets 7 s args wsX9_packets RX9) (hN : zN s) (hK : va_K D vwCl [(cI, .int)] s) (hA : ∀ q, s.heap.size ≤ q → A q) (hE : zEv p l e rmX9_packets s m args below meth c cX9_packets D A Q (zwX9 cI h_t h_t_now h_t_file h_t_fresh h_t_colour h_t_table h_t_last h_t_one t_wide t_high zt_size t_at t_fault t_newWide t_newHigh t_colours t_now zt_file t_fresh t_colour t_table t_last t_one)) {rc3 : Int32 → Int32 → (Nat → Int32) → (Nat → Int32) → Int32 → Int32 → Int32 → Option (Int32 × (Nat → Int32))} (hr_3 : ∀ {t_size : Int32} {t_file : Nat → Int32} {l1 : Int32} {l2 : Int32} {l3 : Int32} {l4 : Int32} {H : Heap} {locs : List Loc} {ls : Array Slot}, rc3 t_wide t_size t_now t_file l2 l3 l4 = some (zt_size, zt_file) → va_P D vwCl (zwX9 cI h_t h_t_now h_t_file h_t_fresh h_t_colour h_t_table h_t_last h_t_one t_wide t_high t_size t_at t_fault t_newWide t_newHigh t_colours t_now t_file t_fresh t_colour t_table t_last t_one) H → va_D A (zwX9 cI h_t h_t_now h_t_file h_t_fresh h_t_colour h_t_table h_t_last h_t_one t_wide t_high t_size t_at t_fault t_newWide t_newHigh t_colours t_now t_file t_fresh t_colour t_table t_last t_one) → va_S A s.heap H locs → lv_has ls 7 [(0, .ref h_t), (1, .int l1), (2, .int l2), (3, .int l3), (4, .int l4)] → W p l e rmX9_packets s m args below meth c H locs 0 0 Q (F0 m 3 ls [])) {t_size : Int32} {t_file : Nat → Int32} {l1 : Int32} {l2 : Int32} {l3 : Int32} {l4 : Int32} {l5 : Int32} {H : Heap} {locs : List Loc} {ls : Array Slot} : fX9_packets_145 rc3 t_wide t_size t_now t_file l2 l3 l5 = some (zt_size, zt_file) → va_P D vwCl (zwX9 cI h_t h_t_now h_t_file h_t_fresh h_t_colour h_t_table h_t_last h_t_one t_wide t_high t_size t_at t_fault t_newWide t_newHigh t_colours t_now t_file t_fresh t_colour t_table t_last t_one) H → va_D A (zwX9 cI h_t h_t_now h_t_file h_t_fresh h_t_colour h_t_table h_t_last h_t_one t_wide t_high t_size t_at t_fault t_newWide t_newHigh t_colours t_now t_file t_fresh t_colour t_table t_last t_one) → va_S A s.heap H locs → lv_has ls 7 [(0, .ref h_t), (1, .int l1), (2, .int l2), (3, .int l3), (4, .int l4), (5, .int l5)] → W p l e rmX9_packets s m args below meth c H locs 0 0 Q (F0 m 145 ls []) := by
  intro hf hP hD hS hl
  obtain ⟨hx, hb, hml, hown, hts⟩ := id C
  unfold fX9_packets_145 at hf
  refine lv_iload hx hb dX9_packets_145 (lv_at hl 5 rfl) ?_
  refine lv_istore (lv' := [(4, .int l5), (0, .ref h_t), (1, .int l1), (2, .int l2), (3, .int l3), (5, .int l5)]) hx hb dX9_packets_147 hl (by decide) rfl (fun ls hl => ?_)
  refine lv_goto (tgt := 3) hx hb dX9_packets_149 (by decide) ?_
  exact hr_3 hf hP hD hS (lv_sub hl [1, 2, 3, 4, 0] rfl)
set_option maxHeartbeats 4000000 in
set_option maxRecDepth 100000 in
theorem wX9_packets_125 {p : Program} {l : Launch} {e : Env} {s : State} {m : MethodId} {args : Array Value} {below : List Frame} {meth : Method} {c : Code} {D : va_G} {A : Nat → Prop} {Q : State → Prop} {cI : ClassId} {h_t h_t_now h_t_file h_t_fresh h_t_colour h_t_table h_t_last h_t_one : Nat} {t_wide : Int32} {t_high : Int32} {t_at : Int32} {t_fault : Int32} {t_newWide : Int32} {t_newHigh : Int32} {t_colours : Int32} {t_now : Nat → Int32} {t_fresh : Nat → Int32} {t_colour : Nat → Int32} {t_table : Nat → Int32} {t_last : Nat → Int32} {t_one : Nat → Int32} {zt_size : Int32} {zt_file : Nat → Int32} (C : CallFix p m c cX9_packets 7 s args wsX9_packets RX9) (hN : zN s) (hK : va_K D vwCl [(cI, .int)] s) (hA : ∀ q, s.heap.size ≤ q → A q) (hE : zEv p l e rmX9_packets s m args below meth c cX9_packets D A Q (zwX9 cI h_t h_t_now h_t_file h_t_fresh h_t_colour h_t_table h_t_last h_t_one t_wide t_high zt_size t_at t_fault t_newWide t_newHigh t_colours t_now zt_file t_fresh t_colour t_table t_last t_one)) {rc3 : Int32 → Int32 → (Nat → Int32) → (Nat → Int32) → Int32 → Int32 → Int32 → Option (Int32 × (Nat → Int32))} (hr_3 : ∀ {t_size : Int32} {t_file : Nat → Int32} {l1 : Int32} {l2 : Int32} {l3 : Int32} {l4 : Int32} {H : Heap} {locs : List Loc} {ls : Array Slot}, rc3 t_wide t_size t_now t_file l2 l3 l4 = some (zt_size, zt_file) → va_P D vwCl (zwX9 cI h_t h_t_now h_t_file h_t_fresh h_t_colour h_t_table h_t_last h_t_one t_wide t_high t_size t_at t_fault t_newWide t_newHigh t_colours t_now t_file t_fresh t_colour t_table t_last t_one) H → va_D A (zwX9 cI h_t h_t_now h_t_file h_t_fresh h_t_colour h_t_table h_t_last h_t_one t_wide t_high t_size t_at t_fault t_newWide t_newHigh t_colours t_now t_file t_fresh t_colour t_table t_last t_one) → va_S A s.heap H locs → lv_has ls 7 [(0, .ref h_t), (1, .int l1), (2, .int l2), (3, .int l3), (4, .int l4)] → W p l e rmX9_packets s m args below meth c H locs 0 0 Q (F0 m 3 ls [])) (n : Nat) : ∀ {t_size : Int32} {t_file : Nat → Int32} {l1 : Int32} {l2 : Int32} {l3 : Int32} {l4 : Int32} {l5 : Int32} {l6 : Int32} {H : Heap} {locs : List Loc} {ls : Array Slot}, fX9_packets_125 rc3 n t_wide t_size t_now t_file l2 l3 l5 l6 = some (zt_size, zt_file) → va_P D vwCl (zwX9 cI h_t h_t_now h_t_file h_t_fresh h_t_colour h_t_table h_t_last h_t_one t_wide t_high t_size t_at t_fault t_newWide t_newHigh t_colours t_now t_file t_fresh t_colour t_table t_last t_one) H → va_D A (zwX9 cI h_t h_t_now h_t_file h_t_fresh h_t_colour h_t_table h_t_last h_t_one t_wide t_high t_size t_at t_fault t_newWide t_newHigh t_colours t_now t_file t_fresh t_colour t_table t_last t_one) → va_S A s.heap H locs → lv_has ls 7 [(0, .ref h_t), (1, .int l1), (2, .int l2), (3, .int l3), (4, .int l4), (5, .int l5), (6, .int l6)] → W p l e rmX9_packets s m args below meth c H locs 0 0 Q (F0 m 125 ls []) := by
  obtain ⟨hx, hb, hml, hown, hts⟩ := id C
  induction n with
  | zero =>
    intro t_size t_file l1 l2 l3 l4 l5 l6 H locs ls hf
    cases hf
  | succ n hr_125 =>
    intro t_size t_file l1 l2 l3 l4 l5 l6 H locs ls hf hP hD hS hl
    rw [fX9_packets_125_s] at hf
    refine lv_iload hx hb dX9_packets_125 (lv_at hl 6 rfl) ?_
    refine lv_iload hx hb dX9_packets_127 (lv_at hl 5 rfl) ?_
    refine lv_icmp_ge (tgt := 145) hx hb dX9_packets_129 (by decide) (fun c1 => ?_) (fun c1 => ?_)
    · replace hf := zif_t hf c1
      exact wX9_packets_145 C hN hK hA hE hr_3 hf hP hD hS (lv_sub hl [0, 1, 2, 3, 4, 5] rfl)
    · replace hf := zif_f hf c1
      refine lv_aload_n hx hb dX9_packets_132 rfl (lv_at hl 0 rfl) ?_
      refine lv_iload hx hb dX9_packets_133 (lv_at hl 6 rfl) ?_
      refine lv_iload_n hx hb dX9_packets_135 rfl (lv_at hl 3 rfl) ?_
      obtain ⟨u2, u3, hc4, hf⟩ := zb2_in hf
      refine zc_v (va_runV (As := [.int l6, .int l3]) (rest := []) C (mX9_tones l D cI H.size h_t h_t_now h_t_file h_t_fresh h_t_colour h_t_table h_t_last h_t_one t_wide t_high t_size t_at t_fault t_newWide t_newHigh t_colours t_now t_file t_fresh t_colour t_table t_last t_one l6 l3 u2 u3 hc4) (qX9_packets_X9_tones_109 hts) ⟨zP_blind, va_recv hK hP (ci := 8) (q0 := 0) rfl rfl, zpre hK hN hP hD [0, 1, 2, 3, 4, 5, 6, 7] rfl rfl⟩ rfl rfl hl.1 rfl (lv_room (Nat.le_of_ble_eq_true rfl)) dX9_packets_136 ⟨Nat.zero_le _, Nat.zero_le _⟩) hP hD hS hA [0, 1, 2, 3, 4, 5, 6, 7] [] [0, 1, 2, 3, 4, 5, 6, 7] (ws' := zwX9 cI h_t h_t_now h_t_file h_t_fresh h_t_colour h_t_table h_t_last h_t_one t_wide t_high u2 t_at t_fault t_newWide t_newHigh t_colours t_now u3 t_fresh t_colour t_table t_last t_one) rfl rfl rfl rfl rfl rfl (fun H locs hP hD hS => ?_)
      obtain ⟨x5, ex5⟩ : ∃ y : Int32, y = l6 + 1 := ⟨_, rfl⟩
      replace hf := zlet_in hf ex5
      refine lv_iinc (v := x5) (lv' := [(6, .int x5), (0, .ref h_t), (1, .int l1), (2, .int l2), (3, .int l3), (4, .int l4), (5, .int l5)]) hx hb dX9_packets_139 hl (k := 6) rfl (by rw [ex5]; rfl) (by decide) rfl (fun ls hl => ?_)
      clear ex5
      refine lv_goto (tgt := 125) hx hb dX9_packets_142 (by decide) ?_
      exact hr_125 hf hP hD hS (lv_sub hl [1, 2, 3, 4, 5, 6, 0] rfl)
set_option maxHeartbeats 4000000 in
set_option maxRecDepth 100000 in
theorem wX9_packets_110 {p : Program} {l : Launch} {e : Env} {s : State} {m : MethodId} {args : Array Value} {below : List Frame} {meth : Method} {c : Code} {D : va_G} {A : Nat → Prop} {Q : State → Prop} {cI : ClassId} {h_t h_t_now h_t_file h_t_fresh h_t_colour h_t_table h_t_last h_t_one : Nat} {t_wide : Int32} {t_high : Int32} {t_at : Int32} {t_fault : Int32} {t_newWide : Int32} {t_newHigh : Int32} {t_colours : Int32} {t_now : Nat → Int32} {t_fresh : Nat → Int32} {t_colour : Nat → Int32} {t_table : Nat → Int32} {t_last : Nat → Int32} {t_one : Nat → Int32} {zt_size : Int32} {zt_file : Nat → Int32} (C : CallFix p m c cX9_packets 7 s args wsX9_packets RX9) (hN : zN s) (hK : va_K D vwCl [(cI, .int)] s) (hA : ∀ q, s.heap.size ≤ q → A q) (hE : zEv p l e rmX9_packets s m args below meth c cX9_packets D A Q (zwX9 cI h_t h_t_now h_t_file h_t_fresh h_t_colour h_t_table h_t_last h_t_one t_wide t_high zt_size t_at t_fault t_newWide t_newHigh t_colours t_now zt_file t_fresh t_colour t_table t_last t_one)) {rc3 : Int32 → Int32 → (Nat → Int32) → (Nat → Int32) → Int32 → Int32 → Int32 → Option (Int32 × (Nat → Int32))} (hr_3 : ∀ {t_size : Int32} {t_file : Nat → Int32} {l1 : Int32} {l2 : Int32} {l3 : Int32} {l4 : Int32} {H : Heap} {locs : List Loc} {ls : Array Slot}, rc3 t_wide t_size t_now t_file l2 l3 l4 = some (zt_size, zt_file) → va_P D vwCl (zwX9 cI h_t h_t_now h_t_file h_t_fresh h_t_colour h_t_table h_t_last h_t_one t_wide t_high t_size t_at t_fault t_newWide t_newHigh t_colours t_now t_file t_fresh t_colour t_table t_last t_one) H → va_D A (zwX9 cI h_t h_t_now h_t_file h_t_fresh h_t_colour h_t_table h_t_last h_t_one t_wide t_high t_size t_at t_fault t_newWide t_newHigh t_colours t_now t_file t_fresh t_colour t_table t_last t_one) → va_S A s.heap H locs → lv_has ls 7 [(0, .ref h_t), (1, .int l1), (2, .int l2), (3, .int l3), (4, .int l4)] → W p l e rmX9_packets s m args below meth c H locs 0 0 Q (F0 m 3 ls [])) {t_size : Int32} {t_file : Nat → Int32} {l1 : Int32} {l2 : Int32} {l3 : Int32} {l4 : Int32} {l5 : Int32} {H : Heap} {locs : List Loc} {ls : Array Slot} : fX9_packets_110 rc3 t_wide t_size t_now t_file l2 l3 l4 l5 = some (zt_size, zt_file) → va_P D vwCl (zwX9 cI h_t h_t_now h_t_file h_t_fresh h_t_colour h_t_table h_t_last h_t_one t_wide t_high t_size t_at t_fault t_newWide t_newHigh t_colours t_now t_file t_fresh t_colour t_table t_last t_one) H → va_D A (zwX9 cI h_t h_t_now h_t_file h_t_fresh h_t_colour h_t_table h_t_last h_t_one t_wide t_high t_size t_at t_fault t_newWide t_newHigh t_colours t_now t_file t_fresh t_colour t_table t_last t_one) → va_S A s.heap H locs → lv_has ls 7 [(0, .ref h_t), (1, .int l1), (2, .int l2), (3, .int l3), (4, .int l4), (5, .int l5)] → W p l e rmX9_packets s m args below meth c H locs 0 0 Q (F0 m 110 ls []) := by
  intro hf hP hD hS hl
  obtain ⟨hx, hb, hml, hown, hts⟩ := id C
  unfold fX9_packets_110 at hf
  refine lv_aload_n hx hb dX9_packets_110 rfl (lv_at hl 0 rfl) ?_
  refine lv_iload hx hb dX9_packets_111 (lv_at hl 5 rfl) ?_
  refine lv_iload hx hb dX9_packets_113 (lv_at hl 4 rfl) ?_
  refine lv_isub hx hb dX9_packets_115 ?_
  refine lv_iconst (v := 1) hx hb dX9_packets_116 (by decide) ?_
  refine lv_isub hx hb dX9_packets_117 ?_
  obtain ⟨u1, u2, hc3, hf⟩ := zb2_in hf
  refine zc_v (va_runV (As := [.int ((l5 - l4) - 1)]) (rest := []) C (mX9_add l D cI H.size h_t h_t_now h_t_file h_t_fresh h_t_colour h_t_table h_t_last h_t_one t_wide t_high t_size t_at t_fault t_newWide t_newHigh t_colours t_now t_file t_fresh t_colour t_table t_last t_one ((l5 - l4) - 1) u1 u2 hc3) (qX9_packets_X9_add_63 hts) ⟨zP_blind, va_recv hK hP (ci := 8) (q0 := 0) rfl rfl, zpre hK hN hP hD [0, 1, 2, 3, 4, 5, 6, 7] rfl rfl⟩ rfl rfl hl.1 rfl (lv_room (Nat.le_of_ble_eq_true rfl)) dX9_packets_118 ⟨Nat.zero_le _, Nat.zero_le _⟩) hP hD hS hA [0, 1, 2, 3, 4, 5, 6, 7] [] [0, 1, 2, 3, 4, 5, 6, 7] (ws' := zwX9 cI h_t h_t_now h_t_file h_t_fresh h_t_colour h_t_table h_t_last h_t_one t_wide t_high u1 t_at t_fault t_newWide t_newHigh t_colours t_now u2 t_fresh t_colour t_table t_last t_one) rfl rfl rfl rfl rfl rfl (fun H locs hP hD hS => ?_)
  refine lv_iload hx hb dX9_packets_121 (lv_at hl 4 rfl) ?_
  refine lv_istore (lv' := [(6, .int l4), (0, .ref h_t), (1, .int l1), (2, .int l2), (3, .int l3), (4, .int l4), (5, .int l5)]) hx hb dX9_packets_123 hl (by decide) rfl (fun ls hl => ?_)
  exact wX9_packets_125 C hN hK hA hE hr_3 1000 hf hP hD hS (lv_sub hl [1, 2, 3, 4, 5, 6, 0] rfl)
set_option maxHeartbeats 4000000 in
set_option maxRecDepth 100000 in
theorem wX9_packets_104 {p : Program} {l : Launch} {e : Env} {s : State} {m : MethodId} {args : Array Value} {below : List Frame} {meth : Method} {c : Code} {D : va_G} {A : Nat → Prop} {Q : State → Prop} {cI : ClassId} {h_t h_t_now h_t_file h_t_fresh h_t_colour h_t_table h_t_last h_t_one : Nat} {t_wide : Int32} {t_high : Int32} {t_at : Int32} {t_fault : Int32} {t_newWide : Int32} {t_newHigh : Int32} {t_colours : Int32} {t_now : Nat → Int32} {t_fresh : Nat → Int32} {t_colour : Nat → Int32} {t_table : Nat → Int32} {t_last : Nat → Int32} {t_one : Nat → Int32} {zt_size : Int32} {zt_file : Nat → Int32} (C : CallFix p m c cX9_packets 7 s args wsX9_packets RX9) (hN : zN s) (hK : va_K D vwCl [(cI, .int)] s) (hA : ∀ q, s.heap.size ≤ q → A q) (hE : zEv p l e rmX9_packets s m args below meth c cX9_packets D A Q (zwX9 cI h_t h_t_now h_t_file h_t_fresh h_t_colour h_t_table h_t_last h_t_one t_wide t_high zt_size t_at t_fault t_newWide t_newHigh t_colours t_now zt_file t_fresh t_colour t_table t_last t_one)) {rc3 : Int32 → Int32 → (Nat → Int32) → (Nat → Int32) → Int32 → Int32 → Int32 → Option (Int32 × (Nat → Int32))} (hr_3 : ∀ {t_size : Int32} {t_file : Nat → Int32} {l1 : Int32} {l2 : Int32} {l3 : Int32} {l4 : Int32} {H : Heap} {locs : List Loc} {ls : Array Slot}, rc3 t_wide t_size t_now t_file l2 l3 l4 = some (zt_size, zt_file) → va_P D vwCl (zwX9 cI h_t h_t_now h_t_file h_t_fresh h_t_colour h_t_table h_t_last h_t_one t_wide t_high t_size t_at t_fault t_newWide t_newHigh t_colours t_now t_file t_fresh t_colour t_table t_last t_one) H → va_D A (zwX9 cI h_t h_t_now h_t_file h_t_fresh h_t_colour h_t_table h_t_last h_t_one t_wide t_high t_size t_at t_fault t_newWide t_newHigh t_colours t_now t_file t_fresh t_colour t_table t_last t_one) → va_S A s.heap H locs → lv_has ls 7 [(0, .ref h_t), (1, .int l1), (2, .int l2), (3, .int l3), (4, .int l4)] → W p l e rmX9_packets s m args below meth c H locs 0 0 Q (F0 m 3 ls [])) {rc77 : Int32 → Int32 → (Nat → Int32) → (Nat → Int32) → Int32 → Int32 → Int32 → Int32 → Option (Int32 × (Nat → Int32))} (hr_77 : ∀ {t_size : Int32} {t_file : Nat → Int32} {l1 : Int32} {l2 : Int32} {l3 : Int32} {l4 : Int32} {l5 : Int32} {H : Heap} {locs : List Loc} {ls : Array Slot}, rc77 t_wide t_size t_now t_file l2 l3 l4 l5 = some (zt_size, zt_file) → va_P D vwCl (zwX9 cI h_t h_t_now h_t_file h_t_fresh h_t_colour h_t_table h_t_last h_t_one t_wide t_high t_size t_at t_fault t_newWide t_newHigh t_colours t_now t_file t_fresh t_colour t_table t_last t_one) H → va_D A (zwX9 cI h_t h_t_now h_t_file h_t_fresh h_t_colour h_t_table h_t_last h_t_one t_wide t_high t_size t_at t_fault t_newWide t_newHigh t_colours t_now t_file t_fresh t_colour t_table t_last t_one) → va_S A s.heap H locs → lv_has ls 7 [(0, .ref h_t), (1, .int l1), (2, .int l2), (3, .int l3), (4, .int l4), (5, .int l5)] → W p l e rmX9_packets s m args below meth c H locs 0 0 Q (F0 m 77 ls [])) {t_size : Int32} {t_file : Nat → Int32} {l1 : Int32} {l2 : Int32} {l3 : Int32} {l4 : Int32} {l5 : Int32} {H : Heap} {locs : List Loc} {ls : Array Slot} : fX9_packets_104 rc3 rc77 t_wide t_size t_now t_file l2 l3 l4 l5 = some (zt_size, zt_file) → va_P D vwCl (zwX9 cI h_t h_t_now h_t_file h_t_fresh h_t_colour h_t_table h_t_last h_t_one t_wide t_high t_size t_at t_fault t_newWide t_newHigh t_colours t_now t_file t_fresh t_colour t_table t_last t_one) H → va_D A (zwX9 cI h_t h_t_now h_t_file h_t_fresh h_t_colour h_t_table h_t_last h_t_one t_wide t_high t_size t_at t_fault t_newWide t_newHigh t_colours t_now t_file t_fresh t_colour t_table t_last t_one) → va_S A s.heap H locs → lv_has ls 7 [(0, .ref h_t), (1, .int l1), (2, .int l2), (3, .int l3), (4, .int l4), (5, .int l5)] → W p l e rmX9_packets s m args below meth c H locs 0 0 Q (F0 m 104 ls []) := by
  intro hf hP hD hS hl
  obtain ⟨hx, hb, hml, hown, hts⟩ := id C
  unfold fX9_packets_104 at hf
  obtain ⟨x1, ex1⟩ : ∃ y : Int32, y = l5 + 1 := ⟨_, rfl⟩
  replace hf := zlet_in hf ex1
  refine lv_iinc (v := x1) (lv' := [(5, .int x1), (0, .ref h_t), (1, .int l1), (2, .int l2), (3, .int l3), (4, .int l4)]) hx hb dX9_packets_104 hl (k := 5) rfl (by rw [ex1]; rfl) (by decide) rfl (fun ls hl => ?_)
  clear ex1
  refine lv_goto (tgt := 77) hx hb dX9_packets_107 (by decide) ?_
  exact hr_77 hf hP hD hS (lv_sub hl [1, 2, 3, 4, 5, 0] rfl)
set_option maxHeartbeats 4000000 in
set_option maxRecDepth 100000 in
theorem wX9_packets_77 {p : Program} {l : Launch} {e : Env} {s : State} {m : MethodId} {args : Array Value} {below : List Frame} {meth : Method} {c : Code} {D : va_G} {A : Nat → Prop} {Q : State → Prop} {cI : ClassId} {h_t h_t_now h_t_file h_t_fresh h_t_colour h_t_table h_t_last h_t_one : Nat} {t_wide : Int32} {t_high : Int32} {t_at : Int32} {t_fault : Int32} {t_newWide : Int32} {t_newHigh : Int32} {t_colours : Int32} {t_now : Nat → Int32} {t_fresh : Nat → Int32} {t_colour : Nat → Int32} {t_table : Nat → Int32} {t_last : Nat → Int32} {t_one : Nat → Int32} {zt_size : Int32} {zt_file : Nat → Int32} (C : CallFix p m c cX9_packets 7 s args wsX9_packets RX9) (hN : zN s) (hK : va_K D vwCl [(cI, .int)] s) (hA : ∀ q, s.heap.size ≤ q → A q) (hE : zEv p l e rmX9_packets s m args below meth c cX9_packets D A Q (zwX9 cI h_t h_t_now h_t_file h_t_fresh h_t_colour h_t_table h_t_last h_t_one t_wide t_high zt_size t_at t_fault t_newWide t_newHigh t_colours t_now zt_file t_fresh t_colour t_table t_last t_one)) {rc3 : Int32 → Int32 → (Nat → Int32) → (Nat → Int32) → Int32 → Int32 → Int32 → Option (Int32 × (Nat → Int32))} (hr_3 : ∀ {t_size : Int32} {t_file : Nat → Int32} {l1 : Int32} {l2 : Int32} {l3 : Int32} {l4 : Int32} {H : Heap} {locs : List Loc} {ls : Array Slot}, rc3 t_wide t_size t_now t_file l2 l3 l4 = some (zt_size, zt_file) → va_P D vwCl (zwX9 cI h_t h_t_now h_t_file h_t_fresh h_t_colour h_t_table h_t_last h_t_one t_wide t_high t_size t_at t_fault t_newWide t_newHigh t_colours t_now t_file t_fresh t_colour t_table t_last t_one) H → va_D A (zwX9 cI h_t h_t_now h_t_file h_t_fresh h_t_colour h_t_table h_t_last h_t_one t_wide t_high t_size t_at t_fault t_newWide t_newHigh t_colours t_now t_file t_fresh t_colour t_table t_last t_one) → va_S A s.heap H locs → lv_has ls 7 [(0, .ref h_t), (1, .int l1), (2, .int l2), (3, .int l3), (4, .int l4)] → W p l e rmX9_packets s m args below meth c H locs 0 0 Q (F0 m 3 ls [])) (n : Nat) : ∀ {t_size : Int32} {t_file : Nat → Int32} {l1 : Int32} {l2 : Int32} {l3 : Int32} {l4 : Int32} {l5 : Int32} {H : Heap} {locs : List Loc} {ls : Array Slot}, fX9_packets_77 rc3 n t_wide t_size t_now t_file l2 l3 l4 l5 = some (zt_size, zt_file) → va_P D vwCl (zwX9 cI h_t h_t_now h_t_file h_t_fresh h_t_colour h_t_table h_t_last h_t_one t_wide t_high t_size t_at t_fault t_newWide t_newHigh t_colours t_now t_file t_fresh t_colour t_table t_last t_one) H → va_D A (zwX9 cI h_t h_t_now h_t_file h_t_fresh h_t_colour h_t_table h_t_last h_t_one t_wide t_high t_size t_at t_fault t_newWide t_newHigh t_colours t_now t_file t_fresh t_colour t_table t_last t_one) → va_S A s.heap H locs → lv_has ls 7 [(0, .ref h_t), (1, .int l1), (2, .int l2), (3, .int l3), (4, .int l4), (5, .int l5)] → W p l e rmX9_packets s m args below meth c H locs 0 0 Q (F0 m 77 ls []) := by
  obtain ⟨hx, hb, hml, hown, hts⟩ := id C
  induction n with
  | zero =>
    intro t_size t_file l1 l2 l3 l4 l5 H locs ls hf
    cases hf
  | succ n hr_77 =>
    intro t_size t_file l1 l2 l3 l4 l5 H locs ls hf hP hD hS hl
    rw [fX9_packets_77_s] at hf
    refine lv_iload hx hb dX9_packets_77 (lv_at hl 5 rfl) ?_
    refine lv_iload_n hx hb dX9_packets_79 rfl (lv_at hl 2 rfl) ?_
    refine lv_icmp_ge (tgt := 110) hx hb dX9_packets_80 (by decide) (fun c1 => ?_) (fun c1 => ?_)
    · replace hf := zif_t hf c1
      exact wX9_packets_110 C hN hK hA hE hr_3 hf hP hD hS (lv_sub hl [0, 1, 2, 3, 4, 5] rfl)
    · replace hf := zif_f hf c1
      refine lv_iload hx hb dX9_packets_83 (lv_at hl 5 rfl) ?_
      refine lv_iconst (v := 1) hx hb dX9_packets_85 (by decide) ?_
      refine lv_iadd hx hb dX9_packets_86 ?_
      refine lv_iload_n hx hb dX9_packets_87 rfl (lv_at hl 2 rfl) ?_
      refine lv_icmp_ge (tgt := 104) hx hb dX9_packets_88 (by decide) (fun c2 => ?_) (fun c2 => ?_)
      · replace hf := zif_t hf c2
        exact wX9_packets_104 C hN hK hA hE hr_3 hr_77 hf hP hD hS (lv_sub hl [0, 1, 2, 3, 4, 5] rfl)
      · replace hf := zif_f hf c2
        refine lv_aload_n hx hb dX9_packets_91 rfl (lv_at hl 0 rfl) ?_
        refine lv_iload hx hb dX9_packets_92 (lv_at hl 5 rfl) ?_
        refine lv_iload hx hb dX9_packets_94 (lv_at hl 5 rfl) ?_
        refine lv_iconst (v := 1) hx hb dX9_packets_96 (by decide) ?_
        refine lv_iadd hx hb dX9_packets_97 ?_
        obtain ⟨r3, hc4, hf⟩ := zb1_in hf
        refine zc_i (va_runV (As := [.int l5, .int (l5 + 1)]) (rest := []) C (mX9_alike l D cI H.size h_t h_t_now h_t_file h_t_fresh h_t_colour h_t_table h_t_last h_t_one t_wide t_high t_size t_at t_fault t_newWide t_newHigh t_colours t_now t_file t_fresh t_colour t_table t_last t_one l5 (l5 + 1) r3 hc4) (qX9_packets_X9_alike_94 hts) ⟨zP_blind, va_recv hK hP (ci := 8) (q0 := 0) rfl rfl, zpre hK hN hP hD [0, 1, 2, 3, 4, 5, 6, 7] rfl rfl⟩ rfl rfl hl.1 rfl (lv_room (Nat.le_of_ble_eq_true rfl)) dX9_packets_98 ⟨Nat.zero_le _, Nat.zero_le _⟩) hP hD hS hA [0, 1, 2, 3, 4, 5, 6, 7] [] [0, 1, 2, 3, 4, 5, 6, 7] (ws' := zwX9 cI h_t h_t_now h_t_file h_t_fresh h_t_colour h_t_table h_t_last h_t_one t_wide t_high t_size t_at t_fault t_newWide t_newHigh t_colours t_now t_file t_fresh t_colour t_table t_last t_one) rfl rfl rfl rfl rfl rfl (fun H locs hP hD hS => ?_)
        refine lv_if_ne (tgt := 110) hx hb dX9_packets_101 (by decide) (fun c5 => ?_) (fun c5 => ?_)
        · replace hf := zif_f hf c5
          exact wX9_packets_110 C hN hK hA hE hr_3 hf hP hD hS (lv_sub hl [0, 1, 2, 3, 4, 5] rfl)
        · replace hf := zif_t hf c5
          exact wX9_packets_104 C hN hK hA hE hr_3 hr_77 hf hP hD hS (lv_sub hl [0, 1, 2, 3, 4, 5] rfl)
set_option maxHeartbeats 4000000 in
set_option maxRecDepth 100000 in
theorem wX9_packets_55 {p : Program} {l : Launch} {e : Env} {s : State} {m : MethodId} {args : Array Value} {below : List Frame} {meth : Method} {c : Code} {D : va_G} {A : Nat → Prop} {Q : State → Prop} {cI : ClassId} {h_t h_t_now h_t_file h_t_fresh h_t_colour h_t_table h_t_last h_t_one : Nat} {t_wide : Int32} {t_high : Int32} {t_at : Int32} {t_fault : Int32} {t_newWide : Int32} {t_newHigh : Int32} {t_colours : Int32} {t_now : Nat → Int32} {t_fresh : Nat → Int32} {t_colour : Nat → Int32} {t_table : Nat → Int32} {t_last : Nat → Int32} {t_one : Nat → Int32} {zt_size : Int32} {zt_file : Nat → Int32} (C : CallFix p m c cX9_packets 7 s args wsX9_packets RX9) (hN : zN s) (hK : va_K D vwCl [(cI, .int)] s) (hA : ∀ q, s.heap.size ≤ q → A q) (hE : zEv p l e rmX9_packets s m args below meth c cX9_packets D A Q (zwX9 cI h_t h_t_now h_t_file h_t_fresh h_t_colour h_t_table h_t_last h_t_one t_wide t_high zt_size t_at t_fault t_newWide t_newHigh t_colours t_now zt_file t_fresh t_colour t_table t_last t_one)) {rc3 : Int32 → Int32 → (Nat → Int32) → (Nat → Int32) → Int32 → Int32 → Int32 → Option (Int32 × (Nat → Int32))} (hr_3 : ∀ {t_size : Int32} {t_file : Nat → Int32} {l1 : Int32} {l2 : Int32} {l3 : Int32} {l4 : Int32} {H : Heap} {locs : List Loc} {ls : Array Slot}, rc3 t_wide t_size t_now t_file l2 l3 l4 = some (zt_size, zt_file) → va_P D vwCl (zwX9 cI h_t h_t_now h_t_file h_t_fresh h_t_colour h_t_table h_t_last h_t_one t_wide t_high t_size t_at t_fault t_newWide t_newHigh t_colours t_now t_file t_fresh t_colour t_table t_last t_one) H → va_D A (zwX9 cI h_t h_t_now h_t_file h_t_fresh h_t_colour h_t_table h_t_last h_t_one t_wide t_high t_size t_at t_fault t_newWide t_newHigh t_colours t_now t_file t_fresh t_colour t_table t_last t_one) → va_S A s.heap H locs → lv_has ls 7 [(0, .ref h_t), (1, .int l1), (2, .int l2), (3, .int l3), (4, .int l4)] → W p l e rmX9_packets s m args below meth c H locs 0 0 Q (F0 m 3 ls [])) {t_size : Int32} {t_file : Nat → Int32} {l1 : Int32} {l2 : Int32} {l3 : Int32} {l4 : Int32} {l5 : Int32} {H : Heap} {locs : List Loc} {ls : Array Slot} : fX9_packets_55 rc3 t_wide t_size t_now t_file l2 l3 l4 l5 = some (zt_size, zt_file) → va_P D vwCl (zwX9 cI h_t h_t_now h_t_file h_t_fresh h_t_colour h_t_table h_t_last h_t_one t_wide t_high t_size t_at t_fault t_newWide t_newHigh t_colours t_now t_file t_fresh t_colour t_table t_last t_one) H → va_D A (zwX9 cI h_t h_t_now h_t_file h_t_fresh h_t_colour h_t_table h_t_last h_t_one t_wide t_high t_size t_at t_fault t_newWide t_newHigh t_colours t_now t_file t_fresh t_colour t_table t_last t_one) → va_S A s.heap H locs → lv_has ls 7 [(0, .ref h_t), (1, .int l1), (2, .int l2), (3, .int l3), (4, .int l4), (5, .int l5)] → W p l e rmX9_packets s m args below meth c H locs 0 0 Q (F0 m 55 ls []) := by
  intro hf hP hD hS hl
  obtain ⟨hx, hb, hml, hown, hts⟩ := id C
  unfold fX9_packets_55 at hf
  refine lv_aload_n hx hb dX9_packets_55 rfl (lv_at hl 0 rfl) ?_
  refine lv_bipush (v := 127) hx hb dX9_packets_56 (by decide) ?_
  refine lv_iload hx hb dX9_packets_58 (lv_at hl 5 rfl) ?_
  refine lv_iadd hx hb dX9_packets_60 ?_
  refine lv_iload hx hb dX9_packets_61 (lv_at hl 4 rfl) ?_
  refine lv_isub hx hb dX9_packets_63 ?_
  obtain ⟨u1, u2, hc3, hf⟩ := zb2_in hf
  refine zc_v (va_runV (As := [.int ((127 + l5) - l4)]) (rest := []) C (mX9_add l D cI H.size h_t h_t_now h_t_file h_t_fresh h_t_colour h_t_table h_t_last h_t_one t_wide t_high t_size t_at t_fault t_newWide t_newHigh t_colours t_now t_file t_fresh t_colour t_table t_last t_one ((127 + l5) - l4) u1 u2 hc3) (qX9_packets_X9_add_63 hts) ⟨zP_blind, va_recv hK hP (ci := 8) (q0 := 0) rfl rfl, zpre hK hN hP hD [0, 1, 2, 3, 4, 5, 6, 7] rfl rfl⟩ rfl rfl hl.1 rfl (lv_room (Nat.le_of_ble_eq_true rfl)) dX9_packets_64 ⟨Nat.zero_le _, Nat.zero_le _⟩) hP hD hS hA [0, 1, 2, 3, 4, 5, 6, 7] [] [0, 1, 2, 3, 4, 5, 6, 7] (ws' := zwX9 cI h_t h_t_now h_t_file h_t_fresh h_t_colour h_t_table h_t_last h_t_one t_wide t_high u1 t_at t_fault t_newWide t_newHigh t_colours t_now u2 t_fresh t_colour t_table t_last t_one) rfl rfl rfl rfl rfl rfl (fun H locs hP hD hS => ?_)
  refine lv_aload_n hx hb dX9_packets_67 rfl (lv_at hl 0 rfl) ?_
  refine lv_iload hx hb dX9_packets_68 (lv_at hl 4 rfl) ?_
  refine lv_iload_n hx hb dX9_packets_70 rfl (lv_at hl 3 rfl) ?_
  obtain ⟨u4, u5, hc6, hf⟩ := zb2_in hf
  refine zc_v (va_runV (As := [.int l4, .int l3]) (rest := []) C (mX9_tones l D cI H.size h_t h_t_now h_t_file h_t_fresh h_t_colour h_t_table h_t_last h_t_one t_wide t_high u1 t_at t_fault t_newWide t_newHigh t_colours t_now u2 t_fresh t_colour t_table t_last t_one l4 l3 u4 u5 hc6) (qX9_packets_X9_tones_109 hts) ⟨zP_blind, va_recv hK hP (ci := 8) (q0 := 0) rfl rfl, zpre hK hN hP hD [0, 1, 2, 3, 4, 5, 6, 7] rfl rfl⟩ rfl rfl hl.1 rfl (lv_room (Nat.le_of_ble_eq_true rfl)) dX9_packets_71 ⟨Nat.zero_le _, Nat.zero_le _⟩) hP hD hS hA [0, 1, 2, 3, 4, 5, 6, 7] [] [0, 1, 2, 3, 4, 5, 6, 7] (ws' := zwX9 cI h_t h_t_now h_t_file h_t_fresh h_t_colour h_t_table h_t_last h_t_one t_wide t_high u4 t_at t_fault t_newWide t_newHigh t_colours t_now u5 t_fresh t_colour t_table t_last t_one) rfl rfl rfl rfl rfl rfl (fun H locs hP hD hS => ?_)
  refine lv_goto (tgt := 145) hx hb dX9_packets_74 (by decide) ?_
  exact wX9_packets_145 C hN hK hA hE hr_3 hf hP hD hS (lv_sub hl [0, 1, 2, 3, 4, 5] rfl)
set_option maxHeartbeats 4000000 in
set_option maxRecDepth 100000 in
theorem wX9_packets_32 {p : Program} {l : Launch} {e : Env} {s : State} {m : MethodId} {args : Array Value} {below : List Frame} {meth : Method} {c : Code} {D : va_G} {A : Nat → Prop} {Q : State → Prop} {cI : ClassId} {h_t h_t_now h_t_file h_t_fresh h_t_colour h_t_table h_t_last h_t_one : Nat} {t_wide : Int32} {t_high : Int32} {t_at : Int32} {t_fault : Int32} {t_newWide : Int32} {t_newHigh : Int32} {t_colours : Int32} {t_now : Nat → Int32} {t_fresh : Nat → Int32} {t_colour : Nat → Int32} {t_table : Nat → Int32} {t_last : Nat → Int32} {t_one : Nat → Int32} {zt_size : Int32} {zt_file : Nat → Int32} (C : CallFix p m c cX9_packets 7 s args wsX9_packets RX9) (hN : zN s) (hK : va_K D vwCl [(cI, .int)] s) (hA : ∀ q, s.heap.size ≤ q → A q) (hE : zEv p l e rmX9_packets s m args below meth c cX9_packets D A Q (zwX9 cI h_t h_t_now h_t_file h_t_fresh h_t_colour h_t_table h_t_last h_t_one t_wide t_high zt_size t_at t_fault t_newWide t_newHigh t_colours t_now zt_file t_fresh t_colour t_table t_last t_one)) {rc3 : Int32 → Int32 → (Nat → Int32) → (Nat → Int32) → Int32 → Int32 → Int32 → Option (Int32 × (Nat → Int32))} (hr_3 : ∀ {t_size : Int32} {t_file : Nat → Int32} {l1 : Int32} {l2 : Int32} {l3 : Int32} {l4 : Int32} {H : Heap} {locs : List Loc} {ls : Array Slot}, rc3 t_wide t_size t_now t_file l2 l3 l4 = some (zt_size, zt_file) → va_P D vwCl (zwX9 cI h_t h_t_now h_t_file h_t_fresh h_t_colour h_t_table h_t_last h_t_one t_wide t_high t_size t_at t_fault t_newWide t_newHigh t_colours t_now t_file t_fresh t_colour t_table t_last t_one) H → va_D A (zwX9 cI h_t h_t_now h_t_file h_t_fresh h_t_colour h_t_table h_t_last h_t_one t_wide t_high t_size t_at t_fault t_newWide t_newHigh t_colours t_now t_file t_fresh t_colour t_table t_last t_one) → va_S A s.heap H locs → lv_has ls 7 [(0, .ref h_t), (1, .int l1), (2, .int l2), (3, .int l3), (4, .int l4)] → W p l e rmX9_packets s m args below meth c H locs 0 0 Q (F0 m 3 ls [])) (n : Nat) : ∀ {t_size : Int32} {t_file : Nat → Int32} {l1 : Int32} {l2 : Int32} {l3 : Int32} {l4 : Int32} {l5 : Int32} {H : Heap} {locs : List Loc} {ls : Array Slot}, fX9_packets_32 rc3 n t_wide t_size t_now t_file l2 l3 l4 l5 = some (zt_size, zt_file) → va_P D vwCl (zwX9 cI h_t h_t_now h_t_file h_t_fresh h_t_colour h_t_table h_t_last h_t_one t_wide t_high t_size t_at t_fault t_newWide t_newHigh t_colours t_now t_file t_fresh t_colour t_table t_last t_one) H → va_D A (zwX9 cI h_t h_t_now h_t_file h_t_fresh h_t_colour h_t_table h_t_last h_t_one t_wide t_high t_size t_at t_fault t_newWide t_newHigh t_colours t_now t_file t_fresh t_colour t_table t_last t_one) → va_S A s.heap H locs → lv_has ls 7 [(0, .ref h_t), (1, .int l1), (2, .int l2), (3, .int l3), (4, .int l4), (5, .int l5)] → W p l e rmX9_packets s m args below meth c H locs 0 0 Q (F0 m 32 ls []) := by
  obtain ⟨hx, hb, hml, hown, hts⟩ := id C
  induction n with
  | zero =>
    intro t_size t_file l1 l2 l3 l4 l5 H locs ls hf
    cases hf
  | succ n hr_32 =>
    intro t_size t_file l1 l2 l3 l4 l5 H locs ls hf hP hD hS hl
    rw [fX9_packets_32_s] at hf
    refine lv_iload hx hb dX9_packets_32 (lv_at hl 5 rfl) ?_
    refine lv_iload_n hx hb dX9_packets_34 rfl (lv_at hl 2 rfl) ?_
    refine lv_icmp_ge (tgt := 55) hx hb dX9_packets_35 (by decide) (fun c1 => ?_) (fun c1 => ?_)
    · replace hf := zif_t hf c1
      exact wX9_packets_55 C hN hK hA hE hr_3 hf hP hD hS (lv_sub hl [0, 1, 2, 3, 4, 5] rfl)
    · replace hf := zif_f hf c1
      refine lv_aload_n hx hb dX9_packets_38 rfl (lv_at hl 0 rfl) ?_
      refine lv_iload hx hb dX9_packets_39 (lv_at hl 4 rfl) ?_
      refine lv_iload hx hb dX9_packets_41 (lv_at hl 5 rfl) ?_
      obtain ⟨r2, hc3, hf⟩ := zb1_in hf
      refine zc_i (va_runV (As := [.int l4, .int l5]) (rest := []) C (mX9_alike l D cI H.size h_t h_t_now h_t_file h_t_fresh h_t_colour h_t_table h_t_last h_t_one t_wide t_high t_size t_at t_fault t_newWide t_newHigh t_colours t_now t_file t_fresh t_colour t_table t_last t_one l4 l5 r2 hc3) (qX9_packets_X9_alike_94 hts) ⟨zP_blind, va_recv hK hP (ci := 8) (q0 := 0) rfl rfl, zpre hK hN hP hD [0, 1, 2, 3, 4, 5, 6, 7] rfl rfl⟩ rfl rfl hl.1 rfl (lv_room (Nat.le_of_ble_eq_true rfl)) dX9_packets_43 ⟨Nat.zero_le _, Nat.zero_le _⟩) hP hD hS hA [0, 1, 2, 3, 4, 5, 6, 7] [] [0, 1, 2, 3, 4, 5, 6, 7] (ws' := zwX9 cI h_t h_t_now h_t_file h_t_fresh h_t_colour h_t_table h_t_last h_t_one t_wide t_high t_size t_at t_fault t_newWide t_newHigh t_colours t_now t_file t_fresh t_colour t_table t_last t_one) rfl rfl rfl rfl rfl rfl (fun H locs hP hD hS => ?_)
      refine lv_if_eq (tgt := 55) hx hb dX9_packets_46 (by decide) (fun c4 => ?_) (fun c4 => ?_)
      · replace hf := zif_t hf c4
        exact wX9_packets_55 C hN hK hA hE hr_3 hf hP hD hS (lv_sub hl [0, 1, 2, 3, 4, 5] rfl)
      · replace hf := zif_f hf c4
        obtain ⟨x5, ex5⟩ : ∃ y : Int32, y = l5 + 1 := ⟨_, rfl⟩
        replace hf := zlet_in hf ex5
        refine lv_iinc (v := x5) (lv' := [(5, .int x5), (0, .ref h_t), (1, .int l1), (2, .int l2), (3, .int l3), (4, .int l4)]) hx hb dX9_packets_49 hl (k := 5) rfl (by rw [ex5]; rfl) (by decide) rfl (fun ls hl => ?_)
        clear ex5
        refine lv_goto (tgt := 32) hx hb dX9_packets_52 (by decide) ?_
        exact hr_32 hf hP hD hS (lv_sub hl [1, 2, 3, 4, 5, 0] rfl)
set_option maxHeartbeats 4000000 in
set_option maxRecDepth 100000 in
theorem wX9_packets_3 {p : Program} {l : Launch} {e : Env} {s : State} {m : MethodId} {args : Array Value} {below : List Frame} {meth : Method} {c : Code} {D : va_G} {A : Nat → Prop} {Q : State → Prop} {cI : ClassId} {h_t h_t_now h_t_file h_t_fresh h_t_colour h_t_table h_t_last h_t_one : Nat} {t_wide : Int32} {t_high : Int32} {t_at : Int32} {t_fault : Int32} {t_newWide : Int32} {t_newHigh : Int32} {t_colours : Int32} {t_now : Nat → Int32} {t_fresh : Nat → Int32} {t_colour : Nat → Int32} {t_table : Nat → Int32} {t_last : Nat → Int32} {t_one : Nat → Int32} {zt_size : Int32} {zt_file : Nat → Int32} (C : CallFix p m c cX9_packets 7 s args wsX9_packets RX9) (hN : zN s) (hK : va_K D vwCl [(cI, .int)] s) (hA : ∀ q, s.heap.size ≤ q → A q) (hE : zEv p l e rmX9_packets s m args below meth c cX9_packets D A Q (zwX9 cI h_t h_t_now h_t_file h_t_fresh h_t_colour h_t_table h_t_last h_t_one t_wide t_high zt_size t_at t_fault t_newWide t_newHigh t_colours t_now zt_file t_fresh t_colour t_table t_last t_one)) (n : Nat) : ∀ {t_size : Int32} {t_file : Nat → Int32} {l1 : Int32} {l2 : Int32} {l3 : Int32} {l4 : Int32} {H : Heap} {locs : List Loc} {ls : Array Slot}, fX9_packets_3 n t_wide t_size t_now t_file l2 l3 l4 = some (zt_size, zt_file) → va_P D vwCl (zwX9 cI h_t h_t_now h_t_file h_t_fresh h_t_colour h_t_table h_t_last h_t_one t_wide t_high t_size t_at t_fault t_newWide t_newHigh t_colours t_now t_file t_fresh t_colour t_table t_last t_one) H → va_D A (zwX9 cI h_t h_t_now h_t_file h_t_fresh h_t_colour h_t_table h_t_last h_t_one t_wide t_high t_size t_at t_fault t_newWide t_newHigh t_colours t_now t_file t_fresh t_colour t_table t_last t_one) → va_S A s.heap H locs → lv_has ls 7 [(0, .ref h_t), (1, .int l1), (2, .int l2), (3, .int l3), (4, .int l4)] → W p l e rmX9_packets s m args below meth c H locs 0 0 Q (F0 m 3 ls []) := by
  obtain ⟨hx, hb, hml, hown, hts⟩ := id C
  induction n with
  | zero =>
    intro t_size t_file l1 l2 l3 l4 H locs ls hf
    cases hf
  | succ n hr_3 =>
    intro t_size t_file l1 l2 l3 l4 H locs ls hf hP hD hS hl
    rw [fX9_packets_3_s] at hf
    refine lv_iload hx hb dX9_packets_3 (lv_at hl 4 rfl) ?_
    refine lv_iload_n hx hb dX9_packets_5 rfl (lv_at hl 2 rfl) ?_
    refine lv_icmp_ge (tgt := 152) hx hb dX9_packets_6 (by decide) (fun c1 => ?_) (fun c1 => ?_)
    · replace hf := zif_t hf c1
      cases hf
      exact hE _ _ _ _ dX9_packets_152 hP hD hS
    · replace hf := zif_f hf c1
      refine lv_iload hx hb dX9_packets_9 (lv_at hl 4 rfl) ?_
      refine lv_iconst (v := 1) hx hb dX9_packets_11 (by decide) ?_
      refine lv_iadd hx hb dX9_packets_12 ?_
      refine lv_topi (fun x2 ex2 => ?_)
      replace hf := zlet_in hf ex2
      clear ex2
      refine lv_istore (lv' := [(5, .int x2), (0, .ref h_t), (1, .int l1), (2, .int l2), (3, .int l3), (4, .int l4)]) hx hb dX9_packets_13 hl (by decide) rfl (fun ls hl => ?_)
      refine lv_iload hx hb dX9_packets_15 (lv_at hl 0 rfl) ?_
      refine lv_iload_n hx hb dX9_packets_17 rfl (lv_at hl 3 rfl) ?_
      refine lv_icmp_ge (tgt := 77) hx hb dX9_packets_18 (by decide) (fun c3 => ?_) (fun c3 => ?_)
      · replace hf := zif_t hf c3
        exact wX9_packets_77 C hN hK hA hE hr_3 1000 hf hP hD hS (lv_sub hl [1, 2, 3, 4, 5, 0] rfl)
      · replace hf := zif_f hf c3
        refine lv_aload_n hx hb dX9_packets_21 rfl (lv_at hl 1 rfl) ?_
        refine lv_iload hx hb dX9_packets_22 (lv_at hl 5 rfl) ?_
        refine lv_iload hx hb dX9_packets_24 (lv_at hl 0 rfl) ?_
        obtain ⟨r4, hc5, hf⟩ := zb1_in hf
        refine zc_i (va_runV (As := [.int l4, .int x2]) (rest := []) C (mX9_alike l D cI H.size h_t h_t_now h_t_file h_t_fresh h_t_colour h_t_table h_t_last h_t_one t_wide t_high t_size t_at t_fault t_newWide t_newHigh t_colours t_now t_file t_fresh t_colour t_table t_last t_one l4 x2 r4 hc5) (qX9_packets_X9_alike_94 hts) ⟨zP_blind, va_recv hK hP (ci := 8) (q0 := 0) rfl rfl, zpre hK hN hP hD [0, 1, 2, 3, 4, 5, 6, 7] rfl rfl⟩ rfl rfl hl.1 rfl (lv_room (Nat.le_of_ble_eq_true rfl)) dX9_packets_26 ⟨Nat.zero_le _, Nat.zero_le _⟩) hP hD hS hA [0, 1, 2, 3, 4, 5, 6, 7] [] [0, 1, 2, 3, 4, 5, 6, 7] (ws' := zwX9 cI h_t h_t_now h_t_file h_t_fresh h_t_colour h_t_table h_t_last h_t_one t_wide t_high t_size t_at t_fault t_newWide t_newHigh t_colours t_now t_file t_fresh t_colour t_table t_last t_one) rfl rfl rfl rfl rfl rfl (fun H locs hP hD hS => ?_)
        refine lv_if_eq (tgt := 77) hx hb dX9_packets_29 (by decide) (fun c6 => ?_) (fun c6 => ?_)
        · replace hf := zif_t hf c6
          exact wX9_packets_77 C hN hK hA hE hr_3 1000 hf hP hD hS (lv_sub hl [1, 2, 3, 4, 5, 0] rfl)
        · replace hf := zif_f hf c6
          exact wX9_packets_32 C hN hK hA hE hr_3 1000 hf hP hD hS (lv_sub hl [1, 2, 3, 4, 5, 0] rfl)
set_option maxHeartbeats 4000000 in
set_option maxRecDepth 100000 in
theorem wX9_packets_0 {p : Program} {l : Launch} {e : Env} {s : State} {m : MethodId} {args : Array Value} {below : List Frame} {meth : Method} {c : Code} {D : va_G} {A : Nat → Prop} {Q : State → Prop} {cI : ClassId} {h_t h_t_now h_t_file h_t_fresh h_t_colour h_t_table h_t_last h_t_one : Nat} {t_wide : Int32} {t_high : Int32} {t_at : Int32} {t_fault : Int32} {t_newWide : Int32} {t_newHigh : Int32} {t_colours : Int32} {t_now : Nat → Int32} {t_fresh : Nat → Int32} {t_colour : Nat → Int32} {t_table : Nat → Int32} {t_last : Nat → Int32} {t_one : Nat → Int32} {zt_size : Int32} {zt_file : Nat → Int32} (C : CallFix p m c cX9_packets 7 s args wsX9_packets RX9) (hN : zN s) (hK : va_K D vwCl [(cI, .int)] s) (hA : ∀ q, s.heap.size ≤ q → A q) (hE : zEv p l e rmX9_packets s m args below meth c cX9_packets D A Q (zwX9 cI h_t h_t_now h_t_file h_t_fresh h_t_colour h_t_table h_t_last h_t_one t_wide t_high zt_size t_at t_fault t_newWide t_newHigh t_colours t_now zt_file t_fresh t_colour t_table t_last t_one)) {t_size : Int32} {t_file : Nat → Int32} {v0 : Int32} {v1 : Int32} {v2 : Int32} {H : Heap} {locs : List Loc} {ls : Array Slot} : fX9_packets t_wide t_size t_now t_file v0 v1 v2 = some (zt_size, zt_file) → va_P D vwCl (zwX9 cI h_t h_t_now h_t_file h_t_fresh h_t_colour h_t_table h_t_last h_t_one t_wide t_high t_size t_at t_fault t_newWide t_newHigh t_colours t_now t_file t_fresh t_colour t_table t_last t_one) H → va_D A (zwX9 cI h_t h_t_now h_t_file h_t_fresh h_t_colour h_t_table h_t_last h_t_one t_wide t_high t_size t_at t_fault t_newWide t_newHigh t_colours t_now t_file t_fresh t_colour t_table t_last t_one) → va_S A s.heap H locs → lv_has ls 7 [(0, .ref h_t), (1, .int v0), (2, .int v1), (3, .int v2)] → W p l e rmX9_packets s m args below meth c H locs 0 0 Q (F0 m 0 ls []) := by
  intro hf hP hD hS hl
  obtain ⟨hx, hb, hml, hown, hts⟩ := id C
  unfold fX9_packets at hf
  refine lv_iload_n hx hb dX9_packets_0 rfl (lv_at hl 1 rfl) ?_
  refine lv_istore (lv' := [(4, .int v0), (0, .ref h_t), (1, .int v0), (2, .int v1), (3, .int v2)]) hx hb dX9_packets_1 hl (by decide) rfl (fun ls hl => ?_)
  exact wX9_packets_3 C hN hK hA hE 1000 hf hP hD hS (lv_sub hl [1, 2, 3, 4, 0] rfl)
set_option maxHeartbeats 4000000 in
set_option maxRecDepth 100000 in
theorem mX9_packets (l : Launch) (D : va_G) (cI : ClassId) (sz : Nat) (h_t h_t_now h_t_file h_t_fresh h_t_colour h_t_table h_t_last h_t_one : Nat) (t_wide : Int32) (t_high : Int32) (t_size : Int32) (t_at : Int32) (t_fault : Int32) (t_newWide : Int32) (t_newHigh : Int32) (t_colours : Int32) (t_now : Nat → Int32) (t_file : Nat → Int32) (t_fresh : Nat → Int32) (t_colour : Nat → Int32) (t_table : Nat → Int32) (t_last : Nat → Int32) (t_one : Nat → Int32) (v0 v1 v2 : Int32) (zt_size : Int32) (zt_file : Nat → Int32) (hf : fX9_packets t_wide t_size t_now t_file v0 v1 v2 = some (zt_size, zt_file)) : Met l yX9_packets wsX9_packets rmX9_packets (va_Pc [.ref h_t, .int v0, .int v1, .int v2] (zP D [(cI, .int)] (zwX9 cI h_t h_t_now h_t_file h_t_fresh h_t_colour h_t_table h_t_last h_t_one t_wide t_high t_size t_at t_fault t_newWide t_newHigh t_colours t_now t_file t_fresh t_colour t_table t_last t_one) sz)) (zQv D (zwX9 cI h_t h_t_now h_t_file h_t_fresh h_t_colour h_t_table h_t_last h_t_one t_wide t_high t_size t_at t_fault t_newWide t_newHigh t_colours t_now t_file t_fresh t_colour t_table t_last t_one) sz (zwX9 cI h_t h_t_now h_t_file h_t_fresh h_t_colour h_t_table h_t_last h_t_one t_wide t_high zt_size t_at t_fault t_newWide t_newHigh t_colours t_now zt_file t_fresh t_colour t_table t_last t_one)) 0 0 (va_A (zwX9 cI h_t h_t_now h_t_file h_t_fresh h_t_colour h_t_table h_t_last h_t_one t_wide t_high t_size t_at t_fault t_newWide t_newHigh t_colours t_now t_file t_fresh t_colour t_table t_last t_one) sz) := by
  refine Met.ofW (cc := cX9_packets) (maxL := 7) (ret := none) (by decide) rfl ?_
  intro p e s m args below meth c s₁ B hml hv
  obtain ⟨rfl, hsz, hP, hK, hD0, hN⟩ := hv
  subst hsz
  have C : CallFix p m c cX9_packets 7 s [.ref h_t, .int v0, .int v1, .int v2].toArray wsX9_packets RX9 := ⟨B.exec, B.bytes, hml, findClass_of_methodNamed B.named, atoms_spec (ws := wsX9_packets) B.pre⟩
  have hl := lv_entry ([.ref h_t, .int v0, .int v1, .int v2]) (n := 7) (Nat.le_of_ble_eq_true rfl)
  rw [lg_entry_eq]
  exact wX9_packets_0 (A := va_A (zwX9 cI h_t h_t_now h_t_file h_t_fresh h_t_colour h_t_table h_t_last h_t_one t_wide t_high t_size t_at t_fault t_newWide t_newHigh t_colours t_now t_file t_fresh t_colour t_table t_last t_one) s.heap.size) C hN hK (fun q h => Or.inr h) (fun H locs pc ls d hP hD hS => zend_v C.1 C.2.1 B.returns B.notSynchronized d hP hD hS) hf hP hD0.self va_S.rf hl
def rmX9_writeFourth : Room := { frames := 4, cells := 0, slots := 0, locals := 91 }
theorem kX9_writeFourth_7 {args : Array Value} {s : State} (h : ∀ w ∈ wsX9_writeFourth, w.before args s = true) : (Cond.fieldLink RX9 7 "FourPictureFilesModel" "wide" "I").before args s = true := h _ (by decide +kernel)
theorem kX9_writeFourth_13 {args : Array Value} {s : State} (h : ∀ w ∈ wsX9_writeFourth, w.before args s = true) : (Cond.fieldLink RX9 13 "FourPictureFilesModel" "high" "I").before args s = true := h _ (by decide +kernel)
theorem iX9_writeFourth_X9 : ∀ w ∈ u_ws RX9 TX9 15, w ∈ wsX9_writeFourth := by decide +kernel
theorem qX9_writeFourth_X9_add_63 {args : Array Value} {s : State} (hts : ∀ w ∈ wsX9_writeFourth, w.before args s = true) : CallW rmX9_writeFourth s args RX9 RX9 63 yX9_add cX9_add 2 none wsX9_add rmX9_add 0 0 1 := cwV 1 hts gX9_writeFourth_X9_add rfl rfl rfl (by decide +kernel) ⟨Nat.le_of_ble_eq_true rfl, Nat.le_of_ble_eq_true rfl⟩
theorem qX9_writeFourth_X9_addTwo_71 {args : Array Value} {s : State} (hts : ∀ w ∈ wsX9_writeFourth, w.before args s = true) : CallW rmX9_writeFourth s args RX9 RX9 71 yX9_addTwo cX9_addTwo 3 none wsX9_addTwo rmX9_addTwo 0 0 2 := cwV 2 hts gX9_writeFourth_X9_addTwo rfl rfl rfl (by decide +kernel) ⟨Nat.le_of_ble_eq_true rfl, Nat.le_of_ble_eq_true rfl⟩
theorem qX9_writeFourth_X9_grey_88 {args : Array Value} {s : State} (hts : ∀ w ∈ wsX9_writeFourth, w.before args s = true) : CallW rmX9_writeFourth s args RX9 RX9 88 yX9_grey cX9_grey 3 (some .boolean) wsX9_grey rmX9_grey 0 0 0 := cwV 0 hts gX9_writeFourth_X9_grey rfl rfl rfl (by decide +kernel) ⟨Nat.le_of_ble_eq_true rfl, Nat.le_of_ble_eq_true rfl⟩
theorem qX9_writeFourth_X9_little_100 {args : Array Value} {s : State} (hts : ∀ w ∈ wsX9_writeFourth, w.before args s = true) : CallW rmX9_writeFourth s args RX9 RX9 100 yX9_little cX9_little 4 none wsX9_little rmX9_little 0 0 2 := cwV 2 hts gX9_writeFourth_X9_little rfl rfl rfl (by decide +kernel) ⟨Nat.le_of_ble_eq_true rfl, Nat.le_of_ble_eq_true rfl⟩
theorem qX9_writeFourth_X9_opaque_53 {args : Array Value} {s : State} (hts : ∀ w ∈ wsX9_writeFourth, w.before args s = true) : CallW rmX9_writeFourth s args RX9 RX9 53 yX9_opaque cX9_opaque 3 (some .boolean) wsX9_opaque rmX9_opaque 0 0 0 := cwV 0 hts gX9_writeFourth_X9_opaque rfl rfl rfl (by decide +kernel) ⟨Nat.le_of_ble_eq_true rfl, Nat.le_of_ble_eq_true rfl⟩
theorem qX9_writeFourth_X9_packets_112 {args : Array Value} {s : State} (hts : ∀ w ∈ wsX9_writeFourth, w.before args s = true) : CallW rmX9_writeFourth s args RX9 RX9 112 yX9_packets cX9_packets 7 none wsX9_packets rmX9_packets 0 0 3 := cwV 3 hts gX9_writeFourth_X9_packets rfl rfl rfl (by decide +kernel) ⟨Nat.le_of_ble_eq_true rfl, Nat.le_of_ble_eq_true rfl⟩
theorem qX9_writeFourth_X9_tones_109 {args : Array Value} {s : State} (hts : ∀ w ∈ wsX9_writeFourth, w.before args s = true) : CallW rmX9_writeFourth s args RX9 RX9 109 yX9_tones cX9_tones 3 none wsX9_tones rmX9_tones 0 0 2 := cwV 2 hts gX9_writeFourth_X9_tones rfl rfl rfl (by decide +kernel) ⟨Nat.le_of_ble_eq_true rfl, Nat.le_of_ble_eq_true rfl⟩
set_option maxHeartbeats 4000000 in
set_option maxRecDepth 100000 in
theorem wX9_writeFourth_133 {p : Program} {l : Launch} {e : Env} {s : State} {m : MethodId} {args : Array Value} {below : List Frame} {meth : Method} {c : Code} {D : va_G} {A : Nat → Prop} {Q : State → Prop} {cI : ClassId} {h_t h_t_now h_t_file h_t_fresh h_t_colour h_t_table h_t_last h_t_one : Nat} {t_wide : Int32} {t_high : Int32} {t_at : Int32} {t_fault : Int32} {t_newWide : Int32} {t_newHigh : Int32} {t_colours : Int32} {t_now : Nat → Int32} {t_fresh : Nat → Int32} {t_colour : Nat → Int32} {t_table : Nat → Int32} {t_last : Nat → Int32} {t_one : Nat → Int32} {zt_size : Int32} {zt_file : Nat → Int32} (C : CallFix p m c cX9_writeFourth 4 s args wsX9_writeFourth RX9) (hN : zN s) (hK : va_K D vwCl [(cI, .int)] s) (hA : ∀ q, s.heap.size ≤ q → A q) (hE : zEv p l e rmX9_writeFourth s m args below meth c cX9_writeFourth D A Q (zwX9 cI h_t h_t_now h_t_file h_t_fresh h_t_colour h_t_table h_t_last h_t_one t_wide t_high zt_size t_at t_fault t_newWide t_newHigh t_colours t_now zt_file t_fresh t_colour t_table t_last t_one)) (n : Nat) : ∀ {t_size : Int32} {t_file : Nat → Int32} {l1 : Int32} {l2 : Int32} {l3 : Int32} {H : Heap} {locs : List Loc} {ls : Array Slot}, fX9_writeFourth_133 n t_wide t_high t_size t_now t_file l1 l2 l3 = some (zt_size, zt_file) → va_P D vwCl (zwX9 cI h_t h_t_now h_t_file h_t_fresh h_t_colour h_t_table h_t_last h_t_one t_wide t_high t_size t_at t_fault t_newWide t_newHigh t_colours t_now t_file t_fresh t_colour t_table t_last t_one) H → va_D A (zwX9 cI h_t h_t_now h_t_file h_t_fresh h_t_colour h_t_table h_t_last h_t_one t_wide t_high t_size t_at t_fault t_newWide t_newHigh t_colours t_now t_file t_fresh t_colour t_table t_last t_one) → va_S A s.heap H locs → lv_has ls 4 [(0, .ref h_t), (1, .int l1), (2, .int l2), (3, .int l3)] → W p l e rmX9_writeFourth s m args below meth c H locs 0 0 Q (F0 m 133 ls []) := by
  obtain ⟨hx, hb, hml, hown, hts⟩ := id C
  induction n with
  | zero =>
    intro t_size t_file l1 l2 l3 H locs ls hf
    cases hf
  | succ n hr_133 =>
    intro t_size t_file l1 l2 l3 H locs ls hf hP hD hS hl
    rw [fX9_writeFourth_133_s] at hf
    refine lv_iload_n hx hb dX9_writeFourth_133 rfl (lv_at hl 3 rfl) ?_
    refine lv_aload_n hx hb dX9_writeFourth_134 rfl (lv_at hl 0 rfl) ?_
    refine va_get (D := D) (ci := 8) (v := .int t_high) (C := RX9) (T := TX9) (N := 15) hx hb hts iX9_writeFourth_X9 hown hK hP 0 rfl rfl 1 (by decide) (kX9_writeFourth_13 hts) (fun _ h9 => h9) rfl dX9_writeFourth_135 ?_
    refine lv_icmp_ge (tgt := 173) hx hb dX9_writeFourth_138 (by decide) (fun c1 => ?_) (fun c1 => ?_)
    · replace hf := zif_t hf c1
      cases hf
      exact hE _ _ _ _ dX9_writeFourth_173 hP hD hS
    · replace hf := zif_f hf c1
      refine lv_iload_n hx hb dX9_writeFourth_141 rfl (lv_at hl 1 rfl) ?_
      refine lv_if_eq (tgt := 173) hx hb dX9_writeFourth_142 (by decide) (fun c2 => ?_) (fun c2 => ?_)
      · replace hf := zif_t hf c2
        cases hf
        exact hE _ _ _ _ dX9_writeFourth_173 hP hD hS
      · replace hf := zif_f hf c2
        refine lv_aload_n hx hb dX9_writeFourth_145 rfl (lv_at hl 0 rfl) ?_
        refine lv_aload_n hx hb dX9_writeFourth_146 rfl (lv_at hl 0 rfl) ?_
        refine va_get (D := D) (ci := 8) (v := .int t_wide) (C := RX9) (T := TX9) (N := 15) hx hb hts iX9_writeFourth_X9 hown hK hP 0 rfl rfl 0 (by decide) (kX9_writeFourth_7 hts) (fun _ h9 => h9) rfl dX9_writeFourth_147 ?_
        refine lv_iload_n hx hb dX9_writeFourth_150 rfl (lv_at hl 3 rfl) ?_
        refine lv_imul hx hb dX9_writeFourth_151 ?_
        refine lv_aload_n hx hb dX9_writeFourth_152 rfl (lv_at hl 0 rfl) ?_
        refine va_get (D := D) (ci := 8) (v := .int t_wide) (C := RX9) (T := TX9) (N := 15) hx hb hts iX9_writeFourth_X9 hown hK hP 0 rfl rfl 0 (by decide) (kX9_writeFourth_7 hts) (fun _ h9 => h9) rfl dX9_writeFourth_153 ?_
        refine lv_iload_n hx hb dX9_writeFourth_156 rfl (lv_at hl 3 rfl) ?_
        refine lv_imul hx hb dX9_writeFourth_157 ?_
        refine lv_aload_n hx hb dX9_writeFourth_158 rfl (lv_at hl 0 rfl) ?_
        refine va_get (D := D) (ci := 8) (v := .int t_wide) (C := RX9) (T := TX9) (N := 15) hx hb hts iX9_writeFourth_X9 hown hK hP 0 rfl rfl 0 (by decide) (kX9_writeFourth_7 hts) (fun _ h9 => h9) rfl dX9_writeFourth_159 ?_
        refine lv_iadd hx hb dX9_writeFourth_162 ?_
        refine lv_iload_n hx hb dX9_writeFourth_163 rfl (lv_at hl 2 rfl) ?_
        obtain ⟨u3, u4, hc5, hf⟩ := zb2_in hf
        refine zc_v (va_runV (As := [.int (t_wide * l3), .int ((t_wide * l3) + t_wide), .int l2]) (rest := []) C (mX9_packets l D cI H.size h_t h_t_now h_t_file h_t_fresh h_t_colour h_t_table h_t_last h_t_one t_wide t_high t_size t_at t_fault t_newWide t_newHigh t_colours t_now t_file t_fresh t_colour t_table t_last t_one (t_wide * l3) ((t_wide * l3) + t_wide) l2 u3 u4 hc5) (qX9_writeFourth_X9_packets_112 hts) ⟨zP_blind, va_recv hK hP (ci := 8) (q0 := 0) rfl rfl, zpre hK hN hP hD [0, 1, 2, 3, 4, 5, 6, 7] rfl rfl⟩ rfl rfl hl.1 rfl (lv_room (Nat.le_of_ble_eq_true rfl)) dX9_writeFourth_164 ⟨Nat.zero_le _, Nat.zero_le _⟩) hP hD hS hA [0, 1, 2, 3, 4, 5, 6, 7] [] [0, 1, 2, 3, 4, 5, 6, 7] (ws' := zwX9 cI h_t h_t_now h_t_file h_t_fresh h_t_colour h_t_table h_t_last h_t_one t_wide t_high u3 t_at t_fault t_newWide t_newHigh t_colours t_now u4 t_fresh t_colour t_table t_last t_one) rfl rfl rfl rfl rfl rfl (fun H locs hP hD hS => ?_)
        obtain ⟨x6, ex6⟩ : ∃ y : Int32, y = l3 + 1 := ⟨_, rfl⟩
        replace hf := zlet_in hf ex6
        refine lv_iinc (v := x6) (lv' := [(3, .int x6), (0, .ref h_t), (1, .int l1), (2, .int l2)]) hx hb dX9_writeFourth_167 hl (k := 3) rfl (by rw [ex6]; rfl) (by decide) rfl (fun ls hl => ?_)
        clear ex6
        refine lv_goto (tgt := 133) hx hb dX9_writeFourth_170 (by decide) ?_
        exact hr_133 hf hP hD hS (lv_sub hl [1, 2, 3, 0] rfl)
set_option maxHeartbeats 4000000 in
set_option maxRecDepth 100000 in
theorem wX9_writeFourth_125 {p : Program} {l : Launch} {e : Env} {s : State} {m : MethodId} {args : Array Value} {below : List Frame} {meth : Method} {c : Code} {D : va_G} {A : Nat → Prop} {Q : State → Prop} {cI : ClassId} {h_t h_t_now h_t_file h_t_fresh h_t_colour h_t_table h_t_last h_t_one : Nat} {t_wide : Int32} {t_high : Int32} {t_at : Int32} {t_fault : Int32} {t_newWide : Int32} {t_newHigh : Int32} {t_colours : Int32} {t_now : Nat → Int32} {t_fresh : Nat → Int32} {t_colour : Nat → Int32} {t_table : Nat → Int32} {t_last : Nat → Int32} {t_one : Nat → Int32} {zt_size : Int32} {zt_file : Nat → Int32} (C : CallFix p m c cX9_writeFourth 4 s args wsX9_writeFourth RX9) (hN : zN s) (hK : va_K D vwCl [(cI, .int)] s) (hA : ∀ q, s.heap.size ≤ q → A q) (hE : zEv p l e rmX9_writeFourth s m args below meth c cX9_writeFourth D A Q (zwX9 cI h_t h_t_now h_t_file h_t_fresh h_t_colour h_t_table h_t_last h_t_one t_wide t_high zt_size t_at t_fault t_newWide t_newHigh t_colours t_now zt_file t_fresh t_colour t_table t_last t_one)) {rc102 : Int32 → Int32 → Int32 → (Nat → Int32) → (Nat → Int32) → Int32 → Int32 → Int32 → Option (Int32 × (Nat → Int32))} (hr_102 : ∀ {t_size : Int32} {t_file : Nat → Int32} {l1 : Int32} {l2 : Int32} {l3 : Int32} {H : Heap} {locs : List Loc} {ls : Array Slot}, rc102 t_wide t_high t_size t_now t_file l1 l2 l3 = some (zt_size, zt_file) → va_P D vwCl (zwX9 cI h_t h_t_now h_t_file h_t_fresh h_t_colour h_t_table h_t_last h_t_one t_wide t_high t_size t_at t_fault t_newWide t_newHigh t_colours t_now t_file t_fresh t_colour t_table t_last t_one) H → va_D A (zwX9 cI h_t h_t_now h_t_file h_t_fresh h_t_colour h_t_table h_t_last h_t_one t_wide t_high t_size t_at t_fault t_newWide t_newHigh t_colours t_now t_file t_fresh t_colour t_table t_last t_one) → va_S A s.heap H locs → lv_has ls 4 [(0, .ref h_t), (1, .int l1), (2, .int l2), (3, .int l3)] → W p l e rmX9_writeFourth s m args below meth c H locs 0 0 Q (F0 m 102 ls [])) {t_size : Int32} {t_file : Nat → Int32} {l1 : Int32} {l2 : Int32} {l3 : Int32} {H : Heap} {locs : List Loc} {ls : Array Slot} : fX9_writeFourth_125 rc102 t_wide t_high t_size t_now t_file l1 l2 l3 = some (zt_size, zt_file) → va_P D vwCl (zwX9 cI h_t h_t_now h_t_file h_t_fresh h_t_colour h_t_table h_t_last h_t_one t_wide t_high t_size t_at t_fault t_newWide t_newHigh t_colours t_now t_file t_fresh t_colour t_table t_last t_one) H → va_D A (zwX9 cI h_t h_t_now h_t_file h_t_fresh h_t_colour h_t_table h_t_last h_t_one t_wide t_high t_size t_at t_fault t_newWide t_newHigh t_colours t_now t_file t_fresh t_colour t_table t_last t_one) → va_S A s.heap H locs → lv_has ls 4 [(0, .ref h_t), (1, .int l1), (2, .int l2), (3, .int l3)] → W p l e rmX9_writeFourth s m args below meth c H locs 0 0 Q (F0 m 125 ls []) := by
  intro hf hP hD hS hl
  obtain ⟨hx, hb, hml, hown, hts⟩ := id C
  unfold fX9_writeFourth_125 at hf
  obtain ⟨x1, ex1⟩ : ∃ y : Int32, y = l3 + 1 := ⟨_, rfl⟩
  replace hf := zlet_in hf ex1
  refine lv_iinc (v := x1) (lv' := [(3, .int x1), (0, .ref h_t), (1, .int l1), (2, .int l2)]) hx hb dX9_writeFourth_125 hl (k := 3) rfl (by rw [ex1]; rfl) (by decide) rfl (fun ls hl => ?_)
  clear ex1
  refine lv_goto (tgt := 102) hx hb dX9_writeFourth_128 (by decide) ?_
  exact hr_102 hf hP hD hS (lv_sub hl [1, 2, 3, 0] rfl)
set_option maxHeartbeats 4000000 in
set_option maxRecDepth 100000 in
theorem wX9_writeFourth_102 {p : Program} {l : Launch} {e : Env} {s : State} {m : MethodId} {args : Array Value} {below : List Frame} {meth : Method} {c : Code} {D : va_G} {A : Nat → Prop} {Q : State → Prop} {cI : ClassId} {h_t h_t_now h_t_file h_t_fresh h_t_colour h_t_table h_t_last h_t_one : Nat} {t_wide : Int32} {t_high : Int32} {t_at : Int32} {t_fault : Int32} {t_newWide : Int32} {t_newHigh : Int32} {t_colours : Int32} {t_now : Nat → Int32} {t_fresh : Nat → Int32} {t_colour : Nat → Int32} {t_table : Nat → Int32} {t_last : Nat → Int32} {t_one : Nat → Int32} {zt_size : Int32} {zt_file : Nat → Int32} (C : CallFix p m c cX9_writeFourth 4 s args wsX9_writeFourth RX9) (hN : zN s) (hK : va_K D vwCl [(cI, .int)] s) (hA : ∀ q, s.heap.size ≤ q → A q) (hE : zEv p l e rmX9_writeFourth s m args below meth c cX9_writeFourth D A Q (zwX9 cI h_t h_t_now h_t_file h_t_fresh h_t_colour h_t_table h_t_last h_t_one t_wide t_high zt_size t_at t_fault t_newWide t_newHigh t_colours t_now zt_file t_fresh t_colour t_table t_last t_one)) (n : Nat) : ∀ {t_size : Int32} {t_file : Nat → Int32} {l1 : Int32} {l2 : Int32} {l3 : Int32} {H : Heap} {locs : List Loc} {ls : Array Slot}, fX9_writeFourth_102 n t_wide t_high t_size t_now t_file l1 l2 l3 = some (zt_size, zt_file) → va_P D vwCl (zwX9 cI h_t h_t_now h_t_file h_t_fresh h_t_colour h_t_table h_t_last h_t_one t_wide t_high t_size t_at t_fault t_newWide t_newHigh t_colours t_now t_file t_fresh t_colour t_table t_last t_one) H → va_D A (zwX9 cI h_t h_t_now h_t_file h_t_fresh h_t_colour h_t_table h_t_last h_t_one t_wide t_high t_size t_at t_fault t_newWide t_newHigh t_colours t_now t_file t_fresh t_colour t_table t_last t_one) → va_S A s.heap H locs → lv_has ls 4 [(0, .ref h_t), (1, .int l1), (2, .int l2), (3, .int l3)] → W p l e rmX9_writeFourth s m args below meth c H locs 0 0 Q (F0 m 102 ls []) := by
  obtain ⟨hx, hb, hml, hown, hts⟩ := id C
  induction n with
  | zero =>
    intro t_size t_file l1 l2 l3 H locs ls hf
    cases hf
  | succ n hr_102 =>
    intro t_size t_file l1 l2 l3 H locs ls hf hP hD hS hl
    rw [fX9_writeFourth_102_s] at hf
    refine lv_iload_n hx hb dX9_writeFourth_102 rfl (lv_at hl 3 rfl) ?_
    refine lv_aload_n hx hb dX9_writeFourth_103 rfl (lv_at hl 0 rfl) ?_
    refine va_get (D := D) (ci := 8) (v := .int t_wide) (C := RX9) (T := TX9) (N := 15) hx hb hts iX9_writeFourth_X9 hown hK hP 0 rfl rfl 0 (by decide) (kX9_writeFourth_7 hts) (fun _ h9 => h9) rfl dX9_writeFourth_104 ?_
    refine lv_aload_n hx hb dX9_writeFourth_107 rfl (lv_at hl 0 rfl) ?_
    refine va_get (D := D) (ci := 8) (v := .int t_high) (C := RX9) (T := TX9) (N := 15) hx hb hts iX9_writeFourth_X9 hown hK hP 0 rfl rfl 1 (by decide) (kX9_writeFourth_13 hts) (fun _ h9 => h9) rfl dX9_writeFourth_108 ?_
    refine lv_imul hx hb dX9_writeFourth_111 ?_
    refine lv_icmp_ge (tgt := 131) hx hb dX9_writeFourth_112 (by decide) (fun c1 => ?_) (fun c1 => ?_)
    · replace hf := zif_t hf c1
      refine lv_iconst (v := 0) hx hb dX9_writeFourth_131 (by decide) ?_
      refine lv_istore_n (lv' := [(3, .int 0), (0, .ref h_t), (1, .int l1), (2, .int l2)]) hx hb dX9_writeFourth_132 rfl hl (by decide) rfl (fun ls hl => ?_)
      exact wX9_writeFourth_133 C hN hK hA hE 1000 hf hP hD hS (lv_sub hl [1, 2, 3, 0] rfl)
    · replace hf := zif_f hf c1
      refine lv_iload_n hx hb dX9_writeFourth_115 rfl (lv_at hl 1 rfl) ?_
      refine lv_if_ne (tgt := 125) hx hb dX9_writeFourth_116 (by decide) (fun c2 => ?_) (fun c2 => ?_)
      · replace hf := zif_f hf c2
        exact wX9_writeFourth_125 C hN hK hA hE hr_102 hf hP hD hS (lv_sub hl [0, 1, 2, 3] rfl)
      · replace hf := zif_t hf c2
        refine lv_aload_n hx hb dX9_writeFourth_119 rfl (lv_at hl 0 rfl) ?_
        refine lv_iload_n hx hb dX9_writeFourth_120 rfl (lv_at hl 3 rfl) ?_
        refine lv_iload_n hx hb dX9_writeFourth_121 rfl (lv_at hl 2 rfl) ?_
        obtain ⟨u3, u4, hc5, hf⟩ := zb2_in hf
        refine zc_v (va_runV (As := [.int l3, .int l2]) (rest := []) C (mX9_tones l D cI H.size h_t h_t_now h_t_file h_t_fresh h_t_colour h_t_table h_t_last h_t_one t_wide t_high t_size t_at t_fault t_newWide t_newHigh t_colours t_now t_file t_fresh t_colour t_table t_last t_one l3 l2 u3 u4 hc5) (qX9_writeFourth_X9_tones_109 hts) ⟨zP_blind, va_recv hK hP (ci := 8) (q0 := 0) rfl rfl, zpre hK hN hP hD [0, 1, 2, 3, 4, 5, 6, 7] rfl rfl⟩ rfl rfl hl.1 rfl (lv_room (Nat.le_of_ble_eq_true rfl)) dX9_writeFourth_122 ⟨Nat.zero_le _, Nat.zero_le _⟩) hP hD hS hA [0, 1, 2, 3, 4, 5, 6, 7] [] [0, 1, 2, 3, 4, 5, 6, 7] (ws' := zwX9 cI h_t h_t_now h_t_file h_t_fresh h_t_colour h_t_table h_t_last h_t_one t_wide t_high u3 t_at t_fault t_newWide t_newHigh t_colours t_now u4 t_fresh t_colour t_table t_last t_one) rfl rfl rfl rfl rfl rfl (fun H locs hP hD hS => ?_)
        exact wX9_writeFourth_125 C hN hK hA hE hr_102 hf hP hD hS (lv_sub hl [0, 1, 2, 3] rfl)
set_option maxHeartbeats 4000000 in
set_option maxRecDepth 100000 in
theorem wX9_writeFourth_97 {p : Program} {l : Launch} {e : Env} {s : State} {m : MethodId} {args : Array Value} {below : List Frame} {meth : Method} {c : Code} {D : va_G} {A : Nat → Prop} {Q : State → Prop} {cI : ClassId} {h_t h_t_now h_t_file h_t_fresh h_t_colour h_t_table h_t_last h_t_one : Nat} {t_wide : Int32} {t_high : Int32} {t_at : Int32} {t_fault : Int32} {t_newWide : Int32} {t_newHigh : Int32} {t_colours : Int32} {t_now : Nat → Int32} {t_fresh : Nat → Int32} {t_colour : Nat → Int32} {t_table : Nat → Int32} {t_last : Nat → Int32} {t_one : Nat → Int32} {zt_size : Int32} {zt_file : Nat → Int32} (C : CallFix p m c cX9_writeFourth 4 s args wsX9_writeFourth RX9) (hN : zN s) (hK : va_K D vwCl [(cI, .int)] s) (hA : ∀ q, s.heap.size ≤ q → A q) (hE : zEv p l e rmX9_writeFourth s m args below meth c cX9_writeFourth D A Q (zwX9 cI h_t h_t_now h_t_file h_t_fresh h_t_colour h_t_table h_t_last h_t_one t_wide t_high zt_size t_at t_fault t_newWide t_newHigh t_colours t_now zt_file t_fresh t_colour t_table t_last t_one)) {t_size : Int32} {t_file : Nat → Int32} {l1 : Int32} {l2 : Int32} {k1 : Int32} {k2 : Int32} {H : Heap} {locs : List Loc} {ls : Array Slot} : fX9_writeFourth_97 t_wide t_high t_size t_now t_file l1 l2 k1 k2 = some (zt_size, zt_file) → va_P D vwCl (zwX9 cI h_t h_t_now h_t_file h_t_fresh h_t_colour h_t_table h_t_last h_t_one t_wide t_high t_size t_at t_fault t_newWide t_newHigh t_colours t_now t_file t_fresh t_colour t_table t_last t_one) H → va_D A (zwX9 cI h_t h_t_now h_t_file h_t_fresh h_t_colour h_t_table h_t_last h_t_one t_wide t_high t_size t_at t_fault t_newWide t_newHigh t_colours t_now t_file t_fresh t_colour t_table t_last t_one) → va_S A s.heap H locs → lv_has ls 4 [(0, .ref h_t), (1, .int l1), (2, .int l2)] → W p l e rmX9_writeFourth s m args below meth c H locs 0 0 Q (F0 m 97 ls [.int k2, .int k1, .ref h_t]) := by
  intro hf hP hD hS hl
  obtain ⟨hx, hb, hml, hown, hts⟩ := id C
  unfold fX9_writeFourth_97 at hf
  obtain ⟨u1, u2, hc3, hf⟩ := zb2_in hf
  refine zc_v (va_runV (As := [.int k1, .int k2]) (rest := []) C (mX9_addTwo l D cI H.size h_t h_t_now h_t_file h_t_fresh h_t_colour h_t_table h_t_last h_t_one t_wide t_high t_size t_at t_fault t_newWide t_newHigh t_colours t_now t_file t_fresh t_colour t_table t_last t_one k1 k2 u1 u2 hc3) (qX9_writeFourth_X9_addTwo_71 hts) ⟨zP_blind, va_recv hK hP (ci := 8) (q0 := 0) rfl rfl, zpre hK hN hP hD [0, 1, 2, 3, 4, 5, 6, 7] rfl rfl⟩ rfl rfl hl.1 rfl (lv_room (Nat.le_of_ble_eq_true rfl)) dX9_writeFourth_97 ⟨Nat.zero_le _, Nat.zero_le _⟩) hP hD hS hA [0, 1, 2, 3, 4, 5, 6, 7] [] [0, 1, 2, 3, 4, 5, 6, 7] (ws' := zwX9 cI h_t h_t_now h_t_file h_t_fresh h_t_colour h_t_table h_t_last h_t_one t_wide t_high u1 t_at t_fault t_newWide t_newHigh t_colours t_now u2 t_fresh t_colour t_table t_last t_one) rfl rfl rfl rfl rfl rfl (fun H locs hP hD hS => ?_)
  refine lv_iconst (v := 0) hx hb dX9_writeFourth_100 (by decide) ?_
  refine lv_istore_n (lv' := [(3, .int 0), (0, .ref h_t), (1, .int l1), (2, .int l2)]) hx hb dX9_writeFourth_101 rfl hl (by decide) rfl (fun ls hl => ?_)
  exact wX9_writeFourth_102 C hN hK hA hE 1000 hf hP hD hS (lv_sub hl [1, 2, 3, 0] rfl)
set_option maxHeartbeats 4000000 in
set_option maxRecDepth 100000 in
theorem wX9_writeFourth_51 {p : Program} {l : Launch} {e : Env} {s : State} {m : MethodId} {args : Array Value} {below : List Frame} {meth : Method} {c : Code} {D : va_G} {A : Nat → Prop} {Q : State → Prop} {cI : ClassId} {h_t h_t_now h_t_file h_t_fresh h_t_colour h_t_table h_t_last h_t_one : Nat} {t_wide : Int32} {t_high : Int32} {t_at : Int32} {t_fault : Int32} {t_newWide : Int32} {t_newHigh : Int32} {t_colours : Int32} {t_now : Nat → Int32} {t_fresh : Nat → Int32} {t_colour : Nat → Int32} {t_table : Nat → Int32} {t_last : Nat → Int32} {t_one : Nat → Int32} {zt_size : Int32} {zt_file : Nat → Int32} (C : CallFix p m c cX9_writeFourth 4 s args wsX9_writeFourth RX9) (hN : zN s) (hK : va_K D vwCl [(cI, .int)] s) (hA : ∀ q, s.heap.size ≤ q → A q) (hE : zEv p l e rmX9_writeFourth s m args below meth c cX9_writeFourth D A Q (zwX9 cI h_t h_t_now h_t_file h_t_fresh h_t_colour h_t_table h_t_last h_t_one t_wide t_high zt_size t_at t_fault t_newWide t_newHigh t_colours t_now zt_file t_fresh t_colour t_table t_last t_one)) {t_size : Int32} {t_file : Nat → Int32} {l1 : Int32} {l2 : Int32} {k1 : Int32} {k2 : Int32} {H : Heap} {locs : List Loc} {ls : Array Slot} : fX9_writeFourth_51 t_wide t_high t_size t_now t_file l1 l2 k1 k2 = some (zt_size, zt_file) → va_P D vwCl (zwX9 cI h_t h_t_now h_t_file h_t_fresh h_t_colour h_t_table h_t_last h_t_one t_wide t_high t_size t_at t_fault t_newWide t_newHigh t_colours t_now t_file t_fresh t_colour t_table t_last t_one) H → va_D A (zwX9 cI h_t h_t_now h_t_file h_t_fresh h_t_colour h_t_table h_t_last h_t_one t_wide t_high t_size t_at t_fault t_newWide t_newHigh t_colours t_now t_file t_fresh t_colour t_table t_last t_one) → va_S A s.heap H locs → lv_has ls 4 [(0, .ref h_t), (1, .int l1), (2, .int l2)] → W p l e rmX9_writeFourth s m args below meth c H locs 0 0 Q (F0 m 51 ls [.int k2, .int k1, .ref h_t]) := by
  intro hf hP hD hS hl
  obtain ⟨hx, hb, hml, hown, hts⟩ := id C
  unfold fX9_writeFourth_51 at hf
  refine lv_iadd hx hb dX9_writeFourth_51 ?_
  obtain ⟨u1, u2, hc3, hf⟩ := zb2_in hf
  refine zc_v (va_runV (As := [.int (k1 + k2)]) (rest := []) C (mX9_add l D cI H.size h_t h_t_now h_t_file h_t_fresh h_t_colour h_t_table h_t_last h_t_one t_wide t_high t_size t_at t_fault t_newWide t_newHigh t_colours t_now t_file t_fresh t_colour t_table t_last t_one (k1 + k2) u1 u2 hc3) (qX9_writeFourth_X9_add_63 hts) ⟨zP_blind, va_recv hK hP (ci := 8) (q0 := 0) rfl rfl, zpre hK hN hP hD [0, 1, 2, 3, 4, 5, 6, 7] rfl rfl⟩ rfl rfl hl.1 rfl (lv_room (Nat.le_of_ble_eq_true rfl)) dX9_writeFourth_52 ⟨Nat.zero_le _, Nat.zero_le _⟩) hP hD hS hA [0, 1, 2, 3, 4, 5, 6, 7] [] [0, 1, 2, 3, 4, 5, 6, 7] (ws' := zwX9 cI h_t h_t_now h_t_file h_t_fresh h_t_colour h_t_table h_t_last h_t_one t_wide t_high u1 t_at t_fault t_newWide t_newHigh t_colours t_now u2 t_fresh t_colour t_table t_last t_one) rfl rfl rfl rfl rfl rfl (fun H locs hP hD hS => ?_)
  refine lv_aload_n hx hb dX9_writeFourth_55 rfl (lv_at hl 0 rfl) ?_
  refine lv_iconst (v := 0) hx hb dX9_writeFourth_56 (by decide) ?_
  refine lv_bipush (v := 9) hx hb dX9_writeFourth_57 (by decide) ?_
  obtain ⟨u4, u5, hc6, hf⟩ := zb2_in hf
  refine zc_v (va_runV (As := [.int 0, .int 9]) (rest := []) C (mX9_little l D cI H.size h_t h_t_now h_t_file h_t_fresh h_t_colour h_t_table h_t_last h_t_one t_wide t_high u1 t_at t_fault t_newWide t_newHigh t_colours t_now u2 t_fresh t_colour t_table t_last t_one 0 9 u4 u5 hc6) (qX9_writeFourth_X9_little_100 hts) ⟨zP_blind, va_recv hK hP (ci := 8) (q0 := 0) rfl rfl, zpre hK hN hP hD [0, 1, 2, 3, 4, 5, 6, 7] rfl rfl⟩ rfl rfl hl.1 rfl (lv_room (Nat.le_of_ble_eq_true rfl)) dX9_writeFourth_59 ⟨Nat.zero_le _, Nat.zero_le _⟩) hP hD hS hA [0, 1, 2, 3, 4, 5, 6, 7] [] [0, 1, 2, 3, 4, 5, 6, 7] (ws' := zwX9 cI h_t h_t_now h_t_file h_t_fresh h_t_colour h_t_table h_t_last h_t_one t_wide t_high u4 t_at t_fault t_newWide t_newHigh t_colours t_now u5 t_fresh t_colour t_table t_last t_one) rfl rfl rfl rfl rfl rfl (fun H locs hP hD hS => ?_)
  refine lv_aload_n hx hb dX9_writeFourth_62 rfl (lv_at hl 0 rfl) ?_
  refine lv_aload_n hx hb dX9_writeFourth_63 rfl (lv_at hl 0 rfl) ?_
  refine va_get (D := D) (ci := 8) (v := .int t_wide) (C := RX9) (T := TX9) (N := 15) hx hb hts iX9_writeFourth_X9 hown hK hP 0 rfl rfl 0 (by decide) (kX9_writeFourth_7 hts) (fun _ h9 => h9) rfl dX9_writeFourth_64 ?_
  refine lv_iconst (v := 2) hx hb dX9_writeFourth_67 (by decide) ?_
  obtain ⟨u7, u8, hc9, hf⟩ := zb2_in hf
  refine zc_v (va_runV (As := [.int t_wide, .int 2]) (rest := []) C (mX9_little l D cI H.size h_t h_t_now h_t_file h_t_fresh h_t_colour h_t_table h_t_last h_t_one t_wide t_high u4 t_at t_fault t_newWide t_newHigh t_colours t_now u5 t_fresh t_colour t_table t_last t_one t_wide 2 u7 u8 hc9) (qX9_writeFourth_X9_little_100 hts) ⟨zP_blind, va_recv hK hP (ci := 8) (q0 := 0) rfl rfl, zpre hK hN hP hD [0, 1, 2, 3, 4, 5, 6, 7] rfl rfl⟩ rfl rfl hl.1 rfl (lv_room (Nat.le_of_ble_eq_true rfl)) dX9_writeFourth_68 ⟨Nat.zero_le _, Nat.zero_le _⟩) hP hD hS hA [0, 1, 2, 3, 4, 5, 6, 7] [] [0, 1, 2, 3, 4, 5, 6, 7] (ws' := zwX9 cI h_t h_t_now h_t_file h_t_fresh h_t_colour h_t_table h_t_last h_t_one t_wide t_high u7 t_at t_fault t_newWide t_newHigh t_colours t_now u8 t_fresh t_colour t_table t_last t_one) rfl rfl rfl rfl rfl rfl (fun H locs hP hD hS => ?_)
  refine lv_aload_n hx hb dX9_writeFourth_71 rfl (lv_at hl 0 rfl) ?_
  refine lv_aload_n hx hb dX9_writeFourth_72 rfl (lv_at hl 0 rfl) ?_
  refine va_get (D := D) (ci := 8) (v := .int t_high) (C := RX9) (T := TX9) (N := 15) hx hb hts iX9_writeFourth_X9 hown hK hP 0 rfl rfl 1 (by decide) (kX9_writeFourth_13 hts) (fun _ h9 => h9) rfl dX9_writeFourth_73 ?_
  refine lv_iconst (v := 2) hx hb dX9_writeFourth_76 (by decide) ?_
  obtain ⟨u10, u11, hc12, hf⟩ := zb2_in hf
  refine zc_v (va_runV (As := [.int t_high, .int 2]) (rest := []) C (mX9_little l D cI H.size h_t h_t_now h_t_file h_t_fresh h_t_colour h_t_table h_t_last h_t_one t_wide t_high u7 t_at t_fault t_newWide t_newHigh t_colours t_now u8 t_fresh t_colour t_table t_last t_one t_high 2 u10 u11 hc12) (qX9_writeFourth_X9_little_100 hts) ⟨zP_blind, va_recv hK hP (ci := 8) (q0 := 0) rfl rfl, zpre hK hN hP hD [0, 1, 2, 3, 4, 5, 6, 7] rfl rfl⟩ rfl rfl hl.1 rfl (lv_room (Nat.le_of_ble_eq_true rfl)) dX9_writeFourth_77 ⟨Nat.zero_le _, Nat.zero_le _⟩) hP hD hS hA [0, 1, 2, 3, 4, 5, 6, 7] [] [0, 1, 2, 3, 4, 5, 6, 7] (ws' := zwX9 cI h_t h_t_now h_t_file h_t_fresh h_t_colour h_t_table h_t_last h_t_one t_wide t_high u10 t_at t_fault t_newWide t_newHigh t_colours t_now u11 t_fresh t_colour t_table t_last t_one) rfl rfl rfl rfl rfl rfl (fun H locs hP hD hS => ?_)
  refine lv_aload_n hx hb dX9_writeFourth_80 rfl (lv_at hl 0 rfl) ?_
  refine lv_bipush (v := 8) hx hb dX9_writeFourth_81 (by decide) ?_
  refine lv_iload_n hx hb dX9_writeFourth_83 rfl (lv_at hl 2 rfl) ?_
  refine lv_imul hx hb dX9_writeFourth_84 ?_
  refine lv_iload_n hx hb dX9_writeFourth_85 rfl (lv_at hl 2 rfl) ?_
  refine lv_iconst (v := 4) hx hb dX9_writeFourth_86 (by decide) ?_
  refine lv_icmp_ne (tgt := 95) hx hb dX9_writeFourth_87 (by decide) (fun c13 => ?_) (fun c13 => ?_)
  · replace hf := zif_f hf c13
    refine lv_bipush (v := 32) hx hb dX9_writeFourth_95 (by decide) ?_
    exact wX9_writeFourth_97 C hN hK hA hE hf hP hD hS (lv_sub hl [0, 1, 2] rfl)
  · replace hf := zif_t hf c13
    refine lv_bipush (v := 40) hx hb dX9_writeFourth_90 (by decide) ?_
    refine lv_goto (tgt := 97) hx hb dX9_writeFourth_92 (by decide) ?_
    exact wX9_writeFourth_97 C hN hK hA hE hf hP hD hS (lv_sub hl [0, 1, 2] rfl)
set_option maxHeartbeats 4000000 in
set_option maxRecDepth 100000 in
theorem wX9_writeFourth_41 {p : Program} {l : Launch} {e : Env} {s : State} {m : MethodId} {args : Array Value} {below : List Frame} {meth : Method} {c : Code} {D : va_G} {A : Nat → Prop} {Q : State → Prop} {cI : ClassId} {h_t h_t_now h_t_file h_t_fresh h_t_colour h_t_table h_t_last h_t_one : Nat} {t_wide : Int32} {t_high : Int32} {t_at : Int32} {t_fault : Int32} {t_newWide : Int32} {t_newHigh : Int32} {t_colours : Int32} {t_now : Nat → Int32} {t_fresh : Nat → Int32} {t_colour : Nat → Int32} {t_table : Nat → Int32} {t_last : Nat → Int32} {t_one : Nat → Int32} {zt_size : Int32} {zt_file : Nat → Int32} (C : CallFix p m c cX9_writeFourth 4 s args wsX9_writeFourth RX9) (hN : zN s) (hK : va_K D vwCl [(cI, .int)] s) (hA : ∀ q, s.heap.size ≤ q → A q) (hE : zEv p l e rmX9_writeFourth s m args below meth c cX9_writeFourth D A Q (zwX9 cI h_t h_t_now h_t_file h_t_fresh h_t_colour h_t_table h_t_last h_t_one t_wide t_high zt_size t_at t_fault t_newWide t_newHigh t_colours t_now zt_file t_fresh t_colour t_table t_last t_one)) {t_size : Int32} {t_file : Nat → Int32} {l1 : Int32} {l2 : Int32} {k1 : Int32} {H : Heap} {locs : List Loc} {ls : Array Slot} : fX9_writeFourth_41 t_wide t_high t_size t_now t_file l1 l2 k1 = some (zt_size, zt_file) → va_P D vwCl (zwX9 cI h_t h_t_now h_t_file h_t_fresh h_t_colour h_t_table h_t_last h_t_one t_wide t_high t_size t_at t_fault t_newWide t_newHigh t_colours t_now t_file t_fresh t_colour t_table t_last t_one) H → va_D A (zwX9 cI h_t h_t_now h_t_file h_t_fresh h_t_colour h_t_table h_t_last h_t_one t_wide t_high t_size t_at t_fault t_newWide t_newHigh t_colours t_now t_file t_fresh t_colour t_table t_last t_one) → va_S A s.heap H locs → lv_has ls 4 [(0, .ref h_t), (1, .int l1), (2, .int l2)] → W p l e rmX9_writeFourth s m args below meth c H locs 0 0 Q (F0 m 41 ls [.int k1, .ref h_t]) := by
  intro hf hP hD hS hl
  obtain ⟨hx, hb, hml, hown, hts⟩ := id C
  unfold fX9_writeFourth_41 at hf
  refine lv_iload_n hx hb dX9_writeFourth_41 rfl (lv_at hl 1 rfl) ?_
  refine lv_if_eq (tgt := 50) hx hb dX9_writeFourth_42 (by decide) (fun c1 => ?_) (fun c1 => ?_)
  · replace hf := zif_t hf c1
    refine lv_iconst (v := 0) hx hb dX9_writeFourth_50 (by decide) ?_
    exact wX9_writeFourth_51 C hN hK hA hE hf hP hD hS (lv_sub hl [0, 1, 2] rfl)
  · replace hf := zif_f hf c1
    refine lv_bipush (v := 8) hx hb dX9_writeFourth_45 (by decide) ?_
    refine lv_goto (tgt := 51) hx hb dX9_writeFourth_47 (by decide) ?_
    exact wX9_writeFourth_51 C hN hK hA hE hf hP hD hS (lv_sub hl [0, 1, 2] rfl)
set_option maxHeartbeats 4000000 in
set_option maxRecDepth 100000 in
theorem wX9_writeFourth_23 {p : Program} {l : Launch} {e : Env} {s : State} {m : MethodId} {args : Array Value} {below : List Frame} {meth : Method} {c : Code} {D : va_G} {A : Nat → Prop} {Q : State → Prop} {cI : ClassId} {h_t h_t_now h_t_file h_t_fresh h_t_colour h_t_table h_t_last h_t_one : Nat} {t_wide : Int32} {t_high : Int32} {t_at : Int32} {t_fault : Int32} {t_newWide : Int32} {t_newHigh : Int32} {t_colours : Int32} {t_now : Nat → Int32} {t_fresh : Nat → Int32} {t_colour : Nat → Int32} {t_table : Nat → Int32} {t_last : Nat → Int32} {t_one : Nat → Int32} {zt_size : Int32} {zt_file : Nat → Int32} (C : CallFix p m c cX9_writeFourth 4 s args wsX9_writeFourth RX9) (hN : zN s) (hK : va_K D vwCl [(cI, .int)] s) (hA : ∀ q, s.heap.size ≤ q → A q) (hE : zEv p l e rmX9_writeFourth s m args below meth c cX9_writeFourth D A Q (zwX9 cI h_t h_t_now h_t_file h_t_fresh h_t_colour h_t_table h_t_last h_t_one t_wide t_high zt_size t_at t_fault t_newWide t_newHigh t_colours t_now zt_file t_fresh t_colour t_table t_last t_one)) {t_size : Int32} {t_file : Nat → Int32} {l1 : Int32} {k0 : Int32} {H : Heap} {locs : List Loc} {ls : Array Slot} : fX9_writeFourth_23 t_wide t_high t_size t_now t_file l1 k0 = some (zt_size, zt_file) → va_P D vwCl (zwX9 cI h_t h_t_now h_t_file h_t_fresh h_t_colour h_t_table h_t_last h_t_one t_wide t_high t_size t_at t_fault t_newWide t_newHigh t_colours t_now t_file t_fresh t_colour t_table t_last t_one) H → va_D A (zwX9 cI h_t h_t_now h_t_file h_t_fresh h_t_colour h_t_table h_t_last h_t_one t_wide t_high t_size t_at t_fault t_newWide t_newHigh t_colours t_now t_file t_fresh t_colour t_table t_last t_one) → va_S A s.heap H locs → lv_has ls 4 [(0, .ref h_t), (1, .int l1)] → W p l e rmX9_writeFourth s m args below meth c H locs 0 0 Q (F0 m 23 ls [.int k0]) := by
  intro hf hP hD hS hl
  obtain ⟨hx, hb, hml, hown, hts⟩ := id C
  unfold fX9_writeFourth_23 at hf
  refine lv_istore_n (lv' := [(2, .int k0), (0, .ref h_t), (1, .int l1)]) hx hb dX9_writeFourth_23 rfl hl (by decide) rfl (fun ls hl => ?_)
  refine lv_aload_n hx hb dX9_writeFourth_24 rfl (lv_at hl 1 rfl) ?_
  refine lv_iconst (v := 0) hx hb dX9_writeFourth_25 (by decide) ?_
  refine lv_iconst (v := 0) hx hb dX9_writeFourth_26 (by decide) ?_
  obtain ⟨u1, u2, hc3, hf⟩ := zb2_in hf
  refine zc_v (va_runV (As := [.int 0, .int 0]) (rest := []) C (mX9_addTwo l D cI H.size h_t h_t_now h_t_file h_t_fresh h_t_colour h_t_table h_t_last h_t_one t_wide t_high t_size t_at t_fault t_newWide t_newHigh t_colours t_now t_file t_fresh t_colour t_table t_last t_one 0 0 u1 u2 hc3) (qX9_writeFourth_X9_addTwo_71 hts) ⟨zP_blind, va_recv hK hP (ci := 8) (q0 := 0) rfl rfl, zpre hK hN hP hD [0, 1, 2, 3, 4, 5, 6, 7] rfl rfl⟩ rfl rfl hl.1 rfl (lv_room (Nat.le_of_ble_eq_true rfl)) dX9_writeFourth_27 ⟨Nat.zero_le _, Nat.zero_le _⟩) hP hD hS hA [0, 1, 2, 3, 4, 5, 6, 7] [] [0, 1, 2, 3, 4, 5, 6, 7] (ws' := zwX9 cI h_t h_t_now h_t_file h_t_fresh h_t_colour h_t_table h_t_last h_t_one t_wide t_high u1 t_at t_fault t_newWide t_newHigh t_colours t_now u2 t_fresh t_colour t_table t_last t_one) rfl rfl rfl rfl rfl rfl (fun H locs hP hD hS => ?_)
  refine lv_aload_n hx hb dX9_writeFourth_30 rfl (lv_at hl 1 rfl) ?_
  refine lv_iload_n hx hb dX9_writeFourth_31 rfl (lv_at hl 0 rfl) ?_
  refine lv_iconst (v := 1) hx hb dX9_writeFourth_32 (by decide) ?_
  refine lv_icmp_ne (tgt := 40) hx hb dX9_writeFourth_33 (by decide) (fun c4 => ?_) (fun c4 => ?_)
  · replace hf := zif_f hf c4
    refine lv_iconst (v := 2) hx hb dX9_writeFourth_40 (by decide) ?_
    exact wX9_writeFourth_41 C hN hK hA hE hf hP hD hS (lv_sub hl [1, 2, 0] rfl)
  · replace hf := zif_t hf c4
    refine lv_iconst (v := 3) hx hb dX9_writeFourth_36 (by decide) ?_
    refine lv_goto (tgt := 41) hx hb dX9_writeFourth_37 (by decide) ?_
    exact wX9_writeFourth_41 C hN hK hA hE hf hP hD hS (lv_sub hl [1, 2, 0] rfl)
set_option maxHeartbeats 4000000 in
set_option maxRecDepth 100000 in
theorem wX9_writeFourth_0 {p : Program} {l : Launch} {e : Env} {s : State} {m : MethodId} {args : Array Value} {below : List Frame} {meth : Method} {c : Code} {D : va_G} {A : Nat → Prop} {Q : State → Prop} {cI : ClassId} {h_t h_t_now h_t_file h_t_fresh h_t_colour h_t_table h_t_last h_t_one : Nat} {t_wide : Int32} {t_high : Int32} {t_at : Int32} {t_fault : Int32} {t_newWide : Int32} {t_newHigh : Int32} {t_colours : Int32} {t_now : Nat → Int32} {t_fresh : Nat → Int32} {t_colour : Nat → Int32} {t_table : Nat → Int32} {t_last : Nat → Int32} {t_one : Nat → Int32} {zt_size : Int32} {zt_file : Nat → Int32} (C : CallFix p m c cX9_writeFourth 4 s args wsX9_writeFourth RX9) (hN : zN s) (hK : va_K D vwCl [(cI, .int)] s) (hA : ∀ q, s.heap.size ≤ q → A q) (hE : zEv p l e rmX9_writeFourth s m args below meth c cX9_writeFourth D A Q (zwX9 cI h_t h_t_now h_t_file h_t_fresh h_t_colour h_t_table h_t_last h_t_one t_wide t_high zt_size t_at t_fault t_newWide t_newHigh t_colours t_now zt_file t_fresh t_colour t_table t_last t_one)) {t_size : Int32} {t_file : Nat → Int32} {v0 : Int32} {H : Heap} {locs : List Loc} {ls : Array Slot} : fX9_writeFourth t_wide t_high t_size t_now t_file v0 = some (zt_size, zt_file) → va_P D vwCl (zwX9 cI h_t h_t_now h_t_file h_t_fresh h_t_colour h_t_table h_t_last h_t_one t_wide t_high t_size t_at t_fault t_newWide t_newHigh t_colours t_now t_file t_fresh t_colour t_table t_last t_one) H → va_D A (zwX9 cI h_t h_t_now h_t_file h_t_fresh h_t_colour h_t_table h_t_last h_t_one t_wide t_high t_size t_at t_fault t_newWide t_newHigh t_colours t_now t_file t_fresh t_colour t_table t_last t_one) → va_S A s.heap H locs → lv_has ls 4 [(0, .ref h_t), (1, .int v0)] → W p l e rmX9_writeFourth s m args below meth c H locs 0 0 Q (F0 m 0 ls []) := by
  intro hf hP hD hS hl
  obtain ⟨hx, hb, hml, hown, hts⟩ := id C
  unfold fX9_writeFourth at hf
  refine lv_aload_n hx hb dX9_writeFourth_0 rfl (lv_at hl 0 rfl) ?_
  obtain ⟨r1, hc2, hf⟩ := zb1_in hf
  refine zc_i (va_runV (As := []) (rest := []) C (mX9_grey l D cI H.size h_t h_t_now h_t_file h_t_fresh h_t_colour h_t_table h_t_last h_t_one t_wide t_high t_size t_at t_fault t_newWide t_newHigh t_colours t_now t_file t_fresh t_colour t_table t_last t_one r1 hc2) (qX9_writeFourth_X9_grey_88 hts) ⟨zP_blind, va_recv hK hP (ci := 8) (q0 := 0) rfl rfl, zpre hK hN hP hD [0, 1, 2, 3, 4, 5, 6, 7] rfl rfl⟩ rfl rfl hl.1 rfl (lv_room (Nat.le_of_ble_eq_true rfl)) dX9_writeFourth_1 ⟨Nat.zero_le _, Nat.zero_le _⟩) hP hD hS hA [0, 1, 2, 3, 4, 5, 6, 7] [] [0, 1, 2, 3, 4, 5, 6, 7] (ws' := zwX9 cI h_t h_t_now h_t_file h_t_fresh h_t_colour h_t_table h_t_last h_t_one t_wide t_high t_size t_at t_fault t_newWide t_newHigh t_colours t_now t_file t_fresh t_colour t_table t_last t_one) rfl rfl rfl rfl rfl rfl (fun H locs hP hD hS => ?_)
  refine lv_if_eq (tgt := 11) hx hb dX9_writeFourth_4 (by decide) (fun c3 => ?_) (fun c3 => ?_)
  · replace hf := zif_t hf c3
    refine lv_aload_n hx hb dX9_writeFourth_11 rfl (lv_at hl 0 rfl) ?_
    obtain ⟨r4, hc5, hf⟩ := zb1_in hf
    refine zc_i (va_runV (As := []) (rest := []) C (mX9_opaque l D cI H.size h_t h_t_now h_t_file h_t_fresh h_t_colour h_t_table h_t_last h_t_one t_wide t_high t_size t_at t_fault t_newWide t_newHigh t_colours t_now t_file t_fresh t_colour t_table t_last t_one r4 hc5) (qX9_writeFourth_X9_opaque_53 hts) ⟨zP_blind, va_recv hK hP (ci := 8) (q0 := 0) rfl rfl, zpre hK hN hP hD [0, 1, 2, 3, 4, 5, 6, 7] rfl rfl⟩ rfl rfl hl.1 rfl (lv_room (Nat.le_of_ble_eq_true rfl)) dX9_writeFourth_12 ⟨Nat.zero_le _, Nat.zero_le _⟩) hP hD hS hA [0, 1, 2, 3, 4, 5, 6, 7] [] [0, 1, 2, 3, 4, 5, 6, 7] (ws' := zwX9 cI h_t h_t_now h_t_file h_t_fresh h_t_colour h_t_table h_t_last h_t_one t_wide t_high t_size t_at t_fault t_newWide t_newHigh t_colours t_now t_file t_fresh t_colour t_table t_last t_one) rfl rfl rfl rfl rfl rfl (fun H locs hP hD hS => ?_)
    refine lv_if_eq (tgt := 22) hx hb dX9_writeFourth_15 (by decide) (fun c6 => ?_) (fun c6 => ?_)
    · replace hf := zif_t hf c6
      refine lv_iconst (v := 4) hx hb dX9_writeFourth_22 (by decide) ?_
      exact wX9_writeFourth_23 C hN hK hA hE hf hP hD hS (lv_sub hl [0, 1] rfl)
    · replace hf := zif_f hf c6
      refine lv_iconst (v := 3) hx hb dX9_writeFourth_18 (by decide) ?_
      refine lv_goto (tgt := 23) hx hb dX9_writeFourth_19 (by decide) ?_
      exact wX9_writeFourth_23 C hN hK hA hE hf hP hD hS (lv_sub hl [0, 1] rfl)
  · replace hf := zif_f hf c3
    refine lv_iconst (v := 1) hx hb dX9_writeFourth_7 (by decide) ?_
    refine lv_goto (tgt := 23) hx hb dX9_writeFourth_8 (by decide) ?_
    exact wX9_writeFourth_23 C hN hK hA hE hf hP hD hS (lv_sub hl [0, 1] rfl)
set_option maxHeartbeats 4000000 in
set_option maxRecDepth 100000 in
theorem mX9_writeFourth (l : Launch) (D : va_G) (cI : ClassId) (sz : Nat) (h_t h_t_now h_t_file h_t_fresh h_t_colour h_t_table h_t_last h_t_one : Nat) (t_wide : Int32) (t_high : Int32) (t_size : Int32) (t_at : Int32) (t_fault : Int32) (t_newWide : Int32) (t_newHigh : Int32) (t_colours : Int32) (t_now : Nat → Int32) (t_file : Nat → Int32) (t_fresh : Nat → Int32) (t_colour : Nat → Int32) (t_table : Nat → Int32) (t_last : Nat → Int32) (t_one : Nat → Int32) (v0 : Int32) (zt_size : Int32) (zt_file : Nat → Int32) (hf : fX9_writeFourth t_wide t_high t_size t_now t_file v0 = some (zt_size, zt_file)) : Met l yX9_writeFourth wsX9_writeFourth rmX9_writeFourth (va_Pc [.ref h_t, .int v0] (zP D [(cI, .int)] (zwX9 cI h_t h_t_now h_t_file h_t_fresh h_t_colour h_t_table h_t_last h_t_one t_wide t_high t_size t_at t_fault t_newWide t_newHigh t_colours t_now t_file t_fresh t_colour t_table t_last t_one) sz)) (zQv D (zwX9 cI h_t h_t_now h_t_file h_t_fresh h_t_colour h_t_table h_t_last h_t_one t_wide t_high t_size t_at t_fault t_newWide t_newHigh t_colours t_now t_file t_fresh t_colour t_table t_last t_one) sz (zwX9 cI h_t h_t_now h_t_file h_t_fresh h_t_colour h_t_table h_t_last h_t_one t_wide t_high zt_size t_at t_fault t_newWide t_newHigh t_colours t_now zt_file t_fresh t_colour t_table t_last t_one)) 0 0 (va_A (zwX9 cI h_t h_t_now h_t_file h_t_fresh h_t_colour h_t_table h_t_last h_t_one t_wide t_high t_size t_at t_fault t_newWide t_newHigh t_colours t_now t_file t_fresh t_colour t_table t_last t_one) sz) := by
  refine Met.ofW (cc := cX9_writeFourth) (maxL := 4) (ret := none) (by decide) rfl ?_
  intro p e s m args below meth c s₁ B hml hv
  obtain ⟨rfl, hsz, hP, hK, hD0, hN⟩ := hv
  subst hsz
  have C : CallFix p m c cX9_writeFourth 4 s [.ref h_t, .int v0].toArray wsX9_writeFourth RX9 := ⟨B.exec, B.bytes, hml, findClass_of_methodNamed B.named, atoms_spec (ws := wsX9_writeFourth) B.pre⟩
  have hl := lv_entry ([.ref h_t, .int v0]) (n := 4) (Nat.le_of_ble_eq_true rfl)
  rw [lg_entry_eq]
  exact wX9_writeFourth_0 (A := va_A (zwX9 cI h_t h_t_now h_t_file h_t_fresh h_t_colour h_t_table h_t_last h_t_one t_wide t_high t_size t_at t_fault t_newWide t_newHigh t_colours t_now t_file t_fresh t_colour t_table t_last t_one) s.heap.size) C hN hK (fun q h => Or.inr h) (fun H locs pc ls d hP hD hS => zend_v C.1 C.2.1 B.returns B.notSynchronized d hP hD hS) hf hP hD0.self va_S.rf hl
def rmX9_encode : Room := { frames := 5, cells := 0, slots := 0, locals := 119 }
theorem kX9_encode_57 {args : Array Value} {s : State} (h : ∀ w ∈ wsX9_encode, w.before args s = true) : (Cond.fieldLink RX9 57 "FourPictureFilesModel" "size" "I").before args s = true := h _ (by decide +kernel)
theorem iX9_encode_X9 : ∀ w ∈ u_ws RX9 TX9 15, w ∈ wsX9_encode := by decide +kernel
theorem qX9_encode_X9_opaque_53 {args : Array Value} {s : State} (hts : ∀ w ∈ wsX9_encode, w.before args s = true) : CallW rmX9_encode s args RX9 RX9 53 yX9_opaque cX9_opaque 3 (some .boolean) wsX9_opaque rmX9_opaque 0 0 0 := cwV 0 hts gX9_encode_X9_opaque rfl rfl rfl (by decide +kernel) ⟨Nat.le_of_ble_eq_true rfl, Nat.le_of_ble_eq_true rfl⟩
theorem qX9_encode_X9_writeFirst_116 {args : Array Value} {s : State} (hts : ∀ w ∈ wsX9_encode, w.before args s = true) : CallW rmX9_encode s args RX9 RX9 116 yX9_writeFirst cX9_writeFirst 8 none wsX9_writeFirst rmX9_writeFirst 0 0 0 := cwV 0 hts gX9_encode_X9_writeFirst rfl rfl rfl (by decide +kernel) ⟨Nat.le_of_ble_eq_true rfl, Nat.le_of_ble_eq_true rfl⟩
theorem qX9_encode_X9_writeFourth_126 {args : Array Value} {s : State} (hts : ∀ w ∈ wsX9_encode, w.before args s = true) : CallW rmX9_encode s args RX9 RX9 126 yX9_writeFourth cX9_writeFourth 4 none wsX9_writeFourth rmX9_writeFourth 0 0 1 := cwV 1 hts gX9_encode_X9_writeFourth rfl rfl rfl (by decide +kernel) ⟨Nat.le_of_ble_eq_true rfl, Nat.le_of_ble_eq_true rfl⟩
theorem qX9_encode_X9_writeSecond_119 {args : Array Value} {s : State} (hts : ∀ w ∈ wsX9_encode, w.before args s = true) : CallW rmX9_encode s args RX9 RX9 119 yX9_writeSecond cX9_writeSecond 6 none wsX9_writeSecond rmX9_writeSecond 0 0 1 := cwV 1 hts gX9_encode_X9_writeSecond rfl rfl rfl (by decide +kernel) ⟨Nat.le_of_ble_eq_true rfl, Nat.le_of_ble_eq_true rfl⟩
theorem qX9_encode_X9_writeThird_123 {args : Array Value} {s : State} (hts : ∀ w ∈ wsX9_encode, w.before args s = true) : CallW rmX9_encode s args RX9 RX9 123 yX9_writeThird cX9_writeThird 5 none wsX9_writeThird rmX9_writeThird 0 0 1 := cwV 1 hts gX9_encode_X9_writeThird rfl rfl rfl (by decide +kernel) ⟨Nat.le_of_ble_eq_true rfl, Nat.le_of_ble_eq_true rfl⟩
set_option maxHeartbeats 4000000 in
set_option maxRecDepth 100000 in
theorem wX9_encode_79 {p : Program} {l : Launch} {e : Env} {s : State} {m : MethodId} {args : Array Value} {below : List Frame} {meth : Method} {c : Code} {D : va_G} {A : Nat → Prop} {Q : State → Prop} {cI : ClassId} {h_t h_t_now h_t_file h_t_fresh h_t_colour h_t_table h_t_last h_t_one : Nat} {t_wide : Int32} {t_high : Int32} {t_at : Int32} {t_fault : Int32} {t_newWide : Int32} {t_newHigh : Int32} {t_colours : Int32} {t_now : Nat → Int32} {t_fresh : Nat → Int32} {t_colour : Nat → Int32} {t_one : Nat → Int32} {r0 : Int32} {zt_size : Int32} {zt_file : Nat → Int32} {zt_table : Nat → Int32} {zt_last : Nat → Int32} (C : CallFix p m c cX9_encode 4 s args wsX9_encode RX9) (hN : zN s) (hK : va_K D vwCl [(cI, .int)] s) (hA : ∀ q, s.heap.size ≤ q → A q) (hE : zEi p l e rmX9_encode s m args below meth c cX9_encode D A Q (zwX9 cI h_t h_t_now h_t_file h_t_fresh h_t_colour h_t_table h_t_last h_t_one t_wide t_high zt_size t_at t_fault t_newWide t_newHigh t_colours t_now zt_file t_fresh t_colour zt_table zt_last t_one) r0) {t_size : Int32} {t_file : Nat → Int32} {t_table : Nat → Int32} {t_last : Nat → Int32} {l1 : Int32} {l2 : Int32} {l3 : Int32} {k1 : Int32} {H : Heap} {locs : List Loc} {ls : Array Slot} : fX9_encode_79 t_wide t_high t_size t_now t_file t_table t_last k1 = some (r0, zt_size, zt_file, zt_table, zt_last) → va_P D vwCl (zwX9 cI h_t h_t_now h_t_file h_t_fresh h_t_colour h_t_table h_t_last h_t_one t_wide t_high t_size t_at t_fault t_newWide t_newHigh t_colours t_now t_file t_fresh t_colour t_table t_last t_one) H → va_D A (zwX9 cI h_t h_t_now h_t_file h_t_fresh h_t_colour h_t_table h_t_last h_t_one t_wide t_high t_size t_at t_fault t_newWide t_newHigh t_colours t_now t_file t_fresh t_colour t_table t_last t_one) → va_S A s.heap H locs → lv_has ls 4 [(0, .ref h_t), (1, .int l1), (2, .int l2), (3, .int l3)] → W p l e rmX9_encode s m args below meth c H locs 0 0 Q (F0 m 79 ls [.int k1, .ref h_t]) := by
  intro hf hP hD hS hl
  obtain ⟨hx, hb, hml, hown, hts⟩ := id C
  unfold fX9_encode_79 at hf
  obtain ⟨u1, u2, hc3, hf⟩ := zb2_in hf
  refine zc_v (va_runV (As := [.int k1]) (rest := []) C (mX9_writeSecond l D cI H.size h_t h_t_now h_t_file h_t_fresh h_t_colour h_t_table h_t_last h_t_one t_wide t_high t_size t_at t_fault t_newWide t_newHigh t_colours t_now t_file t_fresh t_colour t_table t_last t_one k1 u1 u2 hc3) (qX9_encode_X9_writeSecond_119 hts) ⟨zP_blind, va_recv hK hP (ci := 8) (q0 := 0) rfl rfl, zpre hK hN hP hD [0, 1, 2, 3, 4, 5, 6, 7] rfl rfl⟩ rfl rfl hl.1 rfl (lv_room (Nat.le_of_ble_eq_true rfl)) dX9_encode_79 ⟨Nat.zero_le _, Nat.zero_le _⟩) hP hD hS hA [0, 1, 2, 3, 4, 5, 6, 7] [] [0, 1, 2, 3, 4, 5, 6, 7] (ws' := zwX9 cI h_t h_t_now h_t_file h_t_fresh h_t_colour h_t_table h_t_last h_t_one t_wide t_high u1 t_at t_fault t_newWide t_newHigh t_colours t_now u2 t_fresh t_colour t_table t_last t_one) rfl rfl rfl rfl rfl rfl (fun H locs hP hD hS => ?_)
  refine lv_goto (tgt := 121) hx hb dX9_encode_82 (by decide) ?_
  refine lv_aload_n hx hb dX9_encode_121 rfl (lv_at hl 0 rfl) ?_
  refine va_get (D := D) (ci := 8) (v := .int u1) (C := RX9) (T := TX9) (N := 15) hx hb hts iX9_encode_X9 hown hK hP 0 rfl rfl 3 (by decide) (kX9_encode_57 hts) (fun _ h9 => h9) rfl dX9_encode_122 ?_
  cases hf
  exact hE _ _ _ _ dX9_encode_125 hP hD hS
set_option maxHeartbeats 4000000 in
set_option maxRecDepth 100000 in
theorem wX9_encode_101 {p : Program} {l : Launch} {e : Env} {s : State} {m : MethodId} {args : Array Value} {below : List Frame} {meth : Method} {c : Code} {D : va_G} {A : Nat → Prop} {Q : State → Prop} {cI : ClassId} {h_t h_t_now h_t_file h_t_fresh h_t_colour h_t_table h_t_last h_t_one : Nat} {t_wide : Int32} {t_high : Int32} {t_at : Int32} {t_fault : Int32} {t_newWide : Int32} {t_newHigh : Int32} {t_colours : Int32} {t_now : Nat → Int32} {t_fresh : Nat → Int32} {t_colour : Nat → Int32} {t_one : Nat → Int32} {r0 : Int32} {zt_size : Int32} {zt_file : Nat → Int32} {zt_table : Nat → Int32} {zt_last : Nat → Int32} (C : CallFix p m c cX9_encode 4 s args wsX9_encode RX9) (hN : zN s) (hK : va_K D vwCl [(cI, .int)] s) (hA : ∀ q, s.heap.size ≤ q → A q) (hE : zEi p l e rmX9_encode s m args below meth c cX9_encode D A Q (zwX9 cI h_t h_t_now h_t_file h_t_fresh h_t_colour h_t_table h_t_last h_t_one t_wide t_high zt_size t_at t_fault t_newWide t_newHigh t_colours t_now zt_file t_fresh t_colour zt_table zt_last t_one) r0) {t_size : Int32} {t_file : Nat → Int32} {t_table : Nat → Int32} {t_last : Nat → Int32} {l1 : Int32} {l2 : Int32} {l3 : Int32} {k1 : Int32} {H : Heap} {locs : List Loc} {ls : Array Slot} : fX9_encode_101 t_wide t_high t_size t_now t_file t_table t_last k1 = some (r0, zt_size, zt_file, zt_table, zt_last) → va_P D vwCl (zwX9 cI h_t h_t_now h_t_file h_t_fresh h_t_colour h_t_table h_t_last h_t_one t_wide t_high t_size t_at t_fault t_newWide t_newHigh t_colours t_now t_file t_fresh t_colour t_table t_last t_one) H → va_D A (zwX9 cI h_t h_t_now h_t_file h_t_fresh h_t_colour h_t_table h_t_last h_t_one t_wide t_high t_size t_at t_fault t_newWide t_newHigh t_colours t_now t_file t_fresh t_colour t_table t_last t_one) → va_S A s.heap H locs → lv_has ls 4 [(0, .ref h_t), (1, .int l1), (2, .int l2), (3, .int l3)] → W p l e rmX9_encode s m args below meth c H locs 0 0 Q (F0 m 101 ls [.int k1, .ref h_t]) := by
  intro hf hP hD hS hl
  obtain ⟨hx, hb, hml, hown, hts⟩ := id C
  unfold fX9_encode_101 at hf
  obtain ⟨u1, u2, hc3, hf⟩ := zb2_in hf
  refine zc_v (va_runV (As := [.int k1]) (rest := []) C (mX9_writeThird l D cI H.size h_t h_t_now h_t_file h_t_fresh h_t_colour h_t_table h_t_last h_t_one t_wide t_high t_size t_at t_fault t_newWide t_newHigh t_colours t_now t_file t_fresh t_colour t_table t_last t_one k1 u1 u2 hc3) (qX9_encode_X9_writeThird_123 hts) ⟨zP_blind, va_recv hK hP (ci := 8) (q0 := 0) rfl rfl, zpre hK hN hP hD [0, 1, 2, 3, 4, 5, 6, 7] rfl rfl⟩ rfl rfl hl.1 rfl (lv_room (Nat.le_of_ble_eq_true rfl)) dX9_encode_101 ⟨Nat.zero_le _, Nat.zero_le _⟩) hP hD hS hA [0, 1, 2, 3, 4, 5, 6, 7] [] [0, 1, 2, 3, 4, 5, 6, 7] (ws' := zwX9 cI h_t h_t_now h_t_file h_t_fresh h_t_colour h_t_table h_t_last h_t_one t_wide t_high u1 t_at t_fault t_newWide t_newHigh t_colours t_now u2 t_fresh t_colour t_table t_last t_one) rfl rfl rfl rfl rfl rfl (fun H locs hP hD hS => ?_)
  refine lv_goto (tgt := 121) hx hb dX9_encode_104 (by decide) ?_
  refine lv_aload_n hx hb dX9_encode_121 rfl (lv_at hl 0 rfl) ?_
  refine va_get (D := D) (ci := 8) (v := .int u1) (C := RX9) (T := TX9) (N := 15) hx hb hts iX9_encode_X9 hown hK hP 0 rfl rfl 3 (by decide) (kX9_encode_57 hts) (fun _ h9 => h9) rfl dX9_encode_122 ?_
  cases hf
  exact hE _ _ _ _ dX9_encode_125 hP hD hS
set_option maxHeartbeats 4000000 in
set_option maxRecDepth 100000 in
theorem wX9_encode_118 {p : Program} {l : Launch} {e : Env} {s : State} {m : MethodId} {args : Array Value} {below : List Frame} {meth : Method} {c : Code} {D : va_G} {A : Nat → Prop} {Q : State → Prop} {cI : ClassId} {h_t h_t_now h_t_file h_t_fresh h_t_colour h_t_table h_t_last h_t_one : Nat} {t_wide : Int32} {t_high : Int32} {t_at : Int32} {t_fault : Int32} {t_newWide : Int32} {t_newHigh : Int32} {t_colours : Int32} {t_now : Nat → Int32} {t_fresh : Nat → Int32} {t_colour : Nat → Int32} {t_one : Nat → Int32} {r0 : Int32} {zt_size : Int32} {zt_file : Nat → Int32} {zt_table : Nat → Int32} {zt_last : Nat → Int32} (C : CallFix p m c cX9_encode 4 s args wsX9_encode RX9) (hN : zN s) (hK : va_K D vwCl [(cI, .int)] s) (hA : ∀ q, s.heap.size ≤ q → A q) (hE : zEi p l e rmX9_encode s m args below meth c cX9_encode D A Q (zwX9 cI h_t h_t_now h_t_file h_t_fresh h_t_colour h_t_table h_t_last h_t_one t_wide t_high zt_size t_at t_fault t_newWide t_newHigh t_colours t_now zt_file t_fresh t_colour zt_table zt_last t_one) r0) {t_size : Int32} {t_file : Nat → Int32} {t_table : Nat → Int32} {t_last : Nat → Int32} {l1 : Int32} {l2 : Int32} {l3 : Int32} {k1 : Int32} {H : Heap} {locs : List Loc} {ls : Array Slot} : fX9_encode_118 t_wide t_high t_size t_now t_file t_table t_last k1 = some (r0, zt_size, zt_file, zt_table, zt_last) → va_P D vwCl (zwX9 cI h_t h_t_now h_t_file h_t_fresh h_t_colour h_t_table h_t_last h_t_one t_wide t_high t_size t_at t_fault t_newWide t_newHigh t_colours t_now t_file t_fresh t_colour t_table t_last t_one) H → va_D A (zwX9 cI h_t h_t_now h_t_file h_t_fresh h_t_colour h_t_table h_t_last h_t_one t_wide t_high t_size t_at t_fault t_newWide t_newHigh t_colours t_now t_file t_fresh t_colour t_table t_last t_one) → va_S A s.heap H locs → lv_has ls 4 [(0, .ref h_t), (1, .int l1), (2, .int l2), (3, .int l3)] → W p l e rmX9_encode s m args below meth c H locs 0 0 Q (F0 m 118 ls [.int k1, .ref h_t]) := by
  intro hf hP hD hS hl
  obtain ⟨hx, hb, hml, hown, hts⟩ := id C
  unfold fX9_encode_118 at hf
  obtain ⟨u1, u2, hc3, hf⟩ := zb2_in hf
  refine zc_v (va_runV (As := [.int k1]) (rest := []) C (mX9_writeFourth l D cI H.size h_t h_t_now h_t_file h_t_fresh h_t_colour h_t_table h_t_last h_t_one t_wide t_high t_size t_at t_fault t_newWide t_newHigh t_colours t_now t_file t_fresh t_colour t_table t_last t_one k1 u1 u2 hc3) (qX9_encode_X9_writeFourth_126 hts) ⟨zP_blind, va_recv hK hP (ci := 8) (q0 := 0) rfl rfl, zpre hK hN hP hD [0, 1, 2, 3, 4, 5, 6, 7] rfl rfl⟩ rfl rfl hl.1 rfl (lv_room (Nat.le_of_ble_eq_true rfl)) dX9_encode_118 ⟨Nat.zero_le _, Nat.zero_le _⟩) hP hD hS hA [0, 1, 2, 3, 4, 5, 6, 7] [] [0, 1, 2, 3, 4, 5, 6, 7] (ws' := zwX9 cI h_t h_t_now h_t_file h_t_fresh h_t_colour h_t_table h_t_last h_t_one t_wide t_high u1 t_at t_fault t_newWide t_newHigh t_colours t_now u2 t_fresh t_colour t_table t_last t_one) rfl rfl rfl rfl rfl rfl (fun H locs hP hD hS => ?_)
  refine lv_aload_n hx hb dX9_encode_121 rfl (lv_at hl 0 rfl) ?_
  refine va_get (D := D) (ci := 8) (v := .int u1) (C := RX9) (T := TX9) (N := 15) hx hb hts iX9_encode_X9 hown hK hP 0 rfl rfl 3 (by decide) (kX9_encode_57 hts) (fun _ h9 => h9) rfl dX9_encode_122 ?_
  cases hf
  exact hE _ _ _ _ dX9_encode_125 hP hD hS
set_option maxHeartbeats 4000000 in
set_option maxRecDepth 100000 in
theorem wX9_encode_47 {p : Program} {l : Launch} {e : Env} {s : State} {m : MethodId} {args : Array Value} {below : List Frame} {meth : Method} {c : Code} {D : va_G} {A : Nat → Prop} {Q : State → Prop} {cI : ClassId} {h_t h_t_now h_t_file h_t_fresh h_t_colour h_t_table h_t_last h_t_one : Nat} {t_wide : Int32} {t_high : Int32} {t_at : Int32} {t_fault : Int32} {t_newWide : Int32} {t_newHigh : Int32} {t_colours : Int32} {t_now : Nat → Int32} {t_fresh : Nat → Int32} {t_colour : Nat → Int32} {t_one : Nat → Int32} {r0 : Int32} {zt_size : Int32} {zt_file : Nat → Int32} {zt_table : Nat → Int32} {zt_last : Nat → Int32} (C : CallFix p m c cX9_encode 4 s args wsX9_encode RX9) (hN : zN s) (hK : va_K D vwCl [(cI, .int)] s) (hA : ∀ q, s.heap.size ≤ q → A q) (hE : zEi p l e rmX9_encode s m args below meth c cX9_encode D A Q (zwX9 cI h_t h_t_now h_t_file h_t_fresh h_t_colour h_t_table h_t_last h_t_one t_wide t_high zt_size t_at t_fault t_newWide t_newHigh t_colours t_now zt_file t_fresh t_colour zt_table zt_last t_one) r0) {t_size : Int32} {t_file : Nat → Int32} {t_table : Nat → Int32} {t_last : Nat → Int32} {l1 : Int32} {l2 : Int32} {l3 : Int32} {H : Heap} {locs : List Loc} {ls : Array Slot} : fX9_encode_47 t_wide t_high t_now t_file t_table t_last l1 l2 = some (r0, zt_size, zt_file, zt_table, zt_last) → va_P D vwCl (zwX9 cI h_t h_t_now h_t_file h_t_fresh h_t_colour h_t_table h_t_last h_t_one t_wide t_high t_size t_at t_fault t_newWide t_newHigh t_colours t_now t_file t_fresh t_colour t_table t_last t_one) H → va_D A (zwX9 cI h_t h_t_now h_t_file h_t_fresh h_t_colour h_t_table h_t_last h_t_one t_wide t_high t_size t_at t_fault t_newWide t_newHigh t_colours t_now t_file t_fresh t_colour t_table t_last t_one) → va_S A s.heap H locs → lv_has ls 4 [(0, .ref h_t), (1, .int l1), (2, .int l2), (3, .int l3)] → W p l e rmX9_encode s m args below meth c H locs 0 0 Q (F0 m 47 ls []) := by
  intro hf hP hD hS hl
  obtain ⟨hx, hb, hml, hown, hts⟩ := id C
  unfold fX9_encode_47 at hf
  refine lv_aload_n hx hb dX9_encode_47 rfl (lv_at hl 0 rfl) ?_
  refine lv_iconst (v := 0) hx hb dX9_encode_48 (by decide) ?_
  refine va_put (D := D) (ci := 8) (v := .int 0) (ty := .int) (C := RX9) (T := TX9) (N := 15) hx hb hts iX9_encode_X9 tyX9 tyX9_ok nmX9 hown hK hP hD hS 0 rfl rfl 3 (by decide) (kX9_encode_57 hts) (fun _ h9 => h9) rfl (by decide +kernel) rfl rfl (Nat.le_of_ble_eq_true rfl) dX9_encode_49 (fun H locs hP hD hS => ?_)
  replace hP : va_P D vwCl (zwX9 cI h_t h_t_now h_t_file h_t_fresh h_t_colour h_t_table h_t_last h_t_one t_wide t_high 0 t_at t_fault t_newWide t_newHigh t_colours t_now t_file t_fresh t_colour t_table t_last t_one) H := hP
  replace hD : va_D A (zwX9 cI h_t h_t_now h_t_file h_t_fresh h_t_colour h_t_table h_t_last h_t_one t_wide t_high 0 t_at t_fault t_newWide t_newHigh t_colours t_now t_file t_fresh t_colour t_table t_last t_one) := hD
  refine lv_iload_n hx hb dX9_encode_52 rfl (lv_at hl 1 rfl) ?_
  refine lv_if_ne (tgt := 63) hx hb dX9_encode_53 (by decide) (fun c1 => ?_) (fun c1 => ?_)
  · replace hf := zif_f hf c1
    refine lv_iload_n hx hb dX9_encode_63 rfl (lv_at hl 1 rfl) ?_
    refine lv_iconst (v := 1) hx hb dX9_encode_64 (by decide) ?_
    refine lv_icmp_ne (tgt := 85) hx hb dX9_encode_65 (by decide) (fun c2 => ?_) (fun c2 => ?_)
    · replace hf := zif_f hf c2
      refine lv_iload_n hx hb dX9_encode_85 rfl (lv_at hl 1 rfl) ?_
      refine lv_iconst (v := 2) hx hb dX9_encode_86 (by decide) ?_
      refine lv_icmp_ne (tgt := 107) hx hb dX9_encode_87 (by decide) (fun c3 => ?_) (fun c3 => ?_)
      · replace hf := zif_f hf c3
        refine lv_aload_n hx hb dX9_encode_107 rfl (lv_at hl 0 rfl) ?_
        refine lv_iload_n hx hb dX9_encode_108 rfl (lv_at hl 2 rfl) ?_
        refine lv_iconst (v := 1) hx hb dX9_encode_109 (by decide) ?_
        refine lv_icmp_ne (tgt := 117) hx hb dX9_encode_110 (by decide) (fun c4 => ?_) (fun c4 => ?_)
        · replace hf := zif_f hf c4
          refine lv_iconst (v := 0) hx hb dX9_encode_117 (by decide) ?_
          exact wX9_encode_118 C hN hK hA hE hf hP hD hS (lv_sub hl [0, 1, 2, 3] rfl)
        · replace hf := zif_t hf c4
          refine lv_iconst (v := 1) hx hb dX9_encode_113 (by decide) ?_
          refine lv_goto (tgt := 118) hx hb dX9_encode_114 (by decide) ?_
          exact wX9_encode_118 C hN hK hA hE hf hP hD hS (lv_sub hl [0, 1, 2, 3] rfl)
      · replace hf := zif_t hf c3
        refine lv_aload_n hx hb dX9_encode_90 rfl (lv_at hl 0 rfl) ?_
        refine lv_iload_n hx hb dX9_encode_91 rfl (lv_at hl 2 rfl) ?_
        refine lv_iconst (v := 1) hx hb dX9_encode_92 (by decide) ?_
        refine lv_icmp_ne (tgt := 100) hx hb dX9_encode_93 (by decide) (fun c5 => ?_) (fun c5 => ?_)
        · replace hf := zif_f hf c5
          refine lv_iconst (v := 0) hx hb dX9_encode_100 (by decide) ?_
          exact wX9_encode_101 C hN hK hA hE hf hP hD hS (lv_sub hl [0, 1, 2, 3] rfl)
        · replace hf := zif_t hf c5
          refine lv_iconst (v := 1) hx hb dX9_encode_96 (by decide) ?_
          refine lv_goto (tgt := 101) hx hb dX9_encode_97 (by decide) ?_
          exact wX9_encode_101 C hN hK hA hE hf hP hD hS (lv_sub hl [0, 1, 2, 3] rfl)
    · replace hf := zif_t hf c2
      refine lv_aload_n hx hb dX9_encode_68 rfl (lv_at hl 0 rfl) ?_
      refine lv_iload_n hx hb dX9_encode_69 rfl (lv_at hl 2 rfl) ?_
      refine lv_iconst (v := 1) hx hb dX9_encode_70 (by decide) ?_
      refine lv_icmp_ne (tgt := 78) hx hb dX9_encode_71 (by decide) (fun c6 => ?_) (fun c6 => ?_)
      · replace hf := zif_f hf c6
        refine lv_iconst (v := 0) hx hb dX9_encode_78 (by decide) ?_
        exact wX9_encode_79 C hN hK hA hE hf hP hD hS (lv_sub hl [0, 1, 2, 3] rfl)
      · replace hf := zif_t hf c6
        refine lv_iconst (v := 1) hx hb dX9_encode_74 (by decide) ?_
        refine lv_goto (tgt := 79) hx hb dX9_encode_75 (by decide) ?_
        exact wX9_encode_79 C hN hK hA hE hf hP hD hS (lv_sub hl [0, 1, 2, 3] rfl)
  · replace hf := zif_t hf c1
    refine lv_aload_n hx hb dX9_encode_56 rfl (lv_at hl 0 rfl) ?_
    obtain ⟨u7, u8, u9, u10, hc11, hf⟩ := zb4_in hf
    refine zc_v (va_runV (As := []) (rest := []) C (mX9_writeFirst l D cI H.size h_t h_t_now h_t_file h_t_fresh h_t_colour h_t_table h_t_last h_t_one t_wide t_high 0 t_at t_fault t_newWide t_newHigh t_colours t_now t_file t_fresh t_colour t_table t_last t_one u7 u8 u9 u10 hc11) (qX9_encode_X9_writeFirst_116 hts) ⟨zP_blind, va_recv hK hP (ci := 8) (q0 := 0) rfl rfl, zpre hK hN hP hD [0, 1, 2, 3, 4, 5, 6, 7] rfl rfl⟩ rfl rfl hl.1 rfl (lv_room (Nat.le_of_ble_eq_true rfl)) dX9_encode_57 ⟨Nat.zero_le _, Nat.zero_le _⟩) hP hD hS hA [0, 1, 2, 3, 4, 5, 6, 7] [] [0, 1, 2, 3, 4, 5, 6, 7] (ws' := zwX9 cI h_t h_t_now h_t_file h_t_fresh h_t_colour h_t_table h_t_last h_t_one t_wide t_high u7 t_at t_fault t_newWide t_newHigh t_colours t_now u8 t_fresh t_colour u9 u10 t_one) rfl rfl rfl rfl rfl rfl (fun H locs hP hD hS => ?_)
    refine lv_goto (tgt := 121) hx hb dX9_encode_60 (by decide) ?_
    refine lv_aload_n hx hb dX9_encode_121 rfl (lv_at hl 0 rfl) ?_
    refine va_get (D := D) (ci := 8) (v := .int u7) (C := RX9) (T := TX9) (N := 15) hx hb hts iX9_encode_X9 hown hK hP 0 rfl rfl 3 (by decide) (kX9_encode_57 hts) (fun _ h9 => h9) rfl dX9_encode_122 ?_
    cases hf
    exact hE _ _ _ _ dX9_encode_125 hP hD hS
set_option maxHeartbeats 4000000 in
set_option maxRecDepth 100000 in
theorem wX9_encode_38 {p : Program} {l : Launch} {e : Env} {s : State} {m : MethodId} {args : Array Value} {below : List Frame} {meth : Method} {c : Code} {D : va_G} {A : Nat → Prop} {Q : State → Prop} {cI : ClassId} {h_t h_t_now h_t_file h_t_fresh h_t_colour h_t_table h_t_last h_t_one : Nat} {t_wide : Int32} {t_high : Int32} {t_at : Int32} {t_fault : Int32} {t_newWide : Int32} {t_newHigh : Int32} {t_colours : Int32} {t_now : Nat → Int32} {t_fresh : Nat → Int32} {t_colour : Nat → Int32} {t_one : Nat → Int32} {r0 : Int32} {zt_size : Int32} {zt_file : Nat → Int32} {zt_table : Nat → Int32} {zt_last : Nat → Int32} (C : CallFix p m c cX9_encode 4 s args wsX9_encode RX9) (hN : zN s) (hK : va_K D vwCl [(cI, .int)] s) (hA : ∀ q, s.heap.size ≤ q → A q) (hE : zEi p l e rmX9_encode s m args below meth c cX9_encode D A Q (zwX9 cI h_t h_t_now h_t_file h_t_fresh h_t_colour h_t_table h_t_last h_t_one t_wide t_high zt_size t_at t_fault t_newWide t_newHigh t_colours t_now zt_file t_fresh t_colour zt_table zt_last t_one) r0) {t_size : Int32} {t_file : Nat → Int32} {t_table : Nat → Int32} {t_last : Nat → Int32} {l1 : Int32} {l2 : Int32} {l3 : Int32} {H : Heap} {locs : List Loc} {ls : Array Slot} : fX9_encode_38 t_wide t_high t_size t_now t_file t_table t_last l1 l2 = some (r0, zt_size, zt_file, zt_table, zt_last) → va_P D vwCl (zwX9 cI h_t h_t_now h_t_file h_t_fresh h_t_colour h_t_table h_t_last h_t_one t_wide t_high t_size t_at t_fault t_newWide t_newHigh t_colours t_now t_file t_fresh t_colour t_table t_last t_one) H → va_D A (zwX9 cI h_t h_t_now h_t_file h_t_fresh h_t_colour h_t_table h_t_last h_t_one t_wide t_high t_size t_at t_fault t_newWide t_newHigh t_colours t_now t_file t_fresh t_colour t_table t_last t_one) → va_S A s.heap H locs → lv_has ls 4 [(0, .ref h_t), (1, .int l1), (2, .int l2), (3, .int l3)] → W p l e rmX9_encode s m args below meth c H locs 0 0 Q (F0 m 38 ls []) := by
  intro hf hP hD hS hl
  obtain ⟨hx, hb, hml, hown, hts⟩ := id C
  unfold fX9_encode_38 at hf
  refine lv_aload_n hx hb dX9_encode_38 rfl (lv_at hl 0 rfl) ?_
  obtain ⟨r1, hc2, hf⟩ := zb1_in hf
  refine zc_i (va_runV (As := []) (rest := []) C (mX9_opaque l D cI H.size h_t h_t_now h_t_file h_t_fresh h_t_colour h_t_table h_t_last h_t_one t_wide t_high t_size t_at t_fault t_newWide t_newHigh t_colours t_now t_file t_fresh t_colour t_table t_last t_one r1 hc2) (qX9_encode_X9_opaque_53 hts) ⟨zP_blind, va_recv hK hP (ci := 8) (q0 := 0) rfl rfl, zpre hK hN hP hD [0, 1, 2, 3, 4, 5, 6, 7] rfl rfl⟩ rfl rfl hl.1 rfl (lv_room (Nat.le_of_ble_eq_true rfl)) dX9_encode_39 ⟨Nat.zero_le _, Nat.zero_le _⟩) hP hD hS hA [0, 1, 2, 3, 4, 5, 6, 7] [] [0, 1, 2, 3, 4, 5, 6, 7] (ws' := zwX9 cI h_t h_t_now h_t_file h_t_fresh h_t_colour h_t_table h_t_last h_t_one t_wide t_high t_size t_at t_fault t_newWide t_newHigh t_colours t_now t_file t_fresh t_colour t_table t_last t_one) rfl rfl rfl rfl rfl rfl (fun H locs hP hD hS => ?_)
  refine lv_if_ne (tgt := 47) hx hb dX9_encode_42 (by decide) (fun c3 => ?_) (fun c3 => ?_)
  · replace hf := zif_f hf c3
    exact wX9_encode_47 C hN hK hA hE hf hP hD hS (lv_sub hl [0, 1, 2, 3] rfl)
  · replace hf := zif_t hf c3
    refine lv_iconst (v := (-1)) hx hb dX9_encode_45 (by decide) ?_
    cases hf
    exact hE _ _ _ _ dX9_encode_46 hP hD hS
set_option maxHeartbeats 4000000 in
set_option maxRecDepth 100000 in
theorem wX9_encode_23 {p : Program} {l : Launch} {e : Env} {s : State} {m : MethodId} {args : Array Value} {below : List Frame} {meth : Method} {c : Code} {D : va_G} {A : Nat → Prop} {Q : State → Prop} {cI : ClassId} {h_t h_t_now h_t_file h_t_fresh h_t_colour h_t_table h_t_last h_t_one : Nat} {t_wide : Int32} {t_high : Int32} {t_at : Int32} {t_fault : Int32} {t_newWide : Int32} {t_newHigh : Int32} {t_colours : Int32} {t_now : Nat → Int32} {t_fresh : Nat → Int32} {t_colour : Nat → Int32} {t_one : Nat → Int32} {r0 : Int32} {zt_size : Int32} {zt_file : Nat → Int32} {zt_table : Nat → Int32} {zt_last : Nat → Int32} (C : CallFix p m c cX9_encode 4 s args wsX9_encode RX9) (hN : zN s) (hK : va_K D vwCl [(cI, .int)] s) (hA : ∀ q, s.heap.size ≤ q → A q) (hE : zEi p l e rmX9_encode s m args below meth c cX9_encode D A Q (zwX9 cI h_t h_t_now h_t_file h_t_fresh h_t_colour h_t_table h_t_last h_t_one t_wide t_high zt_size t_at t_fault t_newWide t_newHigh t_colours t_now zt_file t_fresh t_colour zt_table zt_last t_one) r0) {t_size : Int32} {t_file : Nat → Int32} {t_table : Nat → Int32} {t_last : Nat → Int32} {l1 : Int32} {l2 : Int32} {k0 : Int32} {H : Heap} {locs : List Loc} {ls : Array Slot} : fX9_encode_23 t_wide t_high t_size t_now t_file t_table t_last l1 l2 k0 = some (r0, zt_size, zt_file, zt_table, zt_last) → va_P D vwCl (zwX9 cI h_t h_t_now h_t_file h_t_fresh h_t_colour h_t_table h_t_last h_t_one t_wide t_high t_size t_at t_fault t_newWide t_newHigh t_colours t_now t_file t_fresh t_colour t_table t_last t_one) H → va_D A (zwX9 cI h_t h_t_now h_t_file h_t_fresh h_t_colour h_t_table h_t_last h_t_one t_wide t_high t_size t_at t_fault t_newWide t_newHigh t_colours t_now t_file t_fresh t_colour t_table t_last t_one) → va_S A s.heap H locs → lv_has ls 4 [(0, .ref h_t), (1, .int l1), (2, .int l2)] → W p l e rmX9_encode s m args below meth c H locs 0 0 Q (F0 m 23 ls [.int k0]) := by
  intro hf hP hD hS hl
  obtain ⟨hx, hb, hml, hown, hts⟩ := id C
  unfold fX9_encode_23 at hf
  refine lv_istore_n (lv' := [(3, .int k0), (0, .ref h_t), (1, .int l1), (2, .int l2)]) hx hb dX9_encode_23 rfl hl (by decide) rfl (fun ls hl => ?_)
  refine lv_iload_n hx hb dX9_encode_24 rfl (lv_at hl 0 rfl) ?_
  refine lv_if_eq (tgt := 45) hx hb dX9_encode_25 (by decide) (fun c1 => ?_) (fun c1 => ?_)
  · replace hf := zif_t hf c1
    refine lv_iconst (v := (-1)) hx hb dX9_encode_45 (by decide) ?_
    cases hf
    exact hE _ _ _ _ dX9_encode_46 hP hD hS
  · replace hf := zif_f hf c1
    refine lv_iload_n hx hb dX9_encode_28 rfl (lv_at hl 2 rfl) ?_
    refine lv_iconst (v := 1) hx hb dX9_encode_29 (by decide) ?_
    refine lv_icmp_eq (tgt := 38) hx hb dX9_encode_30 (by decide) (fun c2 => ?_) (fun c2 => ?_)
    · replace hf := zif_t hf c2
      exact wX9_encode_38 C hN hK hA hE hf hP hD hS (lv_sub hl [1, 2, 3, 0] rfl)
    · replace hf := zif_f hf c2
      refine lv_iload_n hx hb dX9_encode_33 rfl (lv_at hl 2 rfl) ?_
      refine lv_iconst (v := 2) hx hb dX9_encode_34 (by decide) ?_
      refine lv_icmp_ne (tgt := 47) hx hb dX9_encode_35 (by decide) (fun c3 => ?_) (fun c3 => ?_)
      · replace hf := zif_f hf c3
        exact wX9_encode_47 C hN hK hA hE hf hP hD hS (lv_sub hl [1, 2, 3, 0] rfl)
      · replace hf := zif_t hf c3
        exact wX9_encode_38 C hN hK hA hE hf hP hD hS (lv_sub hl [1, 2, 3, 0] rfl)
set_option maxHeartbeats 4000000 in
set_option maxRecDepth 100000 in
theorem wX9_encode_22 {p : Program} {l : Launch} {e : Env} {s : State} {m : MethodId} {args : Array Value} {below : List Frame} {meth : Method} {c : Code} {D : va_G} {A : Nat → Prop} {Q : State → Prop} {cI : ClassId} {h_t h_t_now h_t_file h_t_fresh h_t_colour h_t_table h_t_last h_t_one : Nat} {t_wide : Int32} {t_high : Int32} {t_at : Int32} {t_fault : Int32} {t_newWide : Int32} {t_newHigh : Int32} {t_colours : Int32} {t_now : Nat → Int32} {t_fresh : Nat → Int32} {t_colour : Nat → Int32} {t_one : Nat → Int32} {r0 : Int32} {zt_size : Int32} {zt_file : Nat → Int32} {zt_table : Nat → Int32} {zt_last : Nat → Int32} (C : CallFix p m c cX9_encode 4 s args wsX9_encode RX9) (hN : zN s) (hK : va_K D vwCl [(cI, .int)] s) (hA : ∀ q, s.heap.size ≤ q → A q) (hE : zEi p l e rmX9_encode s m args below meth c cX9_encode D A Q (zwX9 cI h_t h_t_now h_t_file h_t_fresh h_t_colour h_t_table h_t_last h_t_one t_wide t_high zt_size t_at t_fault t_newWide t_newHigh t_colours t_now zt_file t_fresh t_colour zt_table zt_last t_one) r0) {t_size : Int32} {t_file : Nat → Int32} {t_table : Nat → Int32} {t_last : Nat → Int32} {l1 : Int32} {l2 : Int32} {H : Heap} {locs : List Loc} {ls : Array Slot} : fX9_encode_22 t_wide t_high t_size t_now t_file t_table t_last l1 l2 = some (r0, zt_size, zt_file, zt_table, zt_last) → va_P D vwCl (zwX9 cI h_t h_t_now h_t_file h_t_fresh h_t_colour h_t_table h_t_last h_t_one t_wide t_high t_size t_at t_fault t_newWide t_newHigh t_colours t_now t_file t_fresh t_colour t_table t_last t_one) H → va_D A (zwX9 cI h_t h_t_now h_t_file h_t_fresh h_t_colour h_t_table h_t_last h_t_one t_wide t_high t_size t_at t_fault t_newWide t_newHigh t_colours t_now t_file t_fresh t_colour t_table t_last t_one) → va_S A s.heap H locs → lv_has ls 4 [(0, .ref h_t), (1, .int l1), (2, .int l2)] → W p l e rmX9_encode s m args below meth c H locs 0 0 Q (F0 m 22 ls []) := by
  intro hf hP hD hS hl
  obtain ⟨hx, hb, hml, hown, hts⟩ := id C
  unfold fX9_encode_22 at hf
  refine lv_iconst (v := 0) hx hb dX9_encode_22 (by decide) ?_
  exact wX9_encode_23 C hN hK hA hE hf hP hD hS (lv_sub hl [0, 1, 2] rfl)
set_option maxHeartbeats 4000000 in
set_option maxRecDepth 100000 in
theorem wX9_encode_0 {p : Program} {l : Launch} {e : Env} {s : State} {m : MethodId} {args : Array Value} {below : List Frame} {meth : Method} {c : Code} {D : va_G} {A : Nat → Prop} {Q : State → Prop} {cI : ClassId} {h_t h_t_now h_t_file h_t_fresh h_t_colour h_t_table h_t_last h_t_one : Nat} {t_wide : Int32} {t_high : Int32} {t_at : Int32} {t_fault : Int32} {t_newWide : Int32} {t_newHigh : Int32} {t_colours : Int32} {t_now : Nat → Int32} {t_fresh : Nat → Int32} {t_colour : Nat → Int32} {t_one : Nat → Int32} {r0 : Int32} {zt_size : Int32} {zt_file : Nat → Int32} {zt_table : Nat → Int32} {zt_last : Nat → Int32} (C : CallFix p m c cX9_encode 4 s args wsX9_encode RX9) (hN : zN s) (hK : va_K D vwCl [(cI, .int)] s) (hA : ∀ q, s.heap.size ≤ q → A q) (hE : zEi p l e rmX9_encode s m args below meth c cX9_encode D A Q (zwX9 cI h_t h_t_now h_t_file h_t_fresh h_t_colour h_t_table h_t_last h_t_one t_wide t_high zt_size t_at t_fault t_newWide t_newHigh t_colours t_now zt_file t_fresh t_colour zt_table zt_last t_one) r0) {t_size : Int32} {t_file : Nat → Int32} {t_table : Nat → Int32} {t_last : Nat → Int32} {v0 : Int32} {v1 : Int32} {H : Heap} {locs : List Loc} {ls : Array Slot} : fX9_encode t_wide t_high t_size t_now t_file t_table t_last v0 v1 = some (r0, zt_size, zt_file, zt_table, zt_last) → va_P D vwCl (zwX9 cI h_t h_t_now h_t_file h_t_fresh h_t_colour h_t_table h_t_last h_t_one t_wide t_high t_size t_at t_fault t_newWide t_newHigh t_colours t_now t_file t_fresh t_colour t_table t_last t_one) H → va_D A (zwX9 cI h_t h_t_now h_t_file h_t_fresh h_t_colour h_t_table h_t_last h_t_one t_wide t_high t_size t_at t_fault t_newWide t_newHigh t_colours t_now t_file t_fresh t_colour t_table t_last t_one) → va_S A s.heap H locs → lv_has ls 4 [(0, .ref h_t), (1, .int v0), (2, .int v1)] → W p l e rmX9_encode s m args below meth c H locs 0 0 Q (F0 m 0 ls []) := by
  intro hf hP hD hS hl
  obtain ⟨hx, hb, hml, hown, hts⟩ := id C
  unfold fX9_encode at hf
  refine lv_iload_n hx hb dX9_encode_0 rfl (lv_at hl 1 rfl) ?_
  refine lv_if_lt (tgt := 22) hx hb dX9_encode_1 (by decide) (fun c1 => ?_) (fun c1 => ?_)
  · replace hf := zif_t hf c1
    exact wX9_encode_22 C hN hK hA hE hf hP hD hS (lv_sub hl [0, 1, 2] rfl)
  · replace hf := zif_f hf c1
    refine lv_iload_n hx hb dX9_encode_4 rfl (lv_at hl 1 rfl) ?_
    refine lv_iconst (v := 3) hx hb dX9_encode_5 (by decide) ?_
    refine lv_icmp_gt (tgt := 22) hx hb dX9_encode_6 (by decide) (fun c2 => ?_) (fun c2 => ?_)
    · replace hf := zif_t hf c2
      exact wX9_encode_22 C hN hK hA hE hf hP hD hS (lv_sub hl [0, 1, 2] rfl)
    · replace hf := zif_f hf c2
      refine lv_iload_n hx hb dX9_encode_9 rfl (lv_at hl 2 rfl) ?_
      refine lv_if_lt (tgt := 22) hx hb dX9_encode_10 (by decide) (fun c3 => ?_) (fun c3 => ?_)
      · replace hf := zif_t hf c3
        exact wX9_encode_22 C hN hK hA hE hf hP hD hS (lv_sub hl [0, 1, 2] rfl)
      · replace hf := zif_f hf c3
        refine lv_iload_n hx hb dX9_encode_13 rfl (lv_at hl 2 rfl) ?_
        refine lv_iconst (v := 1) hx hb dX9_encode_14 (by decide) ?_
        refine lv_icmp_gt (tgt := 22) hx hb dX9_encode_15 (by decide) (fun c4 => ?_) (fun c4 => ?_)
        · replace hf := zif_t hf c4
          exact wX9_encode_22 C hN hK hA hE hf hP hD hS (lv_sub hl [0, 1, 2] rfl)
        · replace hf := zif_f hf c4
          refine lv_iconst (v := 1) hx hb dX9_encode_18 (by decide) ?_
          refine lv_goto (tgt := 23) hx hb dX9_encode_19 (by decide) ?_
          exact wX9_encode_23 C hN hK hA hE hf hP hD hS (lv_sub hl [0, 1, 2] rfl)
set_option maxHeartbeats 4000000 in
set_option maxRecDepth 100000 in
theorem mX9_encode (l : Launch) (D : va_G) (cI : ClassId) (sz : Nat) (h_t h_t_now h_t_file h_t_fresh h_t_colour h_t_table h_t_last h_t_one : Nat) (t_wide : Int32) (t_high : Int32) (t_size : Int32) (t_at : Int32) (t_fault : Int32) (t_newWide : Int32) (t_newHigh : Int32) (t_colours : Int32) (t_now : Nat → Int32) (t_file : Nat → Int32) (t_fresh : Nat → Int32) (t_colour : Nat → Int32) (t_table : Nat → Int32) (t_last : Nat → Int32) (t_one : Nat → Int32) (v0 v1 : Int32) (r0 : Int32) (zt_size : Int32) (zt_file : Nat → Int32) (zt_table : Nat → Int32) (zt_last : Nat → Int32) (hf : fX9_encode t_wide t_high t_size t_now t_file t_table t_last v0 v1 = some (r0, zt_size, zt_file, zt_table, zt_last)) : Met l yX9_encode wsX9_encode rmX9_encode (va_Pc [.ref h_t, .int v0, .int v1] (zP D [(cI, .int)] (zwX9 cI h_t h_t_now h_t_file h_t_fresh h_t_colour h_t_table h_t_last h_t_one t_wide t_high t_size t_at t_fault t_newWide t_newHigh t_colours t_now t_file t_fresh t_colour t_table t_last t_one) sz)) (zQi D (zwX9 cI h_t h_t_now h_t_file h_t_fresh h_t_colour h_t_table h_t_last h_t_one t_wide t_high t_size t_at t_fault t_newWide t_newHigh t_colours t_now t_file t_fresh t_colour t_table t_last t_one) sz r0 (zwX9 cI h_t h_t_now h_t_file h_t_fresh h_t_colour h_t_table h_t_last h_t_one t_wide t_high zt_size t_at t_fault t_newWide t_newHigh t_colours t_now zt_file t_fresh t_colour zt_table zt_last t_one)) 0 0 (va_A (zwX9 cI h_t h_t_now h_t_file h_t_fresh h_t_colour h_t_table h_t_last h_t_one t_wide t_high t_size t_at t_fault t_newWide t_newHigh t_colours t_now t_file t_fresh t_colour t_table t_last t_one) sz) := by
  refine Met.ofW (cc := cX9_encode) (maxL := 4) (ret := (some .int)) (by decide) rfl ?_
  intro p e s m args below meth c s₁ B hml hv
  obtain ⟨rfl, hsz, hP, hK, hD0, hN⟩ := hv
  subst hsz
  have C : CallFix p m c cX9_encode 4 s [.ref h_t, .int v0, .int v1].toArray wsX9_encode RX9 := ⟨B.exec, B.bytes, hml, findClass_of_methodNamed B.named, atoms_spec (ws := wsX9_encode) B.pre⟩
  have hl := lv_entry ([.ref h_t, .int v0, .int v1]) (n := 4) (Nat.le_of_ble_eq_true rfl)
  rw [lg_entry_eq]
  exact wX9_encode_0 (A := va_A (zwX9 cI h_t h_t_now h_t_file h_t_fresh h_t_colour h_t_table h_t_last h_t_one t_wide t_high t_size t_at t_fault t_newWide t_newHigh t_colours t_now t_file t_fresh t_colour t_table t_last t_one) s.heap.size) C hN hK (fun q h => Or.inr h) (fun H locs pc ls d hP hD hS => zend_i C.1 C.2.1 B.returns B.notSynchronized d hP hD hS) hf hP hD0.self va_S.rf hl
