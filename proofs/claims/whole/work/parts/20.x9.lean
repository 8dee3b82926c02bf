def fX9_inside (t_wide : Int32) (t_high : Int32) (v0 : Int32) (v1 : Int32) : Option (Int32) :=
  if v0 < 0 then
    some 0
  else
    if t_wide ≤ v0 then
      some 0
    else
      if v1 < 0 then
        some 0
      else
        if t_high ≤ v1 then
          some 0
        else
          some 1
def fX9_side (v0 : Int32) : Option (Int32) :=
  if v0 < 1 then
    some 0
  else
    if 8 < v0 then
      some 0
    else
      some 1
def fX9_make_54 (rc28 : Int32 → Int32 → (Nat → Int32) → Int32 → Option (Int32 × Int32 × Int32 × (Nat → Int32))) (t_wide : Int32) (t_high : Int32) (t_now : Nat → Int32) (l3 : Int32) (k1 : Int32) (k2 : Int32) : Option (Int32 × Int32 × Int32 × (Nat → Int32)) :=
  zwr t_now 256 k1 k2 fun g1 =>
  zlet (l3 + 1) fun x3 =>
  rc28 t_wide t_high g1 x3
def fX9_make_28 : Nat → Int32 → Int32 → (Nat → Int32) → Int32 → Option (Int32 × Int32 × Int32 × (Nat → Int32))
  | 0, _, _, _, _ => none
  | n + 1, t_wide, t_high, t_now, l3 =>
    if 256 ≤ l3 then
      some (1, t_wide, t_high, t_now)
    else
      if (zrem l3 4) = 3 then
        fX9_make_54 (fX9_make_28 n) t_wide t_high t_now l3 l3 255
      else
        fX9_make_54 (fX9_make_28 n) t_wide t_high t_now l3 l3 0
theorem fX9_make_28_s (n : Nat) (t_wide : Int32) (t_high : Int32) (t_now : Nat → Int32) (l3 : Int32) : fX9_make_28 (n + 1) t_wide t_high t_now l3 =
    if 256 ≤ l3 then
      some (1, t_wide, t_high, t_now)
    else
      if (zrem l3 4) = 3 then
        fX9_make_54 (fX9_make_28 n) t_wide t_high t_now l3 l3 255
      else
        fX9_make_54 (fX9_make_28 n) t_wide t_high t_now l3 l3 0 := rfl
def fX9_make (t_wide : Int32) (t_high : Int32) (t_now : Nat → Int32) (v0 : Int32) (v1 : Int32) : Option (Int32 × Int32 × Int32 × (Nat → Int32)) :=
  zb1 (fX9_side v0) fun r1 =>
  if r1 = 0 then
    some (0, t_wide, t_high, t_now)
  else
    zb1 (fX9_side v1) fun r4 =>
    if r4 = 0 then
      some (0, t_wide, t_high, t_now)
    else
      fX9_make_28 1000 v0 v1 t_now 0
def fX9_put_14 : Nat → (Nat → Int32) → Int32 → Int32 → Int32 → Int32 → Option (Int32 × (Nat → Int32))
  | 0, _, _, _, _, _ => none
  | n + 1, t_now, l1, l2, l3, l4 =>
    if 4 ≤ l4 then
      some (1, t_now)
    else
      zwr t_now 256 ((4 * ((8 * l2) + l1)) + l4) ((zushr l3 (24 - (8 * l4))) &&& 255) fun g2 =>
      zlet (l4 + 1) fun x4 =>
      (fX9_put_14 n) g2 l1 l2 l3 x4
theorem fX9_put_14_s (n : Nat) (t_now : Nat → Int32) (l1 : Int32) (l2 : Int32) (l3 : Int32) (l4 : Int32) : fX9_put_14 (n + 1) t_now l1 l2 l3 l4 =
    if 4 ≤ l4 then
      some (1, t_now)
    else
      zwr t_now 256 ((4 * ((8 * l2) + l1)) + l4) ((zushr l3 (24 - (8 * l4))) &&& 255) fun g2 =>
      zlet (l4 + 1) fun x4 =>
      (fX9_put_14 n) g2 l1 l2 l3 x4 := rfl
def fX9_put (t_wide : Int32) (t_high : Int32) (t_now : Nat → Int32) (v0 : Int32) (v1 : Int32) (v2 : Int32) : Option (Int32 × (Nat → Int32)) :=
  zb1 (fX9_inside t_wide t_high v0 v1) fun r1 =>
  if r1 = 0 then
    some (0, t_now)
  else
    fX9_put_14 1000 t_now v0 v1 v2 0
def fX9_pixel_5 : Nat → Int32 → Int32 → (Nat → Int32) → Int32 → Int32 → Int32 → Int32 → Option (Int32)
  | 0, _, _, _, _, _, _, _ => none
  | n + 1, t_wide, t_high, t_now, l1, l2, l3, l4 =>
    if 4 ≤ l4 then
      some l3
    else
      zb1 (fX9_inside t_wide t_high l1 l2) fun r2 =>
      if r2 = 0 then
        some l3
      else
        zrd t_now 256 ((4 * ((8 * l2) + l1)) + l4) fun x5 =>
        zlet ((256 * l3) + x5) fun x7 =>
        zlet (l4 + 1) fun x8 =>
        (fX9_pixel_5 n) t_wide t_high t_now l1 l2 x7 x8
theorem fX9_pixel_5_s (n : Nat) (t_wide : Int32) (t_high : Int32) (t_now : Nat → Int32) (l1 : Int32) (l2 : Int32) (l3 : Int32) (l4 : Int32) : fX9_pixel_5 (n + 1) t_wide t_high t_now l1 l2 l3 l4 =
    if 4 ≤ l4 then
      some l3
    else
      zb1 (fX9_inside t_wide t_high l1 l2) fun r2 =>
      if r2 = 0 then
        some l3
      else
        zrd t_now 256 ((4 * ((8 * l2) + l1)) + l4) fun x5 =>
        zlet ((256 * l3) + x5) fun x7 =>
        zlet (l4 + 1) fun x8 =>
        (fX9_pixel_5 n) t_wide t_high t_now l1 l2 x7 x8 := rfl
def fX9_pixel (t_wide : Int32) (t_high : Int32) (t_now : Nat → Int32) (v0 : Int32) (v1 : Int32) : Option (Int32) :=
  fX9_pixel_5 1000 t_wide t_high t_now v0 v1 0 0
def fX9_width (t_wide : Int32) : Option (Int32) :=
  some t_wide
def fX9_height (t_high : Int32) : Option (Int32) :=
  some t_high
def fX9_copyBack_2 : Nat → (Nat → Int32) → (Nat → Int32) → Int32 → Option ((Nat → Int32))
  | 0, _, _, _ => none
  | n + 1, t_now, t_fresh, l1 =>
    if 256 ≤ l1 then
      some t_now
    else
      zrd t_fresh 256 l1 fun x2 =>
      zwr t_now 256 l1 x2 fun g4 =>
      zlet (l1 + 1) fun x6 =>
      (fX9_copyBack_2 n) g4 t_fresh x6
theorem fX9_copyBack_2_s (n : Nat) (t_now : Nat → Int32) (t_fresh : Nat → Int32) (l1 : Int32) : fX9_copyBack_2 (n + 1) t_now t_fresh l1 =
    if 256 ≤ l1 then
      some t_now
    else
      zrd t_fresh 256 l1 fun x2 =>
      zwr t_now 256 l1 x2 fun g4 =>
      zlet (l1 + 1) fun x6 =>
      (fX9_copyBack_2 n) g4 t_fresh x6 := rfl
def fX9_copyBack (t_now : Nat → Int32) (t_fresh : Nat → Int32) : Option ((Nat → Int32)) :=
  fX9_copyBack_2 1000 t_now t_fresh 0
def fX9_change_214 (rc13 : Int32 → Int32 → (Nat → Int32) → (Nat → Int32) → Int32 → Int32 → Option (Int32 × Int32 × Int32 × (Nat → Int32) × (Nat → Int32))) (rc23 : Int32 → Int32 → (Nat → Int32) → (Nat → Int32) → Int32 → Int32 → Int32 → Option (Int32 × Int32 × Int32 × (Nat → Int32) × (Nat → Int32))) (rc150 : Int32 → Int32 → (Nat → Int32) → (Nat → Int32) → Int32 → Int32 → Int32 → Int32 → Int32 → Int32 → Int32 → Option (Int32 × Int32 × Int32 × (Nat → Int32) × (Nat → Int32))) (t_wide : Int32) (t_high : Int32) (t_now : Nat → Int32) (t_fresh : Nat → Int32) (l1 : Int32) (l2 : Int32) (l3 : Int32) (l4 : Int32) (l5 : Int32) (l6 : Int32) (l7 : Int32) (k1 : Int32) (k2 : Int32) : Option (Int32 × Int32 × Int32 × (Nat → Int32) × (Nat → Int32)) :=
  zwr t_fresh 256 k1 k2 fun g1 =>
  zlet (l7 + 1) fun x3 =>
  rc150 t_wide t_high t_now g1 l1 l2 l3 l4 l5 l6 x3
def fX9_change_212 (rc13 : Int32 → Int32 → (Nat → Int32) → (Nat → Int32) → Int32 → Int32 → Option (Int32 × Int32 × Int32 × (Nat → Int32) × (Nat → Int32))) (rc23 : Int32 → Int32 → (Nat → Int32) → (Nat → Int32) → Int32 → Int32 → Int32 → Option (Int32 × Int32 × Int32 × (Nat → Int32) × (Nat → Int32))) (rc150 : Int32 → Int32 → (Nat → Int32) → (Nat → Int32) → Int32 → Int32 → Int32 → Int32 → Int32 → Int32 → Int32 → Option (Int32 × Int32 × Int32 × (Nat → Int32) × (Nat → Int32))) (t_wide : Int32) (t_high : Int32) (t_now : Nat → Int32) (t_fresh : Nat → Int32) (l1 : Int32) (l2 : Int32) (l3 : Int32) (l4 : Int32) (l5 : Int32) (l6 : Int32) (l7 : Int32) (l8 : Int32) (k1 : Int32) : Option (Int32 × Int32 × Int32 × (Nat → Int32) × (Nat → Int32)) :=
  fX9_change_214 rc13 rc23 rc150 t_wide t_high t_now t_fresh l1 l2 l3 l4 l5 l6 l7 k1 l8
def fX9_change_195 (rc13 : Int32 → Int32 → (Nat → Int32) → (Nat → Int32) → Int32 → Int32 → Option (Int32 × Int32 × Int32 × (Nat → Int32) × (Nat → Int32))) (rc23 : Int32 → Int32 → (Nat → Int32) → (Nat → Int32) → Int32 → Int32 → Int32 → Option (Int32 × Int32 × Int32 × (Nat → Int32) × (Nat → Int32))) (rc150 : Int32 → Int32 → (Nat → Int32) → (Nat → Int32) → Int32 → Int32 → Int32 → Int32 → Int32 → Int32 → Int32 → Option (Int32 × Int32 × Int32 × (Nat → Int32) × (Nat → Int32))) (t_wide : Int32) (t_high : Int32) (t_now : Nat → Int32) (t_fresh : Nat → Int32) (l1 : Int32) (l2 : Int32) (l3 : Int32) (l4 : Int32) (l5 : Int32) (l6 : Int32) (l7 : Int32) (l8 : Int32) (k1 : Int32) : Option (Int32 × Int32 × Int32 × (Nat → Int32) × (Nat → Int32)) :=
  if l1 = 4 then
    if l7 = 3 then
      fX9_change_214 rc13 rc23 rc150 t_wide t_high t_now t_fresh l1 l2 l3 l4 l5 l6 l7 k1 255
    else
      fX9_change_212 rc13 rc23 rc150 t_wide t_high t_now t_fresh l1 l2 l3 l4 l5 l6 l7 l8 k1
  else
    fX9_change_212 rc13 rc23 rc150 t_wide t_high t_now t_fresh l1 l2 l3 l4 l5 l6 l7 l8 k1
def fX9_change_150 (rc13 : Int32 → Int32 → (Nat → Int32) → (Nat → Int32) → Int32 → Int32 → Option (Int32 × Int32 × Int32 × (Nat → Int32) × (Nat → Int32))) (rc23 : Int32 → Int32 → (Nat → Int32) → (Nat → Int32) → Int32 → Int32 → Int32 → Option (Int32 × Int32 × Int32 × (Nat → Int32) × (Nat → Int32))) : Nat → Int32 → Int32 → (Nat → Int32) → (Nat → Int32) → Int32 → Int32 → Int32 → Int32 → Int32 → Int32 → Int32 → Option (Int32 × Int32 × Int32 × (Nat → Int32) × (Nat → Int32))
  | 0, _, _, _, _, _, _, _, _, _, _, _ => none
  | n + 1, t_wide, t_high, t_now, t_fresh, l1, l2, l3, l4, l5, l6, l7 =>
    if 4 ≤ l7 then
      zlet (l3 + 1) fun x2 =>
      rc23 t_wide t_high t_now t_fresh l1 l2 x2
    else
      zrd t_now 256 (l5 + l7) fun x3 =>
      if l1 = 3 then
        if 3 ≤ l7 then
          fX9_change_195 rc13 rc23 (fX9_change_150 rc13 rc23 n) t_wide t_high t_now t_fresh l1 l2 l3 l4 l5 l6 l7 x3 ((4 * l4) + l7)
        else
          fX9_change_214 rc13 rc23 (fX9_change_150 rc13 rc23 n) t_wide t_high t_now t_fresh l1 l2 l3 l4 l5 l6 l7 ((4 * l4) + l7) l6
      else
        fX9_change_195 rc13 rc23 (fX9_change_150 rc13 rc23 n) t_wide t_high t_now t_fresh l1 l2 l3 l4 l5 l6 l7 x3 ((4 * l4) + l7)
theorem fX9_change_150_s (rc13 : Int32 → Int32 → (Nat → Int32) → (Nat → Int32) → Int32 → Int32 → Option (Int32 × Int32 × Int32 × (Nat → Int32) × (Nat → Int32))) (rc23 : Int32 → Int32 → (Nat → Int32) → (Nat → Int32) → Int32 → Int32 → Int32 → Option (Int32 × Int32 × Int32 × (Nat → Int32) × (Nat → Int32))) (n : Nat) (t_wide : Int32) (t_high : Int32) (t_now : Nat → Int32) (t_fresh : Nat → Int32) (l1 : Int32) (l2 : Int32) (l3 : Int32) (l4 : Int32) (l5 : Int32) (l6 : Int32) (l7 : Int32) : fX9_change_150 rc13 rc23 (n + 1) t_wide t_high t_now t_fresh l1 l2 l3 l4 l5 l6 l7 =
    if 4 ≤ l7 then
      zlet (l3 + 1) fun x2 =>
      rc23 t_wide t_high t_now t_fresh l1 l2 x2
    else
      zrd t_now 256 (l5 + l7) fun x3 =>
      if l1 = 3 then
        if 3 ≤ l7 then
          fX9_change_195 rc13 rc23 (fX9_change_150 rc13 rc23 n) t_wide t_high t_now t_fresh l1 l2 l3 l4 l5 l6 l7 x3 ((4 * l4) + l7)
        else
          fX9_change_214 rc13 rc23 (fX9_change_150 rc13 rc23 n) t_wide t_high t_now t_fresh l1 l2 l3 l4 l5 l6 l7 ((4 * l4) + l7) l6
      else
        fX9_change_195 rc13 rc23 (fX9_change_150 rc13 rc23 n) t_wide t_high t_now t_fresh l1 l2 l3 l4 l5 l6 l7 x3 ((4 * l4) + l7) := rfl
def fX9_change_92 (rc13 : Int32 → Int32 → (Nat → Int32) → (Nat → Int32) → Int32 → Int32 → Option (Int32 × Int32 × Int32 × (Nat → Int32) × (Nat → Int32))) (rc23 : Int32 → Int32 → (Nat → Int32) → (Nat → Int32) → Int32 → Int32 → Int32 → Option (Int32 × Int32 × Int32 × (Nat → Int32) × (Nat → Int32))) (t_wide : Int32) (t_high : Int32) (t_now : Nat → Int32) (t_fresh : Nat → Int32) (l1 : Int32) (l2 : Int32) (l3 : Int32) (k0 : Int32) : Option (Int32 × Int32 × Int32 × (Nat → Int32) × (Nat → Int32)) :=
  zlet (4 * ((8 * l2) + l3)) fun x1 =>
  zrd t_now 256 x1 fun x2 =>
  zrd t_now 256 (x1 + 1) fun x4 =>
  zrd t_now 256 (x1 + 2) fun x6 =>
  zlet ((((77 * x2) + (150 * x4)) + (29 * x6)) / 256) fun x8 =>
  fX9_change_150 rc13 rc23 1000 t_wide t_high t_now t_fresh l1 l2 l3 k0 x1 x8 0
def fX9_change_23 (rc13 : Int32 → Int32 → (Nat → Int32) → (Nat → Int32) → Int32 → Int32 → Option (Int32 × Int32 × Int32 × (Nat → Int32) × (Nat → Int32))) : Nat → Int32 → Int32 → (Nat → Int32) → (Nat → Int32) → Int32 → Int32 → Int32 → Option (Int32 × Int32 × Int32 × (Nat → Int32) × (Nat → Int32))
  | 0, _, _, _, _, _, _, _ => none
  | n + 1, t_wide, t_high, t_now, t_fresh, l1, l2, l3 =>
    if t_wide ≤ l3 then
      zlet (l2 + 1) fun x2 =>
      rc13 t_wide t_high t_now t_fresh l1 x2
    else
      if l1 = 0 then
        fX9_change_92 rc13 (fX9_change_23 rc13 n) t_wide t_high t_now t_fresh l1 l2 l3 ((((8 * l2) + t_wide) - 1) - l3)
      else
        if l1 = 1 then
          fX9_change_92 rc13 (fX9_change_23 rc13 n) t_wide t_high t_now t_fresh l1 l2 l3 ((8 * ((t_high - 1) - l2)) + l3)
        else
          if l1 = 2 then
            fX9_change_92 rc13 (fX9_change_23 rc13 n) t_wide t_high t_now t_fresh l1 l2 l3 ((8 * l3) + l2)
          else
            fX9_change_92 rc13 (fX9_change_23 rc13 n) t_wide t_high t_now t_fresh l1 l2 l3 ((8 * l2) + l3)
theorem fX9_change_23_s (rc13 : Int32 → Int32 → (Nat → Int32) → (Nat → Int32) → Int32 → Int32 → Option (Int32 × Int32 × Int32 × (Nat → Int32) × (Nat → Int32))) (n : Nat) (t_wide : Int32) (t_high : Int32) (t_now : Nat → Int32) (t_fresh : Nat → Int32) (l1 : Int32) (l2 : Int32) (l3 : Int32) : fX9_change_23 rc13 (n + 1) t_wide t_high t_now t_fresh l1 l2 l3 =
    if t_wide ≤ l3 then
      zlet (l2 + 1) fun x2 =>
      rc13 t_wide t_high t_now t_fresh l1 x2
    else
      if l1 = 0 then
        fX9_change_92 rc13 (fX9_change_23 rc13 n) t_wide t_high t_now t_fresh l1 l2 l3 ((((8 * l2) + t_wide) - 1) - l3)
      else
        if l1 = 1 then
          fX9_change_92 rc13 (fX9_change_23 rc13 n) t_wide t_high t_now t_fresh l1 l2 l3 ((8 * ((t_high - 1) - l2)) + l3)
        else
          if l1 = 2 then
            fX9_change_92 rc13 (fX9_change_23 rc13 n) t_wide t_high t_now t_fresh l1 l2 l3 ((8 * l3) + l2)
          else
            fX9_change_92 rc13 (fX9_change_23 rc13 n) t_wide t_high t_now t_fresh l1 l2 l3 ((8 * l2) + l3) := rfl
def fX9_change_13 : Nat → Int32 → Int32 → (Nat → Int32) → (Nat → Int32) → Int32 → Int32 → Option (Int32 × Int32 × Int32 × (Nat → Int32) × (Nat → Int32))
  | 0, _, _, _, _, _, _ => none
  | n + 1, t_wide, t_high, t_now, t_fresh, l1, l2 =>
    if t_high ≤ l2 then
      zb1 (fX9_copyBack t_now t_fresh) fun u2 =>
      if l1 = 2 then
        some (1, t_high, t_wide, u2, t_fresh)
      else
        some (1, t_wide, t_high, u2, t_fresh)
    else
      fX9_change_23 (fX9_change_13 n) 1000 t_wide t_high t_now t_fresh l1 l2 0
theorem fX9_change_13_s (n : Nat) (t_wide : Int32) (t_high : Int32) (t_now : Nat → Int32) (t_fresh : Nat → Int32) (l1 : Int32) (l2 : Int32) : fX9_change_13 (n + 1) t_wide t_high t_now t_fresh l1 l2 =
    if t_high ≤ l2 then
      zb1 (fX9_copyBack t_now t_fresh) fun u2 =>
      if l1 = 2 then
        some (1, t_high, t_wide, u2, t_fresh)
      else
        some (1, t_wide, t_high, u2, t_fresh)
    else
      fX9_change_23 (fX9_change_13 n) 1000 t_wide t_high t_now t_fresh l1 l2 0 := rfl
def fX9_change (t_wide : Int32) (t_high : Int32) (t_now : Nat → Int32) (t_fresh : Nat → Int32) (v0 : Int32) : Option (Int32 × Int32 × Int32 × (Nat → Int32) × (Nat → Int32)) :=
  if v0 < 0 then
    some (0, t_wide, t_high, t_now, t_fresh)
  else
    if v0 ≤ 4 then
      fX9_change_13 1000 t_wide t_high t_now t_fresh v0 0
    else
      some (0, t_wide, t_high, t_now, t_fresh)
def fX9_channel (t_wide : Int32) (t_now : Nat → Int32) (v0 : Int32) (v1 : Int32) : Option (Int32) :=
  znz t_wide <|
  znz t_wide <|
  zrd t_now 256 ((4 * ((8 * (v0 / t_wide)) + (zrem v0 t_wide))) + v1) fun x3 =>
  some x3
def fX9_opaque_38 (rc4 : Int32 → Int32 → (Nat → Int32) → Int32 → Int32 → Option (Int32)) (t_wide : Int32) (t_high : Int32) (t_now : Nat → Int32) (l2 : Int32) (k0 : Int32) : Option (Int32) :=
  zlet (l2 + 1) fun x1 =>
  rc4 t_wide t_high t_now k0 x1
def fX9_opaque_37 (rc4 : Int32 → Int32 → (Nat → Int32) → Int32 → Int32 → Option (Int32)) (t_wide : Int32) (t_high : Int32) (t_now : Nat → Int32) (l2 : Int32) : Option (Int32) :=
  fX9_opaque_38 rc4 t_wide t_high t_now l2 0
def fX9_opaque_4 : Nat → Int32 → Int32 → (Nat → Int32) → Int32 → Int32 → Option (Int32)
  | 0, _, _, _, _, _ => none
  | n + 1, t_wide, t_high, t_now, l1, l2 =>
    if (t_wide * t_high) ≤ l2 then
      zbo l1 <|
      some l1
    else
      if l1 = 0 then
        fX9_opaque_37 (fX9_opaque_4 n) t_wide t_high t_now l2
      else
        zb1 (fX9_channel t_wide t_now l2 3) fun r4 =>
        if r4 = 255 then
          fX9_opaque_38 (fX9_opaque_4 n) t_wide t_high t_now l2 1
        else
          fX9_opaque_37 (fX9_opaque_4 n) t_wide t_high t_now l2
theorem fX9_opaque_4_s (n : Nat) (t_wide : Int32) (t_high : Int32) (t_now : Nat → Int32) (l1 : Int32) (l2 : Int32) : fX9_opaque_4 (n + 1) t_wide t_high t_now l1 l2 =
    if (t_wide * t_high) ≤ l2 then
      zbo l1 <|
      some l1
    else
      if l1 = 0 then
        fX9_opaque_37 (fX9_opaque_4 n) t_wide t_high t_now l2
      else
        zb1 (fX9_channel t_wide t_now l2 3) fun r4 =>
        if r4 = 255 then
          fX9_opaque_38 (fX9_opaque_4 n) t_wide t_high t_now l2 1
        else
          fX9_opaque_37 (fX9_opaque_4 n) t_wide t_high t_now l2 := rfl
def fX9_opaque (t_wide : Int32) (t_high : Int32) (t_now : Nat → Int32) : Option (Int32) :=
  fX9_opaque_4 1000 t_wide t_high t_now 1 0
def fX9_grey_59 (rc7 : Int32 → Int32 → (Nat → Int32) → Int32 → Int32 → Option (Int32)) (t_wide : Int32) (t_high : Int32) (t_now : Nat → Int32) (l2 : Int32) (k0 : Int32) : Option (Int32) :=
  zlet (l2 + 1) fun x1 =>
  rc7 t_wide t_high t_now k0 x1
def fX9_grey_58 (rc7 : Int32 → Int32 → (Nat → Int32) → Int32 → Int32 → Option (Int32)) (t_wide : Int32) (t_high : Int32) (t_now : Nat → Int32) (l2 : Int32) : Option (Int32) :=
  fX9_grey_59 rc7 t_wide t_high t_now l2 0
def fX9_grey_7 : Nat → Int32 → Int32 → (Nat → Int32) → Int32 → Int32 → Option (Int32)
  | 0, _, _, _, _, _ => none
  | n + 1, t_wide, t_high, t_now, l1, l2 =>
    if (t_wide * t_high) ≤ l2 then
      zbo l1 <|
      some l1
    else
      if l1 = 0 then
        fX9_grey_58 (fX9_grey_7 n) t_wide t_high t_now l2
      else
        zb1 (fX9_channel t_wide t_now l2 0) fun r4 =>
        zb1 (fX9_channel t_wide t_now l2 1) fun r6 =>
        if r4 = r6 then
          zb1 (fX9_channel t_wide t_now l2 1) fun r9 =>
          zb1 (fX9_channel t_wide t_now l2 2) fun r11 =>
          if r9 = r11 then
            fX9_grey_59 (fX9_grey_7 n) t_wide t_high t_now l2 1
          else
            fX9_grey_58 (fX9_grey_7 n) t_wide t_high t_now l2
        else
          fX9_grey_58 (fX9_grey_7 n) t_wide t_high t_now l2
theorem fX9_grey_7_s (n : Nat) (t_wide : Int32) (t_high : Int32) (t_now : Nat → Int32) (l1 : Int32) (l2 : Int32) : fX9_grey_7 (n + 1) t_wide t_high t_now l1 l2 =
    if (t_wide * t_high) ≤ l2 then
      zbo l1 <|
      some l1
    else
      if l1 = 0 then
        fX9_grey_58 (fX9_grey_7 n) t_wide t_high t_now l2
      else
        zb1 (fX9_channel t_wide t_now l2 0) fun r4 =>
        zb1 (fX9_channel t_wide t_now l2 1) fun r6 =>
        if r4 = r6 then
          zb1 (fX9_channel t_wide t_now l2 1) fun r9 =>
          zb1 (fX9_channel t_wide t_now l2 2) fun r11 =>
          if r9 = r11 then
            fX9_grey_59 (fX9_grey_7 n) t_wide t_high t_now l2 1
          else
            fX9_grey_58 (fX9_grey_7 n) t_wide t_high t_now l2
        else
          fX9_grey_58 (fX9_grey_7 n) t_wide t_high t_now l2 := rfl
def fX9_grey (t_wide : Int32) (t_high : Int32) (t_now : Nat → Int32) : Option (Int32) :=
  zb1 (fX9_opaque t_wide t_high t_now) fun r1 =>
  fX9_grey_7 1000 t_wide t_high t_now r1 0
def fX9_alike_37 (rc5 : Int32 → (Nat → Int32) → Int32 → Int32 → Int32 → Int32 → Option (Int32)) (t_wide : Int32) (t_now : Nat → Int32) (l1 : Int32) (l2 : Int32) (l4 : Int32) (k0 : Int32) : Option (Int32) :=
  zlet (l4 + 1) fun x1 =>
  rc5 t_wide t_now l1 l2 k0 x1
def fX9_alike_36 (rc5 : Int32 → (Nat → Int32) → Int32 → Int32 → Int32 → Int32 → Option (Int32)) (t_wide : Int32) (t_now : Nat → Int32) (l1 : Int32) (l2 : Int32) (l4 : Int32) : Option (Int32) :=
  fX9_alike_37 rc5 t_wide t_now l1 l2 l4 0
def fX9_alike_5 : Nat → Int32 → (Nat → Int32) → Int32 → Int32 → Int32 → Int32 → Option (Int32)
  | 0, _, _, _, _, _, _ => none
  | n + 1, t_wide, t_now, l1, l2, l3, l4 =>
    if 4 ≤ l4 then
      zbo l3 <|
      some l3
    else
      if l3 = 0 then
        fX9_alike_36 (fX9_alike_5 n) t_wide t_now l1 l2 l4
      else
        zb1 (fX9_channel t_wide t_now l1 l4) fun r4 =>
        zb1 (fX9_channel t_wide t_now l2 l4) fun r6 =>
        if r4 = r6 then
          fX9_alike_37 (fX9_alike_5 n) t_wide t_now l1 l2 l4 1
        else
          fX9_alike_36 (fX9_alike_5 n) t_wide t_now l1 l2 l4
theorem fX9_alike_5_s (n : Nat) (t_wide : Int32) (t_now : Nat → Int32) (l1 : Int32) (l2 : Int32) (l3 : Int32) (l4 : Int32) : fX9_alike_5 (n + 1) t_wide t_now l1 l2 l3 l4 =
    if 4 ≤ l4 then
      zbo l3 <|
      some l3
    else
      if l3 = 0 then
        fX9_alike_36 (fX9_alike_5 n) t_wide t_now l1 l2 l4
      else
        zb1 (fX9_channel t_wide t_now l1 l4) fun r4 =>
        zb1 (fX9_channel t_wide t_now l2 l4) fun r6 =>
        if r4 = r6 then
          fX9_alike_37 (fX9_alike_5 n) t_wide t_now l1 l2 l4 1
        else
          fX9_alike_36 (fX9_alike_5 n) t_wide t_now l1 l2 l4 := rfl
def fX9_alike (t_wide : Int32) (t_now : Nat → Int32) (v0 : Int32) (v1 : Int32) : Option (Int32) :=
  fX9_alike_5 1000 t_wide t_now v0 v1 1 0
def fX9_feed (t_size : Int32) (t_file : Nat → Int32) (v0 : Int32) : Option (Int32 × Int32 × (Nat → Int32)) :=
  if v0 < 0 then
    some (0, t_size, t_file)
  else
    if 255 < v0 then
      some (0, t_size, t_file)
    else
      if t_size = 800 then
        some (0, t_size, t_file)
      else
        zwr t_file 800 t_size v0 fun g4 =>
        zlet (t_size + 1) fun x6 =>
        some (1, x6, g4)
def fX9_cut (t_size : Int32) (v0 : Int32) : Option (Int32 × Int32) :=
  if v0 < 0 then
    some (0, t_size)
  else
    if v0 ≤ t_size then
      some (1, v0)
    else
      some (0, t_size)
def fX9_alter (t_size : Int32) (t_file : Nat → Int32) (v0 : Int32) (v1 : Int32) : Option (Int32 × (Nat → Int32)) :=
  if v0 < 0 then
    some (0, t_file)
  else
    if t_size ≤ v0 then
      some (0, t_file)
    else
      if v1 < 0 then
        some (0, t_file)
      else
        if v1 ≤ 255 then
          zwr t_file 800 v0 v1 fun g5 =>
          some (1, g5)
        else
          some (0, t_file)
def fX9_length (t_size : Int32) : Option (Int32) :=
  some t_size
def fX9_byteAt_12 : Option (Int32) :=
  some (-1)
def fX9_byteAt (t_size : Int32) (t_file : Nat → Int32) (v0 : Int32) : Option (Int32) :=
  if v0 < 0 then
    fX9_byteAt_12
  else
    if v0 < t_size then
      zrd t_file 800 v0 fun x3 =>
      some x3
    else
      fX9_byteAt_12
def fX9_begins (t_size : Int32) (t_file : Nat → Int32) (v0 : Int32) (v1 : Int32) : Option (Int32) :=
  if t_size ≤ 1 then
    some 0
  else
    zrd t_file 800 0 fun x2 =>
    if x2 = v0 then
      zrd t_file 800 1 fun x5 =>
      if x5 = v1 then
        some 1
      else
        some 0
    else
      some 0
def fX9_sniff_220 : Option (Int32) :=
  some 3
def fX9_sniff_211 (l1 : Int32) (k0 : Int32) : Option (Int32) :=
  if l1 = 0 then
    if k0 = 0 then
      some (-1)
    else
      fX9_sniff_220
  else
    fX9_sniff_220
def fX9_sniff_210 (l1 : Int32) : Option (Int32) :=
  fX9_sniff_211 l1 0
def fX9_sniff_194 (t_file : Nat → Int32) (l1 : Int32) : Option (Int32) :=
  zrd t_file 800 16 fun x1 =>
  if x1 = 8 then
    fX9_sniff_211 l1 1
  else
    fX9_sniff_210 l1
def fX9_sniff_172 (t_file : Nat → Int32) (k0 : Int32) : Option (Int32) :=
  zrd t_file 800 2 fun x1 =>
  if x1 = 3 then
    fX9_sniff_194 t_file k0
  else
    zrd t_file 800 2 fun x4 =>
    if x4 = 11 then
      fX9_sniff_194 t_file k0
    else
      fX9_sniff_210 k0
def fX9_sniff_167 (t_file : Nat → Int32) : Option (Int32) :=
  fX9_sniff_172 t_file 1
def fX9_sniff_171 (t_file : Nat → Int32) : Option (Int32) :=
  fX9_sniff_172 t_file 0
def fX9_sniff_143 (t_file : Nat → Int32) : Option (Int32) :=
  zrd t_file 800 16 fun x1 =>
  if x1 = 24 then
    fX9_sniff_167 t_file
  else
    zrd t_file 800 16 fun x4 =>
    if x4 = 32 then
      fX9_sniff_167 t_file
    else
      fX9_sniff_171 t_file
def fX9_sniff_43 (t_size : Int32) (t_file : Nat → Int32) : Option (Int32) :=
  zb1 (fX9_begins t_size t_file 80 50) fun r1 =>
  if r1 = 0 then
    zb1 (fX9_begins t_size t_file 80 51) fun r4 =>
    if r4 = 0 then
      zb1 (fX9_begins t_size t_file 80 53) fun r7 =>
      if r7 = 0 then
        zb1 (fX9_begins t_size t_file 80 54) fun r10 =>
        if r10 = 0 then
          zb1 (fX9_begins t_size t_file 66 77) fun r13 =>
          if r13 = 0 then
            if t_size < 18 then
              some (-1)
            else
              zrd t_file 800 1 fun x17 =>
              if x17 = 0 then
                zrd t_file 800 2 fun x20 =>
                if x20 = 2 then
                  fX9_sniff_143 t_file
                else
                  zrd t_file 800 2 fun x23 =>
                  if x23 = 10 then
                    fX9_sniff_143 t_file
                  else
                    fX9_sniff_171 t_file
              else
                some (-1)
          else
            some 2
        else
          some 1
      else
        some 1
    else
      some 1
  else
    some 1
def fX9_sniff (t_size : Int32) (t_file : Nat → Int32) : Option (Int32) :=
  if t_size ≤ 3 then
    fX9_sniff_43 t_size t_file
  else
    zb1 (fX9_begins t_size t_file 113 111) fun r2 =>
    if r2 = 0 then
      fX9_sniff_43 t_size t_file
    else
      zrd t_file 800 2 fun x5 =>
      if x5 = 105 then
        zrd t_file 800 3 fun x8 =>
        if x8 = 102 then
          some 0
        else
          fX9_sniff_43 t_size t_file
      else
        fX9_sniff_43 t_size t_file
def rmX9_inside : Room := { frames := 0, cells := 0, slots := 0, locals := 0 }
theorem kX9_inside_7 {args : Array Value} {s : State} (h : ∀ w ∈ wsX9_inside, w.before args s = true) : (Cond.fieldLink RX9 7 "FourPictureFilesModel" "wide" "I").before args s = true := h _ (by decide +kernel)
theorem kX9_inside_13 {args : Array Value} {s : State} (h : ∀ w ∈ wsX9_inside, w.before args s = true) : (Cond.fieldLink RX9 13 "FourPictureFilesModel" "high" "I").before args s = true := h _ (by decide +kernel)
theorem iX9_inside_X9 : ∀ w ∈ u_ws RX9 TX9 15, w ∈ wsX9_inside := by decide +kernel
set_option maxHeartbeats 4000000 in
set_option maxRecDepth 100000 in
theorem wX9_inside_0 {p : Program} {l : Launch} {e : Env} {s : State} {m : MethodId} {args : Array Value} {below : List Frame} {meth : Method} {c : Code} {D : va_G} {A : Nat → Prop} {Q : State → Prop} {cI : ClassId} {h_t h_t_now h_t_file h_t_fresh h_t_colour h_t_table h_t_last h_t_one : Nat} {t_wide : Int32} {t_high : Int32} {t_size : Int32} {t_at : Int32} {t_fault : Int32} {t_newWide : Int32} {t_newHigh : Int32} {t_colours : Int32} {t_now : Nat → Int32} {t_file : Nat → Int32} {t_fresh : Nat → Int32} {t_colour : Nat → Int32} {t_table : Nat → Int32} {t_last : Nat → Int32} {t_one : Nat → Int32} {r0 : Int32} (C : CallFix p m c cX9_inside 3 s args wsX9_inside RX9) (hN : zN s) (hK : va_K D vwCl [(cI, .int)] s) (hA : ∀ q, s.heap.size ≤ q → A q) (hE : zEz p l e rmX9_inside s m args below meth c cX9_inside D A Q (zwX9 cI h_t h_t_now h_t_file h_t_fresh h_t_colour h_t_table h_t_last h_t_one t_wide t_high t_size t_at t_fault t_newWide t_newHigh t_colours t_now t_file t_fresh t_colour t_table t_last t_one) r0) {v0 : Int32} {v1 : Int32} {H : Heap} {locs : List Loc} {ls : Array Slot} : fX9_inside t_wide t_high v0 v1 = some r0 → va_P D vwCl (zwX9 cI h_t h_t_now h_t_file h_t_fresh h_t_colour h_t_table h_t_last h_t_one t_wide t_high t_size t_at t_fault t_newWide t_newHigh t_colours t_now t_file t_fresh t_colour t_table t_last t_one) H → va_D A (zwX9 cI h_t h_t_now h_t_file h_t_fresh h_t_colour h_t_table h_t_last h_t_one t_wide t_high t_size t_at t_fault t_newWide t_newHigh t_colours t_now t_file t_fresh t_colour t_table t_last t_one) → va_S A s.heap H locs → lv_has ls 3 [(0, .ref h_t), (1, .int v0), (2, .int v1)] → W p l e rmX9_inside s m args below meth c H locs 0 0 Q (F0 m 0 ls []) := by
  intro hf hP hD hS hl
  obtain ⟨hx, hb, hml, hown, hts⟩ := id C
  unfold fX9_inside at hf
  refine lv_iload_n hx hb dX9_inside_0 rfl (lv_at hl 1 rfl) ?_
  refine lv_if_lt (tgt := 28) hx hb dX9_inside_1 (by decide) (fun c1 => ?_) (fun c1 => ?_)
  · replace hf := zif_t hf c1
    refine lv_iconst (v := 0) hx hb dX9_inside_28 (by decide) ?_
    cases hf
    exact hE _ _ _ _ dX9_inside_29 rfl hP hD hS
  · replace hf := zif_f hf c1
    refine lv_iload_n hx hb dX9_inside_4 rfl (lv_at hl 1 rfl) ?_
    refine lv_aload_n hx hb dX9_inside_5 rfl (lv_at hl 0 rfl) ?_
    refine va_get (D := D) (ci := 8) (v := .int t_wide) (C := RX9) (T := TX9) (N := 15) hx hb hts iX9_inside_X9 hown hK hP 0 rfl rfl 0 (by decide) (kX9_inside_7 hts) (fun _ h9 => h9) rfl dX9_inside_6 ?_
    refine lv_icmp_ge (tgt := 28) hx hb dX9_inside_9 (by decide) (fun c2 => ?_) (fun c2 => ?_)
    · replace hf := zif_t hf c2
      refine lv_iconst (v := 0) hx hb dX9_inside_28 (by decide) ?_
      cases hf
      exact hE _ _ _ _ dX9_inside_29 rfl hP hD hS
    · replace hf := zif_f hf c2
      refine lv_iload_n hx hb dX9_inside_12 rfl (lv_at hl 2 rfl) ?_
      refine lv_if_lt (tgt := 28) hx hb dX9_inside_13 (by decide) (fun c3 => ?_) (fun c3 => ?_)
      · replace hf := zif_t hf c3
        refine lv_iconst (v := 0) hx hb dX9_inside_28 (by decide) ?_
        cases hf
        exact hE _ _ _ _ dX9_inside_29 rfl hP hD hS
      · replace hf := zif_f hf c3
        refine lv_iload_n hx hb dX9_inside_16 rfl (lv_at hl 2 rfl) ?_
        refine lv_aload_n hx hb dX9_inside_17 rfl (lv_at hl 0 rfl) ?_
        refine va_get (D := D) (ci := 8) (v := .int t_high) (C := RX9) (T := TX9) (N := 15) hx hb hts iX9_inside_X9 hown hK hP 0 rfl rfl 1 (by decide) (kX9_inside_13 hts) (fun _ h9 => h9) rfl dX9_inside_18 ?_
        refine lv_icmp_ge (tgt := 28) hx hb dX9_inside_21 (by decide) (fun c4 => ?_) (fun c4 => ?_)
        · replace hf := zif_t hf c4
          refine lv_iconst (v := 0) hx hb dX9_inside_28 (by decide) ?_
          cases hf
          exact hE _ _ _ _ dX9_inside_29 rfl hP hD hS
        · replace hf := zif_f hf c4
          refine lv_iconst (v := 1) hx hb dX9_inside_24 (by decide) ?_
          refine lv_goto (tgt := 29) hx hb dX9_inside_25 (by decide) ?_
          cases hf
          exact hE _ _ _ _ dX9_inside_29 rfl hP hD hS
set_option maxHeartbeats 4000000 in
set_option maxRecDepth 100000 in
theorem mX9_inside (l : Launch) (D : va_G) (cI : ClassId) (sz : Nat) (h_t h_t_now h_t_file h_t_fresh h_t_colour h_t_table h_t_last h_t_one : Nat) (t_wide : Int32) (t_high : Int32) (t_size : Int32) (t_at : Int32) (t_fault : Int32) (t_newWide : Int32) (t_newHigh : Int32) (t_colours : Int32) (t_now : Nat → Int32) (t_file : Nat → Int32) (t_fresh : Nat → Int32) (t_colour : Nat → Int32) (t_table : Nat → Int32) (t_last : Nat → Int32) (t_one : Nat → Int32) (v0 v1 : Int32) (r0 : Int32) (hf : fX9_inside t_wide t_high v0 v1 = some r0) : Met l yX9_inside wsX9_inside rmX9_inside (va_Pc [.ref h_t, .int v0, .int v1] (zP D [(cI, .int)] (zwX9 cI h_t h_t_now h_t_file h_t_fresh h_t_colour h_t_table h_t_last h_t_one t_wide t_high t_size t_at t_fault t_newWide t_newHigh t_colours t_now t_file t_fresh t_colour t_table t_last t_one) sz)) (zQi D (zwX9 cI h_t h_t_now h_t_file h_t_fresh h_t_colour h_t_table h_t_last h_t_one t_wide t_high t_size t_at t_fault t_newWide t_newHigh t_colours t_now t_file t_fresh t_colour t_table t_last t_one) sz r0 (zwX9 cI h_t h_t_now h_t_file h_t_fresh h_t_colour h_t_table h_t_last h_t_one t_wide t_high t_size t_at t_fault t_newWide t_newHigh t_colours t_now t_file t_fresh t_colour t_table t_last t_one)) 0 0 (va_A (zwX9 cI h_t h_t_now h_t_file h_t_fresh h_t_colour h_t_table h_t_last h_t_one t_wide t_high t_size t_at t_fault t_newWide t_newHigh t_colours t_now t_file t_fresh t_colour t_table t_last t_one) sz) := by
  refine Met.ofW (cc := cX9_inside) (maxL := 3) (ret := (some .boolean)) (by decide) rfl ?_
  intro p e s m args below meth c s₁ B hml hv
  obtain ⟨rfl, hsz, hP, hK, hD0, hN⟩ := hv
  subst hsz
  have C : CallFix p m c cX9_inside 3 s [.ref h_t, .int v0, .int v1].toArray wsX9_inside RX9 := ⟨B.exec, B.bytes, hml, findClass_of_methodNamed B.named, atoms_spec (ws := wsX9_inside) B.pre⟩
  have hl := lv_entry ([.ref h_t, .int v0, .int v1]) (n := 3) (Nat.le_of_ble_eq_true rfl)
  rw [lg_entry_eq]
  exact wX9_inside_0 (A := va_A (zwX9 cI h_t h_t_now h_t_file h_t_fresh h_t_colour h_t_table h_t_last h_t_one t_wide t_high t_size t_at t_fault t_newWide t_newHigh t_colours t_now t_file t_fresh t_colour t_table t_last t_one) s.heap.size) C hN hK (fun q h => Or.inr h) (fun H locs pc ls d hn hP hD hS => zend_z C.1 C.2.1 B.returns B.notSynchronized d hn hP hD hS) hf hP hD0.self va_S.rf hl
def rmX9_side : Room := { frames := 0, cells := 0, slots := 0, locals := 0 }
set_option maxHeartbeats 4000000 in
set_option maxRecDepth 100000 in
theorem wX9_side_0 {p : Program} {l : Launch} {e : Env} {s : State} {m : MethodId} {args : Array Value} {below : List Frame} {meth : Method} {c : Code} {D : va_G} {A : Nat → Prop} {Q : State → Prop} {cI : ClassId} {r0 : Int32} (C : CallFix p m c cX9_side 1 s args wsX9_side RX9) (hN : zN s) (hK : va_K D vwCl [(cI, .int)] s) (hA : ∀ q, s.heap.size ≤ q → A q) (hE : zEz p l e rmX9_side s m args below meth c cX9_side D A Q (([] : va_W)) r0) {v0 : Int32} {H : Heap} {locs : List Loc} {ls : Array Slot} : fX9_side v0 = some r0 → va_P D vwCl (([] : va_W)) H → va_D A (([] : va_W)) → va_S A s.heap H locs → lv_has ls 1 [(0, .int v0)] → W p l e rmX9_side s m args below meth c H locs 0 0 Q (F0 m 0 ls []) := by
  intro hf hP hD hS hl
  obtain ⟨hx, hb, hml, hown, hts⟩ := id C
  unfold fX9_side at hf
  refine lv_iload_n hx hb dX9_side_0 rfl (lv_at hl 0 rfl) ?_
  refine lv_iconst (v := 1) hx hb dX9_side_1 (by decide) ?_
  refine lv_icmp_lt (tgt := 15) hx hb dX9_side_2 (by decide) (fun c1 => ?_) (fun c1 => ?_)
  · replace hf := zif_t hf c1
    refine lv_iconst (v := 0) hx hb dX9_side_15 (by decide) ?_
    cases hf
    exact hE _ _ _ _ dX9_side_16 rfl hP hD hS
  · replace hf := zif_f hf c1
    refine lv_iload_n hx hb dX9_side_5 rfl (lv_at hl 0 rfl) ?_
    refine lv_bipush (v := 8) hx hb dX9_side_6 (by decide) ?_
    refine lv_icmp_gt (tgt := 15) hx hb dX9_side_8 (by decide) (fun c2 => ?_) (fun c2 => ?_)
    · replace hf := zif_t hf c2
      refine lv_iconst (v := 0) hx hb dX9_side_15 (by decide) ?_
      cases hf
      exact hE _ _ _ _ dX9_side_16 rfl hP hD hS
    · replace hf := zif_f hf c2
      refine lv_iconst (v := 1) hx hb dX9_side_11 (by decide) ?_
      refine lv_goto (tgt := 16) hx hb dX9_side_12 (by decide) ?_
      cases hf
      exact hE _ _ _ _ dX9_side_16 rfl hP hD hS
set_option maxHeartbeats 4000000 in
set_option maxRecDepth 100000 in
theorem mX9_side (l : Launch) (D : va_G) (cI : ClassId) (sz : Nat) (v0 : Int32) (r0 : Int32) (hf : fX9_side v0 = some r0) : Met l yX9_side wsX9_side rmX9_side (va_Pc [.int v0] (zP D [(cI, .int)] (([] : va_W)) sz)) (zQi D (([] : va_W)) sz r0 (([] : va_W))) 0 0 (va_A (([] : va_W)) sz) := by
  refine Met.ofW (cc := cX9_side) (maxL := 1) (ret := (some .boolean)) (by decide) rfl ?_
  intro p e s m args below meth c s₁ B hml hv
  obtain ⟨rfl, hsz, hP, hK, hD0, hN⟩ := hv
  subst hsz
  have C : CallFix p m c cX9_side 1 s [.int v0].toArray wsX9_side RX9 := ⟨B.exec, B.bytes, hml, findClass_of_methodNamed B.named, atoms_spec (ws := wsX9_side) B.pre⟩
  have hl := lv_entry ([.int v0]) (n := 1) (Nat.le_of_ble_eq_true rfl)
  rw [lg_entry_eq]
  exact wX9_side_0 (A := va_A (([] : va_W)) s.heap.size) C hN hK (fun q h => Or.inr h) (fun H locs pc ls d hn hP hD hS => zend_z C.1 C.2.1 B.returns B.notSynchronized d hn hP hD hS) hf hP hD0.self va_S.rf hl
def rmX9_make : Room := { frames := 1, cells := 0, slots := 0, locals := 20 }
theorem kX9_make_7 {args : Array Value} {s : State} (h : ∀ w ∈ wsX9_make, w.before args s = true) : (Cond.fieldLink RX9 7 "FourPictureFilesModel" "wide" "I").before args s = true := h _ (by decide +kernel)
theorem kX9_make_13 {args : Array Value} {s : State} (h : ∀ w ∈ wsX9_make, w.before args s = true) : (Cond.fieldLink RX9 13 "FourPictureFilesModel" "high" "I").before args s = true := h _ (by decide +kernel)
theorem kX9_make_16 {args : Array Value} {s : State} (h : ∀ w ∈ wsX9_make, w.before args s = true) : (Cond.fieldLink RX9 16 "FourPictureFilesModel" "now" "[I").before args s = true := h _ (by decide +kernel)
theorem iX9_make_X9 : ∀ w ∈ u_ws RX9 TX9 15, w ∈ wsX9_make := by decide +kernel
theorem qX9_make_X9_side_38 {args : Array Value} {s : State} (hts : ∀ w ∈ wsX9_make, w.before args s = true) : CallB rmX9_make s args RX9 38 yX9_side cX9_side 1 (some .boolean) wsX9_side rmX9_side 0 0 1 ∧ (Cond.static yX9_side).before args s = true := va_cwS 1 hts gX9_make_X9_side rfl rfl rfl (by decide +kernel) ⟨Nat.le_of_ble_eq_true rfl, Nat.le_of_ble_eq_true rfl⟩
set_option maxHeartbeats 4000000 in
set_option maxRecDepth 100000 in
theorem wX9_make_54 {p : Program} {l : Launch} {e : Env} {s : State} {m : MethodId} {args : Array Value} {below : List Frame} {meth : Method} {c : Code} {D : va_G} {A : Nat → Prop} {Q : State → Prop} {cI : ClassId} {h_t h_t_now h_t_file h_t_fresh h_t_colour h_t_table h_t_last h_t_one : Nat} {t_size : Int32} {t_at : Int32} {t_fault : Int32} {t_newWide : Int32} {t_newHigh : Int32} {t_colours : Int32} {t_file : Nat → Int32} {t_fresh : Nat → Int32} {t_colour : Nat → Int32} {t_table : Nat → Int32} {t_last : Nat → Int32} {t_one : Nat → Int32} {r0 : Int32} {zt_wide : Int32} {zt_high : Int32} {zt_now : Nat → Int32} (C : CallFix p m c cX9_make 4 s args wsX9_make RX9) (hN : zN s) (hK : va_K D vwCl [(cI, .int)] s) (hA : ∀ q, s.heap.size ≤ q → A q) (hE : zEz p l e rmX9_make s m args below meth c cX9_make D A Q (zwX9 cI h_t h_t_now h_t_file h_t_fresh h_t_colour h_t_table h_t_last h_t_one zt_wide zt_high t_size t_at t_fault t_newWide t_newHigh t_colours zt_now t_file t_fresh t_colour t_table t_last t_one) r0) {rc28 : Int32 → Int32 → (Nat → Int32) → Int32 → Option (Int32 × Int32 × Int32 × (Nat → Int32))} (hr_28 : ∀ {t_wide : Int32} {t_high : Int32} {t_now : Nat → Int32} {l1 : Int32} {l2 : Int32} {l3 : Int32} {H : Heap} {locs : List Loc} {ls : Array Slot}, rc28 t_wide t_high t_now l3 = some (r0, zt_wide, zt_high, zt_now) → va_P D vwCl (zwX9 cI h_t h_t_now h_t_file h_t_fresh h_t_colour h_t_table h_t_last h_t_one t_wide t_high t_size t_at t_fault t_newWide t_newHigh t_colours t_now t_file t_fresh t_colour t_table t_last t_one) H → va_D A (zwX9 cI h_t h_t_now h_t_file h_t_fresh h_t_colour h_t_table h_t_last h_t_one t_wide t_high t_size t_at t_fault t_newWide t_newHigh t_colours t_now t_file t_fresh t_colour t_table t_last t_one) → va_S A s.heap H locs → lv_has ls 4 [(0, .ref h_t), (1, .int l1), (2, .int l2), (3, .int l3)] → W p l e rmX9_make s m args below meth c H locs 0 0 Q (F0 m 28 ls [])) {t_wide : Int32} {t_high : Int32} {t_now : Nat → Int32} {l1 : Int32} {l2 : Int32} {l3 : Int32} {k1 : Int32} {k2 : Int32} {H : Heap} {locs : List Loc} {ls : Array Slot} : fX9_make_54 rc28 t_wide t_high t_now l3 k1 k2 = some (r0, zt_wide, zt_high, zt_now) → va_P D vwCl (zwX9 cI h_t h_t_now h_t_file h_t_fresh h_t_colour h_t_table h_t_last h_t_one t_wide t_high t_size t_at t_fault t_newWide t_newHigh t_colours t_now t_file t_fresh t_colour t_table t_last t_one) H → va_D A (zwX9 cI h_t h_t_now h_t_file h_t_fresh h_t_colour h_t_table h_t_last h_t_one t_wide t_high t_size t_at t_fault t_newWide t_newHigh t_colours t_now t_file t_fresh t_colour t_table t_last t_one) → va_S A s.heap H locs → lv_has ls 4 [(0, .ref h_t), (1, .int l1), (2, .int l2), (3, .int l3)] → W p l e rmX9_make s m args below meth c H locs 0 0 Q (F0 m 54 ls [.int k2, .int k1, .ref h_t_now]) := by
  intro hf hP hD hS hl
  obtain ⟨hx, hb, hml, hown, hts⟩ := id C
  unfold fX9_make_54 at hf
  obtain ⟨hg2, g1, eg1, hf⟩ := zwr_in hf
  refine va_iast hx hb hK hP hD hS 1 0 rfl rfl hg2 dX9_make_54 (fun H locs hP hD hS => ?_)
  replace hP : va_P D vwCl (zwX9 cI h_t h_t_now h_t_file h_t_fresh h_t_colour h_t_table h_t_last h_t_one t_wide t_high t_size t_at t_fault t_newWide t_newHigh t_colours g1 t_file t_fresh t_colour t_table t_last t_one) H := by rw [← eg1]; exact hP
  replace hD : va_D A (zwX9 cI h_t h_t_now h_t_file h_t_fresh h_t_colour h_t_table h_t_last h_t_one t_wide t_high t_size t_at t_fault t_newWide t_newHigh t_colours g1 t_file t_fresh t_colour t_table t_last t_one) := by rw [← eg1]; exact hD
  clear eg1
  obtain ⟨x3, ex3⟩ : ∃ y : Int32, y = l3 + 1 := ⟨_, rfl⟩
  replace hf := zlet_in hf ex3
  refine lv_iinc (v := x3) (lv' := [(3, .int x3), (0, .ref h_t), (1, .int l1), (2, .int l2)]) hx hb dX9_make_55 hl (k := 3) rfl (by rw [ex3]; rfl) (by decide) rfl (fun ls hl => ?_)
  clear ex3
  refine lv_goto (tgt := 28) hx hb dX9_make_58 (by decide) ?_
  exact hr_28 hf hP hD hS (lv_sub hl [1, 2, 3, 0] rfl)
set_option maxHeartbeats 4000000 in
set_option maxRecDepth 100000 in
theorem wX9_make_28 {p : Program} {l : Launch} {e : Env} {s : State} {m : MethodId} {args : Array Value} {below : List Frame} {meth : Method} {c : Code} {D : va_G} {A : Nat → Prop} {Q : State → Prop} {cI : ClassId} {h_t h_t_now h_t_file h_t_fresh h_t_colour h_t_table h_t_last h_t_one : Nat} {t_size : Int32} {t_at : Int32} {t_fault : Int32} {t_newWide : Int32} {t_newHigh : Int32} {t_colours : Int32} {t_file : Nat → Int32} {t_fresh : Nat → Int32} {t_colour : Nat → Int32} {t_table : Nat → Int32} {t_last : Nat → Int32} {t_one : Nat → Int32} {r0 : Int32} {zt_wide : Int32} {zt_high : Int32} {zt_now : Nat → Int32} (C : CallFix p m c cX9_make 4 s args wsX9_make RX9) (hN : zN s) (hK : va_K D vwCl [(cI, .int)] s) (hA : ∀ q, s.heap.size ≤ q → A q) (hE : zEz p l e rmX9_make s m args below meth c cX9_make D A Q (zwX9 cI h_t h_t_now h_t_file h_t_fresh h_t_colour h_t_table h_t_last h_t_one zt_wide zt_high t_size t_at t_fault t_newWide t_newHigh t_colours zt_now t_file t_fresh t_colour t_table t_last t_one) r0) (n : Nat) : ∀ {t_wide : Int32} {t_high : Int32} {t_now : Nat → Int32} {l1 : Int32} {l2 : Int32} {l3 : Int32} {H : Heap} {locs : List Loc} {ls : Array Slot}, fX9_make_28 n t_wide t_high t_now l3 = some (r0, zt_wide, zt_high, zt_now) → va_P D vwCl (zwX9 cI h_t h_t_now h_t_file h_t_fresh h_t_colour h_t_table h_t_last h_t_one t_wide t_high t_size t_at t_fault t_newWide t_newHigh t_colours t_now t_file t_fresh t_colour t_table t_last t_one) H → va_D A (zwX9 cI h_t h_t_now h_t_file h_t_fresh h_t_colour h_t_table h_t_last h_t_one t_wide t_high t_size t_at t_fault t_newWide t_newHigh t_colours t_now t_file t_fresh t_colour t_table t_last t_one) → va_S A s.heap H locs → lv_has ls 4 [(0, .ref h_t), (1, .int l1), (2, .int l2), (3, .int l3)] → W p l e rmX9_make s m args below meth c H locs 0 0 Q (F0 m 28 ls []) := by
  obtain ⟨hx, hb, hml, hown, hts⟩ := id C
  induction n with
  | zero =>
    intro t_wide t_high t_now l1 l2 l3 H locs ls hf
    cases hf
  | succ n hr_28 =>
    intro t_wide t_high t_now l1 l2 l3 H locs ls hf hP hD hS hl
    rw [fX9_make_28_s] at hf
    refine lv_iload_n hx hb dX9_make_28 rfl (lv_at hl 3 rfl) ?_
    refine lv_sipush (v := 256) hx hb dX9_make_29 (by decide) ?_
    refine lv_icmp_ge (tgt := 61) hx hb dX9_make_32 (by decide) (fun c1 => ?_) (fun c1 => ?_)
    · replace hf := zif_t hf c1
      refine lv_iconst (v := 1) hx hb dX9_make_61 (by decide) ?_
      cases hf
      exact hE _ _ _ _ dX9_make_62 rfl hP hD hS
    · replace hf := zif_f hf c1
      refine lv_aload_n hx hb dX9_make_35 rfl (lv_at hl 0 rfl) ?_
      refine va_get (D := D) (ci := 8) (v := .ref h_t_now) (C := RX9) (T := TX9) (N := 15) hx hb hts iX9_make_X9 hown hK hP 0 rfl rfl 2 (by decide) (kX9_make_16 hts) (fun _ h9 => h9) rfl dX9_make_36 ?_
      refine lv_iload_n hx hb dX9_make_39 rfl (lv_at hl 3 rfl) ?_
      refine lv_iload_n hx hb dX9_make_40 rfl (lv_at hl 3 rfl) ?_
      refine lv_iconst (v := 4) hx hb dX9_make_41 (by decide) ?_
      refine lv_irem hx hb dX9_make_42 (by decide) ?_
      refine lv_iconst (v := 3) hx hb dX9_make_43 (by decide) ?_
      refine lv_icmp_ne (tgt := 53) hx hb dX9_make_44 (by decide) (fun c2 => ?_) (fun c2 => ?_)
      · replace hf := zif_f hf c2
        refine lv_iconst (v := 0) hx hb dX9_make_53 (by decide) ?_
        exact wX9_make_54 C hN hK hA hE hr_28 hf hP hD hS (lv_sub hl [0, 1, 2, 3] rfl)
      · replace hf := zif_t hf c2
        refine lv_sipush (v := 255) hx hb dX9_make_47 (by decide) ?_
        refine lv_goto (tgt := 54) hx hb dX9_make_50 (by decide) ?_
        exact wX9_make_54 C hN hK hA hE hr_28 hf hP hD hS (lv_sub hl [0, 1, 2, 3] rfl)
set_option maxHeartbeats 4000000 in
set_option maxRecDepth 100000 in
theorem wX9_make_0 {p : Program} {l : Launch} {e : Env} {s : State} {m : MethodId} {args : Array Value} {below : List Frame} {meth : Method} {c : Code} {D : va_G} {A : Nat → Prop} {Q : State → Prop} {cI : ClassId} {h_t h_t_now h_t_file h_t_fresh h_t_colour h_t_table h_t_last h_t_one : Nat} {t_size : Int32} {t_at : Int32} {t_fault : Int32} {t_newWide : Int32} {t_newHigh : Int32} {t_colours : Int32} {t_file : Nat → Int32} {t_fresh : Nat → Int32} {t_colour : Nat → Int32} {t_table : Nat → Int32} {t_last : Nat → Int32} {t_one : Nat → Int32} {r0 : Int32} {zt_wide : Int32} {zt_high : Int32} {zt_now : Nat → Int32} (C : CallFix p m c cX9_make 4 s args wsX9_make RX9) (hN : zN s) (hK : va_K D vwCl [(cI, .int)] s) (hA : ∀ q, s.heap.size ≤ q → A q) (hE : zEz p l e rmX9_make s m args below meth c cX9_make D A Q (zwX9 cI h_t h_t_now h_t_file h_t_fresh h_t_colour h_t_table h_t_last h_t_one zt_wide zt_high t_size t_at t_fault t_newWide t_newHigh t_colours zt_now t_file t_fresh t_colour t_table t_last t_one) r0) {t_wide : Int32} {t_high : Int32} {t_now : Nat → Int32} {v0 : Int32} {v1 : Int32} {H : Heap} {locs : List Loc} {ls : Array Slot} : fX9_make t_wide t_high t_now v0 v1 = some (r0, zt_wide, zt_high, zt_now) → va_P D vwCl (zwX9 cI h_t h_t_now h_t_file h_t_fresh h_t_colour h_t_table h_t_last h_t_one t_wide t_high t_size t_at t_fault t_newWide t_newHigh t_colours t_now t_file t_fresh t_colour t_table t_last t_one) H → va_D A (zwX9 cI h_t h_t_now h_t_file h_t_fresh h_t_colour h_t_table h_t_last h_t_one t_wide t_high t_size t_at t_fault t_newWide t_newHigh t_colours t_now t_file t_fresh t_colour t_table t_last t_one) → va_S A s.heap H locs → lv_has ls 4 [(0, .ref h_t), (1, .int v0), (2, .int v1)] → W p l e rmX9_make s m args below meth c H locs 0 0 Q (F0 m 0 ls []) := by
  intro hf hP hD hS hl
  obtain ⟨hx, hb, hml, hown, hts⟩ := id C
  unfold fX9_make at hf
  refine lv_iload_n hx hb dX9_make_0 rfl (lv_at hl 1 rfl) ?_
  obtain ⟨r1, hc2, hf⟩ := zb1_in hf
  refine zc_i (va_runS (As := [.int v0]) (rest := []) C (mX9_side l D cI H.size v0 r1 hc2) (qX9_make_X9_side_38 hts) ⟨zP_blind, zpre hK hN hP hD [] rfl rfl⟩ rfl rfl hl.1 rfl (lv_room (Nat.le_of_ble_eq_true rfl)) dX9_make_1 ⟨Nat.zero_le _, Nat.zero_le _⟩) hP hD hS hA [] [0, 1, 2, 3, 4, 5, 6, 7] [0, 1, 2, 3, 4, 5, 6, 7] (ws' := zwX9 cI h_t h_t_now h_t_file h_t_fresh h_t_colour h_t_table h_t_last h_t_one t_wide t_high t_size t_at t_fault t_newWide t_newHigh t_colours t_now t_file t_fresh t_colour t_table t_last t_one) rfl rfl rfl rfl rfl rfl (fun H locs hP hD hS => ?_)
  refine lv_if_eq (tgt := 14) hx hb dX9_make_4 (by decide) (fun c3 => ?_) (fun c3 => ?_)
  · replace hf := zif_t hf c3
    refine lv_iconst (v := 0) hx hb dX9_make_14 (by decide) ?_
    cases hf
    exact hE _ _ _ _ dX9_make_15 rfl hP hD hS
  · replace hf := zif_f hf c3
    refine lv_iload_n hx hb dX9_make_7 rfl (lv_at hl 2 rfl) ?_
    obtain ⟨r4, hc5, hf⟩ := zb1_in hf
    refine zc_i (va_runS (As := [.int v1]) (rest := []) C (mX9_side l D cI H.size v1 r4 hc5) (qX9_make_X9_side_38 hts) ⟨zP_blind, zpre hK hN hP hD [] rfl rfl⟩ rfl rfl hl.1 rfl (lv_room (Nat.le_of_ble_eq_true rfl)) dX9_make_8 ⟨Nat.zero_le _, Nat.zero_le _⟩) hP hD hS hA [] [0, 1, 2, 3, 4, 5, 6, 7] [0, 1, 2, 3, 4, 5, 6, 7] (ws' := zwX9 cI h_t h_t_now h_t_file h_t_fresh h_t_colour h_t_table h_t_last h_t_one t_wide t_high t_size t_at t_fault t_newWide t_newHigh t_colours t_now t_file t_fresh t_colour t_table t_last t_one) rfl rfl rfl rfl rfl rfl (fun H locs hP hD hS => ?_)
    refine lv_if_ne (tgt := 16) hx hb dX9_make_11 (by decide) (fun c6 => ?_) (fun c6 => ?_)
    · replace hf := zif_f hf c6
      refine lv_aload_n hx hb dX9_make_16 rfl (lv_at hl 0 rfl) ?_
      refine lv_iload_n hx hb dX9_make_17 rfl (lv_at hl 1 rfl) ?_
      refine va_put (D := D) (ci := 8) (v := .int v0) (ty := .int) (C := RX9) (T := TX9) (N := 15) hx hb hts iX9_make_X9 tyX9 tyX9_ok nmX9 hown hK hP hD hS 0 rfl rfl 0 (by decide) (kX9_make_7 hts) (fun _ h9 => h9) rfl (by decide +kernel) rfl rfl (Nat.le_of_ble_eq_true rfl) dX9_make_18 (fun H locs hP hD hS => ?_)
      replace hP : va_P D vwCl (zwX9 cI h_t h_t_now h_t_file h_t_fresh h_t_colour h_t_table h_t_last h_t_one v0 t_high t_size t_at t_fault t_newWide t_newHigh t_colours t_now t_file t_fresh t_colour t_table t_last t_one) H := hP
      replace hD : va_D A (zwX9 cI h_t h_t_now h_t_file h_t_fresh h_t_colour h_t_table h_t_last h_t_one v0 t_high t_size t_at t_fault t_newWide t_newHigh t_colours t_now t_file t_fresh t_colour t_table t_last t_one) := hD
      refine lv_aload_n hx hb dX9_make_21 rfl (lv_at hl 0 rfl) ?_
      refine lv_iload_n hx hb dX9_make_22 rfl (lv_at hl 2 rfl) ?_
      refine va_put (D := D) (ci := 8) (v := .int v1) (ty := .int) (C := RX9) (T := TX9) (N := 15) hx hb hts iX9_make_X9 tyX9 tyX9_ok nmX9 hown hK hP hD hS 0 rfl rfl 1 (by decide) (kX9_make_13 hts) (fun _ h9 => h9) rfl (by decide +kernel) rfl rfl (Nat.le_of_ble_eq_true rfl) dX9_make_23 (fun H locs hP hD hS => ?_)
      replace hP : va_P D vwCl (zwX9 cI h_t h_t_now h_t_file h_t_fresh h_t_colour h_t_table h_t_last h_t_one v0 v1 t_size t_at t_fault t_newWide t_newHigh t_colours t_now t_file t_fresh t_colour t_table t_last t_one) H := hP
      replace hD : va_D A (zwX9 cI h_t h_t_now h_t_file h_t_fresh h_t_colour h_t_table h_t_last h_t_one v0 v1 t_size t_at t_fault t_newWide t_newHigh t_colours t_now t_file t_fresh t_colour t_table t_last t_one) := hD
      refine lv_iconst (v := 0) hx hb dX9_make_26 (by decide) ?_
      refine lv_istore_n (lv' := [(3, .int 0), (0, .ref h_t), (1, .int v0), (2, .int v1)]) hx hb dX9_make_27 rfl hl (by decide) rfl (fun ls hl => ?_)
      exact wX9_make_28 C hN hK hA hE 1000 hf hP hD hS (lv_sub hl [1, 2, 3, 0] rfl)
    · replace hf := zif_t hf c6
      refine lv_iconst (v := 0) hx hb dX9_make_14 (by decide) ?_
      cases hf
      exact hE _ _ _ _ dX9_make_15 rfl hP hD hS
set_option maxHeartbeats 4000000 in
set_option maxRecDepth 100000 in
theorem mX9_make (l : Launch) (D : va_G) (cI : ClassId) (sz : Nat) (h_t h_t_now h_t_file h_t_fresh h_t_colour h_t_table h_t_last h_t_one : Nat) (t_wide : Int32) (t_high : Int32) (t_size : Int32) (t_at : Int32) (t_fault : Int32) (t_newWide : Int32) (t_newHigh : Int32) (t_colours : Int32) (t_now : Nat → Int32) (t_file : Nat → Int32) (t_fresh : Nat → Int32) (t_colour : Nat → Int32) (t_table : Nat → Int32) (t_last : Nat → Int32) (t_one : Nat → Int32) (v0 v1 : Int32) (r0 : Int32) (zt_wide : Int32) (zt_high : Int32) (zt_now : Nat → Int32) (hf : fX9_make t_wide t_high t_now v0 v1 = some (r0, zt_wide, zt_high, zt_now)) : Met l yX9_make wsX9_make rmX9_make (va_Pc [.ref h_t, .int v0, .int v1] (zP D [(cI, .int)] (zwX9 cI h_t h_t_now h_t_file h_t_fresh h_t_colour h_t_table h_t_last h_t_one t_wide t_high t_size t_at t_fault t_newWide t_newHigh t_colours t_now t_file t_fresh t_colour t_table t_last t_one) sz)) (zQi D (zwX9 cI h_t h_t_now h_t_file h_t_fresh h_t_colour h_t_table h_t_last h_t_one t_wide t_high t_size t_at t_fault t_newWide t_newHigh t_colours t_now t_file t_fresh t_colour t_table t_last t_one) sz r0 (zwX9 cI h_t h_t_now h_t_file h_t_fresh h_t_colour h_t_table h_t_last h_t_one zt_wide zt_high t_size t_at t_fault t_newWide t_newHigh t_colours zt_now t_file t_fresh t_colour t_table t_last t_one)) 0 0 (va_A (zwX9 cI h_t h_t_now h_t_file h_t_fresh h_t_colour h_t_table h_t_last h_t_one t_wide t_high t_size t_at t_fault t_newWide t_newHigh t_colours t_now t_file t_fresh t_colour t_table t_last t_one) sz) := by
  refine Met.ofW (cc := cX9_make) (maxL := 4) (ret := (some .boolean)) (by decide) rfl ?_
  intro p e s m args below meth c s₁ B hml hv
  obtain ⟨rfl, hsz, hP, hK, hD0, hN⟩ := hv
  subst hsz
  have C : CallFix p m c cX9_make 4 s [.ref h_t, .int v0, .int v1].toArray wsX9_make RX9 := ⟨B.exec, B.bytes, hml, findClass_of_methodNamed B.named, atoms_spec (ws := wsX9_make) B.pre⟩
  have hl := lv_entry ([.ref h_t, .int v0, .int v1]) (n := 4) (Nat.le_of_ble_eq_true rfl)
  rw [lg_entry_eq]
  exact wX9_make_0 (A := va_A (zwX9 cI h_t h_t_now h_t_file h_t_fresh h_t_colour h_t_table h_t_last h_t_one t_wide t_high t_size t_at t_fault t_newWide t_newHigh t_colours t_now t_file t_fresh t_colour t_table t_last t_one) s.heap.size) C hN hK (fun q h => Or.inr h) (fun H locs pc ls d hn hP hD hS => zend_z C.1 C.2.1 B.returns B.notSynchronized d hn hP hD hS) hf hP hD0.self va_S.rf hl
def rmX9_put : Room := { frames := 1, cells := 0, slots := 0, locals := 22 }
theorem kX9_put_16 {args : Array Value} {s : State} (h : ∀ w ∈ wsX9_put, w.before args s = true) : (Cond.fieldLink RX9 16 "FourPictureFilesModel" "now" "[I").before args s = true := h _ (by decide +kernel)
theorem iX9_put_X9 : ∀ w ∈ u_ws RX9 TX9 15, w ∈ wsX9_put := by decide +kernel
theorem qX9_put_X9_inside_42 {args : Array Value} {s : State} (hts : ∀ w ∈ wsX9_put, w.before args s = true) : CallW rmX9_put s args RX9 RX9 42 yX9_inside cX9_inside 3 (some .boolean) wsX9_inside rmX9_inside 0 0 2 := cwV 2 hts gX9_put_X9_inside rfl rfl rfl (by decide +kernel) ⟨Nat.le_of_ble_eq_true rfl, Nat.le_of_ble_eq_true rfl⟩
set_option maxHeartbeats 4000000 in
set_option maxRecDepth 100000 in
theorem wX9_put_14 {p : Program} {l : Launch} {e : Env} {s : State} {m : MethodId} {args : Array Value} {below : List Frame} {meth : Method} {c : Code} {D : va_G} {A : Nat → Prop} {Q : State → Prop} {cI : ClassId} {h_t h_t_now h_t_file h_t_fresh h_t_colour h_t_table h_t_last h_t_one : Nat} {t_wide : Int32} {t_high : Int32} {t_size : Int32} {t_at : Int32} {t_fault : Int32} {t_newWide : Int32} {t_newHigh : Int32} {t_colours : Int32} {t_file : Nat → Int32} {t_fresh : Nat → Int32} {t_colour : Nat → Int32} {t_table : Nat → Int32} {t_last : Nat → Int32} {t_one : Nat → Int32} {r0 : Int32} {zt_now : Nat → Int32} (C : CallFix p m c cX9_put 5 s args wsX9_put RX9) (hN : zN s) (hK : va_K D vwCl [(cI, .int)] s) (hA : ∀ q, s.heap.size ≤ q → A q) (hE : zEz p l e rmX9_put s m args below meth c cX9_put D A Q (zwX9 cI h_t h_t_now h_t_file h_t_fresh h_t_colour h_t_table h_t_last h_t_one t_wide t_high t_size t_at t_fault t_newWide t_newHigh t_colours zt_now t_file t_fresh t_colour t_table t_last t_one) r0) (n : Nat) : ∀ {t_now : Nat → Int32} {l1 : Int32} {l2 : Int32} {l3 : Int32} {l4 : Int32} {H : Heap} {locs : List Loc} {ls : Array Slot}, fX9_put_14 n t_now l1 l2 l3 l4 = some (r0, zt_now) → va_P D vwCl (zwX9 cI h_t h_t_now h_t_file h_t_fresh h_t_colour h_t_table h_t_last h_t_one t_wide t_high t_size t_at t_fault t_newWide t_newHigh t_colours t_now t_file t_fresh t_colour t_table t_last t_one) H → va_D A (zwX9 cI h_t h_t_now h_t_file h_t_fresh h_t_colour h_t_table h_t_last h_t_one t_wide t_high t_size t_at t_fault t_newWide t_newHigh t_colours t_now t_file t_fresh t_colour t_table t_last t_one) → va_S A s.heap H locs → lv_has ls 5 [(0, .ref h_t), (1, .int l1), (2, .int l2), (3, .int l3), (4, .int l4)] → W p l e rmX9_put s m args below meth c H locs 0 0 Q (F0 m 14 ls []) := by
  obtain ⟨hx, hb, hml, hown, hts⟩ := id C
  induction n with
  | zero =>
    intro t_now l1 l2 l3 l4 H locs ls hf
    cases hf
  | succ n hr_14 =>
    intro t_now l1 l2 l3 l4 H locs ls hf hP hD hS hl
    rw [fX9_put_14_s] at hf
    refine lv_iload hx hb dX9_put_14 (lv_at hl 4 rfl) ?_
    refine lv_iconst (v := 4) hx hb dX9_put_16 (by decide) ?_
    refine lv_icmp_ge (tgt := 56) hx hb dX9_put_17 (by decide) (fun c1 => ?_) (fun c1 => ?_)
    · replace hf := zif_t hf c1
      refine lv_iconst (v := 1) hx hb dX9_put_56 (by decide) ?_
      cases hf
      exact hE _ _ _ _ dX9_put_57 rfl hP hD hS
    · replace hf := zif_f hf c1
      refine lv_aload_n hx hb dX9_put_20 rfl (lv_at hl 0 rfl) ?_
      refine va_get (D := D) (ci := 8) (v := .ref h_t_now) (C := RX9) (T := TX9) (N := 15) hx hb hts iX9_put_X9 hown hK hP 0 rfl rfl 2 (by decide) (kX9_put_16 hts) (fun _ h9 => h9) rfl dX9_put_21 ?_
      refine lv_iconst (v := 4) hx hb dX9_put_24 (by decide) ?_
      refine lv_bipush (v := 8) hx hb dX9_put_25 (by decide) ?_
      refine lv_iload_n hx hb dX9_put_27 rfl (lv_at hl 2 rfl) ?_
      refine lv_imul hx hb dX9_put_28 ?_
      refine lv_iload_n hx hb dX9_put_29 rfl (lv_at hl 1 rfl) ?_
      refine lv_iadd hx hb dX9_put_30 ?_
      refine lv_imul hx hb dX9_put_31 ?_
      refine lv_iload hx hb dX9_put_32 (lv_at hl 4 rfl) ?_
      refine lv_iadd hx hb dX9_put_34 ?_
      refine lv_iload_n hx hb dX9_put_35 rfl (lv_at hl 3 rfl) ?_
      refine lv_bipush (v := 24) hx hb dX9_put_36 (by decide) ?_
      refine lv_bipush (v := 8) hx hb dX9_put_38 (by decide) ?_
      refine lv_iload hx hb dX9_put_40 (lv_at hl 4 rfl) ?_
      refine lv_imul hx hb dX9_put_42 ?_
      refine lv_isub hx hb dX9_put_43 ?_
      refine lv_iushr (v := zushr l3 (24 - (8 * l4))) hx hb dX9_put_44 rfl ?_
      refine lv_sipush (v := 255) hx hb dX9_put_45 (by decide) ?_
      refine lv_iand hx hb dX9_put_48 ?_
      obtain ⟨hg3, g2, eg2, hf⟩ := zwr_in hf
      refine va_iast hx hb hK hP hD hS 1 0 rfl rfl hg3 dX9_put_49 (fun H locs hP hD hS => ?_)
      replace hP : va_P D vwCl (zwX9 cI h_t h_t_now h_t_file h_t_fresh h_t_colour h_t_table h_t_last h_t_one t_wide t_high t_size t_at t_fault t_newWide t_newHigh t_colours g2 t_file t_fresh t_colour t_table t_last t_one) H := by rw [← eg2]; exact hP
      replace hD : va_D A (zwX9 cI h_t h_t_now h_t_file h_t_fresh h_t_colour h_t_table h_t_last h_t_one t_wide t_high t_size t_at t_fault t_newWide t_newHigh t_colours g2 t_file t_fresh t_colour t_table t_last t_one) := by rw [← eg2]; exact hD
      clear eg2
      obtain ⟨x4, ex4⟩ : ∃ y : Int32, y = l4 + 1 := ⟨_, rfl⟩
      replace hf := zlet_in hf ex4
      refine lv_iinc (v := x4) (lv' := [(4, .int x4), (0, .ref h_t), (1, .int l1), (2, .int l2), (3, .int l3)]) hx hb dX9_put_50 hl (k := 4) rfl (by rw [ex4]; rfl) (by decide) rfl (fun ls hl => ?_)
      clear ex4
      refine lv_goto (tgt := 14) hx hb dX9_put_53 (by decide) ?_
      exact hr_14 hf hP hD hS (lv_sub hl [1, 2, 3, 4, 0] rfl)
set_option maxHeartbeats 4000000 in
set_option maxRecDepth 100000 in
theorem wX9_put_0 {p : Program} {l : Launch} {e : Env} {s : State} {m : MethodId} {args : Array Value} {below : List Frame} {meth : Method} {c : Code} {D : va_G} {A : Nat → Prop} {Q : State → Prop} {cI : ClassId} {h_t h_t_now h_t_file h_t_fresh h_t_colour h_t_table h_t_last h_t_one : Nat} {t_wide : Int32} {t_high : Int32} {t_size : Int32} {t_at : Int32} {t_fault : Int32} {t_newWide : Int32} {t_newHigh : Int32} {t_colours : Int32} {t_file : Nat → Int32} {t_fresh : Nat → Int32} {t_colour : Nat → Int32} {t_table : Nat → Int32} {t_last : Nat → Int32} {t_one : Nat → Int32} {r0 : Int32} {zt_now : Nat → Int32} (C : CallFix p m c cX9_put 5 s args wsX9_put RX9) (hN : zN s) (hK : va_K D vwCl [(cI, .int)] s) (hA : ∀ q, s.heap.size ≤ q → A q) (hE : zEz p l e rmX9_put s m args below meth c cX9_put D A Q (zwX9 cI h_t h_t_now h_t_file h_t_fresh h_t_colour h_t_table h_t_last h_t_one t_wide t_high t_size t_at t_fault t_newWide t_newHigh t_colours zt_now t_file t_fresh t_colour t_table t_last t_one) r0) {t_now : Nat → Int32} {v0 : Int32} {v1 : Int32} {v2 : Int32} {H : Heap} {locs : List Loc} {ls : Array Slot} : fX9_put t_wide t_high t_now v0 v1 v2 = some (r0, zt_now) → va_P D vwCl (zwX9 cI h_t h_t_now h_t_file h_t_fresh h_t_colour h_t_table h_t_last h_t_one t_wide t_high t_size t_at t_fault t_newWide t_newHigh t_colours t_now t_file t_fresh t_colour t_table t_last t_one) H → va_D A (zwX9 cI h_t h_t_now h_t_file h_t_fresh h_t_colour h_t_table h_t_last h_t_one t_wide t_high t_size t_at t_fault t_newWide t_newHigh t_colours t_now t_file t_fresh t_colour t_table t_last t_one) → va_S A s.heap H locs → lv_has ls 5 [(0, .ref h_t), (1, .int v0), (2, .int v1), (3, .int v2)] → W p l e rmX9_put s m args below meth c H locs 0 0 Q (F0 m 0 ls []) := by
  intro hf hP hD hS hl
  obtain ⟨hx, hb, hml, hown, hts⟩ := id C
  unfold fX9_put at hf
  refine lv_aload_n hx hb dX9_put_0 rfl (lv_at hl 0 rfl) ?_
  refine lv_iload_n hx hb dX9_put_1 rfl (lv_at hl 1 rfl) ?_
  refine lv_iload_n hx hb dX9_put_2 rfl (lv_at hl 2 rfl) ?_
  obtain ⟨r1, hc2, hf⟩ := zb1_in hf
  refine zc_i (va_runV (As := [.int v0, .int v1]) (rest := []) C (mX9_inside l D cI H.size h_t h_t_now h_t_file h_t_fresh h_t_colour h_t_table h_t_last h_t_one t_wide t_high t_size t_at t_fault t_newWide t_newHigh t_colours t_now t_file t_fresh t_colour t_table t_last t_one v0 v1 r1 hc2) (qX9_put_X9_inside_42 hts) ⟨zP_blind, va_recv hK hP (ci := 8) (q0 := 0) rfl rfl, zpre hK hN hP hD [0, 1, 2, 3, 4, 5, 6, 7] rfl rfl⟩ rfl rfl hl.1 rfl (lv_room (Nat.le_of_ble_eq_true rfl)) dX9_put_3 ⟨Nat.zero_le _, Nat.zero_le _⟩) hP hD hS hA [0, 1, 2, 3, 4, 5, 6, 7] [] [0, 1, 2, 3, 4, 5, 6, 7] (ws' := zwX9 cI h_t h_t_now h_t_file h_t_fresh h_t_colour h_t_table h_t_last h_t_one t_wide t_high t_size t_at t_fault t_newWide t_newHigh t_colours t_now t_file t_fresh t_colour t_table t_last t_one) rfl rfl rfl rfl rfl rfl (fun H locs hP hD hS => ?_)
  refine lv_if_ne (tgt := 11) hx hb dX9_put_6 (by decide) (fun c3 => ?_) (fun c3 => ?_)
  · replace hf := zif_f hf c3
    refine lv_iconst (v := 0) hx hb dX9_put_11 (by decide) ?_
    refine lv_istore (lv' := [(4, .int 0), (0, .ref h_t), (1, .int v0), (2, .int v1), (3, .int v2)]) hx hb dX9_put_12 hl (by decide) rfl (fun ls hl => ?_)
    exact wX9_put_14 C hN hK hA hE 1000 hf hP hD hS (lv_sub hl [1, 2, 3, 4, 0] rfl)
  · replace hf := zif_t hf c3
    refine lv_iconst (v := 0) hx hb dX9_put_9 (by decide) ?_
    cases hf
    exact hE _ _ _ _ dX9_put_10 rfl hP hD hS
set_option maxHeartbeats 4000000 in
set_option maxRecDepth 100000 in
theorem mX9_put (l : Launch) (D : va_G) (cI : ClassId) (sz : Nat) (h_t h_t_now h_t_file h_t_fresh h_t_colour h_t_table h_t_last h_t_one : Nat) (t_wide : Int32) (t_high : Int32) (t_size : Int32) (t_at : Int32) (t_fault : Int32) (t_newWide : Int32) (t_newHigh : Int32) (t_colours : Int32) (t_now : Nat → Int32) (t_file : Nat → Int32) (t_fresh : Nat → Int32) (t_colour : Nat → Int32) (t_table : Nat → Int32) (t_last : Nat → Int32) (t_one : Nat → Int32) (v0 v1 v2 : Int32) (r0 : Int32) (zt_now : Nat → Int32) (hf : fX9_put t_wide t_high t_now v0 v1 v2 = some (r0, zt_now)) : Met l yX9_put wsX9_put rmX9_put (va_Pc [.ref h_t, .int v0, .int v1, .int v2] (zP D [(cI, .int)] (zwX9 cI h_t h_t_now h_t_file h_t_fresh h_t_colour h_t_table h_t_last h_t_one t_wide t_high t_size t_at t_fault t_newWide t_newHigh t_colours t_now t_file t_fresh t_colour t_table t_last t_one) sz)) (zQi D (zwX9 cI h_t h_t_now h_t_file h_t_fresh h_t_colour h_t_table h_t_last h_t_one t_wide t_high t_size t_at t_fault t_newWide t_newHigh t_colours t_now t_file t_fresh t_colour t_table t_last t_one) sz r0 (zwX9 cI h_t h_t_now h_t_file h_t_fresh h_t_colour h_t_table h_t_last h_t_one t_wide t_high t_size t_at t_fault t_newWide t_newHigh t_colours zt_now t_file t_fresh t_colour t_table t_last t_one)) 0 0 (va_A (zwX9 cI h_t h_t_now h_t_file h_t_fresh h_t_colour h_t_table h_t_last h_t_one t_wide t_high t_size t_at t_fault t_newWide t_newHigh t_colours t_now t_file t_fresh t_colour t_table t_last t_one) sz) := by
  refine Met.ofW (cc := cX9_put) (maxL := 5) (ret := (some .boolean)) (by decide) rfl ?_
  intro p e s m args below meth c s₁ B hml hv
  obtain ⟨rfl, hsz, hP, hK, hD0, hN⟩ := hv
  subst hsz
  have C : CallFix p m c cX9_put 5 s [.ref h_t, .int v0, .int v1, .int v2].toArray wsX9_put RX9 := ⟨B.exec, B.bytes, hml, findClass_of_methodNamed B.named, atoms_spec (ws := wsX9_put) B.pre⟩
  have hl := lv_entry ([.ref h_t, .int v0, .int v1, .int v2]) (n := 5) (Nat.le_of_ble_eq_true rfl)
  rw [lg_entry_eq]
  exact wX9_put_0 (A := va_A (zwX9 cI h_t h_t_now h_t_file h_t_fresh h_t_colour h_t_table h_t_last h_t_one t_wide t_high t_size t_at t_fault t_newWide t_newHigh t_colours t_now t_file t_fresh t_colour t_table t_last t_one) s.heap.size) C hN hK (fun q h => Or.inr h) (fun H locs pc ls d hn hP hD hS => zend_z C.1 C.2.1 B.returns B.notSynchronized d hn hP hD hS) hf hP hD0.self va_S.rf hl
def rmX9_pixel : Room := { frames := 1, cells := 0, slots := 0, locals := 22 }
theorem kX9_pixel_16 {args : Array Value} {s : State} (h : ∀ w ∈ wsX9_pixel, w.before args s = true) : (Cond.fieldLink RX9 16 "FourPictureFilesModel" "now" "[I").before args s = true := h _ (by decide +kernel)
theorem iX9_pixel_X9 : ∀ w ∈ u_ws RX9 TX9 15, w ∈ wsX9_pixel := by decide +kernel
theorem qX9_pixel_X9_inside_42 {args : Array Value} {s : State} (hts : ∀ w ∈ wsX9_pixel, w.before args s = true) : CallW rmX9_pixel s args RX9 RX9 42 yX9_inside cX9_inside 3 (some .boolean) wsX9_inside rmX9_inside 0 0 2 := cwV 2 hts gX9_pixel_X9_inside rfl rfl rfl (by decide +kernel) ⟨Nat.le_of_ble_eq_true rfl, Nat.le_of_ble_eq_true rfl⟩
set_option maxHeartbeats 4000000 in
set_option maxRecDepth 100000 in
theorem wX9_pixel_5 {p : Program} {l : Launch} {e : Env} {s : State} {m : MethodId} {args : Array Value} {below : List Frame} {meth : Method} {c : Code} {D : va_G} {A : Nat → Prop} {Q : State → Prop} {cI : ClassId} {h_t h_t_now h_t_file h_t_fresh h_t_colour h_t_table h_t_last h_t_one : Nat} {t_wide : Int32} {t_high : Int32} {t_size : Int32} {t_at : Int32} {t_fault : Int32} {t_newWide : Int32} {t_newHigh : Int32} {t_colours : Int32} {t_now : Nat → Int32} {t_file : Nat → Int32} {t_fresh : Nat → Int32} {t_colour : Nat → Int32} {t_table : Nat → Int32} {t_last : Nat → Int32} {t_one : Nat → Int32} {r0 : Int32} (C : CallFix p m c cX9_pixel 5 s args wsX9_pixel RX9) (hN : zN s) (hK : va_K D vwCl [(cI, .int)] s) (hA : ∀ q, s.heap.size ≤ q → A q) (hE : zEi p l e rmX9_pixel s m args below meth c cX9_pixel D A Q (zwX9 cI h_t h_t_now h_t_file h_t_fresh h_t_colour h_t_table h_t_last h_t_one t_wide t_high t_size t_at t_fault t_newWide t_newHigh t_colours t_now t_file t_fresh t_colour t_table t_last t_one) r0) (n : Nat) : ∀ {l1 : Int32} {l2 : Int32} {l3 : Int32} {l4 : Int32} {H : Heap} {locs : List Loc} {ls : Array Slot}, fX9_pixel_5 n t_wide t_high t_now l1 l2 l3 l4 = some r0 → va_P D vwCl (zwX9 cI h_t h_t_now h_t_file h_t_fresh h_t_colour h_t_table h_t_last h_t_one t_wide t_high t_size t_at t_fault t_newWide t_newHigh t_colours t_now t_file t_fresh t_colour t_table t_last t_one) H → va_D A (zwX9 cI h_t h_t_now h_t_file h_t_fresh h_t_colour h_t_table h_t_last h_t_one t_wide t_high t_size t_at t_fault t_newWide t_newHigh t_colours t_now t_file t_fresh t_colour t_table t_last t_one) → va_S A s.heap H locs → lv_has ls 5 [(0, .ref h_t), (1, .int l1), (2, .int l2), (3, .int l3), (4, .int l4)] → W p l e rmX9_pixel s m args below meth c H locs 0 0 Q (F0 m 5 ls []) := by
  obtain ⟨hx, hb, hml, hown, hts⟩ := id C
  induction n with
  | zero =>
    intro l1 l2 l3 l4 H locs ls hf
    cases hf
  | succ n hr_5 =>
    intro l1 l2 l3 l4 H locs ls hf hP hD hS hl
    rw [fX9_pixel_5_s] at hf
    refine lv_iload hx hb dX9_pixel_5 (lv_at hl 4 rfl) ?_
    refine lv_iconst (v := 4) hx hb dX9_pixel_7 (by decide) ?_
    refine lv_icmp_ge (tgt := 49) hx hb dX9_pixel_8 (by decide) (fun c1 => ?_) (fun c1 => ?_)
    · replace hf := zif_t hf c1
      refine lv_iload_n hx hb dX9_pixel_49 rfl (lv_at hl 3 rfl) ?_
      cases hf
      exact hE _ _ _ _ dX9_pixel_50 hP hD hS
    · replace hf := zif_f hf c1
      refine lv_aload_n hx hb dX9_pixel_11 rfl (lv_at hl 0 rfl) ?_
      refine lv_iload_n hx hb dX9_pixel_12 rfl (lv_at hl 1 rfl) ?_
      refine lv_iload_n hx hb dX9_pixel_13 rfl (lv_at hl 2 rfl) ?_
      obtain ⟨r2, hc3, hf⟩ := zb1_in hf
      refine zc_i (va_runV (As := [.int l1, .int l2]) (rest := []) C (mX9_inside l D cI H.size h_t h_t_now h_t_file h_t_fresh h_t_colour h_t_table h_t_last h_t_one t_wide t_high t_size t_at t_fault t_newWide t_newHigh t_colours t_now t_file t_fresh t_colour t_table t_last t_one l1 l2 r2 hc3) (qX9_pixel_X9_inside_42 hts) ⟨zP_blind, va_recv hK hP (ci := 8) (q0 := 0) rfl rfl, zpre hK hN hP hD [0, 1, 2, 3, 4, 5, 6, 7] rfl rfl⟩ rfl rfl hl.1 rfl (lv_room (Nat.le_of_ble_eq_true rfl)) dX9_pixel_14 ⟨Nat.zero_le _, Nat.zero_le _⟩) hP hD hS hA [0, 1, 2, 3, 4, 5, 6, 7] [] [0, 1, 2, 3, 4, 5, 6, 7] (ws' := zwX9 cI h_t h_t_now h_t_file h_t_fresh h_t_colour h_t_table h_t_last h_t_one t_wide t_high t_size t_at t_fault t_newWide t_newHigh t_colours t_now t_file t_fresh t_colour t_table t_last t_one) rfl rfl rfl rfl rfl rfl (fun H locs hP hD hS => ?_)
      refine lv_if_eq (tgt := 49) hx hb dX9_pixel_17 (by decide) (fun c4 => ?_) (fun c4 => ?_)
      · replace hf := zif_t hf c4
        refine lv_iload_n hx hb dX9_pixel_49 rfl (lv_at hl 3 rfl) ?_
        cases hf
        exact hE _ _ _ _ dX9_pixel_50 hP hD hS
      · replace hf := zif_f hf c4
        refine lv_sipush (v := 256) hx hb dX9_pixel_20 (by decide) ?_
        refine lv_iload_n hx hb dX9_pixel_23 rfl (lv_at hl 3 rfl) ?_
        refine lv_imul hx hb dX9_pixel_24 ?_
        refine lv_aload_n hx hb dX9_pixel_25 rfl (lv_at hl 0 rfl) ?_
        refine va_get (D := D) (ci := 8) (v := .ref h_t_now) (C := RX9) (T := TX9) (N := 15) hx hb hts iX9_pixel_X9 hown hK hP 0 rfl rfl 2 (by decide) (kX9_pixel_16 hts) (fun _ h9 => h9) rfl dX9_pixel_26 ?_
        refine lv_iconst (v := 4) hx hb dX9_pixel_29 (by decide) ?_
        refine lv_bipush (v := 8) hx hb dX9_pixel_30 (by decide) ?_
        refine lv_iload_n hx hb dX9_pixel_32 rfl (lv_at hl 2 rfl) ?_
        refine lv_imul hx hb dX9_pixel_33 ?_
        refine lv_iload_n hx hb dX9_pixel_34 rfl (lv_at hl 1 rfl) ?_
        refine lv_iadd hx hb dX9_pixel_35 ?_
        refine lv_imul hx hb dX9_pixel_36 ?_
        refine lv_iload hx hb dX9_pixel_37 (lv_at hl 4 rfl) ?_
        refine lv_iadd hx hb dX9_pixel_39 ?_
        obtain ⟨hg6, hf⟩ := zrd_in hf
        refine va_iald hx hb hK hP 1 0 rfl rfl hg6 dX9_pixel_40 ?_
        refine lv_topi (fun x5 ex5 => ?_)
        replace hf := hf x5 ex5
        clear ex5
        refine lv_iadd hx hb dX9_pixel_41 ?_
        refine lv_topi (fun x7 ex7 => ?_)
        replace hf := zlet_in hf ex7
        clear ex7
        refine lv_istore_n (lv' := [(3, .int x7), (0, .ref h_t), (1, .int l1), (2, .int l2), (4, .int l4)]) hx hb dX9_pixel_42 rfl hl (by decide) rfl (fun ls hl => ?_)
        obtain ⟨x8, ex8⟩ : ∃ y : Int32, y = l4 + 1 := ⟨_, rfl⟩
        replace hf := zlet_in hf ex8
        refine lv_iinc (v := x8) (lv' := [(4, .int x8), (3, .int x7), (0, .ref h_t), (1, .int l1), (2, .int l2)]) hx hb dX9_pixel_43 hl (k := 4) rfl (by rw [ex8]; rfl) (by decide) rfl (fun ls hl => ?_)
        clear ex8
        refine lv_goto (tgt := 5) hx hb dX9_pixel_46 (by decide) ?_
        exact hr_5 hf hP hD hS (lv_sub hl [2, 3, 4, 1, 0] rfl)
set_option maxHeartbeats 4000000 in
set_option maxRecDepth 100000 in
theorem wX9_pixel_0 {p : Program} {l : Launch} {e : Env} {s : State} {m : MethodId} {args : Array Value} {below : List Frame} {meth : Method} {c : Code} {D : va_G} {A : Nat → Prop} {Q : State → Prop} {cI : ClassId} {h_t h_t_now h_t_file h_t_fresh h_t_colour h_t_table h_t_last h_t_one : Nat} {t_wide : Int32} {t_high : Int32} {t_size : Int32} {t_at : Int32} {t_fault : Int32} {t_newWide : Int32} {t_newHigh : Int32} {t_colours : Int32} {t_now : Nat → Int32} {t_file : Nat → Int32} {t_fresh : Nat → Int32} {t_colour : Nat → Int32} {t_table : Nat → Int32} {t_last : Nat → Int32} {t_one : Nat → Int32} {r0 : Int32} (C : CallFix p m c cX9_pixel 5 s args wsX9_pixel RX9) (hN : zN s) (hK : va_K D vwCl [(cI, .int)] s) (hA : ∀ q, s.heap.size ≤ q → A q) (hE : zEi p l e rmX9_pixel s m args below meth c cX9_pixel D A Q (zwX9 cI h_t h_t_now h_t_file h_t_fresh h_t_colour h_t_table h_t_last h_t_one t_wide t_high t_size t_at t_fault t_newWide t_newHigh t_colours t_now t_file t_fresh t_colour t_table t_last t_one) r0) {v0 : Int32} {v1 : Int32} {H : Heap} {locs : List Loc} {ls : Array Slot} : fX9_pixel t_wide t_high t_now v0 v1 = some r0 → va_P D vwCl (zwX9 cI h_t h_t_now h_t_file h_t_fresh h_t_colour h_t_table h_t_last h_t_one t_wide t_high t_size t_at t_fault t_newWide t_newHigh t_colours t_now t_file t_fresh t_colour t_table t_last t_one) H → va_D A (zwX9 cI h_t h_t_now h_t_file h_t_fresh h_t_colour h_t_table h_t_last h_t_one t_wide t_high t_size t_at t_fault t_newWide t_newHigh t_colours t_now t_file t_fresh t_colour t_table t_last t_one) → va_S A s.heap H locs → lv_has ls 5 [(0, .ref h_t), (1, .int v0), (2, .int v1)] → W p l e rmX9_pixel s m args below meth c H locs 0 0 Q (F0 m 0 ls []) := by
  intro hf hP hD hS hl
  obtain ⟨hx, hb, hml, hown, hts⟩ := id C
  unfold fX9_pixel at hf
  refine lv_iconst (v := 0) hx hb dX9_pixel_0 (by decide) ?_
  refine lv_istore_n (lv' := [(3, .int 0), (0, .ref h_t), (1, .int v0), (2, .int v1)]) hx hb dX9_pixel_1 rfl hl (by decide) rfl (fun ls hl => ?_)
  refine lv_iconst (v := 0) hx hb dX9_pixel_2 (by decide) ?_
  refine lv_istore (lv' := [(4, .int 0), (3, .int 0), (0, .ref h_t), (1, .int v0), (2, .int v1)]) hx hb dX9_pixel_3 hl (by decide) rfl (fun ls hl => ?_)
  exact wX9_pixel_5 C hN hK hA hE 1000 hf hP hD hS (lv_sub hl [2, 3, 4, 1, 0] rfl)
set_option maxHeartbeats 4000000 in
set_option maxRecDepth 100000 in
theorem mX9_pixel (l : Launch) (D : va_G) (cI : ClassId) (sz : Nat) (h_t h_t_now h_t_file h_t_fresh h_t_colour h_t_table h_t_last h_t_one : Nat) (t_wide : Int32) (t_high : Int32) (t_size : Int32) (t_at : Int32) (t_fault : Int32) (t_newWide : Int32) (t_newHigh : Int32) (t_colours : Int32) (t_now : Nat → Int32) (t_file : Nat → Int32) (t_fresh : Nat → Int32) (t_colour : Nat → Int32) (t_table : Nat → Int32) (t_last : Nat → Int32) (t_one : Nat → Int32) (v0 v1 : Int32) (r0 : Int32) (hf : fX9_pixel t_wide t_high t_now v0 v1 = some r0) : Met l yX9_pixel wsX9_pixel rmX9_pixel (va_Pc [.ref h_t, .int v0, .int v1] (zP D [(cI, .int)] (zwX9 cI h_t h_t_now h_t_file h_t_fresh h_t_colour h_t_table h_t_last h_t_one t_wide t_high t_size t_at t_fault t_newWide t_newHigh t_colours t_now t_file t_fresh t_colour t_table t_last t_one) sz)) (zQi D (zwX9 cI h_t h_t_now h_t_file h_t_fresh h_t_colour h_t_table h_t_last h_t_one t_wide t_high t_size t_at t_fault t_newWide t_newHigh t_colours t_now t_file t_fresh t_colour t_table t_last t_one) sz r0 (zwX9 cI h_t h_t_now h_t_file h_t_fresh h_t_colour h_t_table h_t_last h_t_one t_wide t_high t_size t_at t_fault t_newWide t_newHigh t_colours t_now t_file t_fresh t_colour t_table t_last t_one)) 0 0 (va_A (zwX9 cI h_t h_t_now h_t_file h_t_fresh h_t_colour h_t_table h_t_last h_t_one t_wide t_high t_size t_at t_fault t_newWide t_newHigh t_colours t_now t_file t_fresh t_colour t_table t_last t_one) sz) := by
  refine Met.ofW (cc := cX9_pixel) (maxL := 5) (ret := (some .int)) (by decide) rfl ?_
  intro p e s m args below meth c s₁ B hml hv
  obtain ⟨rfl, hsz, hP, hK, hD0, hN⟩ := hv
  subst hsz
  have C : CallFix p m c cX9_pixel 5 s [.ref h_t, .int v0, .int v1].toArray wsX9_pixel RX9 := ⟨B.exec, B.bytes, hml, findClass_of_methodNamed B.named, atoms_spec (ws := wsX9_pixel) B.pre⟩
  have hl := lv_entry ([.ref h_t, .int v0, .int v1]) (n := 5) (Nat.le_of_ble_eq_true rfl)
  rw [lg_entry_eq]
  exact wX9_pixel_0 (A := va_A (zwX9 cI h_t h_t_now h_t_file h_t_fresh h_t_colour h_t_table h_t_last h_t_one t_wide t_high t_size t_at t_fault t_newWide t_newHigh t_colours t_now t_file t_fresh t_colour t_table t_last t_one) s.heap.size) C hN hK (fun q h => Or.inr h) (fun H locs pc ls d hP hD hS => zend_i C.1 C.2.1 B.returns B.notSynchronized d hP hD hS) hf hP hD0.self va_S.rf hl
def rmX9_width : Room := { frames := 0, cells := 0, slots := 0, locals := 0 }
theorem kX9_width_7 {args : Array Value} {s : State} (h : ∀ w ∈ wsX9_width, w.before args s = true) : (Cond.fieldLink RX9 7 "FourPictureFilesModel" "wide" "I").before args s = true := h _ (by decide +kernel)
theorem iX9_width_X9 : ∀ w ∈ u_ws RX9 TX9 15, w ∈ wsX9_width := by decide +kernel
set_option maxHeartbeats 4000000 in
set_option maxRecDepth 100000 in
theorem wX9_width_0 {p : Program} {l : Launch} {e : Env} {s : State} {m : MethodId} {args : Array Value} {below : List Frame} {meth : Method} {c : Code} {D : va_G} {A : Nat → Prop} {Q : State → Prop} {cI : ClassId} {h_t h_t_now h_t_file h_t_fresh h_t_colour h_t_table h_t_last h_t_one : Nat} {t_wide : Int32} {t_high : Int32} {t_size : Int32} {t_at : Int32} {t_fault : Int32} {t_newWide : Int32} {t_newHigh : Int32} {t_colours : Int32} {t_now : Nat → Int32} {t_file : Nat → Int32} {t_fresh : Nat → Int32} {t_colour : Nat → Int32} {t_table : Nat → Int32} {t_last : Nat → Int32} {t_one : Nat → Int32} {r0 : Int32} (C : CallFix p m c cX9_width 1 s args wsX9_width RX9) (hN : zN s) (hK : va_K D vwCl [(cI, .int)] s) (hA : ∀ q, s.heap.size ≤ q → A q) (hE : zEi p l e rmX9_width s m args below meth c cX9_width D A Q (zwX9 cI h_t h_t_now h_t_file h_t_fresh h_t_colour h_t_table h_t_last h_t_one t_wide t_high t_size t_at t_fault t_newWide t_newHigh t_colours t_now t_file t_fresh t_colour t_table t_last t_one) r0) {H : Heap} {locs : List Loc} {ls : Array Slot} : fX9_width t_wide = some r0 → va_P D vwCl (zwX9 cI h_t h_t_now h_t_file h_t_fresh h_t_colour h_t_table h_t_last h_t_one t_wide t_high t_size t_at t_fault t_newWide t_newHigh t_colours t_now t_file t_fresh t_colour t_table t_last t_one) H → va_D A (zwX9 cI h_t h_t_now h_t_file h_t_fresh h_t_colour h_t_table h_t_last h_t_one t_wide t_high t_size t_at t_fault t_newWide t_newHigh t_colours t_now t_file t_fresh t_colour t_table t_last t_one) → va_S A s.heap H locs → lv_has ls 1 [(0, .ref h_t)] → W p l e rmX9_width s m args below meth c H locs 0 0 Q (F0 m 0 ls []) := by
  intro hf hP hD hS hl
  obtain ⟨hx, hb, hml, hown, hts⟩ := id C
  unfold fX9_width at hf
  refine lv_aload_n hx hb dX9_width_0 rfl (lv_at hl 0 rfl) ?_
  refine va_get (D := D) (ci := 8) (v := .int t_wide) (C := RX9) (T := TX9) (N := 15) hx hb hts iX9_width_X9 hown hK hP 0 rfl rfl 0 (by decide) (kX9_width_7 hts) (fun _ h9 => h9) rfl dX9_width_1 ?_
  cases hf
  exact hE _ _ _ _ dX9_width_4 hP hD hS
set_option maxHeartbeats 4000000 in
set_option maxRecDepth 100000 in
theorem mX9_width (l : Launch) (D : va_G) (cI : ClassId) (sz : Nat) (h_t h_t_now h_t_file h_t_fresh h_t_colour h_t_table h_t_last h_t_one : Nat) (t_wide : Int32) (t_high : Int32) (t_size : Int32) (t_at : Int32) (t_fault : Int32) (t_newWide : Int32) (t_newHigh : Int32) (t_colours : Int32) (t_now : Nat → Int32) (t_file : Nat → Int32) (t_fresh : Nat → Int32) (t_colour : Nat → Int32) (t_table : Nat → Int32) (t_last : Nat → Int32) (t_one : Nat → Int32) (r0 : Int32) (hf : fX9_width t_wide = some r0) : Met l yX9_width wsX9_width rmX9_width (va_Pc [.ref h_t] (zP D [(cI, .int)] (zwX9 cI h_t h_t_now h_t_file h_t_fresh h_t_colour h_t_table h_t_last h_t_one t_wide t_high t_size t_at t_fault t_newWide t_newHigh t_colours t_now t_file t_fresh t_colour t_table t_last t_one) sz)) (zQi D (zwX9 cI h_t h_t_now h_t_file h_t_fresh h_t_colour h_t_table h_t_last h_t_one t_wide t_high t_size t_at t_fault t_newWide t_newHigh t_colours t_now t_file t_fresh t_colour t_table t_last t_one) sz r0 (zwX9 cI h_t h_t_now h_t_file h_t_fresh h_t_colour h_t_table h_t_last h_t_one t_wide t_high t_size t_at t_fault t_newWide t_newHigh t_colours t_now t_file t_fresh t_colour t_table t_last t_one)) 0 0 (va_A (zwX9 cI h_t h_t_now h_t_file h_t_fresh h_t_colour h_t_table h_t_last h_t_one t_wide t_high t_size t_at t_fault t_newWide t_newHigh t_colours t_now t_file t_fresh t_colour t_table t_last t_one) sz) := by
  refine Met.ofW (cc := cX9_width) (maxL := 1) (ret := (some .int)) (by decide) rfl ?_
  intro p e s m args below meth c s₁ B hml hv
  obtain ⟨rfl, hsz, hP, hK, hD0, hN⟩ := hv
  subst hsz
  have C : CallFix p m c cX9_width 1 s [.ref h_t].toArray wsX9_width RX9 := ⟨B.exec, B.bytes, hml, findClass_of_methodNamed B.named, atoms_spec (ws := wsX9_width) B.pre⟩
  have hl := lv_entry ([.ref h_t]) (n := 1) (Nat.le_of_ble_eq_true rfl)
  rw [lg_entry_eq]
  exact wX9_width_0 (A := va_A (zwX9 cI h_t h_t_now h_t_file h_t_fresh h_t_colour h_t_table h_t_last h_t_one t_wide t_high t_size t_at t_fault t_newWide t_newHigh t_colours t_now t_file t_fresh t_colour t_table t_last t_one) s.heap.size) C hN hK (fun q h => Or.inr h) (fun H locs pc ls d hP hD hS => zend_i C.1 C.2.1 B.returns B.notSynchronized d hP hD hS) hf hP hD0.self va_S.rf hl
def rmX9_height : Room := { frames := 0, cells := 0, slots := 0, locals := 0 }
theorem kX9_height_13 {args : Array Value} {s : State} (h : ∀ w ∈ wsX9_height, w.before args s = true) : (Cond.fieldLink RX9 13 "FourPictureFilesModel" "high" "I").before args s = true := h _ (by decide +kernel)
theorem iX9_height_X9 : ∀ w ∈ u_ws RX9 TX9 15, w ∈ wsX9_height := by decide +kernel
set_option maxHeartbeats 4000000 in
set_option maxRecDepth 100000 in
theorem wX9_height_0 {p : Program} {l : Launch} {e : Env} {s : State} {m : MethodId} {args : Array Value} {below : List Frame} {meth : Method} {c : Code} {D : va_G} {A : Nat → Prop} {Q : State → Prop} {cI : ClassId} {h_t h_t_now h_t_file h_t_fresh h_t_colour h_t_table h_t_last h_t_one : Nat} {t_wide : Int32} {t_high : Int32} {t_size : Int32} {t_at : Int32} {t_fault : Int32} {t_newWide : Int32} {t_newHigh : Int32} {t_colours : Int32} {t_now : Nat → Int32} {t_file : Nat → Int32} {t_fresh : Nat → Int32} {t_colour : Nat → Int32} {t_table : Nat → Int32} {t_last : Nat → Int32} {t_one : Nat → Int32} {r0 : Int32} (C : CallFix p m c cX9_height 1 s args wsX9_height RX9) (hN : zN s) (hK : va_K D vwCl [(cI, .int)] s) (hA : ∀ q, s.heap.size ≤ q → A q) (hE : zEi p l e rmX9_height s m args below meth c cX9_height D A Q (zwX9 cI h_t h_t_now h_t_file h_t_fresh h_t_colour h_t_table h_t_last h_t_one t_wide t_high t_size t_at t_fault t_newWide t_newHigh t_colours t_now t_file t_fresh t_colour t_table t_last t_one) r0) {H : Heap} {locs : List Loc} {ls : Array Slot} : fX9_height t_high = some r0 → va_P D vwCl (zwX9 cI h_t h_t_now h_t_file h_t_fresh h_t_colour h_t_table h_t_last h_t_one t_wide t_high t_size t_at t_fault t_newWide t_newHigh t_colours t_now t_file t_fresh t_colour t_table t_last t_one) H → va_D A (zwX9 cI h_t h_t_now h_t_file h_t_fresh h_t_colour h_t_table h_t_last h_t_one t_wide t_high t_size t_at t_fault t_newWide t_newHigh t_colours t_now t_file t_fresh t_colour t_table t_last t_one) → va_S A s.heap H locs → lv_has ls 1 [(0, .ref h_t)] → W p l e rmX9_height s m args below meth c H locs 0 0 Q (F0 m 0 ls []) := by
  intro hf hP hD hS hl
  obtain ⟨hx, hb, hml, hown, hts⟩ := id C
  unfold fX9_height at hf
  refine lv_aload_n hx hb dX9_height_0 rfl (lv_at hl 0 rfl) ?_
  refine va_get (D := D) (ci := 8) (v := .int t_high) (C := RX9) (T := TX9) (N := 15) hx hb hts iX9_height_X9 hown hK hP 0 rfl rfl 1 (by decide) (kX9_height_13 hts) (fun _ h9 => h9) rfl dX9_height_1 ?_
  cases hf
  exact hE _ _ _ _ dX9_height_4 hP hD hS
set_option maxHeartbeats 4000000 in
set_option maxRecDepth 100000 in
theorem mX9_height (l : Launch) (D : va_G) (cI : ClassId) (sz : Nat) (h_t h_t_now h_t_file h_t_fresh h_t_colour h_t_table h_t_last h_t_one : Nat) (t_wide : Int32) (t_high : Int32) (t_size : Int32) (t_at : Int32) (t_fault : Int32) (t_newWide : Int32) (t_newHigh : Int32) (t_colours : Int32) (t_now : Nat → Int32) (t_file : Nat → Int32) (t_fresh : Nat → Int32) (t_colour : Nat → Int32) (t_table : Nat → Int32) (t_last : Nat → Int32) (t_one : Nat → Int32) (r0 : Int32) (hf : fX9_height t_high = some r0) : Met l yX9_height wsX9_height rmX9_height (va_Pc [.ref h_t] (zP D [(cI, .int)] (zwX9 cI h_t h_t_now h_t_file h_t_fresh h_t_colour h_t_table h_t_last h_t_one t_wide t_high t_size t_at t_fault t_newWide t_newHigh t_colours t_now t_file t_fresh t_colour t_table t_last t_one) sz)) (zQi D (zwX9 cI h_t h_t_now h_t_file h_t_fresh h_t_colour h_t_table h_t_last h_t_one t_wide t_high t_size t_at t_fault t_newWide t_newHigh t_colours t_now t_file t_fresh t_colour t_table t_last t_one) sz r0 (zwX9 cI h_t h_t_now h_t_file h_t_fresh h_t_colour h_t_table h_t_last h_t_one t_wide t_high t_size t_at t_fault t_newWide t_newHigh t_colours t_now t_file t_fresh t_colour t_table t_last t_one)) 0 0 (va_A (zwX9 cI h_t h_t_now h_t_file h_t_fresh h_t_colour h_t_table h_t_last h_t_one t_wide t_high t_size t_at t_fault t_newWide t_newHigh t_colours t_now t_file t_fresh t_colour t_table t_last t_one) sz) := by
  refine Met.ofW (cc := cX9_height) (maxL := 1) (ret := (some .int)) (by decide) rfl ?_
  intro p e s m args below meth c s₁ B hml hv
  obtain ⟨rfl, hsz, hP, hK, hD0, hN⟩ := hv
  subst hsz
  have C : CallFix p m c cX9_height 1 s [.ref h_t].toArray wsX9_height RX9 := ⟨B.exec, B.bytes, hml, findClass_of_methodNamed B.named, atoms_spec (ws := wsX9_height) B.pre⟩
  have hl := lv_entry ([.ref h_t]) (n := 1) (Nat.le_of_ble_eq_true rfl)
  rw [lg_entry_eq]
  exact wX9_height_0 (A := va_A (zwX9 cI h_t h_t_now h_t_file h_t_fresh h_t_colour h_t_table h_t_last h_t_one t_wide t_high t_size t_at t_fault t_newWide t_newHigh t_colours t_now t_file t_fresh t_colour t_table t_last t_one) s.heap.size) C hN hK (fun q h => Or.inr h) (fun H locs pc ls d hP hD hS => zend_i C.1 C.2.1 B.returns B.notSynchronized d hP hD hS) hf hP hD0.self va_S.rf hl
def rmX9_copyBack : Room := { frames := 0, cells := 0, slots := 0, locals := 0 }
theorem kX9_copyBack_16 {args : Array Value} {s : State} (h : ∀ w ∈ wsX9_copyBack, w.before args s = true) : (Cond.fieldLink RX9 16 "FourPictureFilesModel" "now" "[I").before args s = true := h _ (by decide +kernel)
theorem kX9_copyBack_23 {args : Array Value} {s : State} (h : ∀ w ∈ wsX9_copyBack, w.before args s = true) : (Cond.fieldLink RX9 23 "FourPictureFilesModel" "fresh" "[I").before args s = true := h _ (by decide +kernel)
theorem iX9_copyBack_X9 : ∀ w ∈ u_ws RX9 TX9 15, w ∈ wsX9_copyBack := by decide +kernel
set_option maxHeartbeats 4000000 in
set_option maxRecDepth 100000 in
theorem wX9_copyBack_2 {p : Program} {l : Launch} {e : Env} {s : State} {m : MethodId} {args : Array Value} {below : List Frame} {meth : Method} {c : Code} {D : va_G} {A : Nat → Prop} {Q : State → Prop} {cI : ClassId} {h_t h_t_now h_t_file h_t_fresh h_t_colour h_t_table h_t_last h_t_one : Nat} {t_wide : Int32} {t_high : Int32} {t_size : Int32} {t_at : Int32} {t_fault : Int32} {t_newWide : Int32} {t_newHigh : Int32} {t_colours : Int32} {t_file : Nat → Int32} {t_fresh : Nat → Int32} {t_colour : Nat → Int32} {t_table : Nat → Int32} {t_last : Nat → Int32} {t_one : Nat → Int32} {zt_now : Nat → Int32} (C : CallFix p m c cX9_copyBack 2 s args wsX9_copyBack RX9) (hN : zN s) (hK : va_K D vwCl [(cI, .int)] s) (hA : ∀ q, s.heap.size ≤ q → A q) (hE : zEv p l e rmX9_copyBack s m args below meth c cX9_copyBack D A Q (zwX9 cI h_t h_t_now h_t_file h_t_fresh h_t_colour h_t_table h_t_last h_t_one t_wide t_high t_size t_at t_fault t_newWide t_newHigh t_colours zt_now t_file t_fresh t_colour t_table t_last t_one)) (n : Nat) : ∀ {t_now : Nat → Int32} {l1 : Int32} {H : Heap} {locs : List Loc} {ls : Array Slot}, fX9_copyBack_2 n t_now t_fresh l1 = some zt_now → va_P D vwCl (zwX9 cI h_t h_t_now h_t_file h_t_fresh h_t_colour h_t_table h_t_last h_t_one t_wide t_high t_size t_at t_fault t_newWide t_newHigh t_colours t_now t_file t_fresh t_colour t_table t_last t_one) H → va_D A (zwX9 cI h_t h_t_now h_t_file h_t_fresh h_t_colour h_t_table h_t_last h_t_one t_wide t_high t_size t_at t_fault t_newWide t_newHigh t_colours t_now t_file t_fresh t_colour t_table t_last t_one) → va_S A s.heap H locs → lv_has ls 2 [(0, .ref h_t), (1, .int l1)] → W p l e rmX9_copyBack s m args below meth c H locs 0 0 Q (F0 m 2 ls []) := by
  obtain ⟨hx, hb, hml, hown, hts⟩ := id C
  induction n with
  | zero =>
    intro t_now l1 H locs ls hf
    cases hf
  | succ n hr_2 =>
    intro t_now l1 H locs ls hf hP hD hS hl
    rw [fX9_copyBack_2_s] at hf
    refine lv_iload_n hx hb dX9_copyBack_2 rfl (lv_at hl 1 rfl) ?_
    refine lv_sipush (v := 256) hx hb dX9_copyBack_3 (by decide) ?_
    refine lv_icmp_ge (tgt := 27) hx hb dX9_copyBack_6 (by decide) (fun c1 => ?_) (fun c1 => ?_)
    · replace hf := zif_t hf c1
      cases hf
      exact hE _ _ _ _ dX9_copyBack_27 hP hD hS
    · replace hf := zif_f hf c1
      refine lv_aload_n hx hb dX9_copyBack_9 rfl (lv_at hl 0 rfl) ?_
      refine va_get (D := D) (ci := 8) (v := .ref h_t_now) (C := RX9) (T := TX9) (N := 15) hx hb hts iX9_copyBack_X9 hown hK hP 0 rfl rfl 2 (by decide) (kX9_copyBack_16 hts) (fun _ h9 => h9) rfl dX9_copyBack_10 ?_
      refine lv_iload_n hx hb dX9_copyBack_13 rfl (lv_at hl 1 rfl) ?_
      refine lv_aload_n hx hb dX9_copyBack_14 rfl (lv_at hl 0 rfl) ?_
      refine va_get (D := D) (ci := 8) (v := .ref h_t_fresh) (C := RX9) (T := TX9) (N := 15) hx hb hts iX9_copyBack_X9 hown hK hP 0 rfl rfl 9 (by decide) (kX9_copyBack_23 hts) (fun _ h9 => h9) rfl dX9_copyBack_15 ?_
      refine lv_iload_n hx hb dX9_copyBack_18 rfl (lv_at hl 1 rfl) ?_
      obtain ⟨hg3, hf⟩ := zrd_in hf
      refine va_iald hx hb hK hP 3 0 rfl rfl hg3 dX9_copyBack_19 ?_
      refine lv_topi (fun x2 ex2 => ?_)
      replace hf := hf x2 ex2
      clear ex2
      obtain ⟨hg5, g4, eg4, hf⟩ := zwr_in hf
      refine va_iast hx hb hK hP hD hS 1 0 rfl rfl hg5 dX9_copyBack_20 (fun H locs hP hD hS => ?_)
      replace hP : va_P D vwCl (zwX9 cI h_t h_t_now h_t_file h_t_fresh h_t_colour h_t_table h_t_last h_t_one t_wide t_high t_size t_at t_fault t_newWide t_newHigh t_colours g4 t_file t_fresh t_colour t_table t_last t_one) H := by rw [← eg4]; exact hP
      replace hD : va_D A (zwX9 cI h_t h_t_now h_t_file h_t_fresh h_t_colour h_t_table h_t_last h_t_one t_wide t_high t_size t_at t_fault t_newWide t_newHigh t_colours g4 t_file t_fresh t_colour t_table t_last t_one) := by rw [← eg4]; exact hD
      clear eg4
      obtain ⟨x6, ex6⟩ : ∃ y : Int32, y = l1 + 1 := ⟨_, rfl⟩
      replace hf := zlet_in hf ex6
      refine lv_iinc (v := x6) (lv' := [(1, .int x6), (0, .ref h_t)]) hx hb dX9_copyBack_21 hl (k := 1) rfl (by rw [ex6]; rfl) (by decide) rfl (fun ls hl => ?_)
      clear ex6
      refine lv_goto (tgt := 2) hx hb dX9_copyBack_24 (by decide) ?_
      exact hr_2 hf hP hD hS (lv_sub hl [1, 0] rfl)
set_option maxHeartbeats 4000000 in
set_option maxRecDepth 100000 in
theorem wX9_copyBack_0 {p : Program} {l : Launch} {e : Env} {s : State} {m : MethodId} {args : Array Value} {below : List Frame} {meth : Method} {c : Code} {D : va_G} {A : Nat → Prop} {Q : State → Prop} {cI : ClassId} {h_t h_t_now h_t_file h_t_fresh h_t_colour h_t_table h_t_last h_t_one : Nat} {t_wide : Int32} {t_high : Int32} {t_size : Int32} {t_at : Int32} {t_fault : Int32} {t_newWide : Int32} {t_newHigh : Int32} {t_colours : Int32} {t_file : Nat → Int32} {t_fresh : Nat → Int32} {t_colour : Nat → Int32} {t_table : Nat → Int32} {t_last : Nat → Int32} {t_one : Nat → Int32} {zt_now : Nat → Int32} (C : CallFix p m c cX9_copyBack 2 s args wsX9_copyBack RX9) (hN : zN s) (hK : va_K D vwCl [(cI, .int)] s) (hA : ∀ q, s.heap.size ≤ q → A q) (hE : zEv p l e rmX9_copyBack s m args below meth c cX9_copyBack D A Q (zwX9 cI h_t h_t_now h_t_file h_t_fresh h_t_colour h_t_table h_t_last h_t_one t_wide t_high t_size t_at t_fault t_newWide t_newHigh t_colours zt_now t_file t_fresh t_colour t_table t_last t_one)) {t_now : Nat → Int32} {H : Heap} {locs : List Loc} {ls : Array Slot} : fX9_copyBack t_now t_fresh = some zt_now → va_P D vwCl (zwX9 cI h_t h_t_now h_t_file h_t_fresh h_t_colour h_t_table h_t_last h_t_one t_wide t_high t_size t_at t_fault t_newWide t_newHigh t_colours t_now t_file t_fresh t_colour t_table t_last t_one) H → va_D A (zwX9 cI h_t h_t_now h_t_file h_t_fresh h_t_colour h_t_table h_t_last h_t_one t_wide t_high t_size t_at t_fault t_newWide t_newHigh t_colours t_now t_file t_fresh t_colour t_table t_last t_one) → va_S A s.heap H locs → lv_has ls 2 [(0, .ref h_t)] → W p l e rmX9_copyBack s m args below meth c H locs 0 0 Q (F0 m 0 ls []) := by
  intro hf hP hD hS hl
  obtain ⟨hx, hb, hml, hown, hts⟩ := id C
  unfold fX9_copyBack at hf
  refine lv_iconst (v := 0) hx hb dX9_copyBack_0 (by decide) ?_
  refine lv_istore_n (lv' := [(1, .int 0), (0, .ref h_t)]) hx hb dX9_copyBack_1 rfl hl (by decide) rfl (fun ls hl => ?_)
  exact wX9_copyBack_2 C hN hK hA hE 1000 hf hP hD hS (lv_sub hl [1, 0] rfl)
set_option maxHeartbeats 4000000 in
set_option maxRecDepth 100000 in
theorem mX9_copyBack (l : Launch) (D : va_G) (cI : ClassId) (sz : Nat) (h_t h_t_now h_t_file h_t_fresh h_t_colour h_t_table h_t_last h_t_one : Nat) (t_wide : Int32) (t_high : Int32) (t_size : Int32) (t_at : Int32) (t_fault : Int32) (t_newWide : Int32) (t_newHigh : Int32) (t_colours : Int32) (t_now : Nat → Int32) (t_file : Nat → Int32) (t_fresh : Nat → Int32) (t_colour : Nat → Int32) (t_table : Nat → Int32) (t_last : Nat → Int32) (t_one : Nat → Int32) (zt_now : Nat → Int32) (hf : fX9_copyBack t_now t_fresh = some zt_now) : Met l yX9_copyBack wsX9_copyBack rmX9_copyBack (va_Pc [.ref h_t] (zP D [(cI, .int)] (zwX9 cI h_t h_t_now h_t_file h_t_fresh h_t_colour h_t_table h_t_last h_t_one t_wide t_high t_size t_at t_fault t_newWide t_newHigh t_colours t_now t_file t_fresh t_colour t_table t_last t_one) sz)) (zQv D (zwX9 cI h_t h_t_now h_t_file h_t_fresh h_t_colour h_t_table h_t_last h_t_one t_wide t_high t_size t_at t_fault t_newWide t_newHigh t_colours t_now t_file t_fresh t_colour t_table t_last t_one) sz (zwX9 cI h_t h_t_now h_t_file h_t_fresh h_t_colour h_t_table h_t_last h_t_one t_wide t_high t_size t_at t_fault t_newWide t_newHigh t_colours zt_now t_file t_fresh t_colour t_table t_last t_one)) 0 0 (va_A (zwX9 cI h_t h_t_now h_t_file h_t_fresh h_t_colour h_t_table h_t_last h_t_one t_wide t_high t_size t_at t_fault t_newWide t_newHigh t_colours t_now t_file t_fresh t_colour t_table t_last t_one) sz) := by
  refine Met.ofW (cc := cX9_copyBack) (maxL := 2) (ret := none) (by decide) rfl ?_
  intro p e s m args below meth c s₁ B hml hv
  obtain ⟨rfl, hsz, hP, hK, hD0, hN⟩ := hv
  subst hsz
  have C : CallFix p m c cX9_copyBack 2 s [.ref h_t].toArray wsX9_copyBack RX9 := ⟨B.exec, B.bytes, hml, findClass_of_methodNamed B.named, atoms_spec (ws := wsX9_copyBack) B.pre⟩
  have hl := lv_entry ([.ref h_t]) (n := 2) (Nat.le_of_ble_eq_true rfl)
  rw [lg_entry_eq]
  exact wX9_copyBack_0 (A := va_A (zwX9 cI h_t h_t_now h_t_file h_t_fresh h_t_colour h_t_table h_t_last h_t_one t_wide t_high t_size t_at t_fault t_newWide t_newHigh t_colours t_now t_file t_fresh t_colour t_table t_last t_one) s.heap.size) C hN hK (fun q h => Or.inr h) (fun H locs pc ls d hP hD hS => zend_v C.1 C.2.1 B.returns B.notSynchronized d hP hD hS) hf hP hD0.self va_S.rf hl
def rmX9_change : Room := { frames := 1, cells := 0, slots := 0, locals := 21 }
theorem kX9_change_7 {args : Array Value} {s : State} (h : ∀ w ∈ wsX9_change, w.before args s = true) : (Cond.fieldLink RX9 7 "FourPictureFilesModel" "wide" "I").before args s = true := h _ (by decide +kernel)
theorem kX9_change_13 {args : Array Value} {s : State} (h : ∀ w ∈ wsX9_change, w.before args s = true) : (Cond.fieldLink RX9 13 "FourPictureFilesModel" "high" "I").before args s = true := h _ (by decide +kernel)
theorem kX9_change_16 {args : Array Value} {s : State} (h : ∀ w ∈ wsX9_change, w.before args s = true) : (Cond.fieldLink RX9 16 "FourPictureFilesModel" "now" "[I").before args s = true := h _ (by decide +kernel)
theorem kX9_change_23 {args : Array Value} {s : State} (h : ∀ w ∈ wsX9_change, w.before args s = true) : (Cond.fieldLink RX9 23 "FourPictureFilesModel" "fresh" "[I").before args s = true := h _ (by decide +kernel)
theorem iX9_change_X9 : ∀ w ∈ u_ws RX9 TX9 15, w ∈ wsX9_change := by decide +kernel
theorem qX9_change_X9_copyBack_46 {args : Array Value} {s : State} (hts : ∀ w ∈ wsX9_change, w.before args s = true) : CallW rmX9_change s args RX9 RX9 46 yX9_copyBack cX9_copyBack 2 none wsX9_copyBack rmX9_copyBack 0 0 0 := cwV 0 hts gX9_change_X9_copyBack rfl rfl rfl (by decide +kernel) ⟨Nat.le_of_ble_eq_true rfl, Nat.le_of_ble_eq_true rfl⟩
set_option maxHeartbeats 4000000 in
set_option maxRecDepth 100000 in
theorem wX9_change_214 {p : Program} {l : Launch} {e : Env} {s : State} {m : MethodId} {args : Array Value} {below : List Frame} {meth : Method} {c : Code} {D : va_G} {A : Nat → Prop} {Q : State → Prop} {cI : ClassId} {h_t h_t_now h_t_file h_t_fresh h_t_colour h_t_table h_t_last h_t_one : Nat} {t_size : Int32} {t_at : Int32} {t_fault : Int32} {t_newWide : Int32} {t_newHigh : Int32} {t_colours : Int32} {t_file : Nat → Int32} {t_colour : Nat → Int32} {t_table : Nat → Int32} {t_last : Nat → Int32} {t_one : Nat → Int32} {r0 : Int32} {zt_wide : Int32} {zt_high : Int32} {zt_now : Nat → Int32} {zt_fresh : Nat → Int32} (C : CallFix p m c cX9_change 9 s args wsX9_change RX9) (hN : zN s) (hK : va_K D vwCl [(cI, .int)] s) (hA : ∀ q, s.heap.size ≤ q → A q) (hE : zEz p l e rmX9_change s m args below meth c cX9_change D A Q (zwX9 cI h_t h_t_now h_t_file h_t_fresh h_t_colour h_t_table h_t_last h_t_one zt_wide zt_high t_size t_at t_fault t_newWide t_newHigh t_colours zt_now t_file zt_fresh t_colour t_table t_last t_one) r0) {rc13 : Int32 → Int32 → (Nat → Int32) → (Nat → Int32) → Int32 → Int32 → Option (Int32 × Int32 × Int32 × (Nat → Int32) × (Nat → Int32))} (hr_13 : ∀ {t_wide : Int32} {t_high : Int32} {t_now : Nat → Int32} {t_fresh : Nat → Int32} {l1 : Int32} {l2 : Int32} {H : Heap} {locs : List Loc} {ls : Array Slot}, rc13 t_wide t_high t_now t_fresh l1 l2 = some (r0, zt_wide, zt_high, zt_now, zt_fresh) → va_P D vwCl (zwX9 cI h_t h_t_now h_t_file h_t_fresh h_t_colour h_t_table h_t_last h_t_one t_wide t_high t_size t_at t_fault t_newWide t_newHigh t_colours t_now t_file t_fresh t_colour t_table t_last t_one) H → va_D A (zwX9 cI h_t h_t_now h_t_file h_t_fresh h_t_colour h_t_table h_t_last h_t_one t_wide t_high t_size t_at t_fault t_newWide t_newHigh t_colours t_now t_file t_fresh t_colour t_table t_last t_one) → va_S A s.heap H locs → lv_has ls 9 [(0, .ref h_t), (1, .int l1), (2, .int l2)] → W p l e rmX9_change s m args below meth c H locs 0 0 Q (F0 m 13 ls [])) {rc23 : Int32 → Int32 → (Nat → Int32) → (Nat → Int32) → Int32 → Int32 → Int32 → Option (Int32 × Int32 × Int32 × (Nat → Int32) × (Nat → Int32))} (hr_23 : ∀ {t_wide : Int32} {t_high : Int32} {t_now : Nat → Int32} {t_fresh : Nat → Int32} {l1 : Int32} {l2 : Int32} {l3 : Int32} {H : Heap} {locs : List Loc} {ls : Array Slot}, rc23 t_wide t_high t_now t_fresh l1 l2 l3 = some (r0, zt_wide, zt_high, zt_now, zt_fresh) → va_P D vwCl (zwX9 cI h_t h_t_now h_t_file h_t_fresh h_t_colour h_t_table h_t_last h_t_one t_wide t_high t_size t_at t_fault t_newWide t_newHigh t_colours t_now t_file t_fresh t_colour t_table t_last t_one) H → va_D A (zwX9 cI h_t h_t_now h_t_file h_t_fresh h_t_colour h_t_table h_t_last h_t_one t_wide t_high t_size t_at t_fault t_newWide t_newHigh t_colours t_now t_file t_fresh t_colour t_table t_last t_one) → va_S A s.heap H locs → lv_has ls 9 [(0, .ref h_t), (1, .int l1), (2, .int l2), (3, .int l3)] → W p l e rmX9_change s m args below meth c H locs 0 0 Q (F0 m 23 ls [])) {rc150 : Int32 → Int32 → (Nat → Int32) → (Nat → Int32) → Int32 → Int32 → Int32 → Int32 → Int32 → Int32 → Int32 → Option (Int32 × Int32 × Int32 × (Nat → Int32) × (Nat → Int32))} (hr_150 : ∀ {t_wide : Int32} {t_high : Int32} {t_now : Nat → Int32} {t_fresh : Nat → Int32} {l1 : Int32} {l2 : Int32} {l3 : Int32} {l4 : Int32} {l5 : Int32} {l6 : Int32} {l7 : Int32} {H : Heap} {locs : List Loc} {ls : Array Slot}, rc150 t_wide t_high t_now t_fresh l1 l2 l3 l4 l5 l6 l7 = some (r0, zt_wide, zt_high, zt_now, zt_fresh) → va_P D vwCl (zwX9 cI h_t h_t_now h_t_file h_t_fresh h_t_colour h_t_table h_t_last h_t_one t_wide t_high t_size t_at t_fault t_newWide t_newHigh t_colours t_now t_file t_fresh t_colour t_table t_last t_one) H → va_D A (zwX9 cI h_t h_t_now h_t_file h_t_fresh h_t_colour h_t_table h_t_last h_t_one t_wide t_high t_size t_at t_fault t_newWide t_newHigh t_colours t_now t_file t_fresh t_colour t_table t_last t_one) → va_S A s.heap H locs → lv_has ls 9 [(0, .ref h_t), (1, .int l1), (2, .int l2), (3, .int l3), (4, .int l4), (5, .int l5), (6, .int l6), (7, .int l7)] → W p l e rmX9_change s m args below meth c H locs 0 0 Q (F0 m 150 ls [])) {t_wide : Int32} {t_high : Int32} {t_now : Nat → Int32} {t_fresh : Nat → Int32} {l1 : Int32} {l2 : Int32} {l3 : Int32} {l4 : Int32} {l5 : Int32} {l6 : Int32} {l7 : Int32} {l8 : Int32} {k1 : Int32} {k2 : Int32} {H : Heap} {locs : List Loc} {ls : Array Slot} : fX9_change_214 rc13 rc23 rc150 t_wide t_high t_now t_fresh l1 l2 l3 l4 l5 l6 l7 k1 k2 = some (r0, zt_wide, zt_high, zt_now, zt_fresh) → va_P D vwCl (zwX9 cI h_t h_t_now h_t_file h_t_fresh h_t_colour h_t_table h_t_last h_t_one t_wide t_high t_size t_at t_fault t_newWide t_newHigh t_colours t_now t_file t_fresh t_colour t_table t_last t_one) H → va_D A (zwX9 cI h_t h_t_now h_t_file h_t_fresh h_t_colour h_t_table h_t_last h_t_one t_wide t_high t_size t_at t_fault t_newWide t_newHigh t_colours t_now t_file t_fresh t_colour t_table t_last t_one) → va_S A s.heap H locs → lv_has ls 9 [(0, .ref h_t), (1, .int l1), (2, .int l2), (3, .int l3), (4, .int l4), (5, .int l5), (6, .int l6), (7, .int l7), (8, .int l8)] → W p l e rmX9_change s m args below meth c H locs 0 0 Q (F0 m 214 ls [.int k2, .int k1, .ref h_t_fresh]) := by
  intro hf hP hD hS hl
  obtain ⟨hx, hb, hml, hown, hts⟩ := id C
  unfold fX9_change_214 at hf
  obtain ⟨hg2, g1, eg1, hf⟩ := zwr_in hf
  refine va_iast hx hb hK hP hD hS 3 0 rfl rfl hg2 dX9_change_214 (fun H locs hP hD hS => ?_)
  replace hP : va_P D vwCl (zwX9 cI h_t h_t_now h_t_file h_t_fresh h_t_colour h_t_table h_t_last h_t_one t_wide t_high t_size t_at t_fault t_newWide t_newHigh t_colours t_now t_file g1 t_colour t_table t_last t_one) H := by rw [← eg1]; exact hP
  replace hD : va_D A (zwX9 cI h_t h_t_now h_t_file h_t_fresh h_t_colour h_t_table h_t_last h_t_one t_wide t_high t_size t_at t_fault t_newWide t_newHigh t_colours t_now t_file g1 t_colour t_table t_last t_one) := by rw [← eg1]; exact hD
  clear eg1
  obtain ⟨x3, ex3⟩ : ∃ y : Int32, y = l7 + 1 := ⟨_, rfl⟩
  replace hf := zlet_in hf ex3
  refine lv_iinc (v := x3) (lv' := [(7, .int x3), (0, .ref h_t), (1, .int l1), (2, .int l2), (3, .int l3), (4, .int l4), (5, .int l5), (6, .int l6), (8, .int l8)]) hx hb dX9_change_215 hl (k := 7) rfl (by rw [ex3]; rfl) (by decide) rfl (fun ls hl => ?_)
  clear ex3
  refine lv_goto (tgt := 150) hx hb dX9_change_218 (by decide) ?_
  exact hr_150 hf hP hD hS (lv_sub hl [1, 2, 3, 4, 5, 6, 7, 0] rfl)
set_option maxHeartbeats 4000000 in
set_option maxRecDepth 100000 in
theorem wX9_change_212 {p : Program} {l : Launch} {e : Env} {s : State} {m : MethodId} {args : Array Value} {below : List Frame} {meth : Method} {c : Code} {D : va_G} {A : Nat → Prop} {Q : State → Prop} {cI : ClassId} {h_t h_t_now h_t_file h_t_fresh h_t_colour h_t_table h_t_last h_t_one : Nat} {t_size : Int32} {t_at : Int32} {t_fault : Int32} {t_newWide : Int32} {t_newHigh : Int32} {t_colours : Int32} {t_file : Nat → Int32} {t_colour : Nat → Int32} {t_table : Nat → Int32} {t_last : Nat → Int32} {t_one : Nat → Int32} {r0 : Int32} {zt_wide : Int32} {zt_high : Int32} {zt_now : Nat → Int32} {zt_fresh : Nat → Int32} (C : CallFix p m c cX9_change 9 s args wsX9_change RX9) (hN : zN s) (hK : va_K D vwCl [(cI, .int)] s) (hA : ∀ q, s.heap.size ≤ q → A q) (hE : zEz p l e rmX9_change s m args below meth c cX9_change D A Q (zwX9 cI h_t h_t_now h_t_file h_t_fresh h_t_colour h_t_table h_t_last h_t_one zt_wide zt_high t_size t_at t_fault t_newWide t_newHigh t_colours zt_now t_file zt_fresh t_colour t_table t_last t_one) r0) {rc13 : Int32 → Int32 → (Nat → Int32) → (Nat → Int32) → Int32 → Int32 → Option (Int32 × Int32 × Int32 × (Nat → Int32) × (Nat → Int32))} (hr_13 : ∀ {t_wide : Int32} {t_high : Int32} {t_now : Nat → Int32} {t_fresh : Nat → Int32} {l1 : Int32} {l2 : Int32} {H : Heap} {locs : List Loc} {ls : Array Slot}, rc13 t_wide t_high t_now t_fresh l1 l2 = some (r0, zt_wide, zt_high, zt_now, zt_fresh) → va_P D vwCl (zwX9 cI h_t h_t_now h_t_file h_t_fresh h_t_colour h_t_table h_t_last h_t_one t_wide t_high t_size t_at t_fault t_newWide t_newHigh t_colours t_now t_file t_fresh t_colour t_table t_last t_one) H → va_D A (zwX9 cI h_t h_t_now h_t_file h_t_fresh h_t_colour h_t_table h_t_last h_t_one t_wide t_high t_size t_at t_fault t_newWide t_newHigh t_colours t_now t_file t_fresh t_colour t_table t_last t_one) → va_S A s.heap H locs → lv_has ls 9 [(0, .ref h_t), (1, .int l1), (2, .int l2)] → W p l e rmX9_change s m args below meth c H locs 0 0 Q (F0 m 13 ls [])) {rc23 : Int32 → Int32 → (Nat → Int32) → (Nat → Int32) → Int32 → Int32 → Int32 → Option (Int32 × Int32 × Int32 × (Nat → Int32) × (Nat → Int32))} (hr_23 : ∀ {t_wide : Int32} {t_high : Int32} {t_now : Nat → Int32} {t_fresh : Nat → Int32} {l1 : Int32} {l2 : Int32} {l3 : Int32} {H : Heap} {locs : List Loc} {ls : Array Slot}, rc23 t_wide t_high t_now t_fresh l1 l2 l3 = some (r0, zt_wide, zt_high, zt_now, zt_fresh) → va_P D vwCl (zwX9 cI h_t h_t_now h_t_file h_t_fresh h_t_colour h_t_table h_t_last h_t_one t_wide t_high t_size t_at t_fault t_newWide t_newHigh t_colours t_now t_file t_fresh t_colour t_table t_last t_one) H → va_D A (zwX9 cI h_t h_t_now h_t_file h_t_fresh h_t_colour h_t_table h_t_last h_t_one t_wide t_high t_size t_at t_fault t_newWide t_newHigh t_colours t_now t_file t_fresh t_colour t_table t_last t_one) → va_S A s.heap H locs → lv_has ls 9 [(0, .ref h_t), (1, .int l1), (2, .int l2), (3, .int l3)] → W p l e rmX9_change s m args below meth c H locs 0 0 Q (F0 m 23 ls [])) {rc150 : Int32 → Int32 → (Nat → Int32) → (Nat → Int32) → Int32 → Int32 → Int32 → Int32 → Int32 → Int32 → Int32 → Option (Int32 × Int32 × Int32 × (Nat → Int32) × (Nat → Int32))} (hr_150 : ∀ {t_wide : Int32} {t_high : Int32} {t_now : Nat → Int32} {t_fresh : Nat → Int32} {l1 : Int32} {l2 : Int32} {l3 : Int32} {l4 : Int32} {l5 : Int32} {l6 : Int32} {l7 : Int32} {H : Heap} {locs : List Loc} {ls : Array Slot}, rc150 t_wide t_high t_now t_fresh l1 l2 l3 l4 l5 l6 l7 = some (r0, zt_wide, zt_high, zt_now, zt_fresh) → va_P D vwCl (zwX9 cI h_t h_t_now h_t_file h_t_fresh h_t_colour h_t_table h_t_last h_t_one t_wide t_high t_size t_at t_fault t_newWide t_newHigh t_colours t_now t_file t_fresh t_colour t_table t_last t_one) H → va_D A (zwX9 cI h_t h_t_now h_t_file h_t_fresh h_t_colour h_t_table h_t_last h_t_one t_wide t_high t_size t_at t_fault t_newWide t_newHigh t_colours t_now t_file t_fresh t_colour t_table t_last t_one) → va_S A s.heap H locs → lv_has ls 9 [(0, .ref h_t), (1, .int l1), (2, .int l2), (3, .int l3), (4, .int l4), (5, .int l5), (6, .int l6), (7, .int l7)] → W p l e rmX9_change s m args below meth c H locs 0 0 Q (F0 m 150 ls [])) {t_wide : Int32} {t_high : Int32} {t_now : Nat → Int32} {t_fresh : Nat → Int32} {l1 : Int32} {l2 : Int32} {l3 : Int32} {l4 : Int32} {l5 : Int32} {l6 : Int32} {l7 : Int32} {l8 : Int32} {k1 : Int32} {H : Heap} {locs : List Loc} {ls : Array Slot} : fX9_change_212 rc13 rc23 rc150 t_wide t_high t_now t_fresh l1 l2 l3 l4 l5 l6 l7 l8 k1 = some (r0, zt_wide, zt_high, zt_now, zt_fresh) → va_P D vwCl (zwX9 cI h_t h_t_now h_t_file h_t_fresh h_t_colour h_t_table h_t_last h_t_one t_wide t_high t_size t_at t_fault t_newWide t_newHigh t_colours t_now t_file t_fresh t_colour t_table t_last t_one) H → va_D A (zwX9 cI h_t h_t_now h_t_file h_t_fresh h_t_colour h_t_table h_t_last h_t_one t_wide t_high t_size t_at t_fault t_newWide t_newHigh t_colours t_now t_file t_fresh t_colour t_table t_last t_one) → va_S A s.heap H locs → lv_has ls 9 [(0, .ref h_t), (1, .int l1), (2, .int l2), (3, .int l3), (4, .int l4), (5, .int l5), (6, .int l6), (7, .int l7), (8, .int l8)] → W p l e rmX9_change s m args below meth c H locs 0 0 Q (F0 m 212 ls [.int k1, .ref h_t_fresh]) := by
  intro hf hP hD hS hl
  obtain ⟨hx, hb, hml, hown, hts⟩ := id C
  unfold fX9_change_212 at hf
  refine lv_iload hx hb dX9_change_212 (lv_at hl 8 rfl) ?_
  exact wX9_change_214 C hN hK hA hE hr_13 hr_23 hr_150 hf hP hD hS (lv_sub hl [0, 1, 2, 3, 4, 5, 6, 7, 8] rfl)
set_option maxHeartbeats 4000000 in
set_option maxRecDepth 100000 in
theorem wX9_change_195 {p : Program} {l : Launch} {e : Env} {s : State} {m : MethodId} {args : Array Value} {below : List Frame} {meth : Method} {c : Code} {D : va_G} {A : Nat → Prop} {Q : State → Prop} {cI : ClassId} {h_t h_t_now h_t_file h_t_fresh h_t_colour h_t_table h_t_last h_t_one : Nat} {t_size : Int32} {t_at : Int32} {t_fault : Int32} {t_newWide : Int32} {t_newHigh : Int32} {t_colours : Int32} {t_file : Nat → Int32} {t_colour : Nat → Int32} {t_table : Nat → Int32} {t_last : Nat → Int32} {t_one : Nat → Int32} {r0 : Int32} {zt_wide : Int32} {zt_high : Int32} {zt_now : Nat → Int32} {zt_fresh : Nat → Int32} (C : CallFix p m c cX9_change 9 s args wsX9_change RX9) (hN : zN s) (hK : va_K D vwCl [(cI, .int)] s) (hA : ∀ q, s.heap.size ≤ q → A q) (hE : zEz p l e rmX9_change s m args below meth c cX9_change D A Q (zwX9 cI h_t h_t_now h_t_file h_t_fresh h_t_colour h_t_table h_t_last h_t_one zt_wide zt_high t_size t_at t_fault t_newWide t_newHigh t_colours zt_now t_file zt_fresh t_colour t_table t_last t_one) r0) {rc13 : Int32 → Int32 → (Nat → Int32) → (Nat → Int32) → Int32 → Int32 → Option (Int32 × Int32 × Int32 × (Nat → Int32) × (Nat → Int32))} (hr_13 : ∀ {t_wide : Int32} {t_high : Int32} {t_now : Nat → Int32} {t_fresh : Nat → Int32} {l1 : Int32} {l2 : Int32} {H : Heap} {locs : List Loc} {ls : Array Slot}, rc13 t_wide t_high t_now t_fresh l1 l2 = some (r0, zt_wide, zt_high, zt_now, zt_fresh) → va_P D vwCl (zwX9 cI h_t h_t_now h_t_file h_t_fresh h_t_colour h_t_table h_t_last h_t_one t_wide t_high t_size t_at t_fault t_newWide t_newHigh t_colours t_now t_file t_fresh t_colour t_table t_last t_one) H → va_D A (zwX9 cI h_t h_t_now h_t_file h_t_fresh h_t_colour h_t_table h_t_last h_t_one t_wide t_high t_size t_at t_fault t_newWide t_newHigh t_colours t_now t_file t_fresh t_colour t_table t_last t_one) → va_S A s.heap H locs → lv_has ls 9 [(0, .ref h_t), (1, .int l1), (2, .int l2)] → W p l e rmX9_change s m args below meth c H locs 0 0 Q (F0 m 13 ls [])) {rc23 : Int32 → Int32 → (Nat → Int32) → (Nat → Int32) → Int32 → Int32 → Int32 → Option (Int32 × Int32 × Int32 × (Nat → Int32) × (Nat → Int32))} (hr_23 : ∀ {t_wide : Int32} {t_high : Int32} {t_now : Nat → Int32} {t_fresh : Nat → Int32} {l1 : Int32} {l2 : Int32} {l3 : Int32} {H : Heap} {locs : List Loc} {ls : Array Slot}, rc23 t_wide t_high t_now t_fresh l1 l2 l3 = some (r0, zt_wide, zt_high, zt_now, zt_fresh) → va_P D vwCl (zwX9 cI h_t h_t_now h_t_file h_t_fresh h_t_colour h_t_table h_t_last h_t_one t_wide t_high t_size t_at t_fault t_newWide t_newHigh t_colours t_now t_file t_fresh t_colour t_table t_last t_one) H → va_D A (zwX9 cI h_t h_t_now h_t_file h_t_fresh h_t_colour h_t_table h_t_last h_t_one t_wide t_high t_size t_at t_fault t_newWide t_newHigh t_colours t_now t_file t_fresh t_colour t_table t_last t_one) → va_S A s.heap H locs → lv_has ls 9 [(0, .ref h_t), (1, .int l1), (2, .int l2), (3, .int l3)] → W p l e rmX9_change s m args below meth c H locs 0 0 Q (F0 m 23 ls [])) {rc150 : Int32 → Int32 → (Nat → Int32) → (Nat → Int32) → Int32 → Int32 → Int32 → Int32 → Int32 → Int32 → Int32 → Option (Int32 × Int32 × Int32 × (Nat → Int32) × (Nat → Int32))} (hr_150 : ∀ {t_wide : Int32} {t_high : Int32} {t_now : Nat → Int32} {t_fresh : Nat → Int32} {l1 : Int32} {l2 : Int32} {l3 : Int32} {l4 : Int32} {l5 : Int32} {l6 : Int32} {l7 : Int32} {H : Heap} {locs : List Loc} {ls : Array Slot}, rc150 t_wide t_high t_now t_fresh l1 l2 l3 l4 l5 l6 l7 = some (r0, zt_wide, zt_high, zt_now, zt_fresh) → va_P D vwCl (zwX9 cI h_t h_t_now h_t_file h_t_fresh h_t_colour h_t_table h_t_last h_t_one t_wide t_high t_size t_at t_fault t_newWide t_newHigh t_colours t_now t_file t_fresh t_colour t_table t_last t_one) H → va_D A (zwX9 cI h_t h_t_now h_t_file h_t_fresh h_t_colour h_t_table h_t_last h_t_one t_wide t_high t_size t_at t_fault t_newWide t_newHigh t_colours t_now t_file t_fresh t_colour t_table t_last t_one) → va_S A s.heap H locs → lv_has ls 9 [(0, .ref h_t), (1, .int l1), (2, .int l2), (3, .int l3), (4, .int l4), (5, .int l5), (6, .int l6), (7, .int l7)] → W p l e rmX9_change s m args below meth c H locs 0 0 Q (F0 m 150 ls [])) {t_wide : Int32} {t_high : Int32} {t_now : Nat → Int32} {t_fresh : Nat → Int32} {l1 : Int32} {l2 : Int32} {l3 : Int32} {l4 : Int32} {l5 : Int32} {l6 : Int32} {l7 : Int32} {l8 : Int32} {k1 : Int32} {H : Heap} {locs : List Loc} {ls : Array Slot} : fX9_change_195 rc13 rc23 rc150 t_wide t_high t_now t_fresh l1 l2 l3 l4 l5 l6 l7 l8 k1 = some (r0, zt_wide, zt_high, zt_now, zt_fresh) → va_P D vwCl (zwX9 cI h_t h_t_now h_t_file h_t_fresh h_t_colour h_t_table h_t_last h_t_one t_wide t_high t_size t_at t_fault t_newWide t_newHigh t_colours t_now t_file t_fresh t_colour t_table t_last t_one) H → va_D A (zwX9 cI h_t h_t_now h_t_file h_t_fresh h_t_colour h_t_table h_t_last h_t_one t_wide t_high t_size t_at t_fault t_newWide t_newHigh t_colours t_now t_file t_fresh t_colour t_table t_last t_one) → va_S A s.heap H locs → lv_has ls 9 [(0, .ref h_t), (1, .int l1), (2, .int l2), (3, .int l3), (4, .int l4), (5, .int l5), (6, .int l6), (7, .int l7), (8, .int l8)] → W p l e rmX9_change s m args below meth c H locs 0 0 Q (F0 m 195 ls [.int k1, .ref h_t_fresh]) := by
  intro hf hP hD hS hl
  obtain ⟨hx, hb, hml, hown, hts⟩ := id C
  unfold fX9_change_195 at hf
  refine lv_iload_n hx hb dX9_change_195 rfl (lv_at hl 1 rfl) ?_
  refine lv_iconst (v := 4) hx hb dX9_change_196 (by decide) ?_
  refine lv_icmp_ne (tgt := 212) hx hb dX9_change_197 (by decide) (fun c1 => ?_) (fun c1 => ?_)
  · replace hf := zif_f hf c1
    exact wX9_change_212 C hN hK hA hE hr_13 hr_23 hr_150 hf hP hD hS (lv_sub hl [0, 1, 2, 3, 4, 5, 6, 7, 8] rfl)
  · replace hf := zif_t hf c1
    refine lv_iload hx hb dX9_change_200 (lv_at hl 7 rfl) ?_
    refine lv_iconst (v := 3) hx hb dX9_change_202 (by decide) ?_
    refine lv_icmp_ne (tgt := 212) hx hb dX9_change_203 (by decide) (fun c2 => ?_) (fun c2 => ?_)
    · replace hf := zif_f hf c2
      exact wX9_change_212 C hN hK hA hE hr_13 hr_23 hr_150 hf hP hD hS (lv_sub hl [0, 1, 2, 3, 4, 5, 6, 7, 8] rfl)
    · replace hf := zif_t hf c2
      refine lv_sipush (v := 255) hx hb dX9_change_206 (by decide) ?_
      refine lv_goto (tgt := 214) hx hb dX9_change_209 (by decide) ?_
      exact wX9_change_214 C hN hK hA hE hr_13 hr_23 hr_150 hf hP hD hS (lv_sub hl [0, 1, 2, 3, 4, 5, 6, 7, 8] rfl)
set_option maxHeartbeats 4000000 in
set_option maxRecDepth 100000 in
theorem wX9_change_150 {p : Program} {l : Launch} {e : Env} {s : State} {m : MethodId} {args : Array Value} {below : List Frame} {meth : Method} {c : Code} {D : va_G} {A : Nat → Prop} {Q : State → Prop} {cI : ClassId} {h_t h_t_now h_t_file h_t_fresh h_t_colour h_t_table h_t_last h_t_one : Nat} {t_size : Int32} {t_at : Int32} {t_fault : Int32} {t_newWide : Int32} {t_newHigh : Int32} {t_colours : Int32} {t_file : Nat → Int32} {t_colour : Nat → Int32} {t_table : Nat → Int32} {t_last : Nat → Int32} {t_one : Nat → Int32} {r0 : Int32} {zt_wide : Int32} {zt_high : Int32} {zt_now : Nat → Int32} {zt_fresh : Nat → Int32} (C : CallFix p m c cX9_change 9 s args wsX9_change RX9) (hN : zN s) (hK : va_K D vwCl [(cI, .int)] s) (hA : ∀ q, s.heap.size ≤ q → A q) (hE : zEz p l e rmX9_change s m args below meth c cX9_change D A Q (zwX9 cI h_t h_t_now h_t_file h_t_fresh h_t_colour h_t_table h_t_last h_t_one zt_wide zt_high t_size t_at t_fault t_newWide t_newHigh t_colours zt_now t_file zt_fresh t_colour t_table t_last t_one) r0) {rc13 : Int32 → Int32 → (Nat → Int32) → (Nat → Int32) → Int32 → Int32 → Option (Int32 × Int32 × Int32 × (Nat → Int32) × (Nat → Int32))} (hr_13 : ∀ {t_wide : Int32} {t_high : Int32} {t_now : Nat → Int32} {t_fresh : Nat → Int32} {l1 : Int32} {l2 : Int32} {H : Heap} {locs : List Loc} {ls : Array Slot}, rc13 t_wide t_high t_now t_fresh l1 l2 = some (r0, zt_wide, zt_high, zt_now, zt_fresh) → va_P D vwCl (zwX9 cI h_t h_t_now h_t_file h_t_fresh h_t_colour h_t_table h_t_last h_t_one t_wide t_high t_size t_at t_fault t_newWide t_newHigh t_colours t_now t_file t_fresh t_colour t_table t_last t_one) H → va_D A (zwX9 cI h_t h_t_now h_t_file h_t_fresh h_t_colour h_t_table h_t_last h_t_one t_wide t_high t_size t_at t_fault t_newWide t_newHigh t_colours t_now t_file t_fresh t_colour t_table t_last t_one) → va_S A s.heap H locs → lv_has ls 9 [(0, .ref h_t), (1, .int l1), (2, .int l2)] → W p l e rmX9_change s m args below meth c H locs 0 0 Q (F0 m 13 ls [])) {rc23 : Int32 → Int32 → (Nat → Int32) → (Nat → Int32) → Int32 → Int32 → Int32 → Option (Int32 × Int32 × Int32 × (Nat → Int32) × (Nat → Int32))} (hr_23 : ∀ {t_wide : Int32} {t_high : Int32} {t_now : Nat → Int32} {t_fresh : Nat → Int32} {l1 : Int32} {l2 : Int32} {l3 : Int32} {H : Heap} {locs : List Loc} {ls : Array Slot}, rc23 t_wide t_high t_now t_fresh l1 l2 l3 = some (r0, zt_wide, zt_high, zt_now, zt_fresh) → va_P D vwCl (zwX9 cI h_t h_t_now h_t_file h_t_fresh h_t_colour h_t_table h_t_last h_t_one t_wide t_high t_size t_at t_fault t_newWide t_newHigh t_colours t_now t_file t_fresh t_colour t_table t_last t_one) H → va_D A (zwX9 cI h_t h_t_now h_t_file h_t_fresh h_t_colour h_t_table h_t_last h_t_one t_wide t_high t_size t_at t_fault t_newWide t_newHigh t_colours t_now t_file t_fresh t_colour t_table t_last t_one) → va_S A s.heap H locs → lv_has ls 9 [(0, .ref h_t), (1, .int l1), (2, .int l2), (3, .int l3)] → W p l e rmX9_change s m args below meth c H locs 0 0 Q (F0 m 23 ls [])) (n : Nat) : ∀ {t_wide : Int32} {t_high : Int32} {t_now : Nat → Int32} {t_fresh : Nat → Int32} {l1 : Int32} {l2 : Int32} {l3 : Int32} {l4 : Int32} {l5 : Int32} {l6 : Int32} {l7 : Int32} {H : Heap} {locs : List Loc} {ls : Array Slot}, fX9_change_150 rc13 rc23 n t_wide t_high t_now t_fresh l1 l2 l3 l4 l5 l6 l7 = some (r0, zt_wide, zt_high, zt_now, zt_fresh) → va_P D vwCl (zwX9 cI h_t h_t_now h_t_file h_t_fresh h_t_colour h_t_table h_t_last h_t_one t_wide t_high t_size t_at t_fault t_newWide t_newHigh t_colours t_now t_file t_fresh t_colour t_table t_last t_one) H → va_D A (zwX9 cI h_t h_t_now h_t_file h_t_fresh h_t_colour h_t_table h_t_last h_t_one t_wide t_high t_size t_at t_fault t_newWide t_newHigh t_colours t_now t_file t_fresh t_colour t_table t_last t_one) → va_S A s.heap H locs → lv_has ls 9 [(0, .ref h_t), (1, .int l1), (2, .int l2), (3, .int l3), (4, .int l4), (5, .int l5), (6, .int l6), (7, .int l7)] → W p l e rmX9_change s m args below meth c H locs 0 0 Q (F0 m 150 ls []) := by
  obtain ⟨hx, hb, hml, hown, hts⟩ := id C
  induction n with
  | zero =>
    intro t_wide t_high t_now t_fresh l1 l2 l3 l4 l5 l6 l7 H locs ls hf
    cases hf
  | succ n hr_150 =>
    intro t_wide t_high t_now t_fresh l1 l2 l3 l4 l5 l6 l7 H locs ls hf hP hD hS hl
    rw [fX9_change_150_s] at hf
    refine lv_iload hx hb dX9_change_150 (lv_at hl 7 rfl) ?_
    refine lv_iconst (v := 4) hx hb dX9_change_152 (by decide) ?_
    refine lv_icmp_ge (tgt := 221) hx hb dX9_change_153 (by decide) (fun c1 => ?_) (fun c1 => ?_)
    · replace hf := zif_t hf c1
      obtain ⟨x2, ex2⟩ : ∃ y : Int32, y = l3 + 1 := ⟨_, rfl⟩
      replace hf := zlet_in hf ex2
      refine lv_iinc (v := x2) (lv' := [(3, .int x2), (0, .ref h_t), (1, .int l1), (2, .int l2), (4, .int l4), (5, .int l5), (6, .int l6), (7, .int l7)]) hx hb dX9_change_221 hl (k := 3) rfl (by rw [ex2]; rfl) (by decide) rfl (fun ls hl => ?_)
      clear ex2
      refine lv_goto (tgt := 23) hx hb dX9_change_224 (by decide) ?_
      exact hr_23 hf hP hD hS (lv_sub hl [1, 2, 3, 0] rfl)
    · replace hf := zif_f hf c1
      refine lv_aload_n hx hb dX9_change_156 rfl (lv_at hl 0 rfl) ?_
      refine va_get (D := D) (ci := 8) (v := .ref h_t_now) (C := RX9) (T := TX9) (N := 15) hx hb hts iX9_change_X9 hown hK hP 0 rfl rfl 2 (by decide) (kX9_change_16 hts) (fun _ h9 => h9) rfl dX9_change_157 ?_
      refine lv_iload hx hb dX9_change_160 (lv_at hl 5 rfl) ?_
      refine lv_iload hx hb dX9_change_162 (lv_at hl 7 rfl) ?_
      refine lv_iadd hx hb dX9_change_164 ?_
      obtain ⟨hg4, hf⟩ := zrd_in hf
      refine va_iald hx hb hK hP 1 0 rfl rfl hg4 dX9_change_165 ?_
      refine lv_topi (fun x3 ex3 => ?_)
      replace hf := hf x3 ex3
      clear ex3
      refine lv_istore (lv' := [(8, .int x3), (0, .ref h_t), (1, .int l1), (2, .int l2), (3, .int l3), (4, .int l4), (5, .int l5), (6, .int l6), (7, .int l7)]) hx hb dX9_change_166 hl (by decide) rfl (fun ls hl => ?_)
      refine lv_aload_n hx hb dX9_change_168 rfl (lv_at hl 1 rfl) ?_
      refine va_get (D := D) (ci := 8) (v := .ref h_t_fresh) (C := RX9) (T := TX9) (N := 15) hx hb hts iX9_change_X9 hown hK hP 0 rfl rfl 9 (by decide) (kX9_change_23 hts) (fun _ h9 => h9) rfl dX9_change_169 ?_
      refine lv_iconst (v := 4) hx hb dX9_change_172 (by decide) ?_
      refine lv_iload hx hb dX9_change_173 (lv_at hl 5 rfl) ?_
      refine lv_imul hx hb dX9_change_175 ?_
      refine lv_iload hx hb dX9_change_176 (lv_at hl 8 rfl) ?_
      refine lv_iadd hx hb dX9_change_178 ?_
      refine lv_iload_n hx hb dX9_change_179 rfl (lv_at hl 2 rfl) ?_
      refine lv_iconst (v := 3) hx hb dX9_change_180 (by decide) ?_
      refine lv_icmp_ne (tgt := 195) hx hb dX9_change_181 (by decide) (fun c5 => ?_) (fun c5 => ?_)
      · replace hf := zif_f hf c5
        exact wX9_change_195 C hN hK hA hE hr_13 hr_23 hr_150 hf hP hD hS (lv_sub hl [1, 2, 3, 4, 5, 6, 7, 8, 0] rfl)
      · replace hf := zif_t hf c5
        refine lv_iload hx hb dX9_change_184 (lv_at hl 8 rfl) ?_
        refine lv_iconst (v := 3) hx hb dX9_change_186 (by decide) ?_
        refine lv_icmp_ge (tgt := 195) hx hb dX9_change_187 (by decide) (fun c6 => ?_) (fun c6 => ?_)
        · replace hf := zif_t hf c6
          exact wX9_change_195 C hN hK hA hE hr_13 hr_23 hr_150 hf hP hD hS (lv_sub hl [1, 2, 3, 4, 5, 6, 7, 8, 0] rfl)
        · replace hf := zif_f hf c6
          refine lv_iload hx hb dX9_change_190 (lv_at hl 7 rfl) ?_
          refine lv_goto (tgt := 214) hx hb dX9_change_192 (by decide) ?_
          exact wX9_change_214 C hN hK hA hE hr_13 hr_23 hr_150 hf hP hD hS (lv_sub hl [1, 2, 3, 4, 5, 6, 7, 8, 0] rfl)
set_option maxHeartbeats 4000000 in
set_option maxRecDepth 100000 in
theorem wX9_change_92 {p : Program} {l : Launch} {e : Env} {s : State} {m : MethodId} {args : Array Value} {below : List Frame} {meth : Method} {c : Code} {D : va_G} {A : Nat → Prop} {Q : State → Prop} {cI : ClassId} {h_t h_t_now h_t_file h_t_fresh h_t_colour h_t_table h_t_last h_t_one : Nat} {t_size : Int32} {t_at : Int32} {t_fault : Int32} {t_newWide : Int32} {t_newHigh : Int32} {t_colours : Int32} {t_file : Nat → Int32} {t_colour : Nat → Int32} {t_table : Nat → Int32} {t_last : Nat → Int32} {t_one : Nat → Int32} {r0 : Int32} {zt_wide : Int32} {zt_high : Int32} {zt_now : Nat → Int32} {zt_fresh : Nat → Int32} (C : CallFix p m c cX9_change 9 s args wsX9_change RX9) (hN : zN s) (hK : va_K D vwCl [(cI, .int)] s) (hA : ∀ q, s.heap.size ≤ q → A q) (hE : zEz p l e rmX9_change s m args below meth c cX9_change D A Q (zwX9 cI h_t h_t_now h_t_file h_t_fresh h_t_colour h_t_table h_t_last h_t_one zt_wide zt_high t_size t_at t_fault t_newWide t_newHigh t_colours zt_now t_file zt_fresh t_colour t_table t_last t_one) r0) {rc13 : Int32 → Int32 → (Nat → Int32) → (Nat → Int32) → Int32 → Int32 → Option (Int32 × Int32 × Int32 × (Nat → Int32) × (Nat → Int32))} (hr_13 : ∀ {t_wide : Int32} {t_high : Int32} {t_now : Nat → Int32} {t_fresh : Nat → Int32} {l1 : Int32} {l2 : Int32} {H : Heap} {locs : List Loc} {ls : Array Slot}, rc13 t_wide t_high t_now t_fresh l1 l2 = some (r0, zt_wide, zt_high, zt_now, zt_fresh) → va_P D vwCl (zwX9 cI h_t h_t_now h_t_file h_t_fresh h_t_colour h_t_table h_t_last h_t_one t_wide t_high t_size t_at t_fault t_newWide t_newHigh t_colours t_now t_file t_fresh t_colour t_table t_last t_one) H → va_D A (zwX9 cI h_t h_t_now h_t_file h_t_fresh h_t_colour h_t_table h_t_last h_t_one t_wide t_high t_size t_at t_fault t_newWide t_newHigh t_colours t_now t_file t_fresh t_colour t_table t_last t_one) → va_S A s.heap H locs → lv_has ls 9 [(0, .ref h_t), (1, .int l1), (2, .int l2)] → W p l e rmX9_change s m args below meth c H locs 0 0 Q (F0 m 13 ls [])) {rc23 : Int32 → Int32 → (Nat → Int32) → (Nat → Int32) → Int32 → Int32 → Int32 → Option (Int32 × Int32 × Int32 × (Nat → Int32) × (Nat → Int32))} (hr_23 : ∀ {t_wide : Int32} {t_high : Int32} {t_now : Nat → Int32} {t_fresh : Nat → Int32} {l1 : Int32} {l2 : Int32} {l3 : Int32} {H : Heap} {locs : List Loc} {ls : Array Slot}, rc23 t_wide t_high t_now t_fresh l1 l2 l3 = some (r0, zt_wide, zt_high, zt_now, zt_fresh) → va_P D vwCl (zwX9 cI h_t h_t_now h_t_file h_t_fresh h_t_colour h_t_table h_t_last h_t_one t_wide t_high t_size t_at t_fault t_newWide t_newHigh t_colours t_now t_file t_fresh t_colour t_table t_last t_one) H → va_D A (zwX9 cI h_t h_t_now h_t_file h_t_fresh h_t_colour h_t_table h_t_last h_t_one t_wide t_high t_size t_at t_fault t_newWide t_newHigh t_colours t_now t_file t_fresh t_colour t_table t_last t_one) → va_S A s.heap H locs → lv_has ls 9 [(0, .ref h_t), (1, .int l1), (2, .int l2), (3, .int l3)] → W p l e rmX9_change s m args below meth c H locs 0 0 Q (F0 m 23 ls [])) {t_wide : Int32} {t_high : Int32} {t_now : Nat → Int32} {t_fresh : Nat → Int32} {l1 : Int32} {l2 : Int32} {l3 : Int32} {k0 : Int32} {H : Heap} {locs : List Loc} {ls : Array Slot} : fX9_change_92 rc13 rc23 t_wide t_high t_now t_fresh l1 l2 l3 k0 = some (r0, zt_wide, zt_high, zt_now, zt_fresh) → va_P D vwCl (zwX9 cI h_t h_t_now h_t_file h_t_fresh h_t_colour h_t_table h_t_last h_t_one t_wide t_high t_size t_at t_fault t_newWide t_newHigh t_colours t_now t_file t_fresh t_colour t_table t_last t_one) H → va_D A (zwX9 cI h_t h_t_now h_t_file h_t_fresh h_t_colour h_t_table h_t_last h_t_one t_wide t_high t_size t_at t_fault t_newWide t_newHigh t_colours t_now t_file t_fresh t_colour t_table t_last t_one) → va_S A s.heap H locs → lv_has ls 9 [(0, .ref h_t), (1, .int l1), (2, .int l2), (3, .int l3)] → W p l e rmX9_change s m args below meth c H locs 0 0 Q (F0 m 92 ls [.int k0]) := by
  intro hf hP hD hS hl
  obtain ⟨hx, hb, hml, hown, hts⟩ := id C
  unfold fX9_change_92 at hf
  refine lv_istore (lv' := [(4, .int k0), (0, .ref h_t), (1, .int l1), (2, .int l2), (3, .int l3)]) hx hb dX9_change_92 hl (by decide) rfl (fun ls hl => ?_)
  refine lv_iconst (v := 4) hx hb dX9_change_94 (by decide) ?_
  refine lv_bipush (v := 8) hx hb dX9_change_95 (by decide) ?_
  refine lv_iload_n hx hb dX9_change_97 rfl (lv_at hl 3 rfl) ?_
  refine lv_imul hx hb dX9_change_98 ?_
  refine lv_iload_n hx hb dX9_change_99 rfl (lv_at hl 4 rfl) ?_
  refine lv_iadd hx hb dX9_change_100 ?_
  refine lv_imul hx hb dX9_change_101 ?_
  refine lv_topi (fun x1 ex1 => ?_)
  replace hf := zlet_in hf ex1
  clear ex1
  refine lv_istore (lv' := [(5, .int x1), (4, .int k0), (0, .ref h_t), (1, .int l1), (2, .int l2), (3, .int l3)]) hx hb dX9_change_102 hl (by decide) rfl (fun ls hl => ?_)
  refine lv_bipush (v := 77) hx hb dX9_change_104 (by decide) ?_
  refine lv_aload_n hx hb dX9_change_106 rfl (lv_at hl 2 rfl) ?_
  refine va_get (D := D) (ci := 8) (v := .ref h_t_now) (C := RX9) (T := TX9) (N := 15) hx hb hts iX9_change_X9 hown hK hP 0 rfl rfl 2 (by decide) (kX9_change_16 hts) (fun _ h9 => h9) rfl dX9_change_107 ?_
  refine lv_iload hx hb dX9_change_110 (lv_at hl 0 rfl) ?_
  obtain ⟨hg3, hf⟩ := zrd_in hf
  refine va_iald hx hb hK hP 1 0 rfl rfl hg3 dX9_change_112 ?_
  refine lv_topi (fun x2 ex2 => ?_)
  replace hf := hf x2 ex2
  clear ex2
  refine lv_imul hx hb dX9_change_113 ?_
  refine lv_sipush (v := 150) hx hb dX9_change_114 (by decide) ?_
  refine lv_aload_n hx hb dX9_change_117 rfl (lv_at hl 2 rfl) ?_
  refine va_get (D := D) (ci := 8) (v := .ref h_t_now) (C := RX9) (T := TX9) (N := 15) hx hb hts iX9_change_X9 hown hK hP 0 rfl rfl 2 (by decide) (kX9_change_16 hts) (fun _ h9 => h9) rfl dX9_change_118 ?_
  refine lv_iload hx hb dX9_change_121 (lv_at hl 0 rfl) ?_
  refine lv_iconst (v := 1) hx hb dX9_change_123 (by decide) ?_
  refine lv_iadd hx hb dX9_change_124 ?_
  obtain ⟨hg5, hf⟩ := zrd_in hf
  refine va_iald hx hb hK hP 1 0 rfl rfl hg5 dX9_change_125 ?_
  refine lv_topi (fun x4 ex4 => ?_)
  replace hf := hf x4 ex4
  clear ex4
  refine lv_imul hx hb dX9_change_126 ?_
  refine lv_iadd hx hb dX9_change_127 ?_
  refine lv_bipush (v := 29) hx hb dX9_change_128 (by decide) ?_
  refine lv_aload_n hx hb dX9_change_130 rfl (lv_at hl 2 rfl) ?_
  refine va_get (D := D) (ci := 8) (v := .ref h_t_now) (C := RX9) (T := TX9) (N := 15) hx hb hts iX9_change_X9 hown hK hP 0 rfl rfl 2 (by decide) (kX9_change_16 hts) (fun _ h9 => h9) rfl dX9_change_131 ?_
  refine lv_iload hx hb dX9_change_134 (lv_at hl 0 rfl) ?_
  refine lv_iconst (v := 2) hx hb dX9_change_136 (by decide) ?_
  refine lv_iadd hx hb dX9_change_137 ?_
  obtain ⟨hg7, hf⟩ := zrd_in hf
  refine va_iald hx hb hK hP 1 0 rfl rfl hg7 dX9_change_138 ?_
  refine lv_topi (fun x6 ex6 => ?_)
  replace hf := hf x6 ex6
  clear ex6
  refine lv_imul hx hb dX9_change_139 ?_
  refine lv_iadd hx hb dX9_change_140 ?_
  refine lv_sipush (v := 256) hx hb dX9_change_141 (by decide) ?_
  refine lv_idiv hx hb dX9_change_144 (by decide) ?_
  refine lv_topi (fun x8 ex8 => ?_)
  replace hf := zlet_in hf ex8
  clear ex8
  refine lv_istore (lv' := [(6, .int x8), (5, .int x1), (4, .int k0), (0, .ref h_t), (1, .int l1), (2, .int l2), (3, .int l3)]) hx hb dX9_change_145 hl (by decide) rfl (fun ls hl => ?_)
  refine lv_iconst (v := 0) hx hb dX9_change_147 (by decide) ?_
  refine lv_istore (lv' := [(7, .int 0), (6, .int x8), (5, .int x1), (4, .int k0), (0, .ref h_t), (1, .int l1), (2, .int l2), (3, .int l3)]) hx hb dX9_change_148 hl (by decide) rfl (fun ls hl => ?_)
  exact wX9_change_150 C hN hK hA hE hr_13 hr_23 1000 hf hP hD hS (lv_sub hl [4, 5, 6, 7, 3, 2, 1, 0] rfl)
set_option maxHeartbeats 4000000 in
set_option maxRecDepth 100000 in
theorem wX9_change_23 {p : Program} {l : Launch} {e : Env} {s : State} {m : MethodId} {args : Array Value} {below : List Frame} {meth : Method} {c : Code} {D : va_G} {A : Nat → Prop} {Q : State → Prop} {cI : ClassId} {h_t h_t_now h_t_file h_t_fresh h_t_colour h_t_table h_t_last h_t_one : Nat} {t_size : Int32} {t_at : Int32} {t_fault : Int32} {t_newWide : Int32} {t_newHigh : Int32} {t_colours : Int32} {t_file : Nat → Int32} {t_colour : Nat → Int32} {t_table : Nat → Int32} {t_last : Nat → Int32} {t_one : Nat → Int32} {r0 : Int32} {zt_wide : Int32} {zt_high : Int32} {zt_now : Nat → Int32} {zt_fresh : Nat → Int32} (C : CallFix p m c cX9_change 9 s args wsX9_change RX9) (hN : zN s) (hK : va_K D vwCl [(cI, .int)] s) (hA : ∀ q, s.heap.size ≤ q → A q) (hE : zEz p l e rmX9_change s m args below meth c cX9_change D A Q (zwX9 cI h_t h_t_now h_t_file h_t_fresh h_t_colour h_t_table h_t_last h_t_one zt_wide zt_high t_size t_at t_fault t_newWide t_newHigh t_colours zt_now t_file zt_fresh t_colour t_table t_last t_one) r0) {rc13 : Int32 → Int32 → (Nat → Int32) → (Nat → Int32) → Int32 → Int32 → Option (Int32 × Int32 × Int32 × (Nat → Int32) × (Nat → Int32))} (hr_13 : ∀ {t_wide : Int32} {t_high : Int32} {t_now : Nat → Int32} {t_fresh : Nat → Int32} {l1 : Int32} {l2 : Int32} {H : Heap} {locs : List Loc} {ls : Array Slot}, rc13 t_wide t_high t_now t_fresh l1 l2 = some (r0, zt_wide, zt_high, zt_now, zt_fresh) → va_P D vwCl (zwX9 cI h_t h_t_now h_t_file h_t_fresh h_t_colour h_t_table h_t_last h_t_one t_wide t_high t_size t_at t_fault t_newWide t_newHigh t_colours t_now t_file t_fresh t_colour t_table t_last t_one) H → va_D A (zwX9 cI h_t h_t_now h_t_file h_t_fresh h_t_colour h_t_table h_t_last h_t_one t_wide t_high t_size t_at t_fault t_newWide t_newHigh t_colours t_now t_file t_fresh t_colour t_table t_last t_one) → va_S A s.heap H locs → lv_has ls 9 [(0, .ref h_t), (1, .int l1), (2, .int l2)] → W p l e rmX9_change s m args below meth c H locs 0 0 Q (F0 m 13 ls [])) (n : Nat) : ∀ {t_wide : Int32} {t_high : Int32} {t_now : Nat → Int32} {t_fresh : Nat → Int32} {l1 : Int32} {l2 : Int32} {l3 : Int32} {H : Heap} {locs : List Loc} {ls : Array Slot}, fX9_change_23 rc13 n t_wide t_high t_now t_fresh l1 l2 l3 = some (r0, zt_wide, zt_high, zt_now, zt_fresh) → va_P D vwCl (zwX9 cI h_t h_t_now h_t_file h_t_fresh h_t_colour h_t_table h_t_last h_t_one t_wide t_high t_size t_at t_fault t_newWide t_newHigh t_colours t_now t_file t_fresh t_colour t_table t_last t_one) H → va_D A (zwX9 cI h_t h_t_now h_t_file h_t_fresh h_t_colour h_t_table h_t_last h_t_one t_wide t_high t_size t_at t_fault t_newWide t_newHigh t_colours t_now t_file t_fresh t_colour t_table t_last t_one) → va_S A s.heap H locs → lv_has ls 9 [(0, .ref h_t), (1, .int l1), (2, .int l2), (3, .int l3)] → W p l e rmX9_change s m args below meth c H locs 0 0 Q (F0 m 23 ls []) := by
  obtain ⟨hx, hb, hml, hown, hts⟩ := id C
  induction n with
  | zero =>
    intro t_wide t_high t_now t_fresh l1 l2 l3 H locs ls hf
    cases hf
  | succ n hr_23 =>
    intro t_wide t_high t_now t_fresh l1 l2 l3 H locs ls hf hP hD hS hl
    rw [fX9_change_23_s] at hf
    refine lv_iload_n hx hb dX9_change_23 rfl (lv_at hl 3 rfl) ?_
    refine lv_aload_n hx hb dX9_change_24 rfl (lv_at hl 0 rfl) ?_
    refine va_get (D := D) (ci := 8) (v := .int t_wide) (C := RX9) (T := TX9) (N := 15) hx hb hts iX9_change_X9 hown hK hP 0 rfl rfl 0 (by decide) (kX9_change_7 hts) (fun _ h9 => h9) rfl dX9_change_25 ?_
    refine lv_icmp_ge (tgt := 227) hx hb dX9_change_28 (by decide) (fun c1 => ?_) (fun c1 => ?_)
    · replace hf := zif_t hf c1
      obtain ⟨x2, ex2⟩ : ∃ y : Int32, y = l2 + 1 := ⟨_, rfl⟩
      replace hf := zlet_in hf ex2
      refine lv_iinc (v := x2) (lv' := [(2, .int x2), (0, .ref h_t), (1, .int l1), (3, .int l3)]) hx hb dX9_change_227 hl (k := 2) rfl (by rw [ex2]; rfl) (by decide) rfl (fun ls hl => ?_)
      clear ex2
      refine lv_goto (tgt := 13) hx hb dX9_change_230 (by decide) ?_
      exact hr_13 hf hP hD hS (lv_sub hl [1, 2, 0] rfl)
    · replace hf := zif_f hf c1
      refine lv_iload_n hx hb dX9_change_31 rfl (lv_at hl 1 rfl) ?_
      refine lv_if_ne (tgt := 51) hx hb dX9_change_32 (by decide) (fun c3 => ?_) (fun c3 => ?_)
      · replace hf := zif_f hf c3
        refine lv_iload_n hx hb dX9_change_51 rfl (lv_at hl 1 rfl) ?_
        refine lv_iconst (v := 1) hx hb dX9_change_52 (by decide) ?_
        refine lv_icmp_ne (tgt := 72) hx hb dX9_change_53 (by decide) (fun c4 => ?_) (fun c4 => ?_)
        · replace hf := zif_f hf c4
          refine lv_iload_n hx hb dX9_change_72 rfl (lv_at hl 1 rfl) ?_
          refine lv_iconst (v := 2) hx hb dX9_change_73 (by decide) ?_
          refine lv_icmp_ne (tgt := 86) hx hb dX9_change_74 (by decide) (fun c5 => ?_) (fun c5 => ?_)
          · replace hf := zif_f hf c5
            refine lv_bipush (v := 8) hx hb dX9_change_86 (by decide) ?_
            refine lv_iload_n hx hb dX9_change_88 rfl (lv_at hl 2 rfl) ?_
            refine lv_imul hx hb dX9_change_89 ?_
            refine lv_iload_n hx hb dX9_change_90 rfl (lv_at hl 3 rfl) ?_
            refine lv_iadd hx hb dX9_change_91 ?_
            exact wX9_change_92 C hN hK hA hE hr_13 hr_23 hf hP hD hS (lv_sub hl [0, 1, 2, 3] rfl)
          · replace hf := zif_t hf c5
            refine lv_bipush (v := 8) hx hb dX9_change_77 (by decide) ?_
            refine lv_iload_n hx hb dX9_change_79 rfl (lv_at hl 3 rfl) ?_
            refine lv_imul hx hb dX9_change_80 ?_
            refine lv_iload_n hx hb dX9_change_81 rfl (lv_at hl 2 rfl) ?_
            refine lv_iadd hx hb dX9_change_82 ?_
            refine lv_goto (tgt := 92) hx hb dX9_change_83 (by decide) ?_
            exact wX9_change_92 C hN hK hA hE hr_13 hr_23 hf hP hD hS (lv_sub hl [0, 1, 2, 3] rfl)
        · replace hf := zif_t hf c4
          refine lv_bipush (v := 8) hx hb dX9_change_56 (by decide) ?_
          refine lv_aload_n hx hb dX9_change_58 rfl (lv_at hl 0 rfl) ?_
          refine va_get (D := D) (ci := 8) (v := .int t_high) (C := RX9) (T := TX9) (N := 15) hx hb hts iX9_change_X9 hown hK hP 0 rfl rfl 1 (by decide) (kX9_change_13 hts) (fun _ h9 => h9) rfl dX9_change_59 ?_
          refine lv_iconst (v := 1) hx hb dX9_change_62 (by decide) ?_
          refine lv_isub hx hb dX9_change_63 ?_
          refine lv_iload_n hx hb dX9_change_64 rfl (lv_at hl 2 rfl) ?_
          refine lv_isub hx hb dX9_change_65 ?_
          refine lv_imul hx hb dX9_change_66 ?_
          refine lv_iload_n hx hb dX9_change_67 rfl (lv_at hl 3 rfl) ?_
          refine lv_iadd hx hb dX9_change_68 ?_
          refine lv_goto (tgt := 92) hx hb dX9_change_69 (by decide) ?_
          exact wX9_change_92 C hN hK hA hE hr_13 hr_23 hf hP hD hS (lv_sub hl [0, 1, 2, 3] rfl)
      · replace hf := zif_t hf c3
        refine lv_bipush (v := 8) hx hb dX9_change_35 (by decide) ?_
        refine lv_iload_n hx hb dX9_change_37 rfl (lv_at hl 2 rfl) ?_
        refine lv_imul hx hb dX9_change_38 ?_
        refine lv_aload_n hx hb dX9_change_39 rfl (lv_at hl 0 rfl) ?_
        refine va_get (D := D) (ci := 8) (v := .int t_wide) (C := RX9) (T := TX9) (N := 15) hx hb hts iX9_change_X9 hown hK hP 0 rfl rfl 0 (by decide) (kX9_change_7 hts) (fun _ h9 => h9) rfl dX9_change_40 ?_
        refine lv_iadd hx hb dX9_change_43 ?_
        refine lv_iconst (v := 1) hx hb dX9_change_44 (by decide) ?_
        refine lv_isub hx hb dX9_change_45 ?_
        refine lv_iload_n hx hb dX9_change_46 rfl (lv_at hl 3 rfl) ?_
        refine lv_isub hx hb dX9_change_47 ?_
        refine lv_goto (tgt := 92) hx hb dX9_change_48 (by decide) ?_
        exact wX9_change_92 C hN hK hA hE hr_13 hr_23 hf hP hD hS (lv_sub hl [0, 1, 2, 3] rfl)
set_option maxHeartbeats 4000000 in
set_option maxRecDepth 100000 in
theorem wX9_change_13 {p : Program} {l : Launch} {e : Env} {s : State} {m : MethodId} {args : Array Value} {below : List Frame} {meth : Method} {c : Code} {D : va_G} {A : Nat → Prop} {Q : State → Prop} {cI : ClassId} {h_t h_t_now h_t_file h_t_fresh h_t_colour h_t_table h_t_last h_t_one : Nat} {t_size : Int32} {t_at : Int32} {t_fault : Int32} {t_newWide : Int32} {t_newHigh : Int32} {t_colours : Int32} {t_file : Nat → Int32} {t_colour : Nat → Int32} {t_table : Nat → Int32} {t_last : Nat → Int32} {t_one : Nat → Int32} {r0 : Int32} {zt_wide : Int32} {zt_high : Int32} {zt_now : Nat → Int32} {zt_fresh : Nat → Int32} (C : CallFix p m c cX9_change 9 s args wsX9_change RX9) (hN : zN s) (hK : va_K D vwCl [(cI, .int)] s) (hA : ∀ q, s.heap.size ≤ q → A q) (hE : zEz p l e rmX9_change s m args below meth c cX9_change D A Q (zwX9 cI h_t h_t_now h_t_file h_t_fresh h_t_colour h_t_table h_t_last h_t_one zt_wide zt_high t_size t_at t_fault t_newWide t_newHigh t_colours zt_now t_file zt_fresh t_colour t_table t_last t_one) r0) (n : Nat) : ∀ {t_wide : Int32} {t_high : Int32} {t_now : Nat → Int32} {t_fresh : Nat → Int32} {l1 : Int32} {l2 : Int32} {H : Heap} {locs : List Loc} {ls : Array Slot}, fX9_change_13 n t_wide t_high t_now t_fresh l1 l2 = some (r0, zt_wide, zt_high, zt_now, zt_fresh) → va_P D vwCl (zwX9 cI h_t h_t_now h_t_file h_t_fresh h_t_colour h_t_table h_t_last h_t_one t_wide t_high t_size t_at t_fault t_newWide t_newHigh t_colours t_now t_file t_fresh t_colour t_table t_last t_one) H → va_D A (zwX9 cI h_t h_t_now h_t_file h_t_fresh h_t_colour h_t_table h_t_last h_t_one t_wide t_high t_size t_at t_fault t_newWide t_newHigh t_colours t_now t_file t_fresh t_colour t_table t_last t_one) → va_S A s.heap H locs → lv_has ls 9 [(0, .ref h_t), (1, .int l1), (2, .int l2)] → W p l e rmX9_change s m args below meth c H locs 0 0 Q (F0 m 13 ls []) := by
  obtain ⟨hx, hb, hml, hown, hts⟩ := id C
  induction n with
  | zero =>
    intro t_wide t_high t_now t_fresh l1 l2 H locs ls hf
    cases hf
  | succ n hr_13 =>
    intro t_wide t_high t_now t_fresh l1 l2 H locs ls hf hP hD hS hl
    rw [fX9_change_13_s] at hf
    refine lv_iload_n hx hb dX9_change_13 rfl (lv_at hl 2 rfl) ?_
    refine lv_aload_n hx hb dX9_change_14 rfl (lv_at hl 0 rfl) ?_
    refine va_get (D := D) (ci := 8) (v := .int t_high) (C := RX9) (T := TX9) (N := 15) hx hb hts iX9_change_X9 hown hK hP 0 rfl rfl 1 (by decide) (kX9_change_13 hts) (fun _ h9 => h9) rfl dX9_change_15 ?_
    refine lv_icmp_ge (tgt := 233) hx hb dX9_change_18 (by decide) (fun c1 => ?_) (fun c1 => ?_)
    · replace hf := zif_t hf c1
      refine lv_aload_n hx hb dX9_change_233 rfl (lv_at hl 0 rfl) ?_
      obtain ⟨u2, hc3, hf⟩ := zb1_in hf
      refine zc_v (va_runV (As := []) (rest := []) C (mX9_copyBack l D cI H.size h_t h_t_now h_t_file h_t_fresh h_t_colour h_t_table h_t_last h_t_one t_wide t_high t_size t_at t_fault t_newWide t_newHigh t_colours t_now t_file t_fresh t_colour t_table t_last t_one u2 hc3) (qX9_change_X9_copyBack_46 hts) ⟨zP_blind, va_recv hK hP (ci := 8) (q0 := 0) rfl rfl, zpre hK hN hP hD [0, 1, 2, 3, 4, 5, 6, 7] rfl rfl⟩ rfl rfl hl.1 rfl (lv_room (Nat.le_of_ble_eq_true rfl)) dX9_change_234 ⟨Nat.zero_le _, Nat.zero_le _⟩) hP hD hS hA [0, 1, 2, 3, 4, 5, 6, 7] [] [0, 1, 2, 3, 4, 5, 6, 7] (ws' := zwX9 cI h_t h_t_now h_t_file h_t_fresh h_t_colour h_t_table h_t_last h_t_one t_wide t_high t_size t_at t_fault t_newWide t_newHigh t_colours u2 t_file t_fresh t_colour t_table t_last t_one) rfl rfl rfl rfl rfl rfl (fun H locs hP hD hS => ?_)
      refine lv_iload_n hx hb dX9_change_237 rfl (lv_at hl 1 rfl) ?_
      refine lv_iconst (v := 2) hx hb dX9_change_238 (by decide) ?_
      refine lv_icmp_ne (tgt := 260) hx hb dX9_change_239 (by decide) (fun c4 => ?_) (fun c4 => ?_)
      · replace hf := zif_f hf c4
        refine lv_iconst (v := 1) hx hb dX9_change_260 (by decide) ?_
        cases hf
        exact hE _ _ _ _ dX9_change_261 rfl hP hD hS
      · replace hf := zif_t hf c4
        refine lv_aload_n hx hb dX9_change_242 rfl (lv_at hl 0 rfl) ?_
        refine va_get (D := D) (ci := 8) (v := .int t_wide) (C := RX9) (T := TX9) (N := 15) hx hb hts iX9_change_X9 hown hK hP 0 rfl rfl 0 (by decide) (kX9_change_7 hts) (fun _ h9 => h9) rfl dX9_change_243 ?_
        refine lv_istore_n (lv' := [(2, .int t_wide), (0, .ref h_t), (1, .int l1)]) hx hb dX9_change_246 rfl hl (by decide) rfl (fun ls hl => ?_)
        refine lv_aload_n hx hb dX9_change_247 rfl (lv_at hl 1 rfl) ?_
        refine lv_aload_n hx hb dX9_change_248 rfl (lv_at hl 1 rfl) ?_
        refine va_get (D := D) (ci := 8) (v := .int t_high) (C := RX9) (T := TX9) (N := 15) hx hb hts iX9_change_X9 hown hK hP 0 rfl rfl 1 (by decide) (kX9_change_13 hts) (fun _ h9 => h9) rfl dX9_change_249 ?_
        refine va_put (D := D) (ci := 8) (v := .int t_high) (ty := .int) (C := RX9) (T := TX9) (N := 15) hx hb hts iX9_change_X9 tyX9 tyX9_ok nmX9 hown hK hP hD hS 0 rfl rfl 0 (by decide) (kX9_change_7 hts) (fun _ h9 => h9) rfl (by decide +kernel) rfl rfl (Nat.le_of_ble_eq_true rfl) dX9_change_252 (fun H locs hP hD hS => ?_)
        replace hP : va_P D vwCl (zwX9 cI h_t h_t_now h_t_file h_t_fresh h_t_colour h_t_table h_t_last h_t_one t_high t_high t_size t_at t_fault t_newWide t_newHigh t_colours u2 t_file t_fresh t_colour t_table t_last t_one) H := hP
        replace hD : va_D A (zwX9 cI h_t h_t_now h_t_file h_t_fresh h_t_colour h_t_table h_t_last h_t_one t_high t_high t_size t_at t_fault t_newWide t_newHigh t_colours u2 t_file t_fresh t_colour t_table t_last t_one) := hD
        refine lv_aload_n hx hb dX9_change_255 rfl (lv_at hl 1 rfl) ?_
        refine lv_iload_n hx hb dX9_change_256 rfl (lv_at hl 0 rfl) ?_
        refine va_put (D := D) (ci := 8) (v := .int t_wide) (ty := .int) (C := RX9) (T := TX9) (N := 15) hx hb hts iX9_change_X9 tyX9 tyX9_ok nmX9 hown hK hP hD hS 0 rfl rfl 1 (by decide) (kX9_change_13 hts) (fun _ h9 => h9) rfl (by decide +kernel) rfl rfl (Nat.le_of_ble_eq_true rfl) dX9_change_257 (fun H locs hP hD hS => ?_)
        replace hP : va_P D vwCl (zwX9 cI h_t h_t_now h_t_file h_t_fresh h_t_colour h_t_table h_t_last h_t_one t_high t_wide t_size t_at t_fault t_newWide t_newHigh t_colours u2 t_file t_fresh t_colour t_table t_last t_one) H := hP
        replace hD : va_D A (zwX9 cI h_t h_t_now h_t_file h_t_fresh h_t_colour h_t_table h_t_last h_t_one t_high t_wide t_size t_at t_fault t_newWide t_newHigh t_colours u2 t_file t_fresh t_colour t_table t_last t_one) := hD
        refine lv_iconst (v := 1) hx hb dX9_change_260 (by decide) ?_
        cases hf
        exact hE _ _ _ _ dX9_change_261 rfl hP hD hS
    · replace hf := zif_f hf c1
      refine lv_iconst (v := 0) hx hb dX9_change_21 (by decide) ?_
      refine lv_istore_n (lv' := [(3, .int 0), (0, .ref h_t), (1, .int l1), (2, .int l2)]) hx hb dX9_change_22 rfl hl (by decide) rfl (fun ls hl => ?_)
      exact wX9_change_23 C hN hK hA hE hr_13 1000 hf hP hD hS (lv_sub hl [1, 2, 3, 0] rfl)
set_option maxHeartbeats 4000000 in
set_option maxRecDepth 100000 in
theorem wX9_change_0 {p : Program} {l : Launch} {e : Env} {s : State} {m : MethodId} {args : Array Value} {below : List Frame} {meth : Method} {c : Code} {D : va_G} {A : Nat → Prop} {Q : State → Prop} {cI : ClassId} {h_t h_t_now h_t_file h_t_fresh h_t_colour h_t_table h_t_last h_t_one : Nat} {t_size : Int32} {t_at : Int32} {t_fault : Int32} {t_newWide : Int32} {t_newHigh : Int32} {t_colours : Int32} {t_file : Nat → Int32} {t_colour : Nat → Int32} {t_table : Nat → Int32} {t_last : Nat → Int32} {t_one : Nat → Int32} {r0 : Int32} {zt_wide : Int32} {zt_high : Int32} {zt_now : Nat → Int32} {zt_fresh : Nat → Int32} (C : CallFix p m c cX9_change 9 s args wsX9_change RX9) (hN : zN s) (hK : va_K D vwCl [(cI, .int)] s) (hA : ∀ q, s.heap.size ≤ q → A q) (hE : zEz p l e rmX9_change s m args below meth c cX9_change D A Q (zwX9 cI h_t h_t_now h_t_file h_t_fresh h_t_colour h_t_table h_t_last h_t_one zt_wide zt_high t_size t_at t_fault t_newWide t_newHigh t_colours zt_now t_file zt_fresh t_colour t_table t_last t_one) r0) {t_wide : Int32} {t_high : Int32} {t_now : Nat → Int32} {t_fresh : Nat → Int32} {v0 : Int32} {H : Heap} {locs : List Loc} {ls : Array Slot} : fX9_change t_wide t_high t_now t_fresh v0 = some (r0, zt_wide, zt_high, zt_now, zt_fresh) → va_P D vwCl (zwX9 cI h_t h_t_now h_t_file h_t_fresh h_t_colour h_t_table h_t_last h_t_one t_wide t_high t_size t_at t_fault t_newWide t_newHigh t_colours t_now t_file t_fresh t_colour t_table t_last t_one) H → va_D A (zwX9 cI h_t h_t_now h_t_file h_t_fresh h_t_colour h_t_table h_t_last h_t_one t_wide t_high t_size t_at t_fault t_newWide t_newHigh t_colours t_now t_file t_fresh t_colour t_table t_last t_one) → va_S A s.heap H locs → lv_has ls 9 [(0, .ref h_t), (1, .int v0)] → W p l e rmX9_change s m args below meth c H locs 0 0 Q (F0 m 0 ls []) := by
  intro hf hP hD hS hl
  obtain ⟨hx, hb, hml, hown, hts⟩ := id C
  unfold fX9_change at hf
  refine lv_iload_n hx hb dX9_change_0 rfl (lv_at hl 1 rfl) ?_
  refine lv_if_lt (tgt := 9) hx hb dX9_change_1 (by decide) (fun c1 => ?_) (fun c1 => ?_)
  · replace hf := zif_t hf c1
    refine lv_iconst (v := 0) hx hb dX9_change_9 (by decide) ?_
    cases hf
    exact hE _ _ _ _ dX9_change_10 rfl hP hD hS
  · replace hf := zif_f hf c1
    refine lv_iload_n hx hb dX9_change_4 rfl (lv_at hl 1 rfl) ?_
    refine lv_iconst (v := 4) hx hb dX9_change_5 (by decide) ?_
    refine lv_icmp_le (tgt := 11) hx hb dX9_change_6 (by decide) (fun c2 => ?_) (fun c2 => ?_)
    · replace hf := zif_t hf c2
      refine lv_iconst (v := 0) hx hb dX9_change_11 (by decide) ?_
      refine lv_istore_n (lv' := [(2, .int 0), (0, .ref h_t), (1, .int v0)]) hx hb dX9_change_12 rfl hl (by decide) rfl (fun ls hl => ?_)
      exact wX9_change_13 C hN hK hA hE 1000 hf hP hD hS (lv_sub hl [1, 2, 0] rfl)
    · replace hf := zif_f hf c2
      refine lv_iconst (v := 0) hx hb dX9_change_9 (by decide) ?_
      cases hf
      exact hE _ _ _ _ dX9_change_10 rfl hP hD hS
set_option maxHeartbeats 4000000 in
set_option maxRecDepth 100000 in
theorem mX9_change (l : Launch) (D : va_G) (cI : ClassId) (sz : Nat) (h_t h_t_now h_t_file h_t_fresh h_t_colour h_t_table h_t_last h_t_one : Nat) (t_wide : Int32) (t_high : Int32) (t_size : Int32) (t_at : Int32) (t_fault : Int32) (t_newWide : Int32) (t_newHigh : Int32) (t_colours : Int32) (t_now : Nat → Int32) (t_file : Nat → Int32) (t_fresh : Nat → Int32) (t_colour : Nat → Int32) (t_table : Nat → Int32) (t_last : Nat → Int32) (t_one : Nat → Int32) (v0 : Int32) (r0 : Int32) (zt_wide : Int32) (zt_high : Int32) (zt_now : Nat → Int32) (zt_fresh : Nat → Int32) (hf : fX9_change t_wide t_high t_now t_fresh v0 = some (r0, zt_wide, zt_high, zt_now, zt_fresh)) : Met l yX9_change wsX9_change rmX9_change (va_Pc [.ref h_t, .int v0] (zP D [(cI, .int)] (zwX9 cI h_t h_t_now h_t_file h_t_fresh h_t_colour h_t_table h_t_last h_t_one t_wide t_high t_size t_at t_fault t_newWide t_newHigh t_colours t_now t_file t_fresh t_colour t_table t_last t_one) sz)) (zQi D (zwX9 cI h_t h_t_now h_t_file h_t_fresh h_t_colour h_t_table h_t_last h_t_one t_wide t_high t_size t_at t_fault t_newWide t_newHigh t_colours t_now t_file t_fresh t_colour t_table t_last t_one) sz r0 (zwX9 cI h_t h_t_now h_t_file h_t_fresh h_t_colour h_t_table h_t_last h_t_one zt_wide zt_high t_size t_at t_fault t_newWide t_newHigh t_colours zt_now t_file zt_fresh t_colour t_table t_last t_one)) 0 0 (va_A (zwX9 cI h_t h_t_now h_t_file h_t_fresh h_t_colour h_t_table h_t_last h_t_one t_wide t_high t_size t_at t_fault t_newWide t_newHigh t_colours t_now t_file t_fresh t_colour t_table t_last t_one) sz) := by
  refine Met.ofW (cc := cX9_change) (maxL := 9) (ret := (some .boolean)) (by decide) rfl ?_
  intro p e s m args below meth c s₁ B hml hv
  obtain ⟨rfl, hsz, hP, hK, hD0, hN⟩ := hv
  subst hsz
  have C : CallFix p m c cX9_change 9 s [.ref h_t, .int v0].toArray wsX9_change RX9 := ⟨B.exec, B.bytes, hml, findClass_of_methodNamed B.named, atoms_spec (ws := wsX9_change) B.pre⟩
  have hl := lv_entry ([.ref h_t, .int v0]) (n := 9) (Nat.le_of_ble_eq_true rfl)
  rw [lg_entry_eq]
  exact wX9_change_0 (A := va_A (zwX9 cI h_t h_t_now h_t_file h_t_fresh h_t_colour h_t_table h_t_last h_t_one t_wide t_high t_size t_at t_fault t_newWide t_newHigh t_colours t_now t_file t_fresh t_colour t_table t_last t_one) s.heap.size) C hN hK (fun q h => Or.inr h) (fun H locs pc ls d hn hP hD hS => zend_z C.1 C.2.1 B.returns B.notSynchronized d hn hP hD hS) hf hP hD0.self va_S.rf hl
def rmX9_channel : Room := { frames := 0, cells := 0, slots := 0, locals := 0 }
theorem kX9_channel_7 {args : Array Value} {s : State} (h : ∀ w ∈ wsX9_channel, w.before args s = true) : (Cond.fieldLink RX9 7 "FourPictureFilesModel" "wide" "I").before args s = true := h _ (by decide +kernel)
theorem kX9_channel_16 {args : Array Value} {s : State} (h : ∀ w ∈ wsX9_channel, w.before args s = true) : (Cond.fieldLink RX9 16 "FourPictureFilesModel" "now" "[I").before args s = true := h _ (by decide +kernel)
theorem iX9_channel_X9 : ∀ w ∈ u_ws RX9 TX9 15, w ∈ wsX9_channel := by decide +kernel
set_option maxHeartbeats 4000000 in
set_option maxRecDepth 100000 in
theorem wX9_channel_0 {p : Program} {l : Launch} {e : Env} {s : State} {m : MethodId} {args : Array Value} {below : List Frame} {meth : Method} {c : Code} {D : va_G} {A : Nat → Prop} {Q : State → Prop} {cI : ClassId} {h_t h_t_now h_t_file h_t_fresh h_t_colour h_t_table h_t_last h_t_one : Nat} {t_wide : Int32} {t_high : Int32} {t_size : Int32} {t_at : Int32} {t_fault : Int32} {t_newWide : Int32} {t_newHigh : Int32} {t_colours : Int32} {t_now : Nat → Int32} {t_file : Nat → Int32} {t_fresh : Nat → Int32} {t_colour : Nat → Int32} {t_table : Nat → Int32} {t_last : Nat → Int32} {t_one : Nat → Int32} {r0 : Int32} (C : CallFix p m c cX9_channel 3 s args wsX9_channel RX9) (hN : zN s) (hK : va_K D vwCl [(cI, .int)] s) (hA : ∀ q, s.heap.size ≤ q → A q) (hE : zEi p l e rmX9_channel s m args below meth c cX9_channel D A Q (zwX9 cI h_t h_t_now h_t_file h_t_fresh h_t_colour h_t_table h_t_last h_t_one t_wide t_high t_size t_at t_fault t_newWide t_newHigh t_colours t_now t_file t_fresh t_colour t_table t_last t_one) r0) {v0 : Int32} {v1 : Int32} {H : Heap} {locs : List Loc} {ls : Array Slot} : fX9_channel t_wide t_now v0 v1 = some r0 → va_P D vwCl (zwX9 cI h_t h_t_now h_t_file h_t_fresh h_t_colour h_t_table h_t_last h_t_one t_wide t_high t_size t_at t_fault t_newWide t_newHigh t_colours t_now t_file t_fresh t_colour t_table t_last t_one) H → va_D A (zwX9 cI h_t h_t_now h_t_file h_t_fresh h_t_colour h_t_table h_t_last h_t_one t_wide t_high t_size t_at t_fault t_newWide t_newHigh t_colours t_now t_file t_fresh t_colour t_table t_last t_one) → va_S A s.heap H locs → lv_has ls 3 [(0, .ref h_t), (1, .int v0), (2, .int v1)] → W p l e rmX9_channel s m args below meth c H locs 0 0 Q (F0 m 0 ls []) := by
  intro hf hP hD hS hl
  obtain ⟨hx, hb, hml, hown, hts⟩ := id C
  unfold fX9_channel at hf
  refine lv_aload_n hx hb dX9_channel_0 rfl (lv_at hl 0 rfl) ?_
  refine va_get (D := D) (ci := 8) (v := .ref h_t_now) (C := RX9) (T := TX9) (N := 15) hx hb hts iX9_channel_X9 hown hK hP 0 rfl rfl 2 (by decide) (kX9_channel_16 hts) (fun _ h9 => h9) rfl dX9_channel_1 ?_
  refine lv_iconst (v := 4) hx hb dX9_channel_4 (by decide) ?_
  refine lv_bipush (v := 8) hx hb dX9_channel_5 (by decide) ?_
  refine lv_iload_n hx hb dX9_channel_7 rfl (lv_at hl 1 rfl) ?_
  refine lv_aload_n hx hb dX9_channel_8 rfl (lv_at hl 0 rfl) ?_
  refine va_get (D := D) (ci := 8) (v := .int t_wide) (C := RX9) (T := TX9) (N := 15) hx hb hts iX9_channel_X9 hown hK hP 0 rfl rfl 0 (by decide) (kX9_channel_7 hts) (fun _ h9 => h9) rfl dX9_channel_9 ?_
  obtain ⟨hg1, hf⟩ := znz_in hf
  refine lv_idiv hx hb dX9_channel_12 hg1 ?_
  refine lv_imul hx hb dX9_channel_13 ?_
  refine lv_iload_n hx hb dX9_channel_14 rfl (lv_at hl 1 rfl) ?_
  refine lv_aload_n hx hb dX9_channel_15 rfl (lv_at hl 0 rfl) ?_
  refine va_get (D := D) (ci := 8) (v := .int t_wide) (C := RX9) (T := TX9) (N := 15) hx hb hts iX9_channel_X9 hown hK hP 0 rfl rfl 0 (by decide) (kX9_channel_7 hts) (fun _ h9 => h9) rfl dX9_channel_16 ?_
  obtain ⟨hg2, hf⟩ := znz_in hf
  refine lv_irem hx hb dX9_channel_19 hg2 ?_
  refine lv_iadd hx hb dX9_channel_20 ?_
  refine lv_imul hx hb dX9_channel_21 ?_
  refine lv_iload_n hx hb dX9_channel_22 rfl (lv_at hl 2 rfl) ?_
  refine lv_iadd hx hb dX9_channel_23 ?_
  obtain ⟨hg4, hf⟩ := zrd_in hf
  refine va_iald hx hb hK hP 1 0 rfl rfl hg4 dX9_channel_24 ?_
  refine lv_topi (fun x3 ex3 => ?_)
  replace hf := hf x3 ex3
  clear ex3
  cases hf
  exact hE _ _ _ _ dX9_channel_25 hP hD hS
set_option maxHeartbeats 4000000 in
set_option maxRecDepth 100000 in
theorem mX9_channel (l : Launch) (D : va_G) (cI : ClassId) (sz : Nat) (h_t h_t_now h_t_file h_t_fresh h_t_colour h_t_table h_t_last h_t_one : Nat) (t_wide : Int32) (t_high : Int32) (t_size : Int32) (t_at : Int32) (t_fault : Int32) (t_newWide : Int32) (t_newHigh : Int32) (t_colours : Int32) (t_now : Nat → Int32) (t_file : Nat → Int32) (t_fresh : Nat → Int32) (t_colour : Nat → Int32) (t_table : Nat → Int32) (t_last : Nat → Int32) (t_one : Nat → Int32) (v0 v1 : Int32) (r0 : Int32) (hf : fX9_channel t_wide t_now v0 v1 = some r0) : Met l yX9_channel wsX9_channel rmX9_channel (va_Pc [.ref h_t, .int v0, .int v1] (zP D [(cI, .int)] (zwX9 cI h_t h_t_now h_t_file h_t_fresh h_t_colour h_t_table h_t_last h_t_one t_wide t_high t_size t_at t_fault t_newWide t_newHigh t_colours t_now t_file t_fresh t_colour t_table t_last t_one) sz)) (zQi D (zwX9 cI h_t h_t_now h_t_file h_t_fresh h_t_colour h_t_table h_t_last h_t_one t_wide t_high t_size t_at t_fault t_newWide t_newHigh t_colours t_now t_file t_fresh t_colour t_table t_last t_one) sz r0 (zwX9 cI h_t h_t_now h_t_file h_t_fresh h_t_colour h_t_table h_t_last h_t_one t_wide t_high t_size t_at t_fault t_newWide t_newHigh t_colours t_now t_file t_fresh t_colour t_table t_last t_one)) 0 0 (va_A (zwX9 cI h_t h_t_now h_t_file h_t_fresh h_t_colour h_t_table h_t_last h_t_one t_wide t_high t_size t_at t_fault t_newWide t_newHigh t_colours t_now t_file t_fresh t_colour t_table t_last t_one) sz) := by
  refine Met.ofW (cc := cX9_channel) (maxL := 3) (ret := (some .int)) (by decide) rfl ?_
  intro p e s m args below meth c s₁ B hml hv
  obtain ⟨rfl, hsz, hP, hK, hD0, hN⟩ := hv
  subst hsz
  have C : CallFix p m c cX9_channel 3 s [.ref h_t, .int v0, .int v1].toArray wsX9_channel RX9 := ⟨B.exec, B.bytes, hml, findClass_of_methodNamed B.named, atoms_spec (ws := wsX9_channel) B.pre⟩
  have hl := lv_entry ([.ref h_t, .int v0, .int v1]) (n := 3) (Nat.le_of_ble_eq_true rfl)
  rw [lg_entry_eq]
  exact wX9_channel_0 (A := va_A (zwX9 cI h_t h_t_now h_t_file h_t_fresh h_t_colour h_t_table h_t_last h_t_one t_wide t_high t_size t_at t_fault t_newWide t_newHigh t_colours t_now t_file t_fresh t_colour t_table t_last t_one) s.heap.size) C hN hK (fun q h => Or.inr h) (fun H locs pc ls d hP hD hS => zend_i C.1 C.2.1 B.returns B.notSynchronized d hP hD hS) hf hP hD0.self va_S.rf hl
def rmX9_opaque : Room := { frames := 1, cells := 0, slots := 0, locals := 22 }
theorem kX9_opaque_7 {args : Array Value} {s : State} (h : ∀ w ∈ wsX9_opaque, w.before args s = true) : (Cond.fieldLink RX9 7 "FourPictureFilesModel" "wide" "I").before args s = true := h _ (by decide +kernel)
theorem kX9_opaque_13 {args : Array Value} {s : State} (h : ∀ w ∈ wsX9_opaque, w.before args s = true) : (Cond.fieldLink RX9 13 "FourPictureFilesModel" "high" "I").before args s = true := h _ (by decide +kernel)
theorem iX9_opaque_X9 : ∀ w ∈ u_ws RX9 TX9 15, w ∈ wsX9_opaque := by decide +kernel
theorem qX9_opaque_X9_channel_49 {args : Array Value} {s : State} (hts : ∀ w ∈ wsX9_opaque, w.before args s = true) : CallW rmX9_opaque s args RX9 RX9 49 yX9_channel cX9_channel 3 (some .int) wsX9_channel rmX9_channel 0 0 2 := cwV 2 hts gX9_opaque_X9_channel rfl rfl rfl (by decide +kernel) ⟨Nat.le_of_ble_eq_true rfl, Nat.le_of_ble_eq_true rfl⟩
set_option maxHeartbeats 4000000 in
set_option maxRecDepth 100000 in
theorem wX9_opaque_38 {p : Program} {l : Launch} {e : Env} {s : State} {m : MethodId} {args : Array Value} {below : List Frame} {meth : Method} {c : Code} {D : va_G} {A : Nat → Prop} {Q : State → Prop} {cI : ClassId} {h_t h_t_now h_t_file h_t_fresh h_t_colour h_t_table h_t_last h_t_one : Nat} {t_wide : Int32} {t_high : Int32} {t_size : Int32} {t_at : Int32} {t_fault : Int32} {t_newWide : Int32} {t_newHigh : Int32} {t_colours : Int32} {t_now : Nat → Int32} {t_file : Nat → Int32} {t_fresh : Nat → Int32} {t_colour : Nat → Int32} {t_table : Nat → Int32} {t_last : Nat → Int32} {t_one : Nat → Int32} {r0 : Int32} (C : CallFix p m c cX9_opaque 3 s args wsX9_opaque RX9) (hN : zN s) (hK : va_K D vwCl [(cI, .int)] s) (hA : ∀ q, s.heap.size ≤ q → A q) (hE : zEz p l e rmX9_opaque s m args below meth c cX9_opaque D A Q (zwX9 cI h_t h_t_now h_t_file h_t_fresh h_t_colour h_t_table h_t_last h_t_one t_wide t_high t_size t_at t_fault t_newWide t_newHigh t_colours t_now t_file t_fresh t_colour t_table t_last t_one) r0) {rc4 : Int32 → Int32 → (Nat → Int32) → Int32 → Int32 → Option (Int32)} (hr_4 : ∀ {l1 : Int32} {l2 : Int32} {H : Heap} {locs : List Loc} {ls : Array Slot}, rc4 t_wide t_high t_now l1 l2 = some r0 → va_P D vwCl (zwX9 cI h_t h_t_now h_t_file h_t_fresh h_t_colour h_t_table h_t_last h_t_one t_wide t_high t_size t_at t_fault t_newWide t_newHigh t_colours t_now t_file t_fresh t_colour t_table t_last t_one) H → va_D A (zwX9 cI h_t h_t_now h_t_file h_t_fresh h_t_colour h_t_table h_t_last h_t_one t_wide t_high t_size t_at t_fault t_newWide t_newHigh t_colours t_now t_file t_fresh t_colour t_table t_last t_one) → va_S A s.heap H locs → lv_has ls 3 [(0, .ref h_t), (1, .int l1), (2, .int l2)] → W p l e rmX9_opaque s m args below meth c H locs 0 0 Q (F0 m 4 ls [])) {l1 : Int32} {l2 : Int32} {k0 : Int32} {H : Heap} {locs : List Loc} {ls : Array Slot} : fX9_opaque_38 rc4 t_wide t_high t_now l2 k0 = some r0 → va_P D vwCl (zwX9 cI h_t h_t_now h_t_file h_t_fresh h_t_colour h_t_table h_t_last h_t_one t_wide t_high t_size t_at t_fault t_newWide t_newHigh t_colours t_now t_file t_fresh t_colour t_table t_last t_one) H → va_D A (zwX9 cI h_t h_t_now h_t_file h_t_fresh h_t_colour h_t_table h_t_last h_t_one t_wide t_high t_size t_at t_fault t_newWide t_newHigh t_colours t_now t_file t_fresh t_colour t_table t_last t_one) → va_S A s.heap H locs → lv_has ls 3 [(0, .ref h_t), (1, .int l1), (2, .int l2)] → W p l e rmX9_opaque s m args below meth c H locs 0 0 Q (F0 m 38 ls [.int k0]) := by
  intro hf hP hD hS hl
  obtain ⟨hx, hb, hml, hown, hts⟩ := id C
  unfold fX9_opaque_38 at hf
  refine lv_istore_n (lv' := [(1, .int k0), (0, .ref h_t), (2, .int l2)]) hx hb dX9_opaque_38 rfl hl (by decide) rfl (fun ls hl => ?_)
  obtain ⟨x1, ex1⟩ : ∃ y : Int32, y = l2 + 1 := ⟨_, rfl⟩
  replace hf := zlet_in hf ex1
  refine lv_iinc (v := x1) (lv' := [(2, .int x1), (1, .int k0), (0, .ref h_t)]) hx hb dX9_opaque_39 hl (k := 2) rfl (by rw [ex1]; rfl) (by decide) rfl (fun ls hl => ?_)
  clear ex1
  refine lv_goto (tgt := 4) hx hb dX9_opaque_42 (by decide) ?_
  exact hr_4 hf hP hD hS (lv_sub hl [2, 1, 0] rfl)
set_option maxHeartbeats 4000000 in
set_option maxRecDepth 100000 in
theorem wX9_opaque_37 {p : Program} {l : Launch} {e : Env} {s : State} {m : MethodId} {args : Array Value} {below : List Frame} {meth : Method} {c : Code} {D : va_G} {A : Nat → Prop} {Q : State → Prop} {cI : ClassId} {h_t h_t_now h_t_file h_t_fresh h_t_colour h_t_table h_t_last h_t_one : Nat} {t_wide : Int32} {t_high : Int32} {t_size : Int32} {t_at : Int32} {t_fault : Int32} {t_newWide : Int32} {t_newHigh : Int32} {t_colours : Int32} {t_now : Nat → Int32} {t_file : Nat → Int32} {t_fresh : Nat → Int32} {t_colour : Nat → Int32} {t_table : Nat → Int32} {t_last : Nat → Int32} {t_one : Nat → Int32} {r0 : Int32} (C : CallFix p m c cX9_opaque 3 s args wsX9_opaque RX9) (hN : zN s) (hK : va_K D vwCl [(cI, .int)] s) (hA : ∀ q, s.heap.size ≤ q → A q) (hE : zEz p l e rmX9_opaque s m args below meth c cX9_opaque D A Q (zwX9 cI h_t h_t_now h_t_file h_t_fresh h_t_colour h_t_table h_t_last h_t_one t_wide t_high t_size t_at t_fault t_newWide t_newHigh t_colours t_now t_file t_fresh t_colour t_table t_last t_one) r0) {rc4 : Int32 → Int32 → (Nat → Int32) → Int32 → Int32 → Option (Int32)} (hr_4 : ∀ {l1 : Int32} {l2 : Int32} {H : Heap} {locs : List Loc} {ls : Array Slot}, rc4 t_wide t_high t_now l1 l2 = some r0 → va_P D vwCl (zwX9 cI h_t h_t_now h_t_file h_t_fresh h_t_colour h_t_table h_t_last h_t_one t_wide t_high t_size t_at t_fault t_newWide t_newHigh t_colours t_now t_file t_fresh t_colour t_table t_last t_one) H → va_D A (zwX9 cI h_t h_t_now h_t_file h_t_fresh h_t_colour h_t_table h_t_last h_t_one t_wide t_high t_size t_at t_fault t_newWide t_newHigh t_colours t_now t_file t_fresh t_colour t_table t_last t_one) → va_S A s.heap H locs → lv_has ls 3 [(0, .ref h_t), (1, .int l1), (2, .int l2)] → W p l e rmX9_opaque s m args below meth c H locs 0 0 Q (F0 m 4 ls [])) {l1 : Int32} {l2 : Int32} {H : Heap} {locs : List Loc} {ls : Array Slot} : fX9_opaque_37 rc4 t_wide t_high t_now l2 = some r0 → va_P D vwCl (zwX9 cI h_t h_t_now h_t_file h_t_fresh h_t_colour h_t_table h_t_last h_t_one t_wide t_high t_size t_at t_fault t_newWide t_newHigh t_colours t_now t_file t_fresh t_colour t_table t_last t_one) H → va_D A (zwX9 cI h_t h_t_now h_t_file h_t_fresh h_t_colour h_t_table h_t_last h_t_one t_wide t_high t_size t_at t_fault t_newWide t_newHigh t_colours t_now t_file t_fresh t_colour t_table t_last t_one) → va_S A s.heap H locs → lv_has ls 3 [(0, .ref h_t), (1, .int l1), (2, .int l2)] → W p l e rmX9_opaque s m args below meth c H locs 0 0 Q (F0 m 37 ls []) := by
  intro hf hP hD hS hl
  obtain ⟨hx, hb, hml, hown, hts⟩ := id C
  unfold fX9_opaque_37 at hf
  refine lv_iconst (v := 0) hx hb dX9_opaque_37 (by decide) ?_
  exact wX9_opaque_38 C hN hK hA hE hr_4 hf hP hD hS (lv_sub hl [0, 1, 2] rfl)
set_option maxHeartbeats 4000000 in
set_option maxRecDepth 100000 in
theorem wX9_opaque_4 {p : Program} {l : Launch} {e : Env} {s : State} {m : MethodId} {args : Array Value} {below : List Frame} {meth : Method} {c : Code} {D : va_G} {A : Nat → Prop} {Q : State → Prop} {cI : ClassId} {h_t h_t_now h_t_file h_t_fresh h_t_colour h_t_table h_t_last h_t_one : Nat} {t_wide : Int32} {t_high : Int32} {t_size : Int32} {t_at : Int32} {t_fault : Int32} {t_newWide : Int32} {t_newHigh : Int32} {t_colours : Int32} {t_now : Nat → Int32} {t_file : Nat → Int32} {t_fresh : Nat → Int32} {t_colour : Nat → Int32} {t_table : Nat → Int32} {t_last : Nat → Int32} {t_one : Nat → Int32} {r0 : Int32} (C : CallFix p m c cX9_opaque 3 s args wsX9_opaque RX9) (hN : zN s) (hK : va_K D vwCl [(cI, .int)] s) (hA : ∀ q, s.heap.size ≤ q → A q) (hE : zEz p l e rmX9_opaque s m args below meth c cX9_opaque D A Q (zwX9 cI h_t h_t_now h_t_file h_t_fresh h_t_colour h_t_table h_t_last h_t_one t_wide t_high t_size t_at t_fault t_newWide t_newHigh t_colours t_now t_file t_fresh t_colour t_table t_last t_one) r0) (n : Nat) : ∀ {l1 : Int32} {l2 : Int32} {H : Heap} {locs : List Loc} {ls : Array Slot}, fX9_opaque_4 n t_wide t_high t_now l1 l2 = some r0 → va_P D vwCl (zwX9 cI h_t h_t_now h_t_file h_t_fresh h_t_colour h_t_table h_t_last h_t_one t_wide t_high t_size t_at t_fault t_newWide t_newHigh t_colours t_now t_file t_fresh t_colour t_table t_last t_one) H → va_D A (zwX9 cI h_t h_t_now h_t_file h_t_fresh h_t_colour h_t_table h_t_last h_t_one t_wide t_high t_size t_at t_fault t_newWide t_newHigh t_colours t_now t_file t_fresh t_colour t_table t_last t_one) → va_S A s.heap H locs → lv_has ls 3 [(0, .ref h_t), (1, .int l1), (2, .int l2)] → W p l e rmX9_opaque s m args below meth c H locs 0 0 Q (F0 m 4 ls []) := by
  obtain ⟨hx, hb, hml, hown, hts⟩ := id C
  induction n with
  | zero =>
    intro l1 l2 H locs ls hf
    cases hf
  | succ n hr_4 =>
    intro l1 l2 H locs ls hf hP hD hS hl
    rw [fX9_opaque_4_s] at hf
    refine lv_iload_n hx hb dX9_opaque_4 rfl (lv_at hl 2 rfl) ?_
    refine lv_aload_n hx hb dX9_opaque_5 rfl (lv_at hl 0 rfl) ?_
    refine va_get (D := D) (ci := 8) (v := .int t_wide) (C := RX9) (T := TX9) (N := 15) hx hb hts iX9_opaque_X9 hown hK hP 0 rfl rfl 0 (by decide) (kX9_opaque_7 hts) (fun _ h9 => h9) rfl dX9_opaque_6 ?_
    refine lv_aload_n hx hb dX9_opaque_9 rfl (lv_at hl 0 rfl) ?_
    refine va_get (D := D) (ci := 8) (v := .int t_high) (C := RX9) (T := TX9) (N := 15) hx hb hts iX9_opaque_X9 hown hK hP 0 rfl rfl 1 (by decide) (kX9_opaque_13 hts) (fun _ h9 => h9) rfl dX9_opaque_10 ?_
    refine lv_imul hx hb dX9_opaque_13 ?_
    refine lv_icmp_ge (tgt := 45) hx hb dX9_opaque_14 (by decide) (fun c1 => ?_) (fun c1 => ?_)
    · replace hf := zif_t hf c1
      refine lv_iload_n hx hb dX9_opaque_45 rfl (lv_at hl 1 rfl) ?_
      obtain ⟨hg2, hf⟩ := zbo_in hf
      cases hf
      exact hE _ _ _ _ dX9_opaque_46 hg2.1 hP hD hS
    · replace hf := zif_f hf c1
      refine lv_iload_n hx hb dX9_opaque_17 rfl (lv_at hl 1 rfl) ?_
      refine lv_if_eq (tgt := 37) hx hb dX9_opaque_18 (by decide) (fun c3 => ?_) (fun c3 => ?_)
      · replace hf := zif_t hf c3
        exact wX9_opaque_37 C hN hK hA hE hr_4 hf hP hD hS (lv_sub hl [0, 1, 2] rfl)
      · replace hf := zif_f hf c3
        refine lv_aload_n hx hb dX9_opaque_21 rfl (lv_at hl 0 rfl) ?_
        refine lv_iload_n hx hb dX9_opaque_22 rfl (lv_at hl 2 rfl) ?_
        refine lv_iconst (v := 3) hx hb dX9_opaque_23 (by decide) ?_
        obtain ⟨r4, hc5, hf⟩ := zb1_in hf
        refine zc_i (va_runV (As := [.int l2, .int 3]) (rest := []) C (mX9_channel l D cI H.size h_t h_t_now h_t_file h_t_fresh h_t_colour h_t_table h_t_last h_t_one t_wide t_high t_size t_at t_fault t_newWide t_newHigh t_colours t_now t_file t_fresh t_colour t_table t_last t_one l2 3 r4 hc5) (qX9_opaque_X9_channel_49 hts) ⟨zP_blind, va_recv hK hP (ci := 8) (q0 := 0) rfl rfl, zpre hK hN hP hD [0, 1, 2, 3, 4, 5, 6, 7] rfl rfl⟩ rfl rfl hl.1 rfl (lv_room (Nat.le_of_ble_eq_true rfl)) dX9_opaque_24 ⟨Nat.zero_le _, Nat.zero_le _⟩) hP hD hS hA [0, 1, 2, 3, 4, 5, 6, 7] [] [0, 1, 2, 3, 4, 5, 6, 7] (ws' := zwX9 cI h_t h_t_now h_t_file h_t_fresh h_t_colour h_t_table h_t_last h_t_one t_wide t_high t_size t_at t_fault t_newWide t_newHigh t_colours t_now t_file t_fresh t_colour t_table t_last t_one) rfl rfl rfl rfl rfl rfl (fun H locs hP hD hS => ?_)
        refine lv_sipush (v := 255) hx hb dX9_opaque_27 (by decide) ?_
        refine lv_icmp_ne (tgt := 37) hx hb dX9_opaque_30 (by decide) (fun c6 => ?_) (fun c6 => ?_)
        · replace hf := zif_f hf c6
          exact wX9_opaque_37 C hN hK hA hE hr_4 hf hP hD hS (lv_sub hl [0, 1, 2] rfl)
        · replace hf := zif_t hf c6
          refine lv_iconst (v := 1) hx hb dX9_opaque_33 (by decide) ?_
          refine lv_goto (tgt := 38) hx hb dX9_opaque_34 (by decide) ?_
          exact wX9_opaque_38 C hN hK hA hE hr_4 hf hP hD hS (lv_sub hl [0, 1, 2] rfl)
set_option maxHeartbeats 4000000 in
set_option maxRecDepth 100000 in
theorem wX9_opaque_0 {p : Program} {l : Launch} {e : Env} {s : State} {m : MethodId} {args : Array Value} {below : List Frame} {meth : Method} {c : Code} {D : va_G} {A : Nat → Prop} {Q : State → Prop} {cI : ClassId} {h_t h_t_now h_t_file h_t_fresh h_t_colour h_t_table h_t_last h_t_one : Nat} {t_wide : Int32} {t_high : Int32} {t_size : Int32} {t_at : Int32} {t_fault : Int32} {t_newWide : Int32} {t_newHigh : Int32} {t_colours : Int32} {t_now : Nat → Int32} {t_file : Nat → Int32} {t_fresh : Nat → Int32} {t_colour : Nat → Int32} {t_table : Nat → Int32} {t_last : Nat → Int32} {t_one : Nat → Int32} {r0 : Int32} (C : CallFix p m c cX9_opaque 3 s args wsX9_opaque RX9) (hN : zN s) (hK : va_K D vwCl [(cI, .int)] s) (hA : ∀ q, s.heap.size ≤ q → A q) (hE : zEz p l e rmX9_opaque s m args below meth c cX9_opaque D A Q (zwX9 cI h_t h_t_now h_t_file h_t_fresh h_t_colour h_t_table h_t_last h_t_one t_wide t_high t_size t_at t_fault t_newWide t_newHigh t_colours t_now t_file t_fresh t_colour t_table t_last t_one) r0) {H : Heap} {locs : List Loc} {ls : Array Slot} : fX9_opaque t_wide t_high t_now = some r0 → va_P D vwCl (zwX9 cI h_t h_t_now h_t_file h_t_fresh h_t_colour h_t_table h_t_last h_t_one t_wide t_high t_size t_at t_fault t_newWide t_newHigh t_colours t_now t_file t_fresh t_colour t_table t_last t_one) H → va_D A (zwX9 cI h_t h_t_now h_t_file h_t_fresh h_t_colour h_t_table h_t_last h_t_one t_wide t_high t_size t_at t_fault t_newWide t_newHigh t_colours t_now t_file t_fresh t_colour t_table t_last t_one) → va_S A s.heap H locs → lv_has ls 3 [(0, .ref h_t)] → W p l e rmX9_opaque s m args below meth c H locs 0 0 Q (F0 m 0 ls []) := by
  intro hf hP hD hS hl
  obtain ⟨hx, hb, hml, hown, hts⟩ := id C
  unfold fX9_opaque at hf
  refine lv_iconst (v := 1) hx hb dX9_opaque_0 (by decide) ?_
  refine lv_istore_n (lv' := [(1, .int 1), (0, .ref h_t)]) hx hb dX9_opaque_1 rfl hl (by decide) rfl (fun ls hl => ?_)
  refine lv_iconst (v := 0) hx hb dX9_opaque_2 (by decide) ?_
  refine lv_istore_n (lv' := [(2, .int 0), (1, .int 1), (0, .ref h_t)]) hx hb dX9_opaque_3 rfl hl (by decide) rfl (fun ls hl => ?_)
  exact wX9_opaque_4 C hN hK hA hE 1000 hf hP hD hS (lv_sub hl [2, 1, 0] rfl)
set_option maxHeartbeats 4000000 in
set_option maxRecDepth 100000 in
theorem mX9_opaque (l : Launch) (D : va_G) (cI : ClassId) (sz : Nat) (h_t h_t_now h_t_file h_t_fresh h_t_colour h_t_table h_t_last h_t_one : Nat) (t_wide : Int32) (t_high : Int32) (t_size : Int32) (t_at : Int32) (t_fault : Int32) (t_newWide : Int32) (t_newHigh : Int32) (t_colours : Int32) (t_now : Nat → Int32) (t_file : Nat → Int32) (t_fresh : Nat → Int32) (t_colour : Nat → Int32) (t_table : Nat → Int32) (t_last : Nat → Int32) (t_one : Nat → Int32) (r0 : Int32) (hf : fX9_opaque t_wide t_high t_now = some r0) : Met l yX9_opaque wsX9_opaque rmX9_opaque (va_Pc [.ref h_t] (zP D [(cI, .int)] (zwX9 cI h_t h_t_now h_t_file h_t_fresh h_t_colour h_t_table h_t_last h_t_one t_wide t_high t_size t_at t_fault t_newWide t_newHigh t_colours t_now t_file t_fresh t_colour t_table t_last t_one) sz)) (zQi D (zwX9 cI h_t h_t_now h_t_file h_t_fresh h_t_colour h_t_table h_t_last h_t_one t_wide t_high t_size t_at t_fault t_newWide t_newHigh t_colours t_now t_file t_fresh t_colour t_table t_last t_one) sz r0 (zwX9 cI h_t h_t_now h_t_file h_t_fresh h_t_colour h_t_table h_t_last h_t_one t_wide t_high t_size t_at t_fault t_newWide t_newHigh t_colours t_now t_file t_fresh t_colour t_table t_last t_one)) 0 0 (va_A (zwX9 cI h_t h_t_now h_t_file h_t_fresh h_t_colour h_t_table h_t_last h_t_one t_wide t_high t_size t_at t_fault t_newWide t_newHigh t_colours t_now t_file t_fresh t_colour t_table t_last t_one) sz) := by
  refine Met.ofW (cc := cX9_opaque) (maxL := 3) (ret := (some .boolean)) (by decide) rfl ?_
  intro p e s m args below meth c s₁ B hml hv
  obtain ⟨rfl, hsz, hP, hK, hD0, hN⟩ := hv
  subst hsz
  have C : CallFix p m c cX9_opaque 3 s [.ref h_t].toArray wsX9_opaque RX9 := ⟨B.exec, B.bytes, hml, findClass_of_methodNamed B.named, atoms_spec (ws := wsX9_opaque) B.pre⟩
  have hl := lv_entry ([.ref h_t]) (n := 3) (Nat.le_of_ble_eq_true rfl)
  rw [lg_entry_eq]
  exact wX9_opaque_0 (A := va_A (zwX9 cI h_t h_t_now h_t_file h_t_fresh h_t_colour h_t_table h_t_last h_t_one t_wide t_high t_size t_at t_fault t_newWide t_newHigh t_colours t_now t_file t_fresh t_colour t_table t_last t_one) s.heap.size) C hN hK (fun q h => Or.inr h) (fun H locs pc ls d hn hP hD hS => zend_z C.1 C.2.1 B.returns B.notSynchronized d hn hP hD hS) hf hP hD0.self va_S.rf hl
def rmX9_grey : Room := { frames := 2, cells := 0, slots := 0, locals := 44 }
theorem kX9_grey_7 {args : Array Value} {s : State} (h : ∀ w ∈ wsX9_grey, w.before args s = true) : (Cond.fieldLink RX9 7 "FourPictureFilesModel" "wide" "I").before args s = true := h _ (by decide +kernel)
theorem kX9_grey_13 {args : Array Value} {s : State} (h : ∀ w ∈ wsX9_grey, w.before args s = true) : (Cond.fieldLink RX9 13 "FourPictureFilesModel" "high" "I").before args s = true := h _ (by decide +kernel)
theorem iX9_grey_X9 : ∀ w ∈ u_ws RX9 TX9 15, w ∈ wsX9_grey := by decide +kernel
theorem qX9_grey_X9_channel_49 {args : Array Value} {s : State} (hts : ∀ w ∈ wsX9_grey, w.before args s = true) : CallW rmX9_grey s args RX9 RX9 49 yX9_channel cX9_channel 3 (some .int) wsX9_channel rmX9_channel 0 0 2 := cwV 2 hts gX9_grey_X9_channel rfl rfl rfl (by decide +kernel) ⟨Nat.le_of_ble_eq_true rfl, Nat.le_of_ble_eq_true rfl⟩
theorem qX9_grey_X9_opaque_53 {args : Array Value} {s : State} (hts : ∀ w ∈ wsX9_grey, w.before args s = true) : CallW rmX9_grey s args RX9 RX9 53 yX9_opaque cX9_opaque 3 (some .boolean) wsX9_opaque rmX9_opaque 0 0 0 := cwV 0 hts gX9_grey_X9_opaque rfl rfl rfl (by decide +kernel) ⟨Nat.le_of_ble_eq_true rfl, Nat.le_of_ble_eq_true rfl⟩
set_option maxHeartbeats 4000000 in
set_option maxRecDepth 100000 in
theorem wX9_grey_59 {p : Program} {l : Launch} {e : Env} {s : State} {m : MethodId} {args : Array Value} {below : List Frame} {meth : Method} {c : Code} {D : va_G} {A : Nat → Prop} {Q : State → Prop} {cI : ClassId} {h_t h_t_now h_t_file h_t_fresh h_t_colour h_t_table h_t_last h_t_one : Nat} {t_wide : Int32} {t_high : Int32} {t_size : Int32} {t_at : Int32} {t_fault : Int32} {t_newWide : Int32} {t_newHigh : Int32} {t_colours : Int32} {t_now : Nat → Int32} {t_file : Nat → Int32} {t_fresh : Nat → Int32} {t_colour : Nat → Int32} {t_table : Nat → Int32} {t_last : Nat → Int32} {t_one : Nat → Int32} {r0 : Int32} (C : CallFix p m c cX9_grey 3 s args wsX9_grey RX9) (hN : zN s) (hK : va_K D vwCl [(cI, .int)] s) (hA : ∀ q, s.heap.size ≤ q → A q) (hE : zEz p l e rmX9_grey s m args below meth c cX9_grey D A Q (zwX9 cI h_t h_t_now h_t_file h_t_fresh h_t_colour h_t_table h_t_last h_t_one t_wide t_high t_size t_at t_fault t_newWide t_newHigh t_colours t_now t_file t_fresh t_colour t_table t_last t_one) r0) {rc7 : Int32 → Int32 → (Nat → Int32) → Int32 → Int32 → Option (Int32)} (hr_7 : ∀ {l1 : Int32} {l2 : Int32} {H : Heap} {locs : List Loc} {ls : Array Slot}, rc7 t_wide t_high t_now l1 l2 = some r0 → va_P D vwCl (zwX9 cI h_t h_t_now h_t_file h_t_fresh h_t_colour h_t_table h_t_last h_t_one t_wide t_high t_size t_at t_fault t_newWide t_newHigh t_colours t_now t_file t_fresh t_colour t_table t_last t_one) H → va_D A (zwX9 cI h_t h_t_now h_t_file h_t_fresh h_t_colour h_t_table h_t_last h_t_one t_wide t_high t_size t_at t_fault t_newWide t_newHigh t_colours t_now t_file t_fresh t_colour t_table t_last t_one) → va_S A s.heap H locs → lv_has ls 3 [(0, .ref h_t), (1, .int l1), (2, .int l2)] → W p l e rmX9_grey s m args below meth c H locs 0 0 Q (F0 m 7 ls [])) {l1 : Int32} {l2 : Int32} {k0 : Int32} {H : Heap} {locs : List Loc} {ls : Array Slot} : fX9_grey_59 rc7 t_wide t_high t_now l2 k0 = some r0 → va_P D vwCl (zwX9 cI h_t h_t_now h_t_file h_t_fresh h_t_colour h_t_table h_t_last h_t_one t_wide t_high t_size t_at t_fault t_newWide t_newHigh t_colours t_now t_file t_fresh t_colour t_table t_last t_one) H → va_D A (zwX9 cI h_t h_t_now h_t_file h_t_fresh h_t_colour h_t_table h_t_last h_t_one t_wide t_high t_size t_at t_fault t_newWide t_newHigh t_colours t_now t_file t_fresh t_colour t_table t_last t_one) → va_S A s.heap H locs → lv_has ls 3 [(0, .ref h_t), (1, .int l1), (2, .int l2)] → W p l e rmX9_grey s m args below meth c H locs 0 0 Q (F0 m 59 ls [.int k0]) := by
  intro hf hP hD hS hl
  obtain ⟨hx, hb, hml, hown, hts⟩ := id C
  unfold fX9_grey_59 at hf
  refine lv_istore_n (lv' := [(1, .int k0), (0, .ref h_t), (2, .int l2)]) hx hb dX9_grey_59 rfl hl (by decide) rfl (fun ls hl => ?_)
  obtain ⟨x1, ex1⟩ : ∃ y : Int32, y = l2 + 1 := ⟨_, rfl⟩
  replace hf := zlet_in hf ex1
  refine lv_iinc (v := x1) (lv' := [(2, .int x1), (1, .int k0), (0, .ref h_t)]) hx hb dX9_grey_60 hl (k := 2) rfl (by rw [ex1]; rfl) (by decide) rfl (fun ls hl => ?_)
  clear ex1
  refine lv_goto (tgt := 7) hx hb dX9_grey_63 (by decide) ?_
  exact hr_7 hf hP hD hS (lv_sub hl [2, 1, 0] rfl)
set_option maxHeartbeats 4000000 in
set_option maxRecDepth 100000 in
theorem wX9_grey_58 {p : Program} {l : Launch} {e : Env} {s : State} {m : MethodId} {args : Array Value} {below : List Frame} {meth : Method} {c : Code} {D : va_G} {A : Nat → Prop} {Q : State → Prop} {cI : ClassId} {h_t h_t_now h_t_file h_t_fresh h_t_colour h_t_table h_t_last h_t_one : Nat} {t_wide : Int32} {t_high : Int32} {t_size : Int32} {t_at : Int32} {t_fault : Int32} {t_newWide : Int32} {t_newHigh : Int32} {t_colours : Int32} {t_now : Nat → Int32} {t_file : Nat → Int32} {t_fresh : Nat → Int32} {t_colour : Nat → Int32} {t_table : Nat → Int32} {t_last : Nat → Int32} {t_one : Nat → Int32} {r0 : Int32} (C : CallFix p m c cX9_grey 3 s args wsX9_grey RX9) (hN : zN s) (hK : va_K D vwCl [(cI, .int)] s) (hA : ∀ q, s.heap.size ≤ q → A q) (hE : zEz p l e rmX9_grey s m args below meth c cX9_grey D A Q (zwX9 cI h_t h_t_now h_t_file h_t_fresh h_t_colour h_t_table h_t_last h_t_one t_wide t_high t_size t_at t_fault t_newWide t_newHigh t_colours t_now t_file t_fresh t_colour t_table t_last t_one) r0) {rc7 : Int32 → Int32 → (Nat → Int32) → Int32 → Int32 → Option (Int32)} (hr_7 : ∀ {l1 : Int32} {l2 : Int32} {H : Heap} {locs : List Loc} {ls : Array Slot}, rc7 t_wide t_high t_now l1 l2 = some r0 → va_P D vwCl (zwX9 cI h_t h_t_now h_t_file h_t_fresh h_t_colour h_t_table h_t_last h_t_one t_wide t_high t_size t_at t_fault t_newWide t_newHigh t_colours t_now t_file t_fresh t_colour t_table t_last t_one) H → va_D A (zwX9 cI h_t h_t_now h_t_file h_t_fresh h_t_colour h_t_table h_t_last h_t_one t_wide t_high t_size t_at t_fault t_newWide t_newHigh t_colours t_now t_file t_fresh t_colour t_table t_last t_one) → va_S A s.heap H locs → lv_has ls 3 [(0, .ref h_t), (1, .int l1), (2, .int l2)] → W p l e rmX9_grey s m args below meth c H locs 0 0 Q (F0 m 7 ls [])) {l1 : Int32} {l2 : Int32} {H : Heap} {locs : List Loc} {ls : Array Slot} : fX9_grey_58 rc7 t_wide t_high t_now l2 = some r0 → va_P D vwCl (zwX9 cI h_t h_t_now h_t_file h_t_fresh h_t_colour h_t_table h_t_last h_t_one t_wide t_high t_size t_at t_fault t_newWide t_newHigh t_colours t_now t_file t_fresh t_colour t_table t_last t_one) H → va_D A (zwX9 cI h_t h_t_now h_t_file h_t_fresh h_t_colour h_t_table h_t_last h_t_one t_wide t_high t_size t_at t_fault t_newWide t_newHigh t_colours t_now t_file t_fresh t_colour t_table t_last t_one) → va_S A s.heap H locs → lv_has ls 3 [(0, .ref h_t), (1, .int l1), (2, .int l2)] → W p l e rmX9_grey s m args below meth c H locs 0 0 Q (F0 m 58 ls []) := by
  intro hf hP hD hS hl
  obtain ⟨hx, hb, hml, hown, hts⟩ := id C
  unfold fX9_grey_58 at hf
  refine lv_iconst (v := 0) hx hb dX9_grey_58 (by decide) ?_
  exact wX9_grey_59 C hN hK hA hE hr_7 hf hP hD hS (lv_sub hl [0, 1, 2] rfl)
set_option maxHeartbeats 4000000 in
set_option maxRecDepth 100000 in
theorem wX9_grey_7 {p : Program} {l : Launch} {e : Env} {s : State} {m : MethodId} {args : Array Value} {below : List Frame} {meth : Method} {c : Code} {D : va_G} {A : Nat → Prop} {Q : State → Prop} {cI : ClassId} {h_t h_t_now h_t_file h_t_fresh h_t_colour h_t_table h_t_last h_t_one : Nat} {t_wide : Int32} {t_high : Int32} {t_size : Int32} {t_at : Int32} {t_fault : Int32} {t_newWide : Int32} {t_newHigh : Int32} {t_colours : Int32} {t_now : Nat → Int32} {t_file : Nat → Int32} {t_fresh : Nat → Int32} {t_colour : Nat → Int32} {t_table : Nat → Int32} {t_last : Nat → Int32} {t_one : Nat → Int32} {r0 : Int32} (C : CallFix p m c cX9_grey 3 s args wsX9_grey RX9) (hN : zN s) (hK : va_K D vwCl [(cI, .int)] s) (hA : ∀ q, s.heap.size ≤ q → A q) (hE : zEz p l e rmX9_grey s m args below meth c cX9_grey D A Q (zwX9 cI h_t h_t_now h_t_file h_t_fresh h_t_colour h_t_table h_t_last h_t_one t_wide t_high t_size t_at t_fault t_newWide t_newHigh t_colours t_now t_file t_fresh t_colour t_table t_last t_one) r0) (n : Nat) : ∀ {l1 : Int32} {l2 : Int32} {H : Heap} {locs : List Loc} {ls : Array Slot}, fX9_grey_7 n t_wide t_high t_now l1 l2 = some r0 → va_P D vwCl (zwX9 cI h_t h_t_now h_t_file h_t_fresh h_t_colour h_t_table h_t_last h_t_one t_wide t_high t_size t_at t_fault t_newWide t_newHigh t_colours t_now t_file t_fresh t_colour t_table t_last t_one) H → va_D A (zwX9 cI h_t h_t_now h_t_file h_t_fresh h_t_colour h_t_table h_t_last h_t_one t_wide t_high t_size t_at t_fault t_newWide t_newHigh t_colours t_now t_file t_fresh t_colour t_table t_last t_one) → va_S A s.heap H locs → lv_has ls 3 [(0, .ref h_t), (1, .int l1), (2, .int l2)] → W p l e rmX9_grey s m args below meth c H locs 0 0 Q (F0 m 7 ls []) := by
  obtain ⟨hx, hb, hml, hown, hts⟩ := id C
  induction n with
  | zero =>
    intro l1 l2 H locs ls hf
    cases hf
  | succ n hr_7 =>
    intro l1 l2 H locs ls hf hP hD hS hl
    rw [fX9_grey_7_s] at hf
    refine lv_iload_n hx hb dX9_grey_7 rfl (lv_at hl 2 rfl) ?_
    refine lv_aload_n hx hb dX9_grey_8 rfl (lv_at hl 0 rfl) ?_
    refine va_get (D := D) (ci := 8) (v := .int t_wide) (C := RX9) (T := TX9) (N := 15) hx hb hts iX9_grey_X9 hown hK hP 0 rfl rfl 0 (by decide) (kX9_grey_7 hts) (fun _ h9 => h9) rfl dX9_grey_9 ?_
    refine lv_aload_n hx hb dX9_grey_12 rfl (lv_at hl 0 rfl) ?_
    refine va_get (D := D) (ci := 8) (v := .int t_high) (C := RX9) (T := TX9) (N := 15) hx hb hts iX9_grey_X9 hown hK hP 0 rfl rfl 1 (by decide) (kX9_grey_13 hts) (fun _ h9 => h9) rfl dX9_grey_13 ?_
    refine lv_imul hx hb dX9_grey_16 ?_
    refine lv_icmp_ge (tgt := 66) hx hb dX9_grey_17 (by decide) (fun c1 => ?_) (fun c1 => ?_)
    · replace hf := zif_t hf c1
      refine lv_iload_n hx hb dX9_grey_66 rfl (lv_at hl 1 rfl) ?_
      obtain ⟨hg2, hf⟩ := zbo_in hf
      cases hf
      exact hE _ _ _ _ dX9_grey_67 hg2.1 hP hD hS
    · replace hf := zif_f hf c1
      refine lv_iload_n hx hb dX9_grey_20 rfl (lv_at hl 1 rfl) ?_
      refine lv_if_eq (tgt := 58) hx hb dX9_grey_21 (by decide) (fun c3 => ?_) (fun c3 => ?_)
      · replace hf := zif_t hf c3
        exact wX9_grey_58 C hN hK hA hE hr_7 hf hP hD hS (lv_sub hl [0, 1, 2] rfl)
      · replace hf := zif_f hf c3
        refine lv_aload_n hx hb dX9_grey_24 rfl (lv_at hl 0 rfl) ?_
        refine lv_iload_n hx hb dX9_grey_25 rfl (lv_at hl 2 rfl) ?_
        refine lv_iconst (v := 0) hx hb dX9_grey_26 (by decide) ?_
        obtain ⟨r4, hc5, hf⟩ := zb1_in hf
        refine zc_i (va_runV (As := [.int l2, .int 0]) (rest := []) C (mX9_channel l D cI H.size h_t h_t_now h_t_file h_t_fresh h_t_colour h_t_table h_t_last h_t_one t_wide t_high t_size t_at t_fault t_newWide t_newHigh t_colours t_now t_file t_fresh t_colour t_table t_last t_one l2 0 r4 hc5) (qX9_grey_X9_channel_49 hts) ⟨zP_blind, va_recv hK hP (ci := 8) (q0 := 0) rfl rfl, zpre hK hN hP hD [0, 1, 2, 3, 4, 5, 6, 7] rfl rfl⟩ rfl rfl hl.1 rfl (lv_room (Nat.le_of_ble_eq_true rfl)) dX9_grey_27 ⟨Nat.zero_le _, Nat.zero_le _⟩) hP hD hS hA [0, 1, 2, 3, 4, 5, 6, 7] [] [0, 1, 2, 3, 4, 5, 6, 7] (ws' := zwX9 cI h_t h_t_now h_t_file h_t_fresh h_t_colour h_t_table h_t_last h_t_one t_wide t_high t_size t_at t_fault t_newWide t_newHigh t_colours t_now t_file t_fresh t_colour t_table t_last t_one) rfl rfl rfl rfl rfl rfl (fun H locs hP hD hS => ?_)
        refine lv_aload_n hx hb dX9_grey_30 rfl (lv_at hl 0 rfl) ?_
        refine lv_iload_n hx hb dX9_grey_31 rfl (lv_at hl 2 rfl) ?_
        refine lv_iconst (v := 1) hx hb dX9_grey_32 (by decide) ?_
        obtain ⟨r6, hc7, hf⟩ := zb1_in hf
        refine zc_i (va_runV (As := [.int l2, .int 1]) (rest := [.int r4]) C (mX9_channel l D cI H.size h_t h_t_now h_t_file h_t_fresh h_t_colour h_t_table h_t_last h_t_one t_wide t_high t_size t_at t_fault t_newWide t_newHigh t_colours t_now t_file t_fresh t_colour t_table t_last t_one l2 1 r6 hc7) (qX9_grey_X9_channel_49 hts) ⟨zP_blind, va_recv hK hP (ci := 8) (q0 := 0) rfl rfl, zpre hK hN hP hD [0, 1, 2, 3, 4, 5, 6, 7] rfl rfl⟩ rfl rfl hl.1 rfl (lv_room (Nat.le_of_ble_eq_true rfl)) dX9_grey_33 ⟨Nat.zero_le _, Nat.zero_le _⟩) hP hD hS hA [0, 1, 2, 3, 4, 5, 6, 7] [] [0, 1, 2, 3, 4, 5, 6, 7] (ws' := zwX9 cI h_t h_t_now h_t_file h_t_fresh h_t_colour h_t_table h_t_last h_t_one t_wide t_high t_size t_at t_fault t_newWide t_newHigh t_colours t_now t_file t_fresh t_colour t_table t_last t_one) rfl rfl rfl rfl rfl rfl (fun H locs hP hD hS => ?_)
        refine lv_icmp_ne (tgt := 58) hx hb dX9_grey_36 (by decide) (fun c8 => ?_) (fun c8 => ?_)
        · replace hf := zif_f hf c8
          exact wX9_grey_58 C hN hK hA hE hr_7 hf hP hD hS (lv_sub hl [0, 1, 2] rfl)
        · replace hf := zif_t hf c8
          refine lv_aload_n hx hb dX9_grey_39 rfl (lv_at hl 0 rfl) ?_
          refine lv_iload_n hx hb dX9_grey_40 rfl (lv_at hl 2 rfl) ?_
          refine lv_iconst (v := 1) hx hb dX9_grey_41 (by decide) ?_
          obtain ⟨r9, hc10, hf⟩ := zb1_in hf
          refine zc_i (va_runV (As := [.int l2, .int 1]) (rest := []) C (mX9_channel l D cI H.size h_t h_t_now h_t_file h_t_fresh h_t_colour h_t_table h_t_last h_t_one t_wide t_high t_size t_at t_fault t_newWide t_newHigh t_colours t_now t_file t_fresh t_colour t_table t_last t_one l2 1 r9 hc10) (qX9_grey_X9_channel_49 hts) ⟨zP_blind, va_recv hK hP (ci := 8) (q0 := 0) rfl rfl, zpre hK hN hP hD [0, 1, 2, 3, 4, 5, 6, 7] rfl rfl⟩ rfl rfl hl.1 rfl (lv_room (Nat.le_of_ble_eq_true rfl)) dX9_grey_42 ⟨Nat.zero_le _, Nat.zero_le _⟩) hP hD hS hA [0, 1, 2, 3, 4, 5, 6, 7] [] [0, 1, 2, 3, 4, 5, 6, 7] (ws' := zwX9 cI h_t h_t_now h_t_file h_t_fresh h_t_colour h_t_table h_t_last h_t_one t_wide t_high t_size t_at t_fault t_newWide t_newHigh t_colours t_now t_file t_fresh t_colour t_table t_last t_one) rfl rfl rfl rfl rfl rfl (fun H locs hP hD hS => ?_)
          refine lv_aload_n hx hb dX9_grey_45 rfl (lv_at hl 0 rfl) ?_
          refine lv_iload_n hx hb dX9_grey_46 rfl (lv_at hl 2 rfl) ?_
          refine lv_iconst (v := 2) hx hb dX9_grey_47 (by decide) ?_
          obtain ⟨r11, hc12, hf⟩ := zb1_in hf
          refine zc_i (va_runV (As := [.int l2, .int 2]) (rest := [.int r9]) C (mX9_channel l D cI H.size h_t h_t_now h_t_file h_t_fresh h_t_colour h_t_table h_t_last h_t_one t_wide t_high t_size t_at t_fault t_newWide t_newHigh t_colours t_now t_file t_fresh t_colour t_table t_last t_one l2 2 r11 hc12) (qX9_grey_X9_channel_49 hts) ⟨zP_blind, va_recv hK hP (ci := 8) (q0 := 0) rfl rfl, zpre hK hN hP hD [0, 1, 2, 3, 4, 5, 6, 7] rfl rfl⟩ rfl rfl hl.1 rfl (lv_room (Nat.le_of_ble_eq_true rfl)) dX9_grey_48 ⟨Nat.zero_le _, Nat.zero_le _⟩) hP hD hS hA [0, 1, 2, 3, 4, 5, 6, 7] [] [0, 1, 2, 3, 4, 5, 6, 7] (ws' := zwX9 cI h_t h_t_now h_t_file h_t_fresh h_t_colour h_t_table h_t_last h_t_one t_wide t_high t_size t_at t_fault t_newWide t_newHigh t_colours t_now t_file t_fresh t_colour t_table t_last t_one) rfl rfl rfl rfl rfl rfl (fun H locs hP hD hS => ?_)
          refine lv_icmp_ne (tgt := 58) hx hb dX9_grey_51 (by decide) (fun c13 => ?_) (fun c13 => ?_)
          · replace hf := zif_f hf c13
            exact wX9_grey_58 C hN hK hA hE hr_7 hf hP hD hS (lv_sub hl [0, 1, 2] rfl)
          · replace hf := zif_t hf c13
            refine lv_iconst (v := 1) hx hb dX9_grey_54 (by decide) ?_
            refine lv_goto (tgt := 59) hx hb dX9_grey_55 (by decide) ?_
            exact wX9_grey_59 C hN hK hA hE hr_7 hf hP hD hS (lv_sub hl [0, 1, 2] rfl)
set_option maxHeartbeats 4000000 in
set_option maxRecDepth 100000 in
theorem wX9_grey_0 {p : Program} {l : Launch} {e : Env} {s : State} {m : MethodId} {args : Array Value} {below : List Frame} {meth : Method} {c : Code} {D : va_G} {A : Nat → Prop} {Q : State → Prop} {cI : ClassId} {h_t h_t_now h_t_file h_t_fresh h_t_colour h_t_table h_t_last h_t_one : Nat} {t_wide : Int32} {t_high : Int32} {t_size : Int32} {t_at : Int32} {t_fault : Int32} {t_newWide : Int32} {t_newHigh : Int32} {t_colours : Int32} {t_now : Nat → Int32} {t_file : Nat → Int32} {t_fresh : Nat → Int32} {t_colour : Nat → Int32} {t_table : Nat → Int32} {t_last : Nat → Int32} {t_one : Nat → Int32} {r0 : Int32} (C : CallFix p m c cX9_grey 3 s args wsX9_grey RX9) (hN : zN s) (hK : va_K D vwCl [(cI, .int)] s) (hA : ∀ q, s.heap.size ≤ q → A q) (hE : zEz p l e rmX9_grey s m args below meth c cX9_grey D A Q (zwX9 cI h_t h_t_now h_t_file h_t_fresh h_t_colour h_t_table h_t_last h_t_one t_wide t_high t_size t_at t_fault t_newWide t_newHigh t_colours t_now t_file t_fresh t_colour t_table t_last t_one) r0) {H : Heap} {locs : List Loc} {ls : Array Slot} : fX9_grey t_wide t_high t_now = some r0 → va_P D vwCl (zwX9 cI h_t h_t_now h_t_file h_t_fresh h_t_colour h_t_table h_t_last h_t_one t_wide t_high t_size t_at t_fault t_newWide t_newHigh t_colours t_now t_file t_fresh t_colour t_table t_last t_one) H → va_D A (zwX9 cI h_t h_t_now h_t_file h_t_fresh h_t_colour h_t_table h_t_last h_t_one t_wide t_high t_size t_at t_fault t_newWide t_newHigh t_colours t_now t_file t_fresh t_colour t_table t_last t_one) → va_S A s.heap H locs → lv_has ls 3 [(0, .ref h_t)] → W p l e rmX9_grey s m args below meth c H locs 0 0 Q (F0 m 0 ls []) := by
  intro hf hP hD hS hl
  obtain ⟨hx, hb, hml, hown, hts⟩ := id C
  unfold fX9_grey at hf
  refine lv_aload_n hx hb dX9_grey_0 rfl (lv_at hl 0 rfl) ?_
  obtain ⟨r1, hc2, hf⟩ := zb1_in hf
  refine zc_i (va_runV (As := []) (rest := []) C (mX9_opaque l D cI H.size h_t h_t_now h_t_file h_t_fresh h_t_colour h_t_table h_t_last h_t_one t_wide t_high t_size t_at t_fault t_newWide t_newHigh t_colours t_now t_file t_fresh t_colour t_table t_last t_one r1 hc2) (qX9_grey_X9_opaque_53 hts) ⟨zP_blind, va_recv hK hP (ci := 8) (q0 := 0) rfl rfl, zpre hK hN hP hD [0, 1, 2, 3, 4, 5, 6, 7] rfl rfl⟩ rfl rfl hl.1 rfl (lv_room (Nat.le_of_ble_eq_true rfl)) dX9_grey_1 ⟨Nat.zero_le _, Nat.zero_le _⟩) hP hD hS hA [0, 1, 2, 3, 4, 5, 6, 7] [] [0, 1, 2, 3, 4, 5, 6, 7] (ws' := zwX9 cI h_t h_t_now h_t_file h_t_fresh h_t_colour h_t_table h_t_last h_t_one t_wide t_high t_size t_at t_fault t_newWide t_newHigh t_colours t_now t_file t_fresh t_colour t_table t_last t_one) rfl rfl rfl rfl rfl rfl (fun H locs hP hD hS => ?_)
  refine lv_istore_n (lv' := [(1, .int r1), (0, .ref h_t)]) hx hb dX9_grey_4 rfl hl (by decide) rfl (fun ls hl => ?_)
  refine lv_iconst (v := 0) hx hb dX9_grey_5 (by decide) ?_
  refine lv_istore_n (lv' := [(2, .int 0), (1, .int r1), (0, .ref h_t)]) hx hb dX9_grey_6 rfl hl (by decide) rfl (fun ls hl => ?_)
  exact wX9_grey_7 C hN hK hA hE 1000 hf hP hD hS (lv_sub hl [2, 1, 0] rfl)
set_option maxHeartbeats 4000000 in
set_option maxRecDepth 100000 in
theorem mX9_grey (l : Launch) (D : va_G) (cI : ClassId) (sz : Nat) (h_t h_t_now h_t_file h_t_fresh h_t_colour h_t_table h_t_last h_t_one : Nat) (t_wide : Int32) (t_high : Int32) (t_size : Int32) (t_at : Int32) (t_fault : Int32) (t_newWide : Int32) (t_newHigh : Int32) (t_colours : Int32) (t_now : Nat → Int32) (t_file : Nat → Int32) (t_fresh : Nat → Int32) (t_colour : Nat → Int32) (t_table : Nat → Int32) (t_last : Nat → Int32) (t_one : Nat → Int32) (r0 : Int32) (hf : fX9_grey t_wide t_high t_now = some r0) : Met l yX9_grey wsX9_grey rmX9_grey (va_Pc [.ref h_t] (zP D [(cI, .int)] (zwX9 cI h_t h_t_now h_t_file h_t_fresh h_t_colour h_t_table h_t_last h_t_one t_wide t_high t_size t_at t_fault t_newWide t_newHigh t_colours t_now t_file t_fresh t_colour t_table t_last t_one) sz)) (zQi D (zwX9 cI h_t h_t_now h_t_file h_t_fresh h_t_colour h_t_table h_t_last h_t_one t_wide t_high t_size t_at t_fault t_newWide t_newHigh t_colours t_now t_file t_fresh t_colour t_table t_last t_one) sz r0 (zwX9 cI h_t h_t_now h_t_file h_t_fresh h_t_colour h_t_table h_t_last h_t_one t_wide t_high t_size t_at t_fault t_newWide t_newHigh t_colours t_now t_file t_fresh t_colour t_table t_last t_one)) 0 0 (va_A (zwX9 cI h_t h_t_now h_t_file h_t_fresh h_t_colour h_t_table h_t_last h_t_one t_wide t_high t_size t_at t_fault t_newWide t_newHigh t_colours t_now t_file t_fresh t_colour t_table t_last t_one) sz) := by
  refine Met.ofW (cc := cX9_grey) (maxL := 3) (ret := (some .boolean)) (by decide) rfl ?_
  intro p e s m args below meth c s₁ B hml hv
  obtain ⟨rfl, hsz, hP, hK, hD0, hN⟩ := hv
  subst hsz
  have C : CallFix p m c cX9_grey 3 s [.ref h_t].toArray wsX9_grey RX9 := ⟨B.exec, B.bytes, hml, findClass_of_methodNamed B.named, atoms_spec (ws := wsX9_grey) B.pre⟩
  have hl := lv_entry ([.ref h_t]) (n := 3) (Nat.le_of_ble_eq_true rfl)
  rw [lg_entry_eq]
  exact wX9_grey_0 (A := va_A (zwX9 cI h_t h_t_now h_t_file h_t_fresh h_t_colour h_t_table h_t_last h_t_one t_wide t_high t_size t_at t_fault t_newWide t_newHigh t_colours t_now t_file t_fresh t_colour t_table t_last t_one) s.heap.size) C hN hK (fun q h => Or.inr h) (fun H locs pc ls d hn hP hD hS => zend_z C.1 C.2.1 B.returns B.notSynchronized d hn hP hD hS) hf hP hD0.self va_S.rf hl
def rmX9_alike : Room := { frames := 1, cells := 0, slots := 0, locals := 22 }
theorem qX9_alike_X9_channel_49 {args : Array Value} {s : State} (hts : ∀ w ∈ wsX9_alike, w.before args s = true) : CallW rmX9_alike s args RX9 RX9 49 yX9_channel cX9_channel 3 (some .int) wsX9_channel rmX9_channel 0 0 2 := cwV 2 hts gX9_alike_X9_channel rfl rfl rfl (by decide +kernel) ⟨Nat.le_of_ble_eq_true rfl, Nat.le_of_ble_eq_true rfl⟩
set_option maxHeartbeats 4000000 in
set_option maxRecDepth 100000 in
theorem wX9_alike_37 {p : Program} {l : Launch} {e : Env} {s : State} {m : MethodId} {args : Array Value} {below : List Frame} {meth : Method} {c : Code} {D : va_G} {A : Nat → Prop} {Q : State → Prop} {cI : ClassId} {h_t h_t_now h_t_file h_t_fresh h_t_colour h_t_table h_t_last h_t_one : Nat} {t_wide : Int32} {t_high : Int32} {t_size : Int32} {t_at : Int32} {t_fault : Int32} {t_newWide : Int32} {t_newHigh : Int32} {t_colours : Int32} {t_now : Nat → Int32} {t_file : Nat → Int32} {t_fresh : Nat → Int32} {t_colour : Nat → Int32} {t_table : Nat → Int32} {t_last : Nat → Int32} {t_one : Nat → Int32} {r0 : Int32} (C : CallFix p m c cX9_alike 5 s args wsX9_alike RX9) (hN : zN s) (hK : va_K D vwCl [(cI, .int)] s) (hA : ∀ q, s.heap.size ≤ q → A q) (hE : zEz p l e rmX9_alike s m args below meth c cX9_alike D A Q (zwX9 cI h_t h_t_now h_t_file h_t_fresh h_t_colour h_t_table h_t_last h_t_one t_wide t_high t_size t_at t_fault t_newWide t_newHigh t_colours t_now t_file t_fresh t_colour t_table t_last t_one) r0) {rc5 : Int32 → (Nat → Int32) → Int32 → Int32 → Int32 → Int32 → Option (Int32)} (hr_5 : ∀ {l1 : Int32} {l2 : Int32} {l3 : Int32} {l4 : Int32} {H : Heap} {locs : List Loc} {ls : Array Slot}, rc5 t_wide t_now l1 l2 l3 l4 = some r0 → va_P D vwCl (zwX9 cI h_t h_t_now h_t_file h_t_fresh h_t_colour h_t_table h_t_last h_t_one t_wide t_high t_size t_at t_fault t_newWide t_newHigh t_colours t_now t_file t_fresh t_colour t_table t_last t_one) H → va_D A (zwX9 cI h_t h_t_now h_t_file h_t_fresh h_t_colour h_t_table h_t_last h_t_one t_wide t_high t_size t_at t_fault t_newWide t_newHigh t_colours t_now t_file t_fresh t_colour t_table t_last t_one) → va_S A s.heap H locs → lv_has ls 5 [(0, .ref h_t), (1, .int l1), (2, .int l2), (3, .int l3), (4, .int l4)] → W p l e rmX9_alike s m args below meth c H locs 0 0 Q (F0 m 5 ls [])) {l1 : Int32} {l2 : Int32} {l3 : Int32} {l4 : Int32} {k0 : Int32} {H : Heap} {locs : List Loc} {ls : Array Slot} : fX9_alike_37 rc5 t_wide t_now l1 l2 l4 k0 = some r0 → va_P D vwCl (zwX9 cI h_t h_t_now h_t_file h_t_fresh h_t_colour h_t_table h_t_last h_t_one t_wide t_high t_size t_at t_fault t_newWide t_newHigh t_colours t_now t_file t_fresh t_colour t_table t_last t_one) H → va_D A (zwX9 cI h_t h_t_now h_t_file h_t_fresh h_t_colour h_t_table h_t_last h_t_one t_wide t_high t_size t_at t_fault t_newWide t_newHigh t_colours t_now t_file t_fresh t_colour t_table t_last t_one) → va_S A s.heap H locs → lv_has ls 5 [(0, .ref h_t), (1, .int l1), (2, .int l2), (3, .int l3), (4, .int l4)] → W p l e rmX9_alike s m args below meth c H locs 0 0 Q (F0 m 37 ls [.int k0]) := by
  intro hf hP hD hS hl
  obtain ⟨hx, hb, hml, hown, hts⟩ := id C
  unfold fX9_alike_37 at hf
  refine lv_istore_n (lv' := [(3, .int k0), (0, .ref h_t), (1, .int l1), (2, .int l2), (4, .int l4)]) hx hb dX9_alike_37 rfl hl (by decide) rfl (fun ls hl => ?_)
  obtain ⟨x1, ex1⟩ : ∃ y : Int32, y = l4 + 1 := ⟨_, rfl⟩
  replace hf := zlet_in hf ex1
  refine lv_iinc (v := x1) (lv' := [(4, .int x1), (3, .int k0), (0, .ref h_t), (1, .int l1), (2, .int l2)]) hx hb dX9_alike_38 hl (k := 4) rfl (by rw [ex1]; rfl) (by decide) rfl (fun ls hl => ?_)
  clear ex1
  refine lv_goto (tgt := 5) hx hb dX9_alike_41 (by decide) ?_
  exact hr_5 hf hP hD hS (lv_sub hl [2, 3, 4, 1, 0] rfl)
set_option maxHeartbeats 4000000 in
set_option maxRecDepth 100000 in
theorem wX9_alike_36 {p : Program} {l : Launch} {e : Env} {s : State} {m : MethodId} {args : Array Value} {below : List Frame} {meth : Method} {c : Code} {D : va_G} {A : Nat → Prop} {Q : State → Prop} {cI : ClassId} {h_t h_t_now h_t_file h_t_fresh h_t_colour h_t_table h_t_last h_t_one : Nat} {t_wide : Int32} {t_high : Int32} {t_size : Int32} {t_at : Int32} {t_fault : Int32} {t_newWide : Int32} {t_newHigh : Int32} {t_colours : Int32} {t_now : Nat → Int32} {t_file : Nat → Int32} {t_fresh : Nat → Int32} {t_colour : Nat → Int32} {t_table : Nat → Int32} {t_last : Nat → Int32} {t_one : Nat → Int32} {r0 : Int32} (C : CallFix p m c cX9_alike 5 s args wsX9_alike RX9) (hN : zN s) (hK : va_K D vwCl [(cI, .int)] s) (hA : ∀ q, s.heap.size ≤ q → A q) (hE : zEz p l e rmX9_alike s m args below meth c cX9_alike D A Q (zwX9 cI h_t h_t_now h_t_file h_t_fresh h_t_colour h_t_table h_t_last h_t_one t_wide t_high t_size t_at t_fault t_newWide t_newHigh t_colours t_now t_file t_fresh t_colour t_table t_last t_one) r0) {rc5 : Int32 → (Nat → Int32) → Int32 → Int32 → Int32 → Int32 → Option (Int32)} (hr_5 : ∀ {l1 : Int32} {l2 : Int32} {l3 : Int32} {l4 : Int32} {H : Heap} {locs : List Loc} {ls : Array Slot}, rc5 t_wide t_now l1 l2 l3 l4 = some r0 → va_P D vwCl (zwX9 cI h_t h_t_now h_t_file h_t_fresh h_t_colour h_t_table h_t_last h_t_one t_wide t_high t_size t_at t_fault t_newWide t_newHigh t_colours t_now t_file t_fresh t_colour t_table t_last t_one) H → va_D A (zwX9 cI h_t h_t_now h_t_file h_t_fresh h_t_colour h_t_table h_t_last h_t_one t_wide t_high t_size t_at t_fault t_newWide t_newHigh t_colours t_now t_file t_fresh t_colour t_table t_last t_one) → va_S A s.heap H locs → lv_has ls 5 [(0, .ref h_t), (1, .int l1), (2, .int l2), (3, .int l3), (4, .int l4)] → W p l e rmX9_alike s m args below meth c H locs 0 0 Q (F0 m 5 ls [])) {l1 : Int32} {l2 : Int32} {l3 : Int32} {l4 : Int32} {H : Heap} {locs : List Loc} {ls : Array Slot} : fX9_alike_36 rc5 t_wide t_now l1 l2 l4 = some r0 → va_P D vwCl (zwX9 cI h_t h_t_now h_t_file h_t_fresh h_t_colour h_t_table h_t_last h_t_one t_wide t_high t_size t_at t_fault t_newWide t_newHigh t_colours t_now t_file t_fresh t_colour t_table t_last t_one) H → va_D A (zwX9 cI h_t h_t_now h_t_file h_t_fresh h_t_colour h_t_table h_t_last h_t_one t_wide t_high t_size t_at t_fault t_newWide t_newHigh t_colours t_now t_file t_fresh t_colour t_table t_last t_one) → va_S A s.heap H locs → lv_has ls 5 [(0, .ref h_t), (1, .int l1), (2, .int l2), (3, .int l3), (4, .int l4)] → W p l e rmX9_alike s m args below meth c H locs 0 0 Q (F0 m 36 ls []) := by
  intro hf hP hD hS hl
  obtain ⟨hx, hb, hml, hown, hts⟩ := id C
  unfold fX9_alike_36 at hf
  refine lv_iconst (v := 0) hx hb dX9_alike_36 (by decide) ?_
  exact wX9_alike_37 C hN hK hA hE hr_5 hf hP hD hS (lv_sub hl [0, 1, 2, 3, 4] rfl)
set_option maxHeartbeats 4000000 in
set_option maxRecDepth 100000 in
theorem wX9_alike_5 {p : Program} {l : Launch} {e : Env} {s : State} {m : MethodId} {args : Array Value} {below : List Frame} {meth : Method} {c : Code} {D : va_G} {A : Nat → Prop} {Q : State → Prop} {cI : ClassId} {h_t h_t_now h_t_file h_t_fresh h_t_colour h_t_table h_t_last h_t_one : Nat} {t_wide : Int32} {t_high : Int32} {t_size : Int32} {t_at : Int32} {t_fault : Int32} {t_newWide : Int32} {t_newHigh : Int32} {t_colours : Int32} {t_now : Nat → Int32} {t_file : Nat → Int32} {t_fresh : Nat → Int32} {t_colour : Nat → Int32} {t_table : Nat → Int32} {t_last : Nat → Int32} {t_one : Nat → Int32} {r0 : Int32} (C : CallFix p m c cX9_alike 5 s args wsX9_alike RX9) (hN : zN s) (hK : va_K D vwCl [(cI, .int)] s) (hA : ∀ q, s.heap.size ≤ q → A q) (hE : zEz p l e rmX9_alike s m args below meth c cX9_alike D A Q (zwX9 cI h_t h_t_now h_t_file h_t_fresh h_t_colour h_t_table h_t_last h_t_one t_wide t_high t_size t_at t_fault t_newWide t_newHigh t_colours t_now t_file t_fresh t_colour t_table t_last t_one) r0) (n : Nat) : ∀ {l1 : Int32} {l2 : Int32} {l3 : Int32} {l4 : Int32} {H : Heap} {locs : List Loc} {ls : Array Slot}, fX9_alike_5 n t_wide t_now l1 l2 l3 l4 = some r0 → va_P D vwCl (zwX9 cI h_t h_t_now h_t_file h_t_fresh h_t_colour h_t_table h_t_last h_t_one t_wide t_high t_size t_at t_fault t_newWide t_newHigh t_colours t_now t_file t_fresh t_colour t_table t_last t_one) H → va_D A (zwX9 cI h_t h_t_now h_t_file h_t_fresh h_t_colour h_t_table h_t_last h_t_one t_wide t_high t_size t_at t_fault t_newWide t_newHigh t_colours t_now t_file t_fresh t_colour t_table t_last t_one) → va_S A s.heap H locs → lv_has ls 5 [(0, .ref h_t), (1, .int l1), (2, .int l2), (3, .int l3), (4, .int l4)] → W p l e rmX9_alike s m args below meth c H locs 0 0 Q (F0 m 5 ls []) := by
  obtain ⟨hx, hb, hml, hown, hts⟩ := id C
  induction n with
  | zero =>
    intro l1 l2 l3 l4 H locs ls hf
    cases hf
  | succ n hr_5 =>
    intro l1 l2 l3 l4 H locs ls hf hP hD hS hl
    rw [fX9_alike_5_s] at hf
    refine lv_iload hx hb dX9_alike_5 (lv_at hl 4 rfl) ?_
    refine lv_iconst (v := 4) hx hb dX9_alike_7 (by decide) ?_
    refine lv_icmp_ge (tgt := 44) hx hb dX9_alike_8 (by decide) (fun c1 => ?_) (fun c1 => ?_)
    · replace hf := zif_t hf c1
      refine lv_iload_n hx hb dX9_alike_44 rfl (lv_at hl 3 rfl) ?_
      obtain ⟨hg2, hf⟩ := zbo_in hf
      cases hf
      exact hE _ _ _ _ dX9_alike_45 hg2.1 hP hD hS
    · replace hf := zif_f hf c1
      refine lv_iload_n hx hb dX9_alike_11 rfl (lv_at hl 3 rfl) ?_
      refine lv_if_eq (tgt := 36) hx hb dX9_alike_12 (by decide) (fun c3 => ?_) (fun c3 => ?_)
      · replace hf := zif_t hf c3
        exact wX9_alike_36 C hN hK hA hE hr_5 hf hP hD hS (lv_sub hl [0, 1, 2, 3, 4] rfl)
      · replace hf := zif_f hf c3
        refine lv_aload_n hx hb dX9_alike_15 rfl (lv_at hl 0 rfl) ?_
        refine lv_iload_n hx hb dX9_alike_16 rfl (lv_at hl 1 rfl) ?_
        refine lv_iload hx hb dX9_alike_17 (lv_at hl 4 rfl) ?_
        obtain ⟨r4, hc5, hf⟩ := zb1_in hf
        refine zc_i (va_runV (As := [.int l1, .int l4]) (rest := []) C (mX9_channel l D cI H.size h_t h_t_now h_t_file h_t_fresh h_t_colour h_t_table h_t_last h_t_one t_wide t_high t_size t_at t_fault t_newWide t_newHigh t_colours t_now t_file t_fresh t_colour t_table t_last t_one l1 l4 r4 hc5) (qX9_alike_X9_channel_49 hts) ⟨zP_blind, va_recv hK hP (ci := 8) (q0 := 0) rfl rfl, zpre hK hN hP hD [0, 1, 2, 3, 4, 5, 6, 7] rfl rfl⟩ rfl rfl hl.1 rfl (lv_room (Nat.le_of_ble_eq_true rfl)) dX9_alike_19 ⟨Nat.zero_le _, Nat.zero_le _⟩) hP hD hS hA [0, 1, 2, 3, 4, 5, 6, 7] [] [0, 1, 2, 3, 4, 5, 6, 7] (ws' := zwX9 cI h_t h_t_now h_t_file h_t_fresh h_t_colour h_t_table h_t_last h_t_one t_wide t_high t_size t_at t_fault t_newWide t_newHigh t_colours t_now t_file t_fresh t_colour t_table t_last t_one) rfl rfl rfl rfl rfl rfl (fun H locs hP hD hS => ?_)
        refine lv_aload_n hx hb dX9_alike_22 rfl (lv_at hl 0 rfl) ?_
        refine lv_iload_n hx hb dX9_alike_23 rfl (lv_at hl 2 rfl) ?_
        refine lv_iload hx hb dX9_alike_24 (lv_at hl 4 rfl) ?_
        obtain ⟨r6, hc7, hf⟩ := zb1_in hf
        refine zc_i (va_runV (As := [.int l2, .int l4]) (rest := [.int r4]) C (mX9_channel l D cI H.size h_t h_t_now h_t_file h_t_fresh h_t_colour h_t_table h_t_last h_t_one t_wide t_high t_size t_at t_fault t_newWide t_newHigh t_colours t_now t_file t_fresh t_colour t_table t_last t_one l2 l4 r6 hc7) (qX9_alike_X9_channel_49 hts) ⟨zP_blind, va_recv hK hP (ci := 8) (q0 := 0) rfl rfl, zpre hK hN hP hD [0, 1, 2, 3, 4, 5, 6, 7] rfl rfl⟩ rfl rfl hl.1 rfl (lv_room (Nat.le_of_ble_eq_true rfl)) dX9_alike_26 ⟨Nat.zero_le _, Nat.zero_le _⟩) hP hD hS hA [0, 1, 2, 3, 4, 5, 6, 7] [] [0, 1, 2, 3, 4, 5, 6, 7] (ws' := zwX9 cI h_t h_t_now h_t_file h_t_fresh h_t_colour h_t_table h_t_last h_t_one t_wide t_high t_size t_at t_fault t_newWide t_newHigh t_colours t_now t_file t_fresh t_colour t_table t_last t_one) rfl rfl rfl rfl rfl rfl (fun H locs hP hD hS => ?_)
        refine lv_icmp_ne (tgt := 36) hx hb dX9_alike_29 (by decide) (fun c8 => ?_) (fun c8 => ?_)
        · replace hf := zif_f hf c8
          exact wX9_alike_36 C hN hK hA hE hr_5 hf hP hD hS (lv_sub hl [0, 1, 2, 3, 4] rfl)
        · replace hf := zif_t hf c8
          refine lv_iconst (v := 1) hx hb dX9_alike_32 (by decide) ?_
          refine lv_goto (tgt := 37) hx hb dX9_alike_33 (by decide) ?_
          exact wX9_alike_37 C hN hK hA hE hr_5 hf hP hD hS (lv_sub hl [0, 1, 2, 3, 4] rfl)
set_option maxHeartbeats 4000000 in
set_option maxRecDepth 100000 in
theorem wX9_alike_0 {p : Program} {l : Launch} {e : Env} {s : State} {m : MethodId} {args : Array Value} {below : List Frame} {meth : Method} {c : Code} {D : va_G} {A : Nat → Prop} {Q : State → Prop} {cI : ClassId} {h_t h_t_now h_t_file h_t_fresh h_t_colour h_t_table h_t_last h_t_one : Nat} {t_wide : Int32} {t_high : Int32} {t_size : Int32} {t_at : Int32} {t_fault : Int32} {t_newWide : Int32} {t_newHigh : Int32} {t_colours : Int32} {t_now : Nat → Int32} {t_file : Nat → Int32} {t_fresh : Nat → Int32} {t_colour : Nat → Int32} {t_table : Nat → Int32} {t_last : Nat → Int32} {t_one : Nat → Int32} {r0 : Int32} (C : CallFix p m c cX9_alike 5 s args wsX9_alike RX9) (hN : zN s) (hK : va_K D vwCl [(cI, .int)] s) (hA : ∀ q, s.heap.size ≤ q → A q) (hE : zEz p l e rmX9_alike s m args below meth c cX9_alike D A Q (zwX9 cI h_t h_t_now h_t_file h_t_fresh h_t_colour h_t_table h_t_last h_t_one t_wide t_high t_size t_at t_fault t_newWide t_newHigh t_colours t_now t_file t_fresh t_colour t_table t_last t_one) r0) {v0 : Int32} {v1 : Int32} {H : Heap} {locs : List Loc} {ls : Array Slot} : fX9_alike t_wide t_now v0 v1 = some r0 → va_P D vwCl (zwX9 cI h_t h_t_now h_t_file h_t_fresh h_t_colour h_t_table h_t_last h_t_one t_wide t_high t_size t_at t_fault t_newWide t_newHigh t_colours t_now t_file t_fresh t_colour t_table t_last t_one) H → va_D A (zwX9 cI h_t h_t_now h_t_file h_t_fresh h_t_colour h_t_table h_t_last h_t_one t_wide t_high t_size t_at t_fault t_newWide t_newHigh t_colours t_now t_file t_fresh t_colour t_table t_last t_one) → va_S A s.heap H locs → lv_has ls 5 [(0, .ref h_t), (1, .int v0), (2, .int v1)] → W p l e rmX9_alike s m args below meth c H locs 0 0 Q (F0 m 0 ls []) := by
  intro hf hP hD hS hl
  obtain ⟨hx, hb, hml, hown, hts⟩ := id C
  unfold fX9_alike at hf
  refine lv_iconst (v := 1) hx hb dX9_alike_0 (by decide) ?_
  refine lv_istore_n (lv' := [(3, .int 1), (0, .ref h_t), (1, .int v0), (2, .int v1)]) hx hb dX9_alike_1 rfl hl (by decide) rfl (fun ls hl => ?_)
  refine lv_iconst (v := 0) hx hb dX9_alike_2 (by decide) ?_
  refine lv_istore (lv' := [(4, .int 0), (3, .int 1), (0, .ref h_t), (1, .int v0), (2, .int v1)]) hx hb dX9_alike_3 hl (by decide) rfl (fun ls hl => ?_)
  exact wX9_alike_5 C hN hK hA hE 1000 hf hP hD hS (lv_sub hl [2, 3, 4, 1, 0] rfl)
set_option maxHeartbeats 4000000 in
set_option maxRecDepth 100000 in
theorem mX9_alike (l : Launch) (D : va_G) (cI : ClassId) (sz : Nat) (h_t h_t_now h_t_file h_t_fresh h_t_colour h_t_table h_t_last h_t_one : Nat) (t_wide : Int32) (t_high : Int32) (t_size : Int32) (t_at : Int32) (t_fault : Int32) (t_newWide : Int32) (t_newHigh : Int32) (t_colours : Int32) (t_now : Nat → Int32) (t_file : Nat → Int32) (t_fresh : Nat → Int32) (t_colour : Nat → Int32) (t_table : Nat → Int32) (t_last : Nat → Int32) (t_one : Nat → Int32) (v0 v1 : Int32) (r0 : Int32) (hf : fX9_alike t_wide t_now v0 v1 = some r0) : Met l yX9_alike wsX9_alike rmX9_alike (va_Pc [.ref h_t, .int v0, .int v1] (zP D [(cI, .int)] (zwX9 cI h_t h_t_now h_t_file h_t_fresh h_t_colour h_t_table h_t_last h_t_one t_wide t_high t_size t_at t_fault t_newWide t_newHigh t_colours t_now t_file t_fresh t_colour t_table t_last t_one) sz)) (zQi D (zwX9 cI h_t h_t_now h_t_file h_t_fresh h_t_colour h_t_table h_t_last h_t_one t_wide t_high t_size t_at t_fault t_newWide t_newHigh t_colours t_now t_file t_fresh t_colour t_table t_last t_one) sz r0 (zwX9 cI h_t h_t_now h_t_file h_t_fresh h_t_colour h_t_table h_t_last h_t_one t_wide t_high t_size t_at t_fault t_newWide t_newHigh t_colours t_now t_file t_fresh t_colour t_table t_last t_one)) 0 0 (va_A (zwX9 cI h_t h_t_now h_t_file h_t_fresh h_t_colour h_t_table h_t_last h_t_one t_wide t_high t_size t_at t_fault t_newWide t_newHigh t_colours t_now t_file t_fresh t_colour t_table t_last t_one) sz) := by
  refine Met.ofW (cc := cX9_alike) (maxL := 5) (ret := (some .boolean)) (by decide) rfl ?_
  intro p e s m args below meth c s₁ B hml hv
  obtain ⟨rfl, hsz, hP, hK, hD0, hN⟩ := hv
  subst hsz
  have C : CallFix p m c cX9_alike 5 s [.ref h_t, .int v0, .int v1].toArray wsX9_alike RX9 := ⟨B.exec, B.bytes, hml, findClass_of_methodNamed B.named, atoms_spec (ws := wsX9_alike) B.pre⟩
  have hl := lv_entry ([.ref h_t, .int v0, .int v1]) (n := 5) (Nat.le_of_ble_eq_true rfl)
  rw [lg_entry_eq]
  exact wX9_alike_0 (A := va_A (zwX9 cI h_t h_t_now h_t_file h_t_fresh h_t_colour h_t_table h_t_last h_t_one t_wide t_high t_size t_at t_fault t_newWide t_newHigh t_colours t_now t_file t_fresh t_colour t_table t_last t_one) s.heap.size) C hN hK (fun q h => Or.inr h) (fun H locs pc ls d hn hP hD hS => zend_z C.1 C.2.1 B.returns B.notSynchronized d hn hP hD hS) hf hP hD0.self va_S.rf hl
def rmX9_feed : Room := { frames := 0, cells := 0, slots := 0, locals := 0 }
theorem kX9_feed_20 {args : Array Value} {s : State} (h : ∀ w ∈ wsX9_feed, w.before args s = true) : (Cond.fieldLink RX9 20 "FourPictureFilesModel" "file" "[I").before args s = true := h _ (by decide +kernel)
theorem kX9_feed_57 {args : Array Value} {s : State} (h : ∀ w ∈ wsX9_feed, w.before args s = true) : (Cond.fieldLink RX9 57 "FourPictureFilesModel" "size" "I").before args s = true := h _ (by decide +kernel)
theorem iX9_feed_X9 : ∀ w ∈ u_ws RX9 TX9 15, w ∈ wsX9_feed := by decide +kernel
set_option maxHeartbeats 4000000 in
set_option maxRecDepth 100000 in
theorem wX9_feed_0 {p : Program} {l : Launch} {e : Env} {s : State} {m : MethodId} {args : Array Value} {below : List Frame} {meth : Method} {c : Code} {D : va_G} {A : Nat → Prop} {Q : State → Prop} {cI : ClassId} {h_t h_t_now h_t_file h_t_fresh h_t_colour h_t_table h_t_last h_t_one : Nat} {t_wide : Int32} {t_high : Int32} {t_at : Int32} {t_fault : Int32} {t_newWide : Int32} {t_newHigh : Int32} {t_colours : Int32} {t_now : Nat → Int32} {t_fresh : Nat → Int32} {t_colour : Nat → Int32} {t_table : Nat → Int32} {t_last : Nat → Int32} {t_one : Nat → Int32} {r0 : Int32} {zt_size : Int32} {zt_file : Nat → Int32} (C : CallFix p m c cX9_feed 2 s args wsX9_feed RX9) (hN : zN s) (hK : va_K D vwCl [(cI, .int)] s) (hA : ∀ q, s.heap.size ≤ q → A q) (hE : zEz p l e rmX9_feed s m args below meth c cX9_feed D A Q (zwX9 cI h_t h_t_now h_t_file h_t_fresh h_t_colour h_t_table h_t_last h_t_one t_wide t_high zt_size t_at t_fault t_newWide t_newHigh t_colours t_now zt_file t_fresh t_colour t_table t_last t_one) r0) {t_size : Int32} {t_file : Nat → Int32} {v0 : Int32} {H : Heap} {locs : List Loc} {ls : Array Slot} : fX9_feed t_size t_file v0 = some (r0, zt_size, zt_file) → va_P D vwCl (zwX9 cI h_t h_t_now h_t_file h_t_fresh h_t_colour h_t_table h_t_last h_t_one t_wide t_high t_size t_at t_fault t_newWide t_newHigh t_colours t_now t_file t_fresh t_colour t_table t_last t_one) H → va_D A (zwX9 cI h_t h_t_now h_t_file h_t_fresh h_t_colour h_t_table h_t_last h_t_one t_wide t_high t_size t_at t_fault t_newWide t_newHigh t_colours t_now t_file t_fresh t_colour t_table t_last t_one) → va_S A s.heap H locs → lv_has ls 2 [(0, .ref h_t), (1, .int v0)] → W p l e rmX9_feed s m args below meth c H locs 0 0 Q (F0 m 0 ls []) := by
  intro hf hP hD hS hl
  obtain ⟨hx, hb, hml, hown, hts⟩ := id C
  unfold fX9_feed at hf
  refine lv_iload_n hx hb dX9_feed_0 rfl (lv_at hl 1 rfl) ?_
  refine lv_if_lt (tgt := 21) hx hb dX9_feed_1 (by decide) (fun c1 => ?_) (fun c1 => ?_)
  · replace hf := zif_t hf c1
    refine lv_iconst (v := 0) hx hb dX9_feed_21 (by decide) ?_
    cases hf
    exact hE _ _ _ _ dX9_feed_22 rfl hP hD hS
  · replace hf := zif_f hf c1
    refine lv_iload_n hx hb dX9_feed_4 rfl (lv_at hl 1 rfl) ?_
    refine lv_sipush (v := 255) hx hb dX9_feed_5 (by decide) ?_
    refine lv_icmp_gt (tgt := 21) hx hb dX9_feed_8 (by decide) (fun c2 => ?_) (fun c2 => ?_)
    · replace hf := zif_t hf c2
      refine lv_iconst (v := 0) hx hb dX9_feed_21 (by decide) ?_
      cases hf
      exact hE _ _ _ _ dX9_feed_22 rfl hP hD hS
    · replace hf := zif_f hf c2
      refine lv_aload_n hx hb dX9_feed_11 rfl (lv_at hl 0 rfl) ?_
      refine va_get (D := D) (ci := 8) (v := .int t_size) (C := RX9) (T := TX9) (N := 15) hx hb hts iX9_feed_X9 hown hK hP 0 rfl rfl 3 (by decide) (kX9_feed_57 hts) (fun _ h9 => h9) rfl dX9_feed_12 ?_
      refine lv_sipush (v := 800) hx hb dX9_feed_15 (by decide) ?_
      refine lv_icmp_ne (tgt := 23) hx hb dX9_feed_18 (by decide) (fun c3 => ?_) (fun c3 => ?_)
      · replace hf := zif_f hf c3
        refine lv_aload_n hx hb dX9_feed_23 rfl (lv_at hl 0 rfl) ?_
        refine va_get (D := D) (ci := 8) (v := .ref h_t_file) (C := RX9) (T := TX9) (N := 15) hx hb hts iX9_feed_X9 hown hK hP 0 rfl rfl 4 (by decide) (kX9_feed_20 hts) (fun _ h9 => h9) rfl dX9_feed_24 ?_
        refine lv_aload_n hx hb dX9_feed_27 rfl (lv_at hl 0 rfl) ?_
        refine va_get (D := D) (ci := 8) (v := .int t_size) (C := RX9) (T := TX9) (N := 15) hx hb hts iX9_feed_X9 hown hK hP 0 rfl rfl 3 (by decide) (kX9_feed_57 hts) (fun _ h9 => h9) rfl dX9_feed_28 ?_
        refine lv_iload_n hx hb dX9_feed_31 rfl (lv_at hl 1 rfl) ?_
        obtain ⟨hg5, g4, eg4, hf⟩ := zwr_in hf
        refine va_iast hx hb hK hP hD hS 2 0 rfl rfl hg5 dX9_feed_32 (fun H locs hP hD hS => ?_)
        replace hP : va_P D vwCl (zwX9 cI h_t h_t_now h_t_file h_t_fresh h_t_colour h_t_table h_t_last h_t_one t_wide t_high t_size t_at t_fault t_newWide t_newHigh t_colours t_now g4 t_fresh t_colour t_table t_last t_one) H := by rw [← eg4]; exact hP
        replace hD : va_D A (zwX9 cI h_t h_t_now h_t_file h_t_fresh h_t_colour h_t_table h_t_last h_t_one t_wide t_high t_size t_at t_fault t_newWide t_newHigh t_colours t_now g4 t_fresh t_colour t_table t_last t_one) := by rw [← eg4]; exact hD
        clear eg4
        refine lv_aload_n hx hb dX9_feed_33 rfl (lv_at hl 0 rfl) ?_
        refine lv_dup hx hb dX9_feed_34 rfl ?_
        refine va_get (D := D) (ci := 8) (v := .int t_size) (C := RX9) (T := TX9) (N := 15) hx hb hts iX9_feed_X9 hown hK hP 0 rfl rfl 3 (by decide) (kX9_feed_57 hts) (fun _ h9 => h9) rfl dX9_feed_35 ?_
        refine lv_iconst (v := 1) hx hb dX9_feed_38 (by decide) ?_
        refine lv_iadd hx hb dX9_feed_39 ?_
        refine lv_topi (fun x6 ex6 => ?_)
        replace hf := zlet_in hf ex6
        clear ex6
        refine va_put (D := D) (ci := 8) (v := .int x6) (ty := .int) (C := RX9) (T := TX9) (N := 15) hx hb hts iX9_feed_X9 tyX9 tyX9_ok nmX9 hown hK hP hD hS 0 rfl rfl 3 (by decide) (kX9_feed_57 hts) (fun _ h9 => h9) rfl (by decide +kernel) rfl rfl (Nat.le_of_ble_eq_true rfl) dX9_feed_40 (fun H locs hP hD hS => ?_)
        replace hP : va_P D vwCl (zwX9 cI h_t h_t_now h_t_file h_t_fresh h_t_colour h_t_table h_t_last h_t_one t_wide t_high x6 t_at t_fault t_newWide t_newHigh t_colours t_now g4 t_fresh t_colour t_table t_last t_one) H := hP
        replace hD : va_D A (zwX9 cI h_t h_t_now h_t_file h_t_fresh h_t_colour h_t_table h_t_last h_t_one t_wide t_high x6 t_at t_fault t_newWide t_newHigh t_colours t_now g4 t_fresh t_colour t_table t_last t_one) := hD
        refine lv_iconst (v := 1) hx hb dX9_feed_43 (by decide) ?_
        cases hf
        exact hE _ _ _ _ dX9_feed_44 rfl hP hD hS
      · replace hf := zif_t hf c3
        refine lv_iconst (v := 0) hx hb dX9_feed_21 (by decide) ?_
        cases hf
        exact hE _ _ _ _ dX9_feed_22 rfl hP hD hS
set_option maxHeartbeats 4000000 in
set_option maxRecDepth 100000 in
theorem mX9_feed (l : Launch) (D : va_G) (cI : ClassId) (sz : Nat) (h_t h_t_now h_t_file h_t_fresh h_t_colour h_t_table h_t_last h_t_one : Nat) (t_wide : Int32) (t_high : Int32) (t_size : Int32) (t_at : Int32) (t_fault : Int32) (t_newWide : Int32) (t_newHigh : Int32) (t_colours : Int32) (t_now : Nat → Int32) (t_file : Nat → Int32) (t_fresh : Nat → Int32) (t_colour : Nat → Int32) (t_table : Nat → Int32) (t_last : Nat → Int32) (t_one : Nat → Int32) (v0 : Int32) (r0 : Int32) (zt_size : Int32) (zt_file : Nat → Int32) (hf : fX9_feed t_size t_file v0 = some (r0, zt_size, zt_file)) : Met l yX9_feed wsX9_feed rmX9_feed (va_Pc [.ref h_t, .int v0] (zP D [(cI, .int)] (zwX9 cI h_t h_t_now h_t_file h_t_fresh h_t_colour h_t_table h_t_last h_t_one t_wide t_high t_size t_at t_fault t_newWide t_newHigh t_colours t_now t_file t_fresh t_colour t_table t_last t_one) sz)) (zQi D (zwX9 cI h_t h_t_now h_t_file h_t_fresh h_t_colour h_t_table h_t_last h_t_one t_wide t_high t_size t_at t_fault t_newWide t_newHigh t_colours t_now t_file t_fresh t_colour t_table t_last t_one) sz r0 (zwX9 cI h_t h_t_now h_t_file h_t_fresh h_t_colour h_t_table h_t_last h_t_one t_wide t_high zt_size t_at t_fault t_newWide t_newHigh t_colours t_now zt_file t_fresh t_colour t_table t_last t_one)) 0 0 (va_A (zwX9 cI h_t h_t_now h_t_file h_t_fresh h_t_colour h_t_table h_t_last h_t_one t_wide t_high t_size t_at t_fault t_newWide t_newHigh t_colours t_now t_file t_fresh t_colour t_table t_last t_one) sz) := by
  refine Met.ofW (cc := cX9_feed) (maxL := 2) (ret := (some .boolean)) (by decide) rfl ?_
  intro p e s m args below meth c s₁ B hml hv
  obtain ⟨rfl, hsz, hP, hK, hD0, hN⟩ := hv
  subst hsz
  have C : CallFix p m c cX9_feed 2 s [.ref h_t, .int v0].toArray wsX9_feed RX9 := ⟨B.exec, B.bytes, hml, findClass_of_methodNamed B.named, atoms_spec (ws := wsX9_feed) B.pre⟩
  have hl := lv_entry ([.ref h_t, .int v0]) (n := 2) (Nat.le_of_ble_eq_true rfl)
  rw [lg_entry_eq]
  exact wX9_feed_0 (A := va_A (zwX9 cI h_t h_t_now h_t_file h_t_fresh h_t_colour h_t_table h_t_last h_t_one t_wide t_high t_size t_at t_fault t_newWide t_newHigh t_colours t_now t_file t_fresh t_colour t_table t_last t_one) s.heap.size) C hN hK (fun q h => Or.inr h) (fun H locs pc ls d hn hP hD hS => zend_z C.1 C.2.1 B.returns B.notSynchronized d hn hP hD hS) hf hP hD0.self va_S.rf hl
def rmX9_cut : Room := { frames := 0, cells := 0, slots := 0, locals := 0 }
theorem kX9_cut_57 {args : Array Value} {s : State} (h : ∀ w ∈ wsX9_cut, w.before args s = true) : (Cond.fieldLink RX9 57 "FourPictureFilesModel" "size" "I").before args s = true := h _ (by decide +kernel)
theorem iX9_cut_X9 : ∀ w ∈ u_ws RX9 TX9 15, w ∈ wsX9_cut := by decide +kernel
set_option maxHeartbeats 4000000 in
set_option maxRecDepth 100000 in
theorem wX9_cut_0 {p : Program} {l : Launch} {e : Env} {s : State} {m : MethodId} {args : Array Value} {below : List Frame} {meth : Method} {c : Code} {D : va_G} {A : Nat → Prop} {Q : State → Prop} {cI : ClassId} {h_t h_t_now h_t_file h_t_fresh h_t_colour h_t_table h_t_last h_t_one : Nat} {t_wide : Int32} {t_high : Int32} {t_at : Int32} {t_fault : Int32} {t_newWide : Int32} {t_newHigh : Int32} {t_colours : Int32} {t_now : Nat → Int32} {t_file : Nat → Int32} {t_fresh : Nat → Int32} {t_colour : Nat → Int32} {t_table : Nat → Int32} {t_last : Nat → Int32} {t_one : Nat → Int32} {r0 : Int32} {zt_size : Int32} (C : CallFix p m c cX9_cut 2 s args wsX9_cut RX9) (hN : zN s) (hK : va_K D vwCl [(cI, .int)] s) (hA : ∀ q, s.heap.size ≤ q → A q) (hE : zEz p l e rmX9_cut s m args below meth c cX9_cut D A Q (zwX9 cI h_t h_t_now h_t_file h_t_fresh h_t_colour h_t_table h_t_last h_t_one t_wide t_high zt_size t_at t_fault t_newWide t_newHigh t_colours t_now t_file t_fresh t_colour t_table t_last t_one) r0) {t_size : Int32} {v0 : Int32} {H : Heap} {locs : List Loc} {ls : Array Slot} : fX9_cut t_size v0 = some (r0, zt_size) → va_P D vwCl (zwX9 cI h_t h_t_now h_t_file h_t_fresh h_t_colour h_t_table h_t_last h_t_one t_wide t_high t_size t_at t_fault t_newWide t_newHigh t_colours t_now t_file t_fresh t_colour t_table t_last t_one) H → va_D A (zwX9 cI h_t h_t_now h_t_file h_t_fresh h_t_colour h_t_table h_t_last h_t_one t_wide t_high t_size t_at t_fault t_newWide t_newHigh t_colours t_now t_file t_fresh t_colour t_table t_last t_one) → va_S A s.heap H locs → lv_has ls 2 [(0, .ref h_t), (1, .int v0)] → W p l e rmX9_cut s m args below meth c H locs 0 0 Q (F0 m 0 ls []) := by
  intro hf hP hD hS hl
  obtain ⟨hx, hb, hml, hown, hts⟩ := id C
  unfold fX9_cut at hf
  refine lv_iload_n hx hb dX9_cut_0 rfl (lv_at hl 1 rfl) ?_
  refine lv_if_lt (tgt := 12) hx hb dX9_cut_1 (by decide) (fun c1 => ?_) (fun c1 => ?_)
  · replace hf := zif_t hf c1
    refine lv_iconst (v := 0) hx hb dX9_cut_12 (by decide) ?_
    cases hf
    exact hE _ _ _ _ dX9_cut_13 rfl hP hD hS
  · replace hf := zif_f hf c1
    refine lv_iload_n hx hb dX9_cut_4 rfl (lv_at hl 1 rfl) ?_
    refine lv_aload_n hx hb dX9_cut_5 rfl (lv_at hl 0 rfl) ?_
    refine va_get (D := D) (ci := 8) (v := .int t_size) (C := RX9) (T := TX9) (N := 15) hx hb hts iX9_cut_X9 hown hK hP 0 rfl rfl 3 (by decide) (kX9_cut_57 hts) (fun _ h9 => h9) rfl dX9_cut_6 ?_
    refine lv_icmp_le (tgt := 14) hx hb dX9_cut_9 (by decide) (fun c2 => ?_) (fun c2 => ?_)
    · replace hf := zif_t hf c2
      refine lv_aload_n hx hb dX9_cut_14 rfl (lv_at hl 0 rfl) ?_
      refine lv_iload_n hx hb dX9_cut_15 rfl (lv_at hl 1 rfl) ?_
      refine va_put (D := D) (ci := 8) (v := .int v0) (ty := .int) (C := RX9) (T := TX9) (N := 15) hx hb hts iX9_cut_X9 tyX9 tyX9_ok nmX9 hown hK hP hD hS 0 rfl rfl 3 (by decide) (kX9_cut_57 hts) (fun _ h9 => h9) rfl (by decide +kernel) rfl rfl (Nat.le_of_ble_eq_true rfl) dX9_cut_16 (fun H locs hP hD hS => ?_)
      replace hP : va_P D vwCl (zwX9 cI h_t h_t_now h_t_file h_t_fresh h_t_colour h_t_table h_t_last h_t_one t_wide t_high v0 t_at t_fault t_newWide t_newHigh t_colours t_now t_file t_fresh t_colour t_table t_last t_one) H := hP
      replace hD : va_D A (zwX9 cI h_t h_t_now h_t_file h_t_fresh h_t_colour h_t_table h_t_last h_t_one t_wide t_high v0 t_at t_fault t_newWide t_newHigh t_colours t_now t_file t_fresh t_colour t_table t_last t_one) := hD
      refine lv_iconst (v := 1) hx hb dX9_cut_19 (by decide) ?_
      cases hf
      exact hE _ _ _ _ dX9_cut_20 rfl hP hD hS
    · replace hf := zif_f hf c2
      refine lv_iconst (v := 0) hx hb dX9_cut_12 (by decide) ?_
      cases hf
      exact hE _ _ _ _ dX9_cut_13 rfl hP hD hS
set_option maxHeartbeats 4000000 in
set_option maxRecDepth 100000 in
theorem mX9_cut (l : Launch) (D : va_G) (cI : ClassId) (sz : Nat) (h_t h_t_now h_t_file h_t_fresh h_t_colour h_t_table h_t_last h_t_one : Nat) (t_wide : Int32) (t_high : Int32) (t_size : Int32) (t_at : Int32) (t_fault : Int32) (t_newWide : Int32) (t_newHigh : Int32) (t_colours : Int32) (t_now : Nat → Int32) (t_file : Nat → Int32) (t_fresh : Nat → Int32) (t_colour : Nat → Int32) (t_table : Nat → Int32) (t_last : Nat → Int32) (t_one : Nat → Int32) (v0 : Int32) (r0 : Int32) (zt_size : Int32) (hf : fX9_cut t_size v0 = some (r0, zt_size)) : Met l yX9_cut wsX9_cut rmX9_cut (va_Pc [.ref h_t, .int v0] (zP D [(cI, .int)] (zwX9 cI h_t h_t_now h_t_file h_t_fresh h_t_colour h_t_table h_t_last h_t_one t_wide t_high t_size t_at t_fault t_newWide t_newHigh t_colours t_now t_file t_fresh t_colour t_table t_last t_one) sz)) (zQi D (zwX9 cI h_t h_t_now h_t_file h_t_fresh h_t_colour h_t_table h_t_last h_t_one t_wide t_high t_size t_at t_fault t_newWide t_newHigh t_colours t_now t_file t_fresh t_colour t_table t_last t_one) sz r0 (zwX9 cI h_t h_t_now h_t_file h_t_fresh h_t_colour h_t_table h_t_last h_t_one t_wide t_high zt_size t_at t_fault t_newWide t_newHigh t_colours t_now t_file t_fresh t_colour t_table t_last t_one)) 0 0 (va_A (zwX9 cI h_t h_t_now h_t_file h_t_fresh h_t_colour h_t_table h_t_last h_t_one t_wide t_high t_size t_at t_fault t_newWide t_newHigh t_colours t_now t_file t_fresh t_colour t_table t_last t_one) sz) := by
  refine Met.ofW (cc := cX9_cut) (maxL := 2) (ret := (some .boolean)) (by decide) rfl ?_
  intro p e s m args below meth c s₁ B hml hv
  obtain ⟨rfl, hsz, hP, hK, hD0, hN⟩ := hv
  subst hsz
  have C : CallFix p m c cX9_cut 2 s [.ref h_t, .int v0].toArray wsX9_cut RX9 := ⟨B.exec, B.bytes, hml, findClass_of_methodNamed B.named, atoms_spec (ws := wsX9_cut) B.pre⟩
  have hl := lv_entry ([.ref h_t, .int v0]) (n := 2) (Nat.le_of_ble_eq_true rfl)
  rw [lg_entry_eq]
  exact wX9_cut_0 (A := va_A (zwX9 cI h_t h_t_now h_t_file h_t_fresh h_t_colour h_t_table h_t_last h_t_one t_wide t_high t_size t_at t_fault t_newWide t_newHigh t_colours t_now t_file t_fresh t_colour t_table t_last t_one) s.heap.size) C hN hK (fun q h => Or.inr h) (fun H locs pc ls d hn hP hD hS => zend_z C.1 C.2.1 B.returns B.notSynchronized d hn hP hD hS) hf hP hD0.self va_S.rf hl
def rmX9_alter : Room := { frames := 0, cells := 0, slots := 0, locals := 0 }
theorem kX9_alter_20 {args : Array Value} {s : State} (h : ∀ w ∈ wsX9_alter, w.before args s = true) : (Cond.fieldLink RX9 20 "FourPictureFilesModel" "file" "[I").before args s = true := h _ (by decide +kernel)
theorem kX9_alter_57 {args : Array Value} {s : State} (h : ∀ w ∈ wsX9_alter, w.before args s = true) : (Cond.fieldLink RX9 57 "FourPictureFilesModel" "size" "I").before args s = true := h _ (by decide +kernel)
theorem iX9_alter_X9 : ∀ w ∈ u_ws RX9 TX9 15, w ∈ wsX9_alter := by decide +kernel
set_option maxHeartbeats 4000000 in
set_option maxRecDepth 100000 in
theorem wX9_alter_0 {p : Program} {l : Launch} {e : Env} {s : State} {m : MethodId} {args : Array Value} {below : List Frame} {meth : Method} {c : Code} {D : va_G} {A : Nat → Prop} {Q : State → Prop} {cI : ClassId} {h_t h_t_now h_t_file h_t_fresh h_t_colour h_t_table h_t_last h_t_one : Nat} {t_wide : Int32} {t_high : Int32} {t_size : Int32} {t_at : Int32} {t_fault : Int32} {t_newWide : Int32} {t_newHigh : Int32} {t_colours : Int32} {t_now : Nat → Int32} {t_fresh : Nat → Int32} {t_colour : Nat → Int32} {t_table : Nat → Int32} {t_last : Nat → Int32} {t_one : Nat → Int32} {r0 : Int32} {zt_file : Nat → Int32} (C : CallFix p m c cX9_alter 3 s args wsX9_alter RX9) (hN : zN s) (hK : va_K D vwCl [(cI, .int)] s) (hA : ∀ q, s.heap.size ≤ q → A q) (hE : zEz p l e rmX9_alter s m args below meth c cX9_alter D A Q (zwX9 cI h_t h_t_now h_t_file h_t_fresh h_t_colour h_t_table h_t_last h_t_one t_wide t_high t_size t_at t_fault t_newWide t_newHigh t_colours t_now zt_file t_fresh t_colour t_table t_last t_one) r0) {t_file : Nat → Int32} {v0 : Int32} {v1 : Int32} {H : Heap} {locs : List Loc} {ls : Array Slot} : fX9_alter t_size t_file v0 v1 = some (r0, zt_file) → va_P D vwCl (zwX9 cI h_t h_t_now h_t_file h_t_fresh h_t_colour h_t_table h_t_last h_t_one t_wide t_high t_size t_at t_fault t_newWide t_newHigh t_colours t_now t_file t_fresh t_colour t_table t_last t_one) H → va_D A (zwX9 cI h_t h_t_now h_t_file h_t_fresh h_t_colour h_t_table h_t_last h_t_one t_wide t_high t_size t_at t_fault t_newWide t_newHigh t_colours t_now t_file t_fresh t_colour t_table t_last t_one) → va_S A s.heap H locs → lv_has ls 3 [(0, .ref h_t), (1, .int v0), (2, .int v1)] → W p l e rmX9_alter s m args below meth c H locs 0 0 Q (F0 m 0 ls []) := by
  intro hf hP hD hS hl
  obtain ⟨hx, hb, hml, hown, hts⟩ := id C
  unfold fX9_alter at hf
  refine lv_iload_n hx hb dX9_alter_0 rfl (lv_at hl 1 rfl) ?_
  refine lv_if_lt (tgt := 23) hx hb dX9_alter_1 (by decide) (fun c1 => ?_) (fun c1 => ?_)
  · replace hf := zif_t hf c1
    refine lv_iconst (v := 0) hx hb dX9_alter_23 (by decide) ?_
    cases hf
    exact hE _ _ _ _ dX9_alter_24 rfl hP hD hS
  · replace hf := zif_f hf c1
    refine lv_iload_n hx hb dX9_alter_4 rfl (lv_at hl 1 rfl) ?_
    refine lv_aload_n hx hb dX9_alter_5 rfl (lv_at hl 0 rfl) ?_
    refine va_get (D := D) (ci := 8) (v := .int t_size) (C := RX9) (T := TX9) (N := 15) hx hb hts iX9_alter_X9 hown hK hP 0 rfl rfl 3 (by decide) (kX9_alter_57 hts) (fun _ h9 => h9) rfl dX9_alter_6 ?_
    refine lv_icmp_ge (tgt := 23) hx hb dX9_alter_9 (by decide) (fun c2 => ?_) (fun c2 => ?_)
    · replace hf := zif_t hf c2
      refine lv_iconst (v := 0) hx hb dX9_alter_23 (by decide) ?_
      cases hf
      exact hE _ _ _ _ dX9_alter_24 rfl hP hD hS
    · replace hf := zif_f hf c2
      refine lv_iload_n hx hb dX9_alter_12 rfl (lv_at hl 2 rfl) ?_
      refine lv_if_lt (tgt := 23) hx hb dX9_alter_13 (by decide) (fun c3 => ?_) (fun c3 => ?_)
      · replace hf := zif_t hf c3
        refine lv_iconst (v := 0) hx hb dX9_alter_23 (by decide) ?_
        cases hf
        exact hE _ _ _ _ dX9_alter_24 rfl hP hD hS
      · replace hf := zif_f hf c3
        refine lv_iload_n hx hb dX9_alter_16 rfl (lv_at hl 2 rfl) ?_
        refine lv_sipush (v := 255) hx hb dX9_alter_17 (by decide) ?_
        refine lv_icmp_le (tgt := 25) hx hb dX9_alter_20 (by decide) (fun c4 => ?_) (fun c4 => ?_)
        · replace hf := zif_t hf c4
          refine lv_aload_n hx hb dX9_alter_25 rfl (lv_at hl 0 rfl) ?_
          refine va_get (D := D) (ci := 8) (v := .ref h_t_file) (C := RX9) (T := TX9) (N := 15) hx hb hts iX9_alter_X9 hown hK hP 0 rfl rfl 4 (by decide) (kX9_alter_20 hts) (fun _ h9 => h9) rfl dX9_alter_26 ?_
          refine lv_iload_n hx hb dX9_alter_29 rfl (lv_at hl 1 rfl) ?_
          refine lv_iload_n hx hb dX9_alter_30 rfl (lv_at hl 2 rfl) ?_
          obtain ⟨hg6, g5, eg5, hf⟩ := zwr_in hf
          refine va_iast hx hb hK hP hD hS 2 0 rfl rfl hg6 dX9_alter_31 (fun H locs hP hD hS => ?_)
          replace hP : va_P D vwCl (zwX9 cI h_t h_t_now h_t_file h_t_fresh h_t_colour h_t_table h_t_last h_t_one t_wide t_high t_size t_at t_fault t_newWide t_newHigh t_colours t_now g5 t_fresh t_colour t_table t_last t_one) H := by rw [← eg5]; exact hP
          replace hD : va_D A (zwX9 cI h_t h_t_now h_t_file h_t_fresh h_t_colour h_t_table h_t_last h_t_one t_wide t_high t_size t_at t_fault t_newWide t_newHigh t_colours t_now g5 t_fresh t_colour t_table t_last t_one) := by rw [← eg5]; exact hD
          clear eg5
          refine lv_iconst (v := 1) hx hb dX9_alter_32 (by decide) ?_
          cases hf
          exact hE _ _ _ _ dX9_alter_33 rfl hP hD hS
        · replace hf := zif_f hf c4
          refine lv_iconst (v := 0) hx hb dX9_alter_23 (by decide) ?_
          cases hf
          exact hE _ _ _ _ dX9_alter_24 rfl hP hD hS
set_option maxHeartbeats 4000000 in
set_option maxRecDepth 100000 in
theorem mX9_alter (l : Launch) (D : va_G) (cI : ClassId) (sz : Nat) (h_t h_t_now h_t_file h_t_fresh h_t_colour h_t_table h_t_last h_t_one : Nat) (t_wide : Int32) (t_high : Int32) (t_size : Int32) (t_at : Int32) (t_fault : Int32) (t_newWide : Int32) (t_newHigh : Int32) (t_colours : Int32) (t_now : Nat → Int32) (t_file : Nat → Int32) (t_fresh : Nat → Int32) (t_colour : Nat → Int32) (t_table : Nat → Int32) (t_last : Nat → Int32) (t_one : Nat → Int32) (v0 v1 : Int32) (r0 : Int32) (zt_file : Nat → Int32) (hf : fX9_alter t_size t_file v0 v1 = some (r0, zt_file)) : Met l yX9_alter wsX9_alter rmX9_alter (va_Pc [.ref h_t, .int v0, .int v1] (zP D [(cI, .int)] (zwX9 cI h_t h_t_now h_t_file h_t_fresh h_t_colour h_t_table h_t_last h_t_one t_wide t_high t_size t_at t_fault t_newWide t_newHigh t_colours t_now t_file t_fresh t_colour t_table t_last t_one) sz)) (zQi D (zwX9 cI h_t h_t_now h_t_file h_t_fresh h_t_colour h_t_table h_t_last h_t_one t_wide t_high t_size t_at t_fault t_newWide t_newHigh t_colours t_now t_file t_fresh t_colour t_table t_last t_one) sz r0 (zwX9 cI h_t h_t_now h_t_file h_t_fresh h_t_colour h_t_table h_t_last h_t_one t_wide t_high t_size t_at t_fault t_newWide t_newHigh t_colours t_now zt_file t_fresh t_colour t_table t_last t_one)) 0 0 (va_A (zwX9 cI h_t h_t_now h_t_file h_t_fresh h_t_colour h_t_table h_t_last h_t_one t_wide t_high t_size t_at t_fault t_newWide t_newHigh t_colours t_now t_file t_fresh t_colour t_table t_last t_one) sz) := by
  refine Met.ofW (cc := cX9_alter) (maxL := 3) (ret := (some .boolean)) (by decide) rfl ?_
  intro p e s m args below meth c s₁ B hml hv
  obtain ⟨rfl, hsz, hP, hK, hD0, hN⟩ := hv
  subst hsz
  have C : CallFix p m c cX9_alter 3 s [.ref h_t, .int v0, .int v1].toArray wsX9_alter RX9 := ⟨B.exec, B.bytes, hml, findClass_of_methodNamed B.named, atoms_spec (ws := wsX9_alter) B.pre⟩
  have hl := lv_entry ([.ref h_t, .int v0, .int v1]) (n := 3) (Nat.le_of_ble_eq_true rfl)
  rw [lg_entry_eq]
  exact wX9_alter_0 (A := va_A (zwX9 cI h_t h_t_now h_t_file h_t_fresh h_t_colour h_t_table h_t_last h_t_one t_wide t_high t_size t_at t_fault t_newWide t_newHigh t_colours t_now t_file t_fresh t_colour t_table t_last t_one) s.heap.size) C hN hK (fun q h => Or.inr h) (fun H locs pc ls d hn hP hD hS => zend_z C.1 C.2.1 B.returns B.notSynchronized d hn hP hD hS) hf hP hD0.self va_S.rf hl
def rmX9_length : Room := { frames := 0, cells := 0, slots := 0, locals := 0 }
theorem kX9_length_57 {args : Array Value} {s : State} (h : ∀ w ∈ wsX9_length, w.before args s = true) : (Cond.fieldLink RX9 57 "FourPictureFilesModel" "size" "I").before args s = true := h _ (by decide +kernel)
theorem iX9_length_X9 : ∀ w ∈ u_ws RX9 TX9 15, w ∈ wsX9_length := by decide +kernel
set_option maxHeartbeats 4000000 in
set_option maxRecDepth 100000 in
theorem wX9_length_0 {p : Program} {l : Launch} {e : Env} {s : State} {m : MethodId} {args : Array Value} {below : List Frame} {meth : Method} {c : Code} {D : va_G} {A : Nat → Prop} {Q : State → Prop} {cI : ClassId} {h_t h_t_now h_t_file h_t_fresh h_t_colour h_t_table h_t_last h_t_one : Nat} {t_wide : Int32} {t_high : Int32} {t_size : Int32} {t_at : Int32} {t_fault : Int32} {t_newWide : Int32} {t_newHigh : Int32} {t_colours : Int32} {t_now : Nat → Int32} {t_file : Nat → Int32} {t_fresh : Nat → Int32} {t_colour : Nat → Int32} {t_table : Nat → Int32} {t_last : Nat → Int32} {t_one : Nat → Int32} {r0 : Int32} (C : CallFix p m c cX9_length 1 s args wsX9_length RX9) (hN : zN s) (hK : va_K D vwCl [(cI, .int)] s) (hA : ∀ q, s.heap.size ≤ q → A q) (hE : zEi p l e rmX9_length s m args below meth c cX9_length D A Q (zwX9 cI h_t h_t_now h_t_file h_t_fresh h_t_colour h_t_table h_t_last h_t_one t_wide t_high t_size t_at t_fault t_newWide t_newHigh t_colours t_now t_file t_fresh t_colour t_table t_last t_one) r0) {H : Heap} {locs : List Loc} {ls : Array Slot} : fX9_length t_size = some r0 → va_P D vwCl (zwX9 cI h_t h_t_now h_t_file h_t_fresh h_t_colour h_t_table h_t_last h_t_one t_wide t_high t_size t_at t_fault t_newWide t_newHigh t_colours t_now t_file t_fresh t_colour t_table t_last t_one) H → va_D A (zwX9 cI h_t h_t_now h_t_file h_t_fresh h_t_colour h_t_table h_t_last h_t_one t_wide t_high t_size t_at t_fault t_newWide t_newHigh t_colours t_now t_file t_fresh t_colour t_table t_last t_one) → va_S A s.heap H locs → lv_has ls 1 [(0, .ref h_t)] → W p l e rmX9_length s m args below meth c H locs 0 0 Q (F0 m 0 ls []) := by
  intro hf hP hD hS hl
  obtain ⟨hx, hb, hml, hown, hts⟩ := id C
  unfold fX9_length at hf
  refine lv_aload_n hx hb dX9_length_0 rfl (lv_at hl 0 rfl) ?_
  refine va_get (D := D) (ci := 8) (v := .int t_size) (C := RX9) (T := TX9) (N := 15) hx hb hts iX9_length_X9 hown hK hP 0 rfl rfl 3 (by decide) (kX9_length_57 hts) (fun _ h9 => h9) rfl dX9_length_1 ?_
  cases hf
  exact hE _ _ _ _ dX9_length_4 hP hD hS
set_option maxHeartbeats 4000000 in
set_option maxRecDepth 100000 in
theorem mX9_length (l : Launch) (D : va_G) (cI : ClassId) (sz : Nat) (h_t h_t_now h_t_file h_t_fresh h_t_colour h_t_table h_t_last h_t_one : Nat) (t_wide : Int32) (t_high : Int32) (t_size : Int32) (t_at : Int32) (t_fault : Int32) (t_newWide : Int32) (t_newHigh : Int32) (t_colours : Int32) (t_now : Nat → Int32) (t_file : Nat → Int32) (t_fresh : Nat → Int32) (t_colour : Nat → Int32) (t_table : Nat → Int32) (t_last : Nat → Int32) (t_one : Nat → Int32) (r0 : Int32) (hf : fX9_length t_size = some r0) : Met l yX9_length wsX9_length rmX9_length (va_Pc [.ref h_t] (zP D [(cI, .int)] (zwX9 cI h_t h_t_now h_t_file h_t_fresh h_t_colour h_t_table h_t_last h_t_one t_wide t_high t_size t_at t_fault t_newWide t_newHigh t_colours t_now t_file t_fresh t_colour t_table t_last t_one) sz)) (zQi D (zwX9 cI h_t h_t_now h_t_file h_t_fresh h_t_colour h_t_table h_t_last h_t_one t_wide t_high t_size t_at t_fault t_newWide t_newHigh t_colours t_now t_file t_fresh t_colour t_table t_last t_one) sz r0 (zwX9 cI h_t h_t_now h_t_file h_t_fresh h_t_colour h_t_table h_t_last h_t_one t_wide t_high t_size t_at t_fault t_newWide t_newHigh t_colours t_now t_file t_fresh t_colour t_table t_last t_one)) 0 0 (va_A (zwX9 cI h_t h_t_now h_t_file h_t_fresh h_t_colour h_t_table h_t_last h_t_one t_wide t_high t_size t_at t_fault t_newWide t_newHigh t_colours t_now t_file t_fresh t_colour t_table t_last t_one) sz) := by
  refine Met.ofW (cc := cX9_length) (maxL := 1) (ret := (some .int)) (by decide) rfl ?_
  intro p e s m args below meth c s₁ B hml hv
  obtain ⟨rfl, hsz, hP, hK, hD0, hN⟩ := hv
  subst hsz
  have C : CallFix p m c cX9_length 1 s [.ref h_t].toArray wsX9_length RX9 := ⟨B.exec, B.bytes, hml, findClass_of_methodNamed B.named, atoms_spec (ws := wsX9_length) B.pre⟩
  have hl := lv_entry ([.ref h_t]) (n := 1) (Nat.le_of_ble_eq_true rfl)
  rw [lg_entry_eq]
  exact wX9_length_0 (A := va_A (zwX9 cI h_t h_t_now h_t_file h_t_fresh h_t_colour h_t_table h_t_last h_t_one t_wide t_high t_size t_at t_fault t_newWide t_newHigh t_colours t_now t_file t_fresh t_colour t_table t_last t_one) s.heap.size) C hN hK (fun q h => Or.inr h) (fun H locs pc ls d hP hD hS => zend_i C.1 C.2.1 B.returns B.notSynchronized d hP hD hS) hf hP hD0.self va_S.rf hl
def rmX9_byteAt : Room := { frames := 0, cells := 0, slots := 0, locals := 0 }
theorem kX9_byteAt_20 {args : Array Value} {s : State} (h : ∀ w ∈ wsX9_byteAt, w.before args s = true) : (Cond.fieldLink RX9 20 "FourPictureFilesModel" "file" "[I").before args s = true := h _ (by decide +kernel)
theorem kX9_byteAt_57 {args : Array Value} {s : State} (h : ∀ w ∈ wsX9_byteAt, w.before args s = true) : (Cond.fieldLink RX9 57 "FourPictureFilesModel" "size" "I").before args s = true := h _ (by decide +kernel)
theorem iX9_byteAt_X9 : ∀ w ∈ u_ws RX9 TX9 15, w ∈ wsX9_byteAt := by decide +kernel
set_option maxHeartbeats 4000000 in
set_option maxRecDepth 100000 in
theorem wX9_byteAt_12 {p : Program} {l : Launch} {e : Env} {s : State} {m : MethodId} {args : Array Value} {below : List Frame} {meth : Method} {c : Code} {D : va_G} {A : Nat → Prop} {Q : State → Prop} {cI : ClassId} {h_t h_t_now h_t_file h_t_fresh h_t_colour h_t_table h_t_last h_t_one : Nat} {t_wide : Int32} {t_high : Int32} {t_size : Int32} {t_at : Int32} {t_fault : Int32} {t_newWide : Int32} {t_newHigh : Int32} {t_colours : Int32} {t_now : Nat → Int32} {t_file : Nat → Int32} {t_fresh : Nat → Int32} {t_colour : Nat → Int32} {t_table : Nat → Int32} {t_last : Nat → Int32} {t_one : Nat → Int32} {r0 : Int32} (C : CallFix p m c cX9_byteAt 2 s args wsX9_byteAt RX9) (hN : zN s) (hK : va_K D vwCl [(cI, .int)] s) (hA : ∀ q, s.heap.size ≤ q → A q) (hE : zEi p l e rmX9_byteAt s m args below meth c cX9_byteAt D A Q (zwX9 cI h_t h_t_now h_t_file h_t_fresh h_t_colour h_t_table h_t_last h_t_one t_wide t_high t_size t_at t_fault t_newWide t_newHigh t_colours t_now t_file t_fresh t_colour t_table t_last t_one) r0) {l1 : Int32} {H : Heap} {locs : List Loc} {ls : Array Slot} : fX9_byteAt_12 = some r0 → va_P D vwCl (zwX9 cI h_t h_t_now h_t_file h_t_fresh h_t_colour h_t_table h_t_last h_t_one t_wide t_high t_size t_at t_fault t_newWide t_newHigh t_colours t_now t_file t_fresh t_colour t_table t_last t_one) H → va_D A (zwX9 cI h_t h_t_now h_t_file h_t_fresh h_t_colour h_t_table h_t_last h_t_one t_wide t_high t_size t_at t_fault t_newWide t_newHigh t_colours t_now t_file t_fresh t_colour t_table t_last t_one) → va_S A s.heap H locs → lv_has ls 2 [(0, .ref h_t), (1, .int l1)] → W p l e rmX9_byteAt s m args below meth c H locs 0 0 Q (F0 m 12 ls []) := by
  intro hf hP hD hS hl
  obtain ⟨hx, hb, hml, hown, hts⟩ := id C
  unfold fX9_byteAt_12 at hf
  refine lv_iconst (v := (-1)) hx hb dX9_byteAt_12 (by decide) ?_
  refine lv_goto (tgt := 22) hx hb dX9_byteAt_13 (by decide) ?_
  cases hf
  exact hE _ _ _ _ dX9_byteAt_22 hP hD hS
set_option maxHeartbeats 4000000 in
set_option maxRecDepth 100000 in
theorem wX9_byteAt_0 {p : Program} {l : Launch} {e : Env} {s : State} {m : MethodId} {args : Array Value} {below : List Frame} {meth : Method} {c : Code} {D : va_G} {A : Nat → Prop} {Q : State → Prop} {cI : ClassId} {h_t h_t_now h_t_file h_t_fresh h_t_colour h_t_table h_t_last h_t_one : Nat} {t_wide : Int32} {t_high : Int32} {t_size : Int32} {t_at : Int32} {t_fault : Int32} {t_newWide : Int32} {t_newHigh : Int32} {t_colours : Int32} {t_now : Nat → Int32} {t_file : Nat → Int32} {t_fresh : Nat → Int32} {t_colour : Nat → Int32} {t_table : Nat → Int32} {t_last : Nat → Int32} {t_one : Nat → Int32} {r0 : Int32} (C : CallFix p m c cX9_byteAt 2 s args wsX9_byteAt RX9) (hN : zN s) (hK : va_K D vwCl [(cI, .int)] s) (hA : ∀ q, s.heap.size ≤ q → A q) (hE : zEi p l e rmX9_byteAt s m args below meth c cX9_byteAt D A Q (zwX9 cI h_t h_t_now h_t_file h_t_fresh h_t_colour h_t_table h_t_last h_t_one t_wide t_high t_size t_at t_fault t_newWide t_newHigh t_colours t_now t_file t_fresh t_colour t_table t_last t_one) r0) {v0 : Int32} {H : Heap} {locs : List Loc} {ls : Array Slot} : fX9_byteAt t_size t_file v0 = some r0 → va_P D vwCl (zwX9 cI h_t h_t_now h_t_file h_t_fresh h_t_colour h_t_table h_t_last h_t_one t_wide t_high t_size t_at t_fault t_newWide t_newHigh t_colours t_now t_file t_fresh t_colour t_table t_last t_one) H → va_D A (zwX9 cI h_t h_t_now h_t_file h_t_fresh h_t_colour h_t_table h_t_last h_t_one t_wide t_high t_size t_at t_fault t_newWide t_newHigh t_colours t_now t_file t_fresh t_colour t_table t_last t_one) → va_S A s.heap H locs → lv_has ls 2 [(0, .ref h_t), (1, .int v0)] → W p l e rmX9_byteAt s m args below meth c H locs 0 0 Q (F0 m 0 ls []) := by
  intro hf hP hD hS hl
  obtain ⟨hx, hb, hml, hown, hts⟩ := id C
  unfold fX9_byteAt at hf
  refine lv_iload_n hx hb dX9_byteAt_0 rfl (lv_at hl 1 rfl) ?_
  refine lv_if_lt (tgt := 12) hx hb dX9_byteAt_1 (by decide) (fun c1 => ?_) (fun c1 => ?_)
  · replace hf := zif_t hf c1
    exact wX9_byteAt_12 C hN hK hA hE hf hP hD hS (lv_sub hl [0, 1] rfl)
  · replace hf := zif_f hf c1
    refine lv_iload_n hx hb dX9_byteAt_4 rfl (lv_at hl 1 rfl) ?_
    refine lv_aload_n hx hb dX9_byteAt_5 rfl (lv_at hl 0 rfl) ?_
    refine va_get (D := D) (ci := 8) (v := .int t_size) (C := RX9) (T := TX9) (N := 15) hx hb hts iX9_byteAt_X9 hown hK hP 0 rfl rfl 3 (by decide) (kX9_byteAt_57 hts) (fun _ h9 => h9) rfl dX9_byteAt_6 ?_
    refine lv_icmp_lt (tgt := 16) hx hb dX9_byteAt_9 (by decide) (fun c2 => ?_) (fun c2 => ?_)
    · replace hf := zif_t hf c2
      refine lv_aload_n hx hb dX9_byteAt_16 rfl (lv_at hl 0 rfl) ?_
      refine va_get (D := D) (ci := 8) (v := .ref h_t_file) (C := RX9) (T := TX9) (N := 15) hx hb hts iX9_byteAt_X9 hown hK hP 0 rfl rfl 4 (by decide) (kX9_byteAt_20 hts) (fun _ h9 => h9) rfl dX9_byteAt_17 ?_
      refine lv_iload_n hx hb dX9_byteAt_20 rfl (lv_at hl 1 rfl) ?_
      obtain ⟨hg4, hf⟩ := zrd_in hf
      refine va_iald hx hb hK hP 2 0 rfl rfl hg4 dX9_byteAt_21 ?_
      refine lv_topi (fun x3 ex3 => ?_)
      replace hf := hf x3 ex3
      clear ex3
      cases hf
      exact hE _ _ _ _ dX9_byteAt_22 hP hD hS
    · replace hf := zif_f hf c2
      exact wX9_byteAt_12 C hN hK hA hE hf hP hD hS (lv_sub hl [0, 1] rfl)
set_option maxHeartbeats 4000000 in
set_option maxRecDepth 100000 in
theorem mX9_byteAt (l : Launch) (D : va_G) (cI : ClassId) (sz : Nat) (h_t h_t_now h_t_file h_t_fresh h_t_colour h_t_table h_t_last h_t_one : Nat) (t_wide : Int32) (t_high : Int32) (t_size : Int32) (t_at : Int32) (t_fault : Int32) (t_newWide : Int32) (t_newHigh : Int32) (t_colours : Int32) (t_now : Nat → Int32) (t_file : Nat → Int32) (t_fresh : Nat → Int32) (t_colour : Nat → Int32) (t_table : Nat → Int32) (t_last : Nat → Int32) (t_one : Nat → Int32) (v0 : Int32) (r0 : Int32) (hf : fX9_byteAt t_size t_file v0 = some r0) : Met l yX9_byteAt wsX9_byteAt rmX9_byteAt (va_Pc [.ref h_t, .int v0] (zP D [(cI, .int)] (zwX9 cI h_t h_t_now h_t_file h_t_fresh h_t_colour h_t_table h_t_last h_t_one t_wide t_high t_size t_at t_fault t_newWide t_newHigh t_colours t_now t_file t_fresh t_colour t_table t_last t_one) sz)) (zQi D (zwX9 cI h_t h_t_now h_t_file h_t_fresh h_t_colour h_t_table h_t_last h_t_one t_wide t_high t_size t_at t_fault t_newWide t_newHigh t_colours t_now t_file t_fresh t_colour t_table t_last t_one) sz r0 (zwX9 cI h_t h_t_now h_t_file h_t_fresh h_t_colour h_t_table h_t_last h_t_one t_wide t_high t_size t_at t_fault t_newWide t_newHigh t_colours t_now t_file t_fresh t_colour t_table t_last t_one)) 0 0 (va_A (zwX9 cI h_t h_t_now h_t_file h_t_fresh h_t_colour h_t_table h_t_last h_t_one t_wide t_high t_size t_at t_fault t_newWide t_newHigh t_colours t_now t_file t_fresh t_colour t_table t_last t_one) sz) := by
  refine Met.ofW (cc := cX9_byteAt) (maxL := 2) (ret := (some .int)) (by decide) rfl ?_
  intro p e s m args below meth c s₁ B hml hv
  obtain ⟨rfl, hsz, hP, hK, hD0, hN⟩ := hv
  subst hsz
  have C : CallFix p m c cX9_byteAt 2 s [.ref h_t, .int v0].toArray wsX9_byteAt RX9 := ⟨B.exec, B.bytes, hml, findClass_of_methodNamed B.named, atoms_spec (ws := wsX9_byteAt) B.pre⟩
  have hl := lv_entry ([.ref h_t, .int v0]) (n := 2) (Nat.le_of_ble_eq_true rfl)
  rw [lg_entry_eq]
  exact wX9_byteAt_0 (A := va_A (zwX9 cI h_t h_t_now h_t_file h_t_fresh h_t_colour h_t_table h_t_last h_t_one t_wide t_high t_size t_at t_fault t_newWide t_newHigh t_colours t_now t_file t_fresh t_colour t_table t_last t_one) s.heap.size) C hN hK (fun q h => Or.inr h) (fun H locs pc ls d hP hD hS => zend_i C.1 C.2.1 B.returns B.notSynchronized d hP hD hS) hf hP hD0.self va_S.rf hl
def rmX9_begins : Room := { frames := 0, cells := 0, slots := 0, locals := 0 }
theorem kX9_begins_20 {args : Array Value} {s : State} (h : ∀ w ∈ wsX9_begins, w.before args s = true) : (Cond.fieldLink RX9 20 "FourPictureFilesModel" "file" "[I").before args s = true := h _ (by decide +kernel)
theorem kX9_begins_57 {args : Array Value} {s : State} (h : ∀ w ∈ wsX9_begins, w.before args s = true) : (Cond.fieldLink RX9 57 "FourPictureFilesModel" "size" "I").before args s = true := h _ (by decide +kernel)
theorem iX9_begins_X9 : ∀ w ∈ u_ws RX9 TX9 15, w ∈ wsX9_begins := by decide +kernel
set_option maxHeartbeats 4000000 in
set_option maxRecDepth 100000 in
theorem wX9_begins_0 {p : Program} {l : Launch} {e : Env} {s : State} {m : MethodId} {args : Array Value} {below : List Frame} {meth : Method} {c : Code} {D : va_G} {A : Nat → Prop} {Q : State → Prop} {cI : ClassId} {h_t h_t_now h_t_file h_t_fresh h_t_colour h_t_table h_t_last h_t_one : Nat} {t_wide : Int32} {t_high : Int32} {t_size : Int32} {t_at : Int32} {t_fault : Int32} {t_newWide : Int32} {t_newHigh : Int32} {t_colours : Int32} {t_now : Nat → Int32} {t_file : Nat → Int32} {t_fresh : Nat → Int32} {t_colour : Nat → Int32} {t_table : Nat → Int32} {t_last : Nat → Int32} {t_one : Nat → Int32} {r0 : Int32} (C : CallFix p m c cX9_begins 3 s args wsX9_begins RX9) (hN : zN s) (hK : va_K D vwCl [(cI, .int)] s) (hA : ∀ q, s.heap.size ≤ q → A q) (hE : zEz p l e rmX9_begins s m args below meth c cX9_begins D A Q (zwX9 cI h_t h_t_now h_t_file h_t_fresh h_t_colour h_t_table h_t_last h_t_one t_wide t_high t_size t_at t_fault t_newWide t_newHigh t_colours t_now t_file t_fresh t_colour t_table t_last t_one) r0) {v0 : Int32} {v1 : Int32} {H : Heap} {locs : List Loc} {ls : Array Slot} : fX9_begins t_size t_file v0 v1 = some r0 → va_P D vwCl (zwX9 cI h_t h_t_now h_t_file h_t_fresh h_t_colour h_t_table h_t_last h_t_one t_wide t_high t_size t_at t_fault t_newWide t_newHigh t_colours t_now t_file t_fresh t_colour t_table t_last t_one) H → va_D A (zwX9 cI h_t h_t_now h_t_file h_t_fresh h_t_colour h_t_table h_t_last h_t_one t_wide t_high t_size t_at t_fault t_newWide t_newHigh t_colours t_now t_file t_fresh t_colour t_table t_last t_one) → va_S A s.heap H locs → lv_has ls 3 [(0, .ref h_t), (1, .int v0), (2, .int v1)] → W p l e rmX9_begins s m args below meth c H locs 0 0 Q (F0 m 0 ls []) := by
  intro hf hP hD hS hl
  obtain ⟨hx, hb, hml, hown, hts⟩ := id C
  unfold fX9_begins at hf
  refine lv_aload_n hx hb dX9_begins_0 rfl (lv_at hl 0 rfl) ?_
  refine va_get (D := D) (ci := 8) (v := .int t_size) (C := RX9) (T := TX9) (N := 15) hx hb hts iX9_begins_X9 hown hK hP 0 rfl rfl 3 (by decide) (kX9_begins_57 hts) (fun _ h9 => h9) rfl dX9_begins_1 ?_
  refine lv_iconst (v := 1) hx hb dX9_begins_4 (by decide) ?_
  refine lv_icmp_le (tgt := 32) hx hb dX9_begins_5 (by decide) (fun c1 => ?_) (fun c1 => ?_)
  · replace hf := zif_t hf c1
    refine lv_iconst (v := 0) hx hb dX9_begins_32 (by decide) ?_
    cases hf
    exact hE _ _ _ _ dX9_begins_33 rfl hP hD hS
  · replace hf := zif_f hf c1
    refine lv_aload_n hx hb dX9_begins_8 rfl (lv_at hl 0 rfl) ?_
    refine va_get (D := D) (ci := 8) (v := .ref h_t_file) (C := RX9) (T := TX9) (N := 15) hx hb hts iX9_begins_X9 hown hK hP 0 rfl rfl 4 (by decide) (kX9_begins_20 hts) (fun _ h9 => h9) rfl dX9_begins_9 ?_
    refine lv_iconst (v := 0) hx hb dX9_begins_12 (by decide) ?_
    obtain ⟨hg3, hf⟩ := zrd_in hf
    refine va_iald hx hb hK hP 2 0 rfl rfl hg3 dX9_begins_13 ?_
    refine lv_topi (fun x2 ex2 => ?_)
    replace hf := hf x2 ex2
    clear ex2
    refine lv_iload_n hx hb dX9_begins_14 rfl (lv_at hl 1 rfl) ?_
    refine lv_icmp_ne (tgt := 32) hx hb dX9_begins_15 (by decide) (fun c4 => ?_) (fun c4 => ?_)
    · replace hf := zif_f hf c4
      refine lv_iconst (v := 0) hx hb dX9_begins_32 (by decide) ?_
      cases hf
      exact hE _ _ _ _ dX9_begins_33 rfl hP hD hS
    · replace hf := zif_t hf c4
      refine lv_aload_n hx hb dX9_begins_18 rfl (lv_at hl 0 rfl) ?_
      refine va_get (D := D) (ci := 8) (v := .ref h_t_file) (C := RX9) (T := TX9) (N := 15) hx hb hts iX9_begins_X9 hown hK hP 0 rfl rfl 4 (by decide) (kX9_begins_20 hts) (fun _ h9 => h9) rfl dX9_begins_19 ?_
      refine lv_iconst (v := 1) hx hb dX9_begins_22 (by decide) ?_
      obtain ⟨hg6, hf⟩ := zrd_in hf
      refine va_iald hx hb hK hP 2 0 rfl rfl hg6 dX9_begins_23 ?_
      refine lv_topi (fun x5 ex5 => ?_)
      replace hf := hf x5 ex5
      clear ex5
      refine lv_iload_n hx hb dX9_begins_24 rfl (lv_at hl 2 rfl) ?_
      refine lv_icmp_ne (tgt := 32) hx hb dX9_begins_25 (by decide) (fun c7 => ?_) (fun c7 => ?_)
      · replace hf := zif_f hf c7
        refine lv_iconst (v := 0) hx hb dX9_begins_32 (by decide) ?_
        cases hf
        exact hE _ _ _ _ dX9_begins_33 rfl hP hD hS
      · replace hf := zif_t hf c7
        refine lv_iconst (v := 1) hx hb dX9_begins_28 (by decide) ?_
        refine lv_goto (tgt := 33) hx hb dX9_begins_29 (by decide) ?_
        cases hf
        exact hE _ _ _ _ dX9_begins_33 rfl hP hD hS
set_option maxHeartbeats 4000000 in
set_option maxRecDepth 100000 in
theorem mX9_begins (l : Launch) (D : va_G) (cI : ClassId) (sz : Nat) (h_t h_t_now h_t_file h_t_fresh h_t_colour h_t_table h_t_last h_t_one : Nat) (t_wide : Int32) (t_high : Int32) (t_size : Int32) (t_at : Int32) (t_fault : Int32) (t_newWide : Int32) (t_newHigh : Int32) (t_colours : Int32) (t_now : Nat → Int32) (t_file : Nat → Int32) (t_fresh : Nat → Int32) (t_colour : Nat → Int32) (t_table : Nat → Int32) (t_last : Nat → Int32) (t_one : Nat → Int32) (v0 v1 : Int32) (r0 : Int32) (hf : fX9_begins t_size t_file v0 v1 = some r0) : Met l yX9_begins wsX9_begins rmX9_begins (va_Pc [.ref h_t, .int v0, .int v1] (zP D [(cI, .int)] (zwX9 cI h_t h_t_now h_t_file h_t_fresh h_t_colour h_t_table h_t_last h_t_one t_wide t_high t_size t_at t_fault t_newWide t_newHigh t_colours t_now t_file t_fresh t_colour t_table t_last t_one) sz)) (zQi D (zwX9 cI h_t h_t_now h_t_file h_t_fresh h_t_colour h_t_table h_t_last h_t_one t_wide t_high t_size t_at t_fault t_newWide t_newHigh t_colours t_now t_file t_fresh t_colour t_table t_last t_one) sz r0 (zwX9 cI h_t h_t_now h_t_file h_t_fresh h_t_colour h_t_table h_t_last h_t_one t_wide t_high t_size t_at t_fault t_newWide t_newHigh t_colours t_now t_file t_fresh t_colour t_table t_last t_one)) 0 0 (va_A (zwX9 cI h_t h_t_now h_t_file h_t_fresh h_t_colour h_t_table h_t_last h_t_one t_wide t_high t_size t_at t_fault t_newWide t_newHigh t_colours t_now t_file t_fresh t_colour t_table t_last t_one) sz) := by
  refine Met.ofW (cc := cX9_begins) (maxL := 3) (ret := (some .boolean)) (by decide) rfl ?_
  intro p e s m args below meth c s₁ B hml hv
  obtain ⟨rfl, hsz, hP, hK, hD0, hN⟩ := hv
  subst hsz
  have C : CallFix p m c cX9_begins 3 s [.ref h_t, .int v0, .int v1].toArray wsX9_begins RX9 := ⟨B.exec, B.bytes, hml, findClass_of_methodNamed B.named, atoms_spec (ws := wsX9_begins) B.pre⟩
  have hl := lv_entry ([.ref h_t, .int v0, .int v1]) (n := 3) (Nat.le_of_ble_eq_true rfl)
  rw [lg_entry_eq]
  exact wX9_begins_0 (A := va_A (zwX9 cI h_t h_t_now h_t_file h_t_fresh h_t_colour h_t_table h_t_last h_t_one t_wide t_high t_size t_at t_fault t_newWide t_newHigh t_colours t_now t_file t_fresh t_colour t_table t_last t_one) s.heap.size) C hN hK (fun q h => Or.inr h) (fun H locs pc ls d hn hP hD hS => zend_z C.1 C.2.1 B.returns B.notSynchronized d hn hP hD hS) hf hP hD0.self va_S.rf hl
def rmX9_sniff : Room := { frames := 1, cells := 0, slots := 0, locals := 22 }
theorem kX9_sniff_20 {args : Array Value} {s : State} (h : ∀ w ∈ wsX9_sniff, w.before args s = true) : (Cond.fieldLink RX9 20 "FourPictureFilesModel" "file" "[I").before args s = true := h _ (by decide +kernel)
theorem kX9_sniff_57 {args : Array Value} {s : State} (h : ∀ w ∈ wsX9_sniff, w.before args s = true) : (Cond.fieldLink RX9 57 "FourPictureFilesModel" "size" "I").before args s = true := h _ (by decide +kernel)
theorem iX9_sniff_X9 : ∀ w ∈ u_ws RX9 TX9 15, w ∈ wsX9_sniff := by decide +kernel
theorem qX9_sniff_X9_begins_60 {args : Array Value} {s : State} (hts : ∀ w ∈ wsX9_sniff, w.before args s = true) : CallW rmX9_sniff s args RX9 RX9 60 yX9_begins cX9_begins 3 (some .boolean) wsX9_begins rmX9_begins 0 0 2 := cwV 2 hts gX9_sniff_X9_begins rfl rfl rfl (by decide +kernel) ⟨Nat.le_of_ble_eq_true rfl, Nat.le_of_ble_eq_true rfl⟩
set_option maxHeartbeats 4000000 in
set_option maxRecDepth 100000 in
theorem wX9_sniff_220 {p : Program} {l : Launch} {e : Env} {s : State} {m : MethodId} {args : Array Value} {below : List Frame} {meth : Method} {c : Code} {D : va_G} {A : Nat → Prop} {Q : State → Prop} {cI : ClassId} {h_t h_t_now h_t_file h_t_fresh h_t_colour h_t_table h_t_last h_t_one : Nat} {t_wide : Int32} {t_high : Int32} {t_size : Int32} {t_at : Int32} {t_fault : Int32} {t_newWide : Int32} {t_newHigh : Int32} {t_colours : Int32} {t_now : Nat → Int32} {t_file : Nat → Int32} {t_fresh : Nat → Int32} {t_colour : Nat → Int32} {t_table : Nat → Int32} {t_last : Nat → Int32} {t_one : Nat → Int32} {r0 : Int32} (C : CallFix p m c cX9_sniff 3 s args wsX9_sniff RX9) (hN : zN s) (hK : va_K D vwCl [(cI, .int)] s) (hA : ∀ q, s.heap.size ≤ q → A q) (hE : zEi p l e rmX9_sniff s m args below meth c cX9_sniff D A Q (zwX9 cI h_t h_t_now h_t_file h_t_fresh h_t_colour h_t_table h_t_last h_t_one t_wide t_high t_size t_at t_fault t_newWide t_newHigh t_colours t_now t_file t_fresh t_colour t_table t_last t_one) r0) {l1 : Int32} {l2 : Int32} {H : Heap} {locs : List Loc} {ls : Array Slot} : fX9_sniff_220 = some r0 → va_P D vwCl (zwX9 cI h_t h_t_now h_t_file h_t_fresh h_t_colour h_t_table h_t_last h_t_one t_wide t_high t_size t_at t_fault t_newWide t_newHigh t_colours t_now t_file t_fresh t_colour t_table t_last t_one) H → va_D A (zwX9 cI h_t h_t_now h_t_file h_t_fresh h_t_colour h_t_table h_t_last h_t_one t_wide t_high t_size t_at t_fault t_newWide t_newHigh t_colours t_now t_file t_fresh t_colour t_table t_last t_one) → va_S A s.heap H locs → lv_has ls 3 [(0, .ref h_t), (1, .int l1), (2, .int l2)] → W p l e rmX9_sniff s m args below meth c H locs 0 0 Q (F0 m 220 ls []) := by
  intro hf hP hD hS hl
  obtain ⟨hx, hb, hml, hown, hts⟩ := id C
  unfold fX9_sniff_220 at hf
  refine lv_iconst (v := 3) hx hb dX9_sniff_220 (by decide) ?_
  refine lv_goto (tgt := 225) hx hb dX9_sniff_221 (by decide) ?_
  cases hf
  exact hE _ _ _ _ dX9_sniff_225 hP hD hS
set_option maxHeartbeats 4000000 in
set_option maxRecDepth 100000 in
theorem wX9_sniff_211 {p : Program} {l : Launch} {e : Env} {s : State} {m : MethodId} {args : Array Value} {below : List Frame} {meth : Method} {c : Code} {D : va_G} {A : Nat → Prop} {Q : State → Prop} {cI : ClassId} {h_t h_t_now h_t_file h_t_fresh h_t_colour h_t_table h_t_last h_t_one : Nat} {t_wide : Int32} {t_high : Int32} {t_size : Int32} {t_at : Int32} {t_fault : Int32} {t_newWide : Int32} {t_newHigh : Int32} {t_colours : Int32} {t_now : Nat → Int32} {t_file : Nat → Int32} {t_fresh : Nat → Int32} {t_colour : Nat → Int32} {t_table : Nat → Int32} {t_last : Nat → Int32} {t_one : Nat → Int32} {r0 : Int32} (C : CallFix p m c cX9_sniff 3 s args wsX9_sniff RX9) (hN : zN s) (hK : va_K D vwCl [(cI, .int)] s) (hA : ∀ q, s.heap.size ≤ q → A q) (hE : zEi p l e rmX9_sniff s m args below meth c cX9_sniff D A Q (zwX9 cI h_t h_t_now h_t_file h_t_fresh h_t_colour h_t_table h_t_last h_t_one t_wide t_high t_size t_at t_fault t_newWide t_newHigh t_colours t_now t_file t_fresh t_colour t_table t_last t_one) r0) {l1 : Int32} {k0 : Int32} {H : Heap} {locs : List Loc} {ls : Array Slot} : fX9_sniff_211 l1 k0 = some r0 → va_P D vwCl (zwX9 cI h_t h_t_now h_t_file h_t_fresh h_t_colour h_t_table h_t_last h_t_one t_wide t_high t_size t_at t_fault t_newWide t_newHigh t_colours t_now t_file t_fresh t_colour t_table t_last t_one) H → va_D A (zwX9 cI h_t h_t_now h_t_file h_t_fresh h_t_colour h_t_table h_t_last h_t_one t_wide t_high t_size t_at t_fault t_newWide t_newHigh t_colours t_now t_file t_fresh t_colour t_table t_last t_one) → va_S A s.heap H locs → lv_has ls 3 [(0, .ref h_t), (1, .int l1)] → W p l e rmX9_sniff s m args below meth c H locs 0 0 Q (F0 m 211 ls [.int k0]) := by
  intro hf hP hD hS hl
  obtain ⟨hx, hb, hml, hown, hts⟩ := id C
  unfold fX9_sniff_211 at hf
  refine lv_istore_n (lv' := [(2, .int k0), (0, .ref h_t), (1, .int l1)]) hx hb dX9_sniff_211 rfl hl (by decide) rfl (fun ls hl => ?_)
  refine lv_iload_n hx hb dX9_sniff_212 rfl (lv_at hl 2 rfl) ?_
  refine lv_if_ne (tgt := 220) hx hb dX9_sniff_213 (by decide) (fun c1 => ?_) (fun c1 => ?_)
  · replace hf := zif_f hf c1
    exact wX9_sniff_220 C hN hK hA hE hf hP hD hS (lv_sub hl [1, 2, 0] rfl)
  · replace hf := zif_t hf c1
    refine lv_iload_n hx hb dX9_sniff_216 rfl (lv_at hl 0 rfl) ?_
    refine lv_if_eq (tgt := 224) hx hb dX9_sniff_217 (by decide) (fun c2 => ?_) (fun c2 => ?_)
    · replace hf := zif_t hf c2
      refine lv_iconst (v := (-1)) hx hb dX9_sniff_224 (by decide) ?_
      cases hf
      exact hE _ _ _ _ dX9_sniff_225 hP hD hS
    · replace hf := zif_f hf c2
      exact wX9_sniff_220 C hN hK hA hE hf hP hD hS (lv_sub hl [1, 2, 0] rfl)
set_option maxHeartbeats 4000000 in
set_option maxRecDepth 100000 in
theorem wX9_sniff_210 {p : Program} {l : Launch} {e : Env} {s : State} {m : MethodId} {args : Array Value} {below : List Frame} {meth : Method} {c : Code} {D : va_G} {A : Nat → Prop} {Q : State → Prop} {cI : ClassId} {h_t h_t_now h_t_file h_t_fresh h_t_colour h_t_table h_t_last h_t_one : Nat} {t_wide : Int32} {t_high : Int32} {t_size : Int32} {t_at : Int32} {t_fault : Int32} {t_newWide : Int32} {t_newHigh : Int32} {t_colours : Int32} {t_now : Nat → Int32} {t_file : Nat → Int32} {t_fresh : Nat → Int32} {t_colour : Nat → Int32} {t_table : Nat → Int32} {t_last : Nat → Int32} {t_one : Nat → Int32} {r0 : Int32} (C : CallFix p m c cX9_sniff 3 s args wsX9_sniff RX9) (hN : zN s) (hK : va_K D vwCl [(cI, .int)] s) (hA : ∀ q, s.heap.size ≤ q → A q) (hE : zEi p l e rmX9_sniff s m args below meth c cX9_sniff D A Q (zwX9 cI h_t h_t_now h_t_file h_t_fresh h_t_colour h_t_table h_t_last h_t_one t_wide t_high t_size t_at t_fault t_newWide t_newHigh t_colours t_now t_file t_fresh t_colour t_table t_last t_one) r0) {l1 : Int32} {H : Heap} {locs : List Loc} {ls : Array Slot} : fX9_sniff_210 l1 = some r0 → va_P D vwCl (zwX9 cI h_t h_t_now h_t_file h_t_fresh h_t_colour h_t_table h_t_last h_t_one t_wide t_high t_size t_at t_fault t_newWide t_newHigh t_colours t_now t_file t_fresh t_colour t_table t_last t_one) H → va_D A (zwX9 cI h_t h_t_now h_t_file h_t_fresh h_t_colour h_t_table h_t_last h_t_one t_wide t_high t_size t_at t_fault t_newWide t_newHigh t_colours t_now t_file t_fresh t_colour t_table t_last t_one) → va_S A s.heap H locs → lv_has ls 3 [(0, .ref h_t), (1, .int l1)] → W p l e rmX9_sniff s m args below meth c H locs 0 0 Q (F0 m 210 ls []) := by
  intro hf hP hD hS hl
  obtain ⟨hx, hb, hml, hown, hts⟩ := id C
  unfold fX9_sniff_210 at hf
  refine lv_iconst (v := 0) hx hb dX9_sniff_210 (by decide) ?_
  exact wX9_sniff_211 C hN hK hA hE hf hP hD hS (lv_sub hl [0, 1] rfl)
set_option maxHeartbeats 4000000 in
set_option maxRecDepth 100000 in
theorem wX9_sniff_194 {p : Program} {l : Launch} {e : Env} {s : State} {m : MethodId} {args : Array Value} {below : List Frame} {meth : Method} {c : Code} {D : va_G} {A : Nat → Prop} {Q : State → Prop} {cI : ClassId} {h_t h_t_now h_t_file h_t_fresh h_t_colour h_t_table h_t_last h_t_one : Nat} {t_wide : Int32} {t_high : Int32} {t_size : Int32} {t_at : Int32} {t_fault : Int32} {t_newWide : Int32} {t_newHigh : Int32} {t_colours : Int32} {t_now : Nat → Int32} {t_file : Nat → Int32} {t_fresh : Nat → Int32} {t_colour : Nat → Int32} {t_table : Nat → Int32} {t_last : Nat → Int32} {t_one : Nat → Int32} {r0 : Int32} (C : CallFix p m c cX9_sniff 3 s args wsX9_sniff RX9) (hN : zN s) (hK : va_K D vwCl [(cI, .int)] s) (hA : ∀ q, s.heap.size ≤ q → A q) (hE : zEi p l e rmX9_sniff s m args below meth c cX9_sniff D A Q (zwX9 cI h_t h_t_now h_t_file h_t_fresh h_t_colour h_t_table h_t_last h_t_one t_wide t_high t_size t_at t_fault t_newWide t_newHigh t_colours t_now t_file t_fresh t_colour t_table t_last t_one) r0) {l1 : Int32} {H : Heap} {locs : List Loc} {ls : Array Slot} : fX9_sniff_194 t_file l1 = some r0 → va_P D vwCl (zwX9 cI h_t h_t_now h_t_file h_t_fresh h_t_colour h_t_table h_t_last h_t_one t_wide t_high t_size t_at t_fault t_newWide t_newHigh t_colours t_now t_file t_fresh t_colour t_table t_last t_one) H → va_D A (zwX9 cI h_t h_t_now h_t_file h_t_fresh h_t_colour h_t_table h_t_last h_t_one t_wide t_high t_size t_at t_fault t_newWide t_newHigh t_colours t_now t_file t_fresh t_colour t_table t_last t_one) → va_S A s.heap H locs → lv_has ls 3 [(0, .ref h_t), (1, .int l1)] → W p l e rmX9_sniff s m args below meth c H locs 0 0 Q (F0 m 194 ls []) := by
  intro hf hP hD hS hl
  obtain ⟨hx, hb, hml, hown, hts⟩ := id C
  unfold fX9_sniff_194 at hf
  refine lv_aload_n hx hb dX9_sniff_194 rfl (lv_at hl 0 rfl) ?_
  refine va_get (D := D) (ci := 8) (v := .ref h_t_file) (C := RX9) (T := TX9) (N := 15) hx hb hts iX9_sniff_X9 hown hK hP 0 rfl rfl 4 (by decide) (kX9_sniff_20 hts) (fun _ h9 => h9) rfl dX9_sniff_195 ?_
  refine lv_bipush (v := 16) hx hb dX9_sniff_198 (by decide) ?_
  obtain ⟨hg2, hf⟩ := zrd_in hf
  refine va_iald hx hb hK hP 2 0 rfl rfl hg2 dX9_sniff_200 ?_
  refine lv_topi (fun x1 ex1 => ?_)
  replace hf := hf x1 ex1
  clear ex1
  refine lv_bipush (v := 8) hx hb dX9_sniff_201 (by decide) ?_
  refine lv_icmp_ne (tgt := 210) hx hb dX9_sniff_203 (by decide) (fun c3 => ?_) (fun c3 => ?_)
  · replace hf := zif_f hf c3
    exact wX9_sniff_210 C hN hK hA hE hf hP hD hS (lv_sub hl [0, 1] rfl)
  · replace hf := zif_t hf c3
    refine lv_iconst (v := 1) hx hb dX9_sniff_206 (by decide) ?_
    refine lv_goto (tgt := 211) hx hb dX9_sniff_207 (by decide) ?_
    exact wX9_sniff_211 C hN hK hA hE hf hP hD hS (lv_sub hl [0, 1] rfl)
set_option maxHeartbeats 4000000 in
set_option maxRecDepth 100000 in
theorem wX9_sniff_172 {p : Program} {l : Launch} {e : Env} {s : State} {m : MethodId} {args : Array Value} {below : List Frame} {meth : Method} {c : Code} {D : va_G} {A : Nat → Prop} {Q : State → Prop} {cI : ClassId} {h_t h_t_now h_t_file h_t_fresh h_t_colour h_t_table h_t_last h_t_one : Nat} {t_wide : Int32} {t_high : Int32} {t_size : Int32} {t_at : Int32} {t_fault : Int32} {t_newWide : Int32} {t_newHigh : Int32} {t_colours : Int32} {t_now : Nat → Int32} {t_file : Nat → Int32} {t_fresh : Nat → Int32} {t_colour : Nat → Int32} {t_table : Nat → Int32} {t_last : Nat → Int32} {t_one : Nat → Int32} {r0 : Int32} (C : CallFix p m c cX9_sniff 3 s args wsX9_sniff RX9) (hN : zN s) (hK : va_K D vwCl [(cI, .int)] s) (hA : ∀ q, s.heap.size ≤ q → A q) (hE : zEi p l e rmX9_sniff s m args below meth c cX9_sniff D A Q (zwX9 cI h_t h_t_now h_t_file h_t_fresh h_t_colour h_t_table h_t_last h_t_one t_wide t_high t_size t_at t_fault t_newWide t_newHigh t_colours t_now t_file t_fresh t_colour t_table t_last t_one) r0) {k0 : Int32} {H : Heap} {locs : List Loc} {ls : Array Slot} : fX9_sniff_172 t_file k0 = some r0 → va_P D vwCl (zwX9 cI h_t h_t_now h_t_file h_t_fresh h_t_colour h_t_table h_t_last h_t_one t_wide t_high t_size t_at t_fault t_newWide t_newHigh t_colours t_now t_file t_fresh t_colour t_table t_last t_one) H → va_D A (zwX9 cI h_t h_t_now h_t_file h_t_fresh h_t_colour h_t_table h_t_last h_t_one t_wide t_high t_size t_at t_fault t_newWide t_newHigh t_colours t_now t_file t_fresh t_colour t_table t_last t_one) → va_S A s.heap H locs → lv_has ls 3 [(0, .ref h_t)] → W p l e rmX9_sniff s m args below meth c H locs 0 0 Q (F0 m 172 ls [.int k0]) := by
  intro hf hP hD hS hl
  obtain ⟨hx, hb, hml, hown, hts⟩ := id C
  unfold fX9_sniff_172 at hf
  refine lv_istore_n (lv' := [(1, .int k0), (0, .ref h_t)]) hx hb dX9_sniff_172 rfl hl (by decide) rfl (fun ls hl => ?_)
  refine lv_aload_n hx hb dX9_sniff_173 rfl (lv_at hl 1 rfl) ?_
  refine va_get (D := D) (ci := 8) (v := .ref h_t_file) (C := RX9) (T := TX9) (N := 15) hx hb hts iX9_sniff_X9 hown hK hP 0 rfl rfl 4 (by decide) (kX9_sniff_20 hts) (fun _ h9 => h9) rfl dX9_sniff_174 ?_
  refine lv_iconst (v := 2) hx hb dX9_sniff_177 (by decide) ?_
  obtain ⟨hg2, hf⟩ := zrd_in hf
  refine va_iald hx hb hK hP 2 0 rfl rfl hg2 dX9_sniff_178 ?_
  refine lv_topi (fun x1 ex1 => ?_)
  replace hf := hf x1 ex1
  clear ex1
  refine lv_iconst (v := 3) hx hb dX9_sniff_179 (by decide) ?_
  refine lv_icmp_eq (tgt := 194) hx hb dX9_sniff_180 (by decide) (fun c3 => ?_) (fun c3 => ?_)
  · replace hf := zif_t hf c3
    exact wX9_sniff_194 C hN hK hA hE hf hP hD hS (lv_sub hl [1, 0] rfl)
  · replace hf := zif_f hf c3
    refine lv_aload_n hx hb dX9_sniff_183 rfl (lv_at hl 1 rfl) ?_
    refine va_get (D := D) (ci := 8) (v := .ref h_t_file) (C := RX9) (T := TX9) (N := 15) hx hb hts iX9_sniff_X9 hown hK hP 0 rfl rfl 4 (by decide) (kX9_sniff_20 hts) (fun _ h9 => h9) rfl dX9_sniff_184 ?_
    refine lv_iconst (v := 2) hx hb dX9_sniff_187 (by decide) ?_
    obtain ⟨hg5, hf⟩ := zrd_in hf
    refine va_iald hx hb hK hP 2 0 rfl rfl hg5 dX9_sniff_188 ?_
    refine lv_topi (fun x4 ex4 => ?_)
    replace hf := hf x4 ex4
    clear ex4
    refine lv_bipush (v := 11) hx hb dX9_sniff_189 (by decide) ?_
    refine lv_icmp_ne (tgt := 210) hx hb dX9_sniff_191 (by decide) (fun c6 => ?_) (fun c6 => ?_)
    · replace hf := zif_f hf c6
      exact wX9_sniff_210 C hN hK hA hE hf hP hD hS (lv_sub hl [1, 0] rfl)
    · replace hf := zif_t hf c6
      exact wX9_sniff_194 C hN hK hA hE hf hP hD hS (lv_sub hl [1, 0] rfl)
set_option maxHeartbeats 4000000 in
set_option maxRecDepth 100000 in
theorem wX9_sniff_167 {p : Program} {l : Launch} {e : Env} {s : State} {m : MethodId} {args : Array Value} {below : List Frame} {meth : Method} {c : Code} {D : va_G} {A : Nat → Prop} {Q : State → Prop} {cI : ClassId} {h_t h_t_now h_t_file h_t_fresh h_t_colour h_t_table h_t_last h_t_one : Nat} {t_wide : Int32} {t_high : Int32} {t_size : Int32} {t_at : Int32} {t_fault : Int32} {t_newWide : Int32} {t_newHigh : Int32} {t_colours : Int32} {t_now : Nat → Int32} {t_file : Nat → Int32} {t_fresh : Nat → Int32} {t_colour : Nat → Int32} {t_table : Nat → Int32} {t_last : Nat → Int32} {t_one : Nat → Int32} {r0 : Int32} (C : CallFix p m c cX9_sniff 3 s args wsX9_sniff RX9) (hN : zN s) (hK : va_K D vwCl [(cI, .int)] s) (hA : ∀ q, s.heap.size ≤ q → A q) (hE : zEi p l e rmX9_sniff s m args below meth c cX9_sniff D A Q (zwX9 cI h_t h_t_now h_t_file h_t_fresh h_t_colour h_t_table h_t_last h_t_one t_wide t_high t_size t_at t_fault t_newWide t_newHigh t_colours t_now t_file t_fresh t_colour t_table t_last t_one) r0) {H : Heap} {locs : List Loc} {ls : Array Slot} : fX9_sniff_167 t_file = some r0 → va_P D vwCl (zwX9 cI h_t h_t_now h_t_file h_t_fresh h_t_colour h_t_table h_t_last h_t_one t_wide t_high t_size t_at t_fault t_newWide t_newHigh t_colours t_now t_file t_fresh t_colour t_table t_last t_one) H → va_D A (zwX9 cI h_t h_t_now h_t_file h_t_fresh h_t_colour h_t_table h_t_last h_t_one t_wide t_high t_size t_at t_fault t_newWide t_newHigh t_colours t_now t_file t_fresh t_colour t_table t_last t_one) → va_S A s.heap H locs → lv_has ls 3 [(0, .ref h_t)] → W p l e rmX9_sniff s m args below meth c H locs 0 0 Q (F0 m 167 ls []) := by
  intro hf hP hD hS hl
  obtain ⟨hx, hb, hml, hown, hts⟩ := id C
  unfold fX9_sniff_167 at hf
  refine lv_iconst (v := 1) hx hb dX9_sniff_167 (by decide) ?_
  refine lv_goto (tgt := 172) hx hb dX9_sniff_168 (by decide) ?_
  exact wX9_sniff_172 C hN hK hA hE hf hP hD hS (lv_sub hl [0] rfl)
set_option maxHeartbeats 4000000 in
set_option maxRecDepth 100000 in
theorem wX9_sniff_171 {p : Program} {l : Launch} {e : Env} {s : State} {m : MethodId} {args : Array Value} {below : List Frame} {meth : Method} {c : Code} {D : va_G} {A : Nat → Prop} {Q : State → Prop} {cI : ClassId} {h_t h_t_now h_t_file h_t_fresh h_t_colour h_t_table h_t_last h_t_one : Nat} {t_wide : Int32} {t_high : Int32} {t_size : Int32} {t_at : Int32} {t_fault : Int32} {t_newWide : Int32} {t_newHigh : Int32} {t_colours : Int32} {t_now : Nat → Int32} {t_file : Nat → Int32} {t_fresh : Nat → Int32} {t_colour : Nat → Int32} {t_table : Nat → Int32} {t_last : Nat → Int32} {t_one : Nat → Int32} {r0 : Int32} (C : CallFix p m c cX9_sniff 3 s args wsX9_sniff RX9) (hN : zN s) (hK : va_K D vwCl [(cI, .int)] s) (hA : ∀ q, s.heap.size ≤ q → A q) (hE : zEi p l e rmX9_sniff s m args below meth c cX9_sniff D A Q (zwX9 cI h_t h_t_now h_t_file h_t_fresh h_t_colour h_t_table h_t_last h_t_one t_wide t_high t_size t_at t_fault t_newWide t_newHigh t_colours t_now t_file t_fresh t_colour t_table t_last t_one) r0) {H : Heap} {locs : List Loc} {ls : Array Slot} : fX9_sniff_171 t_file = some r0 → va_P D vwCl (zwX9 cI h_t h_t_now h_t_file h_t_fresh h_t_colour h_t_table h_t_last h_t_one t_wide t_high t_size t_at t_fault t_newWide t_newHigh t_colours t_now t_file t_fresh t_colour t_table t_last t_one) H → va_D A (zwX9 cI h_t h_t_now h_t_file h_t_fresh h_t_colour h_t_table h_t_last h_t_one t_wide t_high t_size t_at t_fault t_newWide t_newHigh t_colours t_now t_file t_fresh t_colour t_table t_last t_one) → va_S A s.heap H locs → lv_has ls 3 [(0, .ref h_t)] → W p l e rmX9_sniff s m args below meth c H locs 0 0 Q (F0 m 171 ls []) := by
  intro hf hP hD hS hl
  obtain ⟨hx, hb, hml, hown, hts⟩ := id C
  unfold fX9_sniff_171 at hf
  refine lv_iconst (v := 0) hx hb dX9_sniff_171 (by decide) ?_
  exact wX9_sniff_172 C hN hK hA hE hf hP hD hS (lv_sub hl [0] rfl)
set_option maxHeartbeats 4000000 in
set_option maxRecDepth 100000 in
theorem wX9_sniff_143 {p : Program} {l : Launch} {e : Env} {s : State} {m : MethodId} {args : Array Value} {below : List Frame} {meth : Method} {c : Code} {D : va_G} {A : Nat → Prop} {Q : State → Prop} {cI : ClassId} {h_t h_t_now h_t_file h_t_fresh h_t_colour h_t_table h_t_last h_t_one : Nat} {t_wide : Int32} {t_high : Int32} {t_size : Int32} {t_at : Int32} {t_fault : Int32} {t_newWide : Int32} {t_newHigh : Int32} {t_colours : Int32} {t_now : Nat → Int32} {t_file : Nat → Int32} {t_fresh : Nat → Int32} {t_colour : Nat → Int32} {t_table : Nat → Int32} {t_last : Nat → Int32} {t_one : Nat → Int32} {r0 : Int32} (C : CallFix p m c cX9_sniff 3 s args wsX9_sniff RX9) (hN : zN s) (hK : va_K D vwCl [(cI, .int)] s) (hA : ∀ q, s.heap.size ≤ q → A q) (hE : zEi p l e rmX9_sniff s m args below meth c cX9_sniff D A Q (zwX9 cI h_t h_t_now h_t_file h_t_fresh h_t_colour h_t_table h_t_last h_t_one t_wide t_high t_size t_at t_fault t_newWide t_newHigh t_colours t_now t_file t_fresh t_colour t_table t_last t_one) r0) {H : Heap} {locs : List Loc} {ls : Array Slot} : fX9_sniff_143 t_file = some r0 → va_P D vwCl (zwX9 cI h_t h_t_now h_t_file h_t_fresh h_t_colour h_t_table h_t_last h_t_one t_wide t_high t_size t_at t_fault t_newWide t_newHigh t_colours t_now t_file t_fresh t_colour t_table t_last t_one) H → va_D A (zwX9 cI h_t h_t_now h_t_file h_t_fresh h_t_colour h_t_table h_t_last h_t_one t_wide t_high t_size t_at t_fault t_newWide t_newHigh t_colours t_now t_file t_fresh t_colour t_table t_last t_one) → va_S A s.heap H locs → lv_has ls 3 [(0, .ref h_t)] → W p l e rmX9_sniff s m args below meth c H locs 0 0 Q (F0 m 143 ls []) := by
  intro hf hP hD hS hl
  obtain ⟨hx, hb, hml, hown, hts⟩ := id C
  unfold fX9_sniff_143 at hf
  refine lv_aload_n hx hb dX9_sniff_143 rfl (lv_at hl 0 rfl) ?_
  refine va_get (D := D) (ci := 8) (v := .ref h_t_file) (C := RX9) (T := TX9) (N := 15) hx hb hts iX9_sniff_X9 hown hK hP 0 rfl rfl 4 (by decide) (kX9_sniff_20 hts) (fun _ h9 => h9) rfl dX9_sniff_144 ?_
  refine lv_bipush (v := 16) hx hb dX9_sniff_147 (by decide) ?_
  obtain ⟨hg2, hf⟩ := zrd_in hf
  refine va_iald hx hb hK hP 2 0 rfl rfl hg2 dX9_sniff_149 ?_
  refine lv_topi (fun x1 ex1 => ?_)
  replace hf := hf x1 ex1
  clear ex1
  refine lv_bipush (v := 24) hx hb dX9_sniff_150 (by decide) ?_
  refine lv_icmp_eq (tgt := 167) hx hb dX9_sniff_152 (by decide) (fun c3 => ?_) (fun c3 => ?_)
  · replace hf := zif_t hf c3
    exact wX9_sniff_167 C hN hK hA hE hf hP hD hS (lv_sub hl [0] rfl)
  · replace hf := zif_f hf c3
    refine lv_aload_n hx hb dX9_sniff_155 rfl (lv_at hl 0 rfl) ?_
    refine va_get (D := D) (ci := 8) (v := .ref h_t_file) (C := RX9) (T := TX9) (N := 15) hx hb hts iX9_sniff_X9 hown hK hP 0 rfl rfl 4 (by decide) (kX9_sniff_20 hts) (fun _ h9 => h9) rfl dX9_sniff_156 ?_
    refine lv_bipush (v := 16) hx hb dX9_sniff_159 (by decide) ?_
    obtain ⟨hg5, hf⟩ := zrd_in hf
    refine va_iald hx hb hK hP 2 0 rfl rfl hg5 dX9_sniff_161 ?_
    refine lv_topi (fun x4 ex4 => ?_)
    replace hf := hf x4 ex4
    clear ex4
    refine lv_bipush (v := 32) hx hb dX9_sniff_162 (by decide) ?_
    refine lv_icmp_ne (tgt := 171) hx hb dX9_sniff_164 (by decide) (fun c6 => ?_) (fun c6 => ?_)
    · replace hf := zif_f hf c6
      exact wX9_sniff_171 C hN hK hA hE hf hP hD hS (lv_sub hl [0] rfl)
    · replace hf := zif_t hf c6
      exact wX9_sniff_167 C hN hK hA hE hf hP hD hS (lv_sub hl [0] rfl)
set_option maxHeartbeats 4000000 in
set_option maxRecDepth 100000 in
theorem wX9_sniff_43 {p : Program} {l : Launch} {e : Env} {s : State} {m : MethodId} {args : Array Value} {below : List Frame} {meth : Method} {c : Code} {D : va_G} {A : Nat → Prop} {Q : State → Prop} {cI : ClassId} {h_t h_t_now h_t_file h_t_fresh h_t_colour h_t_table h_t_last h_t_one : Nat} {t_wide : Int32} {t_high : Int32} {t_size : Int32} {t_at : Int32} {t_fault : Int32} {t_newWide : Int32} {t_newHigh : Int32} {t_colours : Int32} {t_now : Nat → Int32} {t_file : Nat → Int32} {t_fresh : Nat → Int32} {t_colour : Nat → Int32} {t_table : Nat → Int32} {t_last : Nat → Int32} {t_one : Nat → Int32} {r0 : Int32} (C : CallFix p m c cX9_sniff 3 s args wsX9_sniff RX9) (hN : zN s) (hK : va_K D vwCl [(cI, .int)] s) (hA : ∀ q, s.heap.size ≤ q → A q) (hE : zEi p l e rmX9_sniff s m args below meth c cX9_sniff D A Q (zwX9 cI h_t h_t_now h_t_file h_t_fresh h_t_colour h_t_table h_t_last h_t_one t_wide t_high t_size t_at t_fault t_newWide t_newHigh t_colours t_now t_file t_fresh t_colour t_table t_last t_one) r0) {H : Heap} {locs : List Loc} {ls : Array Slot} : fX9_sniff_43 t_size t_file = some r0 → va_P D vwCl (zwX9 cI h_t h_t_now h_t_file h_t_fresh h_t_colour h_t_table h_t_last h_t_one t_wide t_high t_size t_at t_fault t_newWide t_newHigh t_colours t_now t_file t_fresh t_colour t_table t_last t_one) H → va_D A (zwX9 cI h_t h_t_now h_t_file h_t_fresh h_t_colour h_t_table h_t_last h_t_one t_wide t_high t_size t_at t_fault t_newWide t_newHigh t_colours t_now t_file t_fresh t_colour t_table t_last t_one) → va_S A s.heap H locs → lv_has ls 3 [(0, .ref h_t)] → W p l e rmX9_sniff s m args below meth c H locs 0 0 Q (F0 m 43 ls []) := by
  intro hf hP hD hS hl
  obtain ⟨hx, hb, hml, hown, hts⟩ := id C
  unfold fX9_sniff_43 at hf
  refine lv_aload_n hx hb dX9_sniff_43 rfl (lv_at hl 0 rfl) ?_
  refine lv_bipush (v := 80) hx hb dX9_sniff_44 (by decide) ?_
  refine lv_bipush (v := 50) hx hb dX9_sniff_46 (by decide) ?_
  obtain ⟨r1, hc2, hf⟩ := zb1_in hf
  refine zc_i (va_runV (As := [.int 80, .int 50]) (rest := []) C (mX9_begins l D cI H.size h_t h_t_now h_t_file h_t_fresh h_t_colour h_t_table h_t_last h_t_one t_wide t_high t_size t_at t_fault t_newWide t_newHigh t_colours t_now t_file t_fresh t_colour t_table t_last t_one 80 50 r1 hc2) (qX9_sniff_X9_begins_60 hts) ⟨zP_blind, va_recv hK hP (ci := 8) (q0 := 0) rfl rfl, zpre hK hN hP hD [0, 1, 2, 3, 4, 5, 6, 7] rfl rfl⟩ rfl rfl hl.1 rfl (lv_room (Nat.le_of_ble_eq_true rfl)) dX9_sniff_48 ⟨Nat.zero_le _, Nat.zero_le _⟩) hP hD hS hA [0, 1, 2, 3, 4, 5, 6, 7] [] [0, 1, 2, 3, 4, 5, 6, 7] (ws' := zwX9 cI h_t h_t_now h_t_file h_t_fresh h_t_colour h_t_table h_t_last h_t_one t_wide t_high t_size t_at t_fault t_newWide t_newHigh t_colours t_now t_file t_fresh t_colour t_table t_last t_one) rfl rfl rfl rfl rfl rfl (fun H locs hP hD hS => ?_)
  refine lv_if_ne (tgt := 87) hx hb dX9_sniff_51 (by decide) (fun c3 => ?_) (fun c3 => ?_)
  · replace hf := zif_f hf c3
    refine lv_iconst (v := 1) hx hb dX9_sniff_87 (by decide) ?_
    cases hf
    exact hE _ _ _ _ dX9_sniff_88 hP hD hS
  · replace hf := zif_t hf c3
    refine lv_aload_n hx hb dX9_sniff_54 rfl (lv_at hl 0 rfl) ?_
    refine lv_bipush (v := 80) hx hb dX9_sniff_55 (by decide) ?_
    refine lv_bipush (v := 51) hx hb dX9_sniff_57 (by decide) ?_
    obtain ⟨r4, hc5, hf⟩ := zb1_in hf
    refine zc_i (va_runV (As := [.int 80, .int 51]) (rest := []) C (mX9_begins l D cI H.size h_t h_t_now h_t_file h_t_fresh h_t_colour h_t_table h_t_last h_t_one t_wide t_high t_size t_at t_fault t_newWide t_newHigh t_colours t_now t_file t_fresh t_colour t_table t_last t_one 80 51 r4 hc5) (qX9_sniff_X9_begins_60 hts) ⟨zP_blind, va_recv hK hP (ci := 8) (q0 := 0) rfl rfl, zpre hK hN hP hD [0, 1, 2, 3, 4, 5, 6, 7] rfl rfl⟩ rfl rfl hl.1 rfl (lv_room (Nat.le_of_ble_eq_true rfl)) dX9_sniff_59 ⟨Nat.zero_le _, Nat.zero_le _⟩) hP hD hS hA [0, 1, 2, 3, 4, 5, 6, 7] [] [0, 1, 2, 3, 4, 5, 6, 7] (ws' := zwX9 cI h_t h_t_now h_t_file h_t_fresh h_t_colour h_t_table h_t_last h_t_one t_wide t_high t_size t_at t_fault t_newWide t_newHigh t_colours t_now t_file t_fresh t_colour t_table t_last t_one) rfl rfl rfl rfl rfl rfl (fun H locs hP hD hS => ?_)
    refine lv_if_ne (tgt := 87) hx hb dX9_sniff_62 (by decide) (fun c6 => ?_) (fun c6 => ?_)
    · replace hf := zif_f hf c6
      refine lv_iconst (v := 1) hx hb dX9_sniff_87 (by decide) ?_
      cases hf
      exact hE _ _ _ _ dX9_sniff_88 hP hD hS
    · replace hf := zif_t hf c6
      refine lv_aload_n hx hb dX9_sniff_65 rfl (lv_at hl 0 rfl) ?_
      refine lv_bipush (v := 80) hx hb dX9_sniff_66 (by decide) ?_
      refine lv_bipush (v := 53) hx hb dX9_sniff_68 (by decide) ?_
      obtain ⟨r7, hc8, hf⟩ := zb1_in hf
      refine zc_i (va_runV (As := [.int 80, .int 53]) (rest := []) C (mX9_begins l D cI H.size h_t h_t_now h_t_file h_t_fresh h_t_colour h_t_table h_t_last h_t_one t_wide t_high t_size t_at t_fault t_newWide t_newHigh t_colours t_now t_file t_fresh t_colour t_table t_last t_one 80 53 r7 hc8) (qX9_sniff_X9_begins_60 hts) ⟨zP_blind, va_recv hK hP (ci := 8) (q0 := 0) rfl rfl, zpre hK hN hP hD [0, 1, 2, 3, 4, 5, 6, 7] rfl rfl⟩ rfl rfl hl.1 rfl (lv_room (Nat.le_of_ble_eq_true rfl)) dX9_sniff_70 ⟨Nat.zero_le _, Nat.zero_le _⟩) hP hD hS hA [0, 1, 2, 3, 4, 5, 6, 7] [] [0, 1, 2, 3, 4, 5, 6, 7] (ws' := zwX9 cI h_t h_t_now h_t_file h_t_fresh h_t_colour h_t_table h_t_last h_t_one t_wide t_high t_size t_at t_fault t_newWide t_newHigh t_colours t_now t_file t_fresh t_colour t_table t_last t_one) rfl rfl rfl rfl rfl rfl (fun H locs hP hD hS => ?_)
      refine lv_if_ne (tgt := 87) hx hb dX9_sniff_73 (by decide) (fun c9 => ?_) (fun c9 => ?_)
      · replace hf := zif_f hf c9
        refine lv_iconst (v := 1) hx hb dX9_sniff_87 (by decide) ?_
        cases hf
        exact hE _ _ _ _ dX9_sniff_88 hP hD hS
      · replace hf := zif_t hf c9
        refine lv_aload_n hx hb dX9_sniff_76 rfl (lv_at hl 0 rfl) ?_
        refine lv_bipush (v := 80) hx hb dX9_sniff_77 (by decide) ?_
        refine lv_bipush (v := 54) hx hb dX9_sniff_79 (by decide) ?_
        obtain ⟨r10, hc11, hf⟩ := zb1_in hf
        refine zc_i (va_runV (As := [.int 80, .int 54]) (rest := []) C (mX9_begins l D cI H.size h_t h_t_now h_t_file h_t_fresh h_t_colour h_t_table h_t_last h_t_one t_wide t_high t_size t_at t_fault t_newWide t_newHigh t_colours t_now t_file t_fresh t_colour t_table t_last t_one 80 54 r10 hc11) (qX9_sniff_X9_begins_60 hts) ⟨zP_blind, va_recv hK hP (ci := 8) (q0 := 0) rfl rfl, zpre hK hN hP hD [0, 1, 2, 3, 4, 5, 6, 7] rfl rfl⟩ rfl rfl hl.1 rfl (lv_room (Nat.le_of_ble_eq_true rfl)) dX9_sniff_81 ⟨Nat.zero_le _, Nat.zero_le _⟩) hP hD hS hA [0, 1, 2, 3, 4, 5, 6, 7] [] [0, 1, 2, 3, 4, 5, 6, 7] (ws' := zwX9 cI h_t h_t_now h_t_file h_t_fresh h_t_colour h_t_table h_t_last h_t_one t_wide t_high t_size t_at t_fault t_newWide t_newHigh t_colours t_now t_file t_fresh t_colour t_table t_last t_one) rfl rfl rfl rfl rfl rfl (fun H locs hP hD hS => ?_)
        refine lv_if_eq (tgt := 89) hx hb dX9_sniff_84 (by decide) (fun c12 => ?_) (fun c12 => ?_)
        · replace hf := zif_t hf c12
          refine lv_aload_n hx hb dX9_sniff_89 rfl (lv_at hl 0 rfl) ?_
          refine lv_bipush (v := 66) hx hb dX9_sniff_90 (by decide) ?_
          refine lv_bipush (v := 77) hx hb dX9_sniff_92 (by decide) ?_
          obtain ⟨r13, hc14, hf⟩ := zb1_in hf
          refine zc_i (va_runV (As := [.int 66, .int 77]) (rest := []) C (mX9_begins l D cI H.size h_t h_t_now h_t_file h_t_fresh h_t_colour h_t_table h_t_last h_t_one t_wide t_high t_size t_at t_fault t_newWide t_newHigh t_colours t_now t_file t_fresh t_colour t_table t_last t_one 66 77 r13 hc14) (qX9_sniff_X9_begins_60 hts) ⟨zP_blind, va_recv hK hP (ci := 8) (q0 := 0) rfl rfl, zpre hK hN hP hD [0, 1, 2, 3, 4, 5, 6, 7] rfl rfl⟩ rfl rfl hl.1 rfl (lv_room (Nat.le_of_ble_eq_true rfl)) dX9_sniff_94 ⟨Nat.zero_le _, Nat.zero_le _⟩) hP hD hS hA [0, 1, 2, 3, 4, 5, 6, 7] [] [0, 1, 2, 3, 4, 5, 6, 7] (ws' := zwX9 cI h_t h_t_now h_t_file h_t_fresh h_t_colour h_t_table h_t_last h_t_one t_wide t_high t_size t_at t_fault t_newWide t_newHigh t_colours t_now t_file t_fresh t_colour t_table t_last t_one) rfl rfl rfl rfl rfl rfl (fun H locs hP hD hS => ?_)
          refine lv_if_eq (tgt := 102) hx hb dX9_sniff_97 (by decide) (fun c15 => ?_) (fun c15 => ?_)
          · replace hf := zif_t hf c15
            refine lv_aload_n hx hb dX9_sniff_102 rfl (lv_at hl 0 rfl) ?_
            refine va_get (D := D) (ci := 8) (v := .int t_size) (C := RX9) (T := TX9) (N := 15) hx hb hts iX9_sniff_X9 hown hK hP 0 rfl rfl 3 (by decide) (kX9_sniff_57 hts) (fun _ h9 => h9) rfl dX9_sniff_103 ?_
            refine lv_bipush (v := 18) hx hb dX9_sniff_106 (by decide) ?_
            refine lv_icmp_lt (tgt := 120) hx hb dX9_sniff_108 (by decide) (fun c16 => ?_) (fun c16 => ?_)
            · replace hf := zif_t hf c16
              refine lv_iconst (v := (-1)) hx hb dX9_sniff_120 (by decide) ?_
              cases hf
              exact hE _ _ _ _ dX9_sniff_121 hP hD hS
            · replace hf := zif_f hf c16
              refine lv_aload_n hx hb dX9_sniff_111 rfl (lv_at hl 0 rfl) ?_
              refine va_get (D := D) (ci := 8) (v := .ref h_t_file) (C := RX9) (T := TX9) (N := 15) hx hb hts iX9_sniff_X9 hown hK hP 0 rfl rfl 4 (by decide) (kX9_sniff_20 hts) (fun _ h9 => h9) rfl dX9_sniff_112 ?_
              refine lv_iconst (v := 1) hx hb dX9_sniff_115 (by decide) ?_
              obtain ⟨hg18, hf⟩ := zrd_in hf
              refine va_iald hx hb hK hP 2 0 rfl rfl hg18 dX9_sniff_116 ?_
              refine lv_topi (fun x17 ex17 => ?_)
              replace hf := hf x17 ex17
              clear ex17
              refine lv_if_eq (tgt := 122) hx hb dX9_sniff_117 (by decide) (fun c19 => ?_) (fun c19 => ?_)
              · replace hf := zif_t hf c19
                refine lv_aload_n hx hb dX9_sniff_122 rfl (lv_at hl 0 rfl) ?_
                refine va_get (D := D) (ci := 8) (v := .ref h_t_file) (C := RX9) (T := TX9) (N := 15) hx hb hts iX9_sniff_X9 hown hK hP 0 rfl rfl 4 (by decide) (kX9_sniff_20 hts) (fun _ h9 => h9) rfl dX9_sniff_123 ?_
                refine lv_iconst (v := 2) hx hb dX9_sniff_126 (by decide) ?_
                obtain ⟨hg21, hf⟩ := zrd_in hf
                refine va_iald hx hb hK hP 2 0 rfl rfl hg21 dX9_sniff_127 ?_
                refine lv_topi (fun x20 ex20 => ?_)
                replace hf := hf x20 ex20
                clear ex20
                refine lv_iconst (v := 2) hx hb dX9_sniff_128 (by decide) ?_
                refine lv_icmp_eq (tgt := 143) hx hb dX9_sniff_129 (by decide) (fun c22 => ?_) (fun c22 => ?_)
                · replace hf := zif_t hf c22
                  exact wX9_sniff_143 C hN hK hA hE hf hP hD hS (lv_sub hl [0] rfl)
                · replace hf := zif_f hf c22
                  refine lv_aload_n hx hb dX9_sniff_132 rfl (lv_at hl 0 rfl) ?_
                  refine va_get (D := D) (ci := 8) (v := .ref h_t_file) (C := RX9) (T := TX9) (N := 15) hx hb hts iX9_sniff_X9 hown hK hP 0 rfl rfl 4 (by decide) (kX9_sniff_20 hts) (fun _ h9 => h9) rfl dX9_sniff_133 ?_
                  refine lv_iconst (v := 2) hx hb dX9_sniff_136 (by decide) ?_
                  obtain ⟨hg24, hf⟩ := zrd_in hf
                  refine va_iald hx hb hK hP 2 0 rfl rfl hg24 dX9_sniff_137 ?_
                  refine lv_topi (fun x23 ex23 => ?_)
                  replace hf := hf x23 ex23
                  clear ex23
                  refine lv_bipush (v := 10) hx hb dX9_sniff_138 (by decide) ?_
                  refine lv_icmp_ne (tgt := 171) hx hb dX9_sniff_140 (by decide) (fun c25 => ?_) (fun c25 => ?_)
                  · replace hf := zif_f hf c25
                    exact wX9_sniff_171 C hN hK hA hE hf hP hD hS (lv_sub hl [0] rfl)
                  · replace hf := zif_t hf c25
                    exact wX9_sniff_143 C hN hK hA hE hf hP hD hS (lv_sub hl [0] rfl)
              · replace hf := zif_f hf c19
                refine lv_iconst (v := (-1)) hx hb dX9_sniff_120 (by decide) ?_
                cases hf
                exact hE _ _ _ _ dX9_sniff_121 hP hD hS
          · replace hf := zif_f hf c15
            refine lv_iconst (v := 2) hx hb dX9_sniff_100 (by decide) ?_
            cases hf
            exact hE _ _ _ _ dX9_sniff_101 hP hD hS
        · replace hf := zif_f hf c12
          refine lv_iconst (v := 1) hx hb dX9_sniff_87 (by decide) ?_
          cases hf
          exact hE _ _ _ _ dX9_sniff_88 hP hD hS
set_option maxHeartbeats 4000000 in
set_option maxRecDepth 100000 in
theorem wX9_sniff_0 {p : Program} {l : Launch} {e : Env} {s : State} {m : MethodId} {args : Array Value} {below : List Frame} {meth : Method} {c : Code} {D : va_G} {A : Nat → Prop} {Q : State → Prop} {cI : ClassId} {h_t h_t_now h_t_file h_t_fresh h_t_colour h_t_table h_t_last h_t_one : Nat} {t_wide : Int32} {t_high : Int32} {t_size : Int32} {t_at : Int32} {t_fault : Int32} {t_newWide : Int32} {t_newHigh : Int32} {t_colours : Int32} {t_now : Nat → Int32} {t_file : Nat → Int32} {t_fresh : Nat → Int32} {t_colour : Nat → Int32} {t_table : Nat → Int32} {t_last : Nat → Int32} {t_one : Nat → Int32} {r0 : Int32} (C : CallFix p m c cX9_sniff 3 s args wsX9_sniff RX9) (hN : zN s) (hK : va_K D vwCl [(cI, .int)] s) (hA : ∀ q, s.heap.size ≤ q → A q) (hE : zEi p l e rmX9_sniff s m args below meth c cX9_sniff D A Q (zwX9 cI h_t h_t_now h_t_file h_t_fresh h_t_colour h_t_table h_t_last h_t_one t_wide t_high t_size t_at t_fault t_newWide t_newHigh t_colours t_now t_file t_fresh t_colour t_table t_last t_one) r0) {H : Heap} {locs : List Loc} {ls : Array Slot} : fX9_sniff t_size t_file = some r0 → va_P D vwCl (zwX9 cI h_t h_t_now h_t_file h_t_fresh h_t_colour h_t_table h_t_last h_t_one t_wide t_high t_size t_at t_fault t_newWide t_newHigh t_colours t_now t_file t_fresh t_colour t_table t_last t_one) H → va_D A (zwX9 cI h_t h_t_now h_t_file h_t_fresh h_t_colour h_t_table h_t_last h_t_one t_wide t_high t_size t_at t_fault t_newWide t_newHigh t_colours t_now t_file t_fresh t_colour t_table t_last t_one) → va_S A s.heap H locs → lv_has ls 3 [(0, .ref h_t)] → W p l e rmX9_sniff s m args below meth c H locs 0 0 Q (F0 m 0 ls []) := by
  intro hf hP hD hS hl
  obtain ⟨hx, hb, hml, hown, hts⟩ := id C
  unfold fX9_sniff at hf
  refine lv_aload_n hx hb dX9_sniff_0 rfl (lv_at hl 0 rfl) ?_
  refine va_get (D := D) (ci := 8) (v := .int t_size) (C := RX9) (T := TX9) (N := 15) hx hb hts iX9_sniff_X9 hown hK hP 0 rfl rfl 3 (by decide) (kX9_sniff_57 hts) (fun _ h9 => h9) rfl dX9_sniff_1 ?_
  refine lv_iconst (v := 3) hx hb dX9_sniff_4 (by decide) ?_
  refine lv_icmp_le (tgt := 43) hx hb dX9_sniff_5 (by decide) (fun c1 => ?_) (fun c1 => ?_)
  · replace hf := zif_t hf c1
    exact wX9_sniff_43 C hN hK hA hE hf hP hD hS (lv_sub hl [0] rfl)
  · replace hf := zif_f hf c1
    refine lv_aload_n hx hb dX9_sniff_8 rfl (lv_at hl 0 rfl) ?_
    refine lv_bipush (v := 113) hx hb dX9_sniff_9 (by decide) ?_
    refine lv_bipush (v := 111) hx hb dX9_sniff_11 (by decide) ?_
    obtain ⟨r2, hc3, hf⟩ := zb1_in hf
    refine zc_i (va_runV (As := [.int 113, .int 111]) (rest := []) C (mX9_begins l D cI H.size h_t h_t_now h_t_file h_t_fresh h_t_colour h_t_table h_t_last h_t_one t_wide t_high t_size t_at t_fault t_newWide t_newHigh t_colours t_now t_file t_fresh t_colour t_table t_last t_one 113 111 r2 hc3) (qX9_sniff_X9_begins_60 hts) ⟨zP_blind, va_recv hK hP (ci := 8) (q0 := 0) rfl rfl, zpre hK hN hP hD [0, 1, 2, 3, 4, 5, 6, 7] rfl rfl⟩ rfl rfl hl.1 rfl (lv_room (Nat.le_of_ble_eq_true rfl)) dX9_sniff_13 ⟨Nat.zero_le _, Nat.zero_le _⟩) hP hD hS hA [0, 1, 2, 3, 4, 5, 6, 7] [] [0, 1, 2, 3, 4, 5, 6, 7] (ws' := zwX9 cI h_t h_t_now h_t_file h_t_fresh h_t_colour h_t_table h_t_last h_t_one t_wide t_high t_size t_at t_fault t_newWide t_newHigh t_colours t_now t_file t_fresh t_colour t_table t_last t_one) rfl rfl rfl rfl rfl rfl (fun H locs hP hD hS => ?_)
    refine lv_if_eq (tgt := 43) hx hb dX9_sniff_16 (by decide) (fun c4 => ?_) (fun c4 => ?_)
    · replace hf := zif_t hf c4
      exact wX9_sniff_43 C hN hK hA hE hf hP hD hS (lv_sub hl [0] rfl)
    · replace hf := zif_f hf c4
      refine lv_aload_n hx hb dX9_sniff_19 rfl (lv_at hl 0 rfl) ?_
      refine va_get (D := D) (ci := 8) (v := .ref h_t_file) (C := RX9) (T := TX9) (N := 15) hx hb hts iX9_sniff_X9 hown hK hP 0 rfl rfl 4 (by decide) (kX9_sniff_20 hts) (fun _ h9 => h9) rfl dX9_sniff_20 ?_
      refine lv_iconst (v := 2) hx hb dX9_sniff_23 (by decide) ?_
      obtain ⟨hg6, hf⟩ := zrd_in hf
      refine va_iald hx hb hK hP 2 0 rfl rfl hg6 dX9_sniff_24 ?_
      refine lv_topi (fun x5 ex5 => ?_)
      replace hf := hf x5 ex5
      clear ex5
      refine lv_bipush (v := 105) hx hb dX9_sniff_25 (by decide) ?_
      refine lv_icmp_ne (tgt := 43) hx hb dX9_sniff_27 (by decide) (fun c7 => ?_) (fun c7 => ?_)
      · replace hf := zif_f hf c7
        exact wX9_sniff_43 C hN hK hA hE hf hP hD hS (lv_sub hl [0] rfl)
      · replace hf := zif_t hf c7
        refine lv_aload_n hx hb dX9_sniff_30 rfl (lv_at hl 0 rfl) ?_
        refine va_get (D := D) (ci := 8) (v := .ref h_t_file) (C := RX9) (T := TX9) (N := 15) hx hb hts iX9_sniff_X9 hown hK hP 0 rfl rfl 4 (by decide) (kX9_sniff_20 hts) (fun _ h9 => h9) rfl dX9_sniff_31 ?_
        refine lv_iconst (v := 3) hx hb dX9_sniff_34 (by decide) ?_
        obtain ⟨hg9, hf⟩ := zrd_in hf
        refine va_iald hx hb hK hP 2 0 rfl rfl hg9 dX9_sniff_35 ?_
        refine lv_topi (fun x8 ex8 => ?_)
        replace hf := hf x8 ex8
        clear ex8
        refine lv_bipush (v := 102) hx hb dX9_sniff_36 (by decide) ?_
        refine lv_icmp_ne (tgt := 43) hx hb dX9_sniff_38 (by decide) (fun c10 => ?_) (fun c10 => ?_)
        · replace hf := zif_f hf c10
          exact wX9_sniff_43 C hN hK hA hE hf hP hD hS (lv_sub hl [0] rfl)
        · replace hf := zif_t hf c10
          refine lv_iconst (v := 0) hx hb dX9_sniff_41 (by decide) ?_
          cases hf
          exact hE _ _ _ _ dX9_sniff_42 hP hD hS
set_option maxHeartbeats 4000000 in
set_option maxRecDepth 100000 in
theorem mX9_sniff (l : Launch) (D : va_G) (cI : ClassId) (sz : Nat) (h_t h_t_now h_t_file h_t_fresh h_t_colour h_t_table h_t_last h_t_one : Nat) (t_wide : Int32) (t_high : Int32) (t_size : Int32) (t_at : Int32) (t_fault : Int32) (t_newWide : Int32) (t_newHigh : Int32) (t_colours : Int32) (t_now : Nat → Int32) (t_file : Nat → Int32) (t_fresh : Nat → Int32) (t_colour : Nat → Int32) (t_table : Nat → Int32) (t_last : Nat → Int32) (t_one : Nat → Int32) (r0 : Int32) (hf : fX9_sniff t_size t_file = some r0) : Met l yX9_sniff wsX9_sniff rmX9_sniff (va_Pc [.ref h_t] (zP D [(cI, .int)] (zwX9 cI h_t h_t_now h_t_file h_t_fresh h_t_colour h_t_table h_t_last h_t_one t_wide t_high t_size t_at t_fault t_newWide t_newHigh t_colours t_now t_file t_fresh t_colour t_table t_last t_one) sz)) (zQi D (zwX9 cI h_t h_t_now h_t_file h_t_fresh h_t_colour h_t_table h_t_last h_t_one t_wide t_high t_size t_at t_fault t_newWide t_newHigh t_colours t_now t_file t_fresh t_colour t_table t_last t_one) sz r0 (zwX9 cI h_t h_t_now h_t_file h_t_fresh h_t_colour h_t_table h_t_last h_t_one t_wide t_high t_size t_at t_fault t_newWide t_newHigh t_colours t_now t_file t_fresh t_colour t_table t_last t_one)) 0 0 (va_A (zwX9 cI h_t h_t_now h_t_file h_t_fresh h_t_colour h_t_table h_t_last h_t_one t_wide t_high t_size t_at t_fault t_newWide t_newHigh t_colours t_now t_file t_fresh t_colour t_table t_last t_one) sz) := by
  refine Met.ofW (cc := cX9_sniff) (maxL := 3) (ret := (some .int)) (by decide) rfl ?_
  intro p e s m args below meth c s₁ B hml hv
  obtain ⟨rfl, hsz, hP, hK, hD0, hN⟩ := hv
  subst hsz
  have C : CallFix p m c cX9_sniff 3 s [.ref h_t].toArray wsX9_sniff RX9 := ⟨B.exec, B.bytes, hml, findClass_of_methodNamed B.named, atoms_spec (ws := wsX9_sniff) B.pre⟩
  have hl := lv_entry ([.ref h_t]) (n := 3) (Nat.le_of_ble_eq_true rfl)
  rw [lg_entry_eq]
  exact wX9_sniff_0 (A := va_A (zwX9 cI h_t h_t_now h_t_file h_t_fresh h_t_colour h_t_table h_t_last h_t_one t_wide t_high t_size t_at t_fault t_newWide t_newHigh t_colours t_now t_file t_fresh t_colour t_table t_last t_one) s.heap.size) C hN hK (fun q h => Or.inr h) (fun H locs pc ls d hP hD hS => zend_i C.1 C.2.1 B.returns B.notSynchronized d hP hD hS) hf hP hD0.self va_S.rf hl
