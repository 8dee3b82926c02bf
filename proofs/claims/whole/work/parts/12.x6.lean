def fX6_isThatOf_40 : Option (Int32) :=
  some 1
def fX6_isThatOf (f_size : Int32) (f_bytes : Nat → Int32) : Option (Int32) :=
  zb1 (fX2_at f_size f_bytes 1) fun r1 =>
  zb1 (fX2_at f_size f_bytes 0) fun r3 =>
  if r3 = 80 then
    if r1 = 50 then
      fX6_isThatOf_40
    else
      if r1 = 51 then
        fX6_isThatOf_40
      else
        if r1 = 53 then
          fX6_isThatOf_40
        else
          if r1 = 54 then
            fX6_isThatOf_40
          else
            some 0
  else
    some 0
def fX6_canHold (p_wide : Int32) (p_high : Int32) (p_pixels : Nat → Int32) : Option (Int32) :=
  zb1 (fX5_isOpaque p_wide p_high p_pixels) fun r1 =>
  zbo r1 <|
  some r1
def fX6_writeSample (f_size : Int32) (f_bytes : Nat → Int32) (v0 : Int32) (v1 : Int32) (v2 : Int32) : Option (Int32 × (Nat → Int32)) :=
  if v1 = 0 then
    zb3 (fX2_append f_size f_bytes v0) fun r9 u10 u11 =>
    some (u10, u11)
  else
    zb2 (fX2_appendDigits f_size f_bytes v0) fun u2 u3 =>
    zb3 (fX2_append u2 u3 v2) fun r5 u6 u7 =>
    some (u6, u7)
def fX6_writePixel_28 (f_size : Int32) (f_bytes : Nat → Int32) (l0 : Int32) (l2 : Int32) (l3 : Int32) : Option (Int32 × (Nat → Int32)) :=
  zb1 (fX8_blue l0) fun r1 =>
  zb2 (fX6_writeSample f_size f_bytes r1 l2 l3) fun u3 u4 =>
  some (u3, u4)
def fX6_writePixel (f_size : Int32) (f_bytes : Nat → Int32) (v0 : Int32) (v1 : Int32) (v2 : Int32) (v3 : Int32) : Option (Int32 × (Nat → Int32)) :=
  if v1 = 0 then
    fX6_writePixel_28 f_size f_bytes v0 v2 v3
  else
    zb1 (fX8_red v0) fun r2 =>
    zb2 (fX6_writeSample f_size f_bytes r2 v2 32) fun u4 u5 =>
    zb1 (fX8_green v0) fun r7 =>
    zb2 (fX6_writeSample u4 u5 r7 v2 32) fun u9 u10 =>
    fX6_writePixel_28 u9 u10 v0 v2 v3
def fX6_write_141 (rc102 : Int32 → Int32 → (Nat → Int32) → Int32 → (Nat → Int32) → Int32 → Int32 → Int32 → Option (Int32 × (Nat → Int32))) (rc114 : Int32 → Int32 → (Nat → Int32) → Int32 → (Nat → Int32) → Int32 → Int32 → Int32 → Int32 → Option (Int32 × (Nat → Int32))) (p_wide : Int32) (p_high : Int32) (p_pixels : Nat → Int32) (f_size : Int32) (f_bytes : Nat → Int32) (l2 : Int32) (l4 : Int32) (l5 : Int32) (l6 : Int32) (k0 : Int32) : Option (Int32 × (Nat → Int32)) :=
  zb1 (fX5_at p_wide p_pixels l6 l5) fun r1 =>
  zb2 (fX6_writePixel f_size f_bytes r1 l4 l2 k0) fun u3 u4 =>
  zlet (l6 + 1) fun x6 =>
  rc114 p_wide p_high p_pixels u3 u4 l2 l4 l5 x6
def fX6_write_114 (rc102 : Int32 → Int32 → (Nat → Int32) → Int32 → (Nat → Int32) → Int32 → Int32 → Int32 → Option (Int32 × (Nat → Int32))) : Nat → Int32 → Int32 → (Nat → Int32) → Int32 → (Nat → Int32) → Int32 → Int32 → Int32 → Int32 → Option (Int32 × (Nat → Int32))
  | 0, _, _, _, _, _, _, _, _, _ => none
  | n + 1, p_wide, p_high, p_pixels, f_size, f_bytes, l2, l4, l5, l6 =>
    if p_wide ≤ l6 then
      zlet (l5 + 1) fun x2 =>
      rc102 p_wide p_high p_pixels f_size f_bytes l2 l4 x2
    else
      if (l6 + 1) = p_wide then
        fX6_write_141 rc102 (fX6_write_114 rc102 n) p_wide p_high p_pixels f_size f_bytes l2 l4 l5 l6 10
      else
        fX6_write_141 rc102 (fX6_write_114 rc102 n) p_wide p_high p_pixels f_size f_bytes l2 l4 l5 l6 32
theorem fX6_write_114_s (rc102 : Int32 → Int32 → (Nat → Int32) → Int32 → (Nat → Int32) → Int32 → Int32 → Int32 → Option (Int32 × (Nat → Int32))) (n : Nat) (p_wide : Int32) (p_high : Int32) (p_pixels : Nat → Int32) (f_size : Int32) (f_bytes : Nat → Int32) (l2 : Int32) (l4 : Int32) (l5 : Int32) (l6 : Int32) : fX6_write_114 rc102 (n + 1) p_wide p_high p_pixels f_size f_bytes l2 l4 l5 l6 =
    if p_wide ≤ l6 then
      zlet (l5 + 1) fun x2 =>
      rc102 p_wide p_high p_pixels f_size f_bytes l2 l4 x2
    else
      if (l6 + 1) = p_wide then
        fX6_write_141 rc102 (fX6_write_114 rc102 n) p_wide p_high p_pixels f_size f_bytes l2 l4 l5 l6 10
      else
        fX6_write_141 rc102 (fX6_write_114 rc102 n) p_wide p_high p_pixels f_size f_bytes l2 l4 l5 l6 32 := rfl
def fX6_write_102 : Nat → Int32 → Int32 → (Nat → Int32) → Int32 → (Nat → Int32) → Int32 → Int32 → Int32 → Option (Int32 × (Nat → Int32))
  | 0, _, _, _, _, _, _, _, _ => none
  | n + 1, p_wide, p_high, p_pixels, f_size, f_bytes, l2, l4, l5 =>
    if p_high ≤ l5 then
      some (f_size, f_bytes)
    else
      fX6_write_114 (fX6_write_102 n) 1000 p_wide p_high p_pixels f_size f_bytes l2 l4 l5 0
theorem fX6_write_102_s (n : Nat) (p_wide : Int32) (p_high : Int32) (p_pixels : Nat → Int32) (f_size : Int32) (f_bytes : Nat → Int32) (l2 : Int32) (l4 : Int32) (l5 : Int32) : fX6_write_102 (n + 1) p_wide p_high p_pixels f_size f_bytes l2 l4 l5 =
    if p_high ≤ l5 then
      some (f_size, f_bytes)
    else
      fX6_write_114 (fX6_write_102 n) 1000 p_wide p_high p_pixels f_size f_bytes l2 l4 l5 0 := rfl
def fX6_write_43 (p_wide : Int32) (p_high : Int32) (p_pixels : Nat → Int32) (f_size : Int32) (f_bytes : Nat → Int32) (l2 : Int32) (l4 : Int32) (k1 : Int32) (k2 : Int32) : Option (Int32 × (Nat → Int32)) :=
  zb3 (fX2_append f_size f_bytes (k1 + k2)) fun r1 u2 u3 =>
  zb3 (fX2_append u2 u3 10) fun r5 u6 u7 =>
  zb2 (fX2_appendDigits u6 u7 p_wide) fun u9 u10 =>
  zb3 (fX2_append u9 u10 32) fun r12 u13 u14 =>
  zb2 (fX2_appendDigits u13 u14 p_high) fun u16 u17 =>
  zb3 (fX2_append u16 u17 10) fun r19 u20 u21 =>
  zb2 (fX2_appendDigits u20 u21 255) fun u23 u24 =>
  zb3 (fX2_append u23 u24 10) fun r26 u27 u28 =>
  fX6_write_102 1000 p_wide p_high p_pixels u27 u28 l2 l4 0
def fX6_write_33 (p_wide : Int32) (p_high : Int32) (p_pixels : Nat → Int32) (f_size : Int32) (f_bytes : Nat → Int32) (l2 : Int32) (l4 : Int32) (k1 : Int32) : Option (Int32 × (Nat → Int32)) :=
  if l4 = 0 then
    fX6_write_43 p_wide p_high p_pixels f_size f_bytes l2 l4 k1 0
  else
    fX6_write_43 p_wide p_high p_pixels f_size f_bytes l2 l4 k1 1
def fX6_write_12 (p_wide : Int32) (p_high : Int32) (p_pixels : Nat → Int32) (f_size : Int32) (f_bytes : Nat → Int32) (l2 : Int32) (k0 : Int32) : Option (Int32 × (Nat → Int32)) :=
  zb3 (fX2_append f_size f_bytes 80) fun r1 u2 u3 =>
  if l2 = 0 then
    fX6_write_33 p_wide p_high p_pixels u2 u3 l2 k0 53
  else
    fX6_write_33 p_wide p_high p_pixels u2 u3 l2 k0 50
def fX6_write (p_wide : Int32) (p_high : Int32) (p_pixels : Nat → Int32) (f_size : Int32) (f_bytes : Nat → Int32) (v1 : Int32) : Option (Int32 × (Nat → Int32)) :=
  zb1 (fX5_isGrey p_wide p_high p_pixels) fun r1 =>
  if r1 = 0 then
    fX6_write_12 p_wide p_high p_pixels f_size f_bytes v1 1
  else
    fX6_write_12 p_wide p_high p_pixels f_size f_bytes v1 0
def fX6_isSpace_24 : Option (Int32) :=
  some 1
def fX6_isSpace (v0 : Int32) : Option (Int32) :=
  if v0 = 9 then
    fX6_isSpace_24
  else
    if v0 = 10 then
      fX6_isSpace_24
    else
      if v0 = 13 then
        fX6_isSpace_24
      else
        if v0 = 32 then
          fX6_isSpace_24
        else
          some 0
def fX6_isDigit (v0 : Int32) : Option (Int32) :=
  if v0 < 48 then
    some 0
  else
    if 57 < v0 then
      some 0
    else
      some 1
def fX6_passBlanks_87 (s_place : Int32) (l1 : Int32) : Option (Nat × Int32 × Int32) :=
  if s_place ≤ l1 then
    some (0, 0, s_place)
  else
    some (0, 1, s_place)
def fX6_passBlanks_80 (rc9 : Int32 → Int32 → (Nat → Int32) → Int32 → Int32 → Int32 → Option (Nat × Int32 × Int32)) (s_place : Int32) (s_file_size : Int32) (s_file_bytes : Nat → Int32) (l1 : Int32) (l3 : Int32) (k0 : Int32) : Option (Nat × Int32 × Int32) :=
  zlet (l3 + 1) fun x1 =>
  rc9 s_place s_file_size s_file_bytes l1 k0 x1
def fX6_passBlanks_44 (rc9 : Int32 → Int32 → (Nat → Int32) → Int32 → Int32 → Int32 → Option (Nat × Int32 × Int32)) (s_place : Int32) (s_file_size : Int32) (s_file_bytes : Nat → Int32) (l1 : Int32) (l2 : Int32) (l3 : Int32) (l4 : Int32) : Option (Nat × Int32 × Int32) :=
  zb3 (fX7_next s_place s_file_size s_file_bytes) fun tg1 r2 u3 =>
  if tg1 = 0 then
    if l2 = 0 then
      if l4 = 35 then
        fX6_passBlanks_80 rc9 u3 s_file_size s_file_bytes l1 l3 1
      else
        fX6_passBlanks_80 rc9 u3 s_file_size s_file_bytes l1 l3 0
    else
      if l4 = 10 then
        fX6_passBlanks_80 rc9 u3 s_file_size s_file_bytes l1 l3 0
      else
        fX6_passBlanks_80 rc9 u3 s_file_size s_file_bytes l1 l3 1
  else
    some (tg1, 0, u3)
def fX6_passBlanks_9 : Nat → Int32 → Int32 → (Nat → Int32) → Int32 → Int32 → Int32 → Option (Nat × Int32 × Int32)
  | 0, _, _, _, _, _, _ => none
  | n + 1, s_place, s_file_size, s_file_bytes, l1, l2, l3 =>
    if 800 ≤ l3 then
      fX6_passBlanks_87 s_place l1
    else
      zb1 (fX7_peek s_place s_file_size s_file_bytes) fun r2 =>
      if l2 = 0 then
        if r2 = 35 then
          fX6_passBlanks_44 (fX6_passBlanks_9 n) s_place s_file_size s_file_bytes l1 l2 l3 r2
        else
          zb1 (fX6_isSpace r2) fun r6 =>
          if r6 = 0 then
            fX6_passBlanks_87 s_place l1
          else
            fX6_passBlanks_44 (fX6_passBlanks_9 n) s_place s_file_size s_file_bytes l1 l2 l3 r2
      else
        fX6_passBlanks_44 (fX6_passBlanks_9 n) s_place s_file_size s_file_bytes l1 l2 l3 r2
theorem fX6_passBlanks_9_s (n : Nat) (s_place : Int32) (s_file_size : Int32) (s_file_bytes : Nat → Int32) (l1 : Int32) (l2 : Int32) (l3 : Int32) : fX6_passBlanks_9 (n + 1) s_place s_file_size s_file_bytes l1 l2 l3 =
    if 800 ≤ l3 then
      fX6_passBlanks_87 s_place l1
    else
      zb1 (fX7_peek s_place s_file_size s_file_bytes) fun r2 =>
      if l2 = 0 then
        if r2 = 35 then
          fX6_passBlanks_44 (fX6_passBlanks_9 n) s_place s_file_size s_file_bytes l1 l2 l3 r2
        else
          zb1 (fX6_isSpace r2) fun r6 =>
          if r6 = 0 then
            fX6_passBlanks_87 s_place l1
          else
            fX6_passBlanks_44 (fX6_passBlanks_9 n) s_place s_file_size s_file_bytes l1 l2 l3 r2
      else
        fX6_passBlanks_44 (fX6_passBlanks_9 n) s_place s_file_size s_file_bytes l1 l2 l3 r2 := rfl
def fX6_passBlanks (s_place : Int32) (s_file_size : Int32) (s_file_bytes : Nat → Int32) : Option (Nat × Int32 × Int32) :=
  fX6_passBlanks_9 1000 s_place s_file_size s_file_bytes s_place 0 0
def fX6_number_89 (s_place : Int32) (l3 : Int32) (k1 : Int32) : Option (Nat × Int32 × Int32) :=
  zb1 (fX7_need k1) fun tg1 =>
  if tg1 = 0 then
    some (0, l3, s_place)
  else
    some (tg1, 0, s_place)
def fX6_number_73 (s_place : Int32) (s_file_size : Int32) (s_file_bytes : Nat → Int32) (l3 : Int32) : Option (Nat × Int32 × Int32) :=
  zb1 (fX7_peek s_place s_file_size s_file_bytes) fun r1 =>
  zb1 (fX6_isDigit r1) fun r3 =>
  if r3 = 0 then
    fX6_number_89 s_place l3 1
  else
    fX6_number_89 s_place l3 0
def fX6_number_38 : Nat → Int32 → Int32 → (Nat → Int32) → Int32 → Int32 → Option (Nat × Int32 × Int32)
  | 0, _, _, _, _, _ => none
  | n + 1, s_place, s_file_size, s_file_bytes, l3, l4 =>
    if 4 ≤ l4 then
      fX6_number_73 s_place s_file_size s_file_bytes l3
    else
      zb1 (fX7_peek s_place s_file_size s_file_bytes) fun r2 =>
      zb1 (fX6_isDigit r2) fun r4 =>
      if r4 = 0 then
        fX6_number_73 s_place s_file_size s_file_bytes l3
      else
        zb3 (fX7_next s_place s_file_size s_file_bytes) fun tg7 r8 u9 =>
        if tg7 = 0 then
          zlet (((l3 * 10) + r8) - 48) fun x11 =>
          zlet (l4 + 1) fun x12 =>
          (fX6_number_38 n) u9 s_file_size s_file_bytes x11 x12
        else
          some (tg7, 0, u9)
theorem fX6_number_38_s (n : Nat) (s_place : Int32) (s_file_size : Int32) (s_file_bytes : Nat → Int32) (l3 : Int32) (l4 : Int32) : fX6_number_38 (n + 1) s_place s_file_size s_file_bytes l3 l4 =
    if 4 ≤ l4 then
      fX6_number_73 s_place s_file_size s_file_bytes l3
    else
      zb1 (fX7_peek s_place s_file_size s_file_bytes) fun r2 =>
      zb1 (fX6_isDigit r2) fun r4 =>
      if r4 = 0 then
        fX6_number_73 s_place s_file_size s_file_bytes l3
      else
        zb3 (fX7_next s_place s_file_size s_file_bytes) fun tg7 r8 u9 =>
        if tg7 = 0 then
          zlet (((l3 * 10) + r8) - 48) fun x11 =>
          zlet (l4 + 1) fun x12 =>
          (fX6_number_38 n) u9 s_file_size s_file_bytes x11 x12
        else
          some (tg7, 0, u9) := rfl
def fX6_number_27 (s_place : Int32) (s_file_size : Int32) (s_file_bytes : Nat → Int32) (l2 : Int32) (k1 : Int32) : Option (Nat × Int32 × Int32) :=
  zb1 (fX7_need k1) fun tg1 =>
  if tg1 = 0 then
    zlet (l2 - 48) fun x3 =>
    fX6_number_38 1000 s_place s_file_size s_file_bytes x3 1
  else
    some (tg1, 0, s_place)
def fX6_number_26 (s_place : Int32) (s_file_size : Int32) (s_file_bytes : Nat → Int32) (l2 : Int32) : Option (Nat × Int32 × Int32) :=
  fX6_number_27 s_place s_file_size s_file_bytes l2 0
def fX6_number (s_place : Int32) (s_file_size : Int32) (s_file_bytes : Nat → Int32) : Option (Nat × Int32 × Int32) :=
  zb3 (fX6_passBlanks s_place s_file_size s_file_bytes) fun tg1 r2 u3 =>
  if tg1 = 0 then
    zb3 (fX7_next u3 s_file_size s_file_bytes) fun tg5 r6 u7 =>
    if tg5 = 0 then
      if r2 = 0 then
        fX6_number_26 u7 s_file_size s_file_bytes r6
      else
        zb1 (fX6_isDigit r6) fun r10 =>
        if r10 = 0 then
          fX6_number_26 u7 s_file_size s_file_bytes r6
        else
          fX6_number_27 u7 s_file_size s_file_bytes r6 1
    else
      some (tg5, 0, u7)
  else
    some (tg1, 0, u3)
def fX6_sample_33 (t_greatest : Int32) (s_place : Int32) (l2 : Int32) (k1 : Int32) : Option (Nat × Int32 × Int32) :=
  zb1 (fX7_need k1) fun tg1 =>
  if tg1 = 0 then
    znz t_greatest <|
    some (0, ((l2 * 255) + (t_greatest / 2)) / t_greatest, s_place)
  else
    some (tg1, 0, s_place)
def fX6_sample_18 (t_greatest : Int32) (s_place : Int32) (k0 : Int32) : Option (Nat × Int32 × Int32) :=
  if t_greatest < k0 then
    fX6_sample_33 t_greatest s_place k0 0
  else
    fX6_sample_33 t_greatest s_place k0 1
def fX6_sample (t_inDigits : Int32) (t_greatest : Int32) (s_place : Int32) (s_file_size : Int32) (s_file_bytes : Nat → Int32) : Option (Nat × Int32 × Int32) :=
  if t_inDigits = 0 then
    zb3 (fX7_next s_place s_file_size s_file_bytes) fun tg2 r3 u4 =>
    if tg2 = 0 then
      fX6_sample_18 t_greatest u4 r3
    else
      some (tg2, 0, u4)
  else
    zb3 (fX6_number s_place s_file_size s_file_bytes) fun tg6 r7 u8 =>
    if tg6 = 0 then
      fX6_sample_18 t_greatest u8 r7
    else
      some (tg6, 0, u8)
def fX6_readSamples_49 (rc3 : Int32 → Int32 → Int32 → Int32 → (Nat → Int32) → Int32 → Int32 → (Nat → Int32) → Int32 → Int32 → Option (Nat × Int32 × (Nat → Int32))) (t_inDigits : Int32) (t_greatest : Int32) (s_place : Int32) (s_file_size : Int32) (s_file_bytes : Nat → Int32) (p_wide : Int32) (p_high : Int32) (p_pixels : Nat → Int32) (l2 : Int32) (l4 : Int32) (l5 : Int32) (l6 : Int32) (k0 : Int32) : Option (Nat × Int32 × (Nat → Int32)) :=
  zb1 (fX8_opaque l5 l6 k0) fun r1 =>
  zwr p_pixels 64 l4 r1 fun g3 =>
  zlet (l4 + 1) fun x5 =>
  rc3 t_inDigits t_greatest s_place s_file_size s_file_bytes p_wide p_high g3 l2 x5
def fX6_readSamples_33 (rc3 : Int32 → Int32 → Int32 → Int32 → (Nat → Int32) → Int32 → Int32 → (Nat → Int32) → Int32 → Int32 → Option (Nat × Int32 × (Nat → Int32))) (t_inDigits : Int32) (t_greatest : Int32) (s_place : Int32) (s_file_size : Int32) (s_file_bytes : Nat → Int32) (p_wide : Int32) (p_high : Int32) (p_pixels : Nat → Int32) (l2 : Int32) (l4 : Int32) (l5 : Int32) (k0 : Int32) : Option (Nat × Int32 × (Nat → Int32)) :=
  if l2 = 0 then
    fX6_readSamples_49 rc3 t_inDigits t_greatest s_place s_file_size s_file_bytes p_wide p_high p_pixels l2 l4 l5 k0 l5
  else
    zb3 (fX6_sample t_inDigits t_greatest s_place s_file_size s_file_bytes) fun tg2 r3 u4 =>
    if tg2 = 0 then
      fX6_readSamples_49 rc3 t_inDigits t_greatest u4 s_file_size s_file_bytes p_wide p_high p_pixels l2 l4 l5 k0 r3
    else
      some (tg2, u4, p_pixels)
def fX6_readSamples_3 : Nat → Int32 → Int32 → Int32 → Int32 → (Nat → Int32) → Int32 → Int32 → (Nat → Int32) → Int32 → Int32 → Option (Nat × Int32 × (Nat → Int32))
  | 0, _, _, _, _, _, _, _, _, _, _ => none
  | n + 1, t_inDigits, t_greatest, s_place, s_file_size, s_file_bytes, p_wide, p_high, p_pixels, l2, l4 =>
    zb1 (fX5_count p_wide p_high) fun r1 =>
    if r1 ≤ l4 then
      some (0, s_place, p_pixels)
    else
      zb3 (fX6_sample t_inDigits t_greatest s_place s_file_size s_file_bytes) fun tg4 r5 u6 =>
      if tg4 = 0 then
        if l2 = 0 then
          fX6_readSamples_33 (fX6_readSamples_3 n) t_inDigits t_greatest u6 s_file_size s_file_bytes p_wide p_high p_pixels l2 l4 r5 r5
        else
          zb3 (fX6_sample t_inDigits t_greatest u6 s_file_size s_file_bytes) fun tg9 r10 u11 =>
          if tg9 = 0 then
            fX6_readSamples_33 (fX6_readSamples_3 n) t_inDigits t_greatest u11 s_file_size s_file_bytes p_wide p_high p_pixels l2 l4 r5 r10
          else
            some (tg9, u11, p_pixels)
      else
        some (tg4, u6, p_pixels)
theorem fX6_readSamples_3_s (n : Nat) (t_inDigits : Int32) (t_greatest : Int32) (s_place : Int32) (s_file_size : Int32) (s_file_bytes : Nat → Int32) (p_wide : Int32) (p_high : Int32) (p_pixels : Nat → Int32) (l2 : Int32) (l4 : Int32) : fX6_readSamples_3 (n + 1) t_inDigits t_greatest s_place s_file_size s_file_bytes p_wide p_high p_pixels l2 l4 =
    zb1 (fX5_count p_wide p_high) fun r1 =>
    if r1 ≤ l4 then
      some (0, s_place, p_pixels)
    else
      zb3 (fX6_sample t_inDigits t_greatest s_place s_file_size s_file_bytes) fun tg4 r5 u6 =>
      if tg4 = 0 then
        if l2 = 0 then
          fX6_readSamples_33 (fX6_readSamples_3 n) t_inDigits t_greatest u6 s_file_size s_file_bytes p_wide p_high p_pixels l2 l4 r5 r5
        else
          zb3 (fX6_sample t_inDigits t_greatest u6 s_file_size s_file_bytes) fun tg9 r10 u11 =>
          if tg9 = 0 then
            fX6_readSamples_33 (fX6_readSamples_3 n) t_inDigits t_greatest u11 s_file_size s_file_bytes p_wide p_high p_pixels l2 l4 r5 r10
          else
            some (tg9, u11, p_pixels)
      else
        some (tg4, u6, p_pixels) := rfl
def fX6_readSamples (t_inDigits : Int32) (t_greatest : Int32) (s_place : Int32) (s_file_size : Int32) (s_file_bytes : Nat → Int32) (p_wide : Int32) (p_high : Int32) (p_pixels : Nat → Int32) (v1 : Int32) : Option (Nat × Int32 × (Nat → Int32)) :=
  fX6_readSamples_3 1000 t_inDigits t_greatest s_place s_file_size s_file_bytes p_wide p_high p_pixels v1 0
def fX6_read_147 (t_inDigits : Int32) (t_greatest : Int32) (s_place : Int32) (s_file_size : Int32) (p_wide : Int32) (p_high : Int32) (p_pixels : Nat → Int32) : Option (Nat × Int32 × Int32 × Int32 × Int32 × Int32 × (Nat → Int32)) :=
  zb1 (fX7_isAtEnd s_place s_file_size) fun r1 =>
  zb1 (fX7_need r1) fun tg3 =>
  if tg3 = 0 then
    some (0, t_inDigits, t_greatest, s_place, p_wide, p_high, p_pixels)
  else
    some (tg3, t_inDigits, t_greatest, s_place, p_wide, p_high, p_pixels)
def fX6_read_131 (t_inDigits : Int32) (t_greatest : Int32) (s_place : Int32) (s_file_size : Int32) (s_file_bytes : Nat → Int32) (p_wide : Int32) (p_high : Int32) (p_pixels : Nat → Int32) (k2 : Int32) : Option (Nat × Int32 × Int32 × Int32 × Int32 × Int32 × (Nat → Int32)) :=
  zb3 (fX6_readSamples t_inDigits t_greatest s_place s_file_size s_file_bytes p_wide p_high p_pixels k2) fun tg1 u2 u3 =>
  if tg1 = 0 then
    if t_inDigits = 0 then
      fX6_read_147 t_inDigits t_greatest u2 s_file_size p_wide p_high u3
    else
      zb3 (fX6_passBlanks u2 s_file_size s_file_bytes) fun tg6 r7 u8 =>
      if tg6 = 0 then
        fX6_read_147 t_inDigits t_greatest u8 s_file_size p_wide p_high u3
      else
        some (tg6, t_inDigits, t_greatest, u8, p_wide, p_high, u3)
  else
    some (tg1, t_inDigits, t_greatest, u2, p_wide, p_high, u3)
def fX6_read_126 (t_inDigits : Int32) (t_greatest : Int32) (s_place : Int32) (s_file_size : Int32) (s_file_bytes : Nat → Int32) (p_wide : Int32) (p_high : Int32) (p_pixels : Nat → Int32) : Option (Nat × Int32 × Int32 × Int32 × Int32 × Int32 × (Nat → Int32)) :=
  fX6_read_131 t_inDigits t_greatest s_place s_file_size s_file_bytes p_wide p_high p_pixels 1
def fX6_read_104 (t_inDigits : Int32) (t_greatest : Int32) (s_place : Int32) (s_file_size : Int32) (s_file_bytes : Nat → Int32) (p_pixels : Nat → Int32) (l3 : Int32) (l4 : Int32) (l5 : Int32) : Option (Nat × Int32 × Int32 × Int32 × Int32 × Int32 × (Nat → Int32)) :=
  zb3 (fX5_begin p_pixels l4 l5) fun u1 u2 u3 =>
  if l3 = 51 then
    fX6_read_126 t_inDigits t_greatest s_place s_file_size s_file_bytes u1 u2 u3
  else
    if l3 = 54 then
      fX6_read_126 t_inDigits t_greatest s_place s_file_size s_file_bytes u1 u2 u3
    else
      fX6_read_131 t_inDigits t_greatest s_place s_file_size s_file_bytes u1 u2 u3 0
def fX6_read_83 (t_inDigits : Int32) (t_greatest : Int32) (s_place : Int32) (s_file_size : Int32) (s_file_bytes : Nat → Int32) (p_wide : Int32) (p_high : Int32) (p_pixels : Nat → Int32) (l3 : Int32) (l4 : Int32) (l5 : Int32) (k1 : Int32) : Option (Nat × Int32 × Int32 × Int32 × Int32 × Int32 × (Nat → Int32)) :=
  zb1 (fX7_need k1) fun tg1 =>
  if tg1 = 0 then
    if t_inDigits = 0 then
      zb3 (fX7_next s_place s_file_size s_file_bytes) fun tg4 r5 u6 =>
      if tg4 = 0 then
        zb1 (fX6_isSpace r5) fun r8 =>
        zb1 (fX7_need r8) fun tg10 =>
        if tg10 = 0 then
          fX6_read_104 t_inDigits t_greatest u6 s_file_size s_file_bytes p_pixels l3 l4 l5
        else
          some (tg10, t_inDigits, t_greatest, u6, p_wide, p_high, p_pixels)
      else
        some (tg4, t_inDigits, t_greatest, u6, p_wide, p_high, p_pixels)
    else
      fX6_read_104 t_inDigits t_greatest s_place s_file_size s_file_bytes p_pixels l3 l4 l5
  else
    some (tg1, t_inDigits, t_greatest, s_place, p_wide, p_high, p_pixels)
def fX6_read_82 (t_inDigits : Int32) (t_greatest : Int32) (s_place : Int32) (s_file_size : Int32) (s_file_bytes : Nat → Int32) (p_wide : Int32) (p_high : Int32) (p_pixels : Nat → Int32) (l3 : Int32) (l4 : Int32) (l5 : Int32) : Option (Nat × Int32 × Int32 × Int32 × Int32 × Int32 × (Nat → Int32)) :=
  fX6_read_83 t_inDigits t_greatest s_place s_file_size s_file_bytes p_wide p_high p_pixels l3 l4 l5 0
def fX6_read_28 (t_greatest : Int32) (s_place : Int32) (s_file_size : Int32) (s_file_bytes : Nat → Int32) (p_wide : Int32) (p_high : Int32) (p_pixels : Nat → Int32) (l3 : Int32) (k1 : Int32) : Option (Nat × Int32 × Int32 × Int32 × Int32 × Int32 × (Nat → Int32)) :=
  zbo k1 <|
  zb3 (fX6_number s_place s_file_size s_file_bytes) fun tg2 r3 u4 =>
  if tg2 = 0 then
    zb2 (fX7_needSide r3) fun tg6 r7 =>
    if tg6 = 0 then
      zb3 (fX6_number u4 s_file_size s_file_bytes) fun tg9 r10 u11 =>
      if tg9 = 0 then
        zb2 (fX7_needSide r10) fun tg13 r14 =>
        if tg13 = 0 then
          zb3 (fX6_number u11 s_file_size s_file_bytes) fun tg16 r17 u18 =>
          if tg16 = 0 then
            if r17 < 1 then
              fX6_read_82 k1 r17 u18 s_file_size s_file_bytes p_wide p_high p_pixels l3 r7 r14
            else
              if 255 < r17 then
                fX6_read_82 k1 r17 u18 s_file_size s_file_bytes p_wide p_high p_pixels l3 r7 r14
              else
                fX6_read_83 k1 r17 u18 s_file_size s_file_bytes p_wide p_high p_pixels l3 r7 r14 1
          else
            some (tg16, k1, t_greatest, u18, p_wide, p_high, p_pixels)
        else
          some (tg13, k1, t_greatest, u11, p_wide, p_high, p_pixels)
      else
        some (tg9, k1, t_greatest, u11, p_wide, p_high, p_pixels)
    else
      some (tg6, k1, t_greatest, u4, p_wide, p_high, p_pixels)
  else
    some (tg2, k1, t_greatest, u4, p_wide, p_high, p_pixels)
def fX6_read_23 (t_greatest : Int32) (s_place : Int32) (s_file_size : Int32) (s_file_bytes : Nat → Int32) (p_wide : Int32) (p_high : Int32) (p_pixels : Nat → Int32) (l3 : Int32) : Option (Nat × Int32 × Int32 × Int32 × Int32 × Int32 × (Nat → Int32)) :=
  fX6_read_28 t_greatest s_place s_file_size s_file_bytes p_wide p_high p_pixels l3 1
def fX6_read (t_inDigits : Int32) (t_greatest : Int32) (s_place : Int32) (s_file_size : Int32) (s_file_bytes : Nat → Int32) (p_wide : Int32) (p_high : Int32) (p_pixels : Nat → Int32) : Option (Nat × Int32 × Int32 × Int32 × Int32 × Int32 × (Nat → Int32)) :=
  zb2 (fX7_pass s_place s_file_size s_file_bytes 1) fun tg1 u2 =>
  if tg1 = 0 then
    zb3 (fX7_next u2 s_file_size s_file_bytes) fun tg4 r5 u6 =>
    if tg4 = 0 then
      if r5 = 50 then
        fX6_read_23 t_greatest u6 s_file_size s_file_bytes p_wide p_high p_pixels r5
      else
        if r5 = 51 then
          fX6_read_23 t_greatest u6 s_file_size s_file_bytes p_wide p_high p_pixels r5
        else
          fX6_read_28 t_greatest u6 s_file_size s_file_bytes p_wide p_high p_pixels r5 0
    else
      some (tg4, t_inDigits, t_greatest, u6, p_wide, p_high, p_pixels)
  else
    some (tg1, t_inDigits, t_greatest, u2, p_wide, p_high, p_pixels)
def rmX6_isThatOf : Room := { frames := 1, cells := 0, slots := 0, locals := 21 }
theorem qX6_isThatOf_X2_at_9 {args : Array Value} {s : State} (hts : ∀ w ∈ wsX6_isThatOf, w.before args s = true) : CallW rmX6_isThatOf s args RX6 RX2 9 yX2_at cX2_at 2 (some .int) wsX2_at rmX2_at 0 0 1 := cwV 1 hts gX6_isThatOf_X2_at rfl rfl rfl (by decide +kernel) ⟨Nat.le_of_ble_eq_true rfl, Nat.le_of_ble_eq_true rfl⟩
set_option maxHeartbeats 4000000 in
set_option maxRecDepth 100000 in
theorem wX6_isThatOf_40 {p : Program} {l : Launch} {e : Env} {s : State} {m : MethodId} {args : Array Value} {below : List Frame} {meth : Method} {c : Code} {D : va_G} {A : Nat → Prop} {Q : State → Prop} {cI : ClassId} {h_t h_f h_f_bytes : Nat} {t_inDigits : Int32} {t_greatest : Int32} {f_size : Int32} {f_bytes : Nat → Int32} {r0 : Int32} (C : CallFix p m c cX6_isThatOf 3 s args wsX6_isThatOf RX6) (hN : zN s) (hK : va_K D vwCl [(cI, .int)] s) (hA : ∀ q, s.heap.size ≤ q → A q) (hE : zEz p l e rmX6_isThatOf s m args below meth c cX6_isThatOf D A Q (zwX6 cI h_t t_inDigits t_greatest ++ zwX2 cI h_f h_f_bytes f_size f_bytes) r0) {l2 : Int32} {H : Heap} {locs : List Loc} {ls : Array Slot} : fX6_isThatOf_40 = some r0 → va_P D vwCl (zwX6 cI h_t t_inDigits t_greatest ++ zwX2 cI h_f h_f_bytes f_size f_bytes) H → va_D A (zwX6 cI h_t t_inDigits t_greatest ++ zwX2 cI h_f h_f_bytes f_size f_bytes) → va_S A s.heap H locs → lv_has ls 3 [(0, .ref h_t), (1, .ref h_f), (2, .int l2)] → W p l e rmX6_isThatOf s m args below meth c H locs 0 0 Q (F0 m 40 ls []) := by
  intro hf hP hD hS hl
  obtain ⟨hx, hb, hml, hown, hts⟩ := id C
  unfold fX6_isThatOf_40 at hf
  refine lv_iconst (v := 1) hx hb dX6_isThatOf_40 (by decide) ?_
  refine lv_goto (tgt := 45) hx hb dX6_isThatOf_41 (by decide) ?_
  cases hf
  exact hE _ _ _ _ dX6_isThatOf_45 rfl hP hD hS
set_option maxHeartbeats 4000000 in
set_option maxRecDepth 100000 in
theorem wX6_isThatOf_0 {p : Program} {l : Launch} {e : Env} {s : State} {m : MethodId} {args : Array Value} {below : List Frame} {meth : Method} {c : Code} {D : va_G} {A : Nat → Prop} {Q : State → Prop} {cI : ClassId} {h_t h_f h_f_bytes : Nat} {t_inDigits : Int32} {t_greatest : Int32} {f_size : Int32} {f_bytes : Nat → Int32} {r0 : Int32} (C : CallFix p m c cX6_isThatOf 3 s args wsX6_isThatOf RX6) (hN : zN s) (hK : va_K D vwCl [(cI, .int)] s) (hA : ∀ q, s.heap.size ≤ q → A q) (hE : zEz p l e rmX6_isThatOf s m args below meth c cX6_isThatOf D A Q (zwX6 cI h_t t_inDigits t_greatest ++ zwX2 cI h_f h_f_bytes f_size f_bytes) r0) {H : Heap} {locs : List Loc} {ls : Array Slot} : fX6_isThatOf f_size f_bytes = some r0 → va_P D vwCl (zwX6 cI h_t t_inDigits t_greatest ++ zwX2 cI h_f h_f_bytes f_size f_bytes) H → va_D A (zwX6 cI h_t t_inDigits t_greatest ++ zwX2 cI h_f h_f_bytes f_size f_bytes) → va_S A s.heap H locs → lv_has ls 3 [(0, .ref h_t), (1, .ref h_f)] → W p l e rmX6_isThatOf s m args below meth c H locs 0 0 Q (F0 m 0 ls []) := by
  intro hf hP hD hS hl
  obtain ⟨hx, hb, hml, hown, hts⟩ := id C
  unfold fX6_isThatOf at hf
  refine lv_aload_n hx hb dX6_isThatOf_0 rfl (lv_at hl 1 rfl) ?_
  refine lv_iconst (v := 1) hx hb dX6_isThatOf_1 (by decide) ?_
  obtain ⟨r1, hc2, hf⟩ := zb1_in hf
  refine zc_i (va_runV (As := [.int 1]) (rest := []) C (mX2_at l D cI H.size h_f h_f_bytes f_size f_bytes 1 r1 hc2) (qX6_isThatOf_X2_at_9 hts) ⟨zP_blind, va_recv hK hP (ci := 2) (q0 := 1) rfl rfl, zpre hK hN hP hD [1, 2] rfl rfl⟩ rfl rfl hl.1 rfl (lv_room (Nat.le_of_ble_eq_true rfl)) dX6_isThatOf_2 ⟨Nat.zero_le _, Nat.zero_le _⟩) hP hD hS hA [1, 2] [0] [0, 1, 2] (ws' := zwX6 cI h_t t_inDigits t_greatest ++ zwX2 cI h_f h_f_bytes f_size f_bytes) rfl rfl rfl rfl rfl rfl (fun H locs hP hD hS => ?_)
  refine lv_istore_n (lv' := [(2, .int r1), (0, .ref h_t), (1, .ref h_f)]) hx hb dX6_isThatOf_5 rfl hl (by decide) rfl (fun ls hl => ?_)
  refine lv_aload_n hx hb dX6_isThatOf_6 rfl (lv_at hl 2 rfl) ?_
  refine lv_iconst (v := 0) hx hb dX6_isThatOf_7 (by decide) ?_
  obtain ⟨r3, hc4, hf⟩ := zb1_in hf
  refine zc_i (va_runV (As := [.int 0]) (rest := []) C (mX2_at l D cI H.size h_f h_f_bytes f_size f_bytes 0 r3 hc4) (qX6_isThatOf_X2_at_9 hts) ⟨zP_blind, va_recv hK hP (ci := 2) (q0 := 1) rfl rfl, zpre hK hN hP hD [1, 2] rfl rfl⟩ rfl rfl hl.1 rfl (lv_room (Nat.le_of_ble_eq_true rfl)) dX6_isThatOf_8 ⟨Nat.zero_le _, Nat.zero_le _⟩) hP hD hS hA [1, 2] [0] [0, 1, 2] (ws' := zwX6 cI h_t t_inDigits t_greatest ++ zwX2 cI h_f h_f_bytes f_size f_bytes) rfl rfl rfl rfl rfl rfl (fun H locs hP hD hS => ?_)
  refine lv_bipush (v := 80) hx hb dX6_isThatOf_11 (by decide) ?_
  refine lv_icmp_ne (tgt := 44) hx hb dX6_isThatOf_13 (by decide) (fun c5 => ?_) (fun c5 => ?_)
  · replace hf := zif_f hf c5
    refine lv_iconst (v := 0) hx hb dX6_isThatOf_44 (by decide) ?_
    cases hf
    exact hE _ _ _ _ dX6_isThatOf_45 rfl hP hD hS
  · replace hf := zif_t hf c5
    refine lv_iload_n hx hb dX6_isThatOf_16 rfl (lv_at hl 0 rfl) ?_
    refine lv_bipush (v := 50) hx hb dX6_isThatOf_17 (by decide) ?_
    refine lv_icmp_eq (tgt := 40) hx hb dX6_isThatOf_19 (by decide) (fun c6 => ?_) (fun c6 => ?_)
    · replace hf := zif_t hf c6
      exact wX6_isThatOf_40 C hN hK hA hE hf hP hD hS (lv_sub hl [1, 2, 0] rfl)
    · replace hf := zif_f hf c6
      refine lv_iload_n hx hb dX6_isThatOf_22 rfl (lv_at hl 0 rfl) ?_
      refine lv_bipush (v := 51) hx hb dX6_isThatOf_23 (by decide) ?_
      refine lv_icmp_eq (tgt := 40) hx hb dX6_isThatOf_25 (by decide) (fun c7 => ?_) (fun c7 => ?_)
      · replace hf := zif_t hf c7
        exact wX6_isThatOf_40 C hN hK hA hE hf hP hD hS (lv_sub hl [1, 2, 0] rfl)
      · replace hf := zif_f hf c7
        refine lv_iload_n hx hb dX6_isThatOf_28 rfl (lv_at hl 0 rfl) ?_
        refine lv_bipush (v := 53) hx hb dX6_isThatOf_29 (by decide) ?_
        refine lv_icmp_eq (tgt := 40) hx hb dX6_isThatOf_31 (by decide) (fun c8 => ?_) (fun c8 => ?_)
        · replace hf := zif_t hf c8
          exact wX6_isThatOf_40 C hN hK hA hE hf hP hD hS (lv_sub hl [1, 2, 0] rfl)
        · replace hf := zif_f hf c8
          refine lv_iload_n hx hb dX6_isThatOf_34 rfl (lv_at hl 0 rfl) ?_
          refine lv_bipush (v := 54) hx hb dX6_isThatOf_35 (by decide) ?_
          refine lv_icmp_ne (tgt := 44) hx hb dX6_isThatOf_37 (by decide) (fun c9 => ?_) (fun c9 => ?_)
          · replace hf := zif_f hf c9
            refine lv_iconst (v := 0) hx hb dX6_isThatOf_44 (by decide) ?_
            cases hf
            exact hE _ _ _ _ dX6_isThatOf_45 rfl hP hD hS
          · replace hf := zif_t hf c9
            exact wX6_isThatOf_40 C hN hK hA hE hf hP hD hS (lv_sub hl [1, 2, 0] rfl)
set_option maxHeartbeats 4000000 in
set_option maxRecDepth 100000 in
theorem mX6_isThatOf (l : Launch) (D : va_G) (cI : ClassId) (sz : Nat) (h_t h_f h_f_bytes : Nat) (t_inDigits : Int32) (t_greatest : Int32) (f_size : Int32) (f_bytes : Nat → Int32) (r0 : Int32) (hf : fX6_isThatOf f_size f_bytes = some r0) : Met l yX6_isThatOf wsX6_isThatOf rmX6_isThatOf (va_Pc [.ref h_t, .ref h_f] (zP D [(cI, .int)] (zwX6 cI h_t t_inDigits t_greatest ++ zwX2 cI h_f h_f_bytes f_size f_bytes) sz)) (zQi D (zwX6 cI h_t t_inDigits t_greatest ++ zwX2 cI h_f h_f_bytes f_size f_bytes) sz r0 (zwX6 cI h_t t_inDigits t_greatest ++ zwX2 cI h_f h_f_bytes f_size f_bytes)) 0 0 (va_A (zwX6 cI h_t t_inDigits t_greatest ++ zwX2 cI h_f h_f_bytes f_size f_bytes) sz) := by
  refine Met.ofW (cc := cX6_isThatOf) (maxL := 3) (ret := (some .boolean)) (by decide) rfl ?_
  intro p e s m args below meth c s₁ B hml hv
  obtain ⟨rfl, hsz, hP, hK, hD0, hN⟩ := hv
  subst hsz
  have C : CallFix p m c cX6_isThatOf 3 s [.ref h_t, .ref h_f].toArray wsX6_isThatOf RX6 := ⟨B.exec, B.bytes, hml, findClass_of_methodNamed B.named, atoms_spec (ws := wsX6_isThatOf) B.pre⟩
  have hl := lv_entry ([.ref h_t, .ref h_f]) (n := 3) (Nat.le_of_ble_eq_true rfl)
  rw [lg_entry_eq]
  exact wX6_isThatOf_0 (A := va_A (zwX6 cI h_t t_inDigits t_greatest ++ zwX2 cI h_f h_f_bytes f_size f_bytes) s.heap.size) C hN hK (fun q h => Or.inr h) (fun H locs pc ls d hn hP hD hS => zend_z C.1 C.2.1 B.returns B.notSynchronized d hn hP hD hS) hf hP hD0.self va_S.rf hl
def rmX6_canHold : Room := { frames := 2, cells := 0, slots := 0, locals := 41 }
theorem qX6_canHold_X5_isOpaque_15 {args : Array Value} {s : State} (hts : ∀ w ∈ wsX6_canHold, w.before args s = true) : CallW rmX6_canHold s args RX6 RX5 15 yX5_isOpaque cX5_isOpaque 2 (some .boolean) wsX5_isOpaque rmX5_isOpaque 0 0 0 := cwV 0 hts gX6_canHold_X5_isOpaque rfl rfl rfl (by decide +kernel) ⟨Nat.le_of_ble_eq_true rfl, Nat.le_of_ble_eq_true rfl⟩
set_option maxHeartbeats 4000000 in
set_option maxRecDepth 100000 in
theorem wX6_canHold_0 {p : Program} {l : Launch} {e : Env} {s : State} {m : MethodId} {args : Array Value} {below : List Frame} {meth : Method} {c : Code} {D : va_G} {A : Nat → Prop} {Q : State → Prop} {cI : ClassId} {h_t h_p h_p_pixels : Nat} {t_inDigits : Int32} {t_greatest : Int32} {p_wide : Int32} {p_high : Int32} {p_pixels : Nat → Int32} {r0 : Int32} (C : CallFix p m c cX6_canHold 2 s args wsX6_canHold RX6) (hN : zN s) (hK : va_K D vwCl [(cI, .int)] s) (hA : ∀ q, s.heap.size ≤ q → A q) (hE : zEz p l e rmX6_canHold s m args below meth c cX6_canHold D A Q (zwX6 cI h_t t_inDigits t_greatest ++ zwX5 cI h_p h_p_pixels p_wide p_high p_pixels) r0) {H : Heap} {locs : List Loc} {ls : Array Slot} : fX6_canHold p_wide p_high p_pixels = some r0 → va_P D vwCl (zwX6 cI h_t t_inDigits t_greatest ++ zwX5 cI h_p h_p_pixels p_wide p_high p_pixels) H → va_D A (zwX6 cI h_t t_inDigits t_greatest ++ zwX5 cI h_p h_p_pixels p_wide p_high p_pixels) → va_S A s.heap H locs → lv_has ls 2 [(0, .ref h_t), (1, .ref h_p)] → W p l e rmX6_canHold s m args below meth c H locs 0 0 Q (F0 m 0 ls []) := by
  intro hf hP hD hS hl
  obtain ⟨hx, hb, hml, hown, hts⟩ := id C
  unfold fX6_canHold at hf
  refine lv_aload_n hx hb dX6_canHold_0 rfl (lv_at hl 1 rfl) ?_
  obtain ⟨r1, hc2, hf⟩ := zb1_in hf
  refine zc_i (va_runV (As := []) (rest := []) C (mX5_isOpaque l D cI H.size h_p h_p_pixels p_wide p_high p_pixels r1 hc2) (qX6_canHold_X5_isOpaque_15 hts) ⟨zP_blind, va_recv hK hP (ci := 4) (q0 := 1) rfl rfl, zpre hK hN hP hD [1, 2] rfl rfl⟩ rfl rfl hl.1 rfl (lv_room (Nat.le_of_ble_eq_true rfl)) dX6_canHold_1 ⟨Nat.zero_le _, Nat.zero_le _⟩) hP hD hS hA [1, 2] [0] [0, 1, 2] (ws' := zwX6 cI h_t t_inDigits t_greatest ++ zwX5 cI h_p h_p_pixels p_wide p_high p_pixels) rfl rfl rfl rfl rfl rfl (fun H locs hP hD hS => ?_)
  obtain ⟨hg3, hf⟩ := zbo_in hf
  cases hf
  exact hE _ _ _ _ dX6_canHold_4 hg3.1 hP hD hS
set_option maxHeartbeats 4000000 in
set_option maxRecDepth 100000 in
theorem mX6_canHold (l : Launch) (D : va_G) (cI : ClassId) (sz : Nat) (h_t h_p h_p_pixels : Nat) (t_inDigits : Int32) (t_greatest : Int32) (p_wide : Int32) (p_high : Int32) (p_pixels : Nat → Int32) (r0 : Int32) (hf : fX6_canHold p_wide p_high p_pixels = some r0) : Met l yX6_canHold wsX6_canHold rmX6_canHold (va_Pc [.ref h_t, .ref h_p] (zP D [(cI, .int)] (zwX6 cI h_t t_inDigits t_greatest ++ zwX5 cI h_p h_p_pixels p_wide p_high p_pixels) sz)) (zQi D (zwX6 cI h_t t_inDigits t_greatest ++ zwX5 cI h_p h_p_pixels p_wide p_high p_pixels) sz r0 (zwX6 cI h_t t_inDigits t_greatest ++ zwX5 cI h_p h_p_pixels p_wide p_high p_pixels)) 0 0 (va_A (zwX6 cI h_t t_inDigits t_greatest ++ zwX5 cI h_p h_p_pixels p_wide p_high p_pixels) sz) := by
  refine Met.ofW (cc := cX6_canHold) (maxL := 2) (ret := (some .boolean)) (by decide) rfl ?_
  intro p e s m args below meth c s₁ B hml hv
  obtain ⟨rfl, hsz, hP, hK, hD0, hN⟩ := hv
  subst hsz
  have C : CallFix p m c cX6_canHold 2 s [.ref h_t, .ref h_p].toArray wsX6_canHold RX6 := ⟨B.exec, B.bytes, hml, findClass_of_methodNamed B.named, atoms_spec (ws := wsX6_canHold) B.pre⟩
  have hl := lv_entry ([.ref h_t, .ref h_p]) (n := 2) (Nat.le_of_ble_eq_true rfl)
  rw [lg_entry_eq]
  exact wX6_canHold_0 (A := va_A (zwX6 cI h_t t_inDigits t_greatest ++ zwX5 cI h_p h_p_pixels p_wide p_high p_pixels) s.heap.size) C hN hK (fun q h => Or.inr h) (fun H locs pc ls d hn hP hD hS => zend_z C.1 C.2.1 B.returns B.notSynchronized d hn hP hD hS) hf hP hD0.self va_S.rf hl
def rmX6_writeSample : Room := { frames := 2, cells := 0, slots := 0, locals := 42 }
theorem qX6_writeSample_X2_append_24 {args : Array Value} {s : State} (hts : ∀ w ∈ wsX6_writeSample, w.before args s = true) : CallW rmX6_writeSample s args RX6 RX2 24 yX2_append cX2_append 2 (some .boolean) wsX2_append rmX2_append 0 0 1 := cwV 1 hts gX6_writeSample_X2_append rfl rfl rfl (by decide +kernel) ⟨Nat.le_of_ble_eq_true rfl, Nat.le_of_ble_eq_true rfl⟩
theorem qX6_writeSample_X2_appendDigits_34 {args : Array Value} {s : State} (hts : ∀ w ∈ wsX6_writeSample, w.before args s = true) : CallW rmX6_writeSample s args RX6 RX2 34 yX2_appendDigits cX2_appendDigits 2 none wsX2_appendDigits rmX2_appendDigits 0 0 1 := cwV 1 hts gX6_writeSample_X2_appendDigits rfl rfl rfl (by decide +kernel) ⟨Nat.le_of_ble_eq_true rfl, Nat.le_of_ble_eq_true rfl⟩
set_option maxHeartbeats 4000000 in
set_option maxRecDepth 100000 in
theorem wX6_writeSample_0 {p : Program} {l : Launch} {e : Env} {s : State} {m : MethodId} {args : Array Value} {below : List Frame} {meth : Method} {c : Code} {D : va_G} {A : Nat → Prop} {Q : State → Prop} {cI : ClassId} {h_f h_f_bytes : Nat} {zf_size : Int32} {zf_bytes : Nat → Int32} (C : CallFix p m c cX6_writeSample 4 s args wsX6_writeSample RX6) (hN : zN s) (hK : va_K D vwCl [(cI, .int)] s) (hA : ∀ q, s.heap.size ≤ q → A q) (hE : zEv p l e rmX6_writeSample s m args below meth c cX6_writeSample D A Q (zwX2 cI h_f h_f_bytes zf_size zf_bytes)) {f_size : Int32} {f_bytes : Nat → Int32} {v0 : Int32} {v1 : Int32} {v2 : Int32} {H : Heap} {locs : List Loc} {ls : Array Slot} : fX6_writeSample f_size f_bytes v0 v1 v2 = some (zf_size, zf_bytes) → va_P D vwCl (zwX2 cI h_f h_f_bytes f_size f_bytes) H → va_D A (zwX2 cI h_f h_f_bytes f_size f_bytes) → va_S A s.heap H locs → lv_has ls 4 [(0, .int v0), (1, .int v1), (2, .int v2), (3, .ref h_f)] → W p l e rmX6_writeSample s m args below meth c H locs 0 0 Q (F0 m 0 ls []) := by
  intro hf hP hD hS hl
  obtain ⟨hx, hb, hml, hown, hts⟩ := id C
  unfold fX6_writeSample at hf
  refine lv_iload_n hx hb dX6_writeSample_0 rfl (lv_at hl 1 rfl) ?_
  refine lv_if_ne (tgt := 13) hx hb dX6_writeSample_1 (by decide) (fun c1 => ?_) (fun c1 => ?_)
  · replace hf := zif_f hf c1
    refine lv_aload_n hx hb dX6_writeSample_13 rfl (lv_at hl 3 rfl) ?_
    refine lv_iload_n hx hb dX6_writeSample_14 rfl (lv_at hl 0 rfl) ?_
    obtain ⟨u2, u3, hc4, hf⟩ := zb2_in hf
    refine zc_v (va_runV (As := [.int v0]) (rest := []) C (mX2_appendDigits l D cI H.size h_f h_f_bytes f_size f_bytes v0 u2 u3 hc4) (qX6_writeSample_X2_appendDigits_34 hts) ⟨zP_blind, va_recv hK hP (ci := 2) (q0 := 0) rfl rfl, zpre hK hN hP hD [0, 1] rfl rfl⟩ rfl rfl hl.1 rfl (lv_room (Nat.le_of_ble_eq_true rfl)) dX6_writeSample_15 ⟨Nat.zero_le _, Nat.zero_le _⟩) hP hD hS hA [0, 1] [] [0, 1] (ws' := zwX2 cI h_f h_f_bytes u2 u3) rfl rfl rfl rfl rfl rfl (fun H locs hP hD hS => ?_)
    refine lv_aload_n hx hb dX6_writeSample_18 rfl (lv_at hl 3 rfl) ?_
    refine lv_iload_n hx hb dX6_writeSample_19 rfl (lv_at hl 2 rfl) ?_
    obtain ⟨r5, u6, u7, hc8, hf⟩ := zb3_in hf
    refine zc_i (va_runV (As := [.int v2]) (rest := []) C (mX2_append l D cI H.size h_f h_f_bytes u2 u3 v2 r5 u6 u7 hc8) (qX6_writeSample_X2_append_24 hts) ⟨zP_blind, va_recv hK hP (ci := 2) (q0 := 0) rfl rfl, zpre hK hN hP hD [0, 1] rfl rfl⟩ rfl rfl hl.1 rfl (lv_room (Nat.le_of_ble_eq_true rfl)) dX6_writeSample_20 ⟨Nat.zero_le _, Nat.zero_le _⟩) hP hD hS hA [0, 1] [] [0, 1] (ws' := zwX2 cI h_f h_f_bytes u6 u7) rfl rfl rfl rfl rfl rfl (fun H locs hP hD hS => ?_)
    refine lv_pop hx hb dX6_writeSample_23 rfl ?_
    cases hf
    exact hE _ _ _ _ dX6_writeSample_24 hP hD hS
  · replace hf := zif_t hf c1
    refine lv_aload_n hx hb dX6_writeSample_4 rfl (lv_at hl 3 rfl) ?_
    refine lv_iload_n hx hb dX6_writeSample_5 rfl (lv_at hl 0 rfl) ?_
    obtain ⟨r9, u10, u11, hc12, hf⟩ := zb3_in hf
    refine zc_i (va_runV (As := [.int v0]) (rest := []) C (mX2_append l D cI H.size h_f h_f_bytes f_size f_bytes v0 r9 u10 u11 hc12) (qX6_writeSample_X2_append_24 hts) ⟨zP_blind, va_recv hK hP (ci := 2) (q0 := 0) rfl rfl, zpre hK hN hP hD [0, 1] rfl rfl⟩ rfl rfl hl.1 rfl (lv_room (Nat.le_of_ble_eq_true rfl)) dX6_writeSample_6 ⟨Nat.zero_le _, Nat.zero_le _⟩) hP hD hS hA [0, 1] [] [0, 1] (ws' := zwX2 cI h_f h_f_bytes u10 u11) rfl rfl rfl rfl rfl rfl (fun H locs hP hD hS => ?_)
    refine lv_pop hx hb dX6_writeSample_9 rfl ?_
    refine lv_goto (tgt := 24) hx hb dX6_writeSample_10 (by decide) ?_
    cases hf
    exact hE _ _ _ _ dX6_writeSample_24 hP hD hS
set_option maxHeartbeats 4000000 in
set_option maxRecDepth 100000 in
theorem mX6_writeSample (l : Launch) (D : va_G) (cI : ClassId) (sz : Nat) (h_f h_f_bytes : Nat) (f_size : Int32) (f_bytes : Nat → Int32) (v0 v1 v2 : Int32) (zf_size : Int32) (zf_bytes : Nat → Int32) (hf : fX6_writeSample f_size f_bytes v0 v1 v2 = some (zf_size, zf_bytes)) : Met l yX6_writeSample wsX6_writeSample rmX6_writeSample (va_Pc [.int v0, .int v1, .int v2, .ref h_f] (zP D [(cI, .int)] (zwX2 cI h_f h_f_bytes f_size f_bytes) sz)) (zQv D (zwX2 cI h_f h_f_bytes f_size f_bytes) sz (zwX2 cI h_f h_f_bytes zf_size zf_bytes)) 0 0 (va_A (zwX2 cI h_f h_f_bytes f_size f_bytes) sz) := by
  refine Met.ofW (cc := cX6_writeSample) (maxL := 4) (ret := none) (by decide) rfl ?_
  intro p e s m args below meth c s₁ B hml hv
  obtain ⟨rfl, hsz, hP, hK, hD0, hN⟩ := hv
  subst hsz
  have C : CallFix p m c cX6_writeSample 4 s [.int v0, .int v1, .int v2, .ref h_f].toArray wsX6_writeSample RX6 := ⟨B.exec, B.bytes, hml, findClass_of_methodNamed B.named, atoms_spec (ws := wsX6_writeSample) B.pre⟩
  have hl := lv_entry ([.int v0, .int v1, .int v2, .ref h_f]) (n := 4) (Nat.le_of_ble_eq_true rfl)
  rw [lg_entry_eq]
  exact wX6_writeSample_0 (A := va_A (zwX2 cI h_f h_f_bytes f_size f_bytes) s.heap.size) C hN hK (fun q h => Or.inr h) (fun H locs pc ls d hP hD hS => zend_v C.1 C.2.1 B.returns B.notSynchronized d hP hD hS) hf hP hD0.self va_S.rf hl
def rmX6_writePixel : Room := { frames := 3, cells := 0, slots := 0, locals := 65 }
theorem qX6_writePixel_X6_writeSample_51 {args : Array Value} {s : State} (hts : ∀ w ∈ wsX6_writePixel, w.before args s = true) : CallB rmX6_writePixel s args RX6 51 yX6_writeSample cX6_writeSample 4 none wsX6_writeSample rmX6_writeSample 0 0 4 ∧ (Cond.static yX6_writeSample).before args s = true := va_cwS 4 hts gX6_writePixel_X6_writeSample rfl rfl rfl (by decide +kernel) ⟨Nat.le_of_ble_eq_true rfl, Nat.le_of_ble_eq_true rfl⟩
theorem qX6_writePixel_X8_blue_58 {args : Array Value} {s : State} (hts : ∀ w ∈ wsX6_writePixel, w.before args s = true) (hN : zN s) : va_CN rmX6_writePixel s args RX6 58 yX8_blue RX8 cX8_blue 1 (some .int) wsX8_blue rmX8_blue 0 0 1 ∧ (Cond.static yX8_blue).before args s = true ∧ True := ⟨va_cnB 1 hts gX6_writePixel_X8_blue_n58 rfl rfl rfl (hN.nw 51 rfl) (hts (.initialized RX8) (by decide +kernel)) (by decide +kernel) ⟨Nat.le_of_ble_eq_true rfl, Nat.le_of_ble_eq_true rfl⟩, hts (.static yX8_blue) (by decide +kernel), trivial⟩
theorem qX6_writePixel_X8_green_55 {args : Array Value} {s : State} (hts : ∀ w ∈ wsX6_writePixel, w.before args s = true) (hN : zN s) : va_CN rmX6_writePixel s args RX6 55 yX8_green RX8 cX8_green 1 (some .int) wsX8_green rmX8_green 0 0 1 ∧ (Cond.static yX8_green).before args s = true ∧ True := ⟨va_cnB 1 hts gX6_writePixel_X8_green_n55 rfl rfl rfl (hN.nw 50 rfl) (hts (.initialized RX8) (by decide +kernel)) (by decide +kernel) ⟨Nat.le_of_ble_eq_true rfl, Nat.le_of_ble_eq_true rfl⟩, hts (.static yX8_green) (by decide +kernel), trivial⟩
theorem qX6_writePixel_X8_red_48 {args : Array Value} {s : State} (hts : ∀ w ∈ wsX6_writePixel, w.before args s = true) (hN : zN s) : va_CN rmX6_writePixel s args RX6 48 yX8_red RX8 cX8_red 1 (some .int) wsX8_red rmX8_red 0 0 1 ∧ (Cond.static yX8_red).before args s = true ∧ True := ⟨va_cnB 1 hts gX6_writePixel_X8_red_n48 rfl rfl rfl (hN.nw 49 rfl) (hts (.initialized RX8) (by decide +kernel)) (by decide +kernel) ⟨Nat.le_of_ble_eq_true rfl, Nat.le_of_ble_eq_true rfl⟩, hts (.static yX8_red) (by decide +kernel), trivial⟩
set_option maxHeartbeats 4000000 in
set_option maxRecDepth 100000 in
theorem wX6_writePixel_28 {p : Program} {l : Launch} {e : Env} {s : State} {m : MethodId} {args : Array Value} {below : List Frame} {meth : Method} {c : Code} {D : va_G} {A : Nat → Prop} {Q : State → Prop} {cI : ClassId} {h_f h_f_bytes : Nat} {zf_size : Int32} {zf_bytes : Nat → Int32} (C : CallFix p m c cX6_writePixel 5 s args wsX6_writePixel RX6) (hN : zN s) (hK : va_K D vwCl [(cI, .int)] s) (hA : ∀ q, s.heap.size ≤ q → A q) (hE : zEv p l e rmX6_writePixel s m args below meth c cX6_writePixel D A Q (zwX2 cI h_f h_f_bytes zf_size zf_bytes)) {f_size : Int32} {f_bytes : Nat → Int32} {l0 : Int32} {l1 : Int32} {l2 : Int32} {l3 : Int32} {H : Heap} {locs : List Loc} {ls : Array Slot} : fX6_writePixel_28 f_size f_bytes l0 l2 l3 = some (zf_size, zf_bytes) → va_P D vwCl (zwX2 cI h_f h_f_bytes f_size f_bytes) H → va_D A (zwX2 cI h_f h_f_bytes f_size f_bytes) → va_S A s.heap H locs → lv_has ls 5 [(0, .int l0), (1, .int l1), (2, .int l2), (3, .int l3), (4, .ref h_f)] → W p l e rmX6_writePixel s m args below meth c H locs 0 0 Q (F0 m 28 ls []) := by
  intro hf hP hD hS hl
  obtain ⟨hx, hb, hml, hown, hts⟩ := id C
  unfold fX6_writePixel_28 at hf
  refine lv_iload_n hx hb dX6_writePixel_28 rfl (lv_at hl 0 rfl) ?_
  obtain ⟨r1, hc2, hf⟩ := zb1_in hf
  refine zc_i (va_runSN (As := [.int l0]) (rest := []) C (mX8_blue l D cI H.size l0 r1 hc2) (qX6_writePixel_X8_blue_58 hts hN) ⟨zP_blind, zpre hK hN hP hD [] rfl rfl⟩ rfl rfl hl.1 rfl (lv_room (Nat.le_of_ble_eq_true rfl)) dX6_writePixel_29 ⟨Nat.zero_le _, Nat.zero_le _⟩) hP hD hS hA [] [0, 1] [0, 1] (ws' := zwX2 cI h_f h_f_bytes f_size f_bytes) rfl rfl rfl rfl rfl rfl (fun H locs hP hD hS => ?_)
  refine lv_iload_n hx hb dX6_writePixel_32 rfl (lv_at hl 2 rfl) ?_
  refine lv_iload_n hx hb dX6_writePixel_33 rfl (lv_at hl 3 rfl) ?_
  refine lv_aload hx hb dX6_writePixel_34 (lv_at hl 4 rfl) ?_
  obtain ⟨u3, u4, hc5, hf⟩ := zb2_in hf
  refine zc_v (va_runS (As := [.int r1, .int l2, .int l3, .ref h_f]) (rest := []) C (mX6_writeSample l D cI H.size h_f h_f_bytes f_size f_bytes r1 l2 l3 u3 u4 hc5) (qX6_writePixel_X6_writeSample_51 hts) ⟨zP_blind, zpre hK hN hP hD [0, 1] rfl rfl⟩ rfl rfl hl.1 rfl (lv_room (Nat.le_of_ble_eq_true rfl)) dX6_writePixel_36 ⟨Nat.zero_le _, Nat.zero_le _⟩) hP hD hS hA [0, 1] [] [0, 1] (ws' := zwX2 cI h_f h_f_bytes u3 u4) rfl rfl rfl rfl rfl rfl (fun H locs hP hD hS => ?_)
  cases hf
  exact hE _ _ _ _ dX6_writePixel_39 hP hD hS
set_option maxHeartbeats 4000000 in
set_option maxRecDepth 100000 in
theorem wX6_writePixel_0 {p : Program} {l : Launch} {e : Env} {s : State} {m : MethodId} {args : Array Value} {below : List Frame} {meth : Method} {c : Code} {D : va_G} {A : Nat → Prop} {Q : State → Prop} {cI : ClassId} {h_f h_f_bytes : Nat} {zf_size : Int32} {zf_bytes : Nat → Int32} (C : CallFix p m c cX6_writePixel 5 s args wsX6_writePixel RX6) (hN : zN s) (hK : va_K D vwCl [(cI, .int)] s) (hA : ∀ q, s.heap.size ≤ q → A q) (hE : zEv p l e rmX6_writePixel s m args below meth c cX6_writePixel D A Q (zwX2 cI h_f h_f_bytes zf_size zf_bytes)) {f_size : Int32} {f_bytes : Nat → Int32} {v0 : Int32} {v1 : Int32} {v2 : Int32} {v3 : Int32} {H : Heap} {locs : List Loc} {ls : Array Slot} : fX6_writePixel f_size f_bytes v0 v1 v2 v3 = some (zf_size, zf_bytes) → va_P D vwCl (zwX2 cI h_f h_f_bytes f_size f_bytes) H → va_D A (zwX2 cI h_f h_f_bytes f_size f_bytes) → va_S A s.heap H locs → lv_has ls 5 [(0, .int v0), (1, .int v1), (2, .int v2), (3, .int v3), (4, .ref h_f)] → W p l e rmX6_writePixel s m args below meth c H locs 0 0 Q (F0 m 0 ls []) := by
  intro hf hP hD hS hl
  obtain ⟨hx, hb, hml, hown, hts⟩ := id C
  unfold fX6_writePixel at hf
  refine lv_iload_n hx hb dX6_writePixel_0 rfl (lv_at hl 1 rfl) ?_
  refine lv_if_eq (tgt := 28) hx hb dX6_writePixel_1 (by decide) (fun c1 => ?_) (fun c1 => ?_)
  · replace hf := zif_t hf c1
    exact wX6_writePixel_28 C hN hK hA hE hf hP hD hS (lv_sub hl [0, 1, 2, 3, 4] rfl)
  · replace hf := zif_f hf c1
    refine lv_iload_n hx hb dX6_writePixel_4 rfl (lv_at hl 0 rfl) ?_
    obtain ⟨r2, hc3, hf⟩ := zb1_in hf
    refine zc_i (va_runSN (As := [.int v0]) (rest := []) C (mX8_red l D cI H.size v0 r2 hc3) (qX6_writePixel_X8_red_48 hts hN) ⟨zP_blind, zpre hK hN hP hD [] rfl rfl⟩ rfl rfl hl.1 rfl (lv_room (Nat.le_of_ble_eq_true rfl)) dX6_writePixel_5 ⟨Nat.zero_le _, Nat.zero_le _⟩) hP hD hS hA [] [0, 1] [0, 1] (ws' := zwX2 cI h_f h_f_bytes f_size f_bytes) rfl rfl rfl rfl rfl rfl (fun H locs hP hD hS => ?_)
    refine lv_iload_n hx hb dX6_writePixel_8 rfl (lv_at hl 2 rfl) ?_
    refine lv_bipush (v := 32) hx hb dX6_writePixel_9 (by decide) ?_
    refine lv_aload hx hb dX6_writePixel_11 (lv_at hl 4 rfl) ?_
    obtain ⟨u4, u5, hc6, hf⟩ := zb2_in hf
    refine zc_v (va_runS (As := [.int r2, .int v2, .int 32, .ref h_f]) (rest := []) C (mX6_writeSample l D cI H.size h_f h_f_bytes f_size f_bytes r2 v2 32 u4 u5 hc6) (qX6_writePixel_X6_writeSample_51 hts) ⟨zP_blind, zpre hK hN hP hD [0, 1] rfl rfl⟩ rfl rfl hl.1 rfl (lv_room (Nat.le_of_ble_eq_true rfl)) dX6_writePixel_13 ⟨Nat.zero_le _, Nat.zero_le _⟩) hP hD hS hA [0, 1] [] [0, 1] (ws' := zwX2 cI h_f h_f_bytes u4 u5) rfl rfl rfl rfl rfl rfl (fun H locs hP hD hS => ?_)
    refine lv_iload_n hx hb dX6_writePixel_16 rfl (lv_at hl 0 rfl) ?_
    obtain ⟨r7, hc8, hf⟩ := zb1_in hf
    refine zc_i (va_runSN (As := [.int v0]) (rest := []) C (mX8_green l D cI H.size v0 r7 hc8) (qX6_writePixel_X8_green_55 hts hN) ⟨zP_blind, zpre hK hN hP hD [] rfl rfl⟩ rfl rfl hl.1 rfl (lv_room (Nat.le_of_ble_eq_true rfl)) dX6_writePixel_17 ⟨Nat.zero_le _, Nat.zero_le _⟩) hP hD hS hA [] [0, 1] [0, 1] (ws' := zwX2 cI h_f h_f_bytes u4 u5) rfl rfl rfl rfl rfl rfl (fun H locs hP hD hS => ?_)
    refine lv_iload_n hx hb dX6_writePixel_20 rfl (lv_at hl 2 rfl) ?_
    refine lv_bipush (v := 32) hx hb dX6_writePixel_21 (by decide) ?_
    refine lv_aload hx hb dX6_writePixel_23 (lv_at hl 4 rfl) ?_
    obtain ⟨u9, u10, hc11, hf⟩ := zb2_in hf
    refine zc_v (va_runS (As := [.int r7, .int v2, .int 32, .ref h_f]) (rest := []) C (mX6_writeSample l D cI H.size h_f h_f_bytes u4 u5 r7 v2 32 u9 u10 hc11) (qX6_writePixel_X6_writeSample_51 hts) ⟨zP_blind, zpre hK hN hP hD [0, 1] rfl rfl⟩ rfl rfl hl.1 rfl (lv_room (Nat.le_of_ble_eq_true rfl)) dX6_writePixel_25 ⟨Nat.zero_le _, Nat.zero_le _⟩) hP hD hS hA [0, 1] [] [0, 1] (ws' := zwX2 cI h_f h_f_bytes u9 u10) rfl rfl rfl rfl rfl rfl (fun H locs hP hD hS => ?_)
    exact wX6_writePixel_28 C hN hK hA hE hf hP hD hS (lv_sub hl [0, 1, 2, 3, 4] rfl)
set_option maxHeartbeats 4000000 in
set_option maxRecDepth 100000 in
theorem mX6_writePixel (l : Launch) (D : va_G) (cI : ClassId) (sz : Nat) (h_f h_f_bytes : Nat) (f_size : Int32) (f_bytes : Nat → Int32) (v0 v1 v2 v3 : Int32) (zf_size : Int32) (zf_bytes : Nat → Int32) (hf : fX6_writePixel f_size f_bytes v0 v1 v2 v3 = some (zf_size, zf_bytes)) : Met l yX6_writePixel wsX6_writePixel rmX6_writePixel (va_Pc [.int v0, .int v1, .int v2, .int v3, .ref h_f] (zP D [(cI, .int)] (zwX2 cI h_f h_f_bytes f_size f_bytes) sz)) (zQv D (zwX2 cI h_f h_f_bytes f_size f_bytes) sz (zwX2 cI h_f h_f_bytes zf_size zf_bytes)) 0 0 (va_A (zwX2 cI h_f h_f_bytes f_size f_bytes) sz) := by
  refine Met.ofW (cc := cX6_writePixel) (maxL := 5) (ret := none) (by decide) rfl ?_
  intro p e s m args below meth c s₁ B hml hv
  obtain ⟨rfl, hsz, hP, hK, hD0, hN⟩ := hv
  subst hsz
  have C : CallFix p m c cX6_writePixel 5 s [.int v0, .int v1, .int v2, .int v3, .ref h_f].toArray wsX6_writePixel RX6 := ⟨B.exec, B.bytes, hml, findClass_of_methodNamed B.named, atoms_spec (ws := wsX6_writePixel) B.pre⟩
  have hl := lv_entry ([.int v0, .int v1, .int v2, .int v3, .ref h_f]) (n := 5) (Nat.le_of_ble_eq_true rfl)
  rw [lg_entry_eq]
  exact wX6_writePixel_0 (A := va_A (zwX2 cI h_f h_f_bytes f_size f_bytes) s.heap.size) C hN hK (fun q h => Or.inr h) (fun H locs pc ls d hP hD hS => zend_v C.1 C.2.1 B.returns B.notSynchronized d hP hD hS) hf hP hD0.self va_S.rf hl
def rmX6_write : Room := { frames := 4, cells := 0, slots := 0, locals := 89 }
theorem iX6_write_X5 : ∀ w ∈ u_ws RX5 TX5 3, w ∈ wsX6_write := by decide +kernel
theorem qX6_write_X2_append_24 {args : Array Value} {s : State} (hts : ∀ w ∈ wsX6_write, w.before args s = true) : CallW rmX6_write s args RX6 RX2 24 yX2_append cX2_append 2 (some .boolean) wsX2_append rmX2_append 0 0 1 := cwV 1 hts gX6_write_X2_append rfl rfl rfl (by decide +kernel) ⟨Nat.le_of_ble_eq_true rfl, Nat.le_of_ble_eq_true rfl⟩
theorem qX6_write_X2_appendDigits_34 {args : Array Value} {s : State} (hts : ∀ w ∈ wsX6_write, w.before args s = true) : CallW rmX6_write s args RX6 RX2 34 yX2_appendDigits cX2_appendDigits 2 none wsX2_appendDigits rmX2_appendDigits 0 0 1 := cwV 1 hts gX6_write_X2_appendDigits rfl rfl rfl (by decide +kernel) ⟨Nat.le_of_ble_eq_true rfl, Nat.le_of_ble_eq_true rfl⟩
theorem qX6_write_X5_at_41 {args : Array Value} {s : State} (hts : ∀ w ∈ wsX6_write, w.before args s = true) : CallW rmX6_write s args RX6 RX5 41 yX5_at cX5_at 3 (some .int) wsX5_at rmX5_at 0 0 2 := cwV 2 hts gX6_write_X5_at rfl rfl rfl (by decide +kernel) ⟨Nat.le_of_ble_eq_true rfl, Nat.le_of_ble_eq_true rfl⟩
theorem qX6_write_X5_isGrey_21 {args : Array Value} {s : State} (hts : ∀ w ∈ wsX6_write, w.before args s = true) : CallW rmX6_write s args RX6 RX5 21 yX5_isGrey cX5_isGrey 3 (some .boolean) wsX5_isGrey rmX5_isGrey 0 0 0 := cwV 0 hts gX6_write_X5_isGrey rfl rfl rfl (by decide +kernel) ⟨Nat.le_of_ble_eq_true rfl, Nat.le_of_ble_eq_true rfl⟩
theorem qX6_write_X6_writePixel_44 {args : Array Value} {s : State} (hts : ∀ w ∈ wsX6_write, w.before args s = true) : CallB rmX6_write s args RX6 44 yX6_writePixel cX6_writePixel 5 none wsX6_writePixel rmX6_writePixel 0 0 5 ∧ (Cond.static yX6_writePixel).before args s = true := va_cwS 5 hts gX6_write_X6_writePixel rfl rfl rfl (by decide +kernel) ⟨Nat.le_of_ble_eq_true rfl, Nat.le_of_ble_eq_true rfl⟩
set_option maxHeartbeats 4000000 in
set_option maxRecDepth 100000 in
theorem wX6_write_141 {p : Program} {l : Launch} {e : Env} {s : State} {m : MethodId} {args : Array Value} {below : List Frame} {meth : Method} {c : Code} {D : va_G} {A : Nat → Prop} {Q : State → Prop} {cI : ClassId} {h_t h_p h_p_pixels h_f h_f_bytes : Nat} {t_inDigits : Int32} {t_greatest : Int32} {p_wide : Int32} {p_high : Int32} {p_pixels : Nat → Int32} {zf_size : Int32} {zf_bytes : Nat → Int32} (C : CallFix p m c cX6_write 8 s args wsX6_write RX6) (hN : zN s) (hK : va_K D vwCl [(cI, .int)] s) (hA : ∀ q, s.heap.size ≤ q → A q) (hE : zEv p l e rmX6_write s m args below meth c cX6_write D A Q (zwX6 cI h_t t_inDigits t_greatest ++ zwX5 cI h_p h_p_pixels p_wide p_high p_pixels ++ zwX2 cI h_f h_f_bytes zf_size zf_bytes)) {rc102 : Int32 → Int32 → (Nat → Int32) → Int32 → (Nat → Int32) → Int32 → Int32 → Int32 → Option (Int32 × (Nat → Int32))} (hr_102 : ∀ {f_size : Int32} {f_bytes : Nat → Int32} {l2 : Int32} {l4 : Int32} {l5 : Int32} {H : Heap} {locs : List Loc} {ls : Array Slot}, rc102 p_wide p_high p_pixels f_size f_bytes l2 l4 l5 = some (zf_size, zf_bytes) → va_P D vwCl (zwX6 cI h_t t_inDigits t_greatest ++ zwX5 cI h_p h_p_pixels p_wide p_high p_pixels ++ zwX2 cI h_f h_f_bytes f_size f_bytes) H → va_D A (zwX6 cI h_t t_inDigits t_greatest ++ zwX5 cI h_p h_p_pixels p_wide p_high p_pixels ++ zwX2 cI h_f h_f_bytes f_size f_bytes) → va_S A s.heap H locs → lv_has ls 8 [(0, .ref h_t), (1, .ref h_p), (2, .int l2), (3, .ref h_f), (4, .int l4), (5, .int l5)] → W p l e rmX6_write s m args below meth c H locs 0 0 Q (F0 m 102 ls [])) {rc114 : Int32 → Int32 → (Nat → Int32) → Int32 → (Nat → Int32) → Int32 → Int32 → Int32 → Int32 → Option (Int32 × (Nat → Int32))} (hr_114 : ∀ {f_size : Int32} {f_bytes : Nat → Int32} {l2 : Int32} {l4 : Int32} {l5 : Int32} {l6 : Int32} {H : Heap} {locs : List Loc} {ls : Array Slot}, rc114 p_wide p_high p_pixels f_size f_bytes l2 l4 l5 l6 = some (zf_size, zf_bytes) → va_P D vwCl (zwX6 cI h_t t_inDigits t_greatest ++ zwX5 cI h_p h_p_pixels p_wide p_high p_pixels ++ zwX2 cI h_f h_f_bytes f_size f_bytes) H → va_D A (zwX6 cI h_t t_inDigits t_greatest ++ zwX5 cI h_p h_p_pixels p_wide p_high p_pixels ++ zwX2 cI h_f h_f_bytes f_size f_bytes) → va_S A s.heap H locs → lv_has ls 8 [(0, .ref h_t), (1, .ref h_p), (2, .int l2), (3, .ref h_f), (4, .int l4), (5, .int l5), (6, .int l6)] → W p l e rmX6_write s m args below meth c H locs 0 0 Q (F0 m 114 ls [])) {f_size : Int32} {f_bytes : Nat → Int32} {l2 : Int32} {l4 : Int32} {l5 : Int32} {l6 : Int32} {k0 : Int32} {H : Heap} {locs : List Loc} {ls : Array Slot} : fX6_write_141 rc102 rc114 p_wide p_high p_pixels f_size f_bytes l2 l4 l5 l6 k0 = some (zf_size, zf_bytes) → va_P D vwCl (zwX6 cI h_t t_inDigits t_greatest ++ zwX5 cI h_p h_p_pixels p_wide p_high p_pixels ++ zwX2 cI h_f h_f_bytes f_size f_bytes) H → va_D A (zwX6 cI h_t t_inDigits t_greatest ++ zwX5 cI h_p h_p_pixels p_wide p_high p_pixels ++ zwX2 cI h_f h_f_bytes f_size f_bytes) → va_S A s.heap H locs → lv_has ls 8 [(0, .ref h_t), (1, .ref h_p), (2, .int l2), (3, .ref h_f), (4, .int l4), (5, .int l5), (6, .int l6)] → W p l e rmX6_write s m args below meth c H locs 0 0 Q (F0 m 141 ls [.int k0]) := by
  intro hf hP hD hS hl
  obtain ⟨hx, hb, hml, hown, hts⟩ := id C
  unfold fX6_write_141 at hf
  refine lv_istore (lv' := [(7, .int k0), (0, .ref h_t), (1, .ref h_p), (2, .int l2), (3, .ref h_f), (4, .int l4), (5, .int l5), (6, .int l6)]) hx hb dX6_write_141 hl (by decide) rfl (fun ls hl => ?_)
  refine lv_aload_n hx hb dX6_write_143 rfl (lv_at hl 2 rfl) ?_
  refine lv_iload hx hb dX6_write_144 (lv_at hl 7 rfl) ?_
  refine lv_iload hx hb dX6_write_146 (lv_at hl 6 rfl) ?_
  obtain ⟨r1, hc2, hf⟩ := zb1_in hf
  refine zc_i (va_runV (As := [.int l6, .int l5]) (rest := []) C (mX5_at l D cI H.size h_p h_p_pixels p_wide p_high p_pixels l6 l5 r1 hc2) (qX6_write_X5_at_41 hts) ⟨zP_blind, va_recv hK hP (ci := 4) (q0 := 1) rfl rfl, zpre hK hN hP hD [1, 2] rfl rfl⟩ rfl rfl hl.1 rfl (lv_room (Nat.le_of_ble_eq_true rfl)) dX6_write_148 ⟨Nat.zero_le _, Nat.zero_le _⟩) hP hD hS hA [1, 2] [0, 3, 4] [0, 3, 4, 1, 2] (ws' := zwX6 cI h_t t_inDigits t_greatest ++ zwX5 cI h_p h_p_pixels p_wide p_high p_pixels ++ zwX2 cI h_f h_f_bytes f_size f_bytes) rfl rfl rfl rfl rfl rfl (fun H locs hP hD hS => ?_)
  refine lv_iload hx hb dX6_write_151 (lv_at hl 5 rfl) ?_
  refine lv_iload_n hx hb dX6_write_153 rfl (lv_at hl 3 rfl) ?_
  refine lv_iload hx hb dX6_write_154 (lv_at hl 0 rfl) ?_
  refine lv_aload_n hx hb dX6_write_156 rfl (lv_at hl 4 rfl) ?_
  obtain ⟨u3, u4, hc5, hf⟩ := zb2_in hf
  refine zc_v (va_runS (As := [.int r1, .int l4, .int l2, .int k0, .ref h_f]) (rest := []) C (mX6_writePixel l D cI H.size h_f h_f_bytes f_size f_bytes r1 l4 l2 k0 u3 u4 hc5) (qX6_write_X6_writePixel_44 hts) ⟨zP_blind, zpre hK hN hP hD [3, 4] rfl rfl⟩ rfl rfl hl.1 rfl (lv_room (Nat.le_of_ble_eq_true rfl)) dX6_write_157 ⟨Nat.zero_le _, Nat.zero_le _⟩) hP hD hS hA [3, 4] [0, 1, 2] [0, 1, 2, 3, 4] (ws' := zwX6 cI h_t t_inDigits t_greatest ++ zwX5 cI h_p h_p_pixels p_wide p_high p_pixels ++ zwX2 cI h_f h_f_bytes u3 u4) rfl rfl rfl rfl rfl rfl (fun H locs hP hD hS => ?_)
  obtain ⟨x6, ex6⟩ : ∃ y : Int32, y = l6 + 1 := ⟨_, rfl⟩
  replace hf := zlet_in hf ex6
  refine lv_iinc (v := x6) (lv' := [(6, .int x6), (7, .int k0), (0, .ref h_t), (1, .ref h_p), (2, .int l2), (3, .ref h_f), (4, .int l4), (5, .int l5)]) hx hb dX6_write_160 hl (k := 7) rfl (by rw [ex6]; rfl) (by decide) rfl (fun ls hl => ?_)
  clear ex6
  refine lv_goto (tgt := 114) hx hb dX6_write_163 (by decide) ?_
  exact hr_114 hf hP hD hS (lv_sub hl [2, 3, 4, 5, 6, 7, 0] rfl)
set_option maxHeartbeats 4000000 in
set_option maxRecDepth 100000 in
theorem wX6_write_114 {p : Program} {l : Launch} {e : Env} {s : State} {m : MethodId} {args : Array Value} {below : List Frame} {meth : Method} {c : Code} {D : va_G} {A : Nat → Prop} {Q : State → Prop} {cI : ClassId} {h_t h_p h_p_pixels h_f h_f_bytes : Nat} {t_inDigits : Int32} {t_greatest : Int32} {p_wide : Int32} {p_high : Int32} {p_pixels : Nat → Int32} {zf_size : Int32} {zf_bytes : Nat → Int32} (C : CallFix p m c cX6_write 8 s args wsX6_write RX6) (hN : zN s) (hK : va_K D vwCl [(cI, .int)] s) (hA : ∀ q, s.heap.size ≤ q → A q) (hE : zEv p l e rmX6_write s m args below meth c cX6_write D A Q (zwX6 cI h_t t_inDigits t_greatest ++ zwX5 cI h_p h_p_pixels p_wide p_high p_pixels ++ zwX2 cI h_f h_f_bytes zf_size zf_bytes)) {rc102 : Int32 → Int32 → (Nat → Int32) → Int32 → (Nat → Int32) → Int32 → Int32 → Int32 → Option (Int32 × (Nat → Int32))} (hr_102 : ∀ {f_size : Int32} {f_bytes : Nat → Int32} {l2 : Int32} {l4 : Int32} {l5 : Int32} {H : Heap} {locs : List Loc} {ls : Array Slot}, rc102 p_wide p_high p_pixels f_size f_bytes l2 l4 l5 = some (zf_size, zf_bytes) → va_P D vwCl (zwX6 cI h_t t_inDigits t_greatest ++ zwX5 cI h_p h_p_pixels p_wide p_high p_pixels ++ zwX2 cI h_f h_f_bytes f_size f_bytes) H → va_D A (zwX6 cI h_t t_inDigits t_greatest ++ zwX5 cI h_p h_p_pixels p_wide p_high p_pixels ++ zwX2 cI h_f h_f_bytes f_size f_bytes) → va_S A s.heap H locs → lv_has ls 8 [(0, .ref h_t), (1, .ref h_p), (2, .int l2), (3, .ref h_f), (4, .int l4), (5, .int l5)] → W p l e rmX6_write s m args below meth c H locs 0 0 Q (F0 m 102 ls [])) (n : Nat) : ∀ {f_size : Int32} {f_bytes : Nat → Int32} {l2 : Int32} {l4 : Int32} {l5 : Int32} {l6 : Int32} {H : Heap} {locs : List Loc} {ls : Array Slot}, fX6_write_114 rc102 n p_wide p_high p_pixels f_size f_bytes l2 l4 l5 l6 = some (zf_size, zf_bytes) → va_P D vwCl (zwX6 cI h_t t_inDigits t_greatest ++ zwX5 cI h_p h_p_pixels p_wide p_high p_pixels ++ zwX2 cI h_f h_f_bytes f_size f_bytes) H → va_D A (zwX6 cI h_t t_inDigits t_greatest ++ zwX5 cI h_p h_p_pixels p_wide p_high p_pixels ++ zwX2 cI h_f h_f_bytes f_size f_bytes) → va_S A s.heap H locs → lv_has ls 8 [(0, .ref h_t), (1, .ref h_p), (2, .int l2), (3, .ref h_f), (4, .int l4), (5, .int l5), (6, .int l6)] → W p l e rmX6_write s m args below meth c H locs 0 0 Q (F0 m 114 ls []) := by
  obtain ⟨hx, hb, hml, hown, hts⟩ := id C
  induction n with
  | zero =>
    intro f_size f_bytes l2 l4 l5 l6 H locs ls hf
    cases hf
  | succ n hr_114 =>
    intro f_size f_bytes l2 l4 l5 l6 H locs ls hf hP hD hS hl
    rw [fX6_write_114_s] at hf
    refine lv_iload hx hb dX6_write_114 (lv_at hl 6 rfl) ?_
    refine lv_aload_n hx hb dX6_write_116 rfl (lv_at hl 1 rfl) ?_
    refine va_getN (D := D) (ci := 4) (v := .int p_wide) (C := RX5) (T := TX5) (N := 3) hx hb hts iX6_write_X5 hown hK hP 1 rfl rfl 1 (by decide) (hN.at 3 rfl) (fun _ h9 => h9) rfl dX6_write_117 ?_
    refine lv_icmp_ge (tgt := 166) hx hb dX6_write_120 (by decide) (fun c1 => ?_) (fun c1 => ?_)
    · replace hf := zif_t hf c1
      obtain ⟨x2, ex2⟩ : ∃ y : Int32, y = l5 + 1 := ⟨_, rfl⟩
      replace hf := zlet_in hf ex2
      refine lv_iinc (v := x2) (lv' := [(5, .int x2), (0, .ref h_t), (1, .ref h_p), (2, .int l2), (3, .ref h_f), (4, .int l4), (6, .int l6)]) hx hb dX6_write_166 hl (k := 5) rfl (by rw [ex2]; rfl) (by decide) rfl (fun ls hl => ?_)
      clear ex2
      refine lv_goto (tgt := 102) hx hb dX6_write_169 (by decide) ?_
      exact hr_102 hf hP hD hS (lv_sub hl [1, 2, 3, 4, 5, 0] rfl)
    · replace hf := zif_f hf c1
      refine lv_iload hx hb dX6_write_123 (lv_at hl 6 rfl) ?_
      refine lv_iconst (v := 1) hx hb dX6_write_125 (by decide) ?_
      refine lv_iadd hx hb dX6_write_126 ?_
      refine lv_aload_n hx hb dX6_write_127 rfl (lv_at hl 1 rfl) ?_
      refine va_getN (D := D) (ci := 4) (v := .int p_wide) (C := RX5) (T := TX5) (N := 3) hx hb hts iX6_write_X5 hown hK hP 1 rfl rfl 1 (by decide) (hN.at 3 rfl) (fun _ h9 => h9) rfl dX6_write_128 ?_
      refine lv_icmp_ne (tgt := 139) hx hb dX6_write_131 (by decide) (fun c3 => ?_) (fun c3 => ?_)
      · replace hf := zif_f hf c3
        refine lv_bipush (v := 32) hx hb dX6_write_139 (by decide) ?_
        exact wX6_write_141 C hN hK hA hE hr_102 hr_114 hf hP hD hS (lv_sub hl [0, 1, 2, 3, 4, 5, 6] rfl)
      · replace hf := zif_t hf c3
        refine lv_bipush (v := 10) hx hb dX6_write_134 (by decide) ?_
        refine lv_goto (tgt := 141) hx hb dX6_write_136 (by decide) ?_
        exact wX6_write_141 C hN hK hA hE hr_102 hr_114 hf hP hD hS (lv_sub hl [0, 1, 2, 3, 4, 5, 6] rfl)
set_option maxHeartbeats 4000000 in
set_option maxRecDepth 100000 in
theorem wX6_write_102 {p : Program} {l : Launch} {e : Env} {s : State} {m : MethodId} {args : Array Value} {below : List Frame} {meth : Method} {c : Code} {D : va_G} {A : Nat → Prop} {Q : State → Prop} {cI : ClassId} {h_t h_p h_p_pixels h_f h_f_bytes : Nat} {t_inDigits : Int32} {t_greatest : Int32} {p_wide : Int32} {p_high : Int32} {p_pixels : Nat → Int32} {zf_size : Int32} {zf_bytes : Nat → Int32} (C : CallFix p m c cX6_write 8 s args wsX6_write RX6) (hN : zN s) (hK : va_K D vwCl [(cI, .int)] s) (hA : ∀ q, s.heap.size ≤ q → A q) (hE : zEv p l e rmX6_write s m args below meth c cX6_write D A Q (zwX6 cI h_t t_inDigits t_greatest ++ zwX5 cI h_p h_p_pixels p_wide p_high p_pixels ++ zwX2 cI h_f h_f_bytes zf_size zf_bytes)) (n : Nat) : ∀ {f_size : Int32} {f_bytes : Nat → Int32} {l2 : Int32} {l4 : Int32} {l5 : Int32} {H : Heap} {locs : List Loc} {ls : Array Slot}, fX6_write_102 n p_wide p_high p_pixels f_size f_bytes l2 l4 l5 = some (zf_size, zf_bytes) → va_P D vwCl (zwX6 cI h_t t_inDigits t_greatest ++ zwX5 cI h_p h_p_pixels p_wide p_high p_pixels ++ zwX2 cI h_f h_f_bytes f_size f_bytes) H → va_D A (zwX6 cI h_t t_inDigits t_greatest ++ zwX5 cI h_p h_p_pixels p_wide p_high p_pixels ++ zwX2 cI h_f h_f_bytes f_size f_bytes) → va_S A s.heap H locs → lv_has ls 8 [(0, .ref h_t), (1, .ref h_p), (2, .int l2), (3, .ref h_f), (4, .int l4), (5, .int l5)] → W p l e rmX6_write s m args below meth c H locs 0 0 Q (F0 m 102 ls []) := by
  obtain ⟨hx, hb, hml, hown, hts⟩ := id C
  induction n with
  | zero =>
    intro f_size f_bytes l2 l4 l5 H locs ls hf
    cases hf
  | succ n hr_102 =>
    intro f_size f_bytes l2 l4 l5 H locs ls hf hP hD hS hl
    rw [fX6_write_102_s] at hf
    refine lv_iload hx hb dX6_write_102 (lv_at hl 5 rfl) ?_
    refine lv_aload_n hx hb dX6_write_104 rfl (lv_at hl 1 rfl) ?_
    refine va_getN (D := D) (ci := 4) (v := .int p_high) (C := RX5) (T := TX5) (N := 3) hx hb hts iX6_write_X5 hown hK hP 1 rfl rfl 2 (by decide) (hN.at 9 rfl) (fun _ h9 => h9) rfl dX6_write_105 ?_
    refine lv_icmp_ge (tgt := 172) hx hb dX6_write_108 (by decide) (fun c1 => ?_) (fun c1 => ?_)
    · replace hf := zif_t hf c1
      cases hf
      exact hE _ _ _ _ dX6_write_172 hP hD hS
    · replace hf := zif_f hf c1
      refine lv_iconst (v := 0) hx hb dX6_write_111 (by decide) ?_
      refine lv_istore (lv' := [(6, .int 0), (0, .ref h_t), (1, .ref h_p), (2, .int l2), (3, .ref h_f), (4, .int l4), (5, .int l5)]) hx hb dX6_write_112 hl (by decide) rfl (fun ls hl => ?_)
      exact wX6_write_114 C hN hK hA hE hr_102 1000 hf hP hD hS (lv_sub hl [1, 2, 3, 4, 5, 6, 0] rfl)
set_option maxHeartbeats 4000000 in
set_option maxRecDepth 100000 in
theorem wX6_write_43 {p : Program} {l : Launch} {e : Env} {s : State} {m : MethodId} {args : Array Value} {below : List Frame} {meth : Method} {c : Code} {D : va_G} {A : Nat → Prop} {Q : State → Prop} {cI : ClassId} {h_t h_p h_p_pixels h_f h_f_bytes : Nat} {t_inDigits : Int32} {t_greatest : Int32} {p_wide : Int32} {p_high : Int32} {p_pixels : Nat → Int32} {zf_size : Int32} {zf_bytes : Nat → Int32} (C : CallFix p m c cX6_write 8 s args wsX6_write RX6) (hN : zN s) (hK : va_K D vwCl [(cI, .int)] s) (hA : ∀ q, s.heap.size ≤ q → A q) (hE : zEv p l e rmX6_write s m args below meth c cX6_write D A Q (zwX6 cI h_t t_inDigits t_greatest ++ zwX5 cI h_p h_p_pixels p_wide p_high p_pixels ++ zwX2 cI h_f h_f_bytes zf_size zf_bytes)) {f_size : Int32} {f_bytes : Nat → Int32} {l2 : Int32} {l4 : Int32} {k1 : Int32} {k2 : Int32} {H : Heap} {locs : List Loc} {ls : Array Slot} : fX6_write_43 p_wide p_high p_pixels f_size f_bytes l2 l4 k1 k2 = some (zf_size, zf_bytes) → va_P D vwCl (zwX6 cI h_t t_inDigits t_greatest ++ zwX5 cI h_p h_p_pixels p_wide p_high p_pixels ++ zwX2 cI h_f h_f_bytes f_size f_bytes) H → va_D A (zwX6 cI h_t t_inDigits t_greatest ++ zwX5 cI h_p h_p_pixels p_wide p_high p_pixels ++ zwX2 cI h_f h_f_bytes f_size f_bytes) → va_S A s.heap H locs → lv_has ls 8 [(0, .ref h_t), (1, .ref h_p), (2, .int l2), (3, .ref h_f), (4, .int l4)] → W p l e rmX6_write s m args below meth c H locs 0 0 Q (F0 m 43 ls [.int k2, .int k1, .ref h_f]) := by
  intro hf hP hD hS hl
  obtain ⟨hx, hb, hml, hown, hts⟩ := id C
  unfold fX6_write_43 at hf
  refine lv_iadd hx hb dX6_write_43 ?_
  obtain ⟨r1, u2, u3, hc4, hf⟩ := zb3_in hf
  refine zc_i (va_runV (As := [.int (k1 + k2)]) (rest := []) C (mX2_append l D cI H.size h_f h_f_bytes f_size f_bytes (k1 + k2) r1 u2 u3 hc4) (qX6_write_X2_append_24 hts) ⟨zP_blind, va_recv hK hP (ci := 2) (q0 := 3) rfl rfl, zpre hK hN hP hD [3, 4] rfl rfl⟩ rfl rfl hl.1 rfl (lv_room (Nat.le_of_ble_eq_true rfl)) dX6_write_44 ⟨Nat.zero_le _, Nat.zero_le _⟩) hP hD hS hA [3, 4] [0, 1, 2] [0, 1, 2, 3, 4] (ws' := zwX6 cI h_t t_inDigits t_greatest ++ zwX5 cI h_p h_p_pixels p_wide p_high p_pixels ++ zwX2 cI h_f h_f_bytes u2 u3) rfl rfl rfl rfl rfl rfl (fun H locs hP hD hS => ?_)
  refine lv_pop hx hb dX6_write_47 rfl ?_
  refine lv_aload_n hx hb dX6_write_48 rfl (lv_at hl 3 rfl) ?_
  refine lv_bipush (v := 10) hx hb dX6_write_49 (by decide) ?_
  obtain ⟨r5, u6, u7, hc8, hf⟩ := zb3_in hf
  refine zc_i (va_runV (As := [.int 10]) (rest := []) C (mX2_append l D cI H.size h_f h_f_bytes u2 u3 10 r5 u6 u7 hc8) (qX6_write_X2_append_24 hts) ⟨zP_blind, va_recv hK hP (ci := 2) (q0 := 3) rfl rfl, zpre hK hN hP hD [3, 4] rfl rfl⟩ rfl rfl hl.1 rfl (lv_room (Nat.le_of_ble_eq_true rfl)) dX6_write_51 ⟨Nat.zero_le _, Nat.zero_le _⟩) hP hD hS hA [3, 4] [0, 1, 2] [0, 1, 2, 3, 4] (ws' := zwX6 cI h_t t_inDigits t_greatest ++ zwX5 cI h_p h_p_pixels p_wide p_high p_pixels ++ zwX2 cI h_f h_f_bytes u6 u7) rfl rfl rfl rfl rfl rfl (fun H locs hP hD hS => ?_)
  refine lv_pop hx hb dX6_write_54 rfl ?_
  refine lv_aload_n hx hb dX6_write_55 rfl (lv_at hl 3 rfl) ?_
  refine lv_aload_n hx hb dX6_write_56 rfl (lv_at hl 1 rfl) ?_
  refine va_getN (D := D) (ci := 4) (v := .int p_wide) (C := RX5) (T := TX5) (N := 3) hx hb hts iX6_write_X5 hown hK hP 1 rfl rfl 1 (by decide) (hN.at 3 rfl) (fun _ h9 => h9) rfl dX6_write_57 ?_
  obtain ⟨u9, u10, hc11, hf⟩ := zb2_in hf
  refine zc_v (va_runV (As := [.int p_wide]) (rest := []) C (mX2_appendDigits l D cI H.size h_f h_f_bytes u6 u7 p_wide u9 u10 hc11) (qX6_write_X2_appendDigits_34 hts) ⟨zP_blind, va_recv hK hP (ci := 2) (q0 := 3) rfl rfl, zpre hK hN hP hD [3, 4] rfl rfl⟩ rfl rfl hl.1 rfl (lv_room (Nat.le_of_ble_eq_true rfl)) dX6_write_60 ⟨Nat.zero_le _, Nat.zero_le _⟩) hP hD hS hA [3, 4] [0, 1, 2] [0, 1, 2, 3, 4] (ws' := zwX6 cI h_t t_inDigits t_greatest ++ zwX5 cI h_p h_p_pixels p_wide p_high p_pixels ++ zwX2 cI h_f h_f_bytes u9 u10) rfl rfl rfl rfl rfl rfl (fun H locs hP hD hS => ?_)
  refine lv_aload_n hx hb dX6_write_63 rfl (lv_at hl 3 rfl) ?_
  refine lv_bipush (v := 32) hx hb dX6_write_64 (by decide) ?_
  obtain ⟨r12, u13, u14, hc15, hf⟩ := zb3_in hf
  refine zc_i (va_runV (As := [.int 32]) (rest := []) C (mX2_append l D cI H.size h_f h_f_bytes u9 u10 32 r12 u13 u14 hc15) (qX6_write_X2_append_24 hts) ⟨zP_blind, va_recv hK hP (ci := 2) (q0 := 3) rfl rfl, zpre hK hN hP hD [3, 4] rfl rfl⟩ rfl rfl hl.1 rfl (lv_room (Nat.le_of_ble_eq_true rfl)) dX6_write_66 ⟨Nat.zero_le _, Nat.zero_le _⟩) hP hD hS hA [3, 4] [0, 1, 2] [0, 1, 2, 3, 4] (ws' := zwX6 cI h_t t_inDigits t_greatest ++ zwX5 cI h_p h_p_pixels p_wide p_high p_pixels ++ zwX2 cI h_f h_f_bytes u13 u14) rfl rfl rfl rfl rfl rfl (fun H locs hP hD hS => ?_)
  refine lv_pop hx hb dX6_write_69 rfl ?_
  refine lv_aload_n hx hb dX6_write_70 rfl (lv_at hl 3 rfl) ?_
  refine lv_aload_n hx hb dX6_write_71 rfl (lv_at hl 1 rfl) ?_
  refine va_getN (D := D) (ci := 4) (v := .int p_high) (C := RX5) (T := TX5) (N := 3) hx hb hts iX6_write_X5 hown hK hP 1 rfl rfl 2 (by decide) (hN.at 9 rfl) (fun _ h9 => h9) rfl dX6_write_72 ?_
  obtain ⟨u16, u17, hc18, hf⟩ := zb2_in hf
  refine zc_v (va_runV (As := [.int p_high]) (rest := []) C (mX2_appendDigits l D cI H.size h_f h_f_bytes u13 u14 p_high u16 u17 hc18) (qX6_write_X2_appendDigits_34 hts) ⟨zP_blind, va_recv hK hP (ci := 2) (q0 := 3) rfl rfl, zpre hK hN hP hD [3, 4] rfl rfl⟩ rfl rfl hl.1 rfl (lv_room (Nat.le_of_ble_eq_true rfl)) dX6_write_75 ⟨Nat.zero_le _, Nat.zero_le _⟩) hP hD hS hA [3, 4] [0, 1, 2] [0, 1, 2, 3, 4] (ws' := zwX6 cI h_t t_inDigits t_greatest ++ zwX5 cI h_p h_p_pixels p_wide p_high p_pixels ++ zwX2 cI h_f h_f_bytes u16 u17) rfl rfl rfl rfl rfl rfl (fun H locs hP hD hS => ?_)
  refine lv_aload_n hx hb dX6_write_78 rfl (lv_at hl 3 rfl) ?_
  refine lv_bipush (v := 10) hx hb dX6_write_79 (by decide) ?_
  obtain ⟨r19, u20, u21, hc22, hf⟩ := zb3_in hf
  refine zc_i (va_runV (As := [.int 10]) (rest := []) C (mX2_append l D cI H.size h_f h_f_bytes u16 u17 10 r19 u20 u21 hc22) (qX6_write_X2_append_24 hts) ⟨zP_blind, va_recv hK hP (ci := 2) (q0 := 3) rfl rfl, zpre hK hN hP hD [3, 4] rfl rfl⟩ rfl rfl hl.1 rfl (lv_room (Nat.le_of_ble_eq_true rfl)) dX6_write_81 ⟨Nat.zero_le _, Nat.zero_le _⟩) hP hD hS hA [3, 4] [0, 1, 2] [0, 1, 2, 3, 4] (ws' := zwX6 cI h_t t_inDigits t_greatest ++ zwX5 cI h_p h_p_pixels p_wide p_high p_pixels ++ zwX2 cI h_f h_f_bytes u20 u21) rfl rfl rfl rfl rfl rfl (fun H locs hP hD hS => ?_)
  refine lv_pop hx hb dX6_write_84 rfl ?_
  refine lv_aload_n hx hb dX6_write_85 rfl (lv_at hl 3 rfl) ?_
  refine lv_sipush (v := 255) hx hb dX6_write_86 (by decide) ?_
  obtain ⟨u23, u24, hc25, hf⟩ := zb2_in hf
  refine zc_v (va_runV (As := [.int 255]) (rest := []) C (mX2_appendDigits l D cI H.size h_f h_f_bytes u20 u21 255 u23 u24 hc25) (qX6_write_X2_appendDigits_34 hts) ⟨zP_blind, va_recv hK hP (ci := 2) (q0 := 3) rfl rfl, zpre hK hN hP hD [3, 4] rfl rfl⟩ rfl rfl hl.1 rfl (lv_room (Nat.le_of_ble_eq_true rfl)) dX6_write_89 ⟨Nat.zero_le _, Nat.zero_le _⟩) hP hD hS hA [3, 4] [0, 1, 2] [0, 1, 2, 3, 4] (ws' := zwX6 cI h_t t_inDigits t_greatest ++ zwX5 cI h_p h_p_pixels p_wide p_high p_pixels ++ zwX2 cI h_f h_f_bytes u23 u24) rfl rfl rfl rfl rfl rfl (fun H locs hP hD hS => ?_)
  refine lv_aload_n hx hb dX6_write_92 rfl (lv_at hl 3 rfl) ?_
  refine lv_bipush (v := 10) hx hb dX6_write_93 (by decide) ?_
  obtain ⟨r26, u27, u28, hc29, hf⟩ := zb3_in hf
  refine zc_i (va_runV (As := [.int 10]) (rest := []) C (mX2_append l D cI H.size h_f h_f_bytes u23 u24 10 r26 u27 u28 hc29) (qX6_write_X2_append_24 hts) ⟨zP_blind, va_recv hK hP (ci := 2) (q0 := 3) rfl rfl, zpre hK hN hP hD [3, 4] rfl rfl⟩ rfl rfl hl.1 rfl (lv_room (Nat.le_of_ble_eq_true rfl)) dX6_write_95 ⟨Nat.zero_le _, Nat.zero_le _⟩) hP hD hS hA [3, 4] [0, 1, 2] [0, 1, 2, 3, 4] (ws' := zwX6 cI h_t t_inDigits t_greatest ++ zwX5 cI h_p h_p_pixels p_wide p_high p_pixels ++ zwX2 cI h_f h_f_bytes u27 u28) rfl rfl rfl rfl rfl rfl (fun H locs hP hD hS => ?_)
  refine lv_pop hx hb dX6_write_98 rfl ?_
  refine lv_iconst (v := 0) hx hb dX6_write_99 (by decide) ?_
  refine lv_istore (lv' := [(5, .int 0), (0, .ref h_t), (1, .ref h_p), (2, .int l2), (3, .ref h_f), (4, .int l4)]) hx hb dX6_write_100 hl (by decide) rfl (fun ls hl => ?_)
  exact wX6_write_102 C hN hK hA hE 1000 hf hP hD hS (lv_sub hl [1, 2, 3, 4, 5, 0] rfl)
set_option maxHeartbeats 4000000 in
set_option maxRecDepth 100000 in
theorem wX6_write_33 {p : Program} {l : Launch} {e : Env} {s : State} {m : MethodId} {args : Array Value} {below : List Frame} {meth : Method} {c : Code} {D : va_G} {A : Nat → Prop} {Q : State → Prop} {cI : ClassId} {h_t h_p h_p_pixels h_f h_f_bytes : Nat} {t_inDigits : Int32} {t_greatest : Int32} {p_wide : Int32} {p_high : Int32} {p_pixels : Nat → Int32} {zf_size : Int32} {zf_bytes : Nat → Int32} (C : CallFix p m c cX6_write 8 s args wsX6_write RX6) (hN : zN s) (hK : va_K D vwCl [(cI, .int)] s) (hA : ∀ q, s.heap.size ≤ q → A q) (hE : zEv p l e rmX6_write s m args below meth c cX6_write D A Q (zwX6 cI h_t t_inDigits t_greatest ++ zwX5 cI h_p h_p_pixels p_wide p_high p_pixels ++ zwX2 cI h_f h_f_bytes zf_size zf_bytes)) {f_size : Int32} {f_bytes : Nat → Int32} {l2 : Int32} {l4 : Int32} {k1 : Int32} {H : Heap} {locs : List Loc} {ls : Array Slot} : fX6_write_33 p_wide p_high p_pixels f_size f_bytes l2 l4 k1 = some (zf_size, zf_bytes) → va_P D vwCl (zwX6 cI h_t t_inDigits t_greatest ++ zwX5 cI h_p h_p_pixels p_wide p_high p_pixels ++ zwX2 cI h_f h_f_bytes f_size f_bytes) H → va_D A (zwX6 cI h_t t_inDigits t_greatest ++ zwX5 cI h_p h_p_pixels p_wide p_high p_pixels ++ zwX2 cI h_f h_f_bytes f_size f_bytes) → va_S A s.heap H locs → lv_has ls 8 [(0, .ref h_t), (1, .ref h_p), (2, .int l2), (3, .ref h_f), (4, .int l4)] → W p l e rmX6_write s m args below meth c H locs 0 0 Q (F0 m 33 ls [.int k1, .ref h_f]) := by
  intro hf hP hD hS hl
  obtain ⟨hx, hb, hml, hown, hts⟩ := id C
  unfold fX6_write_33 at hf
  refine lv_iload hx hb dX6_write_33 (lv_at hl 4 rfl) ?_
  refine lv_if_eq (tgt := 42) hx hb dX6_write_35 (by decide) (fun c1 => ?_) (fun c1 => ?_)
  · replace hf := zif_t hf c1
    refine lv_iconst (v := 0) hx hb dX6_write_42 (by decide) ?_
    exact wX6_write_43 C hN hK hA hE hf hP hD hS (lv_sub hl [0, 1, 2, 3, 4] rfl)
  · replace hf := zif_f hf c1
    refine lv_iconst (v := 1) hx hb dX6_write_38 (by decide) ?_
    refine lv_goto (tgt := 43) hx hb dX6_write_39 (by decide) ?_
    exact wX6_write_43 C hN hK hA hE hf hP hD hS (lv_sub hl [0, 1, 2, 3, 4] rfl)
set_option maxHeartbeats 4000000 in
set_option maxRecDepth 100000 in
theorem wX6_write_12 {p : Program} {l : Launch} {e : Env} {s : State} {m : MethodId} {args : Array Value} {below : List Frame} {meth : Method} {c : Code} {D : va_G} {A : Nat → Prop} {Q : State → Prop} {cI : ClassId} {h_t h_p h_p_pixels h_f h_f_bytes : Nat} {t_inDigits : Int32} {t_greatest : Int32} {p_wide : Int32} {p_high : Int32} {p_pixels : Nat → Int32} {zf_size : Int32} {zf_bytes : Nat → Int32} (C : CallFix p m c cX6_write 8 s args wsX6_write RX6) (hN : zN s) (hK : va_K D vwCl [(cI, .int)] s) (hA : ∀ q, s.heap.size ≤ q → A q) (hE : zEv p l e rmX6_write s m args below meth c cX6_write D A Q (zwX6 cI h_t t_inDigits t_greatest ++ zwX5 cI h_p h_p_pixels p_wide p_high p_pixels ++ zwX2 cI h_f h_f_bytes zf_size zf_bytes)) {f_size : Int32} {f_bytes : Nat → Int32} {l2 : Int32} {k0 : Int32} {H : Heap} {locs : List Loc} {ls : Array Slot} : fX6_write_12 p_wide p_high p_pixels f_size f_bytes l2 k0 = some (zf_size, zf_bytes) → va_P D vwCl (zwX6 cI h_t t_inDigits t_greatest ++ zwX5 cI h_p h_p_pixels p_wide p_high p_pixels ++ zwX2 cI h_f h_f_bytes f_size f_bytes) H → va_D A (zwX6 cI h_t t_inDigits t_greatest ++ zwX5 cI h_p h_p_pixels p_wide p_high p_pixels ++ zwX2 cI h_f h_f_bytes f_size f_bytes) → va_S A s.heap H locs → lv_has ls 8 [(0, .ref h_t), (1, .ref h_p), (2, .int l2), (3, .ref h_f)] → W p l e rmX6_write s m args below meth c H locs 0 0 Q (F0 m 12 ls [.int k0]) := by
  intro hf hP hD hS hl
  obtain ⟨hx, hb, hml, hown, hts⟩ := id C
  unfold fX6_write_12 at hf
  refine lv_istore (lv' := [(4, .int k0), (0, .ref h_t), (1, .ref h_p), (2, .int l2), (3, .ref h_f)]) hx hb dX6_write_12 hl (by decide) rfl (fun ls hl => ?_)
  refine lv_aload_n hx hb dX6_write_14 rfl (lv_at hl 4 rfl) ?_
  refine lv_bipush (v := 80) hx hb dX6_write_15 (by decide) ?_
  obtain ⟨r1, u2, u3, hc4, hf⟩ := zb3_in hf
  refine zc_i (va_runV (As := [.int 80]) (rest := []) C (mX2_append l D cI H.size h_f h_f_bytes f_size f_bytes 80 r1 u2 u3 hc4) (qX6_write_X2_append_24 hts) ⟨zP_blind, va_recv hK hP (ci := 2) (q0 := 3) rfl rfl, zpre hK hN hP hD [3, 4] rfl rfl⟩ rfl rfl hl.1 rfl (lv_room (Nat.le_of_ble_eq_true rfl)) dX6_write_17 ⟨Nat.zero_le _, Nat.zero_le _⟩) hP hD hS hA [3, 4] [0, 1, 2] [0, 1, 2, 3, 4] (ws' := zwX6 cI h_t t_inDigits t_greatest ++ zwX5 cI h_p h_p_pixels p_wide p_high p_pixels ++ zwX2 cI h_f h_f_bytes u2 u3) rfl rfl rfl rfl rfl rfl (fun H locs hP hD hS => ?_)
  refine lv_pop hx hb dX6_write_20 rfl ?_
  refine lv_aload_n hx hb dX6_write_21 rfl (lv_at hl 4 rfl) ?_
  refine lv_iload_n hx hb dX6_write_22 rfl (lv_at hl 3 rfl) ?_
  refine lv_if_ne (tgt := 31) hx hb dX6_write_23 (by decide) (fun c5 => ?_) (fun c5 => ?_)
  · replace hf := zif_f hf c5
    refine lv_bipush (v := 50) hx hb dX6_write_31 (by decide) ?_
    exact wX6_write_33 C hN hK hA hE hf hP hD hS (lv_sub hl [1, 2, 3, 4, 0] rfl)
  · replace hf := zif_t hf c5
    refine lv_bipush (v := 53) hx hb dX6_write_26 (by decide) ?_
    refine lv_goto (tgt := 33) hx hb dX6_write_28 (by decide) ?_
    exact wX6_write_33 C hN hK hA hE hf hP hD hS (lv_sub hl [1, 2, 3, 4, 0] rfl)
set_option maxHeartbeats 4000000 in
set_option maxRecDepth 100000 in
theorem wX6_write_0 {p : Program} {l : Launch} {e : Env} {s : State} {m : MethodId} {args : Array Value} {below : List Frame} {meth : Method} {c : Code} {D : va_G} {A : Nat → Prop} {Q : State → Prop} {cI : ClassId} {h_t h_p h_p_pixels h_f h_f_bytes : Nat} {t_inDigits : Int32} {t_greatest : Int32} {p_wide : Int32} {p_high : Int32} {p_pixels : Nat → Int32} {zf_size : Int32} {zf_bytes : Nat → Int32} (C : CallFix p m c cX6_write 8 s args wsX6_write RX6) (hN : zN s) (hK : va_K D vwCl [(cI, .int)] s) (hA : ∀ q, s.heap.size ≤ q → A q) (hE : zEv p l e rmX6_write s m args below meth c cX6_write D A Q (zwX6 cI h_t t_inDigits t_greatest ++ zwX5 cI h_p h_p_pixels p_wide p_high p_pixels ++ zwX2 cI h_f h_f_bytes zf_size zf_bytes)) {f_size : Int32} {f_bytes : Nat → Int32} {v1 : Int32} {H : Heap} {locs : List Loc} {ls : Array Slot} : fX6_write p_wide p_high p_pixels f_size f_bytes v1 = some (zf_size, zf_bytes) → va_P D vwCl (zwX6 cI h_t t_inDigits t_greatest ++ zwX5 cI h_p h_p_pixels p_wide p_high p_pixels ++ zwX2 cI h_f h_f_bytes f_size f_bytes) H → va_D A (zwX6 cI h_t t_inDigits t_greatest ++ zwX5 cI h_p h_p_pixels p_wide p_high p_pixels ++ zwX2 cI h_f h_f_bytes f_size f_bytes) → va_S A s.heap H locs → lv_has ls 8 [(0, .ref h_t), (1, .ref h_p), (2, .int v1), (3, .ref h_f)] → W p l e rmX6_write s m args below meth c H locs 0 0 Q (F0 m 0 ls []) := by
  intro hf hP hD hS hl
  obtain ⟨hx, hb, hml, hown, hts⟩ := id C
  unfold fX6_write at hf
  refine lv_aload_n hx hb dX6_write_0 rfl (lv_at hl 1 rfl) ?_
  obtain ⟨r1, hc2, hf⟩ := zb1_in hf
  refine zc_i (va_runV (As := []) (rest := []) C (mX5_isGrey l D cI H.size h_p h_p_pixels p_wide p_high p_pixels r1 hc2) (qX6_write_X5_isGrey_21 hts) ⟨zP_blind, va_recv hK hP (ci := 4) (q0 := 1) rfl rfl, zpre hK hN hP hD [1, 2] rfl rfl⟩ rfl rfl hl.1 rfl (lv_room (Nat.le_of_ble_eq_true rfl)) dX6_write_1 ⟨Nat.zero_le _, Nat.zero_le _⟩) hP hD hS hA [1, 2] [0, 3, 4] [0, 3, 4, 1, 2] (ws' := zwX6 cI h_t t_inDigits t_greatest ++ zwX5 cI h_p h_p_pixels p_wide p_high p_pixels ++ zwX2 cI h_f h_f_bytes f_size f_bytes) rfl rfl rfl rfl rfl rfl (fun H locs hP hD hS => ?_)
  refine lv_if_ne (tgt := 11) hx hb dX6_write_4 (by decide) (fun c3 => ?_) (fun c3 => ?_)
  · replace hf := zif_f hf c3
    refine lv_iconst (v := 0) hx hb dX6_write_11 (by decide) ?_
    exact wX6_write_12 C hN hK hA hE hf hP hD hS (lv_sub hl [0, 1, 2, 3] rfl)
  · replace hf := zif_t hf c3
    refine lv_iconst (v := 1) hx hb dX6_write_7 (by decide) ?_
    refine lv_goto (tgt := 12) hx hb dX6_write_8 (by decide) ?_
    exact wX6_write_12 C hN hK hA hE hf hP hD hS (lv_sub hl [0, 1, 2, 3] rfl)
set_option maxHeartbeats 4000000 in
set_option maxRecDepth 100000 in
theorem mX6_write (l : Launch) (D : va_G) (cI : ClassId) (sz : Nat) (h_t h_p h_p_pixels h_f h_f_bytes : Nat) (t_inDigits : Int32) (t_greatest : Int32) (p_wide : Int32) (p_high : Int32) (p_pixels : Nat → Int32) (f_size : Int32) (f_bytes : Nat → Int32) (v1 : Int32) (zf_size : Int32) (zf_bytes : Nat → Int32) (hf : fX6_write p_wide p_high p_pixels f_size f_bytes v1 = some (zf_size, zf_bytes)) : Met l yX6_write wsX6_write rmX6_write (va_Pc [.ref h_t, .ref h_p, .int v1, .ref h_f] (zP D [(cI, .int)] (zwX6 cI h_t t_inDigits t_greatest ++ zwX5 cI h_p h_p_pixels p_wide p_high p_pixels ++ zwX2 cI h_f h_f_bytes f_size f_bytes) sz)) (zQv D (zwX6 cI h_t t_inDigits t_greatest ++ zwX5 cI h_p h_p_pixels p_wide p_high p_pixels ++ zwX2 cI h_f h_f_bytes f_size f_bytes) sz (zwX6 cI h_t t_inDigits t_greatest ++ zwX5 cI h_p h_p_pixels p_wide p_high p_pixels ++ zwX2 cI h_f h_f_bytes zf_size zf_bytes)) 0 0 (va_A (zwX6 cI h_t t_inDigits t_greatest ++ zwX5 cI h_p h_p_pixels p_wide p_high p_pixels ++ zwX2 cI h_f h_f_bytes f_size f_bytes) sz) := by
  refine Met.ofW (cc := cX6_write) (maxL := 8) (ret := none) (by decide) rfl ?_
  intro p e s m args below meth c s₁ B hml hv
  obtain ⟨rfl, hsz, hP, hK, hD0, hN⟩ := hv
  subst hsz
  have C : CallFix p m c cX6_write 8 s [.ref h_t, .ref h_p, .int v1, .ref h_f].toArray wsX6_write RX6 := ⟨B.exec, B.bytes, hml, findClass_of_methodNamed B.named, atoms_spec (ws := wsX6_write) B.pre⟩
  have hl := lv_entry ([.ref h_t, .ref h_p, .int v1, .ref h_f]) (n := 8) (Nat.le_of_ble_eq_true rfl)
  rw [lg_entry_eq]
  exact wX6_write_0 (A := va_A (zwX6 cI h_t t_inDigits t_greatest ++ zwX5 cI h_p h_p_pixels p_wide p_high p_pixels ++ zwX2 cI h_f h_f_bytes f_size f_bytes) s.heap.size) C hN hK (fun q h => Or.inr h) (fun H locs pc ls d hP hD hS => zend_v C.1 C.2.1 B.returns B.notSynchronized d hP hD hS) hf hP hD0.self va_S.rf hl
def rmX6_isSpace : Room := { frames := 0, cells := 0, slots := 0, locals := 0 }
set_option maxHeartbeats 4000000 in
set_option maxRecDepth 100000 in
theorem wX6_isSpace_24 {p : Program} {l : Launch} {e : Env} {s : State} {m : MethodId} {args : Array Value} {below : List Frame} {meth : Method} {c : Code} {D : va_G} {A : Nat → Prop} {Q : State → Prop} {cI : ClassId} {r0 : Int32} (C : CallFix p m c cX6_isSpace 1 s args wsX6_isSpace RX6) (hN : zN s) (hK : va_K D vwCl [(cI, .int)] s) (hA : ∀ q, s.heap.size ≤ q → A q) (hE : zEz p l e rmX6_isSpace s m args below meth c cX6_isSpace D A Q (([] : va_W)) r0) {l0 : Int32} {H : Heap} {locs : List Loc} {ls : Array Slot} : fX6_isSpace_24 = some r0 → va_P D vwCl (([] : va_W)) H → va_D A (([] : va_W)) → va_S A s.heap H locs → lv_has ls 1 [(0, .int l0)] → W p l e rmX6_isSpace s m args below meth c H locs 0 0 Q (F0 m 24 ls []) := by
  intro hf hP hD hS hl
  obtain ⟨hx, hb, hml, hown, hts⟩ := id C
  unfold fX6_isSpace_24 at hf
  refine lv_iconst (v := 1) hx hb dX6_isSpace_24 (by decide) ?_
  refine lv_goto (tgt := 29) hx hb dX6_isSpace_25 (by decide) ?_
  cases hf
  exact hE _ _ _ _ dX6_isSpace_29 rfl hP hD hS
set_option maxHeartbeats 4000000 in
set_option maxRecDepth 100000 in
theorem wX6_isSpace_0 {p : Program} {l : Launch} {e : Env} {s : State} {m : MethodId} {args : Array Value} {below : List Frame} {meth : Method} {c : Code} {D : va_G} {A : Nat → Prop} {Q : State → Prop} {cI : ClassId} {r0 : Int32} (C : CallFix p m c cX6_isSpace 1 s args wsX6_isSpace RX6) (hN : zN s) (hK : va_K D vwCl [(cI, .int)] s) (hA : ∀ q, s.heap.size ≤ q → A q) (hE : zEz p l e rmX6_isSpace s m args below meth c cX6_isSpace D A Q (([] : va_W)) r0) {v0 : Int32} {H : Heap} {locs : List Loc} {ls : Array Slot} : fX6_isSpace v0 = some r0 → va_P D vwCl (([] : va_W)) H → va_D A (([] : va_W)) → va_S A s.heap H locs → lv_has ls 1 [(0, .int v0)] → W p l e rmX6_isSpace s m args below meth c H locs 0 0 Q (F0 m 0 ls []) := by
  intro hf hP hD hS hl
  obtain ⟨hx, hb, hml, hown, hts⟩ := id C
  unfold fX6_isSpace at hf
  refine lv_iload_n hx hb dX6_isSpace_0 rfl (lv_at hl 0 rfl) ?_
  refine lv_bipush (v := 9) hx hb dX6_isSpace_1 (by decide) ?_
  refine lv_icmp_eq (tgt := 24) hx hb dX6_isSpace_3 (by decide) (fun c1 => ?_) (fun c1 => ?_)
  · replace hf := zif_t hf c1
    exact wX6_isSpace_24 C hN hK hA hE hf hP hD hS (lv_sub hl [0] rfl)
  · replace hf := zif_f hf c1
    refine lv_iload_n hx hb dX6_isSpace_6 rfl (lv_at hl 0 rfl) ?_
    refine lv_bipush (v := 10) hx hb dX6_isSpace_7 (by decide) ?_
    refine lv_icmp_eq (tgt := 24) hx hb dX6_isSpace_9 (by decide) (fun c2 => ?_) (fun c2 => ?_)
    · replace hf := zif_t hf c2
      exact wX6_isSpace_24 C hN hK hA hE hf hP hD hS (lv_sub hl [0] rfl)
    · replace hf := zif_f hf c2
      refine lv_iload_n hx hb dX6_isSpace_12 rfl (lv_at hl 0 rfl) ?_
      refine lv_bipush (v := 13) hx hb dX6_isSpace_13 (by decide) ?_
      refine lv_icmp_eq (tgt := 24) hx hb dX6_isSpace_15 (by decide) (fun c3 => ?_) (fun c3 => ?_)
      · replace hf := zif_t hf c3
        exact wX6_isSpace_24 C hN hK hA hE hf hP hD hS (lv_sub hl [0] rfl)
      · replace hf := zif_f hf c3
        refine lv_iload_n hx hb dX6_isSpace_18 rfl (lv_at hl 0 rfl) ?_
        refine lv_bipush (v := 32) hx hb dX6_isSpace_19 (by decide) ?_
        refine lv_icmp_ne (tgt := 28) hx hb dX6_isSpace_21 (by decide) (fun c4 => ?_) (fun c4 => ?_)
        · replace hf := zif_f hf c4
          refine lv_iconst (v := 0) hx hb dX6_isSpace_28 (by decide) ?_
          cases hf
          exact hE _ _ _ _ dX6_isSpace_29 rfl hP hD hS
        · replace hf := zif_t hf c4
          exact wX6_isSpace_24 C hN hK hA hE hf hP hD hS (lv_sub hl [0] rfl)
set_option maxHeartbeats 4000000 in
set_option maxRecDepth 100000 in
theorem mX6_isSpace (l : Launch) (D : va_G) (cI : ClassId) (sz : Nat) (v0 : Int32) (r0 : Int32) (hf : fX6_isSpace v0 = some r0) : Met l yX6_isSpace wsX6_isSpace rmX6_isSpace (va_Pc [.int v0] (zP D [(cI, .int)] (([] : va_W)) sz)) (zQi D (([] : va_W)) sz r0 (([] : va_W))) 0 0 (va_A (([] : va_W)) sz) := by
  refine Met.ofW (cc := cX6_isSpace) (maxL := 1) (ret := (some .boolean)) (by decide) rfl ?_
  intro p e s m args below meth c s₁ B hml hv
  obtain ⟨rfl, hsz, hP, hK, hD0, hN⟩ := hv
  subst hsz
  have C : CallFix p m c cX6_isSpace 1 s [.int v0].toArray wsX6_isSpace RX6 := ⟨B.exec, B.bytes, hml, findClass_of_methodNamed B.named, atoms_spec (ws := wsX6_isSpace) B.pre⟩
  have hl := lv_entry ([.int v0]) (n := 1) (Nat.le_of_ble_eq_true rfl)
  rw [lg_entry_eq]
  exact wX6_isSpace_0 (A := va_A (([] : va_W)) s.heap.size) C hN hK (fun q h => Or.inr h) (fun H locs pc ls d hn hP hD hS => zend_z C.1 C.2.1 B.returns B.notSynchronized d hn hP hD hS) hf hP hD0.self va_S.rf hl
def rmX6_isDigit : Room := { frames := 0, cells := 0, slots := 0, locals := 0 }
set_option maxHeartbeats 4000000 in
set_option maxRecDepth 100000 in
theorem wX6_isDigit_0 {p : Program} {l : Launch} {e : Env} {s : State} {m : MethodId} {args : Array Value} {below : List Frame} {meth : Method} {c : Code} {D : va_G} {A : Nat → Prop} {Q : State → Prop} {cI : ClassId} {r0 : Int32} (C : CallFix p m c cX6_isDigit 1 s args wsX6_isDigit RX6) (hN : zN s) (hK : va_K D vwCl [(cI, .int)] s) (hA : ∀ q, s.heap.size ≤ q → A q) (hE : zEz p l e rmX6_isDigit s m args below meth c cX6_isDigit D A Q (([] : va_W)) r0) {v0 : Int32} {H : Heap} {locs : List Loc} {ls : Array Slot} : fX6_isDigit v0 = some r0 → va_P D vwCl (([] : va_W)) H → va_D A (([] : va_W)) → va_S A s.heap H locs → lv_has ls 1 [(0, .int v0)] → W p l e rmX6_isDigit s m args below meth c H locs 0 0 Q (F0 m 0 ls []) := by
  intro hf hP hD hS hl
  obtain ⟨hx, hb, hml, hown, hts⟩ := id C
  unfold fX6_isDigit at hf
  refine lv_iload_n hx hb dX6_isDigit_0 rfl (lv_at hl 0 rfl) ?_
  refine lv_bipush (v := 48) hx hb dX6_isDigit_1 (by decide) ?_
  refine lv_icmp_lt (tgt := 16) hx hb dX6_isDigit_3 (by decide) (fun c1 => ?_) (fun c1 => ?_)
  · replace hf := zif_t hf c1
    refine lv_iconst (v := 0) hx hb dX6_isDigit_16 (by decide) ?_
    cases hf
    exact hE _ _ _ _ dX6_isDigit_17 rfl hP hD hS
  · replace hf := zif_f hf c1
    refine lv_iload_n hx hb dX6_isDigit_6 rfl (lv_at hl 0 rfl) ?_
    refine lv_bipush (v := 57) hx hb dX6_isDigit_7 (by decide) ?_
    refine lv_icmp_gt (tgt := 16) hx hb dX6_isDigit_9 (by decide) (fun c2 => ?_) (fun c2 => ?_)
    · replace hf := zif_t hf c2
      refine lv_iconst (v := 0) hx hb dX6_isDigit_16 (by decide) ?_
      cases hf
      exact hE _ _ _ _ dX6_isDigit_17 rfl hP hD hS
    · replace hf := zif_f hf c2
      refine lv_iconst (v := 1) hx hb dX6_isDigit_12 (by decide) ?_
      refine lv_goto (tgt := 17) hx hb dX6_isDigit_13 (by decide) ?_
      cases hf
      exact hE _ _ _ _ dX6_isDigit_17 rfl hP hD hS
set_option maxHeartbeats 4000000 in
set_option maxRecDepth 100000 in
theorem mX6_isDigit (l : Launch) (D : va_G) (cI : ClassId) (sz : Nat) (v0 : Int32) (r0 : Int32) (hf : fX6_isDigit v0 = some r0) : Met l yX6_isDigit wsX6_isDigit rmX6_isDigit (va_Pc [.int v0] (zP D [(cI, .int)] (([] : va_W)) sz)) (zQi D (([] : va_W)) sz r0 (([] : va_W))) 0 0 (va_A (([] : va_W)) sz) := by
  refine Met.ofW (cc := cX6_isDigit) (maxL := 1) (ret := (some .boolean)) (by decide) rfl ?_
  intro p e s m args below meth c s₁ B hml hv
  obtain ⟨rfl, hsz, hP, hK, hD0, hN⟩ := hv
  subst hsz
  have C : CallFix p m c cX6_isDigit 1 s [.int v0].toArray wsX6_isDigit RX6 := ⟨B.exec, B.bytes, hml, findClass_of_methodNamed B.named, atoms_spec (ws := wsX6_isDigit) B.pre⟩
  have hl := lv_entry ([.int v0]) (n := 1) (Nat.le_of_ble_eq_true rfl)
  rw [lg_entry_eq]
  exact wX6_isDigit_0 (A := va_A (([] : va_W)) s.heap.size) C hN hK (fun q h => Or.inr h) (fun H locs pc ls d hn hP hD hS => zend_z C.1 C.2.1 B.returns B.notSynchronized d hn hP hD hS) hf hP hD0.self va_S.rf hl
def rmX6_passBlanks (tg : Nat) : Room := { frames := 7, cells := zc tg, slots := zs tg, locals := 103 }
theorem iX6_passBlanks_X7 : ∀ w ∈ u_ws RX7 TX7 2, w ∈ wsX6_passBlanks := by decide +kernel
theorem qX6_passBlanks_X6_isSpace_88 {args : Array Value} {s : State} {tg0 : Nat} (hts : ∀ w ∈ wsX6_passBlanks, w.before args s = true) : CallB (rmX6_passBlanks tg0) s args RX6 88 yX6_isSpace cX6_isSpace 1 (some .boolean) wsX6_isSpace rmX6_isSpace 0 0 1 ∧ (Cond.static yX6_isSpace).before args s = true := va_cwS 1 hts gX6_passBlanks_X6_isSpace rfl rfl rfl (by decide +kernel) ⟨Nat.le_of_ble_eq_true rfl, Nat.le_of_ble_eq_true rfl⟩
theorem qX6_passBlanks_X7_next_66 {args : Array Value} {s : State} {tg0 : Nat} {tg : Nat} (hts : ∀ w ∈ wsX6_passBlanks, w.before args s = true) : CallW (rmX6_passBlanks tg0) s args RX6 RX7 66 yX7_next cX7_next 2 (some .int) wsX7_next (rmX7_next tg) (zc tg) (zs tg) 0 := cwV 0 hts gX6_passBlanks_X7_next rfl rfl rfl (by decide +kernel) ⟨Nat.le_of_ble_eq_true rfl, Nat.le_of_ble_eq_true rfl⟩
theorem qX6_passBlanks_X7_peek_123 {args : Array Value} {s : State} {tg0 : Nat} (hts : ∀ w ∈ wsX6_passBlanks, w.before args s = true) : CallW (rmX6_passBlanks tg0) s args RX6 RX7 123 yX7_peek cX7_peek 1 (some .int) wsX7_peek rmX7_peek 0 0 0 := cwV 0 hts gX6_passBlanks_X7_peek rfl rfl rfl (by decide +kernel) ⟨Nat.le_of_ble_eq_true rfl, Nat.le_of_ble_eq_true rfl⟩
set_option maxHeartbeats 4000000 in
set_option maxRecDepth 100000 in
theorem wX6_passBlanks_87 {p : Program} {l : Launch} {e : Env} {s : State} {m : MethodId} {args : Array Value} {below : List Frame} {meth : Method} {c : Code} {D : va_G} {A : Nat → Prop} {Q : State → Prop} {cI : ClassId} {h_s h_s_file h_s_file_bytes : Nat} {s_file_size : Int32} {s_file_bytes : Nat → Int32} {tg0 : Nat} {r0 : Int32} {zs_place : Int32} (C : CallFix p m c cX6_passBlanks 5 s args wsX6_passBlanks RX6) (hN : zN s) (hK : va_K D vwCl [(cI, .int)] s) (hA : ∀ q, s.heap.size ≤ q → A q) (hT : zTh A s) (hst : l.stackTraces = false) (hE : zTEz tg0 p l e (rmX6_passBlanks tg0) s m args below meth c cX6_passBlanks D A Q (zwX7 cI h_s h_s_file h_s_file_bytes zs_place s_file_size s_file_bytes) r0) (hX : zTX tg0 p l e (rmX6_passBlanks tg0) s m args below meth c D A Q (zwX7 cI h_s h_s_file h_s_file_bytes zs_place s_file_size s_file_bytes)) {s_place : Int32} {l1 : Int32} {l2 : Int32} {l3 : Int32} {H : Heap} {locs : List Loc} {ls : Array Slot} : fX6_passBlanks_87 s_place l1 = some (tg0, r0, zs_place) → va_P D vwCl (zwX7 cI h_s h_s_file h_s_file_bytes s_place s_file_size s_file_bytes) H → va_D A (zwX7 cI h_s h_s_file h_s_file_bytes s_place s_file_size s_file_bytes) → va_S A s.heap H locs → lv_has ls 5 [(0, .ref h_s), (1, .int l1), (2, .int l2), (3, .int l3)] → W p l e (rmX6_passBlanks tg0) s m args below meth c H locs 0 0 Q (F0 m 87 ls []) := by
  intro hf hP hD hS hl
  obtain ⟨hx, hb, hml, hown, hts⟩ := id C
  unfold fX6_passBlanks_87 at hf
  refine lv_aload_n hx hb dX6_passBlanks_87 rfl (lv_at hl 0 rfl) ?_
  refine va_getN (D := D) (ci := 6) (v := .int s_place) (C := RX7) (T := TX7) (N := 2) hx hb hts iX6_passBlanks_X7 hown hK hP 0 rfl rfl 1 (by decide) (hN.at 20 rfl) (fun _ h9 => h9) rfl dX6_passBlanks_88 ?_
  refine lv_iload_n hx hb dX6_passBlanks_91 rfl (lv_at hl 1 rfl) ?_
  refine lv_icmp_le (tgt := 99) hx hb dX6_passBlanks_92 (by decide) (fun c1 => ?_) (fun c1 => ?_)
  · replace hf := zif_t hf c1
    refine lv_iconst (v := 0) hx hb dX6_passBlanks_99 (by decide) ?_
    cases hf
    exact hE rfl _ _ _ _ dX6_passBlanks_100 rfl hP hD hS
  · replace hf := zif_f hf c1
    refine lv_iconst (v := 1) hx hb dX6_passBlanks_95 (by decide) ?_
    refine lv_goto (tgt := 100) hx hb dX6_passBlanks_96 (by decide) ?_
    cases hf
    exact hE rfl _ _ _ _ dX6_passBlanks_100 rfl hP hD hS
set_option maxHeartbeats 4000000 in
set_option maxRecDepth 100000 in
theorem wX6_passBlanks_80 {p : Program} {l : Launch} {e : Env} {s : State} {m : MethodId} {args : Array Value} {below : List Frame} {meth : Method} {c : Code} {D : va_G} {A : Nat → Prop} {Q : State → Prop} {cI : ClassId} {h_s h_s_file h_s_file_bytes : Nat} {s_file_size : Int32} {s_file_bytes : Nat → Int32} {tg0 : Nat} {r0 : Int32} {zs_place : Int32} (C : CallFix p m c cX6_passBlanks 5 s args wsX6_passBlanks RX6) (hN : zN s) (hK : va_K D vwCl [(cI, .int)] s) (hA : ∀ q, s.heap.size ≤ q → A q) (hT : zTh A s) (hst : l.stackTraces = false) (hE : zTEz tg0 p l e (rmX6_passBlanks tg0) s m args below meth c cX6_passBlanks D A Q (zwX7 cI h_s h_s_file h_s_file_bytes zs_place s_file_size s_file_bytes) r0) (hX : zTX tg0 p l e (rmX6_passBlanks tg0) s m args below meth c D A Q (zwX7 cI h_s h_s_file h_s_file_bytes zs_place s_file_size s_file_bytes)) {rc9 : Int32 → Int32 → (Nat → Int32) → Int32 → Int32 → Int32 → Option (Nat × Int32 × Int32)} (hr_9 : ∀ {s_place : Int32} {l1 : Int32} {l2 : Int32} {l3 : Int32} {H : Heap} {locs : List Loc} {ls : Array Slot}, rc9 s_place s_file_size s_file_bytes l1 l2 l3 = some (tg0, r0, zs_place) → va_P D vwCl (zwX7 cI h_s h_s_file h_s_file_bytes s_place s_file_size s_file_bytes) H → va_D A (zwX7 cI h_s h_s_file h_s_file_bytes s_place s_file_size s_file_bytes) → va_S A s.heap H locs → lv_has ls 5 [(0, .ref h_s), (1, .int l1), (2, .int l2), (3, .int l3)] → W p l e (rmX6_passBlanks tg0) s m args below meth c H locs 0 0 Q (F0 m 9 ls [])) {s_place : Int32} {l1 : Int32} {l2 : Int32} {l3 : Int32} {l4 : Int32} {k0 : Int32} {H : Heap} {locs : List Loc} {ls : Array Slot} : fX6_passBlanks_80 rc9 s_place s_file_size s_file_bytes l1 l3 k0 = some (tg0, r0, zs_place) → va_P D vwCl (zwX7 cI h_s h_s_file h_s_file_bytes s_place s_file_size s_file_bytes) H → va_D A (zwX7 cI h_s h_s_file h_s_file_bytes s_place s_file_size s_file_bytes) → va_S A s.heap H locs → lv_has ls 5 [(0, .ref h_s), (1, .int l1), (2, .int l2), (3, .int l3), (4, .int l4)] → W p l e (rmX6_passBlanks tg0) s m args below meth c H locs 0 0 Q (F0 m 80 ls [.int k0]) := by
  intro hf hP hD hS hl
  obtain ⟨hx, hb, hml, hown, hts⟩ := id C
  unfold fX6_passBlanks_80 at hf
  refine lv_istore_n (lv' := [(2, .int k0), (0, .ref h_s), (1, .int l1), (3, .int l3), (4, .int l4)]) hx hb dX6_passBlanks_80 rfl hl (by decide) rfl (fun ls hl => ?_)
  obtain ⟨x1, ex1⟩ : ∃ y : Int32, y = l3 + 1 := ⟨_, rfl⟩
  replace hf := zlet_in hf ex1
  refine lv_iinc (v := x1) (lv' := [(3, .int x1), (2, .int k0), (0, .ref h_s), (1, .int l1), (4, .int l4)]) hx hb dX6_passBlanks_81 hl (k := 3) rfl (by rw [ex1]; rfl) (by decide) rfl (fun ls hl => ?_)
  clear ex1
  refine lv_goto (tgt := 9) hx hb dX6_passBlanks_84 (by decide) ?_
  exact hr_9 hf hP hD hS (lv_sub hl [2, 3, 1, 0] rfl)
set_option maxHeartbeats 4000000 in
set_option maxRecDepth 100000 in
theorem wX6_passBlanks_44 {p : Program} {l : Launch} {e : Env} {s : State} {m : MethodId} {args : Array Value} {below : List Frame} {meth : Method} {c : Code} {D : va_G} {A : Nat → Prop} {Q : State → Prop} {cI : ClassId} {h_s h_s_file h_s_file_bytes : Nat} {s_file_size : Int32} {s_file_bytes : Nat → Int32} {tg0 : Nat} {r0 : Int32} {zs_place : Int32} (C : CallFix p m c cX6_passBlanks 5 s args wsX6_passBlanks RX6) (hN : zN s) (hK : va_K D vwCl [(cI, .int)] s) (hA : ∀ q, s.heap.size ≤ q → A q) (hT : zTh A s) (hst : l.stackTraces = false) (hE : zTEz tg0 p l e (rmX6_passBlanks tg0) s m args below meth c cX6_passBlanks D A Q (zwX7 cI h_s h_s_file h_s_file_bytes zs_place s_file_size s_file_bytes) r0) (hX : zTX tg0 p l e (rmX6_passBlanks tg0) s m args below meth c D A Q (zwX7 cI h_s h_s_file h_s_file_bytes zs_place s_file_size s_file_bytes)) {rc9 : Int32 → Int32 → (Nat → Int32) → Int32 → Int32 → Int32 → Option (Nat × Int32 × Int32)} (hr_9 : ∀ {s_place : Int32} {l1 : Int32} {l2 : Int32} {l3 : Int32} {H : Heap} {locs : List Loc} {ls : Array Slot}, rc9 s_place s_file_size s_file_bytes l1 l2 l3 = some (tg0, r0, zs_place) → va_P D vwCl (zwX7 cI h_s h_s_file h_s_file_bytes s_place s_file_size s_file_bytes) H → va_D A (zwX7 cI h_s h_s_file h_s_file_bytes s_place s_file_size s_file_bytes) → va_S A s.heap H locs → lv_has ls 5 [(0, .ref h_s), (1, .int l1), (2, .int l2), (3, .int l3)] → W p l e (rmX6_passBlanks tg0) s m args below meth c H locs 0 0 Q (F0 m 9 ls [])) {s_place : Int32} {l1 : Int32} {l2 : Int32} {l3 : Int32} {l4 : Int32} {H : Heap} {locs : List Loc} {ls : Array Slot} : fX6_passBlanks_44 rc9 s_place s_file_size s_file_bytes l1 l2 l3 l4 = some (tg0, r0, zs_place) → va_P D vwCl (zwX7 cI h_s h_s_file h_s_file_bytes s_place s_file_size s_file_bytes) H → va_D A (zwX7 cI h_s h_s_file h_s_file_bytes s_place s_file_size s_file_bytes) → va_S A s.heap H locs → lv_has ls 5 [(0, .ref h_s), (1, .int l1), (2, .int l2), (3, .int l3), (4, .int l4)] → W p l e (rmX6_passBlanks tg0) s m args below meth c H locs 0 0 Q (F0 m 44 ls []) := by
  intro hf hP hD hS hl
  obtain ⟨hx, hb, hml, hown, hts⟩ := id C
  unfold fX6_passBlanks_44 at hf
  refine lv_aload_n hx hb dX6_passBlanks_44 rfl (lv_at hl 0 rfl) ?_
  obtain ⟨tg1, r2, u3, hc4, hf⟩ := zb3_in hf
  have hle := zT_le hf
  refine zcx_i (vx_runV (As := []) (rest := []) C (mX7_next l hst D cI H.size h_s h_s_file h_s_file_bytes s_place s_file_size s_file_bytes tg1 r2 u3 hc4) (qX6_passBlanks_X7_next_66 hts) ⟨zPT_blind, va_recv hK hP (ci := 6) (q0 := 0) rfl rfl, zpreT hK hN hT hA hS hP hD [0, 1, 2] rfl rfl⟩ rfl rfl hl.1 rfl (lv_room (Nat.le_of_ble_eq_true rfl)) dX6_passBlanks_45 hle) hP hD hS hA [0, 1, 2] [] [0, 1, 2] (ws' := zwX7 cI h_s h_s_file h_s_file_bytes u3 s_file_size s_file_bytes) rfl rfl rfl rfl rfl rfl (fun ht H locs q9 ce hP hD hS hq hv hcl => ?_) (fun ht H locs hP hD hS => ?_)
  · replace hf := zif_f hf ht
    cases hf
    exact hX _ _ _ _ _ _ _ ht hP hD hS hq hv hcl
  · replace hf := zif_t hf ht
    clear hle
    refine lv_pop hx hb dX6_passBlanks_48 rfl ?_
    refine lv_iload_n hx hb dX6_passBlanks_49 rfl (lv_at hl 2 rfl) ?_
    refine lv_if_eq (tgt := 68) hx hb dX6_passBlanks_50 (by decide) (fun c5 => ?_) (fun c5 => ?_)
    · replace hf := zif_t hf c5
      refine lv_iload hx hb dX6_passBlanks_68 (lv_at hl 4 rfl) ?_
      refine lv_bipush (v := 35) hx hb dX6_passBlanks_70 (by decide) ?_
      refine lv_icmp_ne (tgt := 79) hx hb dX6_passBlanks_72 (by decide) (fun c6 => ?_) (fun c6 => ?_)
      · replace hf := zif_f hf c6
        refine lv_iconst (v := 0) hx hb dX6_passBlanks_79 (by decide) ?_
        exact wX6_passBlanks_80 C hN hK hA hT hst hE hX hr_9 hf hP hD hS (lv_sub hl [0, 1, 2, 3, 4] rfl)
      · replace hf := zif_t hf c6
        refine lv_iconst (v := 1) hx hb dX6_passBlanks_75 (by decide) ?_
        refine lv_goto (tgt := 80) hx hb dX6_passBlanks_76 (by decide) ?_
        exact wX6_passBlanks_80 C hN hK hA hT hst hE hX hr_9 hf hP hD hS (lv_sub hl [0, 1, 2, 3, 4] rfl)
    · replace hf := zif_f hf c5
      refine lv_iload hx hb dX6_passBlanks_53 (lv_at hl 4 rfl) ?_
      refine lv_bipush (v := 10) hx hb dX6_passBlanks_55 (by decide) ?_
      refine lv_icmp_eq (tgt := 64) hx hb dX6_passBlanks_57 (by decide) (fun c7 => ?_) (fun c7 => ?_)
      · replace hf := zif_t hf c7
        refine lv_iconst (v := 0) hx hb dX6_passBlanks_64 (by decide) ?_
        refine lv_goto (tgt := 80) hx hb dX6_passBlanks_65 (by decide) ?_
        exact wX6_passBlanks_80 C hN hK hA hT hst hE hX hr_9 hf hP hD hS (lv_sub hl [0, 1, 2, 3, 4] rfl)
      · replace hf := zif_f hf c7
        refine lv_iconst (v := 1) hx hb dX6_passBlanks_60 (by decide) ?_
        refine lv_goto (tgt := 80) hx hb dX6_passBlanks_61 (by decide) ?_
        exact wX6_passBlanks_80 C hN hK hA hT hst hE hX hr_9 hf hP hD hS (lv_sub hl [0, 1, 2, 3, 4] rfl)
set_option maxHeartbeats 4000000 in
set_option maxRecDepth 100000 in
theorem wX6_passBlanks_9 {p : Program} {l : Launch} {e : Env} {s : State} {m : MethodId} {args : Array Value} {below : List Frame} {meth : Method} {c : Code} {D : va_G} {A : Nat → Prop} {Q : State → Prop} {cI : ClassId} {h_s h_s_file h_s_file_bytes : Nat} {s_file_size : Int32} {s_file_bytes : Nat → Int32} {tg0 : Nat} {r0 : Int32} {zs_place : Int32} (C : CallFix p m c cX6_passBlanks 5 s args wsX6_passBlanks RX6) (hN : zN s) (hK : va_K D vwCl [(cI, .int)] s) (hA : ∀ q, s.heap.size ≤ q → A q) (hT : zTh A s) (hst : l.stackTraces = false) (hE : zTEz tg0 p l e (rmX6_passBlanks tg0) s m args below meth c cX6_passBlanks D A Q (zwX7 cI h_s h_s_file h_s_file_bytes zs_place s_file_size s_file_bytes) r0) (hX : zTX tg0 p l e (rmX6_passBlanks tg0) s m args below meth c D A Q (zwX7 cI h_s h_s_file h_s_file_bytes zs_place s_file_size s_file_bytes)) (n : Nat) : ∀ {s_place : Int32} {l1 : Int32} {l2 : Int32} {l3 : Int32} {H : Heap} {locs : List Loc} {ls : Array Slot}, fX6_passBlanks_9 n s_place s_file_size s_file_bytes l1 l2 l3 = some (tg0, r0, zs_place) → va_P D vwCl (zwX7 cI h_s h_s_file h_s_file_bytes s_place s_file_size s_file_bytes) H → va_D A (zwX7 cI h_s h_s_file h_s_file_bytes s_place s_file_size s_file_bytes) → va_S A s.heap H locs → lv_has ls 5 [(0, .ref h_s), (1, .int l1), (2, .int l2), (3, .int l3)] → W p l e (rmX6_passBlanks tg0) s m args below meth c H locs 0 0 Q (F0 m 9 ls []) := by
  obtain ⟨hx, hb, hml, hown, hts⟩ := id C
  induction n with
  | zero =>
    intro s_place l1 l2 l3 H locs ls hf
    cases hf
  | succ n hr_9 =>
    intro s_place l1 l2 l3 H locs ls hf hP hD hS hl
    rw [fX6_passBlanks_9_s] at hf
    refine lv_iload_n hx hb dX6_passBlanks_9 rfl (lv_at hl 3 rfl) ?_
    refine lv_sipush (v := 800) hx hb dX6_passBlanks_10 (by decide) ?_
    refine lv_icmp_ge (tgt := 87) hx hb dX6_passBlanks_13 (by decide) (fun c1 => ?_) (fun c1 => ?_)
    · replace hf := zif_t hf c1
      exact wX6_passBlanks_87 C hN hK hA hT hst hE hX hf hP hD hS (lv_sub hl [0, 1, 2, 3] rfl)
    · replace hf := zif_f hf c1
      refine lv_aload_n hx hb dX6_passBlanks_16 rfl (lv_at hl 0 rfl) ?_
      obtain ⟨r2, hc3, hf⟩ := zb1_in hf
      refine zc_i (va_runV (As := []) (rest := []) C (mX7_peek l D cI H.size h_s h_s_file h_s_file_bytes s_place s_file_size s_file_bytes r2 hc3) (qX6_passBlanks_X7_peek_123 hts) ⟨zP_blind, va_recv hK hP (ci := 6) (q0 := 0) rfl rfl, zpre hK hN hP hD [0, 1, 2] rfl rfl⟩ rfl rfl hl.1 rfl (lv_room (Nat.le_of_ble_eq_true rfl)) dX6_passBlanks_17 ⟨Nat.zero_le _, Nat.zero_le _⟩) hP hD hS hA [0, 1, 2] [] [0, 1, 2] (ws' := zwX7 cI h_s h_s_file h_s_file_bytes s_place s_file_size s_file_bytes) rfl rfl rfl rfl rfl rfl (fun H locs hP hD hS => ?_)
      refine lv_istore (lv' := [(4, .int r2), (0, .ref h_s), (1, .int l1), (2, .int l2), (3, .int l3)]) hx hb dX6_passBlanks_20 hl (by decide) rfl (fun ls hl => ?_)
      refine lv_iload_n hx hb dX6_passBlanks_22 rfl (lv_at hl 3 rfl) ?_
      refine lv_if_ne (tgt := 44) hx hb dX6_passBlanks_23 (by decide) (fun c4 => ?_) (fun c4 => ?_)
      · replace hf := zif_f hf c4
        exact wX6_passBlanks_44 C hN hK hA hT hst hE hX hr_9 hf hP hD hS (lv_sub hl [1, 2, 3, 4, 0] rfl)
      · replace hf := zif_t hf c4
        refine lv_iload hx hb dX6_passBlanks_26 (lv_at hl 0 rfl) ?_
        refine lv_bipush (v := 35) hx hb dX6_passBlanks_28 (by decide) ?_
        refine lv_icmp_eq (tgt := 44) hx hb dX6_passBlanks_30 (by decide) (fun c5 => ?_) (fun c5 => ?_)
        · replace hf := zif_t hf c5
          exact wX6_passBlanks_44 C hN hK hA hT hst hE hX hr_9 hf hP hD hS (lv_sub hl [1, 2, 3, 4, 0] rfl)
        · replace hf := zif_f hf c5
          refine lv_iload hx hb dX6_passBlanks_33 (lv_at hl 0 rfl) ?_
          obtain ⟨r6, hc7, hf⟩ := zb1_in hf
          refine zc_i (va_runS (As := [.int r2]) (rest := []) C (mX6_isSpace l D cI H.size r2 r6 hc7) (qX6_passBlanks_X6_isSpace_88 hts) ⟨zP_blind, zpre hK hN hP hD [] rfl rfl⟩ rfl rfl hl.1 rfl (lv_room (Nat.le_of_ble_eq_true rfl)) dX6_passBlanks_35 ⟨Nat.zero_le _, Nat.zero_le _⟩) hP hD hS hA [] [0, 1, 2] [0, 1, 2] (ws' := zwX7 cI h_s h_s_file h_s_file_bytes s_place s_file_size s_file_bytes) rfl rfl rfl rfl rfl rfl (fun H locs hP hD hS => ?_)
          refine lv_if_ne (tgt := 44) hx hb dX6_passBlanks_38 (by decide) (fun c8 => ?_) (fun c8 => ?_)
          · replace hf := zif_f hf c8
            exact wX6_passBlanks_44 C hN hK hA hT hst hE hX hr_9 hf hP hD hS (lv_sub hl [1, 2, 3, 4, 0] rfl)
          · replace hf := zif_t hf c8
            refine lv_goto (tgt := 87) hx hb dX6_passBlanks_41 (by decide) ?_
            exact wX6_passBlanks_87 C hN hK hA hT hst hE hX hf hP hD hS (lv_sub hl [1, 2, 3, 4] rfl)
set_option maxHeartbeats 4000000 in
set_option maxRecDepth 100000 in
theorem wX6_passBlanks_0 {p : Program} {l : Launch} {e : Env} {s : State} {m : MethodId} {args : Array Value} {below : List Frame} {meth : Method} {c : Code} {D : va_G} {A : Nat → Prop} {Q : State → Prop} {cI : ClassId} {h_s h_s_file h_s_file_bytes : Nat} {s_file_size : Int32} {s_file_bytes : Nat → Int32} {tg0 : Nat} {r0 : Int32} {zs_place : Int32} (C : CallFix p m c cX6_passBlanks 5 s args wsX6_passBlanks RX6) (hN : zN s) (hK : va_K D vwCl [(cI, .int)] s) (hA : ∀ q, s.heap.size ≤ q → A q) (hT : zTh A s) (hst : l.stackTraces = false) (hE : zTEz tg0 p l e (rmX6_passBlanks tg0) s m args below meth c cX6_passBlanks D A Q (zwX7 cI h_s h_s_file h_s_file_bytes zs_place s_file_size s_file_bytes) r0) (hX : zTX tg0 p l e (rmX6_passBlanks tg0) s m args below meth c D A Q (zwX7 cI h_s h_s_file h_s_file_bytes zs_place s_file_size s_file_bytes)) {s_place : Int32} {H : Heap} {locs : List Loc} {ls : Array Slot} : fX6_passBlanks s_place s_file_size s_file_bytes = some (tg0, r0, zs_place) → va_P D vwCl (zwX7 cI h_s h_s_file h_s_file_bytes s_place s_file_size s_file_bytes) H → va_D A (zwX7 cI h_s h_s_file h_s_file_bytes s_place s_file_size s_file_bytes) → va_S A s.heap H locs → lv_has ls 5 [(0, .ref h_s)] → W p l e (rmX6_passBlanks tg0) s m args below meth c H locs 0 0 Q (F0 m 0 ls []) := by
  intro hf hP hD hS hl
  obtain ⟨hx, hb, hml, hown, hts⟩ := id C
  unfold fX6_passBlanks at hf
  refine lv_aload_n hx hb dX6_passBlanks_0 rfl (lv_at hl 0 rfl) ?_
  refine va_getN (D := D) (ci := 6) (v := .int s_place) (C := RX7) (T := TX7) (N := 2) hx hb hts iX6_passBlanks_X7 hown hK hP 0 rfl rfl 1 (by decide) (hN.at 20 rfl) (fun _ h9 => h9) rfl dX6_passBlanks_1 ?_
  refine lv_istore_n (lv' := [(1, .int s_place), (0, .ref h_s)]) hx hb dX6_passBlanks_4 rfl hl (by decide) rfl (fun ls hl => ?_)
  refine lv_iconst (v := 0) hx hb dX6_passBlanks_5 (by decide) ?_
  refine lv_istore_n (lv' := [(2, .int 0), (1, .int s_place), (0, .ref h_s)]) hx hb dX6_passBlanks_6 rfl hl (by decide) rfl (fun ls hl => ?_)
  refine lv_iconst (v := 0) hx hb dX6_passBlanks_7 (by decide) ?_
  refine lv_istore_n (lv' := [(3, .int 0), (2, .int 0), (1, .int s_place), (0, .ref h_s)]) hx hb dX6_passBlanks_8 rfl hl (by decide) rfl (fun ls hl => ?_)
  exact wX6_passBlanks_9 C hN hK hA hT hst hE hX 1000 hf hP hD hS (lv_sub hl [3, 2, 1, 0] rfl)
set_option maxHeartbeats 4000000 in
set_option maxRecDepth 100000 in
theorem mX6_passBlanks (l : Launch) (hst : l.stackTraces = false) (D : va_G) (cI : ClassId) (sz : Nat) (h_s h_s_file h_s_file_bytes : Nat) (s_place : Int32) (s_file_size : Int32) (s_file_bytes : Nat → Int32) (tg0 : Nat) (r0 : Int32) (zs_place : Int32) (hf : fX6_passBlanks s_place s_file_size s_file_bytes = some (tg0, r0, zs_place)) : vx_Met l yX6_passBlanks wsX6_passBlanks (rmX6_passBlanks tg0) (va_Pc [.ref h_s] (zPT D [(cI, .int)] (zwX7 cI h_s h_s_file h_s_file_bytes s_place s_file_size s_file_bytes) sz)) (zQTi D (zwX7 cI h_s h_s_file h_s_file_bytes s_place s_file_size s_file_bytes) sz tg0 r0 (zwX7 cI h_s h_s_file h_s_file_bytes zs_place s_file_size s_file_bytes)) (zXT D (zwX7 cI h_s h_s_file h_s_file_bytes s_place s_file_size s_file_bytes) sz tg0 (zwX7 cI h_s h_s_file h_s_file_bytes zs_place s_file_size s_file_bytes)) (zc tg0) (zs tg0) (va_A (zwX7 cI h_s h_s_file h_s_file_bytes s_place s_file_size s_file_bytes) sz) := by
  refine vx_ofW (cc := cX6_passBlanks) (maxL := 5) (ret := (some .boolean)) (by decide) rfl ?_
  intro p e s m args below meth c s₁ B hml htab hv
  obtain ⟨rfl, ⟨hsz, hP, hK, hD0, hN⟩, hT⟩ := hv
  subst hsz
  have C : CallFix p m c cX6_passBlanks 5 s [.ref h_s].toArray wsX6_passBlanks RX6 := ⟨B.exec, B.bytes, hml, findClass_of_methodNamed B.named, atoms_spec (ws := wsX6_passBlanks) B.pre⟩
  have hl := lv_entry ([.ref h_s]) (n := 5) (Nat.le_of_ble_eq_true rfl)
  rw [lg_entry_eq]
  exact wX6_passBlanks_0 (A := va_A (zwX7 cI h_s h_s_file h_s_file_bytes s_place s_file_size s_file_bytes) s.heap.size) C hN hK (fun q h => Or.inr h) hT hst (fun h0 H locs pc ls d hn hP hD hS => zendT_z C.1 C.2.1 B.returns B.notSynchronized h0 d hn hP hD hS) (fun H locs pc ls rest q9 ce h0 hP hD hS hq hv hcl => zoutT htab B.notSynchronized h0 hP hD hS hq hv hcl) hf hP hD0.self va_S.rf hl
def rmX6_number (tg : Nat) : Room := { frames := 8, cells := zc tg, slots := zs tg, locals := 127 }
theorem qX6_number_X6_isDigit_120 {args : Array Value} {s : State} {tg0 : Nat} (hts : ∀ w ∈ wsX6_number, w.before args s = true) : CallB (rmX6_number tg0) s args RX6 120 yX6_isDigit cX6_isDigit 1 (some .boolean) wsX6_isDigit rmX6_isDigit 0 0 1 ∧ (Cond.static yX6_isDigit).before args s = true := va_cwS 1 hts gX6_number_X6_isDigit rfl rfl rfl (by decide +kernel) ⟨Nat.le_of_ble_eq_true rfl, Nat.le_of_ble_eq_true rfl⟩
theorem qX6_number_X6_passBlanks_99 {args : Array Value} {s : State} {tg0 : Nat} {tg : Nat} (hts : ∀ w ∈ wsX6_number, w.before args s = true) : CallB (rmX6_number tg0) s args RX6 99 yX6_passBlanks cX6_passBlanks 5 (some .boolean) wsX6_passBlanks (rmX6_passBlanks tg) (zc tg) (zs tg) 1 ∧ (Cond.static yX6_passBlanks).before args s = true := va_cwS 1 hts gX6_number_X6_passBlanks rfl rfl rfl (by decide +kernel) ⟨Nat.le_of_ble_eq_true rfl, Nat.le_of_ble_eq_true rfl⟩
theorem qX6_number_X7_need_84 {args : Array Value} {s : State} {tg0 : Nat} {tg : Nat} (hts : ∀ w ∈ wsX6_number, w.before args s = true) : CallW (rmX6_number tg0) s args RX6 RX7 84 yX7_need cX7_need 2 none wsX7_need (rmX7_need tg) (zc tg) (zs tg) 1 := cwV 1 hts gX6_number_X7_need rfl rfl rfl (by decide +kernel) ⟨Nat.le_of_ble_eq_true rfl, Nat.le_of_ble_eq_true rfl⟩
theorem qX6_number_X7_next_66 {args : Array Value} {s : State} {tg0 : Nat} {tg : Nat} (hts : ∀ w ∈ wsX6_number, w.before args s = true) : CallW (rmX6_number tg0) s args RX6 RX7 66 yX7_next cX7_next 2 (some .int) wsX7_next (rmX7_next tg) (zc tg) (zs tg) 0 := cwV 0 hts gX6_number_X7_next rfl rfl rfl (by decide +kernel) ⟨Nat.le_of_ble_eq_true rfl, Nat.le_of_ble_eq_true rfl⟩
theorem qX6_number_X7_peek_123 {args : Array Value} {s : State} {tg0 : Nat} (hts : ∀ w ∈ wsX6_number, w.before args s = true) : CallW (rmX6_number tg0) s args RX6 RX7 123 yX7_peek cX7_peek 1 (some .int) wsX7_peek rmX7_peek 0 0 0 := cwV 0 hts gX6_number_X7_peek rfl rfl rfl (by decide +kernel) ⟨Nat.le_of_ble_eq_true rfl, Nat.le_of_ble_eq_true rfl⟩
set_option maxHeartbeats 4000000 in
set_option maxRecDepth 100000 in
theorem wX6_number_89 {p : Program} {l : Launch} {e : Env} {s : State} {m : MethodId} {args : Array Value} {below : List Frame} {meth : Method} {c : Code} {D : va_G} {A : Nat → Prop} {Q : State → Prop} {cI : ClassId} {h_s h_s_file h_s_file_bytes : Nat} {s_file_size : Int32} {s_file_bytes : Nat → Int32} {tg0 : Nat} {r0 : Int32} {zs_place : Int32} (C : CallFix p m c cX6_number 5 s args wsX6_number RX6) (hN : zN s) (hK : va_K D vwCl [(cI, .int)] s) (hA : ∀ q, s.heap.size ≤ q → A q) (hT : zTh A s) (hst : l.stackTraces = false) (hE : zTEi tg0 p l e (rmX6_number tg0) s m args below meth c cX6_number D A Q (zwX7 cI h_s h_s_file h_s_file_bytes zs_place s_file_size s_file_bytes) r0) (hX : zTX tg0 p l e (rmX6_number tg0) s m args below meth c D A Q (zwX7 cI h_s h_s_file h_s_file_bytes zs_place s_file_size s_file_bytes)) {s_place : Int32} {l1 : Int32} {l2 : Int32} {l3 : Int32} {l4 : Int32} {k1 : Int32} {H : Heap} {locs : List Loc} {ls : Array Slot} : fX6_number_89 s_place l3 k1 = some (tg0, r0, zs_place) → va_P D vwCl (zwX7 cI h_s h_s_file h_s_file_bytes s_place s_file_size s_file_bytes) H → va_D A (zwX7 cI h_s h_s_file h_s_file_bytes s_place s_file_size s_file_bytes) → va_S A s.heap H locs → lv_has ls 5 [(0, .ref h_s), (1, .int l1), (2, .int l2), (3, .int l3), (4, .int l4)] → W p l e (rmX6_number tg0) s m args below meth c H locs 0 0 Q (F0 m 89 ls [.int k1, .ref h_s]) := by
  intro hf hP hD hS hl
  obtain ⟨hx, hb, hml, hown, hts⟩ := id C
  unfold fX6_number_89 at hf
  obtain ⟨tg1, hc2, hf⟩ := zb1_in hf
  have hle := zT_le hf
  refine zcx_v (vx_runV (As := [.int k1]) (rest := []) C (mX7_need l hst D cI H.size h_s h_s_file h_s_file_bytes s_place s_file_size s_file_bytes k1 tg1 hc2) (qX6_number_X7_need_84 hts) ⟨zPT_blind, va_recv hK hP (ci := 6) (q0 := 0) rfl rfl, zpreT hK hN hT hA hS hP hD [0, 1, 2] rfl rfl⟩ rfl rfl hl.1 rfl (lv_room (Nat.le_of_ble_eq_true rfl)) dX6_number_89 hle) hP hD hS hA [0, 1, 2] [] [0, 1, 2] (ws' := zwX7 cI h_s h_s_file h_s_file_bytes s_place s_file_size s_file_bytes) rfl rfl rfl rfl rfl rfl (fun ht H locs q9 ce hP hD hS hq hv hcl => ?_) (fun ht H locs hP hD hS => ?_)
  · replace hf := zif_f hf ht
    cases hf
    exact hX _ _ _ _ _ _ _ ht hP hD hS hq hv hcl
  · replace hf := zif_t hf ht
    clear hle
    refine lv_iload_n hx hb dX6_number_92 rfl (lv_at hl 3 rfl) ?_
    cases hf
    exact hE rfl _ _ _ _ dX6_number_93 hP hD hS
set_option maxHeartbeats 4000000 in
set_option maxRecDepth 100000 in
theorem wX6_number_73 {p : Program} {l : Launch} {e : Env} {s : State} {m : MethodId} {args : Array Value} {below : List Frame} {meth : Method} {c : Code} {D : va_G} {A : Nat → Prop} {Q : State → Prop} {cI : ClassId} {h_s h_s_file h_s_file_bytes : Nat} {s_file_size : Int32} {s_file_bytes : Nat → Int32} {tg0 : Nat} {r0 : Int32} {zs_place : Int32} (C : CallFix p m c cX6_number 5 s args wsX6_number RX6) (hN : zN s) (hK : va_K D vwCl [(cI, .int)] s) (hA : ∀ q, s.heap.size ≤ q → A q) (hT : zTh A s) (hst : l.stackTraces = false) (hE : zTEi tg0 p l e (rmX6_number tg0) s m args below meth c cX6_number D A Q (zwX7 cI h_s h_s_file h_s_file_bytes zs_place s_file_size s_file_bytes) r0) (hX : zTX tg0 p l e (rmX6_number tg0) s m args below meth c D A Q (zwX7 cI h_s h_s_file h_s_file_bytes zs_place s_file_size s_file_bytes)) {s_place : Int32} {l1 : Int32} {l2 : Int32} {l3 : Int32} {l4 : Int32} {H : Heap} {locs : List Loc} {ls : Array Slot} : fX6_number_73 s_place s_file_size s_file_bytes l3 = some (tg0, r0, zs_place) → va_P D vwCl (zwX7 cI h_s h_s_file h_s_file_bytes s_place s_file_size s_file_bytes) H → va_D A (zwX7 cI h_s h_s_file h_s_file_bytes s_place s_file_size s_file_bytes) → va_S A s.heap H locs → lv_has ls 5 [(0, .ref h_s), (1, .int l1), (2, .int l2), (3, .int l3), (4, .int l4)] → W p l e (rmX6_number tg0) s m args below meth c H locs 0 0 Q (F0 m 73 ls []) := by
  intro hf hP hD hS hl
  obtain ⟨hx, hb, hml, hown, hts⟩ := id C
  unfold fX6_number_73 at hf
  refine lv_aload_n hx hb dX6_number_73 rfl (lv_at hl 0 rfl) ?_
  refine lv_aload_n hx hb dX6_number_74 rfl (lv_at hl 0 rfl) ?_
  obtain ⟨r1, hc2, hf⟩ := zb1_in hf
  refine zc_i (va_runV (As := []) (rest := [.ref h_s]) C (mX7_peek l D cI H.size h_s h_s_file h_s_file_bytes s_place s_file_size s_file_bytes r1 hc2) (qX6_number_X7_peek_123 hts) ⟨zP_blind, va_recv hK hP (ci := 6) (q0 := 0) rfl rfl, zpre hK hN hP hD [0, 1, 2] rfl rfl⟩ rfl rfl hl.1 rfl (lv_room (Nat.le_of_ble_eq_true rfl)) dX6_number_75 ⟨Nat.zero_le _, Nat.zero_le _⟩) hP hD hS hA [0, 1, 2] [] [0, 1, 2] (ws' := zwX7 cI h_s h_s_file h_s_file_bytes s_place s_file_size s_file_bytes) rfl rfl rfl rfl rfl rfl (fun H locs hP hD hS => ?_)
  obtain ⟨r3, hc4, hf⟩ := zb1_in hf
  refine zc_i (va_runS (As := [.int r1]) (rest := [.ref h_s]) C (mX6_isDigit l D cI H.size r1 r3 hc4) (qX6_number_X6_isDigit_120 hts) ⟨zP_blind, zpre hK hN hP hD [] rfl rfl⟩ rfl rfl hl.1 rfl (lv_room (Nat.le_of_ble_eq_true rfl)) dX6_number_78 ⟨Nat.zero_le _, Nat.zero_le _⟩) hP hD hS hA [] [0, 1, 2] [0, 1, 2] (ws' := zwX7 cI h_s h_s_file h_s_file_bytes s_place s_file_size s_file_bytes) rfl rfl rfl rfl rfl rfl (fun H locs hP hD hS => ?_)
  refine lv_if_ne (tgt := 88) hx hb dX6_number_81 (by decide) (fun c5 => ?_) (fun c5 => ?_)
  · replace hf := zif_f hf c5
    refine lv_iconst (v := 0) hx hb dX6_number_88 (by decide) ?_
    exact wX6_number_89 C hN hK hA hT hst hE hX hf hP hD hS (lv_sub hl [0, 1, 2, 3, 4] rfl)
  · replace hf := zif_t hf c5
    refine lv_iconst (v := 1) hx hb dX6_number_84 (by decide) ?_
    refine lv_goto (tgt := 89) hx hb dX6_number_85 (by decide) ?_
    exact wX6_number_89 C hN hK hA hT hst hE hX hf hP hD hS (lv_sub hl [0, 1, 2, 3, 4] rfl)
set_option maxHeartbeats 4000000 in
set_option maxRecDepth 100000 in
theorem wX6_number_38 {p : Program} {l : Launch} {e : Env} {s : State} {m : MethodId} {args : Array Value} {below : List Frame} {meth : Method} {c : Code} {D : va_G} {A : Nat → Prop} {Q : State → Prop} {cI : ClassId} {h_s h_s_file h_s_file_bytes : Nat} {s_file_size : Int32} {s_file_bytes : Nat → Int32} {tg0 : Nat} {r0 : Int32} {zs_place : Int32} (C : CallFix p m c cX6_number 5 s args wsX6_number RX6) (hN : zN s) (hK : va_K D vwCl [(cI, .int)] s) (hA : ∀ q, s.heap.size ≤ q → A q) (hT : zTh A s) (hst : l.stackTraces = false) (hE : zTEi tg0 p l e (rmX6_number tg0) s m args below meth c cX6_number D A Q (zwX7 cI h_s h_s_file h_s_file_bytes zs_place s_file_size s_file_bytes) r0) (hX : zTX tg0 p l e (rmX6_number tg0) s m args below meth c D A Q (zwX7 cI h_s h_s_file h_s_file_bytes zs_place s_file_size s_file_bytes)) (n : Nat) : ∀ {s_place : Int32} {l1 : Int32} {l2 : Int32} {l3 : Int32} {l4 : Int32} {H : Heap} {locs : List Loc} {ls : Array Slot}, fX6_number_38 n s_place s_file_size s_file_bytes l3 l4 = some (tg0, r0, zs_place) → va_P D vwCl (zwX7 cI h_s h_s_file h_s_file_bytes s_place s_file_size s_file_bytes) H → va_D A (zwX7 cI h_s h_s_file h_s_file_bytes s_place s_file_size s_file_bytes) → va_S A s.heap H locs → lv_has ls 5 [(0, .ref h_s), (1, .int l1), (2, .int l2), (3, .int l3), (4, .int l4)] → W p l e (rmX6_number tg0) s m args below meth c H locs 0 0 Q (F0 m 38 ls []) := by
  obtain ⟨hx, hb, hml, hown, hts⟩ := id C
  induction n with
  | zero =>
    intro s_place l1 l2 l3 l4 H locs ls hf
    cases hf
  | succ n hr_38 =>
    intro s_place l1 l2 l3 l4 H locs ls hf hP hD hS hl
    rw [fX6_number_38_s] at hf
    refine lv_iload hx hb dX6_number_38 (lv_at hl 4 rfl) ?_
    refine lv_iconst (v := 4) hx hb dX6_number_40 (by decide) ?_
    refine lv_icmp_ge (tgt := 73) hx hb dX6_number_41 (by decide) (fun c1 => ?_) (fun c1 => ?_)
    · replace hf := zif_t hf c1
      exact wX6_number_73 C hN hK hA hT hst hE hX hf hP hD hS (lv_sub hl [0, 1, 2, 3, 4] rfl)
    · replace hf := zif_f hf c1
      refine lv_aload_n hx hb dX6_number_44 rfl (lv_at hl 0 rfl) ?_
      obtain ⟨r2, hc3, hf⟩ := zb1_in hf
      refine zc_i (va_runV (As := []) (rest := []) C (mX7_peek l D cI H.size h_s h_s_file h_s_file_bytes s_place s_file_size s_file_bytes r2 hc3) (qX6_number_X7_peek_123 hts) ⟨zP_blind, va_recv hK hP (ci := 6) (q0 := 0) rfl rfl, zpre hK hN hP hD [0, 1, 2] rfl rfl⟩ rfl rfl hl.1 rfl (lv_room (Nat.le_of_ble_eq_true rfl)) dX6_number_45 ⟨Nat.zero_le _, Nat.zero_le _⟩) hP hD hS hA [0, 1, 2] [] [0, 1, 2] (ws' := zwX7 cI h_s h_s_file h_s_file_bytes s_place s_file_size s_file_bytes) rfl rfl rfl rfl rfl rfl (fun H locs hP hD hS => ?_)
      obtain ⟨r4, hc5, hf⟩ := zb1_in hf
      refine zc_i (va_runS (As := [.int r2]) (rest := []) C (mX6_isDigit l D cI H.size r2 r4 hc5) (qX6_number_X6_isDigit_120 hts) ⟨zP_blind, zpre hK hN hP hD [] rfl rfl⟩ rfl rfl hl.1 rfl (lv_room (Nat.le_of_ble_eq_true rfl)) dX6_number_48 ⟨Nat.zero_le _, Nat.zero_le _⟩) hP hD hS hA [] [0, 1, 2] [0, 1, 2] (ws' := zwX7 cI h_s h_s_file h_s_file_bytes s_place s_file_size s_file_bytes) rfl rfl rfl rfl rfl rfl (fun H locs hP hD hS => ?_)
      refine lv_if_eq (tgt := 73) hx hb dX6_number_51 (by decide) (fun c6 => ?_) (fun c6 => ?_)
      · replace hf := zif_t hf c6
        exact wX6_number_73 C hN hK hA hT hst hE hX hf hP hD hS (lv_sub hl [0, 1, 2, 3, 4] rfl)
      · replace hf := zif_f hf c6
        refine lv_iload_n hx hb dX6_number_54 rfl (lv_at hl 3 rfl) ?_
        refine lv_bipush (v := 10) hx hb dX6_number_55 (by decide) ?_
        refine lv_imul hx hb dX6_number_57 ?_
        refine lv_aload_n hx hb dX6_number_58 rfl (lv_at hl 0 rfl) ?_
        obtain ⟨tg7, r8, u9, hc10, hf⟩ := zb3_in hf
        have hle := zT_le hf
        refine zcx_i (vx_runV (As := []) (rest := [.int (l3 * 10)]) C (mX7_next l hst D cI H.size h_s h_s_file h_s_file_bytes s_place s_file_size s_file_bytes tg7 r8 u9 hc10) (qX6_number_X7_next_66 hts) ⟨zPT_blind, va_recv hK hP (ci := 6) (q0 := 0) rfl rfl, zpreT hK hN hT hA hS hP hD [0, 1, 2] rfl rfl⟩ rfl rfl hl.1 rfl (lv_room (Nat.le_of_ble_eq_true rfl)) dX6_number_59 hle) hP hD hS hA [0, 1, 2] [] [0, 1, 2] (ws' := zwX7 cI h_s h_s_file h_s_file_bytes u9 s_file_size s_file_bytes) rfl rfl rfl rfl rfl rfl (fun ht H locs q9 ce hP hD hS hq hv hcl => ?_) (fun ht H locs hP hD hS => ?_)
        · replace hf := zif_f hf ht
          cases hf
          exact hX _ _ _ _ _ _ _ ht hP hD hS hq hv hcl
        · replace hf := zif_t hf ht
          clear hle
          refine lv_iadd hx hb dX6_number_62 ?_
          refine lv_bipush (v := 48) hx hb dX6_number_63 (by decide) ?_
          refine lv_isub hx hb dX6_number_65 ?_
          refine lv_topi (fun x11 ex11 => ?_)
          replace hf := zlet_in hf ex11
          clear ex11
          refine lv_istore_n (lv' := [(3, .int x11), (0, .ref h_s), (1, .int l1), (2, .int l2), (4, .int l4)]) hx hb dX6_number_66 rfl hl (by decide) rfl (fun ls hl => ?_)
          obtain ⟨x12, ex12⟩ : ∃ y : Int32, y = l4 + 1 := ⟨_, rfl⟩
          replace hf := zlet_in hf ex12
          refine lv_iinc (v := x12) (lv' := [(4, .int x12), (3, .int x11), (0, .ref h_s), (1, .int l1), (2, .int l2)]) hx hb dX6_number_67 hl (k := 4) rfl (by rw [ex12]; rfl) (by decide) rfl (fun ls hl => ?_)
          clear ex12
          refine lv_goto (tgt := 38) hx hb dX6_number_70 (by decide) ?_
          exact hr_38 hf hP hD hS (lv_sub hl [2, 3, 4, 1, 0] rfl)
set_option maxHeartbeats 4000000 in
set_option maxRecDepth 100000 in
theorem wX6_number_27 {p : Program} {l : Launch} {e : Env} {s : State} {m : MethodId} {args : Array Value} {below : List Frame} {meth : Method} {c : Code} {D : va_G} {A : Nat → Prop} {Q : State → Prop} {cI : ClassId} {h_s h_s_file h_s_file_bytes : Nat} {s_file_size : Int32} {s_file_bytes : Nat → Int32} {tg0 : Nat} {r0 : Int32} {zs_place : Int32} (C : CallFix p m c cX6_number 5 s args wsX6_number RX6) (hN : zN s) (hK : va_K D vwCl [(cI, .int)] s) (hA : ∀ q, s.heap.size ≤ q → A q) (hT : zTh A s) (hst : l.stackTraces = false) (hE : zTEi tg0 p l e (rmX6_number tg0) s m args below meth c cX6_number D A Q (zwX7 cI h_s h_s_file h_s_file_bytes zs_place s_file_size s_file_bytes) r0) (hX : zTX tg0 p l e (rmX6_number tg0) s m args below meth c D A Q (zwX7 cI h_s h_s_file h_s_file_bytes zs_place s_file_size s_file_bytes)) {s_place : Int32} {l1 : Int32} {l2 : Int32} {k1 : Int32} {H : Heap} {locs : List Loc} {ls : Array Slot} : fX6_number_27 s_place s_file_size s_file_bytes l2 k1 = some (tg0, r0, zs_place) → va_P D vwCl (zwX7 cI h_s h_s_file h_s_file_bytes s_place s_file_size s_file_bytes) H → va_D A (zwX7 cI h_s h_s_file h_s_file_bytes s_place s_file_size s_file_bytes) → va_S A s.heap H locs → lv_has ls 5 [(0, .ref h_s), (1, .int l1), (2, .int l2)] → W p l e (rmX6_number tg0) s m args below meth c H locs 0 0 Q (F0 m 27 ls [.int k1, .ref h_s]) := by
  intro hf hP hD hS hl
  obtain ⟨hx, hb, hml, hown, hts⟩ := id C
  unfold fX6_number_27 at hf
  obtain ⟨tg1, hc2, hf⟩ := zb1_in hf
  have hle := zT_le hf
  refine zcx_v (vx_runV (As := [.int k1]) (rest := []) C (mX7_need l hst D cI H.size h_s h_s_file h_s_file_bytes s_place s_file_size s_file_bytes k1 tg1 hc2) (qX6_number_X7_need_84 hts) ⟨zPT_blind, va_recv hK hP (ci := 6) (q0 := 0) rfl rfl, zpreT hK hN hT hA hS hP hD [0, 1, 2] rfl rfl⟩ rfl rfl hl.1 rfl (lv_room (Nat.le_of_ble_eq_true rfl)) dX6_number_27 hle) hP hD hS hA [0, 1, 2] [] [0, 1, 2] (ws' := zwX7 cI h_s h_s_file h_s_file_bytes s_place s_file_size s_file_bytes) rfl rfl rfl rfl rfl rfl (fun ht H locs q9 ce hP hD hS hq hv hcl => ?_) (fun ht H locs hP hD hS => ?_)
  · replace hf := zif_f hf ht
    cases hf
    exact hX _ _ _ _ _ _ _ ht hP hD hS hq hv hcl
  · replace hf := zif_t hf ht
    clear hle
    refine lv_iload_n hx hb dX6_number_30 rfl (lv_at hl 2 rfl) ?_
    refine lv_bipush (v := 48) hx hb dX6_number_31 (by decide) ?_
    refine lv_isub hx hb dX6_number_33 ?_
    refine lv_topi (fun x3 ex3 => ?_)
    replace hf := zlet_in hf ex3
    clear ex3
    refine lv_istore_n (lv' := [(3, .int x3), (0, .ref h_s), (1, .int l1), (2, .int l2)]) hx hb dX6_number_34 rfl hl (by decide) rfl (fun ls hl => ?_)
    refine lv_iconst (v := 1) hx hb dX6_number_35 (by decide) ?_
    refine lv_istore (lv' := [(4, .int 1), (3, .int x3), (0, .ref h_s), (1, .int l1), (2, .int l2)]) hx hb dX6_number_36 hl (by decide) rfl (fun ls hl => ?_)
    exact wX6_number_38 C hN hK hA hT hst hE hX 1000 hf hP hD hS (lv_sub hl [2, 3, 4, 1, 0] rfl)
set_option maxHeartbeats 4000000 in
set_option maxRecDepth 100000 in
theorem wX6_number_26 {p : Program} {l : Launch} {e : Env} {s : State} {m : MethodId} {args : Array Value} {below : List Frame} {meth : Method} {c : Code} {D : va_G} {A : Nat → Prop} {Q : State → Prop} {cI : ClassId} {h_s h_s_file h_s_file_bytes : Nat} {s_file_size : Int32} {s_file_bytes : Nat → Int32} {tg0 : Nat} {r0 : Int32} {zs_place : Int32} (C : CallFix p m c cX6_number 5 s args wsX6_number RX6) (hN : zN s) (hK : va_K D vwCl [(cI, .int)] s) (hA : ∀ q, s.heap.size ≤ q → A q) (hT : zTh A s) (hst : l.stackTraces = false) (hE : zTEi tg0 p l e (rmX6_number tg0) s m args below meth c cX6_number D A Q (zwX7 cI h_s h_s_file h_s_file_bytes zs_place s_file_size s_file_bytes) r0) (hX : zTX tg0 p l e (rmX6_number tg0) s m args below meth c D A Q (zwX7 cI h_s h_s_file h_s_file_bytes zs_place s_file_size s_file_bytes)) {s_place : Int32} {l1 : Int32} {l2 : Int32} {H : Heap} {locs : List Loc} {ls : Array Slot} : fX6_number_26 s_place s_file_size s_file_bytes l2 = some (tg0, r0, zs_place) → va_P D vwCl (zwX7 cI h_s h_s_file h_s_file_bytes s_place s_file_size s_file_bytes) H → va_D A (zwX7 cI h_s h_s_file h_s_file_bytes s_place s_file_size s_file_bytes) → va_S A s.heap H locs → lv_has ls 5 [(0, .ref h_s), (1, .int l1), (2, .int l2)] → W p l e (rmX6_number tg0) s m args below meth c H locs 0 0 Q (F0 m 26 ls [.ref h_s]) := by
  intro hf hP hD hS hl
  obtain ⟨hx, hb, hml, hown, hts⟩ := id C
  unfold fX6_number_26 at hf
  refine lv_iconst (v := 0) hx hb dX6_number_26 (by decide) ?_
  exact wX6_number_27 C hN hK hA hT hst hE hX hf hP hD hS (lv_sub hl [0, 1, 2] rfl)
set_option maxHeartbeats 4000000 in
set_option maxRecDepth 100000 in
theorem wX6_number_0 {p : Program} {l : Launch} {e : Env} {s : State} {m : MethodId} {args : Array Value} {below : List Frame} {meth : Method} {c : Code} {D : va_G} {A : Nat → Prop} {Q : State → Prop} {cI : ClassId} {h_s h_s_file h_s_file_bytes : Nat} {s_file_size : Int32} {s_file_bytes : Nat → Int32} {tg0 : Nat} {r0 : Int32} {zs_place : Int32} (C : CallFix p m c cX6_number 5 s args wsX6_number RX6) (hN : zN s) (hK : va_K D vwCl [(cI, .int)] s) (hA : ∀ q, s.heap.size ≤ q → A q) (hT : zTh A s) (hst : l.stackTraces = false) (hE : zTEi tg0 p l e (rmX6_number tg0) s m args below meth c cX6_number D A Q (zwX7 cI h_s h_s_file h_s_file_bytes zs_place s_file_size s_file_bytes) r0) (hX : zTX tg0 p l e (rmX6_number tg0) s m args below meth c D A Q (zwX7 cI h_s h_s_file h_s_file_bytes zs_place s_file_size s_file_bytes)) {s_place : Int32} {H : Heap} {locs : List Loc} {ls : Array Slot} : fX6_number s_place s_file_size s_file_bytes = some (tg0, r0, zs_place) → va_P D vwCl (zwX7 cI h_s h_s_file h_s_file_bytes s_place s_file_size s_file_bytes) H → va_D A (zwX7 cI h_s h_s_file h_s_file_bytes s_place s_file_size s_file_bytes) → va_S A s.heap H locs → lv_has ls 5 [(0, .ref h_s)] → W p l e (rmX6_number tg0) s m args below meth c H locs 0 0 Q (F0 m 0 ls []) := by
  intro hf hP hD hS hl
  obtain ⟨hx, hb, hml, hown, hts⟩ := id C
  unfold fX6_number at hf
  refine lv_aload_n hx hb dX6_number_0 rfl (lv_at hl 0 rfl) ?_
  obtain ⟨tg1, r2, u3, hc4, hf⟩ := zb3_in hf
  have hle := zT_le hf
  refine zcx_i (vx_runS (As := [.ref h_s]) (rest := []) C (mX6_passBlanks l hst D cI H.size h_s h_s_file h_s_file_bytes s_place s_file_size s_file_bytes tg1 r2 u3 hc4) (qX6_number_X6_passBlanks_99 hts) ⟨zPT_blind, zpreT hK hN hT hA hS hP hD [0, 1, 2] rfl rfl⟩ rfl rfl hl.1 rfl (lv_room (Nat.le_of_ble_eq_true rfl)) dX6_number_1 hle) hP hD hS hA [0, 1, 2] [] [0, 1, 2] (ws' := zwX7 cI h_s h_s_file h_s_file_bytes u3 s_file_size s_file_bytes) rfl rfl rfl rfl rfl rfl (fun ht H locs q9 ce hP hD hS hq hv hcl => ?_) (fun ht H locs hP hD hS => ?_)
  · replace hf := zif_f hf ht
    cases hf
    exact hX _ _ _ _ _ _ _ ht hP hD hS hq hv hcl
  · replace hf := zif_t hf ht
    clear hle
    refine lv_istore_n (lv' := [(1, .int r2), (0, .ref h_s)]) hx hb dX6_number_4 rfl hl (by decide) rfl (fun ls hl => ?_)
    refine lv_aload_n hx hb dX6_number_5 rfl (lv_at hl 1 rfl) ?_
    obtain ⟨tg5, r6, u7, hc8, hf⟩ := zb3_in hf
    have hle := zT_le hf
    refine zcx_i (vx_runV (As := []) (rest := []) C (mX7_next l hst D cI H.size h_s h_s_file h_s_file_bytes u3 s_file_size s_file_bytes tg5 r6 u7 hc8) (qX6_number_X7_next_66 hts) ⟨zPT_blind, va_recv hK hP (ci := 6) (q0 := 0) rfl rfl, zpreT hK hN hT hA hS hP hD [0, 1, 2] rfl rfl⟩ rfl rfl hl.1 rfl (lv_room (Nat.le_of_ble_eq_true rfl)) dX6_number_6 hle) hP hD hS hA [0, 1, 2] [] [0, 1, 2] (ws' := zwX7 cI h_s h_s_file h_s_file_bytes u7 s_file_size s_file_bytes) rfl rfl rfl rfl rfl rfl (fun ht H locs q9 ce hP hD hS hq hv hcl => ?_) (fun ht H locs hP hD hS => ?_)
    · replace hf := zif_f hf ht
      cases hf
      exact hX _ _ _ _ _ _ _ ht hP hD hS hq hv hcl
    · replace hf := zif_t hf ht
      clear hle
      refine lv_istore_n (lv' := [(2, .int r6), (1, .int r2), (0, .ref h_s)]) hx hb dX6_number_9 rfl hl (by decide) rfl (fun ls hl => ?_)
      refine lv_aload_n hx hb dX6_number_10 rfl (lv_at hl 2 rfl) ?_
      refine lv_iload_n hx hb dX6_number_11 rfl (lv_at hl 1 rfl) ?_
      refine lv_if_eq (tgt := 26) hx hb dX6_number_12 (by decide) (fun c9 => ?_) (fun c9 => ?_)
      · replace hf := zif_t hf c9
        exact wX6_number_26 C hN hK hA hT hst hE hX hf hP hD hS (lv_sub hl [2, 1, 0] rfl)
      · replace hf := zif_f hf c9
        refine lv_iload_n hx hb dX6_number_15 rfl (lv_at hl 0 rfl) ?_
        obtain ⟨r10, hc11, hf⟩ := zb1_in hf
        refine zc_i (va_runS (As := [.int r6]) (rest := [.ref h_s]) C (mX6_isDigit l D cI H.size r6 r10 hc11) (qX6_number_X6_isDigit_120 hts) ⟨zP_blind, zpre hK hN hP hD [] rfl rfl⟩ rfl rfl hl.1 rfl (lv_room (Nat.le_of_ble_eq_true rfl)) dX6_number_16 ⟨Nat.zero_le _, Nat.zero_le _⟩) hP hD hS hA [] [0, 1, 2] [0, 1, 2] (ws' := zwX7 cI h_s h_s_file h_s_file_bytes u7 s_file_size s_file_bytes) rfl rfl rfl rfl rfl rfl (fun H locs hP hD hS => ?_)
        refine lv_if_eq (tgt := 26) hx hb dX6_number_19 (by decide) (fun c12 => ?_) (fun c12 => ?_)
        · replace hf := zif_t hf c12
          exact wX6_number_26 C hN hK hA hT hst hE hX hf hP hD hS (lv_sub hl [2, 1, 0] rfl)
        · replace hf := zif_f hf c12
          refine lv_iconst (v := 1) hx hb dX6_number_22 (by decide) ?_
          refine lv_goto (tgt := 27) hx hb dX6_number_23 (by decide) ?_
          exact wX6_number_27 C hN hK hA hT hst hE hX hf hP hD hS (lv_sub hl [2, 1, 0] rfl)
set_option maxHeartbeats 4000000 in
set_option maxRecDepth 100000 in
theorem mX6_number (l : Launch) (hst : l.stackTraces = false) (D : va_G) (cI : ClassId) (sz : Nat) (h_s h_s_file h_s_file_bytes : Nat) (s_place : Int32) (s_file_size : Int32) (s_file_bytes : Nat → Int32) (tg0 : Nat) (r0 : Int32) (zs_place : Int32) (hf : fX6_number s_place s_file_size s_file_bytes = some (tg0, r0, zs_place)) : vx_Met l yX6_number wsX6_number (rmX6_number tg0) (va_Pc [.ref h_s] (zPT D [(cI, .int)] (zwX7 cI h_s h_s_file h_s_file_bytes s_place s_file_size s_file_bytes) sz)) (zQTi D (zwX7 cI h_s h_s_file h_s_file_bytes s_place s_file_size s_file_bytes) sz tg0 r0 (zwX7 cI h_s h_s_file h_s_file_bytes zs_place s_file_size s_file_bytes)) (zXT D (zwX7 cI h_s h_s_file h_s_file_bytes s_place s_file_size s_file_bytes) sz tg0 (zwX7 cI h_s h_s_file h_s_file_bytes zs_place s_file_size s_file_bytes)) (zc tg0) (zs tg0) (va_A (zwX7 cI h_s h_s_file h_s_file_bytes s_place s_file_size s_file_bytes) sz) := by
  refine vx_ofW (cc := cX6_number) (maxL := 5) (ret := (some .int)) (by decide) rfl ?_
  intro p e s m args below meth c s₁ B hml htab hv
  obtain ⟨rfl, ⟨hsz, hP, hK, hD0, hN⟩, hT⟩ := hv
  subst hsz
  have C : CallFix p m c cX6_number 5 s [.ref h_s].toArray wsX6_number RX6 := ⟨B.exec, B.bytes, hml, findClass_of_methodNamed B.named, atoms_spec (ws := wsX6_number) B.pre⟩
  have hl := lv_entry ([.ref h_s]) (n := 5) (Nat.le_of_ble_eq_true rfl)
  rw [lg_entry_eq]
  exact wX6_number_0 (A := va_A (zwX7 cI h_s h_s_file h_s_file_bytes s_place s_file_size s_file_bytes) s.heap.size) C hN hK (fun q h => Or.inr h) hT hst (fun h0 H locs pc ls d hP hD hS => zendT_i C.1 C.2.1 B.returns B.notSynchronized h0 d hP hD hS) (fun H locs pc ls rest q9 ce h0 hP hD hS hq hv hcl => zoutT htab B.notSynchronized h0 hP hD hS hq hv hcl) hf hP hD0.self va_S.rf hl
def rmX6_sample (tg : Nat) : Room := { frames := 9, cells := zc tg, slots := zs tg, locals := 151 }
theorem kX6_sample_70 {args : Array Value} {s : State} (h : ∀ w ∈ wsX6_sample, w.before args s = true) : (Cond.fieldLink RX6 70 "FourPictureFiles$SampleFormat" "inDigits" "Z").before args s = true := h _ (by decide +kernel)
theorem kX6_sample_81 {args : Array Value} {s : State} (h : ∀ w ∈ wsX6_sample, w.before args s = true) : (Cond.fieldLink RX6 81 "FourPictureFiles$SampleFormat" "greatest" "I").before args s = true := h _ (by decide +kernel)
theorem iX6_sample_X6 : ∀ w ∈ u_ws RX6 TX6 2, w ∈ wsX6_sample := by decide +kernel
theorem qX6_sample_X6_number_74 {args : Array Value} {s : State} {tg0 : Nat} {tg : Nat} (hts : ∀ w ∈ wsX6_sample, w.before args s = true) : CallB (rmX6_sample tg0) s args RX6 74 yX6_number cX6_number 5 (some .int) wsX6_number (rmX6_number tg) (zc tg) (zs tg) 1 ∧ (Cond.static yX6_number).before args s = true := va_cwS 1 hts gX6_sample_X6_number rfl rfl rfl (by decide +kernel) ⟨Nat.le_of_ble_eq_true rfl, Nat.le_of_ble_eq_true rfl⟩
theorem qX6_sample_X7_need_84 {args : Array Value} {s : State} {tg0 : Nat} {tg : Nat} (hts : ∀ w ∈ wsX6_sample, w.before args s = true) : CallW (rmX6_sample tg0) s args RX6 RX7 84 yX7_need cX7_need 2 none wsX7_need (rmX7_need tg) (zc tg) (zs tg) 1 := cwV 1 hts gX6_sample_X7_need rfl rfl rfl (by decide +kernel) ⟨Nat.le_of_ble_eq_true rfl, Nat.le_of_ble_eq_true rfl⟩
theorem qX6_sample_X7_next_66 {args : Array Value} {s : State} {tg0 : Nat} {tg : Nat} (hts : ∀ w ∈ wsX6_sample, w.before args s = true) : CallW (rmX6_sample tg0) s args RX6 RX7 66 yX7_next cX7_next 2 (some .int) wsX7_next (rmX7_next tg) (zc tg) (zs tg) 0 := cwV 0 hts gX6_sample_X7_next rfl rfl rfl (by decide +kernel) ⟨Nat.le_of_ble_eq_true rfl, Nat.le_of_ble_eq_true rfl⟩
set_option maxHeartbeats 4000000 in
set_option maxRecDepth 100000 in
theorem wX6_sample_33 {p : Program} {l : Launch} {e : Env} {s : State} {m : MethodId} {args : Array Value} {below : List Frame} {meth : Method} {c : Code} {D : va_G} {A : Nat → Prop} {Q : State → Prop} {cI : ClassId} {h_t h_s h_s_file h_s_file_bytes : Nat} {t_inDigits : Int32} {t_greatest : Int32} {s_file_size : Int32} {s_file_bytes : Nat → Int32} {tg0 : Nat} {r0 : Int32} {zs_place : Int32} (C : CallFix p m c cX6_sample 3 s args wsX6_sample RX6) (hN : zN s) (hK : va_K D vwCl [(cI, .int)] s) (hA : ∀ q, s.heap.size ≤ q → A q) (hT : zTh A s) (hst : l.stackTraces = false) (hE : zTEi tg0 p l e (rmX6_sample tg0) s m args below meth c cX6_sample D A Q (zwX6 cI h_t t_inDigits t_greatest ++ zwX7 cI h_s h_s_file h_s_file_bytes zs_place s_file_size s_file_bytes) r0) (hX : zTX tg0 p l e (rmX6_sample tg0) s m args below meth c D A Q (zwX6 cI h_t t_inDigits t_greatest ++ zwX7 cI h_s h_s_file h_s_file_bytes zs_place s_file_size s_file_bytes)) {s_place : Int32} {l2 : Int32} {k1 : Int32} {H : Heap} {locs : List Loc} {ls : Array Slot} : fX6_sample_33 t_greatest s_place l2 k1 = some (tg0, r0, zs_place) → va_P D vwCl (zwX6 cI h_t t_inDigits t_greatest ++ zwX7 cI h_s h_s_file h_s_file_bytes s_place s_file_size s_file_bytes) H → va_D A (zwX6 cI h_t t_inDigits t_greatest ++ zwX7 cI h_s h_s_file h_s_file_bytes s_place s_file_size s_file_bytes) → va_S A s.heap H locs → lv_has ls 3 [(0, .ref h_t), (1, .ref h_s), (2, .int l2)] → W p l e (rmX6_sample tg0) s m args below meth c H locs 0 0 Q (F0 m 33 ls [.int k1, .ref h_s]) := by
  intro hf hP hD hS hl
  obtain ⟨hx, hb, hml, hown, hts⟩ := id C
  unfold fX6_sample_33 at hf
  obtain ⟨tg1, hc2, hf⟩ := zb1_in hf
  have hle := zT_le hf
  refine zcx_v (vx_runV (As := [.int k1]) (rest := []) C (mX7_need l hst D cI H.size h_s h_s_file h_s_file_bytes s_place s_file_size s_file_bytes k1 tg1 hc2) (qX6_sample_X7_need_84 hts) ⟨zPT_blind, va_recv hK hP (ci := 6) (q0 := 1) rfl rfl, zpreT hK hN hT hA hS hP hD [1, 2, 3] rfl rfl⟩ rfl rfl hl.1 rfl (lv_room (Nat.le_of_ble_eq_true rfl)) dX6_sample_33 hle) hP hD hS hA [1, 2, 3] [0] [0, 1, 2, 3] (ws' := zwX6 cI h_t t_inDigits t_greatest ++ zwX7 cI h_s h_s_file h_s_file_bytes s_place s_file_size s_file_bytes) rfl rfl rfl rfl rfl rfl (fun ht H locs q9 ce hP hD hS hq hv hcl => ?_) (fun ht H locs hP hD hS => ?_)
  · replace hf := zif_f hf ht
    cases hf
    exact hX _ _ _ _ _ _ _ ht hP hD hS hq hv hcl
  · replace hf := zif_t hf ht
    clear hle
    refine lv_iload_n hx hb dX6_sample_36 rfl (lv_at hl 2 rfl) ?_
    refine lv_sipush (v := 255) hx hb dX6_sample_37 (by decide) ?_
    refine lv_imul hx hb dX6_sample_40 ?_
    refine lv_aload_n hx hb dX6_sample_41 rfl (lv_at hl 0 rfl) ?_
    refine va_get (D := D) (ci := 5) (v := .int t_greatest) (C := RX6) (T := TX6) (N := 2) hx hb hts iX6_sample_X6 hown hK hP 0 rfl rfl 1 (by decide) (kX6_sample_81 hts) (fun _ h9 => h9) rfl dX6_sample_42 ?_
    refine lv_iconst (v := 2) hx hb dX6_sample_45 (by decide) ?_
    refine lv_idiv hx hb dX6_sample_46 (by decide) ?_
    refine lv_iadd hx hb dX6_sample_47 ?_
    refine lv_aload_n hx hb dX6_sample_48 rfl (lv_at hl 0 rfl) ?_
    refine va_get (D := D) (ci := 5) (v := .int t_greatest) (C := RX6) (T := TX6) (N := 2) hx hb hts iX6_sample_X6 hown hK hP 0 rfl rfl 1 (by decide) (kX6_sample_81 hts) (fun _ h9 => h9) rfl dX6_sample_49 ?_
    obtain ⟨hg3, hf⟩ := znz_in hf
    refine lv_idiv hx hb dX6_sample_52 hg3 ?_
    cases hf
    exact hE rfl _ _ _ _ dX6_sample_53 hP hD hS
set_option maxHeartbeats 4000000 in
set_option maxRecDepth 100000 in
theorem wX6_sample_18 {p : Program} {l : Launch} {e : Env} {s : State} {m : MethodId} {args : Array Value} {below : List Frame} {meth : Method} {c : Code} {D : va_G} {A : Nat → Prop} {Q : State → Prop} {cI : ClassId} {h_t h_s h_s_file h_s_file_bytes : Nat} {t_inDigits : Int32} {t_greatest : Int32} {s_file_size : Int32} {s_file_bytes : Nat → Int32} {tg0 : Nat} {r0 : Int32} {zs_place : Int32} (C : CallFix p m c cX6_sample 3 s args wsX6_sample RX6) (hN : zN s) (hK : va_K D vwCl [(cI, .int)] s) (hA : ∀ q, s.heap.size ≤ q → A q) (hT : zTh A s) (hst : l.stackTraces = false) (hE : zTEi tg0 p l e (rmX6_sample tg0) s m args below meth c cX6_sample D A Q (zwX6 cI h_t t_inDigits t_greatest ++ zwX7 cI h_s h_s_file h_s_file_bytes zs_place s_file_size s_file_bytes) r0) (hX : zTX tg0 p l e (rmX6_sample tg0) s m args below meth c D A Q (zwX6 cI h_t t_inDigits t_greatest ++ zwX7 cI h_s h_s_file h_s_file_bytes zs_place s_file_size s_file_bytes)) {s_place : Int32} {k0 : Int32} {H : Heap} {locs : List Loc} {ls : Array Slot} : fX6_sample_18 t_greatest s_place k0 = some (tg0, r0, zs_place) → va_P D vwCl (zwX6 cI h_t t_inDigits t_greatest ++ zwX7 cI h_s h_s_file h_s_file_bytes s_place s_file_size s_file_bytes) H → va_D A (zwX6 cI h_t t_inDigits t_greatest ++ zwX7 cI h_s h_s_file h_s_file_bytes s_place s_file_size s_file_bytes) → va_S A s.heap H locs → lv_has ls 3 [(0, .ref h_t), (1, .ref h_s)] → W p l e (rmX6_sample tg0) s m args below meth c H locs 0 0 Q (F0 m 18 ls [.int k0]) := by
  intro hf hP hD hS hl
  obtain ⟨hx, hb, hml, hown, hts⟩ := id C
  unfold fX6_sample_18 at hf
  refine lv_istore_n (lv' := [(2, .int k0), (0, .ref h_t), (1, .ref h_s)]) hx hb dX6_sample_18 rfl hl (by decide) rfl (fun ls hl => ?_)
  refine lv_aload_n hx hb dX6_sample_19 rfl (lv_at hl 2 rfl) ?_
  refine lv_iload_n hx hb dX6_sample_20 rfl (lv_at hl 0 rfl) ?_
  refine lv_aload_n hx hb dX6_sample_21 rfl (lv_at hl 1 rfl) ?_
  refine va_get (D := D) (ci := 5) (v := .int t_greatest) (C := RX6) (T := TX6) (N := 2) hx hb hts iX6_sample_X6 hown hK hP 0 rfl rfl 1 (by decide) (kX6_sample_81 hts) (fun _ h9 => h9) rfl dX6_sample_22 ?_
  refine lv_icmp_gt (tgt := 32) hx hb dX6_sample_25 (by decide) (fun c1 => ?_) (fun c1 => ?_)
  · replace hf := zif_t hf c1
    refine lv_iconst (v := 0) hx hb dX6_sample_32 (by decide) ?_
    exact wX6_sample_33 C hN hK hA hT hst hE hX hf hP hD hS (lv_sub hl [1, 2, 0] rfl)
  · replace hf := zif_f hf c1
    refine lv_iconst (v := 1) hx hb dX6_sample_28 (by decide) ?_
    refine lv_goto (tgt := 33) hx hb dX6_sample_29 (by decide) ?_
    exact wX6_sample_33 C hN hK hA hT hst hE hX hf hP hD hS (lv_sub hl [1, 2, 0] rfl)
set_option maxHeartbeats 4000000 in
set_option maxRecDepth 100000 in
theorem wX6_sample_0 {p : Program} {l : Launch} {e : Env} {s : State} {m : MethodId} {args : Array Value} {below : List Frame} {meth : Method} {c : Code} {D : va_G} {A : Nat → Prop} {Q : State → Prop} {cI : ClassId} {h_t h_s h_s_file h_s_file_bytes : Nat} {t_inDigits : Int32} {t_greatest : Int32} {s_file_size : Int32} {s_file_bytes : Nat → Int32} {tg0 : Nat} {r0 : Int32} {zs_place : Int32} (C : CallFix p m c cX6_sample 3 s args wsX6_sample RX6) (hN : zN s) (hK : va_K D vwCl [(cI, .int)] s) (hA : ∀ q, s.heap.size ≤ q → A q) (hT : zTh A s) (hst : l.stackTraces = false) (hE : zTEi tg0 p l e (rmX6_sample tg0) s m args below meth c cX6_sample D A Q (zwX6 cI h_t t_inDigits t_greatest ++ zwX7 cI h_s h_s_file h_s_file_bytes zs_place s_file_size s_file_bytes) r0) (hX : zTX tg0 p l e (rmX6_sample tg0) s m args below meth c D A Q (zwX6 cI h_t t_inDigits t_greatest ++ zwX7 cI h_s h_s_file h_s_file_bytes zs_place s_file_size s_file_bytes)) {s_place : Int32} {H : Heap} {locs : List Loc} {ls : Array Slot} : fX6_sample t_inDigits t_greatest s_place s_file_size s_file_bytes = some (tg0, r0, zs_place) → va_P D vwCl (zwX6 cI h_t t_inDigits t_greatest ++ zwX7 cI h_s h_s_file h_s_file_bytes s_place s_file_size s_file_bytes) H → va_D A (zwX6 cI h_t t_inDigits t_greatest ++ zwX7 cI h_s h_s_file h_s_file_bytes s_place s_file_size s_file_bytes) → va_S A s.heap H locs → lv_has ls 3 [(0, .ref h_t), (1, .ref h_s)] → W p l e (rmX6_sample tg0) s m args below meth c H locs 0 0 Q (F0 m 0 ls []) := by
  intro hf hP hD hS hl
  obtain ⟨hx, hb, hml, hown, hts⟩ := id C
  unfold fX6_sample at hf
  refine lv_aload_n hx hb dX6_sample_0 rfl (lv_at hl 0 rfl) ?_
  refine va_get (D := D) (ci := 5) (v := .int t_inDigits) (C := RX6) (T := TX6) (N := 2) hx hb hts iX6_sample_X6 hown hK hP 0 rfl rfl 0 (by decide) (kX6_sample_70 hts) (fun _ h9 => h9) rfl dX6_sample_1 ?_
  refine lv_if_eq (tgt := 14) hx hb dX6_sample_4 (by decide) (fun c1 => ?_) (fun c1 => ?_)
  · replace hf := zif_t hf c1
    refine lv_aload_n hx hb dX6_sample_14 rfl (lv_at hl 1 rfl) ?_
    obtain ⟨tg2, r3, u4, hc5, hf⟩ := zb3_in hf
    have hle := zT_le hf
    refine zcx_i (vx_runV (As := []) (rest := []) C (mX7_next l hst D cI H.size h_s h_s_file h_s_file_bytes s_place s_file_size s_file_bytes tg2 r3 u4 hc5) (qX6_sample_X7_next_66 hts) ⟨zPT_blind, va_recv hK hP (ci := 6) (q0 := 1) rfl rfl, zpreT hK hN hT hA hS hP hD [1, 2, 3] rfl rfl⟩ rfl rfl hl.1 rfl (lv_room (Nat.le_of_ble_eq_true rfl)) dX6_sample_15 hle) hP hD hS hA [1, 2, 3] [0] [0, 1, 2, 3] (ws' := zwX6 cI h_t t_inDigits t_greatest ++ zwX7 cI h_s h_s_file h_s_file_bytes u4 s_file_size s_file_bytes) rfl rfl rfl rfl rfl rfl (fun ht H locs q9 ce hP hD hS hq hv hcl => ?_) (fun ht H locs hP hD hS => ?_)
    · replace hf := zif_f hf ht
      cases hf
      exact hX _ _ _ _ _ _ _ ht hP hD hS hq hv hcl
    · replace hf := zif_t hf ht
      clear hle
      exact wX6_sample_18 C hN hK hA hT hst hE hX hf hP hD hS (lv_sub hl [0, 1] rfl)
  · replace hf := zif_f hf c1
    refine lv_aload_n hx hb dX6_sample_7 rfl (lv_at hl 1 rfl) ?_
    obtain ⟨tg6, r7, u8, hc9, hf⟩ := zb3_in hf
    have hle := zT_le hf
    refine zcx_i (vx_runS (As := [.ref h_s]) (rest := []) C (mX6_number l hst D cI H.size h_s h_s_file h_s_file_bytes s_place s_file_size s_file_bytes tg6 r7 u8 hc9) (qX6_sample_X6_number_74 hts) ⟨zPT_blind, zpreT hK hN hT hA hS hP hD [1, 2, 3] rfl rfl⟩ rfl rfl hl.1 rfl (lv_room (Nat.le_of_ble_eq_true rfl)) dX6_sample_8 hle) hP hD hS hA [1, 2, 3] [0] [0, 1, 2, 3] (ws' := zwX6 cI h_t t_inDigits t_greatest ++ zwX7 cI h_s h_s_file h_s_file_bytes u8 s_file_size s_file_bytes) rfl rfl rfl rfl rfl rfl (fun ht H locs q9 ce hP hD hS hq hv hcl => ?_) (fun ht H locs hP hD hS => ?_)
    · replace hf := zif_f hf ht
      cases hf
      exact hX _ _ _ _ _ _ _ ht hP hD hS hq hv hcl
    · replace hf := zif_t hf ht
      clear hle
      refine lv_goto (tgt := 18) hx hb dX6_sample_11 (by decide) ?_
      exact wX6_sample_18 C hN hK hA hT hst hE hX hf hP hD hS (lv_sub hl [0, 1] rfl)
set_option maxHeartbeats 4000000 in
set_option maxRecDepth 100000 in
theorem mX6_sample (l : Launch) (hst : l.stackTraces = false) (D : va_G) (cI : ClassId) (sz : Nat) (h_t h_s h_s_file h_s_file_bytes : Nat) (t_inDigits : Int32) (t_greatest : Int32) (s_place : Int32) (s_file_size : Int32) (s_file_bytes : Nat → Int32) (tg0 : Nat) (r0 : Int32) (zs_place : Int32) (hf : fX6_sample t_inDigits t_greatest s_place s_file_size s_file_bytes = some (tg0, r0, zs_place)) : vx_Met l yX6_sample wsX6_sample (rmX6_sample tg0) (va_Pc [.ref h_t, .ref h_s] (zPT D [(cI, .int)] (zwX6 cI h_t t_inDigits t_greatest ++ zwX7 cI h_s h_s_file h_s_file_bytes s_place s_file_size s_file_bytes) sz)) (zQTi D (zwX6 cI h_t t_inDigits t_greatest ++ zwX7 cI h_s h_s_file h_s_file_bytes s_place s_file_size s_file_bytes) sz tg0 r0 (zwX6 cI h_t t_inDigits t_greatest ++ zwX7 cI h_s h_s_file h_s_file_bytes zs_place s_file_size s_file_bytes)) (zXT D (zwX6 cI h_t t_inDigits t_greatest ++ zwX7 cI h_s h_s_file h_s_file_bytes s_place s_file_size s_file_bytes) sz tg0 (zwX6 cI h_t t_inDigits t_greatest ++ zwX7 cI h_s h_s_file h_s_file_bytes zs_place s_file_size s_file_bytes)) (zc tg0) (zs tg0) (va_A (zwX6 cI h_t t_inDigits t_greatest ++ zwX7 cI h_s h_s_file h_s_file_bytes s_place s_file_size s_file_bytes) sz) := by
  refine vx_ofW (cc := cX6_sample) (maxL := 3) (ret := (some .int)) (by decide) rfl ?_
  intro p e s m args below meth c s₁ B hml htab hv
  obtain ⟨rfl, ⟨hsz, hP, hK, hD0, hN⟩, hT⟩ := hv
  subst hsz
  have C : CallFix p m c cX6_sample 3 s [.ref h_t, .ref h_s].toArray wsX6_sample RX6 := ⟨B.exec, B.bytes, hml, findClass_of_methodNamed B.named, atoms_spec (ws := wsX6_sample) B.pre⟩
  have hl := lv_entry ([.ref h_t, .ref h_s]) (n := 3) (Nat.le_of_ble_eq_true rfl)
  rw [lg_entry_eq]
  exact wX6_sample_0 (A := va_A (zwX6 cI h_t t_inDigits t_greatest ++ zwX7 cI h_s h_s_file h_s_file_bytes s_place s_file_size s_file_bytes) s.heap.size) C hN hK (fun q h => Or.inr h) hT hst (fun h0 H locs pc ls d hP hD hS => zendT_i C.1 C.2.1 B.returns B.notSynchronized h0 d hP hD hS) (fun H locs pc ls rest q9 ce h0 hP hD hS hq hv hcl => zoutT htab B.notSynchronized h0 hP hD hS hq hv hcl) hf hP hD0.self va_S.rf hl
def rmX6_readSamples (tg : Nat) : Room := { frames := 10, cells := zc tg, slots := zs tg, locals := 173 }
theorem iX6_readSamples_X5 : ∀ w ∈ u_ws RX5 TX5 3, w ∈ wsX6_readSamples := by decide +kernel
theorem qX6_readSamples_X5_count_106 {args : Array Value} {s : State} {tg0 : Nat} (hts : ∀ w ∈ wsX6_readSamples, w.before args s = true) : CallW (rmX6_readSamples tg0) s args RX6 RX5 106 yX5_count cX5_count 1 (some .int) wsX5_count rmX5_count 0 0 0 := cwV 0 hts gX6_readSamples_X5_count rfl rfl rfl (by decide +kernel) ⟨Nat.le_of_ble_eq_true rfl, Nat.le_of_ble_eq_true rfl⟩
theorem qX6_readSamples_X6_sample_109 {args : Array Value} {s : State} {tg0 : Nat} {tg : Nat} (hts : ∀ w ∈ wsX6_readSamples, w.before args s = true) : CallW (rmX6_readSamples tg0) s args RX6 RX6 109 yX6_sample cX6_sample 3 (some .int) wsX6_sample (rmX6_sample tg) (zc tg) (zs tg) 1 := cwV 1 hts gX6_readSamples_X6_sample rfl rfl rfl (by decide +kernel) ⟨Nat.le_of_ble_eq_true rfl, Nat.le_of_ble_eq_true rfl⟩
theorem qX6_readSamples_X8_opaque_116 {args : Array Value} {s : State} {tg0 : Nat} (hts : ∀ w ∈ wsX6_readSamples, w.before args s = true) (hN : zN s) : va_CN (rmX6_readSamples tg0) s args RX6 116 yX8_opaque RX8 cX8_opaque 3 (some .int) wsX8_opaque rmX8_opaque 0 0 3 ∧ (Cond.static yX8_opaque).before args s = true ∧ True := ⟨va_cnB 3 hts gX6_readSamples_X8_opaque_n116 rfl rfl rfl (hN.nw 56 rfl) (hts (.initialized RX8) (by decide +kernel)) (by decide +kernel) ⟨Nat.le_of_ble_eq_true rfl, Nat.le_of_ble_eq_true rfl⟩, hts (.static yX8_opaque) (by decide +kernel), trivial⟩
set_option maxHeartbeats 4000000 in
set_option maxRecDepth 100000 in
theorem wX6_readSamples_49 {p : Program} {l : Launch} {e : Env} {s : State} {m : MethodId} {args : Array Value} {below : List Frame} {meth : Method} {c : Code} {D : va_G} {A : Nat → Prop} {Q : State → Prop} {cI : ClassId} {h_t h_s h_s_file h_s_file_bytes h_p h_p_pixels : Nat} {t_inDigits : Int32} {t_greatest : Int32} {s_file_size : Int32} {s_file_bytes : Nat → Int32} {p_wide : Int32} {p_high : Int32} {tg0 : Nat} {zs_place : Int32} {zp_pixels : Nat → Int32} (C : CallFix p m c cX6_readSamples 8 s args wsX6_readSamples RX6) (hN : zN s) (hK : va_K D vwCl [(cI, .int)] s) (hA : ∀ q, s.heap.size ≤ q → A q) (hT : zTh A s) (hst : l.stackTraces = false) (hE : zTEv tg0 p l e (rmX6_readSamples tg0) s m args below meth c cX6_readSamples D A Q (zwX6 cI h_t t_inDigits t_greatest ++ zwX7 cI h_s h_s_file h_s_file_bytes zs_place s_file_size s_file_bytes ++ zwX5 cI h_p h_p_pixels p_wide p_high zp_pixels)) (hX : zTX tg0 p l e (rmX6_readSamples tg0) s m args below meth c D A Q (zwX6 cI h_t t_inDigits t_greatest ++ zwX7 cI h_s h_s_file h_s_file_bytes zs_place s_file_size s_file_bytes ++ zwX5 cI h_p h_p_pixels p_wide p_high zp_pixels)) {rc3 : Int32 → Int32 → Int32 → Int32 → (Nat → Int32) → Int32 → Int32 → (Nat → Int32) → Int32 → Int32 → Option (Nat × Int32 × (Nat → Int32))} (hr_3 : ∀ {s_place : Int32} {p_pixels : Nat → Int32} {l2 : Int32} {l4 : Int32} {H : Heap} {locs : List Loc} {ls : Array Slot}, rc3 t_inDigits t_greatest s_place s_file_size s_file_bytes p_wide p_high p_pixels l2 l4 = some (tg0, zs_place, zp_pixels) → va_P D vwCl (zwX6 cI h_t t_inDigits t_greatest ++ zwX7 cI h_s h_s_file h_s_file_bytes s_place s_file_size s_file_bytes ++ zwX5 cI h_p h_p_pixels p_wide p_high p_pixels) H → va_D A (zwX6 cI h_t t_inDigits t_greatest ++ zwX7 cI h_s h_s_file h_s_file_bytes s_place s_file_size s_file_bytes ++ zwX5 cI h_p h_p_pixels p_wide p_high p_pixels) → va_S A s.heap H locs → lv_has ls 8 [(0, .ref h_t), (1, .ref h_s), (2, .int l2), (3, .ref h_p), (4, .int l4)] → W p l e (rmX6_readSamples tg0) s m args below meth c H locs 0 0 Q (F0 m 3 ls [])) {s_place : Int32} {p_pixels : Nat → Int32} {l2 : Int32} {l4 : Int32} {l5 : Int32} {l6 : Int32} {k0 : Int32} {H : Heap} {locs : List Loc} {ls : Array Slot} : fX6_readSamples_49 rc3 t_inDigits t_greatest s_place s_file_size s_file_bytes p_wide p_high p_pixels l2 l4 l5 l6 k0 = some (tg0, zs_place, zp_pixels) → va_P D vwCl (zwX6 cI h_t t_inDigits t_greatest ++ zwX7 cI h_s h_s_file h_s_file_bytes s_place s_file_size s_file_bytes ++ zwX5 cI h_p h_p_pixels p_wide p_high p_pixels) H → va_D A (zwX6 cI h_t t_inDigits t_greatest ++ zwX7 cI h_s h_s_file h_s_file_bytes s_place s_file_size s_file_bytes ++ zwX5 cI h_p h_p_pixels p_wide p_high p_pixels) → va_S A s.heap H locs → lv_has ls 8 [(0, .ref h_t), (1, .ref h_s), (2, .int l2), (3, .ref h_p), (4, .int l4), (5, .int l5), (6, .int l6)] → W p l e (rmX6_readSamples tg0) s m args below meth c H locs 0 0 Q (F0 m 49 ls [.int k0]) := by
  intro hf hP hD hS hl
  obtain ⟨hx, hb, hml, hown, hts⟩ := id C
  unfold fX6_readSamples_49 at hf
  refine lv_istore (lv' := [(7, .int k0), (0, .ref h_t), (1, .ref h_s), (2, .int l2), (3, .ref h_p), (4, .int l4), (5, .int l5), (6, .int l6)]) hx hb dX6_readSamples_49 hl (by decide) rfl (fun ls hl => ?_)
  refine lv_aload_n hx hb dX6_readSamples_51 rfl (lv_at hl 4 rfl) ?_
  refine va_getN (D := D) (ci := 4) (v := .ref h_p_pixels) (C := RX5) (T := TX5) (N := 3) hx hb hts iX6_readSamples_X5 hown hK hP 4 rfl rfl 0 (by decide) (hN.at 2 rfl) (fun _ h9 => h9) rfl dX6_readSamples_52 ?_
  refine lv_iload hx hb dX6_readSamples_55 (lv_at hl 5 rfl) ?_
  refine lv_iload hx hb dX6_readSamples_57 (lv_at hl 6 rfl) ?_
  refine lv_iload hx hb dX6_readSamples_59 (lv_at hl 7 rfl) ?_
  refine lv_iload hx hb dX6_readSamples_61 (lv_at hl 0 rfl) ?_
  obtain ⟨r1, hc2, hf⟩ := zb1_in hf
  refine zc_i (va_runSN (As := [.int l5, .int l6, .int k0]) (rest := [.int l4, .ref h_p_pixels]) C (mX8_opaque l D cI H.size l5 l6 k0 r1 hc2) (qX6_readSamples_X8_opaque_116 hts hN) ⟨zP_blind, zpre hK hN hP hD [] rfl rfl⟩ rfl rfl hl.1 rfl (lv_room (Nat.le_of_ble_eq_true rfl)) dX6_readSamples_63 ⟨Nat.zero_le _, Nat.zero_le _⟩) hP hD hS hA [] [0, 1, 2, 3, 4, 5] [0, 1, 2, 3, 4, 5] (ws' := zwX6 cI h_t t_inDigits t_greatest ++ zwX7 cI h_s h_s_file h_s_file_bytes s_place s_file_size s_file_bytes ++ zwX5 cI h_p h_p_pixels p_wide p_high p_pixels) rfl rfl rfl rfl rfl rfl (fun H locs hP hD hS => ?_)
  obtain ⟨hg4, g3, eg3, hf⟩ := zwr_in hf
  refine va_iast hx hb hK hP hD hS 5 0 rfl rfl hg4 dX6_readSamples_66 (fun H locs hP hD hS => ?_)
  replace hP : va_P D vwCl (zwX6 cI h_t t_inDigits t_greatest ++ zwX7 cI h_s h_s_file h_s_file_bytes s_place s_file_size s_file_bytes ++ zwX5 cI h_p h_p_pixels p_wide p_high g3) H := by rw [← eg3]; exact hP
  replace hD : va_D A (zwX6 cI h_t t_inDigits t_greatest ++ zwX7 cI h_s h_s_file h_s_file_bytes s_place s_file_size s_file_bytes ++ zwX5 cI h_p h_p_pixels p_wide p_high g3) := by rw [← eg3]; exact hD
  clear eg3
  obtain ⟨x5, ex5⟩ : ∃ y : Int32, y = l4 + 1 := ⟨_, rfl⟩
  replace hf := zlet_in hf ex5
  refine lv_iinc (v := x5) (lv' := [(4, .int x5), (7, .int k0), (0, .ref h_t), (1, .ref h_s), (2, .int l2), (3, .ref h_p), (5, .int l5), (6, .int l6)]) hx hb dX6_readSamples_67 hl (k := 5) rfl (by rw [ex5]; rfl) (by decide) rfl (fun ls hl => ?_)
  clear ex5
  refine lv_goto (tgt := 3) hx hb dX6_readSamples_70 (by decide) ?_
  exact hr_3 hf hP hD hS (lv_sub hl [2, 3, 4, 5, 0] rfl)
set_option maxHeartbeats 4000000 in
set_option maxRecDepth 100000 in
theorem wX6_readSamples_33 {p : Program} {l : Launch} {e : Env} {s : State} {m : MethodId} {args : Array Value} {below : List Frame} {meth : Method} {c : Code} {D : va_G} {A : Nat → Prop} {Q : State → Prop} {cI : ClassId} {h_t h_s h_s_file h_s_file_bytes h_p h_p_pixels : Nat} {t_inDigits : Int32} {t_greatest : Int32} {s_file_size : Int32} {s_file_bytes : Nat → Int32} {p_wide : Int32} {p_high : Int32} {tg0 : Nat} {zs_place : Int32} {zp_pixels : Nat → Int32} (C : CallFix p m c cX6_readSamples 8 s args wsX6_readSamples RX6) (hN : zN s) (hK : va_K D vwCl [(cI, .int)] s) (hA : ∀ q, s.heap.size ≤ q → A q) (hT : zTh A s) (hst : l.stackTraces = false) (hE : zTEv tg0 p l e (rmX6_readSamples tg0) s m args below meth c cX6_readSamples D A Q (zwX6 cI h_t t_inDigits t_greatest ++ zwX7 cI h_s h_s_file h_s_file_bytes zs_place s_file_size s_file_bytes ++ zwX5 cI h_p h_p_pixels p_wide p_high zp_pixels)) (hX : zTX tg0 p l e (rmX6_readSamples tg0) s m args below meth c D A Q (zwX6 cI h_t t_inDigits t_greatest ++ zwX7 cI h_s h_s_file h_s_file_bytes zs_place s_file_size s_file_bytes ++ zwX5 cI h_p h_p_pixels p_wide p_high zp_pixels)) {rc3 : Int32 → Int32 → Int32 → Int32 → (Nat → Int32) → Int32 → Int32 → (Nat → Int32) → Int32 → Int32 → Option (Nat × Int32 × (Nat → Int32))} (hr_3 : ∀ {s_place : Int32} {p_pixels : Nat → Int32} {l2 : Int32} {l4 : Int32} {H : Heap} {locs : List Loc} {ls : Array Slot}, rc3 t_inDigits t_greatest s_place s_file_size s_file_bytes p_wide p_high p_pixels l2 l4 = some (tg0, zs_place, zp_pixels) → va_P D vwCl (zwX6 cI h_t t_inDigits t_greatest ++ zwX7 cI h_s h_s_file h_s_file_bytes s_place s_file_size s_file_bytes ++ zwX5 cI h_p h_p_pixels p_wide p_high p_pixels) H → va_D A (zwX6 cI h_t t_inDigits t_greatest ++ zwX7 cI h_s h_s_file h_s_file_bytes s_place s_file_size s_file_bytes ++ zwX5 cI h_p h_p_pixels p_wide p_high p_pixels) → va_S A s.heap H locs → lv_has ls 8 [(0, .ref h_t), (1, .ref h_s), (2, .int l2), (3, .ref h_p), (4, .int l4)] → W p l e (rmX6_readSamples tg0) s m args below meth c H locs 0 0 Q (F0 m 3 ls [])) {s_place : Int32} {p_pixels : Nat → Int32} {l2 : Int32} {l4 : Int32} {l5 : Int32} {k0 : Int32} {H : Heap} {locs : List Loc} {ls : Array Slot} : fX6_readSamples_33 rc3 t_inDigits t_greatest s_place s_file_size s_file_bytes p_wide p_high p_pixels l2 l4 l5 k0 = some (tg0, zs_place, zp_pixels) → va_P D vwCl (zwX6 cI h_t t_inDigits t_greatest ++ zwX7 cI h_s h_s_file h_s_file_bytes s_place s_file_size s_file_bytes ++ zwX5 cI h_p h_p_pixels p_wide p_high p_pixels) H → va_D A (zwX6 cI h_t t_inDigits t_greatest ++ zwX7 cI h_s h_s_file h_s_file_bytes s_place s_file_size s_file_bytes ++ zwX5 cI h_p h_p_pixels p_wide p_high p_pixels) → va_S A s.heap H locs → lv_has ls 8 [(0, .ref h_t), (1, .ref h_s), (2, .int l2), (3, .ref h_p), (4, .int l4), (5, .int l5)] → W p l e (rmX6_readSamples tg0) s m args below meth c H locs 0 0 Q (F0 m 33 ls [.int k0]) := by
  intro hf hP hD hS hl
  obtain ⟨hx, hb, hml, hown, hts⟩ := id C
  unfold fX6_readSamples_33 at hf
  refine lv_istore (lv' := [(6, .int k0), (0, .ref h_t), (1, .ref h_s), (2, .int l2), (3, .ref h_p), (4, .int l4), (5, .int l5)]) hx hb dX6_readSamples_33 hl (by decide) rfl (fun ls hl => ?_)
  refine lv_iload_n hx hb dX6_readSamples_35 rfl (lv_at hl 3 rfl) ?_
  refine lv_if_eq (tgt := 47) hx hb dX6_readSamples_36 (by decide) (fun c1 => ?_) (fun c1 => ?_)
  · replace hf := zif_t hf c1
    refine lv_iload hx hb dX6_readSamples_47 (lv_at hl 6 rfl) ?_
    exact wX6_readSamples_49 C hN hK hA hT hst hE hX hr_3 hf hP hD hS (lv_sub hl [1, 2, 3, 4, 5, 6, 0] rfl)
  · replace hf := zif_f hf c1
    refine lv_aload_n hx hb dX6_readSamples_39 rfl (lv_at hl 1 rfl) ?_
    refine lv_aload_n hx hb dX6_readSamples_40 rfl (lv_at hl 2 rfl) ?_
    obtain ⟨tg2, r3, u4, hc5, hf⟩ := zb3_in hf
    have hle := zT_le hf
    refine zcx_i (vx_runV (As := [.ref h_s]) (rest := []) C (mX6_sample l hst D cI H.size h_t h_s h_s_file h_s_file_bytes t_inDigits t_greatest s_place s_file_size s_file_bytes tg2 r3 u4 hc5) (qX6_readSamples_X6_sample_109 hts) ⟨zPT_blind, va_recv hK hP (ci := 5) (q0 := 0) rfl rfl, zpreT hK hN hT hA hS hP hD [0, 1, 2, 3] rfl rfl⟩ rfl rfl hl.1 rfl (lv_room (Nat.le_of_ble_eq_true rfl)) dX6_readSamples_41 hle) hP hD hS hA [0, 1, 2, 3] [4, 5] [2, 3, 4, 5, 0, 1] (ws' := zwX6 cI h_t t_inDigits t_greatest ++ zwX7 cI h_s h_s_file h_s_file_bytes u4 s_file_size s_file_bytes ++ zwX5 cI h_p h_p_pixels p_wide p_high p_pixels) rfl rfl rfl rfl rfl rfl (fun ht H locs q9 ce hP hD hS hq hv hcl => ?_) (fun ht H locs hP hD hS => ?_)
    · replace hf := zif_f hf ht
      cases hf
      exact hX _ _ _ _ _ _ _ ht hP hD hS hq hv hcl
    · replace hf := zif_t hf ht
      clear hle
      refine lv_goto (tgt := 49) hx hb dX6_readSamples_44 (by decide) ?_
      exact wX6_readSamples_49 C hN hK hA hT hst hE hX hr_3 hf hP hD hS (lv_sub hl [1, 2, 3, 4, 5, 6, 0] rfl)
set_option maxHeartbeats 4000000 in
set_option maxRecDepth 100000 in
theorem wX6_readSamples_3 {p : Program} {l : Launch} {e : Env} {s : State} {m : MethodId} {args : Array Value} {below : List Frame} {meth : Method} {c : Code} {D : va_G} {A : Nat → Prop} {Q : State → Prop} {cI : ClassId} {h_t h_s h_s_file h_s_file_bytes h_p h_p_pixels : Nat} {t_inDigits : Int32} {t_greatest : Int32} {s_file_size : Int32} {s_file_bytes : Nat → Int32} {p_wide : Int32} {p_high : Int32} {tg0 : Nat} {zs_place : Int32} {zp_pixels : Nat → Int32} (C : CallFix p m c cX6_readSamples 8 s args wsX6_readSamples RX6) (hN : zN s) (hK : va_K D vwCl [(cI, .int)] s) (hA : ∀ q, s.heap.size ≤ q → A q) (hT : zTh A s) (hst : l.stackTraces = false) (hE : zTEv tg0 p l e (rmX6_readSamples tg0) s m args below meth c cX6_readSamples D A Q (zwX6 cI h_t t_inDigits t_greatest ++ zwX7 cI h_s h_s_file h_s_file_bytes zs_place s_file_size s_file_bytes ++ zwX5 cI h_p h_p_pixels p_wide p_high zp_pixels)) (hX : zTX tg0 p l e (rmX6_readSamples tg0) s m args below meth c D A Q (zwX6 cI h_t t_inDigits t_greatest ++ zwX7 cI h_s h_s_file h_s_file_bytes zs_place s_file_size s_file_bytes ++ zwX5 cI h_p h_p_pixels p_wide p_high zp_pixels)) (n : Nat) : ∀ {s_place : Int32} {p_pixels : Nat → Int32} {l2 : Int32} {l4 : Int32} {H : Heap} {locs : List Loc} {ls : Array Slot}, fX6_readSamples_3 n t_inDigits t_greatest s_place s_file_size s_file_bytes p_wide p_high p_pixels l2 l4 = some (tg0, zs_place, zp_pixels) → va_P D vwCl (zwX6 cI h_t t_inDigits t_greatest ++ zwX7 cI h_s h_s_file h_s_file_bytes s_place s_file_size s_file_bytes ++ zwX5 cI h_p h_p_pixels p_wide p_high p_pixels) H → va_D A (zwX6 cI h_t t_inDigits t_greatest ++ zwX7 cI h_s h_s_file h_s_file_bytes s_place s_file_size s_file_bytes ++ zwX5 cI h_p h_p_pixels p_wide p_high p_pixels) → va_S A s.heap H locs → lv_has ls 8 [(0, .ref h_t), (1, .ref h_s), (2, .int l2), (3, .ref h_p), (4, .int l4)] → W p l e (rmX6_readSamples tg0) s m args below meth c H locs 0 0 Q (F0 m 3 ls []) := by
  obtain ⟨hx, hb, hml, hown, hts⟩ := id C
  induction n with
  | zero =>
    intro s_place p_pixels l2 l4 H locs ls hf
    cases hf
  | succ n hr_3 =>
    intro s_place p_pixels l2 l4 H locs ls hf hP hD hS hl
    rw [fX6_readSamples_3_s] at hf
    refine lv_iload hx hb dX6_readSamples_3 (lv_at hl 4 rfl) ?_
    refine lv_aload_n hx hb dX6_readSamples_5 rfl (lv_at hl 3 rfl) ?_
    obtain ⟨r1, hc2, hf⟩ := zb1_in hf
    refine zc_i (va_runV (As := []) (rest := [.int l4]) C (mX5_count l D cI H.size h_p h_p_pixels p_wide p_high p_pixels r1 hc2) (qX6_readSamples_X5_count_106 hts) ⟨zP_blind, va_recv hK hP (ci := 4) (q0 := 4) rfl rfl, zpre hK hN hP hD [4, 5] rfl rfl⟩ rfl rfl hl.1 rfl (lv_room (Nat.le_of_ble_eq_true rfl)) dX6_readSamples_6 ⟨Nat.zero_le _, Nat.zero_le _⟩) hP hD hS hA [4, 5] [0, 1, 2, 3] [0, 1, 2, 3, 4, 5] (ws' := zwX6 cI h_t t_inDigits t_greatest ++ zwX7 cI h_s h_s_file h_s_file_bytes s_place s_file_size s_file_bytes ++ zwX5 cI h_p h_p_pixels p_wide p_high p_pixels) rfl rfl rfl rfl rfl rfl (fun H locs hP hD hS => ?_)
    refine lv_icmp_ge (tgt := 73) hx hb dX6_readSamples_9 (by decide) (fun c3 => ?_) (fun c3 => ?_)
    · replace hf := zif_t hf c3
      cases hf
      exact hE rfl _ _ _ _ dX6_readSamples_73 hP hD hS
    · replace hf := zif_f hf c3
      refine lv_aload_n hx hb dX6_readSamples_12 rfl (lv_at hl 0 rfl) ?_
      refine lv_aload_n hx hb dX6_readSamples_13 rfl (lv_at hl 1 rfl) ?_
      obtain ⟨tg4, r5, u6, hc7, hf⟩ := zb3_in hf
      have hle := zT_le hf
      refine zcx_i (vx_runV (As := [.ref h_s]) (rest := []) C (mX6_sample l hst D cI H.size h_t h_s h_s_file h_s_file_bytes t_inDigits t_greatest s_place s_file_size s_file_bytes tg4 r5 u6 hc7) (qX6_readSamples_X6_sample_109 hts) ⟨zPT_blind, va_recv hK hP (ci := 5) (q0 := 0) rfl rfl, zpreT hK hN hT hA hS hP hD [0, 1, 2, 3] rfl rfl⟩ rfl rfl hl.1 rfl (lv_room (Nat.le_of_ble_eq_true rfl)) dX6_readSamples_14 hle) hP hD hS hA [0, 1, 2, 3] [4, 5] [2, 3, 4, 5, 0, 1] (ws' := zwX6 cI h_t t_inDigits t_greatest ++ zwX7 cI h_s h_s_file h_s_file_bytes u6 s_file_size s_file_bytes ++ zwX5 cI h_p h_p_pixels p_wide p_high p_pixels) rfl rfl rfl rfl rfl rfl (fun ht H locs q9 ce hP hD hS hq hv hcl => ?_) (fun ht H locs hP hD hS => ?_)
      · replace hf := zif_f hf ht
        cases hf
        exact hX _ _ _ _ _ _ _ ht hP hD hS hq hv hcl
      · replace hf := zif_t hf ht
        clear hle
        refine lv_istore (lv' := [(5, .int r5), (0, .ref h_t), (1, .ref h_s), (2, .int l2), (3, .ref h_p), (4, .int l4)]) hx hb dX6_readSamples_17 hl (by decide) rfl (fun ls hl => ?_)
        refine lv_iload_n hx hb dX6_readSamples_19 rfl (lv_at hl 3 rfl) ?_
        refine lv_if_eq (tgt := 31) hx hb dX6_readSamples_20 (by decide) (fun c8 => ?_) (fun c8 => ?_)
        · replace hf := zif_t hf c8
          refine lv_iload hx hb dX6_readSamples_31 (lv_at hl 0 rfl) ?_
          exact wX6_readSamples_33 C hN hK hA hT hst hE hX hr_3 hf hP hD hS (lv_sub hl [1, 2, 3, 4, 5, 0] rfl)
        · replace hf := zif_f hf c8
          refine lv_aload_n hx hb dX6_readSamples_23 rfl (lv_at hl 1 rfl) ?_
          refine lv_aload_n hx hb dX6_readSamples_24 rfl (lv_at hl 2 rfl) ?_
          obtain ⟨tg9, r10, u11, hc12, hf⟩ := zb3_in hf
          have hle := zT_le hf
          refine zcx_i (vx_runV (As := [.ref h_s]) (rest := []) C (mX6_sample l hst D cI H.size h_t h_s h_s_file h_s_file_bytes t_inDigits t_greatest u6 s_file_size s_file_bytes tg9 r10 u11 hc12) (qX6_readSamples_X6_sample_109 hts) ⟨zPT_blind, va_recv hK hP (ci := 5) (q0 := 0) rfl rfl, zpreT hK hN hT hA hS hP hD [0, 1, 2, 3] rfl rfl⟩ rfl rfl hl.1 rfl (lv_room (Nat.le_of_ble_eq_true rfl)) dX6_readSamples_25 hle) hP hD hS hA [0, 1, 2, 3] [4, 5] [2, 3, 4, 5, 0, 1] (ws' := zwX6 cI h_t t_inDigits t_greatest ++ zwX7 cI h_s h_s_file h_s_file_bytes u11 s_file_size s_file_bytes ++ zwX5 cI h_p h_p_pixels p_wide p_high p_pixels) rfl rfl rfl rfl rfl rfl (fun ht H locs q9 ce hP hD hS hq hv hcl => ?_) (fun ht H locs hP hD hS => ?_)
          · replace hf := zif_f hf ht
            cases hf
            exact hX _ _ _ _ _ _ _ ht hP hD hS hq hv hcl
          · replace hf := zif_t hf ht
            clear hle
            refine lv_goto (tgt := 33) hx hb dX6_readSamples_28 (by decide) ?_
            exact wX6_readSamples_33 C hN hK hA hT hst hE hX hr_3 hf hP hD hS (lv_sub hl [1, 2, 3, 4, 5, 0] rfl)
set_option maxHeartbeats 4000000 in
set_option maxRecDepth 100000 in
theorem wX6_readSamples_0 {p : Program} {l : Launch} {e : Env} {s : State} {m : MethodId} {args : Array Value} {below : List Frame} {meth : Method} {c : Code} {D : va_G} {A : Nat → Prop} {Q : State → Prop} {cI : ClassId} {h_t h_s h_s_file h_s_file_bytes h_p h_p_pixels : Nat} {t_inDigits : Int32} {t_greatest : Int32} {s_file_size : Int32} {s_file_bytes : Nat → Int32} {p_wide : Int32} {p_high : Int32} {tg0 : Nat} {zs_place : Int32} {zp_pixels : Nat → Int32} (C : CallFix p m c cX6_readSamples 8 s args wsX6_readSamples RX6) (hN : zN s) (hK : va_K D vwCl [(cI, .int)] s) (hA : ∀ q, s.heap.size ≤ q → A q) (hT : zTh A s) (hst : l.stackTraces = false) (hE : zTEv tg0 p l e (rmX6_readSamples tg0) s m args below meth c cX6_readSamples D A Q (zwX6 cI h_t t_inDigits t_greatest ++ zwX7 cI h_s h_s_file h_s_file_bytes zs_place s_file_size s_file_bytes ++ zwX5 cI h_p h_p_pixels p_wide p_high zp_pixels)) (hX : zTX tg0 p l e (rmX6_readSamples tg0) s m args below meth c D A Q (zwX6 cI h_t t_inDigits t_greatest ++ zwX7 cI h_s h_s_file h_s_file_bytes zs_place s_file_size s_file_bytes ++ zwX5 cI h_p h_p_pixels p_wide p_high zp_pixels)) {s_place : Int32} {p_pixels : Nat → Int32} {v1 : Int32} {H : Heap} {locs : List Loc} {ls : Array Slot} : fX6_readSamples t_inDigits t_greatest s_place s_file_size s_file_bytes p_wide p_high p_pixels v1 = some (tg0, zs_place, zp_pixels) → va_P D vwCl (zwX6 cI h_t t_inDigits t_greatest ++ zwX7 cI h_s h_s_file h_s_file_bytes s_place s_file_size s_file_bytes ++ zwX5 cI h_p h_p_pixels p_wide p_high p_pixels) H → va_D A (zwX6 cI h_t t_inDigits t_greatest ++ zwX7 cI h_s h_s_file h_s_file_bytes s_place s_file_size s_file_bytes ++ zwX5 cI h_p h_p_pixels p_wide p_high p_pixels) → va_S A s.heap H locs → lv_has ls 8 [(0, .ref h_t), (1, .ref h_s), (2, .int v1), (3, .ref h_p)] → W p l e (rmX6_readSamples tg0) s m args below meth c H locs 0 0 Q (F0 m 0 ls []) := by
  intro hf hP hD hS hl
  obtain ⟨hx, hb, hml, hown, hts⟩ := id C
  unfold fX6_readSamples at hf
  refine lv_iconst (v := 0) hx hb dX6_readSamples_0 (by decide) ?_
  refine lv_istore (lv' := [(4, .int 0), (0, .ref h_t), (1, .ref h_s), (2, .int v1), (3, .ref h_p)]) hx hb dX6_readSamples_1 hl (by decide) rfl (fun ls hl => ?_)
  exact wX6_readSamples_3 C hN hK hA hT hst hE hX 1000 hf hP hD hS (lv_sub hl [1, 2, 3, 4, 0] rfl)
set_option maxHeartbeats 4000000 in
set_option maxRecDepth 100000 in
theorem mX6_readSamples (l : Launch) (hst : l.stackTraces = false) (D : va_G) (cI : ClassId) (sz : Nat) (h_t h_s h_s_file h_s_file_bytes h_p h_p_pixels : Nat) (t_inDigits : Int32) (t_greatest : Int32) (s_place : Int32) (s_file_size : Int32) (s_file_bytes : Nat → Int32) (p_wide : Int32) (p_high : Int32) (p_pixels : Nat → Int32) (v1 : Int32) (tg0 : Nat) (zs_place : Int32) (zp_pixels : Nat → Int32) (hf : fX6_readSamples t_inDigits t_greatest s_place s_file_size s_file_bytes p_wide p_high p_pixels v1 = some (tg0, zs_place, zp_pixels)) : vx_Met l yX6_readSamples wsX6_readSamples (rmX6_readSamples tg0) (va_Pc [.ref h_t, .ref h_s, .int v1, .ref h_p] (zPT D [(cI, .int)] (zwX6 cI h_t t_inDigits t_greatest ++ zwX7 cI h_s h_s_file h_s_file_bytes s_place s_file_size s_file_bytes ++ zwX5 cI h_p h_p_pixels p_wide p_high p_pixels) sz)) (zQTv D (zwX6 cI h_t t_inDigits t_greatest ++ zwX7 cI h_s h_s_file h_s_file_bytes s_place s_file_size s_file_bytes ++ zwX5 cI h_p h_p_pixels p_wide p_high p_pixels) sz tg0 (zwX6 cI h_t t_inDigits t_greatest ++ zwX7 cI h_s h_s_file h_s_file_bytes zs_place s_file_size s_file_bytes ++ zwX5 cI h_p h_p_pixels p_wide p_high zp_pixels)) (zXT D (zwX6 cI h_t t_inDigits t_greatest ++ zwX7 cI h_s h_s_file h_s_file_bytes s_place s_file_size s_file_bytes ++ zwX5 cI h_p h_p_pixels p_wide p_high p_pixels) sz tg0 (zwX6 cI h_t t_inDigits t_greatest ++ zwX7 cI h_s h_s_file h_s_file_bytes zs_place s_file_size s_file_bytes ++ zwX5 cI h_p h_p_pixels p_wide p_high zp_pixels)) (zc tg0) (zs tg0) (va_A (zwX6 cI h_t t_inDigits t_greatest ++ zwX7 cI h_s h_s_file h_s_file_bytes s_place s_file_size s_file_bytes ++ zwX5 cI h_p h_p_pixels p_wide p_high p_pixels) sz) := by
  refine vx_ofW (cc := cX6_readSamples) (maxL := 8) (ret := none) (by decide) rfl ?_
  intro p e s m args below meth c s₁ B hml htab hv
  obtain ⟨rfl, ⟨hsz, hP, hK, hD0, hN⟩, hT⟩ := hv
  subst hsz
  have C : CallFix p m c cX6_readSamples 8 s [.ref h_t, .ref h_s, .int v1, .ref h_p].toArray wsX6_readSamples RX6 := ⟨B.exec, B.bytes, hml, findClass_of_methodNamed B.named, atoms_spec (ws := wsX6_readSamples) B.pre⟩
  have hl := lv_entry ([.ref h_t, .ref h_s, .int v1, .ref h_p]) (n := 8) (Nat.le_of_ble_eq_true rfl)
  rw [lg_entry_eq]
  exact wX6_readSamples_0 (A := va_A (zwX6 cI h_t t_inDigits t_greatest ++ zwX7 cI h_s h_s_file h_s_file_bytes s_place s_file_size s_file_bytes ++ zwX5 cI h_p h_p_pixels p_wide p_high p_pixels) s.heap.size) C hN hK (fun q h => Or.inr h) hT hst (fun h0 H locs pc ls d hP hD hS => zendT_v C.1 C.2.1 B.returns B.notSynchronized h0 d hP hD hS) (fun H locs pc ls rest q9 ce h0 hP hD hS hq hv hcl => zoutT htab B.notSynchronized h0 hP hD hS hq hv hcl) hf hP hD0.self va_S.rf hl
def rmX6_read (tg : Nat) : Room := { frames := 11, cells := zc tg, slots := zs tg, locals := 200 }
theorem kX6_read_70 {args : Array Value} {s : State} (h : ∀ w ∈ wsX6_read, w.before args s = true) : (Cond.fieldLink RX6 70 "FourPictureFiles$SampleFormat" "inDigits" "Z").before args s = true := h _ (by decide +kernel)
theorem kX6_read_81 {args : Array Value} {s : State} (h : ∀ w ∈ wsX6_read, w.before args s = true) : (Cond.fieldLink RX6 81 "FourPictureFiles$SampleFormat" "greatest" "I").before args s = true := h _ (by decide +kernel)
theorem iX6_read_X6 : ∀ w ∈ u_ws RX6 TX6 2, w ∈ wsX6_read := by decide +kernel
theorem qX6_read_X5_begin_91 {args : Array Value} {s : State} {tg0 : Nat} (hts : ∀ w ∈ wsX6_read, w.before args s = true) : CallW (rmX6_read tg0) s args RX6 RX5 91 yX5_begin cX5_begin 3 none wsX5_begin rmX5_begin 0 0 2 := cwV 2 hts gX6_read_X5_begin rfl rfl rfl (by decide +kernel) ⟨Nat.le_of_ble_eq_true rfl, Nat.le_of_ble_eq_true rfl⟩
theorem qX6_read_X6_isSpace_88 {args : Array Value} {s : State} {tg0 : Nat} (hts : ∀ w ∈ wsX6_read, w.before args s = true) : CallB (rmX6_read tg0) s args RX6 88 yX6_isSpace cX6_isSpace 1 (some .boolean) wsX6_isSpace rmX6_isSpace 0 0 1 ∧ (Cond.static yX6_isSpace).before args s = true := va_cwS 1 hts gX6_read_X6_isSpace rfl rfl rfl (by decide +kernel) ⟨Nat.le_of_ble_eq_true rfl, Nat.le_of_ble_eq_true rfl⟩
theorem qX6_read_X6_number_74 {args : Array Value} {s : State} {tg0 : Nat} {tg : Nat} (hts : ∀ w ∈ wsX6_read, w.before args s = true) : CallB (rmX6_read tg0) s args RX6 74 yX6_number cX6_number 5 (some .int) wsX6_number (rmX6_number tg) (zc tg) (zs tg) 1 ∧ (Cond.static yX6_number).before args s = true := va_cwS 1 hts gX6_read_X6_number rfl rfl rfl (by decide +kernel) ⟨Nat.le_of_ble_eq_true rfl, Nat.le_of_ble_eq_true rfl⟩
theorem qX6_read_X6_passBlanks_99 {args : Array Value} {s : State} {tg0 : Nat} {tg : Nat} (hts : ∀ w ∈ wsX6_read, w.before args s = true) : CallB (rmX6_read tg0) s args RX6 99 yX6_passBlanks cX6_passBlanks 5 (some .boolean) wsX6_passBlanks (rmX6_passBlanks tg) (zc tg) (zs tg) 1 ∧ (Cond.static yX6_passBlanks).before args s = true := va_cwS 1 hts gX6_read_X6_passBlanks rfl rfl rfl (by decide +kernel) ⟨Nat.le_of_ble_eq_true rfl, Nat.le_of_ble_eq_true rfl⟩
theorem qX6_read_X6_readSamples_95 {args : Array Value} {s : State} {tg0 : Nat} {tg : Nat} (hts : ∀ w ∈ wsX6_read, w.before args s = true) : CallW (rmX6_read tg0) s args RX6 RX6 95 yX6_readSamples cX6_readSamples 8 none wsX6_readSamples (rmX6_readSamples tg) (zc tg) (zs tg) 3 := cwV 3 hts gX6_read_X6_readSamples rfl rfl rfl (by decide +kernel) ⟨Nat.le_of_ble_eq_true rfl, Nat.le_of_ble_eq_true rfl⟩
theorem qX6_read_X7_isAtEnd_103 {args : Array Value} {s : State} {tg0 : Nat} (hts : ∀ w ∈ wsX6_read, w.before args s = true) : CallW (rmX6_read tg0) s args RX6 RX7 103 yX7_isAtEnd cX7_isAtEnd 1 (some .boolean) wsX7_isAtEnd rmX7_isAtEnd 0 0 0 := cwV 0 hts gX6_read_X7_isAtEnd rfl rfl rfl (by decide +kernel) ⟨Nat.le_of_ble_eq_true rfl, Nat.le_of_ble_eq_true rfl⟩
theorem qX6_read_X7_need_84 {args : Array Value} {s : State} {tg0 : Nat} {tg : Nat} (hts : ∀ w ∈ wsX6_read, w.before args s = true) : CallW (rmX6_read tg0) s args RX6 RX7 84 yX7_need cX7_need 2 none wsX7_need (rmX7_need tg) (zc tg) (zs tg) 1 := cwV 1 hts gX6_read_X7_need rfl rfl rfl (by decide +kernel) ⟨Nat.le_of_ble_eq_true rfl, Nat.le_of_ble_eq_true rfl⟩
theorem qX6_read_X7_needSide_78 {args : Array Value} {s : State} {tg0 : Nat} {tg : Nat} (hts : ∀ w ∈ wsX6_read, w.before args s = true) : CallW (rmX6_read tg0) s args RX6 RX7 78 yX7_needSide cX7_needSide 2 (some .int) wsX7_needSide (rmX7_needSide tg) (zc tg) (zs tg) 1 := cwV 1 hts gX6_read_X7_needSide rfl rfl rfl (by decide +kernel) ⟨Nat.le_of_ble_eq_true rfl, Nat.le_of_ble_eq_true rfl⟩
theorem qX6_read_X7_next_66 {args : Array Value} {s : State} {tg0 : Nat} {tg : Nat} (hts : ∀ w ∈ wsX6_read, w.before args s = true) : CallW (rmX6_read tg0) s args RX6 RX7 66 yX7_next cX7_next 2 (some .int) wsX7_next (rmX7_next tg) (zc tg) (zs tg) 0 := cwV 0 hts gX6_read_X7_next rfl rfl rfl (by decide +kernel) ⟨Nat.le_of_ble_eq_true rfl, Nat.le_of_ble_eq_true rfl⟩
theorem qX6_read_X7_pass_61 {args : Array Value} {s : State} {tg0 : Nat} {tg : Nat} (hts : ∀ w ∈ wsX6_read, w.before args s = true) : CallW (rmX6_read tg0) s args RX6 RX7 61 yX7_pass cX7_pass 3 none wsX7_pass (rmX7_pass tg) (zc tg) (zs tg) 1 := cwV 1 hts gX6_read_X7_pass rfl rfl rfl (by decide +kernel) ⟨Nat.le_of_ble_eq_true rfl, Nat.le_of_ble_eq_true rfl⟩
set_option maxHeartbeats 4000000 in
set_option maxRecDepth 100000 in
theorem wX6_read_147 {p : Program} {l : Launch} {e : Env} {s : State} {m : MethodId} {args : Array Value} {below : List Frame} {meth : Method} {c : Code} {D : va_G} {A : Nat → Prop} {Q : State → Prop} {cI : ClassId} {h_t h_s h_s_file h_s_file_bytes h_p h_p_pixels : Nat} {s_file_size : Int32} {s_file_bytes : Nat → Int32} {tg0 : Nat} {zt_inDigits : Int32} {zt_greatest : Int32} {zs_place : Int32} {zp_wide : Int32} {zp_high : Int32} {zp_pixels : Nat → Int32} (C : CallFix p m c cX6_read 6 s args wsX6_read RX6) (hN : zN s) (hK : va_K D vwCl [(cI, .int)] s) (hA : ∀ q, s.heap.size ≤ q → A q) (hT : zTh A s) (hst : l.stackTraces = false) (hE : zTEv tg0 p l e (rmX6_read tg0) s m args below meth c cX6_read D A Q (zwX6 cI h_t zt_inDigits zt_greatest ++ zwX7 cI h_s h_s_file h_s_file_bytes zs_place s_file_size s_file_bytes ++ zwX5 cI h_p h_p_pixels zp_wide zp_high zp_pixels)) (hX : zTX tg0 p l e (rmX6_read tg0) s m args below meth c D A Q (zwX6 cI h_t zt_inDigits zt_greatest ++ zwX7 cI h_s h_s_file h_s_file_bytes zs_place s_file_size s_file_bytes ++ zwX5 cI h_p h_p_pixels zp_wide zp_high zp_pixels)) {t_inDigits : Int32} {t_greatest : Int32} {s_place : Int32} {p_wide : Int32} {p_high : Int32} {p_pixels : Nat → Int32} {l3 : Int32} {l4 : Int32} {l5 : Int32} {H : Heap} {locs : List Loc} {ls : Array Slot} : fX6_read_147 t_inDigits t_greatest s_place s_file_size p_wide p_high p_pixels = some (tg0, zt_inDigits, zt_greatest, zs_place, zp_wide, zp_high, zp_pixels) → va_P D vwCl (zwX6 cI h_t t_inDigits t_greatest ++ zwX7 cI h_s h_s_file h_s_file_bytes s_place s_file_size s_file_bytes ++ zwX5 cI h_p h_p_pixels p_wide p_high p_pixels) H → va_D A (zwX6 cI h_t t_inDigits t_greatest ++ zwX7 cI h_s h_s_file h_s_file_bytes s_place s_file_size s_file_bytes ++ zwX5 cI h_p h_p_pixels p_wide p_high p_pixels) → va_S A s.heap H locs → lv_has ls 6 [(0, .ref h_t), (1, .ref h_s), (2, .ref h_p), (3, .int l3), (4, .int l4), (5, .int l5)] → W p l e (rmX6_read tg0) s m args below meth c H locs 0 0 Q (F0 m 147 ls []) := by
  intro hf hP hD hS hl
  obtain ⟨hx, hb, hml, hown, hts⟩ := id C
  unfold fX6_read_147 at hf
  refine lv_aload_n hx hb dX6_read_147 rfl (lv_at hl 1 rfl) ?_
  refine lv_aload_n hx hb dX6_read_148 rfl (lv_at hl 1 rfl) ?_
  obtain ⟨r1, hc2, hf⟩ := zb1_in hf
  refine zc_i (va_runV (As := []) (rest := [.ref h_s]) C (mX7_isAtEnd l D cI H.size h_s h_s_file h_s_file_bytes s_place s_file_size s_file_bytes r1 hc2) (qX6_read_X7_isAtEnd_103 hts) ⟨zP_blind, va_recv hK hP (ci := 6) (q0 := 1) rfl rfl, zpre hK hN hP hD [1, 2, 3] rfl rfl⟩ rfl rfl hl.1 rfl (lv_room (Nat.le_of_ble_eq_true rfl)) dX6_read_149 ⟨Nat.zero_le _, Nat.zero_le _⟩) hP hD hS hA [1, 2, 3] [0, 4, 5] [0, 3, 4, 5, 1, 2] (ws' := zwX6 cI h_t t_inDigits t_greatest ++ zwX7 cI h_s h_s_file h_s_file_bytes s_place s_file_size s_file_bytes ++ zwX5 cI h_p h_p_pixels p_wide p_high p_pixels) rfl rfl rfl rfl rfl rfl (fun H locs hP hD hS => ?_)
  obtain ⟨tg3, hc4, hf⟩ := zb1_in hf
  have hle := zT_le hf
  refine zcx_v (vx_runV (As := [.int r1]) (rest := []) C (mX7_need l hst D cI H.size h_s h_s_file h_s_file_bytes s_place s_file_size s_file_bytes r1 tg3 hc4) (qX6_read_X7_need_84 hts) ⟨zPT_blind, va_recv hK hP (ci := 6) (q0 := 1) rfl rfl, zpreT hK hN hT hA hS hP hD [1, 2, 3] rfl rfl⟩ rfl rfl hl.1 rfl (lv_room (Nat.le_of_ble_eq_true rfl)) dX6_read_152 hle) hP hD hS hA [1, 2, 3] [0, 4, 5] [0, 3, 4, 5, 1, 2] (ws' := zwX6 cI h_t t_inDigits t_greatest ++ zwX7 cI h_s h_s_file h_s_file_bytes s_place s_file_size s_file_bytes ++ zwX5 cI h_p h_p_pixels p_wide p_high p_pixels) rfl rfl rfl rfl rfl rfl (fun ht H locs q9 ce hP hD hS hq hv hcl => ?_) (fun ht H locs hP hD hS => ?_)
  · replace hf := zif_f hf ht
    cases hf
    exact hX _ _ _ _ _ _ _ ht hP hD hS hq hv hcl
  · replace hf := zif_t hf ht
    clear hle
    cases hf
    exact hE rfl _ _ _ _ dX6_read_155 hP hD hS
set_option maxHeartbeats 4000000 in
set_option maxRecDepth 100000 in
theorem wX6_read_131 {p : Program} {l : Launch} {e : Env} {s : State} {m : MethodId} {args : Array Value} {below : List Frame} {meth : Method} {c : Code} {D : va_G} {A : Nat → Prop} {Q : State → Prop} {cI : ClassId} {h_t h_s h_s_file h_s_file_bytes h_p h_p_pixels : Nat} {s_file_size : Int32} {s_file_bytes : Nat → Int32} {tg0 : Nat} {zt_inDigits : Int32} {zt_greatest : Int32} {zs_place : Int32} {zp_wide : Int32} {zp_high : Int32} {zp_pixels : Nat → Int32} (C : CallFix p m c cX6_read 6 s args wsX6_read RX6) (hN : zN s) (hK : va_K D vwCl [(cI, .int)] s) (hA : ∀ q, s.heap.size ≤ q → A q) (hT : zTh A s) (hst : l.stackTraces = false) (hE : zTEv tg0 p l e (rmX6_read tg0) s m args below meth c cX6_read D A Q (zwX6 cI h_t zt_inDigits zt_greatest ++ zwX7 cI h_s h_s_file h_s_file_bytes zs_place s_file_size s_file_bytes ++ zwX5 cI h_p h_p_pixels zp_wide zp_high zp_pixels)) (hX : zTX tg0 p l e (rmX6_read tg0) s m args below meth c D A Q (zwX6 cI h_t zt_inDigits zt_greatest ++ zwX7 cI h_s h_s_file h_s_file_bytes zs_place s_file_size s_file_bytes ++ zwX5 cI h_p h_p_pixels zp_wide zp_high zp_pixels)) {t_inDigits : Int32} {t_greatest : Int32} {s_place : Int32} {p_wide : Int32} {p_high : Int32} {p_pixels : Nat → Int32} {l3 : Int32} {l4 : Int32} {l5 : Int32} {k2 : Int32} {H : Heap} {locs : List Loc} {ls : Array Slot} : fX6_read_131 t_inDigits t_greatest s_place s_file_size s_file_bytes p_wide p_high p_pixels k2 = some (tg0, zt_inDigits, zt_greatest, zs_place, zp_wide, zp_high, zp_pixels) → va_P D vwCl (zwX6 cI h_t t_inDigits t_greatest ++ zwX7 cI h_s h_s_file h_s_file_bytes s_place s_file_size s_file_bytes ++ zwX5 cI h_p h_p_pixels p_wide p_high p_pixels) H → va_D A (zwX6 cI h_t t_inDigits t_greatest ++ zwX7 cI h_s h_s_file h_s_file_bytes s_place s_file_size s_file_bytes ++ zwX5 cI h_p h_p_pixels p_wide p_high p_pixels) → va_S A s.heap H locs → lv_has ls 6 [(0, .ref h_t), (1, .ref h_s), (2, .ref h_p), (3, .int l3), (4, .int l4), (5, .int l5)] → W p l e (rmX6_read tg0) s m args below meth c H locs 0 0 Q (F0 m 131 ls [.int k2, .ref h_s, .ref h_t]) := by
  intro hf hP hD hS hl
  obtain ⟨hx, hb, hml, hown, hts⟩ := id C
  unfold fX6_read_131 at hf
  refine lv_aload_n hx hb dX6_read_131 rfl (lv_at hl 2 rfl) ?_
  obtain ⟨tg1, u2, u3, hc4, hf⟩ := zb3_in hf
  have hle := zT_le hf
  refine zcx_v (vx_runV (As := [.ref h_s, .int k2, .ref h_p]) (rest := []) C (mX6_readSamples l hst D cI H.size h_t h_s h_s_file h_s_file_bytes h_p h_p_pixels t_inDigits t_greatest s_place s_file_size s_file_bytes p_wide p_high p_pixels k2 tg1 u2 u3 hc4) (qX6_read_X6_readSamples_95 hts) ⟨zPT_blind, va_recv hK hP (ci := 5) (q0 := 0) rfl rfl, zpreT hK hN hT hA hS hP hD [0, 1, 2, 3, 4, 5] rfl rfl⟩ rfl rfl hl.1 rfl (lv_room (Nat.le_of_ble_eq_true rfl)) dX6_read_132 hle) hP hD hS hA [0, 1, 2, 3, 4, 5] [] [0, 1, 2, 3, 4, 5] (ws' := zwX6 cI h_t t_inDigits t_greatest ++ zwX7 cI h_s h_s_file h_s_file_bytes u2 s_file_size s_file_bytes ++ zwX5 cI h_p h_p_pixels p_wide p_high u3) rfl rfl rfl rfl rfl rfl (fun ht H locs q9 ce hP hD hS hq hv hcl => ?_) (fun ht H locs hP hD hS => ?_)
  · replace hf := zif_f hf ht
    cases hf
    exact hX _ _ _ _ _ _ _ ht hP hD hS hq hv hcl
  · replace hf := zif_t hf ht
    clear hle
    refine lv_aload_n hx hb dX6_read_135 rfl (lv_at hl 0 rfl) ?_
    refine va_get (D := D) (ci := 5) (v := .int t_inDigits) (C := RX6) (T := TX6) (N := 2) hx hb hts iX6_read_X6 hown hK hP 0 rfl rfl 0 (by decide) (kX6_read_70 hts) (fun _ h9 => h9) rfl dX6_read_136 ?_
    refine lv_if_eq (tgt := 147) hx hb dX6_read_139 (by decide) (fun c5 => ?_) (fun c5 => ?_)
    · replace hf := zif_t hf c5
      exact wX6_read_147 C hN hK hA hT hst hE hX hf hP hD hS (lv_sub hl [0, 1, 2, 3, 4, 5] rfl)
    · replace hf := zif_f hf c5
      refine lv_aload_n hx hb dX6_read_142 rfl (lv_at hl 1 rfl) ?_
      obtain ⟨tg6, r7, u8, hc9, hf⟩ := zb3_in hf
      have hle := zT_le hf
      refine zcx_i (vx_runS (As := [.ref h_s]) (rest := []) C (mX6_passBlanks l hst D cI H.size h_s h_s_file h_s_file_bytes u2 s_file_size s_file_bytes tg6 r7 u8 hc9) (qX6_read_X6_passBlanks_99 hts) ⟨zPT_blind, zpreT hK hN hT hA hS hP hD [1, 2, 3] rfl rfl⟩ rfl rfl hl.1 rfl (lv_room (Nat.le_of_ble_eq_true rfl)) dX6_read_143 hle) hP hD hS hA [1, 2, 3] [0, 4, 5] [0, 3, 4, 5, 1, 2] (ws' := zwX6 cI h_t t_inDigits t_greatest ++ zwX7 cI h_s h_s_file h_s_file_bytes u8 s_file_size s_file_bytes ++ zwX5 cI h_p h_p_pixels p_wide p_high u3) rfl rfl rfl rfl rfl rfl (fun ht H locs q9 ce hP hD hS hq hv hcl => ?_) (fun ht H locs hP hD hS => ?_)
      · replace hf := zif_f hf ht
        cases hf
        exact hX _ _ _ _ _ _ _ ht hP hD hS hq hv hcl
      · replace hf := zif_t hf ht
        clear hle
        refine lv_pop hx hb dX6_read_146 rfl ?_
        exact wX6_read_147 C hN hK hA hT hst hE hX hf hP hD hS (lv_sub hl [0, 1, 2, 3, 4, 5] rfl)
set_option maxHeartbeats 4000000 in
set_option maxRecDepth 100000 in
theorem wX6_read_126 {p : Program} {l : Launch} {e : Env} {s : State} {m : MethodId} {args : Array Value} {below : List Frame} {meth : Method} {c : Code} {D : va_G} {A : Nat → Prop} {Q : State → Prop} {cI : ClassId} {h_t h_s h_s_file h_s_file_bytes h_p h_p_pixels : Nat} {s_file_size : Int32} {s_file_bytes : Nat → Int32} {tg0 : Nat} {zt_inDigits : Int32} {zt_greatest : Int32} {zs_place : Int32} {zp_wide : Int32} {zp_high : Int32} {zp_pixels : Nat → Int32} (C : CallFix p m c cX6_read 6 s args wsX6_read RX6) (hN : zN s) (hK : va_K D vwCl [(cI, .int)] s) (hA : ∀ q, s.heap.size ≤ q → A q) (hT : zTh A s) (hst : l.stackTraces = false) (hE : zTEv tg0 p l e (rmX6_read tg0) s m args below meth c cX6_read D A Q (zwX6 cI h_t zt_inDigits zt_greatest ++ zwX7 cI h_s h_s_file h_s_file_bytes zs_place s_file_size s_file_bytes ++ zwX5 cI h_p h_p_pixels zp_wide zp_high zp_pixels)) (hX : zTX tg0 p l e (rmX6_read tg0) s m args below meth c D A Q (zwX6 cI h_t zt_inDigits zt_greatest ++ zwX7 cI h_s h_s_file h_s_file_bytes zs_place s_file_size s_file_bytes ++ zwX5 cI h_p h_p_pixels zp_wide zp_high zp_pixels)) {t_inDigits : Int32} {t_greatest : Int32} {s_place : Int32} {p_wide : Int32} {p_high : Int32} {p_pixels : Nat → Int32} {l3 : Int32} {l4 : Int32} {l5 : Int32} {H : Heap} {locs : List Loc} {ls : Array Slot} : fX6_read_126 t_inDigits t_greatest s_place s_file_size s_file_bytes p_wide p_high p_pixels = some (tg0, zt_inDigits, zt_greatest, zs_place, zp_wide, zp_high, zp_pixels) → va_P D vwCl (zwX6 cI h_t t_inDigits t_greatest ++ zwX7 cI h_s h_s_file h_s_file_bytes s_place s_file_size s_file_bytes ++ zwX5 cI h_p h_p_pixels p_wide p_high p_pixels) H → va_D A (zwX6 cI h_t t_inDigits t_greatest ++ zwX7 cI h_s h_s_file h_s_file_bytes s_place s_file_size s_file_bytes ++ zwX5 cI h_p h_p_pixels p_wide p_high p_pixels) → va_S A s.heap H locs → lv_has ls 6 [(0, .ref h_t), (1, .ref h_s), (2, .ref h_p), (3, .int l3), (4, .int l4), (5, .int l5)] → W p l e (rmX6_read tg0) s m args below meth c H locs 0 0 Q (F0 m 126 ls [.ref h_s, .ref h_t]) := by
  intro hf hP hD hS hl
  obtain ⟨hx, hb, hml, hown, hts⟩ := id C
  unfold fX6_read_126 at hf
  refine lv_iconst (v := 1) hx hb dX6_read_126 (by decide) ?_
  refine lv_goto (tgt := 131) hx hb dX6_read_127 (by decide) ?_
  exact wX6_read_131 C hN hK hA hT hst hE hX hf hP hD hS (lv_sub hl [0, 1, 2, 3, 4, 5] rfl)
set_option maxHeartbeats 4000000 in
set_option maxRecDepth 100000 in
theorem wX6_read_104 {p : Program} {l : Launch} {e : Env} {s : State} {m : MethodId} {args : Array Value} {below : List Frame} {meth : Method} {c : Code} {D : va_G} {A : Nat → Prop} {Q : State → Prop} {cI : ClassId} {h_t h_s h_s_file h_s_file_bytes h_p h_p_pixels : Nat} {s_file_size : Int32} {s_file_bytes : Nat → Int32} {tg0 : Nat} {zt_inDigits : Int32} {zt_greatest : Int32} {zs_place : Int32} {zp_wide : Int32} {zp_high : Int32} {zp_pixels : Nat → Int32} (C : CallFix p m c cX6_read 6 s args wsX6_read RX6) (hN : zN s) (hK : va_K D vwCl [(cI, .int)] s) (hA : ∀ q, s.heap.size ≤ q → A q) (hT : zTh A s) (hst : l.stackTraces = false) (hE : zTEv tg0 p l e (rmX6_read tg0) s m args below meth c cX6_read D A Q (zwX6 cI h_t zt_inDigits zt_greatest ++ zwX7 cI h_s h_s_file h_s_file_bytes zs_place s_file_size s_file_bytes ++ zwX5 cI h_p h_p_pixels zp_wide zp_high zp_pixels)) (hX : zTX tg0 p l e (rmX6_read tg0) s m args below meth c D A Q (zwX6 cI h_t zt_inDigits zt_greatest ++ zwX7 cI h_s h_s_file h_s_file_bytes zs_place s_file_size s_file_bytes ++ zwX5 cI h_p h_p_pixels zp_wide zp_high zp_pixels)) {t_inDigits : Int32} {t_greatest : Int32} {s_place : Int32} {p_wide : Int32} {p_high : Int32} {p_pixels : Nat → Int32} {l3 : Int32} {l4 : Int32} {l5 : Int32} {H : Heap} {locs : List Loc} {ls : Array Slot} : fX6_read_104 t_inDigits t_greatest s_place s_file_size s_file_bytes p_pixels l3 l4 l5 = some (tg0, zt_inDigits, zt_greatest, zs_place, zp_wide, zp_high, zp_pixels) → va_P D vwCl (zwX6 cI h_t t_inDigits t_greatest ++ zwX7 cI h_s h_s_file h_s_file_bytes s_place s_file_size s_file_bytes ++ zwX5 cI h_p h_p_pixels p_wide p_high p_pixels) H → va_D A (zwX6 cI h_t t_inDigits t_greatest ++ zwX7 cI h_s h_s_file h_s_file_bytes s_place s_file_size s_file_bytes ++ zwX5 cI h_p h_p_pixels p_wide p_high p_pixels) → va_S A s.heap H locs → lv_has ls 6 [(0, .ref h_t), (1, .ref h_s), (2, .ref h_p), (3, .int l3), (4, .int l4), (5, .int l5)] → W p l e (rmX6_read tg0) s m args below meth c H locs 0 0 Q (F0 m 104 ls []) := by
  intro hf hP hD hS hl
  obtain ⟨hx, hb, hml, hown, hts⟩ := id C
  unfold fX6_read_104 at hf
  refine lv_aload_n hx hb dX6_read_104 rfl (lv_at hl 2 rfl) ?_
  refine lv_iload hx hb dX6_read_105 (lv_at hl 4 rfl) ?_
  refine lv_iload hx hb dX6_read_107 (lv_at hl 5 rfl) ?_
  obtain ⟨u1, u2, u3, hc4, hf⟩ := zb3_in hf
  refine zc_v (va_runV (As := [.int l4, .int l5]) (rest := []) C (mX5_begin l D cI H.size h_p h_p_pixels p_wide p_high p_pixels l4 l5 u1 u2 u3 hc4) (qX6_read_X5_begin_91 hts) ⟨zP_blind, va_recv hK hP (ci := 4) (q0 := 4) rfl rfl, zpre hK hN hP hD [4, 5] rfl rfl⟩ rfl rfl hl.1 rfl (lv_room (Nat.le_of_ble_eq_true rfl)) dX6_read_109 ⟨Nat.zero_le _, Nat.zero_le _⟩) hP hD hS hA [4, 5] [0, 1, 2, 3] [0, 1, 2, 3, 4, 5] (ws' := zwX6 cI h_t t_inDigits t_greatest ++ zwX7 cI h_s h_s_file h_s_file_bytes s_place s_file_size s_file_bytes ++ zwX5 cI h_p h_p_pixels u1 u2 u3) rfl rfl rfl rfl rfl rfl (fun H locs hP hD hS => ?_)
  refine lv_aload_n hx hb dX6_read_112 rfl (lv_at hl 0 rfl) ?_
  refine lv_aload_n hx hb dX6_read_113 rfl (lv_at hl 1 rfl) ?_
  refine lv_iload_n hx hb dX6_read_114 rfl (lv_at hl 3 rfl) ?_
  refine lv_bipush (v := 51) hx hb dX6_read_115 (by decide) ?_
  refine lv_icmp_eq (tgt := 126) hx hb dX6_read_117 (by decide) (fun c5 => ?_) (fun c5 => ?_)
  · replace hf := zif_t hf c5
    exact wX6_read_126 C hN hK hA hT hst hE hX hf hP hD hS (lv_sub hl [0, 1, 2, 3, 4, 5] rfl)
  · replace hf := zif_f hf c5
    refine lv_iload_n hx hb dX6_read_120 rfl (lv_at hl 3 rfl) ?_
    refine lv_bipush (v := 54) hx hb dX6_read_121 (by decide) ?_
    refine lv_icmp_ne (tgt := 130) hx hb dX6_read_123 (by decide) (fun c6 => ?_) (fun c6 => ?_)
    · replace hf := zif_f hf c6
      refine lv_iconst (v := 0) hx hb dX6_read_130 (by decide) ?_
      exact wX6_read_131 C hN hK hA hT hst hE hX hf hP hD hS (lv_sub hl [0, 1, 2, 3, 4, 5] rfl)
    · replace hf := zif_t hf c6
      exact wX6_read_126 C hN hK hA hT hst hE hX hf hP hD hS (lv_sub hl [0, 1, 2, 3, 4, 5] rfl)
set_option maxHeartbeats 4000000 in
set_option maxRecDepth 100000 in
theorem wX6_read_83 {p : Program} {l : Launch} {e : Env} {s : State} {m : MethodId} {args : Array Value} {below : List Frame} {meth : Method} {c : Code} {D : va_G} {A : Nat → Prop} {Q : State → Prop} {cI : ClassId} {h_t h_s h_s_file h_s_file_bytes h_p h_p_pixels : Nat} {s_file_size : Int32} {s_file_bytes : Nat → Int32} {tg0 : Nat} {zt_inDigits : Int32} {zt_greatest : Int32} {zs_place : Int32} {zp_wide : Int32} {zp_high : Int32} {zp_pixels : Nat → Int32} (C : CallFix p m c cX6_read 6 s args wsX6_read RX6) (hN : zN s) (hK : va_K D vwCl [(cI, .int)] s) (hA : ∀ q, s.heap.size ≤ q → A q) (hT : zTh A s) (hst : l.stackTraces = false) (hE : zTEv tg0 p l e (rmX6_read tg0) s m args below meth c cX6_read D A Q (zwX6 cI h_t zt_inDigits zt_greatest ++ zwX7 cI h_s h_s_file h_s_file_bytes zs_place s_file_size s_file_bytes ++ zwX5 cI h_p h_p_pixels zp_wide zp_high zp_pixels)) (hX : zTX tg0 p l e (rmX6_read tg0) s m args below meth c D A Q (zwX6 cI h_t zt_inDigits zt_greatest ++ zwX7 cI h_s h_s_file h_s_file_bytes zs_place s_file_size s_file_bytes ++ zwX5 cI h_p h_p_pixels zp_wide zp_high zp_pixels)) {t_inDigits : Int32} {t_greatest : Int32} {s_place : Int32} {p_wide : Int32} {p_high : Int32} {p_pixels : Nat → Int32} {l3 : Int32} {l4 : Int32} {l5 : Int32} {k1 : Int32} {H : Heap} {locs : List Loc} {ls : Array Slot} : fX6_read_83 t_inDigits t_greatest s_place s_file_size s_file_bytes p_wide p_high p_pixels l3 l4 l5 k1 = some (tg0, zt_inDigits, zt_greatest, zs_place, zp_wide, zp_high, zp_pixels) → va_P D vwCl (zwX6 cI h_t t_inDigits t_greatest ++ zwX7 cI h_s h_s_file h_s_file_bytes s_place s_file_size s_file_bytes ++ zwX5 cI h_p h_p_pixels p_wide p_high p_pixels) H → va_D A (zwX6 cI h_t t_inDigits t_greatest ++ zwX7 cI h_s h_s_file h_s_file_bytes s_place s_file_size s_file_bytes ++ zwX5 cI h_p h_p_pixels p_wide p_high p_pixels) → va_S A s.heap H locs → lv_has ls 6 [(0, .ref h_t), (1, .ref h_s), (2, .ref h_p), (3, .int l3), (4, .int l4), (5, .int l5)] → W p l e (rmX6_read tg0) s m args below meth c H locs 0 0 Q (F0 m 83 ls [.int k1, .ref h_s]) := by
  intro hf hP hD hS hl
  obtain ⟨hx, hb, hml, hown, hts⟩ := id C
  unfold fX6_read_83 at hf
  obtain ⟨tg1, hc2, hf⟩ := zb1_in hf
  have hle := zT_le hf
  refine zcx_v (vx_runV (As := [.int k1]) (rest := []) C (mX7_need l hst D cI H.size h_s h_s_file h_s_file_bytes s_place s_file_size s_file_bytes k1 tg1 hc2) (qX6_read_X7_need_84 hts) ⟨zPT_blind, va_recv hK hP (ci := 6) (q0 := 1) rfl rfl, zpreT hK hN hT hA hS hP hD [1, 2, 3] rfl rfl⟩ rfl rfl hl.1 rfl (lv_room (Nat.le_of_ble_eq_true rfl)) dX6_read_83 hle) hP hD hS hA [1, 2, 3] [0, 4, 5] [0, 3, 4, 5, 1, 2] (ws' := zwX6 cI h_t t_inDigits t_greatest ++ zwX7 cI h_s h_s_file h_s_file_bytes s_place s_file_size s_file_bytes ++ zwX5 cI h_p h_p_pixels p_wide p_high p_pixels) rfl rfl rfl rfl rfl rfl (fun ht H locs q9 ce hP hD hS hq hv hcl => ?_) (fun ht H locs hP hD hS => ?_)
  · replace hf := zif_f hf ht
    cases hf
    exact hX _ _ _ _ _ _ _ ht hP hD hS hq hv hcl
  · replace hf := zif_t hf ht
    clear hle
    refine lv_aload_n hx hb dX6_read_86 rfl (lv_at hl 0 rfl) ?_
    refine va_get (D := D) (ci := 5) (v := .int t_inDigits) (C := RX6) (T := TX6) (N := 2) hx hb hts iX6_read_X6 hown hK hP 0 rfl rfl 0 (by decide) (kX6_read_70 hts) (fun _ h9 => h9) rfl dX6_read_87 ?_
    refine lv_if_ne (tgt := 104) hx hb dX6_read_90 (by decide) (fun c3 => ?_) (fun c3 => ?_)
    · replace hf := zif_f hf c3
      exact wX6_read_104 C hN hK hA hT hst hE hX hf hP hD hS (lv_sub hl [0, 1, 2, 3, 4, 5] rfl)
    · replace hf := zif_t hf c3
      refine lv_aload_n hx hb dX6_read_93 rfl (lv_at hl 1 rfl) ?_
      refine lv_aload_n hx hb dX6_read_94 rfl (lv_at hl 1 rfl) ?_
      obtain ⟨tg4, r5, u6, hc7, hf⟩ := zb3_in hf
      have hle := zT_le hf
      refine zcx_i (vx_runV (As := []) (rest := [.ref h_s]) C (mX7_next l hst D cI H.size h_s h_s_file h_s_file_bytes s_place s_file_size s_file_bytes tg4 r5 u6 hc7) (qX6_read_X7_next_66 hts) ⟨zPT_blind, va_recv hK hP (ci := 6) (q0 := 1) rfl rfl, zpreT hK hN hT hA hS hP hD [1, 2, 3] rfl rfl⟩ rfl rfl hl.1 rfl (lv_room (Nat.le_of_ble_eq_true rfl)) dX6_read_95 hle) hP hD hS hA [1, 2, 3] [0, 4, 5] [0, 3, 4, 5, 1, 2] (ws' := zwX6 cI h_t t_inDigits t_greatest ++ zwX7 cI h_s h_s_file h_s_file_bytes u6 s_file_size s_file_bytes ++ zwX5 cI h_p h_p_pixels p_wide p_high p_pixels) rfl rfl rfl rfl rfl rfl (fun ht H locs q9 ce hP hD hS hq hv hcl => ?_) (fun ht H locs hP hD hS => ?_)
      · replace hf := zif_f hf ht
        cases hf
        exact hX _ _ _ _ _ _ _ ht hP hD hS hq hv hcl
      · replace hf := zif_t hf ht
        clear hle
        obtain ⟨r8, hc9, hf⟩ := zb1_in hf
        refine zc_i (va_runS (As := [.int r5]) (rest := [.ref h_s]) C (mX6_isSpace l D cI H.size r5 r8 hc9) (qX6_read_X6_isSpace_88 hts) ⟨zP_blind, zpre hK hN hP hD [] rfl rfl⟩ rfl rfl hl.1 rfl (lv_room (Nat.le_of_ble_eq_true rfl)) dX6_read_98 ⟨Nat.zero_le _, Nat.zero_le _⟩) hP hD hS hA [] [0, 1, 2, 3, 4, 5] [0, 1, 2, 3, 4, 5] (ws' := zwX6 cI h_t t_inDigits t_greatest ++ zwX7 cI h_s h_s_file h_s_file_bytes u6 s_file_size s_file_bytes ++ zwX5 cI h_p h_p_pixels p_wide p_high p_pixels) rfl rfl rfl rfl rfl rfl (fun H locs hP hD hS => ?_)
        obtain ⟨tg10, hc11, hf⟩ := zb1_in hf
        have hle := zT_le hf
        refine zcx_v (vx_runV (As := [.int r8]) (rest := []) C (mX7_need l hst D cI H.size h_s h_s_file h_s_file_bytes u6 s_file_size s_file_bytes r8 tg10 hc11) (qX6_read_X7_need_84 hts) ⟨zPT_blind, va_recv hK hP (ci := 6) (q0 := 1) rfl rfl, zpreT hK hN hT hA hS hP hD [1, 2, 3] rfl rfl⟩ rfl rfl hl.1 rfl (lv_room (Nat.le_of_ble_eq_true rfl)) dX6_read_101 hle) hP hD hS hA [1, 2, 3] [0, 4, 5] [0, 3, 4, 5, 1, 2] (ws' := zwX6 cI h_t t_inDigits t_greatest ++ zwX7 cI h_s h_s_file h_s_file_bytes u6 s_file_size s_file_bytes ++ zwX5 cI h_p h_p_pixels p_wide p_high p_pixels) rfl rfl rfl rfl rfl rfl (fun ht H locs q9 ce hP hD hS hq hv hcl => ?_) (fun ht H locs hP hD hS => ?_)
        · replace hf := zif_f hf ht
          cases hf
          exact hX _ _ _ _ _ _ _ ht hP hD hS hq hv hcl
        · replace hf := zif_t hf ht
          clear hle
          exact wX6_read_104 C hN hK hA hT hst hE hX hf hP hD hS (lv_sub hl [0, 1, 2, 3, 4, 5] rfl)
set_option maxHeartbeats 4000000 in
set_option maxRecDepth 100000 in
theorem wX6_read_82 {p : Program} {l : Launch} {e : Env} {s : State} {m : MethodId} {args : Array Value} {below : List Frame} {meth : Method} {c : Code} {D : va_G} {A : Nat → Prop} {Q : State → Prop} {cI : ClassId} {h_t h_s h_s_file h_s_file_bytes h_p h_p_pixels : Nat} {s_file_size : Int32} {s_file_bytes : Nat → Int32} {tg0 : Nat} {zt_inDigits : Int32} {zt_greatest : Int32} {zs_place : Int32} {zp_wide : Int32} {zp_high : Int32} {zp_pixels : Nat → Int32} (C : CallFix p m c cX6_read 6 s args wsX6_read RX6) (hN : zN s) (hK : va_K D vwCl [(cI, .int)] s) (hA : ∀ q, s.heap.size ≤ q → A q) (hT : zTh A s) (hst : l.stackTraces = false) (hE : zTEv tg0 p l e (rmX6_read tg0) s m args below meth c cX6_read D A Q (zwX6 cI h_t zt_inDigits zt_greatest ++ zwX7 cI h_s h_s_file h_s_file_bytes zs_place s_file_size s_file_bytes ++ zwX5 cI h_p h_p_pixels zp_wide zp_high zp_pixels)) (hX : zTX tg0 p l e (rmX6_read tg0) s m args below meth c D A Q (zwX6 cI h_t zt_inDigits zt_greatest ++ zwX7 cI h_s h_s_file h_s_file_bytes zs_place s_file_size s_file_bytes ++ zwX5 cI h_p h_p_pixels zp_wide zp_high zp_pixels)) {t_inDigits : Int32} {t_greatest : Int32} {s_place : Int32} {p_wide : Int32} {p_high : Int32} {p_pixels : Nat → Int32} {l3 : Int32} {l4 : Int32} {l5 : Int32} {H : Heap} {locs : List Loc} {ls : Array Slot} : fX6_read_82 t_inDigits t_greatest s_place s_file_size s_file_bytes p_wide p_high p_pixels l3 l4 l5 = some (tg0, zt_inDigits, zt_greatest, zs_place, zp_wide, zp_high, zp_pixels) → va_P D vwCl (zwX6 cI h_t t_inDigits t_greatest ++ zwX7 cI h_s h_s_file h_s_file_bytes s_place s_file_size s_file_bytes ++ zwX5 cI h_p h_p_pixels p_wide p_high p_pixels) H → va_D A (zwX6 cI h_t t_inDigits t_greatest ++ zwX7 cI h_s h_s_file h_s_file_bytes s_place s_file_size s_file_bytes ++ zwX5 cI h_p h_p_pixels p_wide p_high p_pixels) → va_S A s.heap H locs → lv_has ls 6 [(0, .ref h_t), (1, .ref h_s), (2, .ref h_p), (3, .int l3), (4, .int l4), (5, .int l5)] → W p l e (rmX6_read tg0) s m args below meth c H locs 0 0 Q (F0 m 82 ls [.ref h_s]) := by
  intro hf hP hD hS hl
  obtain ⟨hx, hb, hml, hown, hts⟩ := id C
  unfold fX6_read_82 at hf
  refine lv_iconst (v := 0) hx hb dX6_read_82 (by decide) ?_
  exact wX6_read_83 C hN hK hA hT hst hE hX hf hP hD hS (lv_sub hl [0, 1, 2, 3, 4, 5] rfl)
set_option maxHeartbeats 4000000 in
set_option maxRecDepth 100000 in
theorem wX6_read_28 {p : Program} {l : Launch} {e : Env} {s : State} {m : MethodId} {args : Array Value} {below : List Frame} {meth : Method} {c : Code} {D : va_G} {A : Nat → Prop} {Q : State → Prop} {cI : ClassId} {h_t h_s h_s_file h_s_file_bytes h_p h_p_pixels : Nat} {s_file_size : Int32} {s_file_bytes : Nat → Int32} {tg0 : Nat} {zt_inDigits : Int32} {zt_greatest : Int32} {zs_place : Int32} {zp_wide : Int32} {zp_high : Int32} {zp_pixels : Nat → Int32} (C : CallFix p m c cX6_read 6 s args wsX6_read RX6) (hN : zN s) (hK : va_K D vwCl [(cI, .int)] s) (hA : ∀ q, s.heap.size ≤ q → A q) (hT : zTh A s) (hst : l.stackTraces = false) (hE : zTEv tg0 p l e (rmX6_read tg0) s m args below meth c cX6_read D A Q (zwX6 cI h_t zt_inDigits zt_greatest ++ zwX7 cI h_s h_s_file h_s_file_bytes zs_place s_file_size s_file_bytes ++ zwX5 cI h_p h_p_pixels zp_wide zp_high zp_pixels)) (hX : zTX tg0 p l e (rmX6_read tg0) s m args below meth c D A Q (zwX6 cI h_t zt_inDigits zt_greatest ++ zwX7 cI h_s h_s_file h_s_file_bytes zs_place s_file_size s_file_bytes ++ zwX5 cI h_p h_p_pixels zp_wide zp_high zp_pixels)) {t_inDigits : Int32} {t_greatest : Int32} {s_place : Int32} {p_wide : Int32} {p_high : Int32} {p_pixels : Nat → Int32} {l3 : Int32} {k1 : Int32} {H : Heap} {locs : List Loc} {ls : Array Slot} : fX6_read_28 t_greatest s_place s_file_size s_file_bytes p_wide p_high p_pixels l3 k1 = some (tg0, zt_inDigits, zt_greatest, zs_place, zp_wide, zp_high, zp_pixels) → va_P D vwCl (zwX6 cI h_t t_inDigits t_greatest ++ zwX7 cI h_s h_s_file h_s_file_bytes s_place s_file_size s_file_bytes ++ zwX5 cI h_p h_p_pixels p_wide p_high p_pixels) H → va_D A (zwX6 cI h_t t_inDigits t_greatest ++ zwX7 cI h_s h_s_file h_s_file_bytes s_place s_file_size s_file_bytes ++ zwX5 cI h_p h_p_pixels p_wide p_high p_pixels) → va_S A s.heap H locs → lv_has ls 6 [(0, .ref h_t), (1, .ref h_s), (2, .ref h_p), (3, .int l3)] → W p l e (rmX6_read tg0) s m args below meth c H locs 0 0 Q (F0 m 28 ls [.int k1, .ref h_t]) := by
  intro hf hP hD hS hl
  obtain ⟨hx, hb, hml, hown, hts⟩ := id C
  unfold fX6_read_28 at hf
  obtain ⟨hg1, hf⟩ := zbo_in hf
  refine va_put (D := D) (ci := 5) (v := .int k1) (ty := .boolean) (C := RX6) (T := TX6) (N := 2) hx hb hts iX6_read_X6 tyX6 tyX6_ok nmX6 hown hK hP hD hS 0 rfl rfl 0 (by decide) (kX6_read_70 hts) (fun _ h9 => h9) rfl (by decide +kernel) hg1.1 hg1.2 (Nat.le_of_ble_eq_true rfl) dX6_read_28 (fun H locs hP hD hS => ?_)
  replace hP : va_P D vwCl (zwX6 cI h_t k1 t_greatest ++ zwX7 cI h_s h_s_file h_s_file_bytes s_place s_file_size s_file_bytes ++ zwX5 cI h_p h_p_pixels p_wide p_high p_pixels) H := hP
  replace hD : va_D A (zwX6 cI h_t k1 t_greatest ++ zwX7 cI h_s h_s_file h_s_file_bytes s_place s_file_size s_file_bytes ++ zwX5 cI h_p h_p_pixels p_wide p_high p_pixels) := hD
  refine lv_aload_n hx hb dX6_read_31 rfl (lv_at hl 1 rfl) ?_
  refine lv_aload_n hx hb dX6_read_32 rfl (lv_at hl 1 rfl) ?_
  obtain ⟨tg2, r3, u4, hc5, hf⟩ := zb3_in hf
  have hle := zT_le hf
  refine zcx_i (vx_runS (As := [.ref h_s]) (rest := [.ref h_s]) C (mX6_number l hst D cI H.size h_s h_s_file h_s_file_bytes s_place s_file_size s_file_bytes tg2 r3 u4 hc5) (qX6_read_X6_number_74 hts) ⟨zPT_blind, zpreT hK hN hT hA hS hP hD [1, 2, 3] rfl rfl⟩ rfl rfl hl.1 rfl (lv_room (Nat.le_of_ble_eq_true rfl)) dX6_read_33 hle) hP hD hS hA [1, 2, 3] [0, 4, 5] [0, 3, 4, 5, 1, 2] (ws' := zwX6 cI h_t k1 t_greatest ++ zwX7 cI h_s h_s_file h_s_file_bytes u4 s_file_size s_file_bytes ++ zwX5 cI h_p h_p_pixels p_wide p_high p_pixels) rfl rfl rfl rfl rfl rfl (fun ht H locs q9 ce hP hD hS hq hv hcl => ?_) (fun ht H locs hP hD hS => ?_)
  · replace hf := zif_f hf ht
    cases hf
    exact hX _ _ _ _ _ _ _ ht hP hD hS hq hv hcl
  · replace hf := zif_t hf ht
    clear hle
    obtain ⟨tg6, r7, hc8, hf⟩ := zb2_in hf
    have hle := zT_le hf
    refine zcx_i (vx_runV (As := [.int r3]) (rest := []) C (mX7_needSide l hst D cI H.size h_s h_s_file h_s_file_bytes u4 s_file_size s_file_bytes r3 tg6 r7 hc8) (qX6_read_X7_needSide_78 hts) ⟨zPT_blind, va_recv hK hP (ci := 6) (q0 := 1) rfl rfl, zpreT hK hN hT hA hS hP hD [1, 2, 3] rfl rfl⟩ rfl rfl hl.1 rfl (lv_room (Nat.le_of_ble_eq_true rfl)) dX6_read_36 hle) hP hD hS hA [1, 2, 3] [0, 4, 5] [0, 3, 4, 5, 1, 2] (ws' := zwX6 cI h_t k1 t_greatest ++ zwX7 cI h_s h_s_file h_s_file_bytes u4 s_file_size s_file_bytes ++ zwX5 cI h_p h_p_pixels p_wide p_high p_pixels) rfl rfl rfl rfl rfl rfl (fun ht H locs q9 ce hP hD hS hq hv hcl => ?_) (fun ht H locs hP hD hS => ?_)
    · replace hf := zif_f hf ht
      cases hf
      exact hX _ _ _ _ _ _ _ ht hP hD hS hq hv hcl
    · replace hf := zif_t hf ht
      clear hle
      refine lv_istore (lv' := [(4, .int r7), (0, .ref h_t), (1, .ref h_s), (2, .ref h_p), (3, .int l3)]) hx hb dX6_read_39 hl (by decide) rfl (fun ls hl => ?_)
      refine lv_aload_n hx hb dX6_read_41 rfl (lv_at hl 2 rfl) ?_
      refine lv_aload_n hx hb dX6_read_42 rfl (lv_at hl 2 rfl) ?_
      obtain ⟨tg9, r10, u11, hc12, hf⟩ := zb3_in hf
      have hle := zT_le hf
      refine zcx_i (vx_runS (As := [.ref h_s]) (rest := [.ref h_s]) C (mX6_number l hst D cI H.size h_s h_s_file h_s_file_bytes u4 s_file_size s_file_bytes tg9 r10 u11 hc12) (qX6_read_X6_number_74 hts) ⟨zPT_blind, zpreT hK hN hT hA hS hP hD [1, 2, 3] rfl rfl⟩ rfl rfl hl.1 rfl (lv_room (Nat.le_of_ble_eq_true rfl)) dX6_read_43 hle) hP hD hS hA [1, 2, 3] [0, 4, 5] [0, 3, 4, 5, 1, 2] (ws' := zwX6 cI h_t k1 t_greatest ++ zwX7 cI h_s h_s_file h_s_file_bytes u11 s_file_size s_file_bytes ++ zwX5 cI h_p h_p_pixels p_wide p_high p_pixels) rfl rfl rfl rfl rfl rfl (fun ht H locs q9 ce hP hD hS hq hv hcl => ?_) (fun ht H locs hP hD hS => ?_)
      · replace hf := zif_f hf ht
        cases hf
        exact hX _ _ _ _ _ _ _ ht hP hD hS hq hv hcl
      · replace hf := zif_t hf ht
        clear hle
        obtain ⟨tg13, r14, hc15, hf⟩ := zb2_in hf
        have hle := zT_le hf
        refine zcx_i (vx_runV (As := [.int r10]) (rest := []) C (mX7_needSide l hst D cI H.size h_s h_s_file h_s_file_bytes u11 s_file_size s_file_bytes r10 tg13 r14 hc15) (qX6_read_X7_needSide_78 hts) ⟨zPT_blind, va_recv hK hP (ci := 6) (q0 := 1) rfl rfl, zpreT hK hN hT hA hS hP hD [1, 2, 3] rfl rfl⟩ rfl rfl hl.1 rfl (lv_room (Nat.le_of_ble_eq_true rfl)) dX6_read_46 hle) hP hD hS hA [1, 2, 3] [0, 4, 5] [0, 3, 4, 5, 1, 2] (ws' := zwX6 cI h_t k1 t_greatest ++ zwX7 cI h_s h_s_file h_s_file_bytes u11 s_file_size s_file_bytes ++ zwX5 cI h_p h_p_pixels p_wide p_high p_pixels) rfl rfl rfl rfl rfl rfl (fun ht H locs q9 ce hP hD hS hq hv hcl => ?_) (fun ht H locs hP hD hS => ?_)
        · replace hf := zif_f hf ht
          cases hf
          exact hX _ _ _ _ _ _ _ ht hP hD hS hq hv hcl
        · replace hf := zif_t hf ht
          clear hle
          refine lv_istore (lv' := [(5, .int r14), (4, .int r7), (0, .ref h_t), (1, .ref h_s), (2, .ref h_p), (3, .int l3)]) hx hb dX6_read_49 hl (by decide) rfl (fun ls hl => ?_)
          refine lv_aload_n hx hb dX6_read_51 rfl (lv_at hl 2 rfl) ?_
          refine lv_aload_n hx hb dX6_read_52 rfl (lv_at hl 3 rfl) ?_
          obtain ⟨tg16, r17, u18, hc19, hf⟩ := zb3_in hf
          have hle := zT_le hf
          refine zcx_i (vx_runS (As := [.ref h_s]) (rest := [.ref h_t]) C (mX6_number l hst D cI H.size h_s h_s_file h_s_file_bytes u11 s_file_size s_file_bytes tg16 r17 u18 hc19) (qX6_read_X6_number_74 hts) ⟨zPT_blind, zpreT hK hN hT hA hS hP hD [1, 2, 3] rfl rfl⟩ rfl rfl hl.1 rfl (lv_room (Nat.le_of_ble_eq_true rfl)) dX6_read_53 hle) hP hD hS hA [1, 2, 3] [0, 4, 5] [0, 3, 4, 5, 1, 2] (ws' := zwX6 cI h_t k1 t_greatest ++ zwX7 cI h_s h_s_file h_s_file_bytes u18 s_file_size s_file_bytes ++ zwX5 cI h_p h_p_pixels p_wide p_high p_pixels) rfl rfl rfl rfl rfl rfl (fun ht H locs q9 ce hP hD hS hq hv hcl => ?_) (fun ht H locs hP hD hS => ?_)
          · replace hf := zif_f hf ht
            cases hf
            exact hX _ _ _ _ _ _ _ ht hP hD hS hq hv hcl
          · replace hf := zif_t hf ht
            clear hle
            refine va_put (D := D) (ci := 5) (v := .int r17) (ty := .int) (C := RX6) (T := TX6) (N := 2) hx hb hts iX6_read_X6 tyX6 tyX6_ok nmX6 hown hK hP hD hS 0 rfl rfl 1 (by decide) (kX6_read_81 hts) (fun _ h9 => h9) rfl (by decide +kernel) rfl rfl (Nat.le_of_ble_eq_true rfl) dX6_read_56 (fun H locs hP hD hS => ?_)
            replace hP : va_P D vwCl (zwX6 cI h_t k1 r17 ++ zwX7 cI h_s h_s_file h_s_file_bytes u18 s_file_size s_file_bytes ++ zwX5 cI h_p h_p_pixels p_wide p_high p_pixels) H := hP
            replace hD : va_D A (zwX6 cI h_t k1 r17 ++ zwX7 cI h_s h_s_file h_s_file_bytes u18 s_file_size s_file_bytes ++ zwX5 cI h_p h_p_pixels p_wide p_high p_pixels) := hD
            refine lv_aload_n hx hb dX6_read_59 rfl (lv_at hl 3 rfl) ?_
            refine lv_aload_n hx hb dX6_read_60 rfl (lv_at hl 2 rfl) ?_
            refine va_get (D := D) (ci := 5) (v := .int r17) (C := RX6) (T := TX6) (N := 2) hx hb hts iX6_read_X6 hown hK hP 0 rfl rfl 1 (by decide) (kX6_read_81 hts) (fun _ h9 => h9) rfl dX6_read_61 ?_
            refine lv_iconst (v := 1) hx hb dX6_read_64 (by decide) ?_
            refine lv_icmp_lt (tgt := 82) hx hb dX6_read_65 (by decide) (fun c20 => ?_) (fun c20 => ?_)
            · replace hf := zif_t hf c20
              exact wX6_read_82 C hN hK hA hT hst hE hX hf hP hD hS (lv_sub hl [2, 3, 4, 5, 1, 0] rfl)
            · replace hf := zif_f hf c20
              refine lv_aload_n hx hb dX6_read_68 rfl (lv_at hl 2 rfl) ?_
              refine va_get (D := D) (ci := 5) (v := .int r17) (C := RX6) (T := TX6) (N := 2) hx hb hts iX6_read_X6 hown hK hP 0 rfl rfl 1 (by decide) (kX6_read_81 hts) (fun _ h9 => h9) rfl dX6_read_69 ?_
              refine lv_sipush (v := 255) hx hb dX6_read_72 (by decide) ?_
              refine lv_icmp_gt (tgt := 82) hx hb dX6_read_75 (by decide) (fun c21 => ?_) (fun c21 => ?_)
              · replace hf := zif_t hf c21
                exact wX6_read_82 C hN hK hA hT hst hE hX hf hP hD hS (lv_sub hl [2, 3, 4, 5, 1, 0] rfl)
              · replace hf := zif_f hf c21
                refine lv_iconst (v := 1) hx hb dX6_read_78 (by decide) ?_
                refine lv_goto (tgt := 83) hx hb dX6_read_79 (by decide) ?_
                exact wX6_read_83 C hN hK hA hT hst hE hX hf hP hD hS (lv_sub hl [2, 3, 4, 5, 1, 0] rfl)
set_option maxHeartbeats 4000000 in
set_option maxRecDepth 100000 in
theorem wX6_read_23 {p : Program} {l : Launch} {e : Env} {s : State} {m : MethodId} {args : Array Value} {below : List Frame} {meth : Method} {c : Code} {D : va_G} {A : Nat → Prop} {Q : State → Prop} {cI : ClassId} {h_t h_s h_s_file h_s_file_bytes h_p h_p_pixels : Nat} {s_file_size : Int32} {s_file_bytes : Nat → Int32} {tg0 : Nat} {zt_inDigits : Int32} {zt_greatest : Int32} {zs_place : Int32} {zp_wide : Int32} {zp_high : Int32} {zp_pixels : Nat → Int32} (C : CallFix p m c cX6_read 6 s args wsX6_read RX6) (hN : zN s) (hK : va_K D vwCl [(cI, .int)] s) (hA : ∀ q, s.heap.size ≤ q → A q) (hT : zTh A s) (hst : l.stackTraces = false) (hE : zTEv tg0 p l e (rmX6_read tg0) s m args below meth c cX6_read D A Q (zwX6 cI h_t zt_inDigits zt_greatest ++ zwX7 cI h_s h_s_file h_s_file_bytes zs_place s_file_size s_file_bytes ++ zwX5 cI h_p h_p_pixels zp_wide zp_high zp_pixels)) (hX : zTX tg0 p l e (rmX6_read tg0) s m args below meth c D A Q (zwX6 cI h_t zt_inDigits zt_greatest ++ zwX7 cI h_s h_s_file h_s_file_bytes zs_place s_file_size s_file_bytes ++ zwX5 cI h_p h_p_pixels zp_wide zp_high zp_pixels)) {t_inDigits : Int32} {t_greatest : Int32} {s_place : Int32} {p_wide : Int32} {p_high : Int32} {p_pixels : Nat → Int32} {l3 : Int32} {H : Heap} {locs : List Loc} {ls : Array Slot} : fX6_read_23 t_greatest s_place s_file_size s_file_bytes p_wide p_high p_pixels l3 = some (tg0, zt_inDigits, zt_greatest, zs_place, zp_wide, zp_high, zp_pixels) → va_P D vwCl (zwX6 cI h_t t_inDigits t_greatest ++ zwX7 cI h_s h_s_file h_s_file_bytes s_place s_file_size s_file_bytes ++ zwX5 cI h_p h_p_pixels p_wide p_high p_pixels) H → va_D A (zwX6 cI h_t t_inDigits t_greatest ++ zwX7 cI h_s h_s_file h_s_file_bytes s_place s_file_size s_file_bytes ++ zwX5 cI h_p h_p_pixels p_wide p_high p_pixels) → va_S A s.heap H locs → lv_has ls 6 [(0, .ref h_t), (1, .ref h_s), (2, .ref h_p), (3, .int l3)] → W p l e (rmX6_read tg0) s m args below meth c H locs 0 0 Q (F0 m 23 ls [.ref h_t]) := by
  intro hf hP hD hS hl
  obtain ⟨hx, hb, hml, hown, hts⟩ := id C
  unfold fX6_read_23 at hf
  refine lv_iconst (v := 1) hx hb dX6_read_23 (by decide) ?_
  refine lv_goto (tgt := 28) hx hb dX6_read_24 (by decide) ?_
  exact wX6_read_28 C hN hK hA hT hst hE hX hf hP hD hS (lv_sub hl [0, 1, 2, 3] rfl)
set_option maxHeartbeats 4000000 in
set_option maxRecDepth 100000 in
theorem wX6_read_0 {p : Program} {l : Launch} {e : Env} {s : State} {m : MethodId} {args : Array Value} {below : List Frame} {meth : Method} {c : Code} {D : va_G} {A : Nat → Prop} {Q : State → Prop} {cI : ClassId} {h_t h_s h_s_file h_s_file_bytes h_p h_p_pixels : Nat} {s_file_size : Int32} {s_file_bytes : Nat → Int32} {tg0 : Nat} {zt_inDigits : Int32} {zt_greatest : Int32} {zs_place : Int32} {zp_wide : Int32} {zp_high : Int32} {zp_pixels : Nat → Int32} (C : CallFix p m c cX6_read 6 s args wsX6_read RX6) (hN : zN s) (hK : va_K D vwCl [(cI, .int)] s) (hA : ∀ q, s.heap.size ≤ q → A q) (hT : zTh A s) (hst : l.stackTraces = false) (hE : zTEv tg0 p l e (rmX6_read tg0) s m args below meth c cX6_read D A Q (zwX6 cI h_t zt_inDigits zt_greatest ++ zwX7 cI h_s h_s_file h_s_file_bytes zs_place s_file_size s_file_bytes ++ zwX5 cI h_p h_p_pixels zp_wide zp_high zp_pixels)) (hX : zTX tg0 p l e (rmX6_read tg0) s m args below meth c D A Q (zwX6 cI h_t zt_inDigits zt_greatest ++ zwX7 cI h_s h_s_file h_s_file_bytes zs_place s_file_size s_file_bytes ++ zwX5 cI h_p h_p_pixels zp_wide zp_high zp_pixels)) {t_inDigits : Int32} {t_greatest : Int32} {s_place : Int32} {p_wide : Int32} {p_high : Int32} {p_pixels : Nat → Int32} {H : Heap} {locs : List Loc} {ls : Array Slot} : fX6_read t_inDigits t_greatest s_place s_file_size s_file_bytes p_wide p_high p_pixels = some (tg0, zt_inDigits, zt_greatest, zs_place, zp_wide, zp_high, zp_pixels) → va_P D vwCl (zwX6 cI h_t t_inDigits t_greatest ++ zwX7 cI h_s h_s_file h_s_file_bytes s_place s_file_size s_file_bytes ++ zwX5 cI h_p h_p_pixels p_wide p_high p_pixels) H → va_D A (zwX6 cI h_t t_inDigits t_greatest ++ zwX7 cI h_s h_s_file h_s_file_bytes s_place s_file_size s_file_bytes ++ zwX5 cI h_p h_p_pixels p_wide p_high p_pixels) → va_S A s.heap H locs → lv_has ls 6 [(0, .ref h_t), (1, .ref h_s), (2, .ref h_p)] → W p l e (rmX6_read tg0) s m args below meth c H locs 0 0 Q (F0 m 0 ls []) := by
  intro hf hP hD hS hl
  obtain ⟨hx, hb, hml, hown, hts⟩ := id C
  unfold fX6_read at hf
  refine lv_aload_n hx hb dX6_read_0 rfl (lv_at hl 1 rfl) ?_
  refine lv_iconst (v := 1) hx hb dX6_read_1 (by decide) ?_
  obtain ⟨tg1, u2, hc3, hf⟩ := zb2_in hf
  have hle := zT_le hf
  refine zcx_v (vx_runV (As := [.int 1]) (rest := []) C (mX7_pass l hst D cI H.size h_s h_s_file h_s_file_bytes s_place s_file_size s_file_bytes 1 tg1 u2 hc3) (qX6_read_X7_pass_61 hts) ⟨zPT_blind, va_recv hK hP (ci := 6) (q0 := 1) rfl rfl, zpreT hK hN hT hA hS hP hD [1, 2, 3] rfl rfl⟩ rfl rfl hl.1 rfl (lv_room (Nat.le_of_ble_eq_true rfl)) dX6_read_2 hle) hP hD hS hA [1, 2, 3] [0, 4, 5] [0, 3, 4, 5, 1, 2] (ws' := zwX6 cI h_t t_inDigits t_greatest ++ zwX7 cI h_s h_s_file h_s_file_bytes u2 s_file_size s_file_bytes ++ zwX5 cI h_p h_p_pixels p_wide p_high p_pixels) rfl rfl rfl rfl rfl rfl (fun ht H locs q9 ce hP hD hS hq hv hcl => ?_) (fun ht H locs hP hD hS => ?_)
  · replace hf := zif_f hf ht
    cases hf
    exact hX _ _ _ _ _ _ _ ht hP hD hS hq hv hcl
  · replace hf := zif_t hf ht
    clear hle
    refine lv_aload_n hx hb dX6_read_5 rfl (lv_at hl 1 rfl) ?_
    obtain ⟨tg4, r5, u6, hc7, hf⟩ := zb3_in hf
    have hle := zT_le hf
    refine zcx_i (vx_runV (As := []) (rest := []) C (mX7_next l hst D cI H.size h_s h_s_file h_s_file_bytes u2 s_file_size s_file_bytes tg4 r5 u6 hc7) (qX6_read_X7_next_66 hts) ⟨zPT_blind, va_recv hK hP (ci := 6) (q0 := 1) rfl rfl, zpreT hK hN hT hA hS hP hD [1, 2, 3] rfl rfl⟩ rfl rfl hl.1 rfl (lv_room (Nat.le_of_ble_eq_true rfl)) dX6_read_6 hle) hP hD hS hA [1, 2, 3] [0, 4, 5] [0, 3, 4, 5, 1, 2] (ws' := zwX6 cI h_t t_inDigits t_greatest ++ zwX7 cI h_s h_s_file h_s_file_bytes u6 s_file_size s_file_bytes ++ zwX5 cI h_p h_p_pixels p_wide p_high p_pixels) rfl rfl rfl rfl rfl rfl (fun ht H locs q9 ce hP hD hS hq hv hcl => ?_) (fun ht H locs hP hD hS => ?_)
    · replace hf := zif_f hf ht
      cases hf
      exact hX _ _ _ _ _ _ _ ht hP hD hS hq hv hcl
    · replace hf := zif_t hf ht
      clear hle
      refine lv_istore_n (lv' := [(3, .int r5), (0, .ref h_t), (1, .ref h_s), (2, .ref h_p)]) hx hb dX6_read_9 rfl hl (by decide) rfl (fun ls hl => ?_)
      refine lv_aload_n hx hb dX6_read_10 rfl (lv_at hl 1 rfl) ?_
      refine lv_iload_n hx hb dX6_read_11 rfl (lv_at hl 0 rfl) ?_
      refine lv_bipush (v := 50) hx hb dX6_read_12 (by decide) ?_
      refine lv_icmp_eq (tgt := 23) hx hb dX6_read_14 (by decide) (fun c8 => ?_) (fun c8 => ?_)
      · replace hf := zif_t hf c8
        exact wX6_read_23 C hN hK hA hT hst hE hX hf hP hD hS (lv_sub hl [1, 2, 3, 0] rfl)
      · replace hf := zif_f hf c8
        refine lv_iload_n hx hb dX6_read_17 rfl (lv_at hl 0 rfl) ?_
        refine lv_bipush (v := 51) hx hb dX6_read_18 (by decide) ?_
        refine lv_icmp_ne (tgt := 27) hx hb dX6_read_20 (by decide) (fun c9 => ?_) (fun c9 => ?_)
        · replace hf := zif_f hf c9
          refine lv_iconst (v := 0) hx hb dX6_read_27 (by decide) ?_
          exact wX6_read_28 C hN hK hA hT hst hE hX hf hP hD hS (lv_sub hl [1, 2, 3, 0] rfl)
        · replace hf := zif_t hf c9
          exact wX6_read_23 C hN hK hA hT hst hE hX hf hP hD hS (lv_sub hl [1, 2, 3, 0] rfl)
set_option maxHeartbeats 4000000 in
set_option maxRecDepth 100000 in
theorem mX6_read (l : Launch) (hst : l.stackTraces = false) (D : va_G) (cI : ClassId) (sz : Nat) (h_t h_s h_s_file h_s_file_bytes h_p h_p_pixels : Nat) (t_inDigits : Int32) (t_greatest : Int32) (s_place : Int32) (s_file_size : Int32) (s_file_bytes : Nat → Int32) (p_wide : Int32) (p_high : Int32) (p_pixels : Nat → Int32) (tg0 : Nat) (zt_inDigits : Int32) (zt_greatest : Int32) (zs_place : Int32) (zp_wide : Int32) (zp_high : Int32) (zp_pixels : Nat → Int32) (hf : fX6_read t_inDigits t_greatest s_place s_file_size s_file_bytes p_wide p_high p_pixels = some (tg0, zt_inDigits, zt_greatest, zs_place, zp_wide, zp_high, zp_pixels)) : vx_Met l yX6_read wsX6_read (rmX6_read tg0) (va_Pc [.ref h_t, .ref h_s, .ref h_p] (zPT D [(cI, .int)] (zwX6 cI h_t t_inDigits t_greatest ++ zwX7 cI h_s h_s_file h_s_file_bytes s_place s_file_size s_file_bytes ++ zwX5 cI h_p h_p_pixels p_wide p_high p_pixels) sz)) (zQTv D (zwX6 cI h_t t_inDigits t_greatest ++ zwX7 cI h_s h_s_file h_s_file_bytes s_place s_file_size s_file_bytes ++ zwX5 cI h_p h_p_pixels p_wide p_high p_pixels) sz tg0 (zwX6 cI h_t zt_inDigits zt_greatest ++ zwX7 cI h_s h_s_file h_s_file_bytes zs_place s_file_size s_file_bytes ++ zwX5 cI h_p h_p_pixels zp_wide zp_high zp_pixels)) (zXT D (zwX6 cI h_t t_inDigits t_greatest ++ zwX7 cI h_s h_s_file h_s_file_bytes s_place s_file_size s_file_bytes ++ zwX5 cI h_p h_p_pixels p_wide p_high p_pixels) sz tg0 (zwX6 cI h_t zt_inDigits zt_greatest ++ zwX7 cI h_s h_s_file h_s_file_bytes zs_place s_file_size s_file_bytes ++ zwX5 cI h_p h_p_pixels zp_wide zp_high zp_pixels)) (zc tg0) (zs tg0) (va_A (zwX6 cI h_t t_inDigits t_greatest ++ zwX7 cI h_s h_s_file h_s_file_bytes s_place s_file_size s_file_bytes ++ zwX5 cI h_p h_p_pixels p_wide p_high p_pixels) sz) := by
  refine vx_ofW (cc := cX6_read) (maxL := 6) (ret := none) (by decide) rfl ?_
  intro p e s m args below meth c s₁ B hml htab hv
  obtain ⟨rfl, ⟨hsz, hP, hK, hD0, hN⟩, hT⟩ := hv
  subst hsz
  have C : CallFix p m c cX6_read 6 s [.ref h_t, .ref h_s, .ref h_p].toArray wsX6_read RX6 := ⟨B.exec, B.bytes, hml, findClass_of_methodNamed B.named, atoms_spec (ws := wsX6_read) B.pre⟩
  have hl := lv_entry ([.ref h_t, .ref h_s, .ref h_p]) (n := 6) (Nat.le_of_ble_eq_true rfl)
  rw [lg_entry_eq]
  exact wX6_read_0 (A := va_A (zwX6 cI h_t t_inDigits t_greatest ++ zwX7 cI h_s h_s_file h_s_file_bytes s_place s_file_size s_file_bytes ++ zwX5 cI h_p h_p_pixels p_wide p_high p_pixels) s.heap.size) C hN hK (fun q h => Or.inr h) hT hst (fun h0 H locs pc ls d hP hD hS => zendT_v C.1 C.2.1 B.returns B.notSynchronized h0 d hP hD hS) (fun H locs pc ls rest q9 ce h0 hP hD hS hq hv hcl => zoutT htab B.notSynchronized h0 hP hD hS hq hv hcl) hf hP hD0.self va_S.rf hl
