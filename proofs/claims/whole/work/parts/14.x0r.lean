def fX0_colourOf_14 (t_colours : Nat → Int32) (l2 : Int32) (k1 : Int32) : Option (Nat × Int32) :=
  zb1 (fX7_need k1) fun tg1 =>
  if tg1 = 0 then
    zrd t_colours 64 l2 fun x3 =>
    some (0, x3)
  else
    some (tg1, 0)
def fX0_colourOf (t_known : Int32) (t_colours : Nat → Int32) (v1 : Int32) : Option (Nat × Int32) :=
  if t_known ≤ v1 then
    fX0_colourOf_14 t_colours v1 0
  else
    fX0_colourOf_14 t_colours v1 1
def fX0_readHeader_236 (t_known : Int32) (t_depth : Int32) (t_packing : Int32) (t_isUpward : Int32) (s_place : Int32) (s_file_size : Int32) (s_file_bytes : Nat → Int32) (p_wide : Int32) (p_high : Int32) (p_pixels : Nat → Int32) (l3 : Int32) (l5 : Int32) (k1 : Int32) : Option (Nat × Int32 × Int32 × Int32 × Int32 × Int32 × Int32 × Int32 × (Nat → Int32)) :=
  zb1 (fX7_need k1) fun tg1 =>
  if tg1 = 0 then
    zb2 (fX7_pass s_place s_file_size s_file_bytes 4) fun tg3 u4 =>
    if tg3 = 0 then
      zb3 (fX5_begin p_pixels l3 l5) fun u6 u7 u8 =>
      some (0, t_known, t_depth, t_packing, t_isUpward, u4, u6, u7, u8)
    else
      some (tg3, t_known, t_depth, t_packing, t_isUpward, u4, p_wide, p_high, p_pixels)
  else
    some (tg1, t_known, t_depth, t_packing, t_isUpward, s_place, p_wide, p_high, p_pixels)
def fX0_readHeader_220 (t_known : Int32) (t_depth : Int32) (t_packing : Int32) (t_isUpward : Int32) (s_place : Int32) (s_file_size : Int32) (s_file_bytes : Nat → Int32) (p_wide : Int32) (p_high : Int32) (p_pixels : Nat → Int32) (l3 : Int32) (l5 : Int32) : Option (Nat × Int32 × Int32 × Int32 × Int32 × Int32 × Int32 × Int32 × (Nat → Int32)) :=
  fX0_readHeader_236 t_known t_depth t_packing t_isUpward s_place s_file_size s_file_bytes p_wide p_high p_pixels l3 l5 0
def fX0_readHeader_171 (t_known : Int32) (t_depth : Int32) (t_packing : Int32) (t_isUpward : Int32) (s_place : Int32) (s_file_size : Int32) (s_file_bytes : Nat → Int32) (p_wide : Int32) (p_high : Int32) (p_pixels : Nat → Int32) (l3 : Int32) (l5 : Int32) (k1 : Int32) : Option (Nat × Int32 × Int32 × Int32 × Int32 × Int32 × Int32 × Int32 × (Nat → Int32)) :=
  zb1 (fX7_need k1) fun tg1 =>
  if tg1 = 0 then
    zb2 (fX7_pass s_place s_file_size s_file_bytes 12) fun tg3 u4 =>
    if tg3 = 0 then
      zb3 (fX7_little u4 s_file_size s_file_bytes 4) fun tg6 r7 u8 =>
      if tg6 = 0 then
        if t_depth = 8 then
          if r7 < 1 then
            fX0_readHeader_220 r7 t_depth t_packing t_isUpward u8 s_file_size s_file_bytes p_wide p_high p_pixels l3 l5
          else
            if 64 < r7 then
              fX0_readHeader_220 r7 t_depth t_packing t_isUpward u8 s_file_size s_file_bytes p_wide p_high p_pixels l3 l5
            else
              fX0_readHeader_236 r7 t_depth t_packing t_isUpward u8 s_file_size s_file_bytes p_wide p_high p_pixels l3 l5 1
        else
          if r7 = 0 then
            fX0_readHeader_236 r7 t_depth t_packing t_isUpward u8 s_file_size s_file_bytes p_wide p_high p_pixels l3 l5 1
          else
            fX0_readHeader_236 r7 t_depth t_packing t_isUpward u8 s_file_size s_file_bytes p_wide p_high p_pixels l3 l5 0
      else
        some (tg6, t_known, t_depth, t_packing, t_isUpward, u8, p_wide, p_high, p_pixels)
    else
      some (tg3, t_known, t_depth, t_packing, t_isUpward, u4, p_wide, p_high, p_pixels)
  else
    some (tg1, t_known, t_depth, t_packing, t_isUpward, s_place, p_wide, p_high, p_pixels)
def fX0_readHeader_166 (t_known : Int32) (t_depth : Int32) (t_packing : Int32) (t_isUpward : Int32) (s_place : Int32) (s_file_size : Int32) (s_file_bytes : Nat → Int32) (p_wide : Int32) (p_high : Int32) (p_pixels : Nat → Int32) (l3 : Int32) (l5 : Int32) : Option (Nat × Int32 × Int32 × Int32 × Int32 × Int32 × Int32 × Int32 × (Nat → Int32)) :=
  fX0_readHeader_171 t_known t_depth t_packing t_isUpward s_place s_file_size s_file_bytes p_wide p_high p_pixels l3 l5 1
def fX0_readHeader_170 (t_known : Int32) (t_depth : Int32) (t_packing : Int32) (t_isUpward : Int32) (s_place : Int32) (s_file_size : Int32) (s_file_bytes : Nat → Int32) (p_wide : Int32) (p_high : Int32) (p_pixels : Nat → Int32) (l3 : Int32) (l5 : Int32) : Option (Nat × Int32 × Int32 × Int32 × Int32 × Int32 × Int32 × Int32 × (Nat → Int32)) :=
  fX0_readHeader_171 t_known t_depth t_packing t_isUpward s_place s_file_size s_file_bytes p_wide p_high p_pixels l3 l5 0
def fX0_readHeader_122 (t_known : Int32) (t_depth : Int32) (t_packing : Int32) (t_isUpward : Int32) (s_place : Int32) (s_file_size : Int32) (s_file_bytes : Nat → Int32) (p_wide : Int32) (p_high : Int32) (p_pixels : Nat → Int32) (l3 : Int32) (l5 : Int32) (k1 : Int32) : Option (Nat × Int32 × Int32 × Int32 × Int32 × Int32 × Int32 × Int32 × (Nat → Int32)) :=
  zb1 (fX7_need k1) fun tg1 =>
  if tg1 = 0 then
    zb3 (fX7_little s_place s_file_size s_file_bytes 4) fun tg3 r4 u5 =>
    if tg3 = 0 then
      if r4 = 0 then
        fX0_readHeader_166 t_known t_depth r4 t_isUpward u5 s_file_size s_file_bytes p_wide p_high p_pixels l3 l5
      else
        if r4 = 1 then
          if t_depth = 8 then
            if t_isUpward = 0 then
              fX0_readHeader_170 t_known t_depth r4 t_isUpward u5 s_file_size s_file_bytes p_wide p_high p_pixels l3 l5
            else
              fX0_readHeader_166 t_known t_depth r4 t_isUpward u5 s_file_size s_file_bytes p_wide p_high p_pixels l3 l5
          else
            fX0_readHeader_170 t_known t_depth r4 t_isUpward u5 s_file_size s_file_bytes p_wide p_high p_pixels l3 l5
        else
          fX0_readHeader_170 t_known t_depth r4 t_isUpward u5 s_file_size s_file_bytes p_wide p_high p_pixels l3 l5
    else
      some (tg3, t_known, t_depth, t_packing, t_isUpward, u5, p_wide, p_high, p_pixels)
  else
    some (tg1, t_known, t_depth, t_packing, t_isUpward, s_place, p_wide, p_high, p_pixels)
def fX0_readHeader_117 (t_known : Int32) (t_depth : Int32) (t_packing : Int32) (t_isUpward : Int32) (s_place : Int32) (s_file_size : Int32) (s_file_bytes : Nat → Int32) (p_wide : Int32) (p_high : Int32) (p_pixels : Nat → Int32) (l3 : Int32) (l5 : Int32) : Option (Nat × Int32 × Int32 × Int32 × Int32 × Int32 × Int32 × Int32 × (Nat → Int32)) :=
  fX0_readHeader_122 t_known t_depth t_packing t_isUpward s_place s_file_size s_file_bytes p_wide p_high p_pixels l3 l5 1
def fX0_readHeader_86 (t_known : Int32) (t_depth : Int32) (t_packing : Int32) (t_isUpward : Int32) (s_place : Int32) (s_file_size : Int32) (s_file_bytes : Nat → Int32) (p_wide : Int32) (p_high : Int32) (p_pixels : Nat → Int32) (l3 : Int32) (l5 : Int32) (k1 : Int32) : Option (Nat × Int32 × Int32 × Int32 × Int32 × Int32 × Int32 × Int32 × (Nat → Int32)) :=
  zb1 (fX7_need k1) fun tg1 =>
  if tg1 = 0 then
    zb3 (fX7_little s_place s_file_size s_file_bytes 2) fun tg3 r4 u5 =>
    if tg3 = 0 then
      if r4 = 8 then
        fX0_readHeader_117 t_known r4 t_packing t_isUpward u5 s_file_size s_file_bytes p_wide p_high p_pixels l3 l5
      else
        if r4 = 24 then
          fX0_readHeader_117 t_known r4 t_packing t_isUpward u5 s_file_size s_file_bytes p_wide p_high p_pixels l3 l5
        else
          fX0_readHeader_122 t_known r4 t_packing t_isUpward u5 s_file_size s_file_bytes p_wide p_high p_pixels l3 l5 0
    else
      some (tg3, t_known, t_depth, t_packing, t_isUpward, u5, p_wide, p_high, p_pixels)
  else
    some (tg1, t_known, t_depth, t_packing, t_isUpward, s_place, p_wide, p_high, p_pixels)
def fX0_readHeader_66 (t_known : Int32) (t_depth : Int32) (t_packing : Int32) (t_isUpward : Int32) (s_place : Int32) (s_file_size : Int32) (s_file_bytes : Nat → Int32) (p_wide : Int32) (p_high : Int32) (p_pixels : Nat → Int32) (l3 : Int32) (k1 : Int32) : Option (Nat × Int32 × Int32 × Int32 × Int32 × Int32 × Int32 × Int32 × (Nat → Int32)) :=
  zb2 (fX7_needSide k1) fun tg1 r2 =>
  if tg1 = 0 then
    zb3 (fX7_little s_place s_file_size s_file_bytes 2) fun tg4 r5 u6 =>
    if tg4 = 0 then
      if r5 = 1 then
        fX0_readHeader_86 t_known t_depth t_packing t_isUpward u6 s_file_size s_file_bytes p_wide p_high p_pixels l3 r2 1
      else
        fX0_readHeader_86 t_known t_depth t_packing t_isUpward u6 s_file_size s_file_bytes p_wide p_high p_pixels l3 r2 0
    else
      some (tg4, t_known, t_depth, t_packing, t_isUpward, u6, p_wide, p_high, p_pixels)
  else
    some (tg1, t_known, t_depth, t_packing, t_isUpward, s_place, p_wide, p_high, p_pixels)
def fX0_readHeader_47 (t_known : Int32) (t_depth : Int32) (t_packing : Int32) (s_place : Int32) (s_file_size : Int32) (s_file_bytes : Nat → Int32) (p_wide : Int32) (p_high : Int32) (p_pixels : Nat → Int32) (l3 : Int32) (l4 : Int32) (k1 : Int32) : Option (Nat × Int32 × Int32 × Int32 × Int32 × Int32 × Int32 × Int32 × (Nat → Int32)) :=
  zbo k1 <|
  if k1 = 0 then
    fX0_readHeader_66 t_known t_depth t_packing k1 s_place s_file_size s_file_bytes p_wide p_high p_pixels l3 (-l4)
  else
    fX0_readHeader_66 t_known t_depth t_packing k1 s_place s_file_size s_file_bytes p_wide p_high p_pixels l3 l4
def fX0_readHeader_16 (t_known : Int32) (t_depth : Int32) (t_packing : Int32) (t_isUpward : Int32) (s_place : Int32) (s_file_size : Int32) (s_file_bytes : Nat → Int32) (p_wide : Int32) (p_high : Int32) (p_pixels : Nat → Int32) (k1 : Int32) : Option (Nat × Int32 × Int32 × Int32 × Int32 × Int32 × Int32 × Int32 × (Nat → Int32)) :=
  zb1 (fX7_need k1) fun tg1 =>
  if tg1 = 0 then
    zb3 (fX7_little s_place s_file_size s_file_bytes 4) fun tg3 r4 u5 =>
    if tg3 = 0 then
      zb2 (fX7_needSide r4) fun tg7 r8 =>
      if tg7 = 0 then
        zb3 (fX7_little u5 s_file_size s_file_bytes 4) fun tg10 r11 u12 =>
        if tg10 = 0 then
          if r11 ≤ 0 then
            fX0_readHeader_47 t_known t_depth t_packing u12 s_file_size s_file_bytes p_wide p_high p_pixels r8 r11 0
          else
            fX0_readHeader_47 t_known t_depth t_packing u12 s_file_size s_file_bytes p_wide p_high p_pixels r8 r11 1
        else
          some (tg10, t_known, t_depth, t_packing, t_isUpward, u12, p_wide, p_high, p_pixels)
      else
        some (tg7, t_known, t_depth, t_packing, t_isUpward, u5, p_wide, p_high, p_pixels)
    else
      some (tg3, t_known, t_depth, t_packing, t_isUpward, u5, p_wide, p_high, p_pixels)
  else
    some (tg1, t_known, t_depth, t_packing, t_isUpward, s_place, p_wide, p_high, p_pixels)
def fX0_readHeader (t_known : Int32) (t_depth : Int32) (t_packing : Int32) (t_isUpward : Int32) (s_place : Int32) (s_file_size : Int32) (s_file_bytes : Nat → Int32) (p_wide : Int32) (p_high : Int32) (p_pixels : Nat → Int32) : Option (Nat × Int32 × Int32 × Int32 × Int32 × Int32 × Int32 × Int32 × (Nat → Int32)) :=
  zb3 (fX7_little s_place s_file_size s_file_bytes 4) fun tg1 r2 u3 =>
  if tg1 = 0 then
    if r2 = 40 then
      fX0_readHeader_16 t_known t_depth t_packing t_isUpward u3 s_file_size s_file_bytes p_wide p_high p_pixels 1
    else
      fX0_readHeader_16 t_known t_depth t_packing t_isUpward u3 s_file_size s_file_bytes p_wide p_high p_pixels 0
  else
    some (tg1, t_known, t_depth, t_packing, t_isUpward, u3, p_wide, p_high, p_pixels)
def fX0_readRows_93 (rc19 : Int32 → Int32 → Int32 → (Nat → Int32) → Int32 → Int32 → (Nat → Int32) → Int32 → Int32 → (Nat → Int32) → Int32 → Int32 → Option (Nat × Int32 × (Nat → Int32))) (rc54 : Int32 → Int32 → Int32 → (Nat → Int32) → Int32 → Int32 → (Nat → Int32) → Int32 → Int32 → (Nat → Int32) → Int32 → Int32 → Int32 → Int32 → Option (Nat × Int32 × (Nat → Int32))) (t_known : Int32) (t_depth : Int32) (t_isUpward : Int32) (t_colours : Nat → Int32) (s_place : Int32) (s_file_size : Int32) (s_file_bytes : Nat → Int32) (p_wide : Int32) (p_high : Int32) (p_pixels : Nat → Int32) (l3 : Int32) (l4 : Int32) (l5 : Int32) (l6 : Int32) (k1 : Int32) (k2 : Int32) (k3 : Int32) : Option (Nat × Int32 × (Nat → Int32)) :=
  zb1 (fX5_set p_wide p_pixels k1 k2 k3) fun u1 =>
  zlet (l6 + 1) fun x3 =>
  rc54 t_known t_depth t_isUpward t_colours s_place s_file_size s_file_bytes p_wide p_high u1 l3 l4 l5 x3
def fX0_readRows_54 (rc19 : Int32 → Int32 → Int32 → (Nat → Int32) → Int32 → Int32 → (Nat → Int32) → Int32 → Int32 → (Nat → Int32) → Int32 → Int32 → Option (Nat × Int32 × (Nat → Int32))) : Nat → Int32 → Int32 → Int32 → (Nat → Int32) → Int32 → Int32 → (Nat → Int32) → Int32 → Int32 → (Nat → Int32) → Int32 → Int32 → Int32 → Int32 → Option (Nat × Int32 × (Nat → Int32))
  | 0, _, _, _, _, _, _, _, _, _, _, _, _, _, _ => none
  | n + 1, t_known, t_depth, t_isUpward, t_colours, s_place, s_file_size, s_file_bytes, p_wide, p_high, p_pixels, l3, l4, l5, l6 =>
    if p_wide ≤ l6 then
      zb2 (fX7_pass s_place s_file_size s_file_bytes l3) fun tg2 u3 =>
      if tg2 = 0 then
        zlet (l4 + 1) fun x5 =>
        rc19 t_known t_depth t_isUpward t_colours u3 s_file_size s_file_bytes p_wide p_high p_pixels l3 x5
      else
        some (tg2, u3, p_pixels)
    else
      if t_depth = 24 then
        zb3 (fX7_blueGreenRed s_place s_file_size s_file_bytes) fun tg14 r15 u16 =>
        if tg14 = 0 then
          fX0_readRows_93 rc19 (fX0_readRows_54 rc19 n) t_known t_depth t_isUpward t_colours u16 s_file_size s_file_bytes p_wide p_high p_pixels l3 l4 l5 l6 l6 l5 r15
        else
          some (tg14, u16, p_pixels)
      else
        zb3 (fX7_next s_place s_file_size s_file_bytes) fun tg7 r8 u9 =>
        if tg7 = 0 then
          zb2 (fX0_colourOf t_known t_colours r8) fun tg11 r12 =>
          if tg11 = 0 then
            fX0_readRows_93 rc19 (fX0_readRows_54 rc19 n) t_known t_depth t_isUpward t_colours u9 s_file_size s_file_bytes p_wide p_high p_pixels l3 l4 l5 l6 l6 l5 r12
          else
            some (tg11, u9, p_pixels)
        else
          some (tg7, u9, p_pixels)
theorem fX0_readRows_54_s (rc19 : Int32 → Int32 → Int32 → (Nat → Int32) → Int32 → Int32 → (Nat → Int32) → Int32 → Int32 → (Nat → Int32) → Int32 → Int32 → Option (Nat × Int32 × (Nat → Int32))) (n : Nat) (t_known : Int32) (t_depth : Int32) (t_isUpward : Int32) (t_colours : Nat → Int32) (s_place : Int32) (s_file_size : Int32) (s_file_bytes : Nat → Int32) (p_wide : Int32) (p_high : Int32) (p_pixels : Nat → Int32) (l3 : Int32) (l4 : Int32) (l5 : Int32) (l6 : Int32) : fX0_readRows_54 rc19 (n + 1) t_known t_depth t_isUpward t_colours s_place s_file_size s_file_bytes p_wide p_high p_pixels l3 l4 l5 l6 =
    if p_wide ≤ l6 then
      zb2 (fX7_pass s_place s_file_size s_file_bytes l3) fun tg2 u3 =>
      if tg2 = 0 then
        zlet (l4 + 1) fun x5 =>
        rc19 t_known t_depth t_isUpward t_colours u3 s_file_size s_file_bytes p_wide p_high p_pixels l3 x5
      else
        some (tg2, u3, p_pixels)
    else
      if t_depth = 24 then
        zb3 (fX7_blueGreenRed s_place s_file_size s_file_bytes) fun tg14 r15 u16 =>
        if tg14 = 0 then
          fX0_readRows_93 rc19 (fX0_readRows_54 rc19 n) t_known t_depth t_isUpward t_colours u16 s_file_size s_file_bytes p_wide p_high p_pixels l3 l4 l5 l6 l6 l5 r15
        else
          some (tg14, u16, p_pixels)
      else
        zb3 (fX7_next s_place s_file_size s_file_bytes) fun tg7 r8 u9 =>
        if tg7 = 0 then
          zb2 (fX0_colourOf t_known t_colours r8) fun tg11 r12 =>
          if tg11 = 0 then
            fX0_readRows_93 rc19 (fX0_readRows_54 rc19 n) t_known t_depth t_isUpward t_colours u9 s_file_size s_file_bytes p_wide p_high p_pixels l3 l4 l5 l6 l6 l5 r12
          else
            some (tg11, u9, p_pixels)
        else
          some (tg7, u9, p_pixels) := rfl
def fX0_readRows_49 (rc19 : Int32 → Int32 → Int32 → (Nat → Int32) → Int32 → Int32 → (Nat → Int32) → Int32 → Int32 → (Nat → Int32) → Int32 → Int32 → Option (Nat × Int32 × (Nat → Int32))) (t_known : Int32) (t_depth : Int32) (t_isUpward : Int32) (t_colours : Nat → Int32) (s_place : Int32) (s_file_size : Int32) (s_file_bytes : Nat → Int32) (p_wide : Int32) (p_high : Int32) (p_pixels : Nat → Int32) (l3 : Int32) (l4 : Int32) (k0 : Int32) : Option (Nat × Int32 × (Nat → Int32)) :=
  fX0_readRows_54 rc19 1000 t_known t_depth t_isUpward t_colours s_place s_file_size s_file_bytes p_wide p_high p_pixels l3 l4 k0 0
def fX0_readRows_19 : Nat → Int32 → Int32 → Int32 → (Nat → Int32) → Int32 → Int32 → (Nat → Int32) → Int32 → Int32 → (Nat → Int32) → Int32 → Int32 → Option (Nat × Int32 × (Nat → Int32))
  | 0, _, _, _, _, _, _, _, _, _, _, _, _ => none
  | n + 1, t_known, t_depth, t_isUpward, t_colours, s_place, s_file_size, s_file_bytes, p_wide, p_high, p_pixels, l3, l4 =>
    if p_high ≤ l4 then
      some (0, s_place, p_pixels)
    else
      if t_isUpward = 0 then
        fX0_readRows_49 (fX0_readRows_19 n) t_known t_depth t_isUpward t_colours s_place s_file_size s_file_bytes p_wide p_high p_pixels l3 l4 l4
      else
        fX0_readRows_49 (fX0_readRows_19 n) t_known t_depth t_isUpward t_colours s_place s_file_size s_file_bytes p_wide p_high p_pixels l3 l4 ((p_high - 1) - l4)
theorem fX0_readRows_19_s (n : Nat) (t_known : Int32) (t_depth : Int32) (t_isUpward : Int32) (t_colours : Nat → Int32) (s_place : Int32) (s_file_size : Int32) (s_file_bytes : Nat → Int32) (p_wide : Int32) (p_high : Int32) (p_pixels : Nat → Int32) (l3 : Int32) (l4 : Int32) : fX0_readRows_19 (n + 1) t_known t_depth t_isUpward t_colours s_place s_file_size s_file_bytes p_wide p_high p_pixels l3 l4 =
    if p_high ≤ l4 then
      some (0, s_place, p_pixels)
    else
      if t_isUpward = 0 then
        fX0_readRows_49 (fX0_readRows_19 n) t_known t_depth t_isUpward t_colours s_place s_file_size s_file_bytes p_wide p_high p_pixels l3 l4 l4
      else
        fX0_readRows_49 (fX0_readRows_19 n) t_known t_depth t_isUpward t_colours s_place s_file_size s_file_bytes p_wide p_high p_pixels l3 l4 ((p_high - 1) - l4) := rfl
def fX0_readRows (t_known : Int32) (t_depth : Int32) (t_isUpward : Int32) (t_colours : Nat → Int32) (s_place : Int32) (s_file_size : Int32) (s_file_bytes : Nat → Int32) (p_wide : Int32) (p_high : Int32) (p_pixels : Nat → Int32) : Option (Nat × Int32 × (Nat → Int32)) :=
  zb1 (fX0_bytesToFour ((p_wide * t_depth) / 8)) fun r1 =>
  fX0_readRows_19 1000 t_known t_depth t_isUpward t_colours s_place s_file_size s_file_bytes p_wide p_high p_pixels r1 0
def fX0_goTo_24 (t_column : Int32) (t_up : Int32) (l1 : Int32) (l2 : Int32) (k1 : Int32) : Option (Nat × Int32 × Int32) :=
  zb1 (fX7_need k1) fun tg1 =>
  if tg1 = 0 then
    some (0, l1, l2)
  else
    some (tg1, t_column, t_up)
def fX0_goTo_23 (t_column : Int32) (t_up : Int32) (l1 : Int32) (l2 : Int32) : Option (Nat × Int32 × Int32) :=
  fX0_goTo_24 t_column t_up l1 l2 0
def fX0_goTo (t_column : Int32) (t_up : Int32) (p_wide : Int32) (p_high : Int32) (v0 : Int32) (v1 : Int32) : Option (Nat × Int32 × Int32) :=
  if p_wide < v0 then
    fX0_goTo_23 t_column t_up v0 v1
  else
    if p_high < v1 then
      fX0_goTo_23 t_column t_up v0 v1
    else
      fX0_goTo_24 t_column t_up v0 v1 1
def fX0_paint (t_known : Int32) (t_column : Int32) (t_up : Int32) (t_colours : Nat → Int32) (p_wide : Int32) (p_high : Int32) (p_pixels : Nat → Int32) (v0 : Int32) : Option (Nat × Int32 × (Nat → Int32)) :=
  zlet ((p_high - 1) - t_up) fun x1 =>
  zb1 (fX5_has p_wide p_high t_column x1) fun r2 =>
  zb1 (fX7_need r2) fun tg4 =>
  if tg4 = 0 then
    zb2 (fX0_colourOf t_known t_colours v0) fun tg6 r7 =>
    if tg6 = 0 then
      zb1 (fX5_set p_wide p_pixels t_column x1 r7) fun u9 =>
      zlet (t_column + 1) fun x11 =>
      some (0, x11, u9)
    else
      some (tg6, t_column, p_pixels)
  else
    some (tg4, t_column, p_pixels)
def fX0_obey_63 : Nat → Int32 → Int32 → Int32 → (Nat → Int32) → Int32 → Int32 → (Nat → Int32) → Int32 → Int32 → (Nat → Int32) → Int32 → Int32 → Option (Nat × Int32 × Int32 × Int32 × (Nat → Int32))
  | 0, _, _, _, _, _, _, _, _, _, _, _, _ => none
  | n + 1, t_known, t_column, t_up, t_colours, s_place, s_file_size, s_file_bytes, p_wide, p_high, p_pixels, l1, l4 =>
    if l1 ≤ l4 then
      zb2 (fX7_pass s_place s_file_size s_file_bytes (zrem l1 2)) fun tg2 u3 =>
      if tg2 = 0 then
        some (0, t_column, t_up, u3, p_pixels)
      else
        some (tg2, t_column, t_up, u3, p_pixels)
    else
      zb3 (fX7_next s_place s_file_size s_file_bytes) fun tg5 r6 u7 =>
      if tg5 = 0 then
        zb3 (fX0_paint t_known t_column t_up t_colours p_wide p_high p_pixels r6) fun tg9 u10 u11 =>
        if tg9 = 0 then
          zlet (l4 + 1) fun x13 =>
          (fX0_obey_63 n) t_known u10 t_up t_colours u7 s_file_size s_file_bytes p_wide p_high u11 l1 x13
        else
          some (tg9, u10, t_up, u7, u11)
      else
        some (tg5, t_column, t_up, u7, p_pixels)
theorem fX0_obey_63_s (n : Nat) (t_known : Int32) (t_column : Int32) (t_up : Int32) (t_colours : Nat → Int32) (s_place : Int32) (s_file_size : Int32) (s_file_bytes : Nat → Int32) (p_wide : Int32) (p_high : Int32) (p_pixels : Nat → Int32) (l1 : Int32) (l4 : Int32) : fX0_obey_63 (n + 1) t_known t_column t_up t_colours s_place s_file_size s_file_bytes p_wide p_high p_pixels l1 l4 =
    if l1 ≤ l4 then
      zb2 (fX7_pass s_place s_file_size s_file_bytes (zrem l1 2)) fun tg2 u3 =>
      if tg2 = 0 then
        some (0, t_column, t_up, u3, p_pixels)
      else
        some (tg2, t_column, t_up, u3, p_pixels)
    else
      zb3 (fX7_next s_place s_file_size s_file_bytes) fun tg5 r6 u7 =>
      if tg5 = 0 then
        zb3 (fX0_paint t_known t_column t_up t_colours p_wide p_high p_pixels r6) fun tg9 u10 u11 =>
        if tg9 = 0 then
          zlet (l4 + 1) fun x13 =>
          (fX0_obey_63 n) t_known u10 t_up t_colours u7 s_file_size s_file_bytes p_wide p_high u11 l1 x13
        else
          some (tg9, u10, t_up, u7, u11)
      else
        some (tg5, t_column, t_up, u7, p_pixels) := rfl
def fX0_obey (t_known : Int32) (t_column : Int32) (t_up : Int32) (t_colours : Nat → Int32) (s_place : Int32) (s_file_size : Int32) (s_file_bytes : Nat → Int32) (p_wide : Int32) (p_high : Int32) (p_pixels : Nat → Int32) (v0 : Int32) : Option (Nat × Int32 × Int32 × Int32 × (Nat → Int32)) :=
  if v0 = 0 then
    zb3 (fX0_goTo t_column t_up p_wide p_high 0 (t_up + 1)) fun tg15 u16 u17 =>
    if tg15 = 0 then
      some (0, u16, u17, s_place, p_pixels)
    else
      some (tg15, u16, u17, s_place, p_pixels)
  else
    if v0 = 2 then
      zb3 (fX7_next s_place s_file_size s_file_bytes) fun tg3 r4 u5 =>
      if tg3 = 0 then
        zb3 (fX7_next u5 s_file_size s_file_bytes) fun tg7 r8 u9 =>
        if tg7 = 0 then
          zb3 (fX0_goTo t_column t_up p_wide p_high (t_column + r4) (t_up + r8)) fun tg11 u12 u13 =>
          if tg11 = 0 then
            some (0, u12, u13, u9, p_pixels)
          else
            some (tg11, u12, u13, u9, p_pixels)
        else
          some (tg7, t_column, t_up, u9, p_pixels)
      else
        some (tg3, t_column, t_up, u5, p_pixels)
    else
      fX0_obey_63 1000 t_known t_column t_up t_colours s_place s_file_size s_file_bytes p_wide p_high p_pixels v0 0
def fX0_readPacked_93 (rc22 : Int32 → Int32 → Int32 → (Nat → Int32) → Int32 → Int32 → (Nat → Int32) → Int32 → Int32 → (Nat → Int32) → Int32 → Option (Nat × Int32 × Int32 × Int32 × (Nat → Int32))) (t_known : Int32) (t_column : Int32) (t_up : Int32) (t_colours : Nat → Int32) (s_place : Int32) (s_file_size : Int32) (s_file_bytes : Nat → Int32) (p_wide : Int32) (p_high : Int32) (p_pixels : Nat → Int32) (l3 : Int32) : Option (Nat × Int32 × Int32 × Int32 × (Nat → Int32)) :=
  zlet (l3 + 1) fun x1 =>
  rc22 t_known t_column t_up t_colours s_place s_file_size s_file_bytes p_wide p_high p_pixels x1
def fX0_readPacked_72 (rc22 : Int32 → Int32 → Int32 → (Nat → Int32) → Int32 → Int32 → (Nat → Int32) → Int32 → Int32 → (Nat → Int32) → Int32 → Option (Nat × Int32 × Int32 × Int32 × (Nat → Int32))) : Nat → Int32 → Int32 → Int32 → (Nat → Int32) → Int32 → Int32 → (Nat → Int32) → Int32 → Int32 → (Nat → Int32) → Int32 → Int32 → Int32 → Int32 → Option (Nat × Int32 × Int32 × Int32 × (Nat → Int32))
  | 0, _, _, _, _, _, _, _, _, _, _, _, _, _, _ => none
  | n + 1, t_known, t_column, t_up, t_colours, s_place, s_file_size, s_file_bytes, p_wide, p_high, p_pixels, l3, l4, l5, l6 =>
    if l4 ≤ l6 then
      fX0_readPacked_93 rc22 t_known t_column t_up t_colours s_place s_file_size s_file_bytes p_wide p_high p_pixels l3
    else
      zb3 (fX0_paint t_known t_column t_up t_colours p_wide p_high p_pixels l5) fun tg2 u3 u4 =>
      if tg2 = 0 then
        zlet (l6 + 1) fun x6 =>
        (fX0_readPacked_72 rc22 n) t_known u3 t_up t_colours s_place s_file_size s_file_bytes p_wide p_high u4 l3 l4 l5 x6
      else
        some (tg2, u3, t_up, s_place, u4)
theorem fX0_readPacked_72_s (rc22 : Int32 → Int32 → Int32 → (Nat → Int32) → Int32 → Int32 → (Nat → Int32) → Int32 → Int32 → (Nat → Int32) → Int32 → Option (Nat × Int32 × Int32 × Int32 × (Nat → Int32))) (n : Nat) (t_known : Int32) (t_column : Int32) (t_up : Int32) (t_colours : Nat → Int32) (s_place : Int32) (s_file_size : Int32) (s_file_bytes : Nat → Int32) (p_wide : Int32) (p_high : Int32) (p_pixels : Nat → Int32) (l3 : Int32) (l4 : Int32) (l5 : Int32) (l6 : Int32) : fX0_readPacked_72 rc22 (n + 1) t_known t_column t_up t_colours s_place s_file_size s_file_bytes p_wide p_high p_pixels l3 l4 l5 l6 =
    if l4 ≤ l6 then
      fX0_readPacked_93 rc22 t_known t_column t_up t_colours s_place s_file_size s_file_bytes p_wide p_high p_pixels l3
    else
      zb3 (fX0_paint t_known t_column t_up t_colours p_wide p_high p_pixels l5) fun tg2 u3 u4 =>
      if tg2 = 0 then
        zlet (l6 + 1) fun x6 =>
        (fX0_readPacked_72 rc22 n) t_known u3 t_up t_colours s_place s_file_size s_file_bytes p_wide p_high u4 l3 l4 l5 x6
      else
        some (tg2, u3, t_up, s_place, u4) := rfl
def fX0_readPacked_53 (rc22 : Int32 → Int32 → Int32 → (Nat → Int32) → Int32 → Int32 → (Nat → Int32) → Int32 → Int32 → (Nat → Int32) → Int32 → Option (Nat × Int32 × Int32 × Int32 × (Nat → Int32))) (t_known : Int32) (t_column : Int32) (t_up : Int32) (t_colours : Nat → Int32) (s_place : Int32) (s_file_size : Int32) (s_file_bytes : Nat → Int32) (p_wide : Int32) (p_high : Int32) (p_pixels : Nat → Int32) (l3 : Int32) (l4 : Int32) (l5 : Int32) : Option (Nat × Int32 × Int32 × Int32 × (Nat → Int32)) :=
  if l4 = 0 then
    zb5 (fX0_obey t_known t_column t_up t_colours s_place s_file_size s_file_bytes p_wide p_high p_pixels l5) fun tg2 u3 u4 u5 u6 =>
    if tg2 = 0 then
      fX0_readPacked_93 rc22 t_known u3 u4 t_colours u5 s_file_size s_file_bytes p_wide p_high u6 l3
    else
      some (tg2, u3, u4, u5, u6)
  else
    fX0_readPacked_72 rc22 1000 t_known t_column t_up t_colours s_place s_file_size s_file_bytes p_wide p_high p_pixels l3 l4 l5 0
def fX0_readPacked_22 : Nat → Int32 → Int32 → Int32 → (Nat → Int32) → Int32 → Int32 → (Nat → Int32) → Int32 → Int32 → (Nat → Int32) → Int32 → Option (Nat × Int32 × Int32 × Int32 × (Nat → Int32))
  | 0, _, _, _, _, _, _, _, _, _, _, _ => none
  | n + 1, t_known, t_column, t_up, t_colours, s_place, s_file_size, s_file_bytes, p_wide, p_high, p_pixels, l3 =>
    if 800 ≤ l3 then
      some (0, t_column, t_up, s_place, p_pixels)
    else
      zb3 (fX7_next s_place s_file_size s_file_bytes) fun tg2 r3 u4 =>
      if tg2 = 0 then
        zb3 (fX7_next u4 s_file_size s_file_bytes) fun tg6 r7 u8 =>
        if tg6 = 0 then
          if r3 = 0 then
            if r7 = 1 then
              some (0, t_column, t_up, u8, p_pixels)
            else
              fX0_readPacked_53 (fX0_readPacked_22 n) t_known t_column t_up t_colours u8 s_file_size s_file_bytes p_wide p_high p_pixels l3 r3 r7
          else
            fX0_readPacked_53 (fX0_readPacked_22 n) t_known t_column t_up t_colours u8 s_file_size s_file_bytes p_wide p_high p_pixels l3 r3 r7
        else
          some (tg6, t_column, t_up, u8, p_pixels)
      else
        some (tg2, t_column, t_up, u4, p_pixels)
theorem fX0_readPacked_22_s (n : Nat) (t_known : Int32) (t_column : Int32) (t_up : Int32) (t_colours : Nat → Int32) (s_place : Int32) (s_file_size : Int32) (s_file_bytes : Nat → Int32) (p_wide : Int32) (p_high : Int32) (p_pixels : Nat → Int32) (l3 : Int32) : fX0_readPacked_22 (n + 1) t_known t_column t_up t_colours s_place s_file_size s_file_bytes p_wide p_high p_pixels l3 =
    if 800 ≤ l3 then
      some (0, t_column, t_up, s_place, p_pixels)
    else
      zb3 (fX7_next s_place s_file_size s_file_bytes) fun tg2 r3 u4 =>
      if tg2 = 0 then
        zb3 (fX7_next u4 s_file_size s_file_bytes) fun tg6 r7 u8 =>
        if tg6 = 0 then
          if r3 = 0 then
            if r7 = 1 then
              some (0, t_column, t_up, u8, p_pixels)
            else
              fX0_readPacked_53 (fX0_readPacked_22 n) t_known t_column t_up t_colours u8 s_file_size s_file_bytes p_wide p_high p_pixels l3 r3 r7
          else
            fX0_readPacked_53 (fX0_readPacked_22 n) t_known t_column t_up t_colours u8 s_file_size s_file_bytes p_wide p_high p_pixels l3 r3 r7
        else
          some (tg6, t_column, t_up, u8, p_pixels)
      else
        some (tg2, t_column, t_up, u4, p_pixels) := rfl
def fX0_readPacked (t_known : Int32) (t_colours : Nat → Int32) (s_place : Int32) (s_file_size : Int32) (s_file_bytes : Nat → Int32) (p_wide : Int32) (p_high : Int32) (p_pixels : Nat → Int32) : Option (Nat × Int32 × Int32 × Int32 × (Nat → Int32)) :=
  zrd t_colours 64 0 fun x1 =>
  zb1 (fX5_fill p_pixels x1) fun u3 =>
  fX0_readPacked_22 1000 t_known 0 0 t_colours s_place s_file_size s_file_bytes p_wide p_high u3 0
def fX0_read_73 (t_known : Int32) (t_depth : Int32) (t_packing : Int32) (t_isUpward : Int32) (t_column : Int32) (t_up : Int32) (t_colours : Nat → Int32) (s_place : Int32) (s_file_size : Int32) (s_file_bytes : Nat → Int32) (p_wide : Int32) (p_high : Int32) (p_pixels : Nat → Int32) (l3 : Int32) (k1 : Int32) : Option (Nat × Int32 × Int32 × Int32 × Int32 × Int32 × Int32 × (Nat → Int32) × Int32 × Int32 × Int32 × (Nat → Int32)) :=
  zb1 (fX7_need k1) fun tg1 =>
  if tg1 = 0 then
    zb2 (fX7_pass s_place s_file_size s_file_bytes (l3 - s_place)) fun tg3 u4 =>
    if tg3 = 0 then
      if t_packing = 1 then
        zb5 (fX0_readPacked t_known t_colours u4 s_file_size s_file_bytes p_wide p_high p_pixels) fun tg11 u12 u13 u14 u15 =>
        if tg11 = 0 then
          some (0, t_known, t_depth, t_packing, t_isUpward, u12, u13, t_colours, u14, p_wide, p_high, u15)
        else
          some (tg11, t_known, t_depth, t_packing, t_isUpward, u12, u13, t_colours, u14, p_wide, p_high, u15)
      else
        zb3 (fX0_readRows t_known t_depth t_isUpward t_colours u4 s_file_size s_file_bytes p_wide p_high p_pixels) fun tg7 u8 u9 =>
        if tg7 = 0 then
          some (0, t_known, t_depth, t_packing, t_isUpward, t_column, t_up, t_colours, u8, p_wide, p_high, u9)
        else
          some (tg7, t_known, t_depth, t_packing, t_isUpward, t_column, t_up, t_colours, u8, p_wide, p_high, u9)
    else
      some (tg3, t_known, t_depth, t_packing, t_isUpward, t_column, t_up, t_colours, u4, p_wide, p_high, p_pixels)
  else
    some (tg1, t_known, t_depth, t_packing, t_isUpward, t_column, t_up, t_colours, s_place, p_wide, p_high, p_pixels)
def fX0_read_72 (t_known : Int32) (t_depth : Int32) (t_packing : Int32) (t_isUpward : Int32) (t_column : Int32) (t_up : Int32) (t_colours : Nat → Int32) (s_place : Int32) (s_file_size : Int32) (s_file_bytes : Nat → Int32) (p_wide : Int32) (p_high : Int32) (p_pixels : Nat → Int32) (l3 : Int32) : Option (Nat × Int32 × Int32 × Int32 × Int32 × Int32 × Int32 × (Nat → Int32) × Int32 × Int32 × Int32 × (Nat → Int32)) :=
  fX0_read_73 t_known t_depth t_packing t_isUpward t_column t_up t_colours s_place s_file_size s_file_bytes p_wide p_high p_pixels l3 0
def fX0_read_21 : Nat → Int32 → Int32 → Int32 → Int32 → Int32 → Int32 → (Nat → Int32) → Int32 → Int32 → (Nat → Int32) → Int32 → Int32 → (Nat → Int32) → Int32 → Int32 → Option (Nat × Int32 × Int32 × Int32 × Int32 × Int32 × Int32 × (Nat → Int32) × Int32 × Int32 × Int32 × (Nat → Int32))
  | 0, _, _, _, _, _, _, _, _, _, _, _, _, _, _, _ => none
  | n + 1, t_known, t_depth, t_packing, t_isUpward, t_column, t_up, t_colours, s_place, s_file_size, s_file_bytes, p_wide, p_high, p_pixels, l3, l4 =>
    if t_known ≤ l4 then
      if l3 < s_place then
        fX0_read_72 t_known t_depth t_packing t_isUpward t_column t_up t_colours s_place s_file_size s_file_bytes p_wide p_high p_pixels l3
      else
        if 800 < l3 then
          fX0_read_72 t_known t_depth t_packing t_isUpward t_column t_up t_colours s_place s_file_size s_file_bytes p_wide p_high p_pixels l3
        else
          fX0_read_73 t_known t_depth t_packing t_isUpward t_column t_up t_colours s_place s_file_size s_file_bytes p_wide p_high p_pixels l3 1
    else
      zb3 (fX7_blueGreenRed s_place s_file_size s_file_bytes) fun tg4 r5 u6 =>
      if tg4 = 0 then
        zwr t_colours 64 l4 r5 fun g8 =>
        zb2 (fX7_pass u6 s_file_size s_file_bytes 1) fun tg10 u11 =>
        if tg10 = 0 then
          zlet (l4 + 1) fun x13 =>
          (fX0_read_21 n) t_known t_depth t_packing t_isUpward t_column t_up g8 u11 s_file_size s_file_bytes p_wide p_high p_pixels l3 x13
        else
          some (tg10, t_known, t_depth, t_packing, t_isUpward, t_column, t_up, g8, u11, p_wide, p_high, p_pixels)
      else
        some (tg4, t_known, t_depth, t_packing, t_isUpward, t_column, t_up, t_colours, u6, p_wide, p_high, p_pixels)
theorem fX0_read_21_s (n : Nat) (t_known : Int32) (t_depth : Int32) (t_packing : Int32) (t_isUpward : Int32) (t_column : Int32) (t_up : Int32) (t_colours : Nat → Int32) (s_place : Int32) (s_file_size : Int32) (s_file_bytes : Nat → Int32) (p_wide : Int32) (p_high : Int32) (p_pixels : Nat → Int32) (l3 : Int32) (l4 : Int32) : fX0_read_21 (n + 1) t_known t_depth t_packing t_isUpward t_column t_up t_colours s_place s_file_size s_file_bytes p_wide p_high p_pixels l3 l4 =
    if t_known ≤ l4 then
      if l3 < s_place then
        fX0_read_72 t_known t_depth t_packing t_isUpward t_column t_up t_colours s_place s_file_size s_file_bytes p_wide p_high p_pixels l3
      else
        if 800 < l3 then
          fX0_read_72 t_known t_depth t_packing t_isUpward t_column t_up t_colours s_place s_file_size s_file_bytes p_wide p_high p_pixels l3
        else
          fX0_read_73 t_known t_depth t_packing t_isUpward t_column t_up t_colours s_place s_file_size s_file_bytes p_wide p_high p_pixels l3 1
    else
      zb3 (fX7_blueGreenRed s_place s_file_size s_file_bytes) fun tg4 r5 u6 =>
      if tg4 = 0 then
        zwr t_colours 64 l4 r5 fun g8 =>
        zb2 (fX7_pass u6 s_file_size s_file_bytes 1) fun tg10 u11 =>
        if tg10 = 0 then
          zlet (l4 + 1) fun x13 =>
          (fX0_read_21 n) t_known t_depth t_packing t_isUpward t_column t_up g8 u11 s_file_size s_file_bytes p_wide p_high p_pixels l3 x13
        else
          some (tg10, t_known, t_depth, t_packing, t_isUpward, t_column, t_up, g8, u11, p_wide, p_high, p_pixels)
      else
        some (tg4, t_known, t_depth, t_packing, t_isUpward, t_column, t_up, t_colours, u6, p_wide, p_high, p_pixels) := rfl
def fX0_read (t_known : Int32) (t_depth : Int32) (t_packing : Int32) (t_isUpward : Int32) (t_column : Int32) (t_up : Int32) (t_colours : Nat → Int32) (s_place : Int32) (s_file_size : Int32) (s_file_bytes : Nat → Int32) (p_wide : Int32) (p_high : Int32) (p_pixels : Nat → Int32) : Option (Nat × Int32 × Int32 × Int32 × Int32 × Int32 × Int32 × (Nat → Int32) × Int32 × Int32 × Int32 × (Nat → Int32)) :=
  zb2 (fX7_pass s_place s_file_size s_file_bytes 10) fun tg1 u2 =>
  if tg1 = 0 then
    zb3 (fX7_little u2 s_file_size s_file_bytes 4) fun tg4 r5 u6 =>
    if tg4 = 0 then
      zb9 (fX0_readHeader t_known t_depth t_packing t_isUpward u6 s_file_size s_file_bytes p_wide p_high p_pixels) fun tg8 u9 u10 u11 u12 u13 u14 u15 u16 =>
      if tg8 = 0 then
        fX0_read_21 1000 u9 u10 u11 u12 t_column t_up t_colours u13 s_file_size s_file_bytes u14 u15 u16 r5 0
      else
        some (tg8, u9, u10, u11, u12, t_column, t_up, t_colours, u13, u14, u15, u16)
    else
      some (tg4, t_known, t_depth, t_packing, t_isUpward, t_column, t_up, t_colours, u6, p_wide, p_high, p_pixels)
  else
    some (tg1, t_known, t_depth, t_packing, t_isUpward, t_column, t_up, t_colours, u2, p_wide, p_high, p_pixels)
def rmX0_colourOf (tg : Nat) : Room := { frames := 7, cells := zc tg, slots := zs tg, locals := 103 }
theorem kX0_colourOf_11 {args : Array Value} {s : State} (h : ∀ w ∈ wsX0_colourOf, w.before args s = true) : (Cond.fieldLink RX0 11 "FourPictureFiles$BitmapFormat" "colours" "[I").before args s = true := h _ (by decide +kernel)
theorem kX0_colourOf_27 {args : Array Value} {s : State} (h : ∀ w ∈ wsX0_colourOf, w.before args s = true) : (Cond.fieldLink RX0 27 "FourPictureFiles$BitmapFormat" "known" "I").before args s = true := h _ (by decide +kernel)
theorem iX0_colourOf_X0 : ∀ w ∈ u_ws RX0 TX0 7, w ∈ wsX0_colourOf := by decide +kernel
theorem qX0_colourOf_X7_need_110 {args : Array Value} {s : State} {tg0 : Nat} {tg : Nat} (hts : ∀ w ∈ wsX0_colourOf, w.before args s = true) : CallW (rmX0_colourOf tg0) s args RX0 RX7 110 yX7_need cX7_need 2 none wsX7_need (rmX7_need tg) (zc tg) (zs tg) 1 := cwV 1 hts gX0_colourOf_X7_need rfl rfl rfl (by decide +kernel) ⟨Nat.le_of_ble_eq_true rfl, Nat.le_of_ble_eq_true rfl⟩
set_option maxHeartbeats 4000000 in
set_option maxRecDepth 100000 in
theorem wX0_colourOf_14 {p : Program} {l : Launch} {e : Env} {s : State} {m : MethodId} {args : Array Value} {below : List Frame} {meth : Method} {c : Code} {D : va_G} {A : Nat → Prop} {Q : State → Prop} {cI : ClassId} {h_t h_t_colours h_s h_s_file h_s_file_bytes : Nat} {t_known : Int32} {t_depth : Int32} {t_packing : Int32} {t_isUpward : Int32} {t_column : Int32} {t_up : Int32} {t_colours : Nat → Int32} {s_place : Int32} {s_file_size : Int32} {s_file_bytes : Nat → Int32} {tg0 : Nat} {r0 : Int32} (C : CallFix p m c cX0_colourOf 3 s args wsX0_colourOf RX0) (hN : zN s) (hK : va_K D vwCl [(cI, .int)] s) (hA : ∀ q, s.heap.size ≤ q → A q) (hT : zTh A s) (hst : l.stackTraces = false) (hE : zTEi tg0 p l e (rmX0_colourOf tg0) s m args below meth c cX0_colourOf D A Q (zwX0 cI h_t h_t_colours t_known t_depth t_packing t_isUpward t_column t_up t_colours ++ zwX7 cI h_s h_s_file h_s_file_bytes s_place s_file_size s_file_bytes) r0) (hX : zTX tg0 p l e (rmX0_colourOf tg0) s m args below meth c D A Q (zwX0 cI h_t h_t_colours t_known t_depth t_packing t_isUpward t_column t_up t_colours ++ zwX7 cI h_s h_s_file h_s_file_bytes s_place s_file_size s_file_bytes)) {l2 : Int32} {k1 : Int32} {H : Heap} {locs : List Loc} {ls : Array Slot} : fX0_colourOf_14 t_colours l2 k1 = some (tg0, r0) → va_P D vwCl (zwX0 cI h_t h_t_colours t_known t_depth t_packing t_isUpward t_column t_up t_colours ++ zwX7 cI h_s h_s_file h_s_file_bytes s_place s_file_size s_file_bytes) H → va_D A (zwX0 cI h_t h_t_colours t_known t_depth t_packing t_isUpward t_column t_up t_colours ++ zwX7 cI h_s h_s_file h_s_file_bytes s_place s_file_size s_file_bytes) → va_S A s.heap H locs → lv_has ls 3 [(0, .ref h_t), (1, .ref h_s), (2, .int l2)] → W p l e (rmX0_colourOf tg0) s m args below meth c H locs 0 0 Q (F0 m 14 ls [.int k1, .ref h_s]) := by
  intro hf hP hD hS hl
  obtain ⟨hx, hb, hml, hown, hts⟩ := id C
  unfold fX0_colourOf_14 at hf
  obtain ⟨tg1, hc2, hf⟩ := zb1_in hf
  have hle := zT_le hf
  refine zcx_v (vx_runV (As := [.int k1]) (rest := []) C (mX7_need l hst D cI H.size h_s h_s_file h_s_file_bytes s_place s_file_size s_file_bytes k1 tg1 hc2) (qX0_colourOf_X7_need_110 hts) ⟨zPT_blind, va_recv hK hP (ci := 6) (q0 := 2) rfl rfl, zpreT hK hN hT hA hS hP hD [2, 3, 4] rfl rfl⟩ rfl rfl hl.1 rfl (lv_room (Nat.le_of_ble_eq_true rfl)) dX0_colourOf_14 hle) hP hD hS hA [2, 3, 4] [0, 1] [0, 1, 2, 3, 4] (ws' := zwX0 cI h_t h_t_colours t_known t_depth t_packing t_isUpward t_column t_up t_colours ++ zwX7 cI h_s h_s_file h_s_file_bytes s_place s_file_size s_file_bytes) rfl rfl rfl rfl rfl rfl (fun ht H locs q9 ce hP hD hS hq hv hcl => ?_) (fun ht H locs hP hD hS => ?_)
  · replace hf := zif_f hf ht
    cases hf
    exact hX _ _ _ _ _ _ _ ht hP hD hS hq hv hcl
  · replace hf := zif_t hf ht
    clear hle
    refine lv_aload_n hx hb dX0_colourOf_17 rfl (lv_at hl 0 rfl) ?_
    refine va_get (D := D) (ci := 0) (v := .ref h_t_colours) (C := RX0) (T := TX0) (N := 7) hx hb hts iX0_colourOf_X0 hown hK hP 0 rfl rfl 0 (by decide) (kX0_colourOf_11 hts) (fun _ h9 => h9) rfl dX0_colourOf_18 ?_
    refine lv_iload_n hx hb dX0_colourOf_21 rfl (lv_at hl 2 rfl) ?_
    obtain ⟨hg4, hf⟩ := zrd_in hf
    refine va_iald hx hb hK hP 1 0 rfl rfl hg4 dX0_colourOf_22 ?_
    refine lv_topi (fun x3 ex3 => ?_)
    replace hf := hf x3 ex3
    clear ex3
    cases hf
    exact hE rfl _ _ _ _ dX0_colourOf_23 hP hD hS
set_option maxHeartbeats 4000000 in
set_option maxRecDepth 100000 in
theorem wX0_colourOf_0 {p : Program} {l : Launch} {e : Env} {s : State} {m : MethodId} {args : Array Value} {below : List Frame} {meth : Method} {c : Code} {D : va_G} {A : Nat → Prop} {Q : State → Prop} {cI : ClassId} {h_t h_t_colours h_s h_s_file h_s_file_bytes : Nat} {t_known : Int32} {t_depth : Int32} {t_packing : Int32} {t_isUpward : Int32} {t_column : Int32} {t_up : Int32} {t_colours : Nat → Int32} {s_place : Int32} {s_file_size : Int32} {s_file_bytes : Nat → Int32} {tg0 : Nat} {r0 : Int32} (C : CallFix p m c cX0_colourOf 3 s args wsX0_colourOf RX0) (hN : zN s) (hK : va_K D vwCl [(cI, .int)] s) (hA : ∀ q, s.heap.size ≤ q → A q) (hT : zTh A s) (hst : l.stackTraces = false) (hE : zTEi tg0 p l e (rmX0_colourOf tg0) s m args below meth c cX0_colourOf D A Q (zwX0 cI h_t h_t_colours t_known t_depth t_packing t_isUpward t_column t_up t_colours ++ zwX7 cI h_s h_s_file h_s_file_bytes s_place s_file_size s_file_bytes) r0) (hX : zTX tg0 p l e (rmX0_colourOf tg0) s m args below meth c D A Q (zwX0 cI h_t h_t_colours t_known t_depth t_packing t_isUpward t_column t_up t_colours ++ zwX7 cI h_s h_s_file h_s_file_bytes s_place s_file_size s_file_bytes)) {v1 : Int32} {H : Heap} {locs : List Loc} {ls : Array Slot} : fX0_colourOf t_known t_colours v1 = some (tg0, r0) → va_P D vwCl (zwX0 cI h_t h_t_colours t_known t_depth t_packing t_isUpward t_column t_up t_colours ++ zwX7 cI h_s h_s_file h_s_file_bytes s_place s_file_size s_file_bytes) H → va_D A (zwX0 cI h_t h_t_colours t_known t_depth t_packing t_isUpward t_column t_up t_colours ++ zwX7 cI h_s h_s_file h_s_file_bytes s_place s_file_size s_file_bytes) → va_S A s.heap H locs → lv_has ls 3 [(0, .ref h_t), (1, .ref h_s), (2, .int v1)] → W p l e (rmX0_colourOf tg0) s m args below meth c H locs 0 0 Q (F0 m 0 ls []) := by
  intro hf hP hD hS hl
  obtain ⟨hx, hb, hml, hown, hts⟩ := id C
  unfold fX0_colourOf at hf
  refine lv_aload_n hx hb dX0_colourOf_0 rfl (lv_at hl 1 rfl) ?_
  refine lv_iload_n hx hb dX0_colourOf_1 rfl (lv_at hl 2 rfl) ?_
  refine lv_aload_n hx hb dX0_colourOf_2 rfl (lv_at hl 0 rfl) ?_
  refine va_get (D := D) (ci := 0) (v := .int t_known) (C := RX0) (T := TX0) (N := 7) hx hb hts iX0_colourOf_X0 hown hK hP 0 rfl rfl 1 (by decide) (kX0_colourOf_27 hts) (fun _ h9 => h9) rfl dX0_colourOf_3 ?_
  refine lv_icmp_ge (tgt := 13) hx hb dX0_colourOf_6 (by decide) (fun c1 => ?_) (fun c1 => ?_)
  · replace hf := zif_t hf c1
    refine lv_iconst (v := 0) hx hb dX0_colourOf_13 (by decide) ?_
    exact wX0_colourOf_14 C hN hK hA hT hst hE hX hf hP hD hS (lv_sub hl [0, 1, 2] rfl)
  · replace hf := zif_f hf c1
    refine lv_iconst (v := 1) hx hb dX0_colourOf_9 (by decide) ?_
    refine lv_goto (tgt := 14) hx hb dX0_colourOf_10 (by decide) ?_
    exact wX0_colourOf_14 C hN hK hA hT hst hE hX hf hP hD hS (lv_sub hl [0, 1, 2] rfl)
set_option maxHeartbeats 4000000 in
set_option maxRecDepth 100000 in
theorem mX0_colourOf (l : Launch) (hst : l.stackTraces = false) (D : va_G) (cI : ClassId) (sz : Nat) (h_t h_t_colours h_s h_s_file h_s_file_bytes : Nat) (t_known : Int32) (t_depth : Int32) (t_packing : Int32) (t_isUpward : Int32) (t_column : Int32) (t_up : Int32) (t_colours : Nat → Int32) (s_place : Int32) (s_file_size : Int32) (s_file_bytes : Nat → Int32) (v1 : Int32) (tg0 : Nat) (r0 : Int32) (hf : fX0_colourOf t_known t_colours v1 = some (tg0, r0)) : vx_Met l yX0_colourOf wsX0_colourOf (rmX0_colourOf tg0) (va_Pc [.ref h_t, .ref h_s, .int v1] (zPT D [(cI, .int)] (zwX0 cI h_t h_t_colours t_known t_depth t_packing t_isUpward t_column t_up t_colours ++ zwX7 cI h_s h_s_file h_s_file_bytes s_place s_file_size s_file_bytes) sz)) (zQTi D (zwX0 cI h_t h_t_colours t_known t_depth t_packing t_isUpward t_column t_up t_colours ++ zwX7 cI h_s h_s_file h_s_file_bytes s_place s_file_size s_file_bytes) sz tg0 r0 (zwX0 cI h_t h_t_colours t_known t_depth t_packing t_isUpward t_column t_up t_colours ++ zwX7 cI h_s h_s_file h_s_file_bytes s_place s_file_size s_file_bytes)) (zXT D (zwX0 cI h_t h_t_colours t_known t_depth t_packing t_isUpward t_column t_up t_colours ++ zwX7 cI h_s h_s_file h_s_file_bytes s_place s_file_size s_file_bytes) sz tg0 (zwX0 cI h_t h_t_colours t_known t_depth t_packing t_isUpward t_column t_up t_colours ++ zwX7 cI h_s h_s_file h_s_file_bytes s_place s_file_size s_file_bytes)) (zc tg0) (zs tg0) (va_A (zwX0 cI h_t h_t_colours t_known t_depth t_packing t_isUpward t_column t_up t_colours ++ zwX7 cI h_s h_s_file h_s_file_bytes s_place s_file_size s_file_bytes) sz) := by
  refine vx_ofW (cc := cX0_colourOf) (maxL := 3) (ret := (some .int)) (by decide) rfl ?_
  intro p e s m args below meth c s₁ B hml htab hv
  obtain ⟨rfl, ⟨hsz, hP, hK, hD0, hN⟩, hT⟩ := hv
  subst hsz
  have C : CallFix p m c cX0_colourOf 3 s [.ref h_t, .ref h_s, .int v1].toArray wsX0_colourOf RX0 := ⟨B.exec, B.bytes, hml, findClass_of_methodNamed B.named, atoms_spec (ws := wsX0_colourOf) B.pre⟩
  have hl := lv_entry ([.ref h_t, .ref h_s, .int v1]) (n := 3) (Nat.le_of_ble_eq_true rfl)
  rw [lg_entry_eq]
  exact wX0_colourOf_0 (A := va_A (zwX0 cI h_t h_t_colours t_known t_depth t_packing t_isUpward t_column t_up t_colours ++ zwX7 cI h_s h_s_file h_s_file_bytes s_place s_file_size s_file_bytes) s.heap.size) C hN hK (fun q h => Or.inr h) hT hst (fun h0 H locs pc ls d hP hD hS => zendT_i C.1 C.2.1 B.returns B.notSynchronized h0 d hP hD hS) (fun H locs pc ls rest q9 ce h0 hP hD hS hq hv hcl => zoutT htab B.notSynchronized h0 hP hD hS hq hv hcl) hf hP hD0.self va_S.rf hl
def rmX0_readHeader (tg : Nat) : Room := { frames := 8, cells := zc tg, slots := zs tg, locals := 126 }
theorem kX0_readHeader_27 {args : Array Value} {s : State} (h : ∀ w ∈ wsX0_readHeader, w.before args s = true) : (Cond.fieldLink RX0 27 "FourPictureFiles$BitmapFormat" "known" "I").before args s = true := h _ (by decide +kernel)
theorem kX0_readHeader_114 {args : Array Value} {s : State} (h : ∀ w ∈ wsX0_readHeader, w.before args s = true) : (Cond.fieldLink RX0 114 "FourPictureFiles$BitmapFormat" "packing" "I").before args s = true := h _ (by decide +kernel)
theorem kX0_readHeader_126 {args : Array Value} {s : State} (h : ∀ w ∈ wsX0_readHeader, w.before args s = true) : (Cond.fieldLink RX0 126 "FourPictureFiles$BitmapFormat" "isUpward" "Z").before args s = true := h _ (by decide +kernel)
theorem kX0_readHeader_130 {args : Array Value} {s : State} (h : ∀ w ∈ wsX0_readHeader, w.before args s = true) : (Cond.fieldLink RX0 130 "FourPictureFiles$BitmapFormat" "depth" "I").before args s = true := h _ (by decide +kernel)
theorem iX0_readHeader_X0 : ∀ w ∈ u_ws RX0 TX0 7, w ∈ wsX0_readHeader := by decide +kernel
theorem qX0_readHeader_X5_begin_133 {args : Array Value} {s : State} {tg0 : Nat} (hts : ∀ w ∈ wsX0_readHeader, w.before args s = true) : CallW (rmX0_readHeader tg0) s args RX0 RX5 133 yX5_begin cX5_begin 3 none wsX5_begin rmX5_begin 0 0 2 := cwV 2 hts gX0_readHeader_X5_begin rfl rfl rfl (by decide +kernel) ⟨Nat.le_of_ble_eq_true rfl, Nat.le_of_ble_eq_true rfl⟩
theorem qX0_readHeader_X7_little_97 {args : Array Value} {s : State} {tg0 : Nat} {tg : Nat} (hts : ∀ w ∈ wsX0_readHeader, w.before args s = true) : CallW (rmX0_readHeader tg0) s args RX0 RX7 97 yX7_little cX7_little 4 (some .int) wsX7_little (rmX7_little tg) (zc tg) (zs tg) 1 := cwV 1 hts gX0_readHeader_X7_little rfl rfl rfl (by decide +kernel) ⟨Nat.le_of_ble_eq_true rfl, Nat.le_of_ble_eq_true rfl⟩
theorem qX0_readHeader_X7_need_110 {args : Array Value} {s : State} {tg0 : Nat} {tg : Nat} (hts : ∀ w ∈ wsX0_readHeader, w.before args s = true) : CallW (rmX0_readHeader tg0) s args RX0 RX7 110 yX7_need cX7_need 2 none wsX7_need (rmX7_need tg) (zc tg) (zs tg) 1 := cwV 1 hts gX0_readHeader_X7_need rfl rfl rfl (by decide +kernel) ⟨Nat.le_of_ble_eq_true rfl, Nat.le_of_ble_eq_true rfl⟩
theorem qX0_readHeader_X7_needSide_123 {args : Array Value} {s : State} {tg0 : Nat} {tg : Nat} (hts : ∀ w ∈ wsX0_readHeader, w.before args s = true) : CallW (rmX0_readHeader tg0) s args RX0 RX7 123 yX7_needSide cX7_needSide 2 (some .int) wsX7_needSide (rmX7_needSide tg) (zc tg) (zs tg) 1 := cwV 1 hts gX0_readHeader_X7_needSide rfl rfl rfl (by decide +kernel) ⟨Nat.le_of_ble_eq_true rfl, Nat.le_of_ble_eq_true rfl⟩
theorem qX0_readHeader_X7_pass_92 {args : Array Value} {s : State} {tg0 : Nat} {tg : Nat} (hts : ∀ w ∈ wsX0_readHeader, w.before args s = true) : CallW (rmX0_readHeader tg0) s args RX0 RX7 92 yX7_pass cX7_pass 3 none wsX7_pass (rmX7_pass tg) (zc tg) (zs tg) 1 := cwV 1 hts gX0_readHeader_X7_pass rfl rfl rfl (by decide +kernel) ⟨Nat.le_of_ble_eq_true rfl, Nat.le_of_ble_eq_true rfl⟩
set_option maxHeartbeats 4000000 in
set_option maxRecDepth 100000 in
theorem wX0_readHeader_236 {p : Program} {l : Launch} {e : Env} {s : State} {m : MethodId} {args : Array Value} {below : List Frame} {meth : Method} {c : Code} {D : va_G} {A : Nat → Prop} {Q : State → Prop} {cI : ClassId} {h_t h_t_colours h_s h_s_file h_s_file_bytes h_p h_p_pixels : Nat} {t_column : Int32} {t_up : Int32} {t_colours : Nat → Int32} {s_file_size : Int32} {s_file_bytes : Nat → Int32} {tg0 : Nat} {zt_known : Int32} {zt_depth : Int32} {zt_packing : Int32} {zt_isUpward : Int32} {zs_place : Int32} {zp_wide : Int32} {zp_high : Int32} {zp_pixels : Nat → Int32} (C : CallFix p m c cX0_readHeader 6 s args wsX0_readHeader RX0) (hN : zN s) (hK : va_K D vwCl [(cI, .int)] s) (hA : ∀ q, s.heap.size ≤ q → A q) (hT : zTh A s) (hst : l.stackTraces = false) (hE : zTEv tg0 p l e (rmX0_readHeader tg0) s m args below meth c cX0_readHeader D A Q (zwX0 cI h_t h_t_colours zt_known zt_depth zt_packing zt_isUpward t_column t_up t_colours ++ zwX7 cI h_s h_s_file h_s_file_bytes zs_place s_file_size s_file_bytes ++ zwX5 cI h_p h_p_pixels zp_wide zp_high zp_pixels)) (hX : zTX tg0 p l e (rmX0_readHeader tg0) s m args below meth c D A Q (zwX0 cI h_t h_t_colours zt_known zt_depth zt_packing zt_isUpward t_column t_up t_colours ++ zwX7 cI h_s h_s_file h_s_file_bytes zs_place s_file_size s_file_bytes ++ zwX5 cI h_p h_p_pixels zp_wide zp_high zp_pixels)) {t_known : Int32} {t_depth : Int32} {t_packing : Int32} {t_isUpward : Int32} {s_place : Int32} {p_wide : Int32} {p_high : Int32} {p_pixels : Nat → Int32} {l3 : Int32} {l4 : Int32} {l5 : Int32} {k1 : Int32} {H : Heap} {locs : List Loc} {ls : Array Slot} : fX0_readHeader_236 t_known t_depth t_packing t_isUpward s_place s_file_size s_file_bytes p_wide p_high p_pixels l3 l5 k1 = some (tg0, zt_known, zt_depth, zt_packing, zt_isUpward, zs_place, zp_wide, zp_high, zp_pixels) → va_P D vwCl (zwX0 cI h_t h_t_colours t_known t_depth t_packing t_isUpward t_column t_up t_colours ++ zwX7 cI h_s h_s_file h_s_file_bytes s_place s_file_size s_file_bytes ++ zwX5 cI h_p h_p_pixels p_wide p_high p_pixels) H → va_D A (zwX0 cI h_t h_t_colours t_known t_depth t_packing t_isUpward t_column t_up t_colours ++ zwX7 cI h_s h_s_file h_s_file_bytes s_place s_file_size s_file_bytes ++ zwX5 cI h_p h_p_pixels p_wide p_high p_pixels) → va_S A s.heap H locs → lv_has ls 6 [(0, .ref h_t), (1, .ref h_s), (2, .ref h_p), (3, .int l3), (4, .int l4), (5, .int l5)] → W p l e (rmX0_readHeader tg0) s m args below meth c H locs 0 0 Q (F0 m 236 ls [.int k1, .ref h_s]) := by
  intro hf hP hD hS hl
  obtain ⟨hx, hb, hml, hown, hts⟩ := id C
  unfold fX0_readHeader_236 at hf
  obtain ⟨tg1, hc2, hf⟩ := zb1_in hf
  have hle := zT_le hf
  refine zcx_v (vx_runV (As := [.int k1]) (rest := []) C (mX7_need l hst D cI H.size h_s h_s_file h_s_file_bytes s_place s_file_size s_file_bytes k1 tg1 hc2) (qX0_readHeader_X7_need_110 hts) ⟨zPT_blind, va_recv hK hP (ci := 6) (q0 := 2) rfl rfl, zpreT hK hN hT hA hS hP hD [2, 3, 4] rfl rfl⟩ rfl rfl hl.1 rfl (lv_room (Nat.le_of_ble_eq_true rfl)) dX0_readHeader_236 hle) hP hD hS hA [2, 3, 4] [0, 1, 5, 6] [0, 1, 4, 5, 6, 2, 3] (ws' := zwX0 cI h_t h_t_colours t_known t_depth t_packing t_isUpward t_column t_up t_colours ++ zwX7 cI h_s h_s_file h_s_file_bytes s_place s_file_size s_file_bytes ++ zwX5 cI h_p h_p_pixels p_wide p_high p_pixels) rfl rfl rfl rfl rfl rfl (fun ht H locs q9 ce hP hD hS hq hv hcl => ?_) (fun ht H locs hP hD hS => ?_)
  · replace hf := zif_f hf ht
    cases hf
    exact hX _ _ _ _ _ _ _ ht hP hD hS hq hv hcl
  · replace hf := zif_t hf ht
    clear hle
    refine lv_aload_n hx hb dX0_readHeader_239 rfl (lv_at hl 1 rfl) ?_
    refine lv_iconst (v := 4) hx hb dX0_readHeader_240 (by decide) ?_
    obtain ⟨tg3, u4, hc5, hf⟩ := zb2_in hf
    have hle := zT_le hf
    refine zcx_v (vx_runV (As := [.int 4]) (rest := []) C (mX7_pass l hst D cI H.size h_s h_s_file h_s_file_bytes s_place s_file_size s_file_bytes 4 tg3 u4 hc5) (qX0_readHeader_X7_pass_92 hts) ⟨zPT_blind, va_recv hK hP (ci := 6) (q0 := 2) rfl rfl, zpreT hK hN hT hA hS hP hD [2, 3, 4] rfl rfl⟩ rfl rfl hl.1 rfl (lv_room (Nat.le_of_ble_eq_true rfl)) dX0_readHeader_241 hle) hP hD hS hA [2, 3, 4] [0, 1, 5, 6] [0, 1, 4, 5, 6, 2, 3] (ws' := zwX0 cI h_t h_t_colours t_known t_depth t_packing t_isUpward t_column t_up t_colours ++ zwX7 cI h_s h_s_file h_s_file_bytes u4 s_file_size s_file_bytes ++ zwX5 cI h_p h_p_pixels p_wide p_high p_pixels) rfl rfl rfl rfl rfl rfl (fun ht H locs q9 ce hP hD hS hq hv hcl => ?_) (fun ht H locs hP hD hS => ?_)
    · replace hf := zif_f hf ht
      cases hf
      exact hX _ _ _ _ _ _ _ ht hP hD hS hq hv hcl
    · replace hf := zif_t hf ht
      clear hle
      refine lv_aload_n hx hb dX0_readHeader_244 rfl (lv_at hl 2 rfl) ?_
      refine lv_iload_n hx hb dX0_readHeader_245 rfl (lv_at hl 3 rfl) ?_
      refine lv_iload hx hb dX0_readHeader_246 (lv_at hl 5 rfl) ?_
      obtain ⟨u6, u7, u8, hc9, hf⟩ := zb3_in hf
      refine zc_v (va_runV (As := [.int l3, .int l5]) (rest := []) C (mX5_begin l D cI H.size h_p h_p_pixels p_wide p_high p_pixels l3 l5 u6 u7 u8 hc9) (qX0_readHeader_X5_begin_133 hts) ⟨zP_blind, va_recv hK hP (ci := 4) (q0 := 5) rfl rfl, zpre hK hN hP hD [5, 6] rfl rfl⟩ rfl rfl hl.1 rfl (lv_room (Nat.le_of_ble_eq_true rfl)) dX0_readHeader_248 ⟨Nat.zero_le _, Nat.zero_le _⟩) hP hD hS hA [5, 6] [0, 1, 2, 3, 4] [0, 1, 2, 3, 4, 5, 6] (ws' := zwX0 cI h_t h_t_colours t_known t_depth t_packing t_isUpward t_column t_up t_colours ++ zwX7 cI h_s h_s_file h_s_file_bytes u4 s_file_size s_file_bytes ++ zwX5 cI h_p h_p_pixels u6 u7 u8) rfl rfl rfl rfl rfl rfl (fun H locs hP hD hS => ?_)
      cases hf
      exact hE rfl _ _ _ _ dX0_readHeader_251 hP hD hS
set_option maxHeartbeats 4000000 in
set_option maxRecDepth 100000 in
theorem wX0_readHeader_220 {p : Program} {l : Launch} {e : Env} {s : State} {m : MethodId} {args : Array Value} {below : List Frame} {meth : Method} {c : Code} {D : va_G} {A : Nat → Prop} {Q : State → Prop} {cI : ClassId} {h_t h_t_colours h_s h_s_file h_s_file_bytes h_p h_p_pixels : Nat} {t_column : Int32} {t_up : Int32} {t_colours : Nat → Int32} {s_file_size : Int32} {s_file_bytes : Nat → Int32} {tg0 : Nat} {zt_known : Int32} {zt_depth : Int32} {zt_packing : Int32} {zt_isUpward : Int32} {zs_place : Int32} {zp_wide : Int32} {zp_high : Int32} {zp_pixels : Nat → Int32} (C : CallFix p m c cX0_readHeader 6 s args wsX0_readHeader RX0) (hN : zN s) (hK : va_K D vwCl [(cI, .int)] s) (hA : ∀ q, s.heap.size ≤ q → A q) (hT : zTh A s) (hst : l.stackTraces = false) (hE : zTEv tg0 p l e (rmX0_readHeader tg0) s m args below meth c cX0_readHeader D A Q (zwX0 cI h_t h_t_colours zt_known zt_depth zt_packing zt_isUpward t_column t_up t_colours ++ zwX7 cI h_s h_s_file h_s_file_bytes zs_place s_file_size s_file_bytes ++ zwX5 cI h_p h_p_pixels zp_wide zp_high zp_pixels)) (hX : zTX tg0 p l e (rmX0_readHeader tg0) s m args below meth c D A Q (zwX0 cI h_t h_t_colours zt_known zt_depth zt_packing zt_isUpward t_column t_up t_colours ++ zwX7 cI h_s h_s_file h_s_file_bytes zs_place s_file_size s_file_bytes ++ zwX5 cI h_p h_p_pixels zp_wide zp_high zp_pixels)) {t_known : Int32} {t_depth : Int32} {t_packing : Int32} {t_isUpward : Int32} {s_place : Int32} {p_wide : Int32} {p_high : Int32} {p_pixels : Nat → Int32} {l3 : Int32} {l4 : Int32} {l5 : Int32} {H : Heap} {locs : List Loc} {ls : Array Slot} : fX0_readHeader_220 t_known t_depth t_packing t_isUpward s_place s_file_size s_file_bytes p_wide p_high p_pixels l3 l5 = some (tg0, zt_known, zt_depth, zt_packing, zt_isUpward, zs_place, zp_wide, zp_high, zp_pixels) → va_P D vwCl (zwX0 cI h_t h_t_colours t_known t_depth t_packing t_isUpward t_column t_up t_colours ++ zwX7 cI h_s h_s_file h_s_file_bytes s_place s_file_size s_file_bytes ++ zwX5 cI h_p h_p_pixels p_wide p_high p_pixels) H → va_D A (zwX0 cI h_t h_t_colours t_known t_depth t_packing t_isUpward t_column t_up t_colours ++ zwX7 cI h_s h_s_file h_s_file_bytes s_place s_file_size s_file_bytes ++ zwX5 cI h_p h_p_pixels p_wide p_high p_pixels) → va_S A s.heap H locs → lv_has ls 6 [(0, .ref h_t), (1, .ref h_s), (2, .ref h_p), (3, .int l3), (4, .int l4), (5, .int l5)] → W p l e (rmX0_readHeader tg0) s m args below meth c H locs 0 0 Q (F0 m 220 ls [.ref h_s]) := by
  intro hf hP hD hS hl
  obtain ⟨hx, hb, hml, hown, hts⟩ := id C
  unfold fX0_readHeader_220 at hf
  refine lv_iconst (v := 0) hx hb dX0_readHeader_220 (by decide) ?_
  refine lv_goto (tgt := 236) hx hb dX0_readHeader_221 (by decide) ?_
  exact wX0_readHeader_236 C hN hK hA hT hst hE hX hf hP hD hS (lv_sub hl [0, 1, 2, 3, 4, 5] rfl)
set_option maxHeartbeats 4000000 in
set_option maxRecDepth 100000 in
theorem wX0_readHeader_171 {p : Program} {l : Launch} {e : Env} {s : State} {m : MethodId} {args : Array Value} {below : List Frame} {meth : Method} {c : Code} {D : va_G} {A : Nat → Prop} {Q : State → Prop} {cI : ClassId} {h_t h_t_colours h_s h_s_file h_s_file_bytes h_p h_p_pixels : Nat} {t_column : Int32} {t_up : Int32} {t_colours : Nat → Int32} {s_file_size : Int32} {s_file_bytes : Nat → Int32} {tg0 : Nat} {zt_known : Int32} {zt_depth : Int32} {zt_packing : Int32} {zt_isUpward : Int32} {zs_place : Int32} {zp_wide : Int32} {zp_high : Int32} {zp_pixels : Nat → Int32} (C : CallFix p m c cX0_readHeader 6 s args wsX0_readHeader RX0) (hN : zN s) (hK : va_K D vwCl [(cI, .int)] s) (hA : ∀ q, s.heap.size ≤ q → A q) (hT : zTh A s) (hst : l.stackTraces = false) (hE : zTEv tg0 p l e (rmX0_readHeader tg0) s m args below meth c cX0_readHeader D A Q (zwX0 cI h_t h_t_colours zt_known zt_depth zt_packing zt_isUpward t_column t_up t_colours ++ zwX7 cI h_s h_s_file h_s_file_bytes zs_place s_file_size s_file_bytes ++ zwX5 cI h_p h_p_pixels zp_wide zp_high zp_pixels)) (hX : zTX tg0 p l e (rmX0_readHeader tg0) s m args below meth c D A Q (zwX0 cI h_t h_t_colours zt_known zt_depth zt_packing zt_isUpward t_column t_up t_colours ++ zwX7 cI h_s h_s_file h_s_file_bytes zs_place s_file_size s_file_bytes ++ zwX5 cI h_p h_p_pixels zp_wide zp_high zp_pixels)) {t_known : Int32} {t_depth : Int32} {t_packing : Int32} {t_isUpward : Int32} {s_place : Int32} {p_wide : Int32} {p_high : Int32} {p_pixels : Nat → Int32} {l3 : Int32} {l4 : Int32} {l5 : Int32} {k1 : Int32} {H : Heap} {locs : List Loc} {ls : Array Slot} : fX0_readHeader_171 t_known t_depth t_packing t_isUpward s_place s_file_size s_file_bytes p_wide p_high p_pixels l3 l5 k1 = some (tg0, zt_known, zt_depth, zt_packing, zt_isUpward, zs_place, zp_wide, zp_high, zp_pixels) → va_P D vwCl (zwX0 cI h_t h_t_colours t_known t_depth t_packing t_isUpward t_column t_up t_colours ++ zwX7 cI h_s h_s_file h_s_file_bytes s_place s_file_size s_file_bytes ++ zwX5 cI h_p h_p_pixels p_wide p_high p_pixels) H → va_D A (zwX0 cI h_t h_t_colours t_known t_depth t_packing t_isUpward t_column t_up t_colours ++ zwX7 cI h_s h_s_file h_s_file_bytes s_place s_file_size s_file_bytes ++ zwX5 cI h_p h_p_pixels p_wide p_high p_pixels) → va_S A s.heap H locs → lv_has ls 6 [(0, .ref h_t), (1, .ref h_s), (2, .ref h_p), (3, .int l3), (4, .int l4), (5, .int l5)] → W p l e (rmX0_readHeader tg0) s m args below meth c H locs 0 0 Q (F0 m 171 ls [.int k1, .ref h_s]) := by
  intro hf hP hD hS hl
  obtain ⟨hx, hb, hml, hown, hts⟩ := id C
  unfold fX0_readHeader_171 at hf
  obtain ⟨tg1, hc2, hf⟩ := zb1_in hf
  have hle := zT_le hf
  refine zcx_v (vx_runV (As := [.int k1]) (rest := []) C (mX7_need l hst D cI H.size h_s h_s_file h_s_file_bytes s_place s_file_size s_file_bytes k1 tg1 hc2) (qX0_readHeader_X7_need_110 hts) ⟨zPT_blind, va_recv hK hP (ci := 6) (q0 := 2) rfl rfl, zpreT hK hN hT hA hS hP hD [2, 3, 4] rfl rfl⟩ rfl rfl hl.1 rfl (lv_room (Nat.le_of_ble_eq_true rfl)) dX0_readHeader_171 hle) hP hD hS hA [2, 3, 4] [0, 1, 5, 6] [0, 1, 4, 5, 6, 2, 3] (ws' := zwX0 cI h_t h_t_colours t_known t_depth t_packing t_isUpward t_column t_up t_colours ++ zwX7 cI h_s h_s_file h_s_file_bytes s_place s_file_size s_file_bytes ++ zwX5 cI h_p h_p_pixels p_wide p_high p_pixels) rfl rfl rfl rfl rfl rfl (fun ht H locs q9 ce hP hD hS hq hv hcl => ?_) (fun ht H locs hP hD hS => ?_)
  · replace hf := zif_f hf ht
    cases hf
    exact hX _ _ _ _ _ _ _ ht hP hD hS hq hv hcl
  · replace hf := zif_t hf ht
    clear hle
    refine lv_aload_n hx hb dX0_readHeader_174 rfl (lv_at hl 1 rfl) ?_
    refine lv_bipush (v := 12) hx hb dX0_readHeader_175 (by decide) ?_
    obtain ⟨tg3, u4, hc5, hf⟩ := zb2_in hf
    have hle := zT_le hf
    refine zcx_v (vx_runV (As := [.int 12]) (rest := []) C (mX7_pass l hst D cI H.size h_s h_s_file h_s_file_bytes s_place s_file_size s_file_bytes 12 tg3 u4 hc5) (qX0_readHeader_X7_pass_92 hts) ⟨zPT_blind, va_recv hK hP (ci := 6) (q0 := 2) rfl rfl, zpreT hK hN hT hA hS hP hD [2, 3, 4] rfl rfl⟩ rfl rfl hl.1 rfl (lv_room (Nat.le_of_ble_eq_true rfl)) dX0_readHeader_177 hle) hP hD hS hA [2, 3, 4] [0, 1, 5, 6] [0, 1, 4, 5, 6, 2, 3] (ws' := zwX0 cI h_t h_t_colours t_known t_depth t_packing t_isUpward t_column t_up t_colours ++ zwX7 cI h_s h_s_file h_s_file_bytes u4 s_file_size s_file_bytes ++ zwX5 cI h_p h_p_pixels p_wide p_high p_pixels) rfl rfl rfl rfl rfl rfl (fun ht H locs q9 ce hP hD hS hq hv hcl => ?_) (fun ht H locs hP hD hS => ?_)
    · replace hf := zif_f hf ht
      cases hf
      exact hX _ _ _ _ _ _ _ ht hP hD hS hq hv hcl
    · replace hf := zif_t hf ht
      clear hle
      refine lv_aload_n hx hb dX0_readHeader_180 rfl (lv_at hl 0 rfl) ?_
      refine lv_aload_n hx hb dX0_readHeader_181 rfl (lv_at hl 1 rfl) ?_
      refine lv_iconst (v := 4) hx hb dX0_readHeader_182 (by decide) ?_
      obtain ⟨tg6, r7, u8, hc9, hf⟩ := zb3_in hf
      have hle := zT_le hf
      refine zcx_i (vx_runV (As := [.int 4]) (rest := [.ref h_t]) C (mX7_little l hst D cI H.size h_s h_s_file h_s_file_bytes u4 s_file_size s_file_bytes 4 tg6 r7 u8 hc9) (qX0_readHeader_X7_little_97 hts) ⟨zPT_blind, va_recv hK hP (ci := 6) (q0 := 2) rfl rfl, zpreT hK hN hT hA hS hP hD [2, 3, 4] rfl rfl⟩ rfl rfl hl.1 rfl (lv_room (Nat.le_of_ble_eq_true rfl)) dX0_readHeader_183 hle) hP hD hS hA [2, 3, 4] [0, 1, 5, 6] [0, 1, 4, 5, 6, 2, 3] (ws' := zwX0 cI h_t h_t_colours t_known t_depth t_packing t_isUpward t_column t_up t_colours ++ zwX7 cI h_s h_s_file h_s_file_bytes u8 s_file_size s_file_bytes ++ zwX5 cI h_p h_p_pixels p_wide p_high p_pixels) rfl rfl rfl rfl rfl rfl (fun ht H locs q9 ce hP hD hS hq hv hcl => ?_) (fun ht H locs hP hD hS => ?_)
      · replace hf := zif_f hf ht
        cases hf
        exact hX _ _ _ _ _ _ _ ht hP hD hS hq hv hcl
      · replace hf := zif_t hf ht
        clear hle
        refine va_put (D := D) (ci := 0) (v := .int r7) (ty := .int) (C := RX0) (T := TX0) (N := 7) hx hb hts iX0_readHeader_X0 tyX0 tyX0_ok nmX0 hown hK hP hD hS 0 rfl rfl 1 (by decide) (kX0_readHeader_27 hts) (fun _ h9 => h9) rfl (by decide +kernel) rfl rfl (Nat.le_of_ble_eq_true rfl) dX0_readHeader_186 (fun H locs hP hD hS => ?_)
        replace hP : va_P D vwCl (zwX0 cI h_t h_t_colours r7 t_depth t_packing t_isUpward t_column t_up t_colours ++ zwX7 cI h_s h_s_file h_s_file_bytes u8 s_file_size s_file_bytes ++ zwX5 cI h_p h_p_pixels p_wide p_high p_pixels) H := hP
        replace hD : va_D A (zwX0 cI h_t h_t_colours r7 t_depth t_packing t_isUpward t_column t_up t_colours ++ zwX7 cI h_s h_s_file h_s_file_bytes u8 s_file_size s_file_bytes ++ zwX5 cI h_p h_p_pixels p_wide p_high p_pixels) := hD
        refine lv_aload_n hx hb dX0_readHeader_189 rfl (lv_at hl 1 rfl) ?_
        refine lv_aload_n hx hb dX0_readHeader_190 rfl (lv_at hl 0 rfl) ?_
        refine va_get (D := D) (ci := 0) (v := .int t_depth) (C := RX0) (T := TX0) (N := 7) hx hb hts iX0_readHeader_X0 hown hK hP 0 rfl rfl 2 (by decide) (kX0_readHeader_130 hts) (fun _ h9 => h9) rfl dX0_readHeader_191 ?_
        refine lv_bipush (v := 8) hx hb dX0_readHeader_194 (by decide) ?_
        refine lv_icmp_ne (tgt := 224) hx hb dX0_readHeader_196 (by decide) (fun c10 => ?_) (fun c10 => ?_)
        · replace hf := zif_f hf c10
          refine lv_aload_n hx hb dX0_readHeader_224 rfl (lv_at hl 0 rfl) ?_
          refine va_get (D := D) (ci := 0) (v := .int r7) (C := RX0) (T := TX0) (N := 7) hx hb hts iX0_readHeader_X0 hown hK hP 0 rfl rfl 1 (by decide) (kX0_readHeader_27 hts) (fun _ h9 => h9) rfl dX0_readHeader_225 ?_
          refine lv_if_ne (tgt := 235) hx hb dX0_readHeader_228 (by decide) (fun c11 => ?_) (fun c11 => ?_)
          · replace hf := zif_f hf c11
            refine lv_iconst (v := 0) hx hb dX0_readHeader_235 (by decide) ?_
            exact wX0_readHeader_236 C hN hK hA hT hst hE hX hf hP hD hS (lv_sub hl [0, 1, 2, 3, 4, 5] rfl)
          · replace hf := zif_t hf c11
            refine lv_iconst (v := 1) hx hb dX0_readHeader_231 (by decide) ?_
            refine lv_goto (tgt := 236) hx hb dX0_readHeader_232 (by decide) ?_
            exact wX0_readHeader_236 C hN hK hA hT hst hE hX hf hP hD hS (lv_sub hl [0, 1, 2, 3, 4, 5] rfl)
        · replace hf := zif_t hf c10
          refine lv_aload_n hx hb dX0_readHeader_199 rfl (lv_at hl 0 rfl) ?_
          refine va_get (D := D) (ci := 0) (v := .int r7) (C := RX0) (T := TX0) (N := 7) hx hb hts iX0_readHeader_X0 hown hK hP 0 rfl rfl 1 (by decide) (kX0_readHeader_27 hts) (fun _ h9 => h9) rfl dX0_readHeader_200 ?_
          refine lv_iconst (v := 1) hx hb dX0_readHeader_203 (by decide) ?_
          refine lv_icmp_lt (tgt := 220) hx hb dX0_readHeader_204 (by decide) (fun c12 => ?_) (fun c12 => ?_)
          · replace hf := zif_t hf c12
            exact wX0_readHeader_220 C hN hK hA hT hst hE hX hf hP hD hS (lv_sub hl [0, 1, 2, 3, 4, 5] rfl)
          · replace hf := zif_f hf c12
            refine lv_aload_n hx hb dX0_readHeader_207 rfl (lv_at hl 0 rfl) ?_
            refine va_get (D := D) (ci := 0) (v := .int r7) (C := RX0) (T := TX0) (N := 7) hx hb hts iX0_readHeader_X0 hown hK hP 0 rfl rfl 1 (by decide) (kX0_readHeader_27 hts) (fun _ h9 => h9) rfl dX0_readHeader_208 ?_
            refine lv_bipush (v := 64) hx hb dX0_readHeader_211 (by decide) ?_
            refine lv_icmp_gt (tgt := 220) hx hb dX0_readHeader_213 (by decide) (fun c13 => ?_) (fun c13 => ?_)
            · replace hf := zif_t hf c13
              exact wX0_readHeader_220 C hN hK hA hT hst hE hX hf hP hD hS (lv_sub hl [0, 1, 2, 3, 4, 5] rfl)
            · replace hf := zif_f hf c13
              refine lv_iconst (v := 1) hx hb dX0_readHeader_216 (by decide) ?_
              refine lv_goto (tgt := 236) hx hb dX0_readHeader_217 (by decide) ?_
              exact wX0_readHeader_236 C hN hK hA hT hst hE hX hf hP hD hS (lv_sub hl [0, 1, 2, 3, 4, 5] rfl)
set_option maxHeartbeats 4000000 in
set_option maxRecDepth 100000 in
theorem wX0_readHeader_166 {p : Program} {l : Launch} {e : Env} {s : State} {m : MethodId} {args : Array Value} {below : List Frame} {meth : Method} {c : Code} {D : va_G} {A : Nat → Prop} {Q : State → Prop} {cI : ClassId} {h_t h_t_colours h_s h_s_file h_s_file_bytes h_p h_p_pixels : Nat} {t_column : Int32} {t_up : Int32} {t_colours : Nat → Int32} {s_file_size : Int32} {s_file_bytes : Nat → Int32} {tg0 : Nat} {zt_known : Int32} {zt_depth : Int32} {zt_packing : Int32} {zt_isUpward : Int32} {zs_place : Int32} {zp_wide : Int32} {zp_high : Int32} {zp_pixels : Nat → Int32} (C : CallFix p m c cX0_readHeader 6 s args wsX0_readHeader RX0) (hN : zN s) (hK : va_K D vwCl [(cI, .int)] s) (hA : ∀ q, s.heap.size ≤ q → A q) (hT : zTh A s) (hst : l.stackTraces = false) (hE : zTEv tg0 p l e (rmX0_readHeader tg0) s m args below meth c cX0_readHeader D A Q (zwX0 cI h_t h_t_colours zt_known zt_depth zt_packing zt_isUpward t_column t_up t_colours ++ zwX7 cI h_s h_s_file h_s_file_bytes zs_place s_file_size s_file_bytes ++ zwX5 cI h_p h_p_pixels zp_wide zp_high zp_pixels)) (hX : zTX tg0 p l e (rmX0_readHeader tg0) s m args below meth c D A Q (zwX0 cI h_t h_t_colours zt_known zt_depth zt_packing zt_isUpward t_column t_up t_colours ++ zwX7 cI h_s h_s_file h_s_file_bytes zs_place s_file_size s_file_bytes ++ zwX5 cI h_p h_p_pixels zp_wide zp_high zp_pixels)) {t_known : Int32} {t_depth : Int32} {t_packing : Int32} {t_isUpward : Int32} {s_place : Int32} {p_wide : Int32} {p_high : Int32} {p_pixels : Nat → Int32} {l3 : Int32} {l4 : Int32} {l5 : Int32} {H : Heap} {locs : List Loc} {ls : Array Slot} : fX0_readHeader_166 t_known t_depth t_packing t_isUpward s_place s_file_size s_file_bytes p_wide p_high p_pixels l3 l5 = some (tg0, zt_known, zt_depth, zt_packing, zt_isUpward, zs_place, zp_wide, zp_high, zp_pixels) → va_P D vwCl (zwX0 cI h_t h_t_colours t_known t_depth t_packing t_isUpward t_column t_up t_colours ++ zwX7 cI h_s h_s_file h_s_file_bytes s_place s_file_size s_file_bytes ++ zwX5 cI h_p h_p_pixels p_wide p_high p_pixels) H → va_D A (zwX0 cI h_t h_t_colours t_known t_depth t_packing t_isUpward t_column t_up t_colours ++ zwX7 cI h_s h_s_file h_s_file_bytes s_place s_file_size s_file_bytes ++ zwX5 cI h_p h_p_pixels p_wide p_high p_pixels) → va_S A s.heap H locs → lv_has ls 6 [(0, .ref h_t), (1, .ref h_s), (2, .ref h_p), (3, .int l3), (4, .int l4), (5, .int l5)] → W p l e (rmX0_readHeader tg0) s m args below meth c H locs 0 0 Q (F0 m 166 ls [.ref h_s]) := by
  intro hf hP hD hS hl
  obtain ⟨hx, hb, hml, hown, hts⟩ := id C
  unfold fX0_readHeader_166 at hf
  refine lv_iconst (v := 1) hx hb dX0_readHeader_166 (by decide) ?_
  refine lv_goto (tgt := 171) hx hb dX0_readHeader_167 (by decide) ?_
  exact wX0_readHeader_171 C hN hK hA hT hst hE hX hf hP hD hS (lv_sub hl [0, 1, 2, 3, 4, 5] rfl)
set_option maxHeartbeats 4000000 in
set_option maxRecDepth 100000 in
theorem wX0_readHeader_170 {p : Program} {l : Launch} {e : Env} {s : State} {m : MethodId} {args : Array Value} {below : List Frame} {meth : Method} {c : Code} {D : va_G} {A : Nat → Prop} {Q : State → Prop} {cI : ClassId} {h_t h_t_colours h_s h_s_file h_s_file_bytes h_p h_p_pixels : Nat} {t_column : Int32} {t_up : Int32} {t_colours : Nat → Int32} {s_file_size : Int32} {s_file_bytes : Nat → Int32} {tg0 : Nat} {zt_known : Int32} {zt_depth : Int32} {zt_packing : Int32} {zt_isUpward : Int32} {zs_place : Int32} {zp_wide : Int32} {zp_high : Int32} {zp_pixels : Nat → Int32} (C : CallFix p m c cX0_readHeader 6 s args wsX0_readHeader RX0) (hN : zN s) (hK : va_K D vwCl [(cI, .int)] s) (hA : ∀ q, s.heap.size ≤ q → A q) (hT : zTh A s) (hst : l.stackTraces = false) (hE : zTEv tg0 p l e (rmX0_readHeader tg0) s m args below meth c cX0_readHeader D A Q (zwX0 cI h_t h_t_colours zt_known zt_depth zt_packing zt_isUpward t_column t_up t_colours ++ zwX7 cI h_s h_s_file h_s_file_bytes zs_place s_file_size s_file_bytes ++ zwX5 cI h_p h_p_pixels zp_wide zp_high zp_pixels)) (hX : zTX tg0 p l e (rmX0_readHeader tg0) s m args below meth c D A Q (zwX0 cI h_t h_t_colours zt_known zt_depth zt_packing zt_isUpward t_column t_up t_colours ++ zwX7 cI h_s h_s_file h_s_file_bytes zs_place s_file_size s_file_bytes ++ zwX5 cI h_p h_p_pixels zp_wide zp_high zp_pixels)) {t_known : Int32} {t_depth : Int32} {t_packing : Int32} {t_isUpward : Int32} {s_place : Int32} {p_wide : Int32} {p_high : Int32} {p_pixels : Nat → Int32} {l3 : Int32} {l4 : Int32} {l5 : Int32} {H : Heap} {locs : List Loc} {ls : Array Slot} : fX0_readHeader_170 t_known t_depth t_packing t_isUpward s_place s_file_size s_file_bytes p_wide p_high p_pixels l3 l5 = some (tg0, zt_known, zt_depth, zt_packing, zt_isUpward, zs_place, zp_wide, zp_high, zp_pixels) → va_P D vwCl (zwX0 cI h_t h_t_colours t_known t_depth t_packing t_isUpward t_column t_up t_colours ++ zwX7 cI h_s h_s_file h_s_file_bytes s_place s_file_size s_file_bytes ++ zwX5 cI h_p h_p_pixels p_wide p_high p_pixels) H → va_D A (zwX0 cI h_t h_t_colours t_known t_depth t_packing t_isUpward t_column t_up t_colours ++ zwX7 cI h_s h_s_file h_s_file_bytes s_place s_file_size s_file_bytes ++ zwX5 cI h_p h_p_pixels p_wide p_high p_pixels) → va_S A s.heap H locs → lv_has ls 6 [(0, .ref h_t), (1, .ref h_s), (2, .ref h_p), (3, .int l3), (4, .int l4), (5, .int l5)] → W p l e (rmX0_readHeader tg0) s m args below meth c H locs 0 0 Q (F0 m 170 ls [.ref h_s]) := by
  intro hf hP hD hS hl
  obtain ⟨hx, hb, hml, hown, hts⟩ := id C
  unfold fX0_readHeader_170 at hf
  refine lv_iconst (v := 0) hx hb dX0_readHeader_170 (by decide) ?_
  exact wX0_readHeader_171 C hN hK hA hT hst hE hX hf hP hD hS (lv_sub hl [0, 1, 2, 3, 4, 5] rfl)
set_option maxHeartbeats 4000000 in
set_option maxRecDepth 100000 in
theorem wX0_readHeader_122 {p : Program} {l : Launch} {e : Env} {s : State} {m : MethodId} {args : Array Value} {below : List Frame} {meth : Method} {c : Code} {D : va_G} {A : Nat → Prop} {Q : State → Prop} {cI : ClassId} {h_t h_t_colours h_s h_s_file h_s_file_bytes h_p h_p_pixels : Nat} {t_column : Int32} {t_up : Int32} {t_colours : Nat → Int32} {s_file_size : Int32} {s_file_bytes : Nat → Int32} {tg0 : Nat} {zt_known : Int32} {zt_depth : Int32} {zt_packing : Int32} {zt_isUpward : Int32} {zs_place : Int32} {zp_wide : Int32} {zp_high : Int32} {zp_pixels : Nat → Int32} (C : CallFix p m c cX0_readHeader 6 s args wsX0_readHeader RX0) (hN : zN s) (hK : va_K D vwCl [(cI, .int)] s) (hA : ∀ q, s.heap.size ≤ q → A q) (hT : zTh A s) (hst : l.stackTraces = false) (hE : zTEv tg0 p l e (rmX0_readHeader tg0) s m args below meth c cX0_readHeader D A Q (zwX0 cI h_t h_t_colours zt_known zt_depth zt_packing zt_isUpward t_column t_up t_colours ++ zwX7 cI h_s h_s_file h_s_file_bytes zs_place s_file_size s_file_bytes ++ zwX5 cI h_p h_p_pixels zp_wide zp_high zp_pixels)) (hX : zTX tg0 p l e (rmX0_readHeader tg0) s m args below meth c D A Q (zwX0 cI h_t h_t_colours zt_known zt_depth zt_packing zt_isUpward t_column t_up t_colours ++ zwX7 cI h_s h_s_file h_s_file_bytes zs_place s_file_size s_file_bytes ++ zwX5 cI h_p h_p_pixels zp_wide zp_high zp_pixels)) {t_known : Int32} {t_depth : Int32} {t_packing : Int32} {t_isUpward : Int32} {s_place : Int32} {p_wide : Int32} {p_high : Int32} {p_pixels : Nat → Int32} {l3 : Int32} {l4 : Int32} {l5 : Int32} {k1 : Int32} {H : Heap} {locs : List Loc} {ls : Array Slot} : fX0_readHeader_122 t_known t_depth t_packing t_isUpward s_place s_file_size s_file_bytes p_wide p_high p_pixels l3 l5 k1 = some (tg0, zt_known, zt_depth, zt_packing, zt_isUpward, zs_place, zp_wide, zp_high, zp_pixels) → va_P D vwCl (zwX0 cI h_t h_t_colours t_known t_depth t_packing t_isUpward t_column t_up t_colours ++ zwX7 cI h_s h_s_file h_s_file_bytes s_place s_file_size s_file_bytes ++ zwX5 cI h_p h_p_pixels p_wide p_high p_pixels) H → va_D A (zwX0 cI h_t h_t_colours t_known t_depth t_packing t_isUpward t_column t_up t_colours ++ zwX7 cI h_s h_s_file h_s_file_bytes s_place s_file_size s_file_bytes ++ zwX5 cI h_p h_p_pixels p_wide p_high p_pixels) → va_S A s.heap H locs → lv_has ls 6 [(0, .ref h_t), (1, .ref h_s), (2, .ref h_p), (3, .int l3), (4, .int l4), (5, .int l5)] → W p l e (rmX0_readHeader tg0) s m args below meth c H locs 0 0 Q (F0 m 122 ls [.int k1, .ref h_s]) := by
  intro hf hP hD hS hl
  obtain ⟨hx, hb, hml, hown, hts⟩ := id C
  unfold fX0_readHeader_122 at hf
  obtain ⟨tg1, hc2, hf⟩ := zb1_in hf
  have hle := zT_le hf
  refine zcx_v (vx_runV (As := [.int k1]) (rest := []) C (mX7_need l hst D cI H.size h_s h_s_file h_s_file_bytes s_place s_file_size s_file_bytes k1 tg1 hc2) (qX0_readHeader_X7_need_110 hts) ⟨zPT_blind, va_recv hK hP (ci := 6) (q0 := 2) rfl rfl, zpreT hK hN hT hA hS hP hD [2, 3, 4] rfl rfl⟩ rfl rfl hl.1 rfl (lv_room (Nat.le_of_ble_eq_true rfl)) dX0_readHeader_122 hle) hP hD hS hA [2, 3, 4] [0, 1, 5, 6] [0, 1, 4, 5, 6, 2, 3] (ws' := zwX0 cI h_t h_t_colours t_known t_depth t_packing t_isUpward t_column t_up t_colours ++ zwX7 cI h_s h_s_file h_s_file_bytes s_place s_file_size s_file_bytes ++ zwX5 cI h_p h_p_pixels p_wide p_high p_pixels) rfl rfl rfl rfl rfl rfl (fun ht H locs q9 ce hP hD hS hq hv hcl => ?_) (fun ht H locs hP hD hS => ?_)
  · replace hf := zif_f hf ht
    cases hf
    exact hX _ _ _ _ _ _ _ ht hP hD hS hq hv hcl
  · replace hf := zif_t hf ht
    clear hle
    refine lv_aload_n hx hb dX0_readHeader_125 rfl (lv_at hl 0 rfl) ?_
    refine lv_aload_n hx hb dX0_readHeader_126 rfl (lv_at hl 1 rfl) ?_
    refine lv_iconst (v := 4) hx hb dX0_readHeader_127 (by decide) ?_
    obtain ⟨tg3, r4, u5, hc6, hf⟩ := zb3_in hf
    have hle := zT_le hf
    refine zcx_i (vx_runV (As := [.int 4]) (rest := [.ref h_t]) C (mX7_little l hst D cI H.size h_s h_s_file h_s_file_bytes s_place s_file_size s_file_bytes 4 tg3 r4 u5 hc6) (qX0_readHeader_X7_little_97 hts) ⟨zPT_blind, va_recv hK hP (ci := 6) (q0 := 2) rfl rfl, zpreT hK hN hT hA hS hP hD [2, 3, 4] rfl rfl⟩ rfl rfl hl.1 rfl (lv_room (Nat.le_of_ble_eq_true rfl)) dX0_readHeader_128 hle) hP hD hS hA [2, 3, 4] [0, 1, 5, 6] [0, 1, 4, 5, 6, 2, 3] (ws' := zwX0 cI h_t h_t_colours t_known t_depth t_packing t_isUpward t_column t_up t_colours ++ zwX7 cI h_s h_s_file h_s_file_bytes u5 s_file_size s_file_bytes ++ zwX5 cI h_p h_p_pixels p_wide p_high p_pixels) rfl rfl rfl rfl rfl rfl (fun ht H locs q9 ce hP hD hS hq hv hcl => ?_) (fun ht H locs hP hD hS => ?_)
    · replace hf := zif_f hf ht
      cases hf
      exact hX _ _ _ _ _ _ _ ht hP hD hS hq hv hcl
    · replace hf := zif_t hf ht
      clear hle
      refine va_put (D := D) (ci := 0) (v := .int r4) (ty := .int) (C := RX0) (T := TX0) (N := 7) hx hb hts iX0_readHeader_X0 tyX0 tyX0_ok nmX0 hown hK hP hD hS 0 rfl rfl 3 (by decide) (kX0_readHeader_114 hts) (fun _ h9 => h9) rfl (by decide +kernel) rfl rfl (Nat.le_of_ble_eq_true rfl) dX0_readHeader_131 (fun H locs hP hD hS => ?_)
      replace hP : va_P D vwCl (zwX0 cI h_t h_t_colours t_known t_depth r4 t_isUpward t_column t_up t_colours ++ zwX7 cI h_s h_s_file h_s_file_bytes u5 s_file_size s_file_bytes ++ zwX5 cI h_p h_p_pixels p_wide p_high p_pixels) H := hP
      replace hD : va_D A (zwX0 cI h_t h_t_colours t_known t_depth r4 t_isUpward t_column t_up t_colours ++ zwX7 cI h_s h_s_file h_s_file_bytes u5 s_file_size s_file_bytes ++ zwX5 cI h_p h_p_pixels p_wide p_high p_pixels) := hD
      refine lv_aload_n hx hb dX0_readHeader_134 rfl (lv_at hl 1 rfl) ?_
      refine lv_aload_n hx hb dX0_readHeader_135 rfl (lv_at hl 0 rfl) ?_
      refine va_get (D := D) (ci := 0) (v := .int r4) (C := RX0) (T := TX0) (N := 7) hx hb hts iX0_readHeader_X0 hown hK hP 0 rfl rfl 3 (by decide) (kX0_readHeader_114 hts) (fun _ h9 => h9) rfl dX0_readHeader_136 ?_
      refine lv_if_eq (tgt := 166) hx hb dX0_readHeader_139 (by decide) (fun c7 => ?_) (fun c7 => ?_)
      · replace hf := zif_t hf c7
        exact wX0_readHeader_166 C hN hK hA hT hst hE hX hf hP hD hS (lv_sub hl [0, 1, 2, 3, 4, 5] rfl)
      · replace hf := zif_f hf c7
        refine lv_aload_n hx hb dX0_readHeader_142 rfl (lv_at hl 0 rfl) ?_
        refine va_get (D := D) (ci := 0) (v := .int r4) (C := RX0) (T := TX0) (N := 7) hx hb hts iX0_readHeader_X0 hown hK hP 0 rfl rfl 3 (by decide) (kX0_readHeader_114 hts) (fun _ h9 => h9) rfl dX0_readHeader_143 ?_
        refine lv_iconst (v := 1) hx hb dX0_readHeader_146 (by decide) ?_
        refine lv_icmp_ne (tgt := 170) hx hb dX0_readHeader_147 (by decide) (fun c8 => ?_) (fun c8 => ?_)
        · replace hf := zif_f hf c8
          exact wX0_readHeader_170 C hN hK hA hT hst hE hX hf hP hD hS (lv_sub hl [0, 1, 2, 3, 4, 5] rfl)
        · replace hf := zif_t hf c8
          refine lv_aload_n hx hb dX0_readHeader_150 rfl (lv_at hl 0 rfl) ?_
          refine va_get (D := D) (ci := 0) (v := .int t_depth) (C := RX0) (T := TX0) (N := 7) hx hb hts iX0_readHeader_X0 hown hK hP 0 rfl rfl 2 (by decide) (kX0_readHeader_130 hts) (fun _ h9 => h9) rfl dX0_readHeader_151 ?_
          refine lv_bipush (v := 8) hx hb dX0_readHeader_154 (by decide) ?_
          refine lv_icmp_ne (tgt := 170) hx hb dX0_readHeader_156 (by decide) (fun c9 => ?_) (fun c9 => ?_)
          · replace hf := zif_f hf c9
            exact wX0_readHeader_170 C hN hK hA hT hst hE hX hf hP hD hS (lv_sub hl [0, 1, 2, 3, 4, 5] rfl)
          · replace hf := zif_t hf c9
            refine lv_aload_n hx hb dX0_readHeader_159 rfl (lv_at hl 0 rfl) ?_
            refine va_get (D := D) (ci := 0) (v := .int t_isUpward) (C := RX0) (T := TX0) (N := 7) hx hb hts iX0_readHeader_X0 hown hK hP 0 rfl rfl 4 (by decide) (kX0_readHeader_126 hts) (fun _ h9 => h9) rfl dX0_readHeader_160 ?_
            refine lv_if_eq (tgt := 170) hx hb dX0_readHeader_163 (by decide) (fun c10 => ?_) (fun c10 => ?_)
            · replace hf := zif_t hf c10
              exact wX0_readHeader_170 C hN hK hA hT hst hE hX hf hP hD hS (lv_sub hl [0, 1, 2, 3, 4, 5] rfl)
            · replace hf := zif_f hf c10
              exact wX0_readHeader_166 C hN hK hA hT hst hE hX hf hP hD hS (lv_sub hl [0, 1, 2, 3, 4, 5] rfl)
set_option maxHeartbeats 4000000 in
set_option maxRecDepth 100000 in
theorem wX0_readHeader_117 {p : Program} {l : Launch} {e : Env} {s : State} {m : MethodId} {args : Array Value} {below : List Frame} {meth : Method} {c : Code} {D : va_G} {A : Nat → Prop} {Q : State → Prop} {cI : ClassId} {h_t h_t_colours h_s h_s_file h_s_file_bytes h_p h_p_pixels : Nat} {t_column : Int32} {t_up : Int32} {t_colours : Nat → Int32} {s_file_size : Int32} {s_file_bytes : Nat → Int32} {tg0 : Nat} {zt_known : Int32} {zt_depth : Int32} {zt_packing : Int32} {zt_isUpward : Int32} {zs_place : Int32} {zp_wide : Int32} {zp_high : Int32} {zp_pixels : Nat → Int32} (C : CallFix p m c cX0_readHeader 6 s args wsX0_readHeader RX0) (hN : zN s) (hK : va_K D vwCl [(cI, .int)] s) (hA : ∀ q, s.heap.size ≤ q → A q) (hT : zTh A s) (hst : l.stackTraces = false) (hE : zTEv tg0 p l e (rmX0_readHeader tg0) s m args below meth c cX0_readHeader D A Q (zwX0 cI h_t h_t_colours zt_known zt_depth zt_packing zt_isUpward t_column t_up t_colours ++ zwX7 cI h_s h_s_file h_s_file_bytes zs_place s_file_size s_file_bytes ++ zwX5 cI h_p h_p_pixels zp_wide zp_high zp_pixels)) (hX : zTX tg0 p l e (rmX0_readHeader tg0) s m args below meth c D A Q (zwX0 cI h_t h_t_colours zt_known zt_depth zt_packing zt_isUpward t_column t_up t_colours ++ zwX7 cI h_s h_s_file h_s_file_bytes zs_place s_file_size s_file_bytes ++ zwX5 cI h_p h_p_pixels zp_wide zp_high zp_pixels)) {t_known : Int32} {t_depth : Int32} {t_packing : Int32} {t_isUpward : Int32} {s_place : Int32} {p_wide : Int32} {p_high : Int32} {p_pixels : Nat → Int32} {l3 : Int32} {l4 : Int32} {l5 : Int32} {H : Heap} {locs : List Loc} {ls : Array Slot} : fX0_readHeader_117 t_known t_depth t_packing t_isUpward s_place s_file_size s_file_bytes p_wide p_high p_pixels l3 l5 = some (tg0, zt_known, zt_depth, zt_packing, zt_isUpward, zs_place, zp_wide, zp_high, zp_pixels) → va_P D vwCl (zwX0 cI h_t h_t_colours t_known t_depth t_packing t_isUpward t_column t_up t_colours ++ zwX7 cI h_s h_s_file h_s_file_bytes s_place s_file_size s_file_bytes ++ zwX5 cI h_p h_p_pixels p_wide p_high p_pixels) H → va_D A (zwX0 cI h_t h_t_colours t_known t_depth t_packing t_isUpward t_column t_up t_colours ++ zwX7 cI h_s h_s_file h_s_file_bytes s_place s_file_size s_file_bytes ++ zwX5 cI h_p h_p_pixels p_wide p_high p_pixels) → va_S A s.heap H locs → lv_has ls 6 [(0, .ref h_t), (1, .ref h_s), (2, .ref h_p), (3, .int l3), (4, .int l4), (5, .int l5)] → W p l e (rmX0_readHeader tg0) s m args below meth c H locs 0 0 Q (F0 m 117 ls [.ref h_s]) := by
  intro hf hP hD hS hl
  obtain ⟨hx, hb, hml, hown, hts⟩ := id C
  unfold fX0_readHeader_117 at hf
  refine lv_iconst (v := 1) hx hb dX0_readHeader_117 (by decide) ?_
  refine lv_goto (tgt := 122) hx hb dX0_readHeader_118 (by decide) ?_
  exact wX0_readHeader_122 C hN hK hA hT hst hE hX hf hP hD hS (lv_sub hl [0, 1, 2, 3, 4, 5] rfl)
set_option maxHeartbeats 4000000 in
set_option maxRecDepth 100000 in
theorem wX0_readHeader_86 {p : Program} {l : Launch} {e : Env} {s : State} {m : MethodId} {args : Array Value} {below : List Frame} {meth : Method} {c : Code} {D : va_G} {A : Nat → Prop} {Q : State → Prop} {cI : ClassId} {h_t h_t_colours h_s h_s_file h_s_file_bytes h_p h_p_pixels : Nat} {t_column : Int32} {t_up : Int32} {t_colours : Nat → Int32} {s_file_size : Int32} {s_file_bytes : Nat → Int32} {tg0 : Nat} {zt_known : Int32} {zt_depth : Int32} {zt_packing : Int32} {zt_isUpward : Int32} {zs_place : Int32} {zp_wide : Int32} {zp_high : Int32} {zp_pixels : Nat → Int32} (C : CallFix p m c cX0_readHeader 6 s args wsX0_readHeader RX0) (hN : zN s) (hK : va_K D vwCl [(cI, .int)] s) (hA : ∀ q, s.heap.size ≤ q → A q) (hT : zTh A s) (hst : l.stackTraces = false) (hE : zTEv tg0 p l e (rmX0_readHeader tg0) s m args below meth c cX0_readHeader D A Q (zwX0 cI h_t h_t_colours zt_known zt_depth zt_packing zt_isUpward t_column t_up t_colours ++ zwX7 cI h_s h_s_file h_s_file_bytes zs_place s_file_size s_file_bytes ++ zwX5 cI h_p h_p_pixels zp_wide zp_high zp_pixels)) (hX : zTX tg0 p l e (rmX0_readHeader tg0) s m args below meth c D A Q (zwX0 cI h_t h_t_colours zt_known zt_depth zt_packing zt_isUpward t_column t_up t_colours ++ zwX7 cI h_s h_s_file h_s_file_bytes zs_place s_file_size s_file_bytes ++ zwX5 cI h_p h_p_pixels zp_wide zp_high zp_pixels)) {t_known : Int32} {t_depth : Int32} {t_packing : Int32} {t_isUpward : Int32} {s_place : Int32} {p_wide : Int32} {p_high : Int32} {p_pixels : Nat → Int32} {l3 : Int32} {l4 : Int32} {l5 : Int32} {k1 : Int32} {H : Heap} {locs : List Loc} {ls : Array Slot} : fX0_readHeader_86 t_known t_depth t_packing t_isUpward s_place s_file_size s_file_bytes p_wide p_high p_pixels l3 l5 k1 = some (tg0, zt_known, zt_depth, zt_packing, zt_isUpward, zs_place, zp_wide, zp_high, zp_pixels) → va_P D vwCl (zwX0 cI h_t h_t_colours t_known t_depth t_packing t_isUpward t_column t_up t_colours ++ zwX7 cI h_s h_s_file h_s_file_bytes s_place s_file_size s_file_bytes ++ zwX5 cI h_p h_p_pixels p_wide p_high p_pixels) H → va_D A (zwX0 cI h_t h_t_colours t_known t_depth t_packing t_isUpward t_column t_up t_colours ++ zwX7 cI h_s h_s_file h_s_file_bytes s_place s_file_size s_file_bytes ++ zwX5 cI h_p h_p_pixels p_wide p_high p_pixels) → va_S A s.heap H locs → lv_has ls 6 [(0, .ref h_t), (1, .ref h_s), (2, .ref h_p), (3, .int l3), (4, .int l4), (5, .int l5)] → W p l e (rmX0_readHeader tg0) s m args below meth c H locs 0 0 Q (F0 m 86 ls [.int k1, .ref h_s]) := by
  intro hf hP hD hS hl
  obtain ⟨hx, hb, hml, hown, hts⟩ := id C
  unfold fX0_readHeader_86 at hf
  obtain ⟨tg1, hc2, hf⟩ := zb1_in hf
  have hle := zT_le hf
  refine zcx_v (vx_runV (As := [.int k1]) (rest := []) C (mX7_need l hst D cI H.size h_s h_s_file h_s_file_bytes s_place s_file_size s_file_bytes k1 tg1 hc2) (qX0_readHeader_X7_need_110 hts) ⟨zPT_blind, va_recv hK hP (ci := 6) (q0 := 2) rfl rfl, zpreT hK hN hT hA hS hP hD [2, 3, 4] rfl rfl⟩ rfl rfl hl.1 rfl (lv_room (Nat.le_of_ble_eq_true rfl)) dX0_readHeader_86 hle) hP hD hS hA [2, 3, 4] [0, 1, 5, 6] [0, 1, 4, 5, 6, 2, 3] (ws' := zwX0 cI h_t h_t_colours t_known t_depth t_packing t_isUpward t_column t_up t_colours ++ zwX7 cI h_s h_s_file h_s_file_bytes s_place s_file_size s_file_bytes ++ zwX5 cI h_p h_p_pixels p_wide p_high p_pixels) rfl rfl rfl rfl rfl rfl (fun ht H locs q9 ce hP hD hS hq hv hcl => ?_) (fun ht H locs hP hD hS => ?_)
  · replace hf := zif_f hf ht
    cases hf
    exact hX _ _ _ _ _ _ _ ht hP hD hS hq hv hcl
  · replace hf := zif_t hf ht
    clear hle
    refine lv_aload_n hx hb dX0_readHeader_89 rfl (lv_at hl 0 rfl) ?_
    refine lv_aload_n hx hb dX0_readHeader_90 rfl (lv_at hl 1 rfl) ?_
    refine lv_iconst (v := 2) hx hb dX0_readHeader_91 (by decide) ?_
    obtain ⟨tg3, r4, u5, hc6, hf⟩ := zb3_in hf
    have hle := zT_le hf
    refine zcx_i (vx_runV (As := [.int 2]) (rest := [.ref h_t]) C (mX7_little l hst D cI H.size h_s h_s_file h_s_file_bytes s_place s_file_size s_file_bytes 2 tg3 r4 u5 hc6) (qX0_readHeader_X7_little_97 hts) ⟨zPT_blind, va_recv hK hP (ci := 6) (q0 := 2) rfl rfl, zpreT hK hN hT hA hS hP hD [2, 3, 4] rfl rfl⟩ rfl rfl hl.1 rfl (lv_room (Nat.le_of_ble_eq_true rfl)) dX0_readHeader_92 hle) hP hD hS hA [2, 3, 4] [0, 1, 5, 6] [0, 1, 4, 5, 6, 2, 3] (ws' := zwX0 cI h_t h_t_colours t_known t_depth t_packing t_isUpward t_column t_up t_colours ++ zwX7 cI h_s h_s_file h_s_file_bytes u5 s_file_size s_file_bytes ++ zwX5 cI h_p h_p_pixels p_wide p_high p_pixels) rfl rfl rfl rfl rfl rfl (fun ht H locs q9 ce hP hD hS hq hv hcl => ?_) (fun ht H locs hP hD hS => ?_)
    · replace hf := zif_f hf ht
      cases hf
      exact hX _ _ _ _ _ _ _ ht hP hD hS hq hv hcl
    · replace hf := zif_t hf ht
      clear hle
      refine va_put (D := D) (ci := 0) (v := .int r4) (ty := .int) (C := RX0) (T := TX0) (N := 7) hx hb hts iX0_readHeader_X0 tyX0 tyX0_ok nmX0 hown hK hP hD hS 0 rfl rfl 2 (by decide) (kX0_readHeader_130 hts) (fun _ h9 => h9) rfl (by decide +kernel) rfl rfl (Nat.le_of_ble_eq_true rfl) dX0_readHeader_95 (fun H locs hP hD hS => ?_)
      replace hP : va_P D vwCl (zwX0 cI h_t h_t_colours t_known r4 t_packing t_isUpward t_column t_up t_colours ++ zwX7 cI h_s h_s_file h_s_file_bytes u5 s_file_size s_file_bytes ++ zwX5 cI h_p h_p_pixels p_wide p_high p_pixels) H := hP
      replace hD : va_D A (zwX0 cI h_t h_t_colours t_known r4 t_packing t_isUpward t_column t_up t_colours ++ zwX7 cI h_s h_s_file h_s_file_bytes u5 s_file_size s_file_bytes ++ zwX5 cI h_p h_p_pixels p_wide p_high p_pixels) := hD
      refine lv_aload_n hx hb dX0_readHeader_98 rfl (lv_at hl 1 rfl) ?_
      refine lv_aload_n hx hb dX0_readHeader_99 rfl (lv_at hl 0 rfl) ?_
      refine va_get (D := D) (ci := 0) (v := .int r4) (C := RX0) (T := TX0) (N := 7) hx hb hts iX0_readHeader_X0 hown hK hP 0 rfl rfl 2 (by decide) (kX0_readHeader_130 hts) (fun _ h9 => h9) rfl dX0_readHeader_100 ?_
      refine lv_bipush (v := 8) hx hb dX0_readHeader_103 (by decide) ?_
      refine lv_icmp_eq (tgt := 117) hx hb dX0_readHeader_105 (by decide) (fun c7 => ?_) (fun c7 => ?_)
      · replace hf := zif_t hf c7
        exact wX0_readHeader_117 C hN hK hA hT hst hE hX hf hP hD hS (lv_sub hl [0, 1, 2, 3, 4, 5] rfl)
      · replace hf := zif_f hf c7
        refine lv_aload_n hx hb dX0_readHeader_108 rfl (lv_at hl 0 rfl) ?_
        refine va_get (D := D) (ci := 0) (v := .int r4) (C := RX0) (T := TX0) (N := 7) hx hb hts iX0_readHeader_X0 hown hK hP 0 rfl rfl 2 (by decide) (kX0_readHeader_130 hts) (fun _ h9 => h9) rfl dX0_readHeader_109 ?_
        refine lv_bipush (v := 24) hx hb dX0_readHeader_112 (by decide) ?_
        refine lv_icmp_ne (tgt := 121) hx hb dX0_readHeader_114 (by decide) (fun c8 => ?_) (fun c8 => ?_)
        · replace hf := zif_f hf c8
          refine lv_iconst (v := 0) hx hb dX0_readHeader_121 (by decide) ?_
          exact wX0_readHeader_122 C hN hK hA hT hst hE hX hf hP hD hS (lv_sub hl [0, 1, 2, 3, 4, 5] rfl)
        · replace hf := zif_t hf c8
          exact wX0_readHeader_117 C hN hK hA hT hst hE hX hf hP hD hS (lv_sub hl [0, 1, 2, 3, 4, 5] rfl)
set_option maxHeartbeats 4000000 in
set_option maxRecDepth 100000 in
theorem wX0_readHeader_66 {p : Program} {l : Launch} {e : Env} {s : State} {m : MethodId} {args : Array Value} {below : List Frame} {meth : Method} {c : Code} {D : va_G} {A : Nat → Prop} {Q : State → Prop} {cI : ClassId} {h_t h_t_colours h_s h_s_file h_s_file_bytes h_p h_p_pixels : Nat} {t_column : Int32} {t_up : Int32} {t_colours : Nat → Int32} {s_file_size : Int32} {s_file_bytes : Nat → Int32} {tg0 : Nat} {zt_known : Int32} {zt_depth : Int32} {zt_packing : Int32} {zt_isUpward : Int32} {zs_place : Int32} {zp_wide : Int32} {zp_high : Int32} {zp_pixels : Nat → Int32} (C : CallFix p m c cX0_readHeader 6 s args wsX0_readHeader RX0) (hN : zN s) (hK : va_K D vwCl [(cI, .int)] s) (hA : ∀ q, s.heap.size ≤ q → A q) (hT : zTh A s) (hst : l.stackTraces = false) (hE : zTEv tg0 p l e (rmX0_readHeader tg0) s m args below meth c cX0_readHeader D A Q (zwX0 cI h_t h_t_colours zt_known zt_depth zt_packing zt_isUpward t_column t_up t_colours ++ zwX7 cI h_s h_s_file h_s_file_bytes zs_place s_file_size s_file_bytes ++ zwX5 cI h_p h_p_pixels zp_wide zp_high zp_pixels)) (hX : zTX tg0 p l e (rmX0_readHeader tg0) s m args below meth c D A Q (zwX0 cI h_t h_t_colours zt_known zt_depth zt_packing zt_isUpward t_column t_up t_colours ++ zwX7 cI h_s h_s_file h_s_file_bytes zs_place s_file_size s_file_bytes ++ zwX5 cI h_p h_p_pixels zp_wide zp_high zp_pixels)) {t_known : Int32} {t_depth : Int32} {t_packing : Int32} {t_isUpward : Int32} {s_place : Int32} {p_wide : Int32} {p_high : Int32} {p_pixels : Nat → Int32} {l3 : Int32} {l4 : Int32} {k1 : Int32} {H : Heap} {locs : List Loc} {ls : Array Slot} : fX0_readHeader_66 t_known t_depth t_packing t_isUpward s_place s_file_size s_file_bytes p_wide p_high p_pixels l3 k1 = some (tg0, zt_known, zt_depth, zt_packing, zt_isUpward, zs_place, zp_wide, zp_high, zp_pixels) → va_P D vwCl (zwX0 cI h_t h_t_colours t_known t_depth t_packing t_isUpward t_column t_up t_colours ++ zwX7 cI h_s h_s_file h_s_file_bytes s_place s_file_size s_file_bytes ++ zwX5 cI h_p h_p_pixels p_wide p_high p_pixels) H → va_D A (zwX0 cI h_t h_t_colours t_known t_depth t_packing t_isUpward t_column t_up t_colours ++ zwX7 cI h_s h_s_file h_s_file_bytes s_place s_file_size s_file_bytes ++ zwX5 cI h_p h_p_pixels p_wide p_high p_pixels) → va_S A s.heap H locs → lv_has ls 6 [(0, .ref h_t), (1, .ref h_s), (2, .ref h_p), (3, .int l3), (4, .int l4)] → W p l e (rmX0_readHeader tg0) s m args below meth c H locs 0 0 Q (F0 m 66 ls [.int k1, .ref h_s]) := by
  intro hf hP hD hS hl
  obtain ⟨hx, hb, hml, hown, hts⟩ := id C
  unfold fX0_readHeader_66 at hf
  obtain ⟨tg1, r2, hc3, hf⟩ := zb2_in hf
  have hle := zT_le hf
  refine zcx_i (vx_runV (As := [.int k1]) (rest := []) C (mX7_needSide l hst D cI H.size h_s h_s_file h_s_file_bytes s_place s_file_size s_file_bytes k1 tg1 r2 hc3) (qX0_readHeader_X7_needSide_123 hts) ⟨zPT_blind, va_recv hK hP (ci := 6) (q0 := 2) rfl rfl, zpreT hK hN hT hA hS hP hD [2, 3, 4] rfl rfl⟩ rfl rfl hl.1 rfl (lv_room (Nat.le_of_ble_eq_true rfl)) dX0_readHeader_66 hle) hP hD hS hA [2, 3, 4] [0, 1, 5, 6] [0, 1, 4, 5, 6, 2, 3] (ws' := zwX0 cI h_t h_t_colours t_known t_depth t_packing t_isUpward t_column t_up t_colours ++ zwX7 cI h_s h_s_file h_s_file_bytes s_place s_file_size s_file_bytes ++ zwX5 cI h_p h_p_pixels p_wide p_high p_pixels) rfl rfl rfl rfl rfl rfl (fun ht H locs q9 ce hP hD hS hq hv hcl => ?_) (fun ht H locs hP hD hS => ?_)
  · replace hf := zif_f hf ht
    cases hf
    exact hX _ _ _ _ _ _ _ ht hP hD hS hq hv hcl
  · replace hf := zif_t hf ht
    clear hle
    refine lv_istore (lv' := [(5, .int r2), (0, .ref h_t), (1, .ref h_s), (2, .ref h_p), (3, .int l3), (4, .int l4)]) hx hb dX0_readHeader_69 hl (by decide) rfl (fun ls hl => ?_)
    refine lv_aload_n hx hb dX0_readHeader_71 rfl (lv_at hl 2 rfl) ?_
    refine lv_aload_n hx hb dX0_readHeader_72 rfl (lv_at hl 2 rfl) ?_
    refine lv_iconst (v := 2) hx hb dX0_readHeader_73 (by decide) ?_
    obtain ⟨tg4, r5, u6, hc7, hf⟩ := zb3_in hf
    have hle := zT_le hf
    refine zcx_i (vx_runV (As := [.int 2]) (rest := [.ref h_s]) C (mX7_little l hst D cI H.size h_s h_s_file h_s_file_bytes s_place s_file_size s_file_bytes 2 tg4 r5 u6 hc7) (qX0_readHeader_X7_little_97 hts) ⟨zPT_blind, va_recv hK hP (ci := 6) (q0 := 2) rfl rfl, zpreT hK hN hT hA hS hP hD [2, 3, 4] rfl rfl⟩ rfl rfl hl.1 rfl (lv_room (Nat.le_of_ble_eq_true rfl)) dX0_readHeader_74 hle) hP hD hS hA [2, 3, 4] [0, 1, 5, 6] [0, 1, 4, 5, 6, 2, 3] (ws' := zwX0 cI h_t h_t_colours t_known t_depth t_packing t_isUpward t_column t_up t_colours ++ zwX7 cI h_s h_s_file h_s_file_bytes u6 s_file_size s_file_bytes ++ zwX5 cI h_p h_p_pixels p_wide p_high p_pixels) rfl rfl rfl rfl rfl rfl (fun ht H locs q9 ce hP hD hS hq hv hcl => ?_) (fun ht H locs hP hD hS => ?_)
    · replace hf := zif_f hf ht
      cases hf
      exact hX _ _ _ _ _ _ _ ht hP hD hS hq hv hcl
    · replace hf := zif_t hf ht
      clear hle
      refine lv_iconst (v := 1) hx hb dX0_readHeader_77 (by decide) ?_
      refine lv_icmp_ne (tgt := 85) hx hb dX0_readHeader_78 (by decide) (fun c8 => ?_) (fun c8 => ?_)
      · replace hf := zif_f hf c8
        refine lv_iconst (v := 0) hx hb dX0_readHeader_85 (by decide) ?_
        exact wX0_readHeader_86 C hN hK hA hT hst hE hX hf hP hD hS (lv_sub hl [1, 2, 3, 4, 5, 0] rfl)
      · replace hf := zif_t hf c8
        refine lv_iconst (v := 1) hx hb dX0_readHeader_81 (by decide) ?_
        refine lv_goto (tgt := 86) hx hb dX0_readHeader_82 (by decide) ?_
        exact wX0_readHeader_86 C hN hK hA hT hst hE hX hf hP hD hS (lv_sub hl [1, 2, 3, 4, 5, 0] rfl)
set_option maxHeartbeats 4000000 in
set_option maxRecDepth 100000 in
theorem wX0_readHeader_47 {p : Program} {l : Launch} {e : Env} {s : State} {m : MethodId} {args : Array Value} {below : List Frame} {meth : Method} {c : Code} {D : va_G} {A : Nat → Prop} {Q : State → Prop} {cI : ClassId} {h_t h_t_colours h_s h_s_file h_s_file_bytes h_p h_p_pixels : Nat} {t_column : Int32} {t_up : Int32} {t_colours : Nat → Int32} {s_file_size : Int32} {s_file_bytes : Nat → Int32} {tg0 : Nat} {zt_known : Int32} {zt_depth : Int32} {zt_packing : Int32} {zt_isUpward : Int32} {zs_place : Int32} {zp_wide : Int32} {zp_high : Int32} {zp_pixels : Nat → Int32} (C : CallFix p m c cX0_readHeader 6 s args wsX0_readHeader RX0) (hN : zN s) (hK : va_K D vwCl [(cI, .int)] s) (hA : ∀ q, s.heap.size ≤ q → A q) (hT : zTh A s) (hst : l.stackTraces = false) (hE : zTEv tg0 p l e (rmX0_readHeader tg0) s m args below meth c cX0_readHeader D A Q (zwX0 cI h_t h_t_colours zt_known zt_depth zt_packing zt_isUpward t_column t_up t_colours ++ zwX7 cI h_s h_s_file h_s_file_bytes zs_place s_file_size s_file_bytes ++ zwX5 cI h_p h_p_pixels zp_wide zp_high zp_pixels)) (hX : zTX tg0 p l e (rmX0_readHeader tg0) s m args below meth c D A Q (zwX0 cI h_t h_t_colours zt_known zt_depth zt_packing zt_isUpward t_column t_up t_colours ++ zwX7 cI h_s h_s_file h_s_file_bytes zs_place s_file_size s_file_bytes ++ zwX5 cI h_p h_p_pixels zp_wide zp_high zp_pixels)) {t_known : Int32} {t_depth : Int32} {t_packing : Int32} {t_isUpward : Int32} {s_place : Int32} {p_wide : Int32} {p_high : Int32} {p_pixels : Nat → Int32} {l3 : Int32} {l4 : Int32} {k1 : Int32} {H : Heap} {locs : List Loc} {ls : Array Slot} : fX0_readHeader_47 t_known t_depth t_packing s_place s_file_size s_file_bytes p_wide p_high p_pixels l3 l4 k1 = some (tg0, zt_known, zt_depth, zt_packing, zt_isUpward, zs_place, zp_wide, zp_high, zp_pixels) → va_P D vwCl (zwX0 cI h_t h_t_colours t_known t_depth t_packing t_isUpward t_column t_up t_colours ++ zwX7 cI h_s h_s_file h_s_file_bytes s_place s_file_size s_file_bytes ++ zwX5 cI h_p h_p_pixels p_wide p_high p_pixels) H → va_D A (zwX0 cI h_t h_t_colours t_known t_depth t_packing t_isUpward t_column t_up t_colours ++ zwX7 cI h_s h_s_file h_s_file_bytes s_place s_file_size s_file_bytes ++ zwX5 cI h_p h_p_pixels p_wide p_high p_pixels) → va_S A s.heap H locs → lv_has ls 6 [(0, .ref h_t), (1, .ref h_s), (2, .ref h_p), (3, .int l3), (4, .int l4)] → W p l e (rmX0_readHeader tg0) s m args below meth c H locs 0 0 Q (F0 m 47 ls [.int k1, .ref h_t]) := by
  intro hf hP hD hS hl
  obtain ⟨hx, hb, hml, hown, hts⟩ := id C
  unfold fX0_readHeader_47 at hf
  obtain ⟨hg1, hf⟩ := zbo_in hf
  refine va_put (D := D) (ci := 0) (v := .int k1) (ty := .boolean) (C := RX0) (T := TX0) (N := 7) hx hb hts iX0_readHeader_X0 tyX0 tyX0_ok nmX0 hown hK hP hD hS 0 rfl rfl 4 (by decide) (kX0_readHeader_126 hts) (fun _ h9 => h9) rfl (by decide +kernel) hg1.1 hg1.2 (Nat.le_of_ble_eq_true rfl) dX0_readHeader_47 (fun H locs hP hD hS => ?_)
  replace hP : va_P D vwCl (zwX0 cI h_t h_t_colours t_known t_depth t_packing k1 t_column t_up t_colours ++ zwX7 cI h_s h_s_file h_s_file_bytes s_place s_file_size s_file_bytes ++ zwX5 cI h_p h_p_pixels p_wide p_high p_pixels) H := hP
  replace hD : va_D A (zwX0 cI h_t h_t_colours t_known t_depth t_packing k1 t_column t_up t_colours ++ zwX7 cI h_s h_s_file h_s_file_bytes s_place s_file_size s_file_bytes ++ zwX5 cI h_p h_p_pixels p_wide p_high p_pixels) := hD
  refine lv_aload_n hx hb dX0_readHeader_50 rfl (lv_at hl 1 rfl) ?_
  refine lv_aload_n hx hb dX0_readHeader_51 rfl (lv_at hl 0 rfl) ?_
  refine va_get (D := D) (ci := 0) (v := .int k1) (C := RX0) (T := TX0) (N := 7) hx hb hts iX0_readHeader_X0 hown hK hP 0 rfl rfl 4 (by decide) (kX0_readHeader_126 hts) (fun _ h9 => h9) rfl dX0_readHeader_52 ?_
  refine lv_if_eq (tgt := 63) hx hb dX0_readHeader_55 (by decide) (fun c2 => ?_) (fun c2 => ?_)
  · replace hf := zif_t hf c2
    refine lv_iload hx hb dX0_readHeader_63 (lv_at hl 4 rfl) ?_
    refine lv_ineg hx hb dX0_readHeader_65 ?_
    exact wX0_readHeader_66 C hN hK hA hT hst hE hX hf hP hD hS (lv_sub hl [0, 1, 2, 3, 4] rfl)
  · replace hf := zif_f hf c2
    refine lv_iload hx hb dX0_readHeader_58 (lv_at hl 4 rfl) ?_
    refine lv_goto (tgt := 66) hx hb dX0_readHeader_60 (by decide) ?_
    exact wX0_readHeader_66 C hN hK hA hT hst hE hX hf hP hD hS (lv_sub hl [0, 1, 2, 3, 4] rfl)
set_option maxHeartbeats 4000000 in
set_option maxRecDepth 100000 in
theorem wX0_readHeader_16 {p : Program} {l : Launch} {e : Env} {s : State} {m : MethodId} {args : Array Value} {below : List Frame} {meth : Method} {c : Code} {D : va_G} {A : Nat → Prop} {Q : State → Prop} {cI : ClassId} {h_t h_t_colours h_s h_s_file h_s_file_bytes h_p h_p_pixels : Nat} {t_column : Int32} {t_up : Int32} {t_colours : Nat → Int32} {s_file_size : Int32} {s_file_bytes : Nat → Int32} {tg0 : Nat} {zt_known : Int32} {zt_depth : Int32} {zt_packing : Int32} {zt_isUpward : Int32} {zs_place : Int32} {zp_wide : Int32} {zp_high : Int32} {zp_pixels : Nat → Int32} (C : CallFix p m c cX0_readHeader 6 s args wsX0_readHeader RX0) (hN : zN s) (hK : va_K D vwCl [(cI, .int)] s) (hA : ∀ q, s.heap.size ≤ q → A q) (hT : zTh A s) (hst : l.stackTraces = false) (hE : zTEv tg0 p l e (rmX0_readHeader tg0) s m args below meth c cX0_readHeader D A Q (zwX0 cI h_t h_t_colours zt_known zt_depth zt_packing zt_isUpward t_column t_up t_colours ++ zwX7 cI h_s h_s_file h_s_file_bytes zs_place s_file_size s_file_bytes ++ zwX5 cI h_p h_p_pixels zp_wide zp_high zp_pixels)) (hX : zTX tg0 p l e (rmX0_readHeader tg0) s m args below meth c D A Q (zwX0 cI h_t h_t_colours zt_known zt_depth zt_packing zt_isUpward t_column t_up t_colours ++ zwX7 cI h_s h_s_file h_s_file_bytes zs_place s_file_size s_file_bytes ++ zwX5 cI h_p h_p_pixels zp_wide zp_high zp_pixels)) {t_known : Int32} {t_depth : Int32} {t_packing : Int32} {t_isUpward : Int32} {s_place : Int32} {p_wide : Int32} {p_high : Int32} {p_pixels : Nat → Int32} {k1 : Int32} {H : Heap} {locs : List Loc} {ls : Array Slot} : fX0_readHeader_16 t_known t_depth t_packing t_isUpward s_place s_file_size s_file_bytes p_wide p_high p_pixels k1 = some (tg0, zt_known, zt_depth, zt_packing, zt_isUpward, zs_place, zp_wide, zp_high, zp_pixels) → va_P D vwCl (zwX0 cI h_t h_t_colours t_known t_depth t_packing t_isUpward t_column t_up t_colours ++ zwX7 cI h_s h_s_file h_s_file_bytes s_place s_file_size s_file_bytes ++ zwX5 cI h_p h_p_pixels p_wide p_high p_pixels) H → va_D A (zwX0 cI h_t h_t_colours t_known t_depth t_packing t_isUpward t_column t_up t_colours ++ zwX7 cI h_s h_s_file h_s_file_bytes s_place s_file_size s_file_bytes ++ zwX5 cI h_p h_p_pixels p_wide p_high p_pixels) → va_S A s.heap H locs → lv_has ls 6 [(0, .ref h_t), (1, .ref h_s), (2, .ref h_p)] → W p l e (rmX0_readHeader tg0) s m args below meth c H locs 0 0 Q (F0 m 16 ls [.int k1, .ref h_s]) := by
  intro hf hP hD hS hl
  obtain ⟨hx, hb, hml, hown, hts⟩ := id C
  unfold fX0_readHeader_16 at hf
  obtain ⟨tg1, hc2, hf⟩ := zb1_in hf
  have hle := zT_le hf
  refine zcx_v (vx_runV (As := [.int k1]) (rest := []) C (mX7_need l hst D cI H.size h_s h_s_file h_s_file_bytes s_place s_file_size s_file_bytes k1 tg1 hc2) (qX0_readHeader_X7_need_110 hts) ⟨zPT_blind, va_recv hK hP (ci := 6) (q0 := 2) rfl rfl, zpreT hK hN hT hA hS hP hD [2, 3, 4] rfl rfl⟩ rfl rfl hl.1 rfl (lv_room (Nat.le_of_ble_eq_true rfl)) dX0_readHeader_16 hle) hP hD hS hA [2, 3, 4] [0, 1, 5, 6] [0, 1, 4, 5, 6, 2, 3] (ws' := zwX0 cI h_t h_t_colours t_known t_depth t_packing t_isUpward t_column t_up t_colours ++ zwX7 cI h_s h_s_file h_s_file_bytes s_place s_file_size s_file_bytes ++ zwX5 cI h_p h_p_pixels p_wide p_high p_pixels) rfl rfl rfl rfl rfl rfl (fun ht H locs q9 ce hP hD hS hq hv hcl => ?_) (fun ht H locs hP hD hS => ?_)
  · replace hf := zif_f hf ht
    cases hf
    exact hX _ _ _ _ _ _ _ ht hP hD hS hq hv hcl
  · replace hf := zif_t hf ht
    clear hle
    refine lv_aload_n hx hb dX0_readHeader_19 rfl (lv_at hl 1 rfl) ?_
    refine lv_aload_n hx hb dX0_readHeader_20 rfl (lv_at hl 1 rfl) ?_
    refine lv_iconst (v := 4) hx hb dX0_readHeader_21 (by decide) ?_
    obtain ⟨tg3, r4, u5, hc6, hf⟩ := zb3_in hf
    have hle := zT_le hf
    refine zcx_i (vx_runV (As := [.int 4]) (rest := [.ref h_s]) C (mX7_little l hst D cI H.size h_s h_s_file h_s_file_bytes s_place s_file_size s_file_bytes 4 tg3 r4 u5 hc6) (qX0_readHeader_X7_little_97 hts) ⟨zPT_blind, va_recv hK hP (ci := 6) (q0 := 2) rfl rfl, zpreT hK hN hT hA hS hP hD [2, 3, 4] rfl rfl⟩ rfl rfl hl.1 rfl (lv_room (Nat.le_of_ble_eq_true rfl)) dX0_readHeader_22 hle) hP hD hS hA [2, 3, 4] [0, 1, 5, 6] [0, 1, 4, 5, 6, 2, 3] (ws' := zwX0 cI h_t h_t_colours t_known t_depth t_packing t_isUpward t_column t_up t_colours ++ zwX7 cI h_s h_s_file h_s_file_bytes u5 s_file_size s_file_bytes ++ zwX5 cI h_p h_p_pixels p_wide p_high p_pixels) rfl rfl rfl rfl rfl rfl (fun ht H locs q9 ce hP hD hS hq hv hcl => ?_) (fun ht H locs hP hD hS => ?_)
    · replace hf := zif_f hf ht
      cases hf
      exact hX _ _ _ _ _ _ _ ht hP hD hS hq hv hcl
    · replace hf := zif_t hf ht
      clear hle
      obtain ⟨tg7, r8, hc9, hf⟩ := zb2_in hf
      have hle := zT_le hf
      refine zcx_i (vx_runV (As := [.int r4]) (rest := []) C (mX7_needSide l hst D cI H.size h_s h_s_file h_s_file_bytes u5 s_file_size s_file_bytes r4 tg7 r8 hc9) (qX0_readHeader_X7_needSide_123 hts) ⟨zPT_blind, va_recv hK hP (ci := 6) (q0 := 2) rfl rfl, zpreT hK hN hT hA hS hP hD [2, 3, 4] rfl rfl⟩ rfl rfl hl.1 rfl (lv_room (Nat.le_of_ble_eq_true rfl)) dX0_readHeader_25 hle) hP hD hS hA [2, 3, 4] [0, 1, 5, 6] [0, 1, 4, 5, 6, 2, 3] (ws' := zwX0 cI h_t h_t_colours t_known t_depth t_packing t_isUpward t_column t_up t_colours ++ zwX7 cI h_s h_s_file h_s_file_bytes u5 s_file_size s_file_bytes ++ zwX5 cI h_p h_p_pixels p_wide p_high p_pixels) rfl rfl rfl rfl rfl rfl (fun ht H locs q9 ce hP hD hS hq hv hcl => ?_) (fun ht H locs hP hD hS => ?_)
      · replace hf := zif_f hf ht
        cases hf
        exact hX _ _ _ _ _ _ _ ht hP hD hS hq hv hcl
      · replace hf := zif_t hf ht
        clear hle
        refine lv_istore_n (lv' := [(3, .int r8), (0, .ref h_t), (1, .ref h_s), (2, .ref h_p)]) hx hb dX0_readHeader_28 rfl hl (by decide) rfl (fun ls hl => ?_)
        refine lv_aload_n hx hb dX0_readHeader_29 rfl (lv_at hl 2 rfl) ?_
        refine lv_iconst (v := 4) hx hb dX0_readHeader_30 (by decide) ?_
        obtain ⟨tg10, r11, u12, hc13, hf⟩ := zb3_in hf
        have hle := zT_le hf
        refine zcx_i (vx_runV (As := [.int 4]) (rest := []) C (mX7_little l hst D cI H.size h_s h_s_file h_s_file_bytes u5 s_file_size s_file_bytes 4 tg10 r11 u12 hc13) (qX0_readHeader_X7_little_97 hts) ⟨zPT_blind, va_recv hK hP (ci := 6) (q0 := 2) rfl rfl, zpreT hK hN hT hA hS hP hD [2, 3, 4] rfl rfl⟩ rfl rfl hl.1 rfl (lv_room (Nat.le_of_ble_eq_true rfl)) dX0_readHeader_31 hle) hP hD hS hA [2, 3, 4] [0, 1, 5, 6] [0, 1, 4, 5, 6, 2, 3] (ws' := zwX0 cI h_t h_t_colours t_known t_depth t_packing t_isUpward t_column t_up t_colours ++ zwX7 cI h_s h_s_file h_s_file_bytes u12 s_file_size s_file_bytes ++ zwX5 cI h_p h_p_pixels p_wide p_high p_pixels) rfl rfl rfl rfl rfl rfl (fun ht H locs q9 ce hP hD hS hq hv hcl => ?_) (fun ht H locs hP hD hS => ?_)
        · replace hf := zif_f hf ht
          cases hf
          exact hX _ _ _ _ _ _ _ ht hP hD hS hq hv hcl
        · replace hf := zif_t hf ht
          clear hle
          refine lv_istore (lv' := [(4, .int r11), (3, .int r8), (0, .ref h_t), (1, .ref h_s), (2, .ref h_p)]) hx hb dX0_readHeader_34 hl (by decide) rfl (fun ls hl => ?_)
          refine lv_aload_n hx hb dX0_readHeader_36 rfl (lv_at hl 2 rfl) ?_
          refine lv_iload hx hb dX0_readHeader_37 (lv_at hl 0 rfl) ?_
          refine lv_if_le (tgt := 46) hx hb dX0_readHeader_39 (by decide) (fun c14 => ?_) (fun c14 => ?_)
          · replace hf := zif_t hf c14
            refine lv_iconst (v := 0) hx hb dX0_readHeader_46 (by decide) ?_
            exact wX0_readHeader_47 C hN hK hA hT hst hE hX hf hP hD hS (lv_sub hl [2, 3, 4, 1, 0] rfl)
          · replace hf := zif_f hf c14
            refine lv_iconst (v := 1) hx hb dX0_readHeader_42 (by decide) ?_
            refine lv_goto (tgt := 47) hx hb dX0_readHeader_43 (by decide) ?_
            exact wX0_readHeader_47 C hN hK hA hT hst hE hX hf hP hD hS (lv_sub hl [2, 3, 4, 1, 0] rfl)
set_option maxHeartbeats 4000000 in
set_option maxRecDepth 100000 in
theorem wX0_readHeader_0 {p : Program} {l : Launch} {e : Env} {s : State} {m : MethodId} {args : Array Value} {below : List Frame} {meth : Method} {c : Code} {D : va_G} {A : Nat → Prop} {Q : State → Prop} {cI : ClassId} {h_t h_t_colours h_s h_s_file h_s_file_bytes h_p h_p_pixels : Nat} {t_column : Int32} {t_up : Int32} {t_colours : Nat → Int32} {s_file_size : Int32} {s_file_bytes : Nat → Int32} {tg0 : Nat} {zt_known : Int32} {zt_depth : Int32} {zt_packing : Int32} {zt_isUpward : Int32} {zs_place : Int32} {zp_wide : Int32} {zp_high : Int32} {zp_pixels : Nat → Int32} (C : CallFix p m c cX0_readHeader 6 s args wsX0_readHeader RX0) (hN : zN s) (hK : va_K D vwCl [(cI, .int)] s) (hA : ∀ q, s.heap.size ≤ q → A q) (hT : zTh A s) (hst : l.stackTraces = false) (hE : zTEv tg0 p l e (rmX0_readHeader tg0) s m args below meth c cX0_readHeader D A Q (zwX0 cI h_t h_t_colours zt_known zt_depth zt_packing zt_isUpward t_column t_up t_colours ++ zwX7 cI h_s h_s_file h_s_file_bytes zs_place s_file_size s_file_bytes ++ zwX5 cI h_p h_p_pixels zp_wide zp_high zp_pixels)) (hX : zTX tg0 p l e (rmX0_readHeader tg0) s m args below meth c D A Q (zwX0 cI h_t h_t_colours zt_known zt_depth zt_packing zt_isUpward t_column t_up t_colours ++ zwX7 cI h_s h_s_file h_s_file_bytes zs_place s_file_size s_file_bytes ++ zwX5 cI h_p h_p_pixels zp_wide zp_high zp_pixels)) {t_known : Int32} {t_depth : Int32} {t_packing : Int32} {t_isUpward : Int32} {s_place : Int32} {p_wide : Int32} {p_high : Int32} {p_pixels : Nat → Int32} {H : Heap} {locs : List Loc} {ls : Array Slot} : fX0_readHeader t_known t_depth t_packing t_isUpward s_place s_file_size s_file_bytes p_wide p_high p_pixels = some (tg0, zt_known, zt_depth, zt_packing, zt_isUpward, zs_place, zp_wide, zp_high, zp_pixels) → va_P D vwCl (zwX0 cI h_t h_t_colours t_known t_depth t_packing t_isUpward t_column t_up t_colours ++ zwX7 cI h_s h_s_file h_s_file_bytes s_place s_file_size s_file_bytes ++ zwX5 cI h_p h_p_pixels p_wide p_high p_pixels) H → va_D A (zwX0 cI h_t h_t_colours t_known t_depth t_packing t_isUpward t_column t_up t_colours ++ zwX7 cI h_s h_s_file h_s_file_bytes s_place s_file_size s_file_bytes ++ zwX5 cI h_p h_p_pixels p_wide p_high p_pixels) → va_S A s.heap H locs → lv_has ls 6 [(0, .ref h_t), (1, .ref h_s), (2, .ref h_p)] → W p l e (rmX0_readHeader tg0) s m args below meth c H locs 0 0 Q (F0 m 0 ls []) := by
  intro hf hP hD hS hl
  obtain ⟨hx, hb, hml, hown, hts⟩ := id C
  unfold fX0_readHeader at hf
  refine lv_aload_n hx hb dX0_readHeader_0 rfl (lv_at hl 1 rfl) ?_
  refine lv_aload_n hx hb dX0_readHeader_1 rfl (lv_at hl 1 rfl) ?_
  refine lv_iconst (v := 4) hx hb dX0_readHeader_2 (by decide) ?_
  obtain ⟨tg1, r2, u3, hc4, hf⟩ := zb3_in hf
  have hle := zT_le hf
  refine zcx_i (vx_runV (As := [.int 4]) (rest := [.ref h_s]) C (mX7_little l hst D cI H.size h_s h_s_file h_s_file_bytes s_place s_file_size s_file_bytes 4 tg1 r2 u3 hc4) (qX0_readHeader_X7_little_97 hts) ⟨zPT_blind, va_recv hK hP (ci := 6) (q0 := 2) rfl rfl, zpreT hK hN hT hA hS hP hD [2, 3, 4] rfl rfl⟩ rfl rfl hl.1 rfl (lv_room (Nat.le_of_ble_eq_true rfl)) dX0_readHeader_3 hle) hP hD hS hA [2, 3, 4] [0, 1, 5, 6] [0, 1, 4, 5, 6, 2, 3] (ws' := zwX0 cI h_t h_t_colours t_known t_depth t_packing t_isUpward t_column t_up t_colours ++ zwX7 cI h_s h_s_file h_s_file_bytes u3 s_file_size s_file_bytes ++ zwX5 cI h_p h_p_pixels p_wide p_high p_pixels) rfl rfl rfl rfl rfl rfl (fun ht H locs q9 ce hP hD hS hq hv hcl => ?_) (fun ht H locs hP hD hS => ?_)
  · replace hf := zif_f hf ht
    cases hf
    exact hX _ _ _ _ _ _ _ ht hP hD hS hq hv hcl
  · replace hf := zif_t hf ht
    clear hle
    refine lv_bipush (v := 40) hx hb dX0_readHeader_6 (by decide) ?_
    refine lv_icmp_ne (tgt := 15) hx hb dX0_readHeader_8 (by decide) (fun c5 => ?_) (fun c5 => ?_)
    · replace hf := zif_f hf c5
      refine lv_iconst (v := 0) hx hb dX0_readHeader_15 (by decide) ?_
      exact wX0_readHeader_16 C hN hK hA hT hst hE hX hf hP hD hS (lv_sub hl [0, 1, 2] rfl)
    · replace hf := zif_t hf c5
      refine lv_iconst (v := 1) hx hb dX0_readHeader_11 (by decide) ?_
      refine lv_goto (tgt := 16) hx hb dX0_readHeader_12 (by decide) ?_
      exact wX0_readHeader_16 C hN hK hA hT hst hE hX hf hP hD hS (lv_sub hl [0, 1, 2] rfl)
set_option maxHeartbeats 4000000 in
set_option maxRecDepth 100000 in
theorem mX0_readHeader (l : Launch) (hst : l.stackTraces = false) (D : va_G) (cI : ClassId) (sz : Nat) (h_t h_t_colours h_s h_s_file h_s_file_bytes h_p h_p_pixels : Nat) (t_known : Int32) (t_depth : Int32) (t_packing : Int32) (t_isUpward : Int32) (t_column : Int32) (t_up : Int32) (t_colours : Nat → Int32) (s_place : Int32) (s_file_size : Int32) (s_file_bytes : Nat → Int32) (p_wide : Int32) (p_high : Int32) (p_pixels : Nat → Int32) (tg0 : Nat) (zt_known : Int32) (zt_depth : Int32) (zt_packing : Int32) (zt_isUpward : Int32) (zs_place : Int32) (zp_wide : Int32) (zp_high : Int32) (zp_pixels : Nat → Int32) (hf : fX0_readHeader t_known t_depth t_packing t_isUpward s_place s_file_size s_file_bytes p_wide p_high p_pixels = some (tg0, zt_known, zt_depth, zt_packing, zt_isUpward, zs_place, zp_wide, zp_high, zp_pixels)) : vx_Met l yX0_readHeader wsX0_readHeader (rmX0_readHeader tg0) (va_Pc [.ref h_t, .ref h_s, .ref h_p] (zPT D [(cI, .int)] (zwX0 cI h_t h_t_colours t_known t_depth t_packing t_isUpward t_column t_up t_colours ++ zwX7 cI h_s h_s_file h_s_file_bytes s_place s_file_size s_file_bytes ++ zwX5 cI h_p h_p_pixels p_wide p_high p_pixels) sz)) (zQTv D (zwX0 cI h_t h_t_colours t_known t_depth t_packing t_isUpward t_column t_up t_colours ++ zwX7 cI h_s h_s_file h_s_file_bytes s_place s_file_size s_file_bytes ++ zwX5 cI h_p h_p_pixels p_wide p_high p_pixels) sz tg0 (zwX0 cI h_t h_t_colours zt_known zt_depth zt_packing zt_isUpward t_column t_up t_colours ++ zwX7 cI h_s h_s_file h_s_file_bytes zs_place s_file_size s_file_bytes ++ zwX5 cI h_p h_p_pixels zp_wide zp_high zp_pixels)) (zXT D (zwX0 cI h_t h_t_colours t_known t_depth t_packing t_isUpward t_column t_up t_colours ++ zwX7 cI h_s h_s_file h_s_file_bytes s_place s_file_size s_file_bytes ++ zwX5 cI h_p h_p_pixels p_wide p_high p_pixels) sz tg0 (zwX0 cI h_t h_t_colours zt_known zt_depth zt_packing zt_isUpward t_column t_up t_colours ++ zwX7 cI h_s h_s_file h_s_file_bytes zs_place s_file_size s_file_bytes ++ zwX5 cI h_p h_p_pixels zp_wide zp_high zp_pixels)) (zc tg0) (zs tg0) (va_A (zwX0 cI h_t h_t_colours t_known t_depth t_packing t_isUpward t_column t_up t_colours ++ zwX7 cI h_s h_s_file h_s_file_bytes s_place s_file_size s_file_bytes ++ zwX5 cI h_p h_p_pixels p_wide p_high p_pixels) sz) := by
  refine vx_ofW (cc := cX0_readHeader) (maxL := 6) (ret := none) (by decide) rfl ?_
  intro p e s m args below meth c s₁ B hml htab hv
  obtain ⟨rfl, ⟨hsz, hP, hK, hD0, hN⟩, hT⟩ := hv
  subst hsz
  have C : CallFix p m c cX0_readHeader 6 s [.ref h_t, .ref h_s, .ref h_p].toArray wsX0_readHeader RX0 := ⟨B.exec, B.bytes, hml, findClass_of_methodNamed B.named, atoms_spec (ws := wsX0_readHeader) B.pre⟩
  have hl := lv_entry ([.ref h_t, .ref h_s, .ref h_p]) (n := 6) (Nat.le_of_ble_eq_true rfl)
  rw [lg_entry_eq]
  exact wX0_readHeader_0 (A := va_A (zwX0 cI h_t h_t_colours t_known t_depth t_packing t_isUpward t_column t_up t_colours ++ zwX7 cI h_s h_s_file h_s_file_bytes s_place s_file_size s_file_bytes ++ zwX5 cI h_p h_p_pixels p_wide p_high p_pixels) s.heap.size) C hN hK (fun q h => Or.inr h) hT hst (fun h0 H locs pc ls d hP hD hS => zendT_v C.1 C.2.1 B.returns B.notSynchronized h0 d hP hD hS) (fun H locs pc ls rest q9 ce h0 hP hD hS hq hv hcl => zoutT htab B.notSynchronized h0 hP hD hS hq hv hcl) hf hP hD0.self va_S.rf hl
def rmX0_readRows (tg : Nat) : Room := { frames := 8, cells := zc tg, slots := zs tg, locals := 125 }
theorem kX0_readRows_126 {args : Array Value} {s : State} (h : ∀ w ∈ wsX0_readRows, w.before args s = true) : (Cond.fieldLink RX0 126 "FourPictureFiles$BitmapFormat" "isUpward" "Z").before args s = true := h _ (by decide +kernel)
theorem kX0_readRows_130 {args : Array Value} {s : State} (h : ∀ w ∈ wsX0_readRows, w.before args s = true) : (Cond.fieldLink RX0 130 "FourPictureFiles$BitmapFormat" "depth" "I").before args s = true := h _ (by decide +kernel)
theorem iX0_readRows_X0 : ∀ w ∈ u_ws RX0 TX0 7, w ∈ wsX0_readRows := by decide +kernel
theorem iX0_readRows_X5 : ∀ w ∈ u_ws RX5 TX5 3, w ∈ wsX0_readRows := by decide +kernel
theorem qX0_readRows_X0_bytesToFour_89 {args : Array Value} {s : State} {tg0 : Nat} (hts : ∀ w ∈ wsX0_readRows, w.before args s = true) : CallB (rmX0_readRows tg0) s args RX0 89 yX0_bytesToFour cX0_bytesToFour 1 (some .int) wsX0_bytesToFour rmX0_bytesToFour 0 0 1 ∧ (Cond.static yX0_bytesToFour).before args s = true := va_cwS 1 hts gX0_readRows_X0_bytesToFour rfl rfl rfl (by decide +kernel) ⟨Nat.le_of_ble_eq_true rfl, Nat.le_of_ble_eq_true rfl⟩
theorem qX0_readRows_X0_colourOf_139 {args : Array Value} {s : State} {tg0 : Nat} {tg : Nat} (hts : ∀ w ∈ wsX0_readRows, w.before args s = true) : CallW (rmX0_readRows tg0) s args RX0 RX0 139 yX0_colourOf cX0_colourOf 3 (some .int) wsX0_colourOf (rmX0_colourOf tg) (zc tg) (zs tg) 2 := cwV 2 hts gX0_readRows_X0_colourOf rfl rfl rfl (by decide +kernel) ⟨Nat.le_of_ble_eq_true rfl, Nat.le_of_ble_eq_true rfl⟩
theorem qX0_readRows_X5_set_143 {args : Array Value} {s : State} {tg0 : Nat} (hts : ∀ w ∈ wsX0_readRows, w.before args s = true) : CallW (rmX0_readRows tg0) s args RX0 RX5 143 yX5_set cX5_set 4 none wsX5_set rmX5_set 0 0 3 := cwV 3 hts gX0_readRows_X5_set rfl rfl rfl (by decide +kernel) ⟨Nat.le_of_ble_eq_true rfl, Nat.le_of_ble_eq_true rfl⟩
theorem qX0_readRows_X7_blueGreenRed_104 {args : Array Value} {s : State} {tg0 : Nat} {tg : Nat} (hts : ∀ w ∈ wsX0_readRows, w.before args s = true) : CallW (rmX0_readRows tg0) s args RX0 RX7 104 yX7_blueGreenRed cX7_blueGreenRed 3 (some .int) wsX7_blueGreenRed (rmX7_blueGreenRed tg) (zc tg) (zs tg) 0 := cwV 0 hts gX0_readRows_X7_blueGreenRed rfl rfl rfl (by decide +kernel) ⟨Nat.le_of_ble_eq_true rfl, Nat.le_of_ble_eq_true rfl⟩
theorem qX0_readRows_X7_next_136 {args : Array Value} {s : State} {tg0 : Nat} {tg : Nat} (hts : ∀ w ∈ wsX0_readRows, w.before args s = true) : CallW (rmX0_readRows tg0) s args RX0 RX7 136 yX7_next cX7_next 2 (some .int) wsX7_next (rmX7_next tg) (zc tg) (zs tg) 0 := cwV 0 hts gX0_readRows_X7_next rfl rfl rfl (by decide +kernel) ⟨Nat.le_of_ble_eq_true rfl, Nat.le_of_ble_eq_true rfl⟩
theorem qX0_readRows_X7_pass_92 {args : Array Value} {s : State} {tg0 : Nat} {tg : Nat} (hts : ∀ w ∈ wsX0_readRows, w.before args s = true) : CallW (rmX0_readRows tg0) s args RX0 RX7 92 yX7_pass cX7_pass 3 none wsX7_pass (rmX7_pass tg) (zc tg) (zs tg) 1 := cwV 1 hts gX0_readRows_X7_pass rfl rfl rfl (by decide +kernel) ⟨Nat.le_of_ble_eq_true rfl, Nat.le_of_ble_eq_true rfl⟩
set_option maxHeartbeats 4000000 in
set_option maxRecDepth 100000 in
theorem wX0_readRows_93 {p : Program} {l : Launch} {e : Env} {s : State} {m : MethodId} {args : Array Value} {below : List Frame} {meth : Method} {c : Code} {D : va_G} {A : Nat → Prop} {Q : State → Prop} {cI : ClassId} {h_t h_t_colours h_s h_s_file h_s_file_bytes h_p h_p_pixels : Nat} {t_known : Int32} {t_depth : Int32} {t_packing : Int32} {t_isUpward : Int32} {t_column : Int32} {t_up : Int32} {t_colours : Nat → Int32} {s_file_size : Int32} {s_file_bytes : Nat → Int32} {p_wide : Int32} {p_high : Int32} {tg0 : Nat} {zs_place : Int32} {zp_pixels : Nat → Int32} (C : CallFix p m c cX0_readRows 7 s args wsX0_readRows RX0) (hN : zN s) (hK : va_K D vwCl [(cI, .int)] s) (hA : ∀ q, s.heap.size ≤ q → A q) (hT : zTh A s) (hst : l.stackTraces = false) (hE : zTEv tg0 p l e (rmX0_readRows tg0) s m args below meth c cX0_readRows D A Q (zwX0 cI h_t h_t_colours t_known t_depth t_packing t_isUpward t_column t_up t_colours ++ zwX7 cI h_s h_s_file h_s_file_bytes zs_place s_file_size s_file_bytes ++ zwX5 cI h_p h_p_pixels p_wide p_high zp_pixels)) (hX : zTX tg0 p l e (rmX0_readRows tg0) s m args below meth c D A Q (zwX0 cI h_t h_t_colours t_known t_depth t_packing t_isUpward t_column t_up t_colours ++ zwX7 cI h_s h_s_file h_s_file_bytes zs_place s_file_size s_file_bytes ++ zwX5 cI h_p h_p_pixels p_wide p_high zp_pixels)) {rc19 : Int32 → Int32 → Int32 → (Nat → Int32) → Int32 → Int32 → (Nat → Int32) → Int32 → Int32 → (Nat → Int32) → Int32 → Int32 → Option (Nat × Int32 × (Nat → Int32))} (hr_19 : ∀ {s_place : Int32} {p_pixels : Nat → Int32} {l3 : Int32} {l4 : Int32} {H : Heap} {locs : List Loc} {ls : Array Slot}, rc19 t_known t_depth t_isUpward t_colours s_place s_file_size s_file_bytes p_wide p_high p_pixels l3 l4 = some (tg0, zs_place, zp_pixels) → va_P D vwCl (zwX0 cI h_t h_t_colours t_known t_depth t_packing t_isUpward t_column t_up t_colours ++ zwX7 cI h_s h_s_file h_s_file_bytes s_place s_file_size s_file_bytes ++ zwX5 cI h_p h_p_pixels p_wide p_high p_pixels) H → va_D A (zwX0 cI h_t h_t_colours t_known t_depth t_packing t_isUpward t_column t_up t_colours ++ zwX7 cI h_s h_s_file h_s_file_bytes s_place s_file_size s_file_bytes ++ zwX5 cI h_p h_p_pixels p_wide p_high p_pixels) → va_S A s.heap H locs → lv_has ls 7 [(0, .ref h_t), (1, .ref h_s), (2, .ref h_p), (3, .int l3), (4, .int l4)] → W p l e (rmX0_readRows tg0) s m args below meth c H locs 0 0 Q (F0 m 19 ls [])) {rc54 : Int32 → Int32 → Int32 → (Nat → Int32) → Int32 → Int32 → (Nat → Int32) → Int32 → Int32 → (Nat → Int32) → Int32 → Int32 → Int32 → Int32 → Option (Nat × Int32 × (Nat → Int32))} (hr_54 : ∀ {s_place : Int32} {p_pixels : Nat → Int32} {l3 : Int32} {l4 : Int32} {l5 : Int32} {l6 : Int32} {H : Heap} {locs : List Loc} {ls : Array Slot}, rc54 t_known t_depth t_isUpward t_colours s_place s_file_size s_file_bytes p_wide p_high p_pixels l3 l4 l5 l6 = some (tg0, zs_place, zp_pixels) → va_P D vwCl (zwX0 cI h_t h_t_colours t_known t_depth t_packing t_isUpward t_column t_up t_colours ++ zwX7 cI h_s h_s_file h_s_file_bytes s_place s_file_size s_file_bytes ++ zwX5 cI h_p h_p_pixels p_wide p_high p_pixels) H → va_D A (zwX0 cI h_t h_t_colours t_known t_depth t_packing t_isUpward t_column t_up t_colours ++ zwX7 cI h_s h_s_file h_s_file_bytes s_place s_file_size s_file_bytes ++ zwX5 cI h_p h_p_pixels p_wide p_high p_pixels) → va_S A s.heap H locs → lv_has ls 7 [(0, .ref h_t), (1, .ref h_s), (2, .ref h_p), (3, .int l3), (4, .int l4), (5, .int l5), (6, .int l6)] → W p l e (rmX0_readRows tg0) s m args below meth c H locs 0 0 Q (F0 m 54 ls [])) {s_place : Int32} {p_pixels : Nat → Int32} {l3 : Int32} {l4 : Int32} {l5 : Int32} {l6 : Int32} {k1 : Int32} {k2 : Int32} {k3 : Int32} {H : Heap} {locs : List Loc} {ls : Array Slot} : fX0_readRows_93 rc19 rc54 t_known t_depth t_isUpward t_colours s_place s_file_size s_file_bytes p_wide p_high p_pixels l3 l4 l5 l6 k1 k2 k3 = some (tg0, zs_place, zp_pixels) → va_P D vwCl (zwX0 cI h_t h_t_colours t_known t_depth t_packing t_isUpward t_column t_up t_colours ++ zwX7 cI h_s h_s_file h_s_file_bytes s_place s_file_size s_file_bytes ++ zwX5 cI h_p h_p_pixels p_wide p_high p_pixels) H → va_D A (zwX0 cI h_t h_t_colours t_known t_depth t_packing t_isUpward t_column t_up t_colours ++ zwX7 cI h_s h_s_file h_s_file_bytes s_place s_file_size s_file_bytes ++ zwX5 cI h_p h_p_pixels p_wide p_high p_pixels) → va_S A s.heap H locs → lv_has ls 7 [(0, .ref h_t), (1, .ref h_s), (2, .ref h_p), (3, .int l3), (4, .int l4), (5, .int l5), (6, .int l6)] → W p l e (rmX0_readRows tg0) s m args below meth c H locs 0 0 Q (F0 m 93 ls [.int k3, .int k2, .int k1, .ref h_p]) := by
  intro hf hP hD hS hl
  obtain ⟨hx, hb, hml, hown, hts⟩ := id C
  unfold fX0_readRows_93 at hf
  obtain ⟨u1, hc2, hf⟩ := zb1_in hf
  refine zc_v (va_runV (As := [.int k1, .int k2, .int k3]) (rest := []) C (mX5_set l D cI H.size h_p h_p_pixels p_wide p_high p_pixels k1 k2 k3 u1 hc2) (qX0_readRows_X5_set_143 hts) ⟨zP_blind, va_recv hK hP (ci := 4) (q0 := 5) rfl rfl, zpre hK hN hP hD [5, 6] rfl rfl⟩ rfl rfl hl.1 rfl (lv_room (Nat.le_of_ble_eq_true rfl)) dX0_readRows_93 ⟨Nat.zero_le _, Nat.zero_le _⟩) hP hD hS hA [5, 6] [0, 1, 2, 3, 4] [0, 1, 2, 3, 4, 5, 6] (ws' := zwX0 cI h_t h_t_colours t_known t_depth t_packing t_isUpward t_column t_up t_colours ++ zwX7 cI h_s h_s_file h_s_file_bytes s_place s_file_size s_file_bytes ++ zwX5 cI h_p h_p_pixels p_wide p_high u1) rfl rfl rfl rfl rfl rfl (fun H locs hP hD hS => ?_)
  obtain ⟨x3, ex3⟩ : ∃ y : Int32, y = l6 + 1 := ⟨_, rfl⟩
  replace hf := zlet_in hf ex3
  refine lv_iinc (v := x3) (lv' := [(6, .int x3), (0, .ref h_t), (1, .ref h_s), (2, .ref h_p), (3, .int l3), (4, .int l4), (5, .int l5)]) hx hb dX0_readRows_96 hl (k := 6) rfl (by rw [ex3]; rfl) (by decide) rfl (fun ls hl => ?_)
  clear ex3
  refine lv_goto (tgt := 54) hx hb dX0_readRows_99 (by decide) ?_
  exact hr_54 hf hP hD hS (lv_sub hl [1, 2, 3, 4, 5, 6, 0] rfl)
set_option maxHeartbeats 4000000 in
set_option maxRecDepth 100000 in
theorem wX0_readRows_54 {p : Program} {l : Launch} {e : Env} {s : State} {m : MethodId} {args : Array Value} {below : List Frame} {meth : Method} {c : Code} {D : va_G} {A : Nat → Prop} {Q : State → Prop} {cI : ClassId} {h_t h_t_colours h_s h_s_file h_s_file_bytes h_p h_p_pixels : Nat} {t_known : Int32} {t_depth : Int32} {t_packing : Int32} {t_isUpward : Int32} {t_column : Int32} {t_up : Int32} {t_colours : Nat → Int32} {s_file_size : Int32} {s_file_bytes : Nat → Int32} {p_wide : Int32} {p_high : Int32} {tg0 : Nat} {zs_place : Int32} {zp_pixels : Nat → Int32} (C : CallFix p m c cX0_readRows 7 s args wsX0_readRows RX0) (hN : zN s) (hK : va_K D vwCl [(cI, .int)] s) (hA : ∀ q, s.heap.size ≤ q → A q) (hT : zTh A s) (hst : l.stackTraces = false) (hE : zTEv tg0 p l e (rmX0_readRows tg0) s m args below meth c cX0_readRows D A Q (zwX0 cI h_t h_t_colours t_known t_depth t_packing t_isUpward t_column t_up t_colours ++ zwX7 cI h_s h_s_file h_s_file_bytes zs_place s_file_size s_file_bytes ++ zwX5 cI h_p h_p_pixels p_wide p_high zp_pixels)) (hX : zTX tg0 p l e (rmX0_readRows tg0) s m args below meth c D A Q (zwX0 cI h_t h_t_colours t_known t_depth t_packing t_isUpward t_column t_up t_colours ++ zwX7 cI h_s h_s_file h_s_file_bytes zs_place s_file_size s_file_bytes ++ zwX5 cI h_p h_p_pixels p_wide p_high zp_pixels)) {rc19 : Int32 → Int32 → Int32 → (Nat → Int32) → Int32 → Int32 → (Nat → Int32) → Int32 → Int32 → (Nat → Int32) → Int32 → Int32 → Option (Nat × Int32 × (Nat → Int32))} (hr_19 : ∀ {s_place : Int32} {p_pixels : Nat → Int32} {l3 : Int32} {l4 : Int32} {H : Heap} {locs : List Loc} {ls : Array Slot}, rc19 t_known t_depth t_isUpward t_colours s_place s_file_size s_file_bytes p_wide p_high p_pixels l3 l4 = some (tg0, zs_place, zp_pixels) → va_P D vwCl (zwX0 cI h_t h_t_colours t_known t_depth t_packing t_isUpward t_column t_up t_colours ++ zwX7 cI h_s h_s_file h_s_file_bytes s_place s_file_size s_file_bytes ++ zwX5 cI h_p h_p_pixels p_wide p_high p_pixels) H → va_D A (zwX0 cI h_t h_t_colours t_known t_depth t_packing t_isUpward t_column t_up t_colours ++ zwX7 cI h_s h_s_file h_s_file_bytes s_place s_file_size s_file_bytes ++ zwX5 cI h_p h_p_pixels p_wide p_high p_pixels) → va_S A s.heap H locs → lv_has ls 7 [(0, .ref h_t), (1, .ref h_s), (2, .ref h_p), (3, .int l3), (4, .int l4)] → W p l e (rmX0_readRows tg0) s m args below meth c H locs 0 0 Q (F0 m 19 ls [])) (n : Nat) : ∀ {s_place : Int32} {p_pixels : Nat → Int32} {l3 : Int32} {l4 : Int32} {l5 : Int32} {l6 : Int32} {H : Heap} {locs : List Loc} {ls : Array Slot}, fX0_readRows_54 rc19 n t_known t_depth t_isUpward t_colours s_place s_file_size s_file_bytes p_wide p_high p_pixels l3 l4 l5 l6 = some (tg0, zs_place, zp_pixels) → va_P D vwCl (zwX0 cI h_t h_t_colours t_known t_depth t_packing t_isUpward t_column t_up t_colours ++ zwX7 cI h_s h_s_file h_s_file_bytes s_place s_file_size s_file_bytes ++ zwX5 cI h_p h_p_pixels p_wide p_high p_pixels) H → va_D A (zwX0 cI h_t h_t_colours t_known t_depth t_packing t_isUpward t_column t_up t_colours ++ zwX7 cI h_s h_s_file h_s_file_bytes s_place s_file_size s_file_bytes ++ zwX5 cI h_p h_p_pixels p_wide p_high p_pixels) → va_S A s.heap H locs → lv_has ls 7 [(0, .ref h_t), (1, .ref h_s), (2, .ref h_p), (3, .int l3), (4, .int l4), (5, .int l5), (6, .int l6)] → W p l e (rmX0_readRows tg0) s m args below meth c H locs 0 0 Q (F0 m 54 ls []) := by
  obtain ⟨hx, hb, hml, hown, hts⟩ := id C
  induction n with
  | zero =>
    intro s_place p_pixels l3 l4 l5 l6 H locs ls hf
    cases hf
  | succ n hr_54 =>
    intro s_place p_pixels l3 l4 l5 l6 H locs ls hf hP hD hS hl
    rw [fX0_readRows_54_s] at hf
    refine lv_iload hx hb dX0_readRows_54 (lv_at hl 6 rfl) ?_
    refine lv_aload_n hx hb dX0_readRows_56 rfl (lv_at hl 2 rfl) ?_
    refine va_getN (D := D) (ci := 4) (v := .int p_wide) (C := RX5) (T := TX5) (N := 3) hx hb hts iX0_readRows_X5 hown hK hP 5 rfl rfl 1 (by decide) (hN.at 7 rfl) (fun _ h9 => h9) rfl dX0_readRows_57 ?_
    refine lv_icmp_ge (tgt := 102) hx hb dX0_readRows_60 (by decide) (fun c1 => ?_) (fun c1 => ?_)
    · replace hf := zif_t hf c1
      refine lv_aload_n hx hb dX0_readRows_102 rfl (lv_at hl 1 rfl) ?_
      refine lv_iload_n hx hb dX0_readRows_103 rfl (lv_at hl 3 rfl) ?_
      obtain ⟨tg2, u3, hc4, hf⟩ := zb2_in hf
      have hle := zT_le hf
      refine zcx_v (vx_runV (As := [.int l3]) (rest := []) C (mX7_pass l hst D cI H.size h_s h_s_file h_s_file_bytes s_place s_file_size s_file_bytes l3 tg2 u3 hc4) (qX0_readRows_X7_pass_92 hts) ⟨zPT_blind, va_recv hK hP (ci := 6) (q0 := 2) rfl rfl, zpreT hK hN hT hA hS hP hD [2, 3, 4] rfl rfl⟩ rfl rfl hl.1 rfl (lv_room (Nat.le_of_ble_eq_true rfl)) dX0_readRows_104 hle) hP hD hS hA [2, 3, 4] [0, 1, 5, 6] [0, 1, 4, 5, 6, 2, 3] (ws' := zwX0 cI h_t h_t_colours t_known t_depth t_packing t_isUpward t_column t_up t_colours ++ zwX7 cI h_s h_s_file h_s_file_bytes u3 s_file_size s_file_bytes ++ zwX5 cI h_p h_p_pixels p_wide p_high p_pixels) rfl rfl rfl rfl rfl rfl (fun ht H locs q9 ce hP hD hS hq hv hcl => ?_) (fun ht H locs hP hD hS => ?_)
      · replace hf := zif_f hf ht
        cases hf
        exact hX _ _ _ _ _ _ _ ht hP hD hS hq hv hcl
      · replace hf := zif_t hf ht
        clear hle
        obtain ⟨x5, ex5⟩ : ∃ y : Int32, y = l4 + 1 := ⟨_, rfl⟩
        replace hf := zlet_in hf ex5
        refine lv_iinc (v := x5) (lv' := [(4, .int x5), (0, .ref h_t), (1, .ref h_s), (2, .ref h_p), (3, .int l3), (5, .int l5), (6, .int l6)]) hx hb dX0_readRows_107 hl (k := 4) rfl (by rw [ex5]; rfl) (by decide) rfl (fun ls hl => ?_)
        clear ex5
        refine lv_goto (tgt := 19) hx hb dX0_readRows_110 (by decide) ?_
        exact hr_19 hf hP hD hS (lv_sub hl [1, 2, 3, 4, 0] rfl)
    · replace hf := zif_f hf c1
      refine lv_aload_n hx hb dX0_readRows_63 rfl (lv_at hl 2 rfl) ?_
      refine lv_iload hx hb dX0_readRows_64 (lv_at hl 6 rfl) ?_
      refine lv_iload hx hb dX0_readRows_66 (lv_at hl 5 rfl) ?_
      refine lv_aload_n hx hb dX0_readRows_68 rfl (lv_at hl 0 rfl) ?_
      refine va_get (D := D) (ci := 0) (v := .int t_depth) (C := RX0) (T := TX0) (N := 7) hx hb hts iX0_readRows_X0 hown hK hP 0 rfl rfl 2 (by decide) (kX0_readRows_130 hts) (fun _ h9 => h9) rfl dX0_readRows_69 ?_
      refine lv_bipush (v := 24) hx hb dX0_readRows_72 (by decide) ?_
      refine lv_icmp_ne (tgt := 84) hx hb dX0_readRows_74 (by decide) (fun c6 => ?_) (fun c6 => ?_)
      · replace hf := zif_f hf c6
        refine lv_aload_n hx hb dX0_readRows_84 rfl (lv_at hl 0 rfl) ?_
        refine lv_aload_n hx hb dX0_readRows_85 rfl (lv_at hl 1 rfl) ?_
        refine lv_aload_n hx hb dX0_readRows_86 rfl (lv_at hl 1 rfl) ?_
        obtain ⟨tg7, r8, u9, hc10, hf⟩ := zb3_in hf
        have hle := zT_le hf
        refine zcx_i (vx_runV (As := []) (rest := [.ref h_s, .ref h_t, .int l5, .int l6, .ref h_p]) C (mX7_next l hst D cI H.size h_s h_s_file h_s_file_bytes s_place s_file_size s_file_bytes tg7 r8 u9 hc10) (qX0_readRows_X7_next_136 hts) ⟨zPT_blind, va_recv hK hP (ci := 6) (q0 := 2) rfl rfl, zpreT hK hN hT hA hS hP hD [2, 3, 4] rfl rfl⟩ rfl rfl hl.1 rfl (lv_room (Nat.le_of_ble_eq_true rfl)) dX0_readRows_87 hle) hP hD hS hA [2, 3, 4] [0, 1, 5, 6] [0, 1, 4, 5, 6, 2, 3] (ws' := zwX0 cI h_t h_t_colours t_known t_depth t_packing t_isUpward t_column t_up t_colours ++ zwX7 cI h_s h_s_file h_s_file_bytes u9 s_file_size s_file_bytes ++ zwX5 cI h_p h_p_pixels p_wide p_high p_pixels) rfl rfl rfl rfl rfl rfl (fun ht H locs q9 ce hP hD hS hq hv hcl => ?_) (fun ht H locs hP hD hS => ?_)
        · replace hf := zif_f hf ht
          cases hf
          exact hX _ _ _ _ _ _ _ ht hP hD hS hq hv hcl
        · replace hf := zif_t hf ht
          clear hle
          obtain ⟨tg11, r12, hc13, hf⟩ := zb2_in hf
          have hle := zT_le hf
          refine zcx_i (vx_runV (As := [.ref h_s, .int r8]) (rest := [.int l5, .int l6, .ref h_p]) C (mX0_colourOf l hst D cI H.size h_t h_t_colours h_s h_s_file h_s_file_bytes t_known t_depth t_packing t_isUpward t_column t_up t_colours u9 s_file_size s_file_bytes r8 tg11 r12 hc13) (qX0_readRows_X0_colourOf_139 hts) ⟨zPT_blind, va_recv hK hP (ci := 0) (q0 := 0) rfl rfl, zpreT hK hN hT hA hS hP hD [0, 1, 2, 3, 4] rfl rfl⟩ rfl rfl hl.1 rfl (lv_room (Nat.le_of_ble_eq_true rfl)) dX0_readRows_90 hle) hP hD hS hA [0, 1, 2, 3, 4] [5, 6] [2, 3, 4, 5, 6, 0, 1] (ws' := zwX0 cI h_t h_t_colours t_known t_depth t_packing t_isUpward t_column t_up t_colours ++ zwX7 cI h_s h_s_file h_s_file_bytes u9 s_file_size s_file_bytes ++ zwX5 cI h_p h_p_pixels p_wide p_high p_pixels) rfl rfl rfl rfl rfl rfl (fun ht H locs q9 ce hP hD hS hq hv hcl => ?_) (fun ht H locs hP hD hS => ?_)
          · replace hf := zif_f hf ht
            cases hf
            exact hX _ _ _ _ _ _ _ ht hP hD hS hq hv hcl
          · replace hf := zif_t hf ht
            clear hle
            exact wX0_readRows_93 C hN hK hA hT hst hE hX hr_19 hr_54 hf hP hD hS (lv_sub hl [0, 1, 2, 3, 4, 5, 6] rfl)
      · replace hf := zif_t hf c6
        refine lv_aload_n hx hb dX0_readRows_77 rfl (lv_at hl 1 rfl) ?_
        obtain ⟨tg14, r15, u16, hc17, hf⟩ := zb3_in hf
        have hle := zT_le hf
        refine zcx_i (vx_runV (As := []) (rest := [.int l5, .int l6, .ref h_p]) C (mX7_blueGreenRed l hst D cI H.size h_s h_s_file h_s_file_bytes s_place s_file_size s_file_bytes tg14 r15 u16 hc17) (qX0_readRows_X7_blueGreenRed_104 hts) ⟨zPT_blind, va_recv hK hP (ci := 6) (q0 := 2) rfl rfl, zpreT hK hN hT hA hS hP hD [2, 3, 4] rfl rfl⟩ rfl rfl hl.1 rfl (lv_room (Nat.le_of_ble_eq_true rfl)) dX0_readRows_78 hle) hP hD hS hA [2, 3, 4] [0, 1, 5, 6] [0, 1, 4, 5, 6, 2, 3] (ws' := zwX0 cI h_t h_t_colours t_known t_depth t_packing t_isUpward t_column t_up t_colours ++ zwX7 cI h_s h_s_file h_s_file_bytes u16 s_file_size s_file_bytes ++ zwX5 cI h_p h_p_pixels p_wide p_high p_pixels) rfl rfl rfl rfl rfl rfl (fun ht H locs q9 ce hP hD hS hq hv hcl => ?_) (fun ht H locs hP hD hS => ?_)
        · replace hf := zif_f hf ht
          cases hf
          exact hX _ _ _ _ _ _ _ ht hP hD hS hq hv hcl
        · replace hf := zif_t hf ht
          clear hle
          refine lv_goto (tgt := 93) hx hb dX0_readRows_81 (by decide) ?_
          exact wX0_readRows_93 C hN hK hA hT hst hE hX hr_19 hr_54 hf hP hD hS (lv_sub hl [0, 1, 2, 3, 4, 5, 6] rfl)
set_option maxHeartbeats 4000000 in
set_option maxRecDepth 100000 in
theorem wX0_readRows_49 {p : Program} {l : Launch} {e : Env} {s : State} {m : MethodId} {args : Array Value} {below : List Frame} {meth : Method} {c : Code} {D : va_G} {A : Nat → Prop} {Q : State → Prop} {cI : ClassId} {h_t h_t_colours h_s h_s_file h_s_file_bytes h_p h_p_pixels : Nat} {t_known : Int32} {t_depth : Int32} {t_packing : Int32} {t_isUpward : Int32} {t_column : Int32} {t_up : Int32} {t_colours : Nat → Int32} {s_file_size : Int32} {s_file_bytes : Nat → Int32} {p_wide : Int32} {p_high : Int32} {tg0 : Nat} {zs_place : Int32} {zp_pixels : Nat → Int32} (C : CallFix p m c cX0_readRows 7 s args wsX0_readRows RX0) (hN : zN s) (hK : va_K D vwCl [(cI, .int)] s) (hA : ∀ q, s.heap.size ≤ q → A q) (hT : zTh A s) (hst : l.stackTraces = false) (hE : zTEv tg0 p l e (rmX0_readRows tg0) s m args below meth c cX0_readRows D A Q (zwX0 cI h_t h_t_colours t_known t_depth t_packing t_isUpward t_column t_up t_colours ++ zwX7 cI h_s h_s_file h_s_file_bytes zs_place s_file_size s_file_bytes ++ zwX5 cI h_p h_p_pixels p_wide p_high zp_pixels)) (hX : zTX tg0 p l e (rmX0_readRows tg0) s m args below meth c D A Q (zwX0 cI h_t h_t_colours t_known t_depth t_packing t_isUpward t_column t_up t_colours ++ zwX7 cI h_s h_s_file h_s_file_bytes zs_place s_file_size s_file_bytes ++ zwX5 cI h_p h_p_pixels p_wide p_high zp_pixels)) {rc19 : Int32 → Int32 → Int32 → (Nat → Int32) → Int32 → Int32 → (Nat → Int32) → Int32 → Int32 → (Nat → Int32) → Int32 → Int32 → Option (Nat × Int32 × (Nat → Int32))} (hr_19 : ∀ {s_place : Int32} {p_pixels : Nat → Int32} {l3 : Int32} {l4 : Int32} {H : Heap} {locs : List Loc} {ls : Array Slot}, rc19 t_known t_depth t_isUpward t_colours s_place s_file_size s_file_bytes p_wide p_high p_pixels l3 l4 = some (tg0, zs_place, zp_pixels) → va_P D vwCl (zwX0 cI h_t h_t_colours t_known t_depth t_packing t_isUpward t_column t_up t_colours ++ zwX7 cI h_s h_s_file h_s_file_bytes s_place s_file_size s_file_bytes ++ zwX5 cI h_p h_p_pixels p_wide p_high p_pixels) H → va_D A (zwX0 cI h_t h_t_colours t_known t_depth t_packing t_isUpward t_column t_up t_colours ++ zwX7 cI h_s h_s_file h_s_file_bytes s_place s_file_size s_file_bytes ++ zwX5 cI h_p h_p_pixels p_wide p_high p_pixels) → va_S A s.heap H locs → lv_has ls 7 [(0, .ref h_t), (1, .ref h_s), (2, .ref h_p), (3, .int l3), (4, .int l4)] → W p l e (rmX0_readRows tg0) s m args below meth c H locs 0 0 Q (F0 m 19 ls [])) {s_place : Int32} {p_pixels : Nat → Int32} {l3 : Int32} {l4 : Int32} {k0 : Int32} {H : Heap} {locs : List Loc} {ls : Array Slot} : fX0_readRows_49 rc19 t_known t_depth t_isUpward t_colours s_place s_file_size s_file_bytes p_wide p_high p_pixels l3 l4 k0 = some (tg0, zs_place, zp_pixels) → va_P D vwCl (zwX0 cI h_t h_t_colours t_known t_depth t_packing t_isUpward t_column t_up t_colours ++ zwX7 cI h_s h_s_file h_s_file_bytes s_place s_file_size s_file_bytes ++ zwX5 cI h_p h_p_pixels p_wide p_high p_pixels) H → va_D A (zwX0 cI h_t h_t_colours t_known t_depth t_packing t_isUpward t_column t_up t_colours ++ zwX7 cI h_s h_s_file h_s_file_bytes s_place s_file_size s_file_bytes ++ zwX5 cI h_p h_p_pixels p_wide p_high p_pixels) → va_S A s.heap H locs → lv_has ls 7 [(0, .ref h_t), (1, .ref h_s), (2, .ref h_p), (3, .int l3), (4, .int l4)] → W p l e (rmX0_readRows tg0) s m args below meth c H locs 0 0 Q (F0 m 49 ls [.int k0]) := by
  intro hf hP hD hS hl
  obtain ⟨hx, hb, hml, hown, hts⟩ := id C
  unfold fX0_readRows_49 at hf
  refine lv_istore (lv' := [(5, .int k0), (0, .ref h_t), (1, .ref h_s), (2, .ref h_p), (3, .int l3), (4, .int l4)]) hx hb dX0_readRows_49 hl (by decide) rfl (fun ls hl => ?_)
  refine lv_iconst (v := 0) hx hb dX0_readRows_51 (by decide) ?_
  refine lv_istore (lv' := [(6, .int 0), (5, .int k0), (0, .ref h_t), (1, .ref h_s), (2, .ref h_p), (3, .int l3), (4, .int l4)]) hx hb dX0_readRows_52 hl (by decide) rfl (fun ls hl => ?_)
  exact wX0_readRows_54 C hN hK hA hT hst hE hX hr_19 1000 hf hP hD hS (lv_sub hl [2, 3, 4, 5, 6, 1, 0] rfl)
set_option maxHeartbeats 4000000 in
set_option maxRecDepth 100000 in
theorem wX0_readRows_19 {p : Program} {l : Launch} {e : Env} {s : State} {m : MethodId} {args : Array Value} {below : List Frame} {meth : Method} {c : Code} {D : va_G} {A : Nat → Prop} {Q : State → Prop} {cI : ClassId} {h_t h_t_colours h_s h_s_file h_s_file_bytes h_p h_p_pixels : Nat} {t_known : Int32} {t_depth : Int32} {t_packing : Int32} {t_isUpward : Int32} {t_column : Int32} {t_up : Int32} {t_colours : Nat → Int32} {s_file_size : Int32} {s_file_bytes : Nat → Int32} {p_wide : Int32} {p_high : Int32} {tg0 : Nat} {zs_place : Int32} {zp_pixels : Nat → Int32} (C : CallFix p m c cX0_readRows 7 s args wsX0_readRows RX0) (hN : zN s) (hK : va_K D vwCl [(cI, .int)] s) (hA : ∀ q, s.heap.size ≤ q → A q) (hT : zTh A s) (hst : l.stackTraces = false) (hE : zTEv tg0 p l e (rmX0_readRows tg0) s m args below meth c cX0_readRows D A Q (zwX0 cI h_t h_t_colours t_known t_depth t_packing t_isUpward t_column t_up t_colours ++ zwX7 cI h_s h_s_file h_s_file_bytes zs_place s_file_size s_file_bytes ++ zwX5 cI h_p h_p_pixels p_wide p_high zp_pixels)) (hX : zTX tg0 p l e (rmX0_readRows tg0) s m args below meth c D A Q (zwX0 cI h_t h_t_colours t_known t_depth t_packing t_isUpward t_column t_up t_colours ++ zwX7 cI h_s h_s_file h_s_file_bytes zs_place s_file_size s_file_bytes ++ zwX5 cI h_p h_p_pixels p_wide p_high zp_pixels)) (n : Nat) : ∀ {s_place : Int32} {p_pixels : Nat → Int32} {l3 : Int32} {l4 : Int32} {H : Heap} {locs : List Loc} {ls : Array Slot}, fX0_readRows_19 n t_known t_depth t_isUpward t_colours s_place s_file_size s_file_bytes p_wide p_high p_pixels l3 l4 = some (tg0, zs_place, zp_pixels) → va_P D vwCl (zwX0 cI h_t h_t_colours t_known t_depth t_packing t_isUpward t_column t_up t_colours ++ zwX7 cI h_s h_s_file h_s_file_bytes s_place s_file_size s_file_bytes ++ zwX5 cI h_p h_p_pixels p_wide p_high p_pixels) H → va_D A (zwX0 cI h_t h_t_colours t_known t_depth t_packing t_isUpward t_column t_up t_colours ++ zwX7 cI h_s h_s_file h_s_file_bytes s_place s_file_size s_file_bytes ++ zwX5 cI h_p h_p_pixels p_wide p_high p_pixels) → va_S A s.heap H locs → lv_has ls 7 [(0, .ref h_t), (1, .ref h_s), (2, .ref h_p), (3, .int l3), (4, .int l4)] → W p l e (rmX0_readRows tg0) s m args below meth c H locs 0 0 Q (F0 m 19 ls []) := by
  obtain ⟨hx, hb, hml, hown, hts⟩ := id C
  induction n with
  | zero =>
    intro s_place p_pixels l3 l4 H locs ls hf
    cases hf
  | succ n hr_19 =>
    intro s_place p_pixels l3 l4 H locs ls hf hP hD hS hl
    rw [fX0_readRows_19_s] at hf
    refine lv_iload hx hb dX0_readRows_19 (lv_at hl 4 rfl) ?_
    refine lv_aload_n hx hb dX0_readRows_21 rfl (lv_at hl 2 rfl) ?_
    refine va_getN (D := D) (ci := 4) (v := .int p_high) (C := RX5) (T := TX5) (N := 3) hx hb hts iX0_readRows_X5 hown hK hP 5 rfl rfl 2 (by decide) (hN.at 8 rfl) (fun _ h9 => h9) rfl dX0_readRows_22 ?_
    refine lv_icmp_ge (tgt := 113) hx hb dX0_readRows_25 (by decide) (fun c1 => ?_) (fun c1 => ?_)
    · replace hf := zif_t hf c1
      cases hf
      exact hE rfl _ _ _ _ dX0_readRows_113 hP hD hS
    · replace hf := zif_f hf c1
      refine lv_aload_n hx hb dX0_readRows_28 rfl (lv_at hl 0 rfl) ?_
      refine va_get (D := D) (ci := 0) (v := .int t_isUpward) (C := RX0) (T := TX0) (N := 7) hx hb hts iX0_readRows_X0 hown hK hP 0 rfl rfl 4 (by decide) (kX0_readRows_126 hts) (fun _ h9 => h9) rfl dX0_readRows_29 ?_
      refine lv_if_eq (tgt := 47) hx hb dX0_readRows_32 (by decide) (fun c2 => ?_) (fun c2 => ?_)
      · replace hf := zif_t hf c2
        refine lv_iload hx hb dX0_readRows_47 (lv_at hl 4 rfl) ?_
        exact wX0_readRows_49 C hN hK hA hT hst hE hX hr_19 hf hP hD hS (lv_sub hl [0, 1, 2, 3, 4] rfl)
      · replace hf := zif_f hf c2
        refine lv_aload_n hx hb dX0_readRows_35 rfl (lv_at hl 2 rfl) ?_
        refine va_getN (D := D) (ci := 4) (v := .int p_high) (C := RX5) (T := TX5) (N := 3) hx hb hts iX0_readRows_X5 hown hK hP 5 rfl rfl 2 (by decide) (hN.at 8 rfl) (fun _ h9 => h9) rfl dX0_readRows_36 ?_
        refine lv_iconst (v := 1) hx hb dX0_readRows_39 (by decide) ?_
        refine lv_isub hx hb dX0_readRows_40 ?_
        refine lv_iload hx hb dX0_readRows_41 (lv_at hl 4 rfl) ?_
        refine lv_isub hx hb dX0_readRows_43 ?_
        refine lv_goto (tgt := 49) hx hb dX0_readRows_44 (by decide) ?_
        exact wX0_readRows_49 C hN hK hA hT hst hE hX hr_19 hf hP hD hS (lv_sub hl [0, 1, 2, 3, 4] rfl)
set_option maxHeartbeats 4000000 in
set_option maxRecDepth 100000 in
theorem wX0_readRows_0 {p : Program} {l : Launch} {e : Env} {s : State} {m : MethodId} {args : Array Value} {below : List Frame} {meth : Method} {c : Code} {D : va_G} {A : Nat → Prop} {Q : State → Prop} {cI : ClassId} {h_t h_t_colours h_s h_s_file h_s_file_bytes h_p h_p_pixels : Nat} {t_known : Int32} {t_depth : Int32} {t_packing : Int32} {t_isUpward : Int32} {t_column : Int32} {t_up : Int32} {t_colours : Nat → Int32} {s_file_size : Int32} {s_file_bytes : Nat → Int32} {p_wide : Int32} {p_high : Int32} {tg0 : Nat} {zs_place : Int32} {zp_pixels : Nat → Int32} (C : CallFix p m c cX0_readRows 7 s args wsX0_readRows RX0) (hN : zN s) (hK : va_K D vwCl [(cI, .int)] s) (hA : ∀ q, s.heap.size ≤ q → A q) (hT : zTh A s) (hst : l.stackTraces = false) (hE : zTEv tg0 p l e (rmX0_readRows tg0) s m args below meth c cX0_readRows D A Q (zwX0 cI h_t h_t_colours t_known t_depth t_packing t_isUpward t_column t_up t_colours ++ zwX7 cI h_s h_s_file h_s_file_bytes zs_place s_file_size s_file_bytes ++ zwX5 cI h_p h_p_pixels p_wide p_high zp_pixels)) (hX : zTX tg0 p l e (rmX0_readRows tg0) s m args below meth c D A Q (zwX0 cI h_t h_t_colours t_known t_depth t_packing t_isUpward t_column t_up t_colours ++ zwX7 cI h_s h_s_file h_s_file_bytes zs_place s_file_size s_file_bytes ++ zwX5 cI h_p h_p_pixels p_wide p_high zp_pixels)) {s_place : Int32} {p_pixels : Nat → Int32} {H : Heap} {locs : List Loc} {ls : Array Slot} : fX0_readRows t_known t_depth t_isUpward t_colours s_place s_file_size s_file_bytes p_wide p_high p_pixels = some (tg0, zs_place, zp_pixels) → va_P D vwCl (zwX0 cI h_t h_t_colours t_known t_depth t_packing t_isUpward t_column t_up t_colours ++ zwX7 cI h_s h_s_file h_s_file_bytes s_place s_file_size s_file_bytes ++ zwX5 cI h_p h_p_pixels p_wide p_high p_pixels) H → va_D A (zwX0 cI h_t h_t_colours t_known t_depth t_packing t_isUpward t_column t_up t_colours ++ zwX7 cI h_s h_s_file h_s_file_bytes s_place s_file_size s_file_bytes ++ zwX5 cI h_p h_p_pixels p_wide p_high p_pixels) → va_S A s.heap H locs → lv_has ls 7 [(0, .ref h_t), (1, .ref h_s), (2, .ref h_p)] → W p l e (rmX0_readRows tg0) s m args below meth c H locs 0 0 Q (F0 m 0 ls []) := by
  intro hf hP hD hS hl
  obtain ⟨hx, hb, hml, hown, hts⟩ := id C
  unfold fX0_readRows at hf
  refine lv_aload_n hx hb dX0_readRows_0 rfl (lv_at hl 2 rfl) ?_
  refine va_getN (D := D) (ci := 4) (v := .int p_wide) (C := RX5) (T := TX5) (N := 3) hx hb hts iX0_readRows_X5 hown hK hP 5 rfl rfl 1 (by decide) (hN.at 7 rfl) (fun _ h9 => h9) rfl dX0_readRows_1 ?_
  refine lv_aload_n hx hb dX0_readRows_4 rfl (lv_at hl 0 rfl) ?_
  refine va_get (D := D) (ci := 0) (v := .int t_depth) (C := RX0) (T := TX0) (N := 7) hx hb hts iX0_readRows_X0 hown hK hP 0 rfl rfl 2 (by decide) (kX0_readRows_130 hts) (fun _ h9 => h9) rfl dX0_readRows_5 ?_
  refine lv_imul hx hb dX0_readRows_8 ?_
  refine lv_bipush (v := 8) hx hb dX0_readRows_9 (by decide) ?_
  refine lv_idiv hx hb dX0_readRows_11 (by decide) ?_
  obtain ⟨r1, hc2, hf⟩ := zb1_in hf
  refine zc_i (va_runS (As := [.int ((p_wide * t_depth) / 8)]) (rest := []) C (mX0_bytesToFour l D cI H.size ((p_wide * t_depth) / 8) r1 hc2) (qX0_readRows_X0_bytesToFour_89 hts) ⟨zP_blind, zpre hK hN hP hD [] rfl rfl⟩ rfl rfl hl.1 rfl (lv_room (Nat.le_of_ble_eq_true rfl)) dX0_readRows_12 ⟨Nat.zero_le _, Nat.zero_le _⟩) hP hD hS hA [] [0, 1, 2, 3, 4, 5, 6] [0, 1, 2, 3, 4, 5, 6] (ws' := zwX0 cI h_t h_t_colours t_known t_depth t_packing t_isUpward t_column t_up t_colours ++ zwX7 cI h_s h_s_file h_s_file_bytes s_place s_file_size s_file_bytes ++ zwX5 cI h_p h_p_pixels p_wide p_high p_pixels) rfl rfl rfl rfl rfl rfl (fun H locs hP hD hS => ?_)
  refine lv_istore_n (lv' := [(3, .int r1), (0, .ref h_t), (1, .ref h_s), (2, .ref h_p)]) hx hb dX0_readRows_15 rfl hl (by decide) rfl (fun ls hl => ?_)
  refine lv_iconst (v := 0) hx hb dX0_readRows_16 (by decide) ?_
  refine lv_istore (lv' := [(4, .int 0), (3, .int r1), (0, .ref h_t), (1, .ref h_s), (2, .ref h_p)]) hx hb dX0_readRows_17 hl (by decide) rfl (fun ls hl => ?_)
  exact wX0_readRows_19 C hN hK hA hT hst hE hX 1000 hf hP hD hS (lv_sub hl [2, 3, 4, 1, 0] rfl)
set_option maxHeartbeats 4000000 in
set_option maxRecDepth 100000 in
theorem mX0_readRows (l : Launch) (hst : l.stackTraces = false) (D : va_G) (cI : ClassId) (sz : Nat) (h_t h_t_colours h_s h_s_file h_s_file_bytes h_p h_p_pixels : Nat) (t_known : Int32) (t_depth : Int32) (t_packing : Int32) (t_isUpward : Int32) (t_column : Int32) (t_up : Int32) (t_colours : Nat → Int32) (s_place : Int32) (s_file_size : Int32) (s_file_bytes : Nat → Int32) (p_wide : Int32) (p_high : Int32) (p_pixels : Nat → Int32) (tg0 : Nat) (zs_place : Int32) (zp_pixels : Nat → Int32) (hf : fX0_readRows t_known t_depth t_isUpward t_colours s_place s_file_size s_file_bytes p_wide p_high p_pixels = some (tg0, zs_place, zp_pixels)) : vx_Met l yX0_readRows wsX0_readRows (rmX0_readRows tg0) (va_Pc [.ref h_t, .ref h_s, .ref h_p] (zPT D [(cI, .int)] (zwX0 cI h_t h_t_colours t_known t_depth t_packing t_isUpward t_column t_up t_colours ++ zwX7 cI h_s h_s_file h_s_file_bytes s_place s_file_size s_file_bytes ++ zwX5 cI h_p h_p_pixels p_wide p_high p_pixels) sz)) (zQTv D (zwX0 cI h_t h_t_colours t_known t_depth t_packing t_isUpward t_column t_up t_colours ++ zwX7 cI h_s h_s_file h_s_file_bytes s_place s_file_size s_file_bytes ++ zwX5 cI h_p h_p_pixels p_wide p_high p_pixels) sz tg0 (zwX0 cI h_t h_t_colours t_known t_depth t_packing t_isUpward t_column t_up t_colours ++ zwX7 cI h_s h_s_file h_s_file_bytes zs_place s_file_size s_file_bytes ++ zwX5 cI h_p h_p_pixels p_wide p_high zp_pixels)) (zXT D (zwX0 cI h_t h_t_colours t_known t_depth t_packing t_isUpward t_column t_up t_colours ++ zwX7 cI h_s h_s_file h_s_file_bytes s_place s_file_size s_file_bytes ++ zwX5 cI h_p h_p_pixels p_wide p_high p_pixels) sz tg0 (zwX0 cI h_t h_t_colours t_known t_depth t_packing t_isUpward t_column t_up t_colours ++ zwX7 cI h_s h_s_file h_s_file_bytes zs_place s_file_size s_file_bytes ++ zwX5 cI h_p h_p_pixels p_wide p_high zp_pixels)) (zc tg0) (zs tg0) (va_A (zwX0 cI h_t h_t_colours t_known t_depth t_packing t_isUpward t_column t_up t_colours ++ zwX7 cI h_s h_s_file h_s_file_bytes s_place s_file_size s_file_bytes ++ zwX5 cI h_p h_p_pixels p_wide p_high p_pixels) sz) := by
  refine vx_ofW (cc := cX0_readRows) (maxL := 7) (ret := none) (by decide) rfl ?_
  intro p e s m args below meth c s₁ B hml htab hv
  obtain ⟨rfl, ⟨hsz, hP, hK, hD0, hN⟩, hT⟩ := hv
  subst hsz
  have C : CallFix p m c cX0_readRows 7 s [.ref h_t, .ref h_s, .ref h_p].toArray wsX0_readRows RX0 := ⟨B.exec, B.bytes, hml, findClass_of_methodNamed B.named, atoms_spec (ws := wsX0_readRows) B.pre⟩
  have hl := lv_entry ([.ref h_t, .ref h_s, .ref h_p]) (n := 7) (Nat.le_of_ble_eq_true rfl)
  rw [lg_entry_eq]
  exact wX0_readRows_0 (A := va_A (zwX0 cI h_t h_t_colours t_known t_depth t_packing t_isUpward t_column t_up t_colours ++ zwX7 cI h_s h_s_file h_s_file_bytes s_place s_file_size s_file_bytes ++ zwX5 cI h_p h_p_pixels p_wide p_high p_pixels) s.heap.size) C hN hK (fun q h => Or.inr h) hT hst (fun h0 H locs pc ls d hP hD hS => zendT_v C.1 C.2.1 B.returns B.notSynchronized h0 d hP hD hS) (fun H locs pc ls rest q9 ce h0 hP hD hS hq hv hcl => zoutT htab B.notSynchronized h0 hP hD hS hq hv hcl) hf hP hD0.self va_S.rf hl
def rmX0_goTo (tg : Nat) : Room := { frames := 7, cells := zc tg, slots := zs tg, locals := 103 }
theorem kX0_goTo_150 {args : Array Value} {s : State} (h : ∀ w ∈ wsX0_goTo, w.before args s = true) : (Cond.fieldLink RX0 150 "FourPictureFiles$BitmapFormat" "column" "I").before args s = true := h _ (by decide +kernel)
theorem kX0_goTo_153 {args : Array Value} {s : State} (h : ∀ w ∈ wsX0_goTo, w.before args s = true) : (Cond.fieldLink RX0 153 "FourPictureFiles$BitmapFormat" "up" "I").before args s = true := h _ (by decide +kernel)
theorem iX0_goTo_X0 : ∀ w ∈ u_ws RX0 TX0 7, w ∈ wsX0_goTo := by decide +kernel
theorem iX0_goTo_X5 : ∀ w ∈ u_ws RX5 TX5 3, w ∈ wsX0_goTo := by decide +kernel
theorem qX0_goTo_X7_need_110 {args : Array Value} {s : State} {tg0 : Nat} {tg : Nat} (hts : ∀ w ∈ wsX0_goTo, w.before args s = true) : CallW (rmX0_goTo tg0) s args RX0 RX7 110 yX7_need cX7_need 2 none wsX7_need (rmX7_need tg) (zc tg) (zs tg) 1 := cwV 1 hts gX0_goTo_X7_need rfl rfl rfl (by decide +kernel) ⟨Nat.le_of_ble_eq_true rfl, Nat.le_of_ble_eq_true rfl⟩
set_option maxHeartbeats 4000000 in
set_option maxRecDepth 100000 in
theorem wX0_goTo_24 {p : Program} {l : Launch} {e : Env} {s : State} {m : MethodId} {args : Array Value} {below : List Frame} {meth : Method} {c : Code} {D : va_G} {A : Nat → Prop} {Q : State → Prop} {cI : ClassId} {h_t h_t_colours h_s h_s_file h_s_file_bytes h_p h_p_pixels : Nat} {t_known : Int32} {t_depth : Int32} {t_packing : Int32} {t_isUpward : Int32} {t_colours : Nat → Int32} {s_place : Int32} {s_file_size : Int32} {s_file_bytes : Nat → Int32} {p_wide : Int32} {p_high : Int32} {p_pixels : Nat → Int32} {tg0 : Nat} {zt_column : Int32} {zt_up : Int32} (C : CallFix p m c cX0_goTo 5 s args wsX0_goTo RX0) (hN : zN s) (hK : va_K D vwCl [(cI, .int)] s) (hA : ∀ q, s.heap.size ≤ q → A q) (hT : zTh A s) (hst : l.stackTraces = false) (hE : zTEv tg0 p l e (rmX0_goTo tg0) s m args below meth c cX0_goTo D A Q (zwX0 cI h_t h_t_colours t_known t_depth t_packing t_isUpward zt_column zt_up t_colours ++ zwX7 cI h_s h_s_file h_s_file_bytes s_place s_file_size s_file_bytes ++ zwX5 cI h_p h_p_pixels p_wide p_high p_pixels)) (hX : zTX tg0 p l e (rmX0_goTo tg0) s m args below meth c D A Q (zwX0 cI h_t h_t_colours t_known t_depth t_packing t_isUpward zt_column zt_up t_colours ++ zwX7 cI h_s h_s_file h_s_file_bytes s_place s_file_size s_file_bytes ++ zwX5 cI h_p h_p_pixels p_wide p_high p_pixels)) {t_column : Int32} {t_up : Int32} {l1 : Int32} {l2 : Int32} {k1 : Int32} {H : Heap} {locs : List Loc} {ls : Array Slot} : fX0_goTo_24 t_column t_up l1 l2 k1 = some (tg0, zt_column, zt_up) → va_P D vwCl (zwX0 cI h_t h_t_colours t_known t_depth t_packing t_isUpward t_column t_up t_colours ++ zwX7 cI h_s h_s_file h_s_file_bytes s_place s_file_size s_file_bytes ++ zwX5 cI h_p h_p_pixels p_wide p_high p_pixels) H → va_D A (zwX0 cI h_t h_t_colours t_known t_depth t_packing t_isUpward t_column t_up t_colours ++ zwX7 cI h_s h_s_file h_s_file_bytes s_place s_file_size s_file_bytes ++ zwX5 cI h_p h_p_pixels p_wide p_high p_pixels) → va_S A s.heap H locs → lv_has ls 5 [(0, .ref h_t), (1, .int l1), (2, .int l2), (3, .ref h_s), (4, .ref h_p)] → W p l e (rmX0_goTo tg0) s m args below meth c H locs 0 0 Q (F0 m 24 ls [.int k1, .ref h_s]) := by
  intro hf hP hD hS hl
  obtain ⟨hx, hb, hml, hown, hts⟩ := id C
  unfold fX0_goTo_24 at hf
  obtain ⟨tg1, hc2, hf⟩ := zb1_in hf
  have hle := zT_le hf
  refine zcx_v (vx_runV (As := [.int k1]) (rest := []) C (mX7_need l hst D cI H.size h_s h_s_file h_s_file_bytes s_place s_file_size s_file_bytes k1 tg1 hc2) (qX0_goTo_X7_need_110 hts) ⟨zPT_blind, va_recv hK hP (ci := 6) (q0 := 2) rfl rfl, zpreT hK hN hT hA hS hP hD [2, 3, 4] rfl rfl⟩ rfl rfl hl.1 rfl (lv_room (Nat.le_of_ble_eq_true rfl)) dX0_goTo_24 hle) hP hD hS hA [2, 3, 4] [0, 1, 5, 6] [0, 1, 4, 5, 6, 2, 3] (ws' := zwX0 cI h_t h_t_colours t_known t_depth t_packing t_isUpward t_column t_up t_colours ++ zwX7 cI h_s h_s_file h_s_file_bytes s_place s_file_size s_file_bytes ++ zwX5 cI h_p h_p_pixels p_wide p_high p_pixels) rfl rfl rfl rfl rfl rfl (fun ht H locs q9 ce hP hD hS hq hv hcl => ?_) (fun ht H locs hP hD hS => ?_)
  · replace hf := zif_f hf ht
    cases hf
    exact hX _ _ _ _ _ _ _ ht hP hD hS hq hv hcl
  · replace hf := zif_t hf ht
    clear hle
    refine lv_aload_n hx hb dX0_goTo_27 rfl (lv_at hl 0 rfl) ?_
    refine lv_iload_n hx hb dX0_goTo_28 rfl (lv_at hl 1 rfl) ?_
    refine va_put (D := D) (ci := 0) (v := .int l1) (ty := .int) (C := RX0) (T := TX0) (N := 7) hx hb hts iX0_goTo_X0 tyX0 tyX0_ok nmX0 hown hK hP hD hS 0 rfl rfl 5 (by decide) (kX0_goTo_150 hts) (fun _ h9 => h9) rfl (by decide +kernel) rfl rfl (Nat.le_of_ble_eq_true rfl) dX0_goTo_29 (fun H locs hP hD hS => ?_)
    replace hP : va_P D vwCl (zwX0 cI h_t h_t_colours t_known t_depth t_packing t_isUpward l1 t_up t_colours ++ zwX7 cI h_s h_s_file h_s_file_bytes s_place s_file_size s_file_bytes ++ zwX5 cI h_p h_p_pixels p_wide p_high p_pixels) H := hP
    replace hD : va_D A (zwX0 cI h_t h_t_colours t_known t_depth t_packing t_isUpward l1 t_up t_colours ++ zwX7 cI h_s h_s_file h_s_file_bytes s_place s_file_size s_file_bytes ++ zwX5 cI h_p h_p_pixels p_wide p_high p_pixels) := hD
    refine lv_aload_n hx hb dX0_goTo_32 rfl (lv_at hl 0 rfl) ?_
    refine lv_iload_n hx hb dX0_goTo_33 rfl (lv_at hl 2 rfl) ?_
    refine va_put (D := D) (ci := 0) (v := .int l2) (ty := .int) (C := RX0) (T := TX0) (N := 7) hx hb hts iX0_goTo_X0 tyX0 tyX0_ok nmX0 hown hK hP hD hS 0 rfl rfl 6 (by decide) (kX0_goTo_153 hts) (fun _ h9 => h9) rfl (by decide +kernel) rfl rfl (Nat.le_of_ble_eq_true rfl) dX0_goTo_34 (fun H locs hP hD hS => ?_)
    replace hP : va_P D vwCl (zwX0 cI h_t h_t_colours t_known t_depth t_packing t_isUpward l1 l2 t_colours ++ zwX7 cI h_s h_s_file h_s_file_bytes s_place s_file_size s_file_bytes ++ zwX5 cI h_p h_p_pixels p_wide p_high p_pixels) H := hP
    replace hD : va_D A (zwX0 cI h_t h_t_colours t_known t_depth t_packing t_isUpward l1 l2 t_colours ++ zwX7 cI h_s h_s_file h_s_file_bytes s_place s_file_size s_file_bytes ++ zwX5 cI h_p h_p_pixels p_wide p_high p_pixels) := hD
    cases hf
    exact hE rfl _ _ _ _ dX0_goTo_37 hP hD hS
set_option maxHeartbeats 4000000 in
set_option maxRecDepth 100000 in
theorem wX0_goTo_23 {p : Program} {l : Launch} {e : Env} {s : State} {m : MethodId} {args : Array Value} {below : List Frame} {meth : Method} {c : Code} {D : va_G} {A : Nat → Prop} {Q : State → Prop} {cI : ClassId} {h_t h_t_colours h_s h_s_file h_s_file_bytes h_p h_p_pixels : Nat} {t_known : Int32} {t_depth : Int32} {t_packing : Int32} {t_isUpward : Int32} {t_colours : Nat → Int32} {s_place : Int32} {s_file_size : Int32} {s_file_bytes : Nat → Int32} {p_wide : Int32} {p_high : Int32} {p_pixels : Nat → Int32} {tg0 : Nat} {zt_column : Int32} {zt_up : Int32} (C : CallFix p m c cX0_goTo 5 s args wsX0_goTo RX0) (hN : zN s) (hK : va_K D vwCl [(cI, .int)] s) (hA : ∀ q, s.heap.size ≤ q → A q) (hT : zTh A s) (hst : l.stackTraces = false) (hE : zTEv tg0 p l e (rmX0_goTo tg0) s m args below meth c cX0_goTo D A Q (zwX0 cI h_t h_t_colours t_known t_depth t_packing t_isUpward zt_column zt_up t_colours ++ zwX7 cI h_s h_s_file h_s_file_bytes s_place s_file_size s_file_bytes ++ zwX5 cI h_p h_p_pixels p_wide p_high p_pixels)) (hX : zTX tg0 p l e (rmX0_goTo tg0) s m args below meth c D A Q (zwX0 cI h_t h_t_colours t_known t_depth t_packing t_isUpward zt_column zt_up t_colours ++ zwX7 cI h_s h_s_file h_s_file_bytes s_place s_file_size s_file_bytes ++ zwX5 cI h_p h_p_pixels p_wide p_high p_pixels)) {t_column : Int32} {t_up : Int32} {l1 : Int32} {l2 : Int32} {H : Heap} {locs : List Loc} {ls : Array Slot} : fX0_goTo_23 t_column t_up l1 l2 = some (tg0, zt_column, zt_up) → va_P D vwCl (zwX0 cI h_t h_t_colours t_known t_depth t_packing t_isUpward t_column t_up t_colours ++ zwX7 cI h_s h_s_file h_s_file_bytes s_place s_file_size s_file_bytes ++ zwX5 cI h_p h_p_pixels p_wide p_high p_pixels) H → va_D A (zwX0 cI h_t h_t_colours t_known t_depth t_packing t_isUpward t_column t_up t_colours ++ zwX7 cI h_s h_s_file h_s_file_bytes s_place s_file_size s_file_bytes ++ zwX5 cI h_p h_p_pixels p_wide p_high p_pixels) → va_S A s.heap H locs → lv_has ls 5 [(0, .ref h_t), (1, .int l1), (2, .int l2), (3, .ref h_s), (4, .ref h_p)] → W p l e (rmX0_goTo tg0) s m args below meth c H locs 0 0 Q (F0 m 23 ls [.ref h_s]) := by
  intro hf hP hD hS hl
  obtain ⟨hx, hb, hml, hown, hts⟩ := id C
  unfold fX0_goTo_23 at hf
  refine lv_iconst (v := 0) hx hb dX0_goTo_23 (by decide) ?_
  exact wX0_goTo_24 C hN hK hA hT hst hE hX hf hP hD hS (lv_sub hl [0, 1, 2, 3, 4] rfl)
set_option maxHeartbeats 4000000 in
set_option maxRecDepth 100000 in
theorem wX0_goTo_0 {p : Program} {l : Launch} {e : Env} {s : State} {m : MethodId} {args : Array Value} {below : List Frame} {meth : Method} {c : Code} {D : va_G} {A : Nat → Prop} {Q : State → Prop} {cI : ClassId} {h_t h_t_colours h_s h_s_file h_s_file_bytes h_p h_p_pixels : Nat} {t_known : Int32} {t_depth : Int32} {t_packing : Int32} {t_isUpward : Int32} {t_colours : Nat → Int32} {s_place : Int32} {s_file_size : Int32} {s_file_bytes : Nat → Int32} {p_wide : Int32} {p_high : Int32} {p_pixels : Nat → Int32} {tg0 : Nat} {zt_column : Int32} {zt_up : Int32} (C : CallFix p m c cX0_goTo 5 s args wsX0_goTo RX0) (hN : zN s) (hK : va_K D vwCl [(cI, .int)] s) (hA : ∀ q, s.heap.size ≤ q → A q) (hT : zTh A s) (hst : l.stackTraces = false) (hE : zTEv tg0 p l e (rmX0_goTo tg0) s m args below meth c cX0_goTo D A Q (zwX0 cI h_t h_t_colours t_known t_depth t_packing t_isUpward zt_column zt_up t_colours ++ zwX7 cI h_s h_s_file h_s_file_bytes s_place s_file_size s_file_bytes ++ zwX5 cI h_p h_p_pixels p_wide p_high p_pixels)) (hX : zTX tg0 p l e (rmX0_goTo tg0) s m args below meth c D A Q (zwX0 cI h_t h_t_colours t_known t_depth t_packing t_isUpward zt_column zt_up t_colours ++ zwX7 cI h_s h_s_file h_s_file_bytes s_place s_file_size s_file_bytes ++ zwX5 cI h_p h_p_pixels p_wide p_high p_pixels)) {t_column : Int32} {t_up : Int32} {v0 : Int32} {v1 : Int32} {H : Heap} {locs : List Loc} {ls : Array Slot} : fX0_goTo t_column t_up p_wide p_high v0 v1 = some (tg0, zt_column, zt_up) → va_P D vwCl (zwX0 cI h_t h_t_colours t_known t_depth t_packing t_isUpward t_column t_up t_colours ++ zwX7 cI h_s h_s_file h_s_file_bytes s_place s_file_size s_file_bytes ++ zwX5 cI h_p h_p_pixels p_wide p_high p_pixels) H → va_D A (zwX0 cI h_t h_t_colours t_known t_depth t_packing t_isUpward t_column t_up t_colours ++ zwX7 cI h_s h_s_file h_s_file_bytes s_place s_file_size s_file_bytes ++ zwX5 cI h_p h_p_pixels p_wide p_high p_pixels) → va_S A s.heap H locs → lv_has ls 5 [(0, .ref h_t), (1, .int v0), (2, .int v1), (3, .ref h_s), (4, .ref h_p)] → W p l e (rmX0_goTo tg0) s m args below meth c H locs 0 0 Q (F0 m 0 ls []) := by
  intro hf hP hD hS hl
  obtain ⟨hx, hb, hml, hown, hts⟩ := id C
  unfold fX0_goTo at hf
  refine lv_aload_n hx hb dX0_goTo_0 rfl (lv_at hl 3 rfl) ?_
  refine lv_iload_n hx hb dX0_goTo_1 rfl (lv_at hl 1 rfl) ?_
  refine lv_aload hx hb dX0_goTo_2 (lv_at hl 4 rfl) ?_
  refine va_getN (D := D) (ci := 4) (v := .int p_wide) (C := RX5) (T := TX5) (N := 3) hx hb hts iX0_goTo_X5 hown hK hP 5 rfl rfl 1 (by decide) (hN.at 7 rfl) (fun _ h9 => h9) rfl dX0_goTo_4 ?_
  refine lv_icmp_gt (tgt := 23) hx hb dX0_goTo_7 (by decide) (fun c1 => ?_) (fun c1 => ?_)
  · replace hf := zif_t hf c1
    exact wX0_goTo_23 C hN hK hA hT hst hE hX hf hP hD hS (lv_sub hl [0, 1, 2, 3, 4] rfl)
  · replace hf := zif_f hf c1
    refine lv_iload_n hx hb dX0_goTo_10 rfl (lv_at hl 2 rfl) ?_
    refine lv_aload hx hb dX0_goTo_11 (lv_at hl 4 rfl) ?_
    refine va_getN (D := D) (ci := 4) (v := .int p_high) (C := RX5) (T := TX5) (N := 3) hx hb hts iX0_goTo_X5 hown hK hP 5 rfl rfl 2 (by decide) (hN.at 8 rfl) (fun _ h9 => h9) rfl dX0_goTo_13 ?_
    refine lv_icmp_gt (tgt := 23) hx hb dX0_goTo_16 (by decide) (fun c2 => ?_) (fun c2 => ?_)
    · replace hf := zif_t hf c2
      exact wX0_goTo_23 C hN hK hA hT hst hE hX hf hP hD hS (lv_sub hl [0, 1, 2, 3, 4] rfl)
    · replace hf := zif_f hf c2
      refine lv_iconst (v := 1) hx hb dX0_goTo_19 (by decide) ?_
      refine lv_goto (tgt := 24) hx hb dX0_goTo_20 (by decide) ?_
      exact wX0_goTo_24 C hN hK hA hT hst hE hX hf hP hD hS (lv_sub hl [0, 1, 2, 3, 4] rfl)
set_option maxHeartbeats 4000000 in
set_option maxRecDepth 100000 in
theorem mX0_goTo (l : Launch) (hst : l.stackTraces = false) (D : va_G) (cI : ClassId) (sz : Nat) (h_t h_t_colours h_s h_s_file h_s_file_bytes h_p h_p_pixels : Nat) (t_known : Int32) (t_depth : Int32) (t_packing : Int32) (t_isUpward : Int32) (t_column : Int32) (t_up : Int32) (t_colours : Nat → Int32) (s_place : Int32) (s_file_size : Int32) (s_file_bytes : Nat → Int32) (p_wide : Int32) (p_high : Int32) (p_pixels : Nat → Int32) (v0 v1 : Int32) (tg0 : Nat) (zt_column : Int32) (zt_up : Int32) (hf : fX0_goTo t_column t_up p_wide p_high v0 v1 = some (tg0, zt_column, zt_up)) : vx_Met l yX0_goTo wsX0_goTo (rmX0_goTo tg0) (va_Pc [.ref h_t, .int v0, .int v1, .ref h_s, .ref h_p] (zPT D [(cI, .int)] (zwX0 cI h_t h_t_colours t_known t_depth t_packing t_isUpward t_column t_up t_colours ++ zwX7 cI h_s h_s_file h_s_file_bytes s_place s_file_size s_file_bytes ++ zwX5 cI h_p h_p_pixels p_wide p_high p_pixels) sz)) (zQTv D (zwX0 cI h_t h_t_colours t_known t_depth t_packing t_isUpward t_column t_up t_colours ++ zwX7 cI h_s h_s_file h_s_file_bytes s_place s_file_size s_file_bytes ++ zwX5 cI h_p h_p_pixels p_wide p_high p_pixels) sz tg0 (zwX0 cI h_t h_t_colours t_known t_depth t_packing t_isUpward zt_column zt_up t_colours ++ zwX7 cI h_s h_s_file h_s_file_bytes s_place s_file_size s_file_bytes ++ zwX5 cI h_p h_p_pixels p_wide p_high p_pixels)) (zXT D (zwX0 cI h_t h_t_colours t_known t_depth t_packing t_isUpward t_column t_up t_colours ++ zwX7 cI h_s h_s_file h_s_file_bytes s_place s_file_size s_file_bytes ++ zwX5 cI h_p h_p_pixels p_wide p_high p_pixels) sz tg0 (zwX0 cI h_t h_t_colours t_known t_depth t_packing t_isUpward zt_column zt_up t_colours ++ zwX7 cI h_s h_s_file h_s_file_bytes s_place s_file_size s_file_bytes ++ zwX5 cI h_p h_p_pixels p_wide p_high p_pixels)) (zc tg0) (zs tg0) (va_A (zwX0 cI h_t h_t_colours t_known t_depth t_packing t_isUpward t_column t_up t_colours ++ zwX7 cI h_s h_s_file h_s_file_bytes s_place s_file_size s_file_bytes ++ zwX5 cI h_p h_p_pixels p_wide p_high p_pixels) sz) := by
  refine vx_ofW (cc := cX0_goTo) (maxL := 5) (ret := none) (by decide) rfl ?_
  intro p e s m args below meth c s₁ B hml htab hv
  obtain ⟨rfl, ⟨hsz, hP, hK, hD0, hN⟩, hT⟩ := hv
  subst hsz
  have C : CallFix p m c cX0_goTo 5 s [.ref h_t, .int v0, .int v1, .ref h_s, .ref h_p].toArray wsX0_goTo RX0 := ⟨B.exec, B.bytes, hml, findClass_of_methodNamed B.named, atoms_spec (ws := wsX0_goTo) B.pre⟩
  have hl := lv_entry ([.ref h_t, .int v0, .int v1, .ref h_s, .ref h_p]) (n := 5) (Nat.le_of_ble_eq_true rfl)
  rw [lg_entry_eq]
  exact wX0_goTo_0 (A := va_A (zwX0 cI h_t h_t_colours t_known t_depth t_packing t_isUpward t_column t_up t_colours ++ zwX7 cI h_s h_s_file h_s_file_bytes s_place s_file_size s_file_bytes ++ zwX5 cI h_p h_p_pixels p_wide p_high p_pixels) s.heap.size) C hN hK (fun q h => Or.inr h) hT hst (fun h0 H locs pc ls d hP hD hS => zendT_v C.1 C.2.1 B.returns B.notSynchronized h0 d hP hD hS) (fun H locs pc ls rest q9 ce h0 hP hD hS hq hv hcl => zoutT htab B.notSynchronized h0 hP hD hS hq hv hcl) hf hP hD0.self va_S.rf hl
def rmX0_paint (tg : Nat) : Room := { frames := 8, cells := zc tg, slots := zs tg, locals := 125 }
theorem kX0_paint_150 {args : Array Value} {s : State} (h : ∀ w ∈ wsX0_paint, w.before args s = true) : (Cond.fieldLink RX0 150 "FourPictureFiles$BitmapFormat" "column" "I").before args s = true := h _ (by decide +kernel)
theorem kX0_paint_153 {args : Array Value} {s : State} (h : ∀ w ∈ wsX0_paint, w.before args s = true) : (Cond.fieldLink RX0 153 "FourPictureFiles$BitmapFormat" "up" "I").before args s = true := h _ (by decide +kernel)
theorem iX0_paint_X0 : ∀ w ∈ u_ws RX0 TX0 7, w ∈ wsX0_paint := by decide +kernel
theorem iX0_paint_X5 : ∀ w ∈ u_ws RX5 TX5 3, w ∈ wsX0_paint := by decide +kernel
theorem qX0_paint_X0_colourOf_139 {args : Array Value} {s : State} {tg0 : Nat} {tg : Nat} (hts : ∀ w ∈ wsX0_paint, w.before args s = true) : CallW (rmX0_paint tg0) s args RX0 RX0 139 yX0_colourOf cX0_colourOf 3 (some .int) wsX0_colourOf (rmX0_colourOf tg) (zc tg) (zs tg) 2 := cwV 2 hts gX0_paint_X0_colourOf rfl rfl rfl (by decide +kernel) ⟨Nat.le_of_ble_eq_true rfl, Nat.le_of_ble_eq_true rfl⟩
theorem qX0_paint_X5_has_167 {args : Array Value} {s : State} {tg0 : Nat} (hts : ∀ w ∈ wsX0_paint, w.before args s = true) : CallW (rmX0_paint tg0) s args RX0 RX5 167 yX5_has cX5_has 3 (some .boolean) wsX5_has rmX5_has 0 0 2 := cwV 2 hts gX0_paint_X5_has rfl rfl rfl (by decide +kernel) ⟨Nat.le_of_ble_eq_true rfl, Nat.le_of_ble_eq_true rfl⟩
theorem qX0_paint_X5_set_143 {args : Array Value} {s : State} {tg0 : Nat} (hts : ∀ w ∈ wsX0_paint, w.before args s = true) : CallW (rmX0_paint tg0) s args RX0 RX5 143 yX5_set cX5_set 4 none wsX5_set rmX5_set 0 0 3 := cwV 3 hts gX0_paint_X5_set rfl rfl rfl (by decide +kernel) ⟨Nat.le_of_ble_eq_true rfl, Nat.le_of_ble_eq_true rfl⟩
theorem qX0_paint_X7_need_110 {args : Array Value} {s : State} {tg0 : Nat} {tg : Nat} (hts : ∀ w ∈ wsX0_paint, w.before args s = true) : CallW (rmX0_paint tg0) s args RX0 RX7 110 yX7_need cX7_need 2 none wsX7_need (rmX7_need tg) (zc tg) (zs tg) 1 := cwV 1 hts gX0_paint_X7_need rfl rfl rfl (by decide +kernel) ⟨Nat.le_of_ble_eq_true rfl, Nat.le_of_ble_eq_true rfl⟩
set_option maxHeartbeats 4000000 in
set_option maxRecDepth 100000 in
theorem wX0_paint_0 {p : Program} {l : Launch} {e : Env} {s : State} {m : MethodId} {args : Array Value} {below : List Frame} {meth : Method} {c : Code} {D : va_G} {A : Nat → Prop} {Q : State → Prop} {cI : ClassId} {h_t h_t_colours h_s h_s_file h_s_file_bytes h_p h_p_pixels : Nat} {t_known : Int32} {t_depth : Int32} {t_packing : Int32} {t_isUpward : Int32} {t_up : Int32} {t_colours : Nat → Int32} {s_place : Int32} {s_file_size : Int32} {s_file_bytes : Nat → Int32} {p_wide : Int32} {p_high : Int32} {tg0 : Nat} {zt_column : Int32} {zp_pixels : Nat → Int32} (C : CallFix p m c cX0_paint 5 s args wsX0_paint RX0) (hN : zN s) (hK : va_K D vwCl [(cI, .int)] s) (hA : ∀ q, s.heap.size ≤ q → A q) (hT : zTh A s) (hst : l.stackTraces = false) (hE : zTEv tg0 p l e (rmX0_paint tg0) s m args below meth c cX0_paint D A Q (zwX0 cI h_t h_t_colours t_known t_depth t_packing t_isUpward zt_column t_up t_colours ++ zwX7 cI h_s h_s_file h_s_file_bytes s_place s_file_size s_file_bytes ++ zwX5 cI h_p h_p_pixels p_wide p_high zp_pixels)) (hX : zTX tg0 p l e (rmX0_paint tg0) s m args below meth c D A Q (zwX0 cI h_t h_t_colours t_known t_depth t_packing t_isUpward zt_column t_up t_colours ++ zwX7 cI h_s h_s_file h_s_file_bytes s_place s_file_size s_file_bytes ++ zwX5 cI h_p h_p_pixels p_wide p_high zp_pixels)) {t_column : Int32} {p_pixels : Nat → Int32} {v0 : Int32} {H : Heap} {locs : List Loc} {ls : Array Slot} : fX0_paint t_known t_column t_up t_colours p_wide p_high p_pixels v0 = some (tg0, zt_column, zp_pixels) → va_P D vwCl (zwX0 cI h_t h_t_colours t_known t_depth t_packing t_isUpward t_column t_up t_colours ++ zwX7 cI h_s h_s_file h_s_file_bytes s_place s_file_size s_file_bytes ++ zwX5 cI h_p h_p_pixels p_wide p_high p_pixels) H → va_D A (zwX0 cI h_t h_t_colours t_known t_depth t_packing t_isUpward t_column t_up t_colours ++ zwX7 cI h_s h_s_file h_s_file_bytes s_place s_file_size s_file_bytes ++ zwX5 cI h_p h_p_pixels p_wide p_high p_pixels) → va_S A s.heap H locs → lv_has ls 5 [(0, .ref h_t), (1, .int v0), (2, .ref h_s), (3, .ref h_p)] → W p l e (rmX0_paint tg0) s m args below meth c H locs 0 0 Q (F0 m 0 ls []) := by
  intro hf hP hD hS hl
  obtain ⟨hx, hb, hml, hown, hts⟩ := id C
  unfold fX0_paint at hf
  refine lv_aload_n hx hb dX0_paint_0 rfl (lv_at hl 3 rfl) ?_
  refine va_getN (D := D) (ci := 4) (v := .int p_high) (C := RX5) (T := TX5) (N := 3) hx hb hts iX0_paint_X5 hown hK hP 5 rfl rfl 2 (by decide) (hN.at 8 rfl) (fun _ h9 => h9) rfl dX0_paint_1 ?_
  refine lv_iconst (v := 1) hx hb dX0_paint_4 (by decide) ?_
  refine lv_isub hx hb dX0_paint_5 ?_
  refine lv_aload_n hx hb dX0_paint_6 rfl (lv_at hl 0 rfl) ?_
  refine va_get (D := D) (ci := 0) (v := .int t_up) (C := RX0) (T := TX0) (N := 7) hx hb hts iX0_paint_X0 hown hK hP 0 rfl rfl 6 (by decide) (kX0_paint_153 hts) (fun _ h9 => h9) rfl dX0_paint_7 ?_
  refine lv_isub hx hb dX0_paint_10 ?_
  refine lv_topi (fun x1 ex1 => ?_)
  replace hf := zlet_in hf ex1
  clear ex1
  refine lv_istore (lv' := [(4, .int x1), (0, .ref h_t), (1, .int v0), (2, .ref h_s), (3, .ref h_p)]) hx hb dX0_paint_11 hl (by decide) rfl (fun ls hl => ?_)
  refine lv_aload_n hx hb dX0_paint_13 rfl (lv_at hl 3 rfl) ?_
  refine lv_aload_n hx hb dX0_paint_14 rfl (lv_at hl 4 rfl) ?_
  refine lv_aload_n hx hb dX0_paint_15 rfl (lv_at hl 1 rfl) ?_
  refine va_get (D := D) (ci := 0) (v := .int t_column) (C := RX0) (T := TX0) (N := 7) hx hb hts iX0_paint_X0 hown hK hP 0 rfl rfl 5 (by decide) (kX0_paint_150 hts) (fun _ h9 => h9) rfl dX0_paint_16 ?_
  refine lv_iload hx hb dX0_paint_19 (lv_at hl 0 rfl) ?_
  obtain ⟨r2, hc3, hf⟩ := zb1_in hf
  refine zc_i (va_runV (As := [.int t_column, .int x1]) (rest := [.ref h_s]) C (mX5_has l D cI H.size h_p h_p_pixels p_wide p_high p_pixels t_column x1 r2 hc3) (qX0_paint_X5_has_167 hts) ⟨zP_blind, va_recv hK hP (ci := 4) (q0 := 5) rfl rfl, zpre hK hN hP hD [5, 6] rfl rfl⟩ rfl rfl hl.1 rfl (lv_room (Nat.le_of_ble_eq_true rfl)) dX0_paint_21 ⟨Nat.zero_le _, Nat.zero_le _⟩) hP hD hS hA [5, 6] [0, 1, 2, 3, 4] [0, 1, 2, 3, 4, 5, 6] (ws' := zwX0 cI h_t h_t_colours t_known t_depth t_packing t_isUpward t_column t_up t_colours ++ zwX7 cI h_s h_s_file h_s_file_bytes s_place s_file_size s_file_bytes ++ zwX5 cI h_p h_p_pixels p_wide p_high p_pixels) rfl rfl rfl rfl rfl rfl (fun H locs hP hD hS => ?_)
  obtain ⟨tg4, hc5, hf⟩ := zb1_in hf
  have hle := zT_le hf
  refine zcx_v (vx_runV (As := [.int r2]) (rest := []) C (mX7_need l hst D cI H.size h_s h_s_file h_s_file_bytes s_place s_file_size s_file_bytes r2 tg4 hc5) (qX0_paint_X7_need_110 hts) ⟨zPT_blind, va_recv hK hP (ci := 6) (q0 := 2) rfl rfl, zpreT hK hN hT hA hS hP hD [2, 3, 4] rfl rfl⟩ rfl rfl hl.1 rfl (lv_room (Nat.le_of_ble_eq_true rfl)) dX0_paint_24 hle) hP hD hS hA [2, 3, 4] [0, 1, 5, 6] [0, 1, 4, 5, 6, 2, 3] (ws' := zwX0 cI h_t h_t_colours t_known t_depth t_packing t_isUpward t_column t_up t_colours ++ zwX7 cI h_s h_s_file h_s_file_bytes s_place s_file_size s_file_bytes ++ zwX5 cI h_p h_p_pixels p_wide p_high p_pixels) rfl rfl rfl rfl rfl rfl (fun ht H locs q9 ce hP hD hS hq hv hcl => ?_) (fun ht H locs hP hD hS => ?_)
  · replace hf := zif_f hf ht
    cases hf
    exact hX _ _ _ _ _ _ _ ht hP hD hS hq hv hcl
  · replace hf := zif_t hf ht
    clear hle
    refine lv_aload_n hx hb dX0_paint_27 rfl (lv_at hl 4 rfl) ?_
    refine lv_aload_n hx hb dX0_paint_28 rfl (lv_at hl 1 rfl) ?_
    refine va_get (D := D) (ci := 0) (v := .int t_column) (C := RX0) (T := TX0) (N := 7) hx hb hts iX0_paint_X0 hown hK hP 0 rfl rfl 5 (by decide) (kX0_paint_150 hts) (fun _ h9 => h9) rfl dX0_paint_29 ?_
    refine lv_iload hx hb dX0_paint_32 (lv_at hl 0 rfl) ?_
    refine lv_aload_n hx hb dX0_paint_34 rfl (lv_at hl 1 rfl) ?_
    refine lv_aload_n hx hb dX0_paint_35 rfl (lv_at hl 3 rfl) ?_
    refine lv_iload_n hx hb dX0_paint_36 rfl (lv_at hl 2 rfl) ?_
    obtain ⟨tg6, r7, hc8, hf⟩ := zb2_in hf
    have hle := zT_le hf
    refine zcx_i (vx_runV (As := [.ref h_s, .int v0]) (rest := [.int x1, .int t_column, .ref h_p]) C (mX0_colourOf l hst D cI H.size h_t h_t_colours h_s h_s_file h_s_file_bytes t_known t_depth t_packing t_isUpward t_column t_up t_colours s_place s_file_size s_file_bytes v0 tg6 r7 hc8) (qX0_paint_X0_colourOf_139 hts) ⟨zPT_blind, va_recv hK hP (ci := 0) (q0 := 0) rfl rfl, zpreT hK hN hT hA hS hP hD [0, 1, 2, 3, 4] rfl rfl⟩ rfl rfl hl.1 rfl (lv_room (Nat.le_of_ble_eq_true rfl)) dX0_paint_37 hle) hP hD hS hA [0, 1, 2, 3, 4] [5, 6] [2, 3, 4, 5, 6, 0, 1] (ws' := zwX0 cI h_t h_t_colours t_known t_depth t_packing t_isUpward t_column t_up t_colours ++ zwX7 cI h_s h_s_file h_s_file_bytes s_place s_file_size s_file_bytes ++ zwX5 cI h_p h_p_pixels p_wide p_high p_pixels) rfl rfl rfl rfl rfl rfl (fun ht H locs q9 ce hP hD hS hq hv hcl => ?_) (fun ht H locs hP hD hS => ?_)
    · replace hf := zif_f hf ht
      cases hf
      exact hX _ _ _ _ _ _ _ ht hP hD hS hq hv hcl
    · replace hf := zif_t hf ht
      clear hle
      obtain ⟨u9, hc10, hf⟩ := zb1_in hf
      refine zc_v (va_runV (As := [.int t_column, .int x1, .int r7]) (rest := []) C (mX5_set l D cI H.size h_p h_p_pixels p_wide p_high p_pixels t_column x1 r7 u9 hc10) (qX0_paint_X5_set_143 hts) ⟨zP_blind, va_recv hK hP (ci := 4) (q0 := 5) rfl rfl, zpre hK hN hP hD [5, 6] rfl rfl⟩ rfl rfl hl.1 rfl (lv_room (Nat.le_of_ble_eq_true rfl)) dX0_paint_40 ⟨Nat.zero_le _, Nat.zero_le _⟩) hP hD hS hA [5, 6] [0, 1, 2, 3, 4] [0, 1, 2, 3, 4, 5, 6] (ws' := zwX0 cI h_t h_t_colours t_known t_depth t_packing t_isUpward t_column t_up t_colours ++ zwX7 cI h_s h_s_file h_s_file_bytes s_place s_file_size s_file_bytes ++ zwX5 cI h_p h_p_pixels p_wide p_high u9) rfl rfl rfl rfl rfl rfl (fun H locs hP hD hS => ?_)
      refine lv_aload_n hx hb dX0_paint_43 rfl (lv_at hl 1 rfl) ?_
      refine lv_dup hx hb dX0_paint_44 rfl ?_
      refine va_get (D := D) (ci := 0) (v := .int t_column) (C := RX0) (T := TX0) (N := 7) hx hb hts iX0_paint_X0 hown hK hP 0 rfl rfl 5 (by decide) (kX0_paint_150 hts) (fun _ h9 => h9) rfl dX0_paint_45 ?_
      refine lv_iconst (v := 1) hx hb dX0_paint_48 (by decide) ?_
      refine lv_iadd hx hb dX0_paint_49 ?_
      refine lv_topi (fun x11 ex11 => ?_)
      replace hf := zlet_in hf ex11
      clear ex11
      refine va_put (D := D) (ci := 0) (v := .int x11) (ty := .int) (C := RX0) (T := TX0) (N := 7) hx hb hts iX0_paint_X0 tyX0 tyX0_ok nmX0 hown hK hP hD hS 0 rfl rfl 5 (by decide) (kX0_paint_150 hts) (fun _ h9 => h9) rfl (by decide +kernel) rfl rfl (Nat.le_of_ble_eq_true rfl) dX0_paint_50 (fun H locs hP hD hS => ?_)
      replace hP : va_P D vwCl (zwX0 cI h_t h_t_colours t_known t_depth t_packing t_isUpward x11 t_up t_colours ++ zwX7 cI h_s h_s_file h_s_file_bytes s_place s_file_size s_file_bytes ++ zwX5 cI h_p h_p_pixels p_wide p_high u9) H := hP
      replace hD : va_D A (zwX0 cI h_t h_t_colours t_known t_depth t_packing t_isUpward x11 t_up t_colours ++ zwX7 cI h_s h_s_file h_s_file_bytes s_place s_file_size s_file_bytes ++ zwX5 cI h_p h_p_pixels p_wide p_high u9) := hD
      cases hf
      exact hE rfl _ _ _ _ dX0_paint_53 hP hD hS
set_option maxHeartbeats 4000000 in
set_option maxRecDepth 100000 in
theorem mX0_paint (l : Launch) (hst : l.stackTraces = false) (D : va_G) (cI : ClassId) (sz : Nat) (h_t h_t_colours h_s h_s_file h_s_file_bytes h_p h_p_pixels : Nat) (t_known : Int32) (t_depth : Int32) (t_packing : Int32) (t_isUpward : Int32) (t_column : Int32) (t_up : Int32) (t_colours : Nat → Int32) (s_place : Int32) (s_file_size : Int32) (s_file_bytes : Nat → Int32) (p_wide : Int32) (p_high : Int32) (p_pixels : Nat → Int32) (v0 : Int32) (tg0 : Nat) (zt_column : Int32) (zp_pixels : Nat → Int32) (hf : fX0_paint t_known t_column t_up t_colours p_wide p_high p_pixels v0 = some (tg0, zt_column, zp_pixels)) : vx_Met l yX0_paint wsX0_paint (rmX0_paint tg0) (va_Pc [.ref h_t, .int v0, .ref h_s, .ref h_p] (zPT D [(cI, .int)] (zwX0 cI h_t h_t_colours t_known t_depth t_packing t_isUpward t_column t_up t_colours ++ zwX7 cI h_s h_s_file h_s_file_bytes s_place s_file_size s_file_bytes ++ zwX5 cI h_p h_p_pixels p_wide p_high p_pixels) sz)) (zQTv D (zwX0 cI h_t h_t_colours t_known t_depth t_packing t_isUpward t_column t_up t_colours ++ zwX7 cI h_s h_s_file h_s_file_bytes s_place s_file_size s_file_bytes ++ zwX5 cI h_p h_p_pixels p_wide p_high p_pixels) sz tg0 (zwX0 cI h_t h_t_colours t_known t_depth t_packing t_isUpward zt_column t_up t_colours ++ zwX7 cI h_s h_s_file h_s_file_bytes s_place s_file_size s_file_bytes ++ zwX5 cI h_p h_p_pixels p_wide p_high zp_pixels)) (zXT D (zwX0 cI h_t h_t_colours t_known t_depth t_packing t_isUpward t_column t_up t_colours ++ zwX7 cI h_s h_s_file h_s_file_bytes s_place s_file_size s_file_bytes ++ zwX5 cI h_p h_p_pixels p_wide p_high p_pixels) sz tg0 (zwX0 cI h_t h_t_colours t_known t_depth t_packing t_isUpward zt_column t_up t_colours ++ zwX7 cI h_s h_s_file h_s_file_bytes s_place s_file_size s_file_bytes ++ zwX5 cI h_p h_p_pixels p_wide p_high zp_pixels)) (zc tg0) (zs tg0) (va_A (zwX0 cI h_t h_t_colours t_known t_depth t_packing t_isUpward t_column t_up t_colours ++ zwX7 cI h_s h_s_file h_s_file_bytes s_place s_file_size s_file_bytes ++ zwX5 cI h_p h_p_pixels p_wide p_high p_pixels) sz) := by
  refine vx_ofW (cc := cX0_paint) (maxL := 5) (ret := none) (by decide) rfl ?_
  intro p e s m args below meth c s₁ B hml htab hv
  obtain ⟨rfl, ⟨hsz, hP, hK, hD0, hN⟩, hT⟩ := hv
  subst hsz
  have C : CallFix p m c cX0_paint 5 s [.ref h_t, .int v0, .ref h_s, .ref h_p].toArray wsX0_paint RX0 := ⟨B.exec, B.bytes, hml, findClass_of_methodNamed B.named, atoms_spec (ws := wsX0_paint) B.pre⟩
  have hl := lv_entry ([.ref h_t, .int v0, .ref h_s, .ref h_p]) (n := 5) (Nat.le_of_ble_eq_true rfl)
  rw [lg_entry_eq]
  exact wX0_paint_0 (A := va_A (zwX0 cI h_t h_t_colours t_known t_depth t_packing t_isUpward t_column t_up t_colours ++ zwX7 cI h_s h_s_file h_s_file_bytes s_place s_file_size s_file_bytes ++ zwX5 cI h_p h_p_pixels p_wide p_high p_pixels) s.heap.size) C hN hK (fun q h => Or.inr h) hT hst (fun h0 H locs pc ls d hP hD hS => zendT_v C.1 C.2.1 B.returns B.notSynchronized h0 d hP hD hS) (fun H locs pc ls rest q9 ce h0 hP hD hS hq hv hcl => zoutT htab B.notSynchronized h0 hP hD hS hq hv hcl) hf hP hD0.self va_S.rf hl
def rmX0_obey (tg : Nat) : Room := { frames := 9, cells := zc tg, slots := zs tg, locals := 149 }
theorem kX0_obey_150 {args : Array Value} {s : State} (h : ∀ w ∈ wsX0_obey, w.before args s = true) : (Cond.fieldLink RX0 150 "FourPictureFiles$BitmapFormat" "column" "I").before args s = true := h _ (by decide +kernel)
theorem kX0_obey_153 {args : Array Value} {s : State} (h : ∀ w ∈ wsX0_obey, w.before args s = true) : (Cond.fieldLink RX0 153 "FourPictureFiles$BitmapFormat" "up" "I").before args s = true := h _ (by decide +kernel)
theorem iX0_obey_X0 : ∀ w ∈ u_ws RX0 TX0 7, w ∈ wsX0_obey := by decide +kernel
theorem qX0_obey_X0_goTo_163 {args : Array Value} {s : State} {tg0 : Nat} {tg : Nat} (hts : ∀ w ∈ wsX0_obey, w.before args s = true) : CallW (rmX0_obey tg0) s args RX0 RX0 163 yX0_goTo cX0_goTo 5 none wsX0_goTo (rmX0_goTo tg) (zc tg) (zs tg) 4 := cwV 4 hts gX0_obey_X0_goTo rfl rfl rfl (by decide +kernel) ⟨Nat.le_of_ble_eq_true rfl, Nat.le_of_ble_eq_true rfl⟩
theorem qX0_obey_X0_paint_160 {args : Array Value} {s : State} {tg0 : Nat} {tg : Nat} (hts : ∀ w ∈ wsX0_obey, w.before args s = true) : CallW (rmX0_obey tg0) s args RX0 RX0 160 yX0_paint cX0_paint 5 none wsX0_paint (rmX0_paint tg) (zc tg) (zs tg) 3 := cwV 3 hts gX0_obey_X0_paint rfl rfl rfl (by decide +kernel) ⟨Nat.le_of_ble_eq_true rfl, Nat.le_of_ble_eq_true rfl⟩
theorem qX0_obey_X7_next_136 {args : Array Value} {s : State} {tg0 : Nat} {tg : Nat} (hts : ∀ w ∈ wsX0_obey, w.before args s = true) : CallW (rmX0_obey tg0) s args RX0 RX7 136 yX7_next cX7_next 2 (some .int) wsX7_next (rmX7_next tg) (zc tg) (zs tg) 0 := cwV 0 hts gX0_obey_X7_next rfl rfl rfl (by decide +kernel) ⟨Nat.le_of_ble_eq_true rfl, Nat.le_of_ble_eq_true rfl⟩
theorem qX0_obey_X7_pass_92 {args : Array Value} {s : State} {tg0 : Nat} {tg : Nat} (hts : ∀ w ∈ wsX0_obey, w.before args s = true) : CallW (rmX0_obey tg0) s args RX0 RX7 92 yX7_pass cX7_pass 3 none wsX7_pass (rmX7_pass tg) (zc tg) (zs tg) 1 := cwV 1 hts gX0_obey_X7_pass rfl rfl rfl (by decide +kernel) ⟨Nat.le_of_ble_eq_true rfl, Nat.le_of_ble_eq_true rfl⟩
set_option maxHeartbeats 4000000 in
set_option maxRecDepth 100000 in
theorem wX0_obey_63 {p : Program} {l : Launch} {e : Env} {s : State} {m : MethodId} {args : Array Value} {below : List Frame} {meth : Method} {c : Code} {D : va_G} {A : Nat → Prop} {Q : State → Prop} {cI : ClassId} {h_t h_t_colours h_s h_s_file h_s_file_bytes h_p h_p_pixels : Nat} {t_known : Int32} {t_depth : Int32} {t_packing : Int32} {t_isUpward : Int32} {t_colours : Nat → Int32} {s_file_size : Int32} {s_file_bytes : Nat → Int32} {p_wide : Int32} {p_high : Int32} {tg0 : Nat} {zt_column : Int32} {zt_up : Int32} {zs_place : Int32} {zp_pixels : Nat → Int32} (C : CallFix p m c cX0_obey 6 s args wsX0_obey RX0) (hN : zN s) (hK : va_K D vwCl [(cI, .int)] s) (hA : ∀ q, s.heap.size ≤ q → A q) (hT : zTh A s) (hst : l.stackTraces = false) (hE : zTEv tg0 p l e (rmX0_obey tg0) s m args below meth c cX0_obey D A Q (zwX0 cI h_t h_t_colours t_known t_depth t_packing t_isUpward zt_column zt_up t_colours ++ zwX7 cI h_s h_s_file h_s_file_bytes zs_place s_file_size s_file_bytes ++ zwX5 cI h_p h_p_pixels p_wide p_high zp_pixels)) (hX : zTX tg0 p l e (rmX0_obey tg0) s m args below meth c D A Q (zwX0 cI h_t h_t_colours t_known t_depth t_packing t_isUpward zt_column zt_up t_colours ++ zwX7 cI h_s h_s_file h_s_file_bytes zs_place s_file_size s_file_bytes ++ zwX5 cI h_p h_p_pixels p_wide p_high zp_pixels)) (n : Nat) : ∀ {t_column : Int32} {t_up : Int32} {s_place : Int32} {p_pixels : Nat → Int32} {l1 : Int32} {l4 : Int32} {H : Heap} {locs : List Loc} {ls : Array Slot}, fX0_obey_63 n t_known t_column t_up t_colours s_place s_file_size s_file_bytes p_wide p_high p_pixels l1 l4 = some (tg0, zt_column, zt_up, zs_place, zp_pixels) → va_P D vwCl (zwX0 cI h_t h_t_colours t_known t_depth t_packing t_isUpward t_column t_up t_colours ++ zwX7 cI h_s h_s_file h_s_file_bytes s_place s_file_size s_file_bytes ++ zwX5 cI h_p h_p_pixels p_wide p_high p_pixels) H → va_D A (zwX0 cI h_t h_t_colours t_known t_depth t_packing t_isUpward t_column t_up t_colours ++ zwX7 cI h_s h_s_file h_s_file_bytes s_place s_file_size s_file_bytes ++ zwX5 cI h_p h_p_pixels p_wide p_high p_pixels) → va_S A s.heap H locs → lv_has ls 6 [(0, .ref h_t), (1, .int l1), (2, .ref h_s), (3, .ref h_p), (4, .int l4)] → W p l e (rmX0_obey tg0) s m args below meth c H locs 0 0 Q (F0 m 63 ls []) := by
  obtain ⟨hx, hb, hml, hown, hts⟩ := id C
  induction n with
  | zero =>
    intro t_column t_up s_place p_pixels l1 l4 H locs ls hf
    cases hf
  | succ n hr_63 =>
    intro t_column t_up s_place p_pixels l1 l4 H locs ls hf hP hD hS hl
    rw [fX0_obey_63_s] at hf
    refine lv_iload hx hb dX0_obey_63 (lv_at hl 4 rfl) ?_
    refine lv_iload_n hx hb dX0_obey_65 rfl (lv_at hl 1 rfl) ?_
    refine lv_icmp_ge (tgt := 85) hx hb dX0_obey_66 (by decide) (fun c1 => ?_) (fun c1 => ?_)
    · replace hf := zif_t hf c1
      refine lv_aload_n hx hb dX0_obey_85 rfl (lv_at hl 2 rfl) ?_
      refine lv_iload_n hx hb dX0_obey_86 rfl (lv_at hl 1 rfl) ?_
      refine lv_iconst (v := 2) hx hb dX0_obey_87 (by decide) ?_
      refine lv_irem hx hb dX0_obey_88 (by decide) ?_
      obtain ⟨tg2, u3, hc4, hf⟩ := zb2_in hf
      have hle := zT_le hf
      refine zcx_v (vx_runV (As := [.int (zrem l1 2)]) (rest := []) C (mX7_pass l hst D cI H.size h_s h_s_file h_s_file_bytes s_place s_file_size s_file_bytes (zrem l1 2) tg2 u3 hc4) (qX0_obey_X7_pass_92 hts) ⟨zPT_blind, va_recv hK hP (ci := 6) (q0 := 2) rfl rfl, zpreT hK hN hT hA hS hP hD [2, 3, 4] rfl rfl⟩ rfl rfl hl.1 rfl (lv_room (Nat.le_of_ble_eq_true rfl)) dX0_obey_89 hle) hP hD hS hA [2, 3, 4] [0, 1, 5, 6] [0, 1, 4, 5, 6, 2, 3] (ws' := zwX0 cI h_t h_t_colours t_known t_depth t_packing t_isUpward t_column t_up t_colours ++ zwX7 cI h_s h_s_file h_s_file_bytes u3 s_file_size s_file_bytes ++ zwX5 cI h_p h_p_pixels p_wide p_high p_pixels) rfl rfl rfl rfl rfl rfl (fun ht H locs q9 ce hP hD hS hq hv hcl => ?_) (fun ht H locs hP hD hS => ?_)
      · replace hf := zif_f hf ht
        cases hf
        exact hX _ _ _ _ _ _ _ ht hP hD hS hq hv hcl
      · replace hf := zif_t hf ht
        clear hle
        cases hf
        exact hE rfl _ _ _ _ dX0_obey_92 hP hD hS
    · replace hf := zif_f hf c1
      refine lv_aload_n hx hb dX0_obey_69 rfl (lv_at hl 0 rfl) ?_
      refine lv_aload_n hx hb dX0_obey_70 rfl (lv_at hl 2 rfl) ?_
      obtain ⟨tg5, r6, u7, hc8, hf⟩ := zb3_in hf
      have hle := zT_le hf
      refine zcx_i (vx_runV (As := []) (rest := [.ref h_t]) C (mX7_next l hst D cI H.size h_s h_s_file h_s_file_bytes s_place s_file_size s_file_bytes tg5 r6 u7 hc8) (qX0_obey_X7_next_136 hts) ⟨zPT_blind, va_recv hK hP (ci := 6) (q0 := 2) rfl rfl, zpreT hK hN hT hA hS hP hD [2, 3, 4] rfl rfl⟩ rfl rfl hl.1 rfl (lv_room (Nat.le_of_ble_eq_true rfl)) dX0_obey_71 hle) hP hD hS hA [2, 3, 4] [0, 1, 5, 6] [0, 1, 4, 5, 6, 2, 3] (ws' := zwX0 cI h_t h_t_colours t_known t_depth t_packing t_isUpward t_column t_up t_colours ++ zwX7 cI h_s h_s_file h_s_file_bytes u7 s_file_size s_file_bytes ++ zwX5 cI h_p h_p_pixels p_wide p_high p_pixels) rfl rfl rfl rfl rfl rfl (fun ht H locs q9 ce hP hD hS hq hv hcl => ?_) (fun ht H locs hP hD hS => ?_)
      · replace hf := zif_f hf ht
        cases hf
        exact hX _ _ _ _ _ _ _ ht hP hD hS hq hv hcl
      · replace hf := zif_t hf ht
        clear hle
        refine lv_aload_n hx hb dX0_obey_74 rfl (lv_at hl 2 rfl) ?_
        refine lv_aload_n hx hb dX0_obey_75 rfl (lv_at hl 3 rfl) ?_
        obtain ⟨tg9, u10, u11, hc12, hf⟩ := zb3_in hf
        have hle := zT_le hf
        refine zcx_v (vx_runV (As := [.int r6, .ref h_s, .ref h_p]) (rest := []) C (mX0_paint l hst D cI H.size h_t h_t_colours h_s h_s_file h_s_file_bytes h_p h_p_pixels t_known t_depth t_packing t_isUpward t_column t_up t_colours u7 s_file_size s_file_bytes p_wide p_high p_pixels r6 tg9 u10 u11 hc12) (qX0_obey_X0_paint_160 hts) ⟨zPT_blind, va_recv hK hP (ci := 0) (q0 := 0) rfl rfl, zpreT hK hN hT hA hS hP hD [0, 1, 2, 3, 4, 5, 6] rfl rfl⟩ rfl rfl hl.1 rfl (lv_room (Nat.le_of_ble_eq_true rfl)) dX0_obey_76 hle) hP hD hS hA [0, 1, 2, 3, 4, 5, 6] [] [0, 1, 2, 3, 4, 5, 6] (ws' := zwX0 cI h_t h_t_colours t_known t_depth t_packing t_isUpward u10 t_up t_colours ++ zwX7 cI h_s h_s_file h_s_file_bytes u7 s_file_size s_file_bytes ++ zwX5 cI h_p h_p_pixels p_wide p_high u11) rfl rfl rfl rfl rfl rfl (fun ht H locs q9 ce hP hD hS hq hv hcl => ?_) (fun ht H locs hP hD hS => ?_)
        · replace hf := zif_f hf ht
          cases hf
          exact hX _ _ _ _ _ _ _ ht hP hD hS hq hv hcl
        · replace hf := zif_t hf ht
          clear hle
          obtain ⟨x13, ex13⟩ : ∃ y : Int32, y = l4 + 1 := ⟨_, rfl⟩
          replace hf := zlet_in hf ex13
          refine lv_iinc (v := x13) (lv' := [(4, .int x13), (0, .ref h_t), (1, .int l1), (2, .ref h_s), (3, .ref h_p)]) hx hb dX0_obey_79 hl (k := 4) rfl (by rw [ex13]; rfl) (by decide) rfl (fun ls hl => ?_)
          clear ex13
          refine lv_goto (tgt := 63) hx hb dX0_obey_82 (by decide) ?_
          exact hr_63 hf hP hD hS (lv_sub hl [1, 2, 3, 4, 0] rfl)
set_option maxHeartbeats 4000000 in
set_option maxRecDepth 100000 in
theorem wX0_obey_0 {p : Program} {l : Launch} {e : Env} {s : State} {m : MethodId} {args : Array Value} {below : List Frame} {meth : Method} {c : Code} {D : va_G} {A : Nat → Prop} {Q : State → Prop} {cI : ClassId} {h_t h_t_colours h_s h_s_file h_s_file_bytes h_p h_p_pixels : Nat} {t_known : Int32} {t_depth : Int32} {t_packing : Int32} {t_isUpward : Int32} {t_colours : Nat → Int32} {s_file_size : Int32} {s_file_bytes : Nat → Int32} {p_wide : Int32} {p_high : Int32} {tg0 : Nat} {zt_column : Int32} {zt_up : Int32} {zs_place : Int32} {zp_pixels : Nat → Int32} (C : CallFix p m c cX0_obey 6 s args wsX0_obey RX0) (hN : zN s) (hK : va_K D vwCl [(cI, .int)] s) (hA : ∀ q, s.heap.size ≤ q → A q) (hT : zTh A s) (hst : l.stackTraces = false) (hE : zTEv tg0 p l e (rmX0_obey tg0) s m args below meth c cX0_obey D A Q (zwX0 cI h_t h_t_colours t_known t_depth t_packing t_isUpward zt_column zt_up t_colours ++ zwX7 cI h_s h_s_file h_s_file_bytes zs_place s_file_size s_file_bytes ++ zwX5 cI h_p h_p_pixels p_wide p_high zp_pixels)) (hX : zTX tg0 p l e (rmX0_obey tg0) s m args below meth c D A Q (zwX0 cI h_t h_t_colours t_known t_depth t_packing t_isUpward zt_column zt_up t_colours ++ zwX7 cI h_s h_s_file h_s_file_bytes zs_place s_file_size s_file_bytes ++ zwX5 cI h_p h_p_pixels p_wide p_high zp_pixels)) {t_column : Int32} {t_up : Int32} {s_place : Int32} {p_pixels : Nat → Int32} {v0 : Int32} {H : Heap} {locs : List Loc} {ls : Array Slot} : fX0_obey t_known t_column t_up t_colours s_place s_file_size s_file_bytes p_wide p_high p_pixels v0 = some (tg0, zt_column, zt_up, zs_place, zp_pixels) → va_P D vwCl (zwX0 cI h_t h_t_colours t_known t_depth t_packing t_isUpward t_column t_up t_colours ++ zwX7 cI h_s h_s_file h_s_file_bytes s_place s_file_size s_file_bytes ++ zwX5 cI h_p h_p_pixels p_wide p_high p_pixels) H → va_D A (zwX0 cI h_t h_t_colours t_known t_depth t_packing t_isUpward t_column t_up t_colours ++ zwX7 cI h_s h_s_file h_s_file_bytes s_place s_file_size s_file_bytes ++ zwX5 cI h_p h_p_pixels p_wide p_high p_pixels) → va_S A s.heap H locs → lv_has ls 6 [(0, .ref h_t), (1, .int v0), (2, .ref h_s), (3, .ref h_p)] → W p l e (rmX0_obey tg0) s m args below meth c H locs 0 0 Q (F0 m 0 ls []) := by
  intro hf hP hD hS hl
  obtain ⟨hx, hb, hml, hown, hts⟩ := id C
  unfold fX0_obey at hf
  refine lv_iload_n hx hb dX0_obey_0 rfl (lv_at hl 1 rfl) ?_
  refine lv_if_ne (tgt := 20) hx hb dX0_obey_1 (by decide) (fun c1 => ?_) (fun c1 => ?_)
  · replace hf := zif_f hf c1
    refine lv_iload_n hx hb dX0_obey_20 rfl (lv_at hl 1 rfl) ?_
    refine lv_iconst (v := 2) hx hb dX0_obey_21 (by decide) ?_
    refine lv_icmp_ne (tgt := 60) hx hb dX0_obey_22 (by decide) (fun c2 => ?_) (fun c2 => ?_)
    · replace hf := zif_f hf c2
      refine lv_iconst (v := 0) hx hb dX0_obey_60 (by decide) ?_
      refine lv_istore (lv' := [(4, .int 0), (0, .ref h_t), (1, .int v0), (2, .ref h_s), (3, .ref h_p)]) hx hb dX0_obey_61 hl (by decide) rfl (fun ls hl => ?_)
      exact wX0_obey_63 C hN hK hA hT hst hE hX 1000 hf hP hD hS (lv_sub hl [1, 2, 3, 4, 0] rfl)
    · replace hf := zif_t hf c2
      refine lv_aload_n hx hb dX0_obey_25 rfl (lv_at hl 2 rfl) ?_
      obtain ⟨tg3, r4, u5, hc6, hf⟩ := zb3_in hf
      have hle := zT_le hf
      refine zcx_i (vx_runV (As := []) (rest := []) C (mX7_next l hst D cI H.size h_s h_s_file h_s_file_bytes s_place s_file_size s_file_bytes tg3 r4 u5 hc6) (qX0_obey_X7_next_136 hts) ⟨zPT_blind, va_recv hK hP (ci := 6) (q0 := 2) rfl rfl, zpreT hK hN hT hA hS hP hD [2, 3, 4] rfl rfl⟩ rfl rfl hl.1 rfl (lv_room (Nat.le_of_ble_eq_true rfl)) dX0_obey_26 hle) hP hD hS hA [2, 3, 4] [0, 1, 5, 6] [0, 1, 4, 5, 6, 2, 3] (ws' := zwX0 cI h_t h_t_colours t_known t_depth t_packing t_isUpward t_column t_up t_colours ++ zwX7 cI h_s h_s_file h_s_file_bytes u5 s_file_size s_file_bytes ++ zwX5 cI h_p h_p_pixels p_wide p_high p_pixels) rfl rfl rfl rfl rfl rfl (fun ht H locs q9 ce hP hD hS hq hv hcl => ?_) (fun ht H locs hP hD hS => ?_)
      · replace hf := zif_f hf ht
        cases hf
        exact hX _ _ _ _ _ _ _ ht hP hD hS hq hv hcl
      · replace hf := zif_t hf ht
        clear hle
        refine lv_istore (lv' := [(4, .int r4), (0, .ref h_t), (1, .int v0), (2, .ref h_s), (3, .ref h_p)]) hx hb dX0_obey_29 hl (by decide) rfl (fun ls hl => ?_)
        refine lv_aload_n hx hb dX0_obey_31 rfl (lv_at hl 3 rfl) ?_
        obtain ⟨tg7, r8, u9, hc10, hf⟩ := zb3_in hf
        have hle := zT_le hf
        refine zcx_i (vx_runV (As := []) (rest := []) C (mX7_next l hst D cI H.size h_s h_s_file h_s_file_bytes u5 s_file_size s_file_bytes tg7 r8 u9 hc10) (qX0_obey_X7_next_136 hts) ⟨zPT_blind, va_recv hK hP (ci := 6) (q0 := 2) rfl rfl, zpreT hK hN hT hA hS hP hD [2, 3, 4] rfl rfl⟩ rfl rfl hl.1 rfl (lv_room (Nat.le_of_ble_eq_true rfl)) dX0_obey_32 hle) hP hD hS hA [2, 3, 4] [0, 1, 5, 6] [0, 1, 4, 5, 6, 2, 3] (ws' := zwX0 cI h_t h_t_colours t_known t_depth t_packing t_isUpward t_column t_up t_colours ++ zwX7 cI h_s h_s_file h_s_file_bytes u9 s_file_size s_file_bytes ++ zwX5 cI h_p h_p_pixels p_wide p_high p_pixels) rfl rfl rfl rfl rfl rfl (fun ht H locs q9 ce hP hD hS hq hv hcl => ?_) (fun ht H locs hP hD hS => ?_)
        · replace hf := zif_f hf ht
          cases hf
          exact hX _ _ _ _ _ _ _ ht hP hD hS hq hv hcl
        · replace hf := zif_t hf ht
          clear hle
          refine lv_istore (lv' := [(5, .int r8), (4, .int r4), (0, .ref h_t), (1, .int v0), (2, .ref h_s), (3, .ref h_p)]) hx hb dX0_obey_35 hl (by decide) rfl (fun ls hl => ?_)
          refine lv_aload_n hx hb dX0_obey_37 rfl (lv_at hl 2 rfl) ?_
          refine lv_aload_n hx hb dX0_obey_38 rfl (lv_at hl 2 rfl) ?_
          refine va_get (D := D) (ci := 0) (v := .int t_column) (C := RX0) (T := TX0) (N := 7) hx hb hts iX0_obey_X0 hown hK hP 0 rfl rfl 5 (by decide) (kX0_obey_150 hts) (fun _ h9 => h9) rfl dX0_obey_39 ?_
          refine lv_iload hx hb dX0_obey_42 (lv_at hl 1 rfl) ?_
          refine lv_iadd hx hb dX0_obey_44 ?_
          refine lv_aload_n hx hb dX0_obey_45 rfl (lv_at hl 2 rfl) ?_
          refine va_get (D := D) (ci := 0) (v := .int t_up) (C := RX0) (T := TX0) (N := 7) hx hb hts iX0_obey_X0 hown hK hP 0 rfl rfl 6 (by decide) (kX0_obey_153 hts) (fun _ h9 => h9) rfl dX0_obey_46 ?_
          refine lv_iload hx hb dX0_obey_49 (lv_at hl 0 rfl) ?_
          refine lv_iadd hx hb dX0_obey_51 ?_
          refine lv_aload_n hx hb dX0_obey_52 rfl (lv_at hl 4 rfl) ?_
          refine lv_aload_n hx hb dX0_obey_53 rfl (lv_at hl 5 rfl) ?_
          obtain ⟨tg11, u12, u13, hc14, hf⟩ := zb3_in hf
          have hle := zT_le hf
          refine zcx_v (vx_runV (As := [.int (t_column + r4), .int (t_up + r8), .ref h_s, .ref h_p]) (rest := []) C (mX0_goTo l hst D cI H.size h_t h_t_colours h_s h_s_file h_s_file_bytes h_p h_p_pixels t_known t_depth t_packing t_isUpward t_column t_up t_colours u9 s_file_size s_file_bytes p_wide p_high p_pixels (t_column + r4) (t_up + r8) tg11 u12 u13 hc14) (qX0_obey_X0_goTo_163 hts) ⟨zPT_blind, va_recv hK hP (ci := 0) (q0 := 0) rfl rfl, zpreT hK hN hT hA hS hP hD [0, 1, 2, 3, 4, 5, 6] rfl rfl⟩ rfl rfl hl.1 rfl (lv_room (Nat.le_of_ble_eq_true rfl)) dX0_obey_54 hle) hP hD hS hA [0, 1, 2, 3, 4, 5, 6] [] [0, 1, 2, 3, 4, 5, 6] (ws' := zwX0 cI h_t h_t_colours t_known t_depth t_packing t_isUpward u12 u13 t_colours ++ zwX7 cI h_s h_s_file h_s_file_bytes u9 s_file_size s_file_bytes ++ zwX5 cI h_p h_p_pixels p_wide p_high p_pixels) rfl rfl rfl rfl rfl rfl (fun ht H locs q9 ce hP hD hS hq hv hcl => ?_) (fun ht H locs hP hD hS => ?_)
          · replace hf := zif_f hf ht
            cases hf
            exact hX _ _ _ _ _ _ _ ht hP hD hS hq hv hcl
          · replace hf := zif_t hf ht
            clear hle
            refine lv_goto (tgt := 92) hx hb dX0_obey_57 (by decide) ?_
            cases hf
            exact hE rfl _ _ _ _ dX0_obey_92 hP hD hS
  · replace hf := zif_t hf c1
    refine lv_aload_n hx hb dX0_obey_4 rfl (lv_at hl 0 rfl) ?_
    refine lv_iconst (v := 0) hx hb dX0_obey_5 (by decide) ?_
    refine lv_aload_n hx hb dX0_obey_6 rfl (lv_at hl 0 rfl) ?_
    refine va_get (D := D) (ci := 0) (v := .int t_up) (C := RX0) (T := TX0) (N := 7) hx hb hts iX0_obey_X0 hown hK hP 0 rfl rfl 6 (by decide) (kX0_obey_153 hts) (fun _ h9 => h9) rfl dX0_obey_7 ?_
    refine lv_iconst (v := 1) hx hb dX0_obey_10 (by decide) ?_
    refine lv_iadd hx hb dX0_obey_11 ?_
    refine lv_aload_n hx hb dX0_obey_12 rfl (lv_at hl 2 rfl) ?_
    refine lv_aload_n hx hb dX0_obey_13 rfl (lv_at hl 3 rfl) ?_
    obtain ⟨tg15, u16, u17, hc18, hf⟩ := zb3_in hf
    have hle := zT_le hf
    refine zcx_v (vx_runV (As := [.int 0, .int (t_up + 1), .ref h_s, .ref h_p]) (rest := []) C (mX0_goTo l hst D cI H.size h_t h_t_colours h_s h_s_file h_s_file_bytes h_p h_p_pixels t_known t_depth t_packing t_isUpward t_column t_up t_colours s_place s_file_size s_file_bytes p_wide p_high p_pixels 0 (t_up + 1) tg15 u16 u17 hc18) (qX0_obey_X0_goTo_163 hts) ⟨zPT_blind, va_recv hK hP (ci := 0) (q0 := 0) rfl rfl, zpreT hK hN hT hA hS hP hD [0, 1, 2, 3, 4, 5, 6] rfl rfl⟩ rfl rfl hl.1 rfl (lv_room (Nat.le_of_ble_eq_true rfl)) dX0_obey_14 hle) hP hD hS hA [0, 1, 2, 3, 4, 5, 6] [] [0, 1, 2, 3, 4, 5, 6] (ws' := zwX0 cI h_t h_t_colours t_known t_depth t_packing t_isUpward u16 u17 t_colours ++ zwX7 cI h_s h_s_file h_s_file_bytes s_place s_file_size s_file_bytes ++ zwX5 cI h_p h_p_pixels p_wide p_high p_pixels) rfl rfl rfl rfl rfl rfl (fun ht H locs q9 ce hP hD hS hq hv hcl => ?_) (fun ht H locs hP hD hS => ?_)
    · replace hf := zif_f hf ht
      cases hf
      exact hX _ _ _ _ _ _ _ ht hP hD hS hq hv hcl
    · replace hf := zif_t hf ht
      clear hle
      refine lv_goto (tgt := 92) hx hb dX0_obey_17 (by decide) ?_
      cases hf
      exact hE rfl _ _ _ _ dX0_obey_92 hP hD hS
set_option maxHeartbeats 4000000 in
set_option maxRecDepth 100000 in
theorem mX0_obey (l : Launch) (hst : l.stackTraces = false) (D : va_G) (cI : ClassId) (sz : Nat) (h_t h_t_colours h_s h_s_file h_s_file_bytes h_p h_p_pixels : Nat) (t_known : Int32) (t_depth : Int32) (t_packing : Int32) (t_isUpward : Int32) (t_column : Int32) (t_up : Int32) (t_colours : Nat → Int32) (s_place : Int32) (s_file_size : Int32) (s_file_bytes : Nat → Int32) (p_wide : Int32) (p_high : Int32) (p_pixels : Nat → Int32) (v0 : Int32) (tg0 : Nat) (zt_column : Int32) (zt_up : Int32) (zs_place : Int32) (zp_pixels : Nat → Int32) (hf : fX0_obey t_known t_column t_up t_colours s_place s_file_size s_file_bytes p_wide p_high p_pixels v0 = some (tg0, zt_column, zt_up, zs_place, zp_pixels)) : vx_Met l yX0_obey wsX0_obey (rmX0_obey tg0) (va_Pc [.ref h_t, .int v0, .ref h_s, .ref h_p] (zPT D [(cI, .int)] (zwX0 cI h_t h_t_colours t_known t_depth t_packing t_isUpward t_column t_up t_colours ++ zwX7 cI h_s h_s_file h_s_file_bytes s_place s_file_size s_file_bytes ++ zwX5 cI h_p h_p_pixels p_wide p_high p_pixels) sz)) (zQTv D (zwX0 cI h_t h_t_colours t_known t_depth t_packing t_isUpward t_column t_up t_colours ++ zwX7 cI h_s h_s_file h_s_file_bytes s_place s_file_size s_file_bytes ++ zwX5 cI h_p h_p_pixels p_wide p_high p_pixels) sz tg0 (zwX0 cI h_t h_t_colours t_known t_depth t_packing t_isUpward zt_column zt_up t_colours ++ zwX7 cI h_s h_s_file h_s_file_bytes zs_place s_file_size s_file_bytes ++ zwX5 cI h_p h_p_pixels p_wide p_high zp_pixels)) (zXT D (zwX0 cI h_t h_t_colours t_known t_depth t_packing t_isUpward t_column t_up t_colours ++ zwX7 cI h_s h_s_file h_s_file_bytes s_place s_file_size s_file_bytes ++ zwX5 cI h_p h_p_pixels p_wide p_high p_pixels) sz tg0 (zwX0 cI h_t h_t_colours t_known t_depth t_packing t_isUpward zt_column zt_up t_colours ++ zwX7 cI h_s h_s_file h_s_file_bytes zs_place s_file_size s_file_bytes ++ zwX5 cI h_p h_p_pixels p_wide p_high zp_pixels)) (zc tg0) (zs tg0) (va_A (zwX0 cI h_t h_t_colours t_known t_depth t_packing t_isUpward t_column t_up t_colours ++ zwX7 cI h_s h_s_file h_s_file_bytes s_place s_file_size s_file_bytes ++ zwX5 cI h_p h_p_pixels p_wide p_high p_pixels) sz) := by
  refine vx_ofW (cc := cX0_obey) (maxL := 6) (ret := none) (by decide) rfl ?_
  intro p e s m args below meth c s₁ B hml htab hv
  obtain ⟨rfl, ⟨hsz, hP, hK, hD0, hN⟩, hT⟩ := hv
  subst hsz
  have C : CallFix p m c cX0_obey 6 s [.ref h_t, .int v0, .ref h_s, .ref h_p].toArray wsX0_obey RX0 := ⟨B.exec, B.bytes, hml, findClass_of_methodNamed B.named, atoms_spec (ws := wsX0_obey) B.pre⟩
  have hl := lv_entry ([.ref h_t, .int v0, .ref h_s, .ref h_p]) (n := 6) (Nat.le_of_ble_eq_true rfl)
  rw [lg_entry_eq]
  exact wX0_obey_0 (A := va_A (zwX0 cI h_t h_t_colours t_known t_depth t_packing t_isUpward t_column t_up t_colours ++ zwX7 cI h_s h_s_file h_s_file_bytes s_place s_file_size s_file_bytes ++ zwX5 cI h_p h_p_pixels p_wide p_high p_pixels) s.heap.size) C hN hK (fun q h => Or.inr h) hT hst (fun h0 H locs pc ls d hP hD hS => zendT_v C.1 C.2.1 B.returns B.notSynchronized h0 d hP hD hS) (fun H locs pc ls rest q9 ce h0 hP hD hS hq hv hcl => zoutT htab B.notSynchronized h0 hP hD hS hq hv hcl) hf hP hD0.self va_S.rf hl
def rmX0_readPacked (tg : Nat) : Room := { frames := 10, cells := zc tg, slots := zs tg, locals := 174 }
theorem kX0_readPacked_11 {args : Array Value} {s : State} (h : ∀ w ∈ wsX0_readPacked, w.before args s = true) : (Cond.fieldLink RX0 11 "FourPictureFiles$BitmapFormat" "colours" "[I").before args s = true := h _ (by decide +kernel)
theorem kX0_readPacked_150 {args : Array Value} {s : State} (h : ∀ w ∈ wsX0_readPacked, w.before args s = true) : (Cond.fieldLink RX0 150 "FourPictureFiles$BitmapFormat" "column" "I").before args s = true := h _ (by decide +kernel)
theorem kX0_readPacked_153 {args : Array Value} {s : State} (h : ∀ w ∈ wsX0_readPacked, w.before args s = true) : (Cond.fieldLink RX0 153 "FourPictureFiles$BitmapFormat" "up" "I").before args s = true := h _ (by decide +kernel)
theorem iX0_readPacked_X0 : ∀ w ∈ u_ws RX0 TX0 7, w ∈ wsX0_readPacked := by decide +kernel
theorem qX0_readPacked_X0_obey_156 {args : Array Value} {s : State} {tg0 : Nat} {tg : Nat} (hts : ∀ w ∈ wsX0_readPacked, w.before args s = true) : CallW (rmX0_readPacked tg0) s args RX0 RX0 156 yX0_obey cX0_obey 6 none wsX0_obey (rmX0_obey tg) (zc tg) (zs tg) 3 := cwV 3 hts gX0_readPacked_X0_obey rfl rfl rfl (by decide +kernel) ⟨Nat.le_of_ble_eq_true rfl, Nat.le_of_ble_eq_true rfl⟩
theorem qX0_readPacked_X0_paint_160 {args : Array Value} {s : State} {tg0 : Nat} {tg : Nat} (hts : ∀ w ∈ wsX0_readPacked, w.before args s = true) : CallW (rmX0_readPacked tg0) s args RX0 RX0 160 yX0_paint cX0_paint 5 none wsX0_paint (rmX0_paint tg) (zc tg) (zs tg) 3 := cwV 3 hts gX0_readPacked_X0_paint rfl rfl rfl (by decide +kernel) ⟨Nat.le_of_ble_eq_true rfl, Nat.le_of_ble_eq_true rfl⟩
theorem qX0_readPacked_X5_fill_147 {args : Array Value} {s : State} {tg0 : Nat} (hts : ∀ w ∈ wsX0_readPacked, w.before args s = true) : CallW (rmX0_readPacked tg0) s args RX0 RX5 147 yX5_fill cX5_fill 2 none wsX5_fill rmX5_fill 0 0 1 := cwV 1 hts gX0_readPacked_X5_fill rfl rfl rfl (by decide +kernel) ⟨Nat.le_of_ble_eq_true rfl, Nat.le_of_ble_eq_true rfl⟩
theorem qX0_readPacked_X7_next_136 {args : Array Value} {s : State} {tg0 : Nat} {tg : Nat} (hts : ∀ w ∈ wsX0_readPacked, w.before args s = true) : CallW (rmX0_readPacked tg0) s args RX0 RX7 136 yX7_next cX7_next 2 (some .int) wsX7_next (rmX7_next tg) (zc tg) (zs tg) 0 := cwV 0 hts gX0_readPacked_X7_next rfl rfl rfl (by decide +kernel) ⟨Nat.le_of_ble_eq_true rfl, Nat.le_of_ble_eq_true rfl⟩
set_option maxHeartbeats 4000000 in
set_option maxRecDepth 100000 in
theorem wX0_readPacked_93 {p : Program} {l : Launch} {e : Env} {s : State} {m : MethodId} {args : Array Value} {below : List Frame} {meth : Method} {c : Code} {D : va_G} {A : Nat → Prop} {Q : State → Prop} {cI : ClassId} {h_t h_t_colours h_s h_s_file h_s_file_bytes h_p h_p_pixels : Nat} {t_known : Int32} {t_depth : Int32} {t_packing : Int32} {t_isUpward : Int32} {t_colours : Nat → Int32} {s_file_size : Int32} {s_file_bytes : Nat → Int32} {p_wide : Int32} {p_high : Int32} {tg0 : Nat} {zt_column : Int32} {zt_up : Int32} {zs_place : Int32} {zp_pixels : Nat → Int32} (C : CallFix p m c cX0_readPacked 7 s args wsX0_readPacked RX0) (hN : zN s) (hK : va_K D vwCl [(cI, .int)] s) (hA : ∀ q, s.heap.size ≤ q → A q) (hT : zTh A s) (hst : l.stackTraces = false) (hE : zTEv tg0 p l e (rmX0_readPacked tg0) s m args below meth c cX0_readPacked D A Q (zwX0 cI h_t h_t_colours t_known t_depth t_packing t_isUpward zt_column zt_up t_colours ++ zwX7 cI h_s h_s_file h_s_file_bytes zs_place s_file_size s_file_bytes ++ zwX5 cI h_p h_p_pixels p_wide p_high zp_pixels)) (hX : zTX tg0 p l e (rmX0_readPacked tg0) s m args below meth c D A Q (zwX0 cI h_t h_t_colours t_known t_depth t_packing t_isUpward zt_column zt_up t_colours ++ zwX7 cI h_s h_s_file h_s_file_bytes zs_place s_file_size s_file_bytes ++ zwX5 cI h_p h_p_pixels p_wide p_high zp_pixels)) {rc22 : Int32 → Int32 → Int32 → (Nat → Int32) → Int32 → Int32 → (Nat → Int32) → Int32 → Int32 → (Nat → Int32) → Int32 → Option (Nat × Int32 × Int32 × Int32 × (Nat → Int32))} (hr_22 : ∀ {t_column : Int32} {t_up : Int32} {s_place : Int32} {p_pixels : Nat → Int32} {l3 : Int32} {H : Heap} {locs : List Loc} {ls : Array Slot}, rc22 t_known t_column t_up t_colours s_place s_file_size s_file_bytes p_wide p_high p_pixels l3 = some (tg0, zt_column, zt_up, zs_place, zp_pixels) → va_P D vwCl (zwX0 cI h_t h_t_colours t_known t_depth t_packing t_isUpward t_column t_up t_colours ++ zwX7 cI h_s h_s_file h_s_file_bytes s_place s_file_size s_file_bytes ++ zwX5 cI h_p h_p_pixels p_wide p_high p_pixels) H → va_D A (zwX0 cI h_t h_t_colours t_known t_depth t_packing t_isUpward t_column t_up t_colours ++ zwX7 cI h_s h_s_file h_s_file_bytes s_place s_file_size s_file_bytes ++ zwX5 cI h_p h_p_pixels p_wide p_high p_pixels) → va_S A s.heap H locs → lv_has ls 7 [(0, .ref h_t), (1, .ref h_s), (2, .ref h_p), (3, .int l3)] → W p l e (rmX0_readPacked tg0) s m args below meth c H locs 0 0 Q (F0 m 22 ls [])) {t_column : Int32} {t_up : Int32} {s_place : Int32} {p_pixels : Nat → Int32} {l3 : Int32} {l4 : Int32} {l5 : Int32} {H : Heap} {locs : List Loc} {ls : Array Slot} : fX0_readPacked_93 rc22 t_known t_column t_up t_colours s_place s_file_size s_file_bytes p_wide p_high p_pixels l3 = some (tg0, zt_column, zt_up, zs_place, zp_pixels) → va_P D vwCl (zwX0 cI h_t h_t_colours t_known t_depth t_packing t_isUpward t_column t_up t_colours ++ zwX7 cI h_s h_s_file h_s_file_bytes s_place s_file_size s_file_bytes ++ zwX5 cI h_p h_p_pixels p_wide p_high p_pixels) H → va_D A (zwX0 cI h_t h_t_colours t_known t_depth t_packing t_isUpward t_column t_up t_colours ++ zwX7 cI h_s h_s_file h_s_file_bytes s_place s_file_size s_file_bytes ++ zwX5 cI h_p h_p_pixels p_wide p_high p_pixels) → va_S A s.heap H locs → lv_has ls 7 [(0, .ref h_t), (1, .ref h_s), (2, .ref h_p), (3, .int l3), (4, .int l4), (5, .int l5)] → W p l e (rmX0_readPacked tg0) s m args below meth c H locs 0 0 Q (F0 m 93 ls []) := by
  intro hf hP hD hS hl
  obtain ⟨hx, hb, hml, hown, hts⟩ := id C
  unfold fX0_readPacked_93 at hf
  obtain ⟨x1, ex1⟩ : ∃ y : Int32, y = l3 + 1 := ⟨_, rfl⟩
  replace hf := zlet_in hf ex1
  refine lv_iinc (v := x1) (lv' := [(3, .int x1), (0, .ref h_t), (1, .ref h_s), (2, .ref h_p), (4, .int l4), (5, .int l5)]) hx hb dX0_readPacked_93 hl (k := 3) rfl (by rw [ex1]; rfl) (by decide) rfl (fun ls hl => ?_)
  clear ex1
  refine lv_goto (tgt := 22) hx hb dX0_readPacked_96 (by decide) ?_
  exact hr_22 hf hP hD hS (lv_sub hl [1, 2, 3, 0] rfl)
set_option maxHeartbeats 4000000 in
set_option maxRecDepth 100000 in
theorem wX0_readPacked_72 {p : Program} {l : Launch} {e : Env} {s : State} {m : MethodId} {args : Array Value} {below : List Frame} {meth : Method} {c : Code} {D : va_G} {A : Nat → Prop} {Q : State → Prop} {cI : ClassId} {h_t h_t_colours h_s h_s_file h_s_file_bytes h_p h_p_pixels : Nat} {t_known : Int32} {t_depth : Int32} {t_packing : Int32} {t_isUpward : Int32} {t_colours : Nat → Int32} {s_file_size : Int32} {s_file_bytes : Nat → Int32} {p_wide : Int32} {p_high : Int32} {tg0 : Nat} {zt_column : Int32} {zt_up : Int32} {zs_place : Int32} {zp_pixels : Nat → Int32} (C : CallFix p m c cX0_readPacked 7 s args wsX0_readPacked RX0) (hN : zN s) (hK : va_K D vwCl [(cI, .int)] s) (hA : ∀ q, s.heap.size ≤ q → A q) (hT : zTh A s) (hst : l.stackTraces = false) (hE : zTEv tg0 p l e (rmX0_readPacked tg0) s m args below meth c cX0_readPacked D A Q (zwX0 cI h_t h_t_colours t_known t_depth t_packing t_isUpward zt_column zt_up t_colours ++ zwX7 cI h_s h_s_file h_s_file_bytes zs_place s_file_size s_file_bytes ++ zwX5 cI h_p h_p_pixels p_wide p_high zp_pixels)) (hX : zTX tg0 p l e (rmX0_readPacked tg0) s m args below meth c D A Q (zwX0 cI h_t h_t_colours t_known t_depth t_packing t_isUpward zt_column zt_up t_colours ++ zwX7 cI h_s h_s_file h_s_file_bytes zs_place s_file_size s_file_bytes ++ zwX5 cI h_p h_p_pixels p_wide p_high zp_pixels)) {rc22 : Int32 → Int32 → Int32 → (Nat → Int32) → Int32 → Int32 → (Nat → Int32) → Int32 → Int32 → (Nat → Int32) → Int32 → Option (Nat × Int32 × Int32 × Int32 × (Nat → Int32))} (hr_22 : ∀ {t_column : Int32} {t_up : Int32} {s_place : Int32} {p_pixels : Nat → Int32} {l3 : Int32} {H : Heap} {locs : List Loc} {ls : Array Slot}, rc22 t_known t_column t_up t_colours s_place s_file_size s_file_bytes p_wide p_high p_pixels l3 = some (tg0, zt_column, zt_up, zs_place, zp_pixels) → va_P D vwCl (zwX0 cI h_t h_t_colours t_known t_depth t_packing t_isUpward t_column t_up t_colours ++ zwX7 cI h_s h_s_file h_s_file_bytes s_place s_file_size s_file_bytes ++ zwX5 cI h_p h_p_pixels p_wide p_high p_pixels) H → va_D A (zwX0 cI h_t h_t_colours t_known t_depth t_packing t_isUpward t_column t_up t_colours ++ zwX7 cI h_s h_s_file h_s_file_bytes s_place s_file_size s_file_bytes ++ zwX5 cI h_p h_p_pixels p_wide p_high p_pixels) → va_S A s.heap H locs → lv_has ls 7 [(0, .ref h_t), (1, .ref h_s), (2, .ref h_p), (3, .int l3)] → W p l e (rmX0_readPacked tg0) s m args below meth c H locs 0 0 Q (F0 m 22 ls [])) (n : Nat) : ∀ {t_column : Int32} {t_up : Int32} {s_place : Int32} {p_pixels : Nat → Int32} {l3 : Int32} {l4 : Int32} {l5 : Int32} {l6 : Int32} {H : Heap} {locs : List Loc} {ls : Array Slot}, fX0_readPacked_72 rc22 n t_known t_column t_up t_colours s_place s_file_size s_file_bytes p_wide p_high p_pixels l3 l4 l5 l6 = some (tg0, zt_column, zt_up, zs_place, zp_pixels) → va_P D vwCl (zwX0 cI h_t h_t_colours t_known t_depth t_packing t_isUpward t_column t_up t_colours ++ zwX7 cI h_s h_s_file h_s_file_bytes s_place s_file_size s_file_bytes ++ zwX5 cI h_p h_p_pixels p_wide p_high p_pixels) H → va_D A (zwX0 cI h_t h_t_colours t_known t_depth t_packing t_isUpward t_column t_up t_colours ++ zwX7 cI h_s h_s_file h_s_file_bytes s_place s_file_size s_file_bytes ++ zwX5 cI h_p h_p_pixels p_wide p_high p_pixels) → va_S A s.heap H locs → lv_has ls 7 [(0, .ref h_t), (1, .ref h_s), (2, .ref h_p), (3, .int l3), (4, .int l4), (5, .int l5), (6, .int l6)] → W p l e (rmX0_readPacked tg0) s m args below meth c H locs 0 0 Q (F0 m 72 ls []) := by
  obtain ⟨hx, hb, hml, hown, hts⟩ := id C
  induction n with
  | zero =>
    intro t_column t_up s_place p_pixels l3 l4 l5 l6 H locs ls hf
    cases hf
  | succ n hr_72 =>
    intro t_column t_up s_place p_pixels l3 l4 l5 l6 H locs ls hf hP hD hS hl
    rw [fX0_readPacked_72_s] at hf
    refine lv_iload hx hb dX0_readPacked_72 (lv_at hl 6 rfl) ?_
    refine lv_iload hx hb dX0_readPacked_74 (lv_at hl 4 rfl) ?_
    refine lv_icmp_ge (tgt := 93) hx hb dX0_readPacked_76 (by decide) (fun c1 => ?_) (fun c1 => ?_)
    · replace hf := zif_t hf c1
      exact wX0_readPacked_93 C hN hK hA hT hst hE hX hr_22 hf hP hD hS (lv_sub hl [0, 1, 2, 3, 4, 5] rfl)
    · replace hf := zif_f hf c1
      refine lv_aload_n hx hb dX0_readPacked_79 rfl (lv_at hl 0 rfl) ?_
      refine lv_iload hx hb dX0_readPacked_80 (lv_at hl 5 rfl) ?_
      refine lv_aload_n hx hb dX0_readPacked_82 rfl (lv_at hl 1 rfl) ?_
      refine lv_aload_n hx hb dX0_readPacked_83 rfl (lv_at hl 2 rfl) ?_
      obtain ⟨tg2, u3, u4, hc5, hf⟩ := zb3_in hf
      have hle := zT_le hf
      refine zcx_v (vx_runV (As := [.int l5, .ref h_s, .ref h_p]) (rest := []) C (mX0_paint l hst D cI H.size h_t h_t_colours h_s h_s_file h_s_file_bytes h_p h_p_pixels t_known t_depth t_packing t_isUpward t_column t_up t_colours s_place s_file_size s_file_bytes p_wide p_high p_pixels l5 tg2 u3 u4 hc5) (qX0_readPacked_X0_paint_160 hts) ⟨zPT_blind, va_recv hK hP (ci := 0) (q0 := 0) rfl rfl, zpreT hK hN hT hA hS hP hD [0, 1, 2, 3, 4, 5, 6] rfl rfl⟩ rfl rfl hl.1 rfl (lv_room (Nat.le_of_ble_eq_true rfl)) dX0_readPacked_84 hle) hP hD hS hA [0, 1, 2, 3, 4, 5, 6] [] [0, 1, 2, 3, 4, 5, 6] (ws' := zwX0 cI h_t h_t_colours t_known t_depth t_packing t_isUpward u3 t_up t_colours ++ zwX7 cI h_s h_s_file h_s_file_bytes s_place s_file_size s_file_bytes ++ zwX5 cI h_p h_p_pixels p_wide p_high u4) rfl rfl rfl rfl rfl rfl (fun ht H locs q9 ce hP hD hS hq hv hcl => ?_) (fun ht H locs hP hD hS => ?_)
      · replace hf := zif_f hf ht
        cases hf
        exact hX _ _ _ _ _ _ _ ht hP hD hS hq hv hcl
      · replace hf := zif_t hf ht
        clear hle
        obtain ⟨x6, ex6⟩ : ∃ y : Int32, y = l6 + 1 := ⟨_, rfl⟩
        replace hf := zlet_in hf ex6
        refine lv_iinc (v := x6) (lv' := [(6, .int x6), (0, .ref h_t), (1, .ref h_s), (2, .ref h_p), (3, .int l3), (4, .int l4), (5, .int l5)]) hx hb dX0_readPacked_87 hl (k := 6) rfl (by rw [ex6]; rfl) (by decide) rfl (fun ls hl => ?_)
        clear ex6
        refine lv_goto (tgt := 72) hx hb dX0_readPacked_90 (by decide) ?_
        exact hr_72 hf hP hD hS (lv_sub hl [1, 2, 3, 4, 5, 6, 0] rfl)
set_option maxHeartbeats 4000000 in
set_option maxRecDepth 100000 in
theorem wX0_readPacked_53 {p : Program} {l : Launch} {e : Env} {s : State} {m : MethodId} {args : Array Value} {below : List Frame} {meth : Method} {c : Code} {D : va_G} {A : Nat → Prop} {Q : State → Prop} {cI : ClassId} {h_t h_t_colours h_s h_s_file h_s_file_bytes h_p h_p_pixels : Nat} {t_known : Int32} {t_depth : Int32} {t_packing : Int32} {t_isUpward : Int32} {t_colours : Nat → Int32} {s_file_size : Int32} {s_file_bytes : Nat → Int32} {p_wide : Int32} {p_high : Int32} {tg0 : Nat} {zt_column : Int32} {zt_up : Int32} {zs_place : Int32} {zp_pixels : Nat → Int32} (C : CallFix p m c cX0_readPacked 7 s args wsX0_readPacked RX0) (hN : zN s) (hK : va_K D vwCl [(cI, .int)] s) (hA : ∀ q, s.heap.size ≤ q → A q) (hT : zTh A s) (hst : l.stackTraces = false) (hE : zTEv tg0 p l e (rmX0_readPacked tg0) s m args below meth c cX0_readPacked D A Q (zwX0 cI h_t h_t_colours t_known t_depth t_packing t_isUpward zt_column zt_up t_colours ++ zwX7 cI h_s h_s_file h_s_file_bytes zs_place s_file_size s_file_bytes ++ zwX5 cI h_p h_p_pixels p_wide p_high zp_pixels)) (hX : zTX tg0 p l e (rmX0_readPacked tg0) s m args below meth c D A Q (zwX0 cI h_t h_t_colours t_known t_depth t_packing t_isUpward zt_column zt_up t_colours ++ zwX7 cI h_s h_s_file h_s_file_bytes zs_place s_file_size s_file_bytes ++ zwX5 cI h_p h_p_pixels p_wide p_high zp_pixels)) {rc22 : Int32 → Int32 → Int32 → (Nat → Int32) → Int32 → Int32 → (Nat → Int32) → Int32 → Int32 → (Nat → Int32) → Int32 → Option (Nat × Int32 × Int32 × Int32 × (Nat → Int32))} (hr_22 : ∀ {t_column : Int32} {t_up : Int32} {s_place : Int32} {p_pixels : Nat → Int32} {l3 : Int32} {H : Heap} {locs : List Loc} {ls : Array Slot}, rc22 t_known t_column t_up t_colours s_place s_file_size s_file_bytes p_wide p_high p_pixels l3 = some (tg0, zt_column, zt_up, zs_place, zp_pixels) → va_P D vwCl (zwX0 cI h_t h_t_colours t_known t_depth t_packing t_isUpward t_column t_up t_colours ++ zwX7 cI h_s h_s_file h_s_file_bytes s_place s_file_size s_file_bytes ++ zwX5 cI h_p h_p_pixels p_wide p_high p_pixels) H → va_D A (zwX0 cI h_t h_t_colours t_known t_depth t_packing t_isUpward t_column t_up t_colours ++ zwX7 cI h_s h_s_file h_s_file_bytes s_place s_file_size s_file_bytes ++ zwX5 cI h_p h_p_pixels p_wide p_high p_pixels) → va_S A s.heap H locs → lv_has ls 7 [(0, .ref h_t), (1, .ref h_s), (2, .ref h_p), (3, .int l3)] → W p l e (rmX0_readPacked tg0) s m args below meth c H locs 0 0 Q (F0 m 22 ls [])) {t_column : Int32} {t_up : Int32} {s_place : Int32} {p_pixels : Nat → Int32} {l3 : Int32} {l4 : Int32} {l5 : Int32} {H : Heap} {locs : List Loc} {ls : Array Slot} : fX0_readPacked_53 rc22 t_known t_column t_up t_colours s_place s_file_size s_file_bytes p_wide p_high p_pixels l3 l4 l5 = some (tg0, zt_column, zt_up, zs_place, zp_pixels) → va_P D vwCl (zwX0 cI h_t h_t_colours t_known t_depth t_packing t_isUpward t_column t_up t_colours ++ zwX7 cI h_s h_s_file h_s_file_bytes s_place s_file_size s_file_bytes ++ zwX5 cI h_p h_p_pixels p_wide p_high p_pixels) H → va_D A (zwX0 cI h_t h_t_colours t_known t_depth t_packing t_isUpward t_column t_up t_colours ++ zwX7 cI h_s h_s_file h_s_file_bytes s_place s_file_size s_file_bytes ++ zwX5 cI h_p h_p_pixels p_wide p_high p_pixels) → va_S A s.heap H locs → lv_has ls 7 [(0, .ref h_t), (1, .ref h_s), (2, .ref h_p), (3, .int l3), (4, .int l4), (5, .int l5)] → W p l e (rmX0_readPacked tg0) s m args below meth c H locs 0 0 Q (F0 m 53 ls []) := by
  intro hf hP hD hS hl
  obtain ⟨hx, hb, hml, hown, hts⟩ := id C
  unfold fX0_readPacked_53 at hf
  refine lv_iload hx hb dX0_readPacked_53 (lv_at hl 4 rfl) ?_
  refine lv_if_ne (tgt := 69) hx hb dX0_readPacked_55 (by decide) (fun c1 => ?_) (fun c1 => ?_)
  · replace hf := zif_f hf c1
    refine lv_iconst (v := 0) hx hb dX0_readPacked_69 (by decide) ?_
    refine lv_istore (lv' := [(6, .int 0), (0, .ref h_t), (1, .ref h_s), (2, .ref h_p), (3, .int l3), (4, .int l4), (5, .int l5)]) hx hb dX0_readPacked_70 hl (by decide) rfl (fun ls hl => ?_)
    exact wX0_readPacked_72 C hN hK hA hT hst hE hX hr_22 1000 hf hP hD hS (lv_sub hl [1, 2, 3, 4, 5, 6, 0] rfl)
  · replace hf := zif_t hf c1
    refine lv_aload_n hx hb dX0_readPacked_58 rfl (lv_at hl 0 rfl) ?_
    refine lv_iload hx hb dX0_readPacked_59 (lv_at hl 5 rfl) ?_
    refine lv_aload_n hx hb dX0_readPacked_61 rfl (lv_at hl 1 rfl) ?_
    refine lv_aload_n hx hb dX0_readPacked_62 rfl (lv_at hl 2 rfl) ?_
    obtain ⟨tg2, u3, u4, u5, u6, hc7, hf⟩ := zb5_in hf
    have hle := zT_le hf
    refine zcx_v (vx_runV (As := [.int l5, .ref h_s, .ref h_p]) (rest := []) C (mX0_obey l hst D cI H.size h_t h_t_colours h_s h_s_file h_s_file_bytes h_p h_p_pixels t_known t_depth t_packing t_isUpward t_column t_up t_colours s_place s_file_size s_file_bytes p_wide p_high p_pixels l5 tg2 u3 u4 u5 u6 hc7) (qX0_readPacked_X0_obey_156 hts) ⟨zPT_blind, va_recv hK hP (ci := 0) (q0 := 0) rfl rfl, zpreT hK hN hT hA hS hP hD [0, 1, 2, 3, 4, 5, 6] rfl rfl⟩ rfl rfl hl.1 rfl (lv_room (Nat.le_of_ble_eq_true rfl)) dX0_readPacked_63 hle) hP hD hS hA [0, 1, 2, 3, 4, 5, 6] [] [0, 1, 2, 3, 4, 5, 6] (ws' := zwX0 cI h_t h_t_colours t_known t_depth t_packing t_isUpward u3 u4 t_colours ++ zwX7 cI h_s h_s_file h_s_file_bytes u5 s_file_size s_file_bytes ++ zwX5 cI h_p h_p_pixels p_wide p_high u6) rfl rfl rfl rfl rfl rfl (fun ht H locs q9 ce hP hD hS hq hv hcl => ?_) (fun ht H locs hP hD hS => ?_)
    · replace hf := zif_f hf ht
      cases hf
      exact hX _ _ _ _ _ _ _ ht hP hD hS hq hv hcl
    · replace hf := zif_t hf ht
      clear hle
      refine lv_goto (tgt := 93) hx hb dX0_readPacked_66 (by decide) ?_
      exact wX0_readPacked_93 C hN hK hA hT hst hE hX hr_22 hf hP hD hS (lv_sub hl [0, 1, 2, 3, 4, 5] rfl)
set_option maxHeartbeats 4000000 in
set_option maxRecDepth 100000 in
theorem wX0_readPacked_22 {p : Program} {l : Launch} {e : Env} {s : State} {m : MethodId} {args : Array Value} {below : List Frame} {meth : Method} {c : Code} {D : va_G} {A : Nat → Prop} {Q : State → Prop} {cI : ClassId} {h_t h_t_colours h_s h_s_file h_s_file_bytes h_p h_p_pixels : Nat} {t_known : Int32} {t_depth : Int32} {t_packing : Int32} {t_isUpward : Int32} {t_colours : Nat → Int32} {s_file_size : Int32} {s_file_bytes : Nat → Int32} {p_wide : Int32} {p_high : Int32} {tg0 : Nat} {zt_column : Int32} {zt_up : Int32} {zs_place : Int32} {zp_pixels : Nat → Int32} (C : CallFix p m c cX0_readPacked 7 s args wsX0_readPacked RX0) (hN : zN s) (hK : va_K D vwCl [(cI, .int)] s) (hA : ∀ q, s.heap.size ≤ q → A q) (hT : zTh A s) (hst : l.stackTraces = false) (hE : zTEv tg0 p l e (rmX0_readPacked tg0) s m args below meth c cX0_readPacked D A Q (zwX0 cI h_t h_t_colours t_known t_depth t_packing t_isUpward zt_column zt_up t_colours ++ zwX7 cI h_s h_s_file h_s_file_bytes zs_place s_file_size s_file_bytes ++ zwX5 cI h_p h_p_pixels p_wide p_high zp_pixels)) (hX : zTX tg0 p l e (rmX0_readPacked tg0) s m args below meth c D A Q (zwX0 cI h_t h_t_colours t_known t_depth t_packing t_isUpward zt_column zt_up t_colours ++ zwX7 cI h_s h_s_file h_s_file_bytes zs_place s_file_size s_file_bytes ++ zwX5 cI h_p h_p_pixels p_wide p_high zp_pixels)) (n : Nat) : ∀ {t_column : Int32} {t_up : Int32} {s_place : Int32} {p_pixels : Nat → Int32} {l3 : Int32} {H : Heap} {locs : List Loc} {ls : Array Slot}, fX0_readPacked_22 n t_known t_column t_up t_colours s_place s_file_size s_file_bytes p_wide p_high p_pixels l3 = some (tg0, zt_column, zt_up, zs_place, zp_pixels) → va_P D vwCl (zwX0 cI h_t h_t_colours t_known t_depth t_packing t_isUpward t_column t_up t_colours ++ zwX7 cI h_s h_s_file h_s_file_bytes s_place s_file_size s_file_bytes ++ zwX5 cI h_p h_p_pixels p_wide p_high p_pixels) H → va_D A (zwX0 cI h_t h_t_colours t_known t_depth t_packing t_isUpward t_column t_up t_colours ++ zwX7 cI h_s h_s_file h_s_file_bytes s_place s_file_size s_file_bytes ++ zwX5 cI h_p h_p_pixels p_wide p_high p_pixels) → va_S A s.heap H locs → lv_has ls 7 [(0, .ref h_t), (1, .ref h_s), (2, .ref h_p), (3, .int l3)] → W p l e (rmX0_readPacked tg0) s m args below meth c H locs 0 0 Q (F0 m 22 ls []) := by
  obtain ⟨hx, hb, hml, hown, hts⟩ := id C
  induction n with
  | zero =>
    intro t_column t_up s_place p_pixels l3 H locs ls hf
    cases hf
  | succ n hr_22 =>
    intro t_column t_up s_place p_pixels l3 H locs ls hf hP hD hS hl
    rw [fX0_readPacked_22_s] at hf
    refine lv_iload_n hx hb dX0_readPacked_22 rfl (lv_at hl 3 rfl) ?_
    refine lv_sipush (v := 800) hx hb dX0_readPacked_23 (by decide) ?_
    refine lv_icmp_ge (tgt := 99) hx hb dX0_readPacked_26 (by decide) (fun c1 => ?_) (fun c1 => ?_)
    · replace hf := zif_t hf c1
      cases hf
      exact hE rfl _ _ _ _ dX0_readPacked_99 hP hD hS
    · replace hf := zif_f hf c1
      refine lv_aload_n hx hb dX0_readPacked_29 rfl (lv_at hl 1 rfl) ?_
      obtain ⟨tg2, r3, u4, hc5, hf⟩ := zb3_in hf
      have hle := zT_le hf
      refine zcx_i (vx_runV (As := []) (rest := []) C (mX7_next l hst D cI H.size h_s h_s_file h_s_file_bytes s_place s_file_size s_file_bytes tg2 r3 u4 hc5) (qX0_readPacked_X7_next_136 hts) ⟨zPT_blind, va_recv hK hP (ci := 6) (q0 := 2) rfl rfl, zpreT hK hN hT hA hS hP hD [2, 3, 4] rfl rfl⟩ rfl rfl hl.1 rfl (lv_room (Nat.le_of_ble_eq_true rfl)) dX0_readPacked_30 hle) hP hD hS hA [2, 3, 4] [0, 1, 5, 6] [0, 1, 4, 5, 6, 2, 3] (ws' := zwX0 cI h_t h_t_colours t_known t_depth t_packing t_isUpward t_column t_up t_colours ++ zwX7 cI h_s h_s_file h_s_file_bytes u4 s_file_size s_file_bytes ++ zwX5 cI h_p h_p_pixels p_wide p_high p_pixels) rfl rfl rfl rfl rfl rfl (fun ht H locs q9 ce hP hD hS hq hv hcl => ?_) (fun ht H locs hP hD hS => ?_)
      · replace hf := zif_f hf ht
        cases hf
        exact hX _ _ _ _ _ _ _ ht hP hD hS hq hv hcl
      · replace hf := zif_t hf ht
        clear hle
        refine lv_istore (lv' := [(4, .int r3), (0, .ref h_t), (1, .ref h_s), (2, .ref h_p), (3, .int l3)]) hx hb dX0_readPacked_33 hl (by decide) rfl (fun ls hl => ?_)
        refine lv_aload_n hx hb dX0_readPacked_35 rfl (lv_at hl 2 rfl) ?_
        obtain ⟨tg6, r7, u8, hc9, hf⟩ := zb3_in hf
        have hle := zT_le hf
        refine zcx_i (vx_runV (As := []) (rest := []) C (mX7_next l hst D cI H.size h_s h_s_file h_s_file_bytes u4 s_file_size s_file_bytes tg6 r7 u8 hc9) (qX0_readPacked_X7_next_136 hts) ⟨zPT_blind, va_recv hK hP (ci := 6) (q0 := 2) rfl rfl, zpreT hK hN hT hA hS hP hD [2, 3, 4] rfl rfl⟩ rfl rfl hl.1 rfl (lv_room (Nat.le_of_ble_eq_true rfl)) dX0_readPacked_36 hle) hP hD hS hA [2, 3, 4] [0, 1, 5, 6] [0, 1, 4, 5, 6, 2, 3] (ws' := zwX0 cI h_t h_t_colours t_known t_depth t_packing t_isUpward t_column t_up t_colours ++ zwX7 cI h_s h_s_file h_s_file_bytes u8 s_file_size s_file_bytes ++ zwX5 cI h_p h_p_pixels p_wide p_high p_pixels) rfl rfl rfl rfl rfl rfl (fun ht H locs q9 ce hP hD hS hq hv hcl => ?_) (fun ht H locs hP hD hS => ?_)
        · replace hf := zif_f hf ht
          cases hf
          exact hX _ _ _ _ _ _ _ ht hP hD hS hq hv hcl
        · replace hf := zif_t hf ht
          clear hle
          refine lv_istore (lv' := [(5, .int r7), (4, .int r3), (0, .ref h_t), (1, .ref h_s), (2, .ref h_p), (3, .int l3)]) hx hb dX0_readPacked_39 hl (by decide) rfl (fun ls hl => ?_)
          refine lv_iload hx hb dX0_readPacked_41 (lv_at hl 1 rfl) ?_
          refine lv_if_ne (tgt := 53) hx hb dX0_readPacked_43 (by decide) (fun c10 => ?_) (fun c10 => ?_)
          · replace hf := zif_f hf c10
            exact wX0_readPacked_53 C hN hK hA hT hst hE hX hr_22 hf hP hD hS (lv_sub hl [2, 3, 4, 5, 1, 0] rfl)
          · replace hf := zif_t hf c10
            refine lv_iload hx hb dX0_readPacked_46 (lv_at hl 0 rfl) ?_
            refine lv_iconst (v := 1) hx hb dX0_readPacked_48 (by decide) ?_
            refine lv_icmp_ne (tgt := 53) hx hb dX0_readPacked_49 (by decide) (fun c11 => ?_) (fun c11 => ?_)
            · replace hf := zif_f hf c11
              exact wX0_readPacked_53 C hN hK hA hT hst hE hX hr_22 hf hP hD hS (lv_sub hl [2, 3, 4, 5, 1, 0] rfl)
            · replace hf := zif_t hf c11
              cases hf
              exact hE rfl _ _ _ _ dX0_readPacked_52 hP hD hS
set_option maxHeartbeats 4000000 in
set_option maxRecDepth 100000 in
theorem wX0_readPacked_0 {p : Program} {l : Launch} {e : Env} {s : State} {m : MethodId} {args : Array Value} {below : List Frame} {meth : Method} {c : Code} {D : va_G} {A : Nat → Prop} {Q : State → Prop} {cI : ClassId} {h_t h_t_colours h_s h_s_file h_s_file_bytes h_p h_p_pixels : Nat} {t_known : Int32} {t_depth : Int32} {t_packing : Int32} {t_isUpward : Int32} {t_colours : Nat → Int32} {s_file_size : Int32} {s_file_bytes : Nat → Int32} {p_wide : Int32} {p_high : Int32} {tg0 : Nat} {zt_column : Int32} {zt_up : Int32} {zs_place : Int32} {zp_pixels : Nat → Int32} (C : CallFix p m c cX0_readPacked 7 s args wsX0_readPacked RX0) (hN : zN s) (hK : va_K D vwCl [(cI, .int)] s) (hA : ∀ q, s.heap.size ≤ q → A q) (hT : zTh A s) (hst : l.stackTraces = false) (hE : zTEv tg0 p l e (rmX0_readPacked tg0) s m args below meth c cX0_readPacked D A Q (zwX0 cI h_t h_t_colours t_known t_depth t_packing t_isUpward zt_column zt_up t_colours ++ zwX7 cI h_s h_s_file h_s_file_bytes zs_place s_file_size s_file_bytes ++ zwX5 cI h_p h_p_pixels p_wide p_high zp_pixels)) (hX : zTX tg0 p l e (rmX0_readPacked tg0) s m args below meth c D A Q (zwX0 cI h_t h_t_colours t_known t_depth t_packing t_isUpward zt_column zt_up t_colours ++ zwX7 cI h_s h_s_file h_s_file_bytes zs_place s_file_size s_file_bytes ++ zwX5 cI h_p h_p_pixels p_wide p_high zp_pixels)) {t_column : Int32} {t_up : Int32} {s_place : Int32} {p_pixels : Nat → Int32} {H : Heap} {locs : List Loc} {ls : Array Slot} : fX0_readPacked t_known t_colours s_place s_file_size s_file_bytes p_wide p_high p_pixels = some (tg0, zt_column, zt_up, zs_place, zp_pixels) → va_P D vwCl (zwX0 cI h_t h_t_colours t_known t_depth t_packing t_isUpward t_column t_up t_colours ++ zwX7 cI h_s h_s_file h_s_file_bytes s_place s_file_size s_file_bytes ++ zwX5 cI h_p h_p_pixels p_wide p_high p_pixels) H → va_D A (zwX0 cI h_t h_t_colours t_known t_depth t_packing t_isUpward t_column t_up t_colours ++ zwX7 cI h_s h_s_file h_s_file_bytes s_place s_file_size s_file_bytes ++ zwX5 cI h_p h_p_pixels p_wide p_high p_pixels) → va_S A s.heap H locs → lv_has ls 7 [(0, .ref h_t), (1, .ref h_s), (2, .ref h_p)] → W p l e (rmX0_readPacked tg0) s m args below meth c H locs 0 0 Q (F0 m 0 ls []) := by
  intro hf hP hD hS hl
  obtain ⟨hx, hb, hml, hown, hts⟩ := id C
  unfold fX0_readPacked at hf
  refine lv_aload_n hx hb dX0_readPacked_0 rfl (lv_at hl 2 rfl) ?_
  refine lv_aload_n hx hb dX0_readPacked_1 rfl (lv_at hl 0 rfl) ?_
  refine va_get (D := D) (ci := 0) (v := .ref h_t_colours) (C := RX0) (T := TX0) (N := 7) hx hb hts iX0_readPacked_X0 hown hK hP 0 rfl rfl 0 (by decide) (kX0_readPacked_11 hts) (fun _ h9 => h9) rfl dX0_readPacked_2 ?_
  refine lv_iconst (v := 0) hx hb dX0_readPacked_5 (by decide) ?_
  obtain ⟨hg2, hf⟩ := zrd_in hf
  refine va_iald hx hb hK hP 1 0 rfl rfl hg2 dX0_readPacked_6 ?_
  refine lv_topi (fun x1 ex1 => ?_)
  replace hf := hf x1 ex1
  clear ex1
  obtain ⟨u3, hc4, hf⟩ := zb1_in hf
  refine zc_v (va_runV (As := [.int x1]) (rest := []) C (mX5_fill l D cI H.size h_p h_p_pixels p_wide p_high p_pixels x1 u3 hc4) (qX0_readPacked_X5_fill_147 hts) ⟨zP_blind, va_recv hK hP (ci := 4) (q0 := 5) rfl rfl, zpre hK hN hP hD [5, 6] rfl rfl⟩ rfl rfl hl.1 rfl (lv_room (Nat.le_of_ble_eq_true rfl)) dX0_readPacked_7 ⟨Nat.zero_le _, Nat.zero_le _⟩) hP hD hS hA [5, 6] [0, 1, 2, 3, 4] [0, 1, 2, 3, 4, 5, 6] (ws' := zwX0 cI h_t h_t_colours t_known t_depth t_packing t_isUpward t_column t_up t_colours ++ zwX7 cI h_s h_s_file h_s_file_bytes s_place s_file_size s_file_bytes ++ zwX5 cI h_p h_p_pixels p_wide p_high u3) rfl rfl rfl rfl rfl rfl (fun H locs hP hD hS => ?_)
  refine lv_aload_n hx hb dX0_readPacked_10 rfl (lv_at hl 0 rfl) ?_
  refine lv_iconst (v := 0) hx hb dX0_readPacked_11 (by decide) ?_
  refine va_put (D := D) (ci := 0) (v := .int 0) (ty := .int) (C := RX0) (T := TX0) (N := 7) hx hb hts iX0_readPacked_X0 tyX0 tyX0_ok nmX0 hown hK hP hD hS 0 rfl rfl 5 (by decide) (kX0_readPacked_150 hts) (fun _ h9 => h9) rfl (by decide +kernel) rfl rfl (Nat.le_of_ble_eq_true rfl) dX0_readPacked_12 (fun H locs hP hD hS => ?_)
  replace hP : va_P D vwCl (zwX0 cI h_t h_t_colours t_known t_depth t_packing t_isUpward 0 t_up t_colours ++ zwX7 cI h_s h_s_file h_s_file_bytes s_place s_file_size s_file_bytes ++ zwX5 cI h_p h_p_pixels p_wide p_high u3) H := hP
  replace hD : va_D A (zwX0 cI h_t h_t_colours t_known t_depth t_packing t_isUpward 0 t_up t_colours ++ zwX7 cI h_s h_s_file h_s_file_bytes s_place s_file_size s_file_bytes ++ zwX5 cI h_p h_p_pixels p_wide p_high u3) := hD
  refine lv_aload_n hx hb dX0_readPacked_15 rfl (lv_at hl 0 rfl) ?_
  refine lv_iconst (v := 0) hx hb dX0_readPacked_16 (by decide) ?_
  refine va_put (D := D) (ci := 0) (v := .int 0) (ty := .int) (C := RX0) (T := TX0) (N := 7) hx hb hts iX0_readPacked_X0 tyX0 tyX0_ok nmX0 hown hK hP hD hS 0 rfl rfl 6 (by decide) (kX0_readPacked_153 hts) (fun _ h9 => h9) rfl (by decide +kernel) rfl rfl (Nat.le_of_ble_eq_true rfl) dX0_readPacked_17 (fun H locs hP hD hS => ?_)
  replace hP : va_P D vwCl (zwX0 cI h_t h_t_colours t_known t_depth t_packing t_isUpward 0 0 t_colours ++ zwX7 cI h_s h_s_file h_s_file_bytes s_place s_file_size s_file_bytes ++ zwX5 cI h_p h_p_pixels p_wide p_high u3) H := hP
  replace hD : va_D A (zwX0 cI h_t h_t_colours t_known t_depth t_packing t_isUpward 0 0 t_colours ++ zwX7 cI h_s h_s_file h_s_file_bytes s_place s_file_size s_file_bytes ++ zwX5 cI h_p h_p_pixels p_wide p_high u3) := hD
  refine lv_iconst (v := 0) hx hb dX0_readPacked_20 (by decide) ?_
  refine lv_istore_n (lv' := [(3, .int 0), (0, .ref h_t), (1, .ref h_s), (2, .ref h_p)]) hx hb dX0_readPacked_21 rfl hl (by decide) rfl (fun ls hl => ?_)
  exact wX0_readPacked_22 C hN hK hA hT hst hE hX 1000 hf hP hD hS (lv_sub hl [1, 2, 3, 0] rfl)
set_option maxHeartbeats 4000000 in
set_option maxRecDepth 100000 in
theorem mX0_readPacked (l : Launch) (hst : l.stackTraces = false) (D : va_G) (cI : ClassId) (sz : Nat) (h_t h_t_colours h_s h_s_file h_s_file_bytes h_p h_p_pixels : Nat) (t_known : Int32) (t_depth : Int32) (t_packing : Int32) (t_isUpward : Int32) (t_column : Int32) (t_up : Int32) (t_colours : Nat → Int32) (s_place : Int32) (s_file_size : Int32) (s_file_bytes : Nat → Int32) (p_wide : Int32) (p_high : Int32) (p_pixels : Nat → Int32) (tg0 : Nat) (zt_column : Int32) (zt_up : Int32) (zs_place : Int32) (zp_pixels : Nat → Int32) (hf : fX0_readPacked t_known t_colours s_place s_file_size s_file_bytes p_wide p_high p_pixels = some (tg0, zt_column, zt_up, zs_place, zp_pixels)) : vx_Met l yX0_readPacked wsX0_readPacked (rmX0_readPacked tg0) (va_Pc [.ref h_t, .ref h_s, .ref h_p] (zPT D [(cI, .int)] (zwX0 cI h_t h_t_colours t_known t_depth t_packing t_isUpward t_column t_up t_colours ++ zwX7 cI h_s h_s_file h_s_file_bytes s_place s_file_size s_file_bytes ++ zwX5 cI h_p h_p_pixels p_wide p_high p_pixels) sz)) (zQTv D (zwX0 cI h_t h_t_colours t_known t_depth t_packing t_isUpward t_column t_up t_colours ++ zwX7 cI h_s h_s_file h_s_file_bytes s_place s_file_size s_file_bytes ++ zwX5 cI h_p h_p_pixels p_wide p_high p_pixels) sz tg0 (zwX0 cI h_t h_t_colours t_known t_depth t_packing t_isUpward zt_column zt_up t_colours ++ zwX7 cI h_s h_s_file h_s_file_bytes zs_place s_file_size s_file_bytes ++ zwX5 cI h_p h_p_pixels p_wide p_high zp_pixels)) (zXT D (zwX0 cI h_t h_t_colours t_known t_depth t_packing t_isUpward t_column t_up t_colours ++ zwX7 cI h_s h_s_file h_s_file_bytes s_place s_file_size s_file_bytes ++ zwX5 cI h_p h_p_pixels p_wide p_high p_pixels) sz tg0 (zwX0 cI h_t h_t_colours t_known t_depth t_packing t_isUpward zt_column zt_up t_colours ++ zwX7 cI h_s h_s_file h_s_file_bytes zs_place s_file_size s_file_bytes ++ zwX5 cI h_p h_p_pixels p_wide p_high zp_pixels)) (zc tg0) (zs tg0) (va_A (zwX0 cI h_t h_t_colours t_known t_depth t_packing t_isUpward t_column t_up t_colours ++ zwX7 cI h_s h_s_file h_s_file_bytes s_place s_file_size s_file_bytes ++ zwX5 cI h_p h_p_pixels p_wide p_high p_pixels) sz) := by
  refine vx_ofW (cc := cX0_readPacked) (maxL := 7) (ret := none) (by decide) rfl ?_
  intro p e s m args below meth c s₁ B hml htab hv
  obtain ⟨rfl, ⟨hsz, hP, hK, hD0, hN⟩, hT⟩ := hv
  subst hsz
  have C : CallFix p m c cX0_readPacked 7 s [.ref h_t, .ref h_s, .ref h_p].toArray wsX0_readPacked RX0 := ⟨B.exec, B.bytes, hml, findClass_of_methodNamed B.named, atoms_spec (ws := wsX0_readPacked) B.pre⟩
  have hl := lv_entry ([.ref h_t, .ref h_s, .ref h_p]) (n := 7) (Nat.le_of_ble_eq_true rfl)
  rw [lg_entry_eq]
  exact wX0_readPacked_0 (A := va_A (zwX0 cI h_t h_t_colours t_known t_depth t_packing t_isUpward t_column t_up t_colours ++ zwX7 cI h_s h_s_file h_s_file_bytes s_place s_file_size s_file_bytes ++ zwX5 cI h_p h_p_pixels p_wide p_high p_pixels) s.heap.size) C hN hK (fun q h => Or.inr h) hT hst (fun h0 H locs pc ls d hP hD hS => zendT_v C.1 C.2.1 B.returns B.notSynchronized h0 d hP hD hS) (fun H locs pc ls rest q9 ce h0 hP hD hS hq hv hcl => zoutT htab B.notSynchronized h0 hP hD hS hq hv hcl) hf hP hD0.self va_S.rf hl
def rmX0_read (tg : Nat) : Room := { frames := 11, cells := zc tg, slots := zs tg, locals := 200 }
theorem kX0_read_11 {args : Array Value} {s : State} (h : ∀ w ∈ wsX0_read, w.before args s = true) : (Cond.fieldLink RX0 11 "FourPictureFiles$BitmapFormat" "colours" "[I").before args s = true := h _ (by decide +kernel)
theorem kX0_read_27 {args : Array Value} {s : State} (h : ∀ w ∈ wsX0_read, w.before args s = true) : (Cond.fieldLink RX0 27 "FourPictureFiles$BitmapFormat" "known" "I").before args s = true := h _ (by decide +kernel)
theorem kX0_read_114 {args : Array Value} {s : State} (h : ∀ w ∈ wsX0_read, w.before args s = true) : (Cond.fieldLink RX0 114 "FourPictureFiles$BitmapFormat" "packing" "I").before args s = true := h _ (by decide +kernel)
theorem iX0_read_X0 : ∀ w ∈ u_ws RX0 TX0 7, w ∈ wsX0_read := by decide +kernel
theorem iX0_read_X7 : ∀ w ∈ u_ws RX7 TX7 2, w ∈ wsX0_read := by decide +kernel
theorem qX0_read_X0_readHeader_100 {args : Array Value} {s : State} {tg0 : Nat} {tg : Nat} (hts : ∀ w ∈ wsX0_read, w.before args s = true) : CallW (rmX0_read tg0) s args RX0 RX0 100 yX0_readHeader cX0_readHeader 6 none wsX0_readHeader (rmX0_readHeader tg) (zc tg) (zs tg) 2 := cwV 2 hts gX0_read_X0_readHeader rfl rfl rfl (by decide +kernel) ⟨Nat.le_of_ble_eq_true rfl, Nat.le_of_ble_eq_true rfl⟩
theorem qX0_read_X0_readPacked_117 {args : Array Value} {s : State} {tg0 : Nat} {tg : Nat} (hts : ∀ w ∈ wsX0_read, w.before args s = true) : CallW (rmX0_read tg0) s args RX0 RX0 117 yX0_readPacked cX0_readPacked 7 none wsX0_readPacked (rmX0_readPacked tg) (zc tg) (zs tg) 2 := cwV 2 hts gX0_read_X0_readPacked rfl rfl rfl (by decide +kernel) ⟨Nat.le_of_ble_eq_true rfl, Nat.le_of_ble_eq_true rfl⟩
theorem qX0_read_X0_readRows_120 {args : Array Value} {s : State} {tg0 : Nat} {tg : Nat} (hts : ∀ w ∈ wsX0_read, w.before args s = true) : CallW (rmX0_read tg0) s args RX0 RX0 120 yX0_readRows cX0_readRows 7 none wsX0_readRows (rmX0_readRows tg) (zc tg) (zs tg) 2 := cwV 2 hts gX0_read_X0_readRows rfl rfl rfl (by decide +kernel) ⟨Nat.le_of_ble_eq_true rfl, Nat.le_of_ble_eq_true rfl⟩
theorem qX0_read_X7_blueGreenRed_104 {args : Array Value} {s : State} {tg0 : Nat} {tg : Nat} (hts : ∀ w ∈ wsX0_read, w.before args s = true) : CallW (rmX0_read tg0) s args RX0 RX7 104 yX7_blueGreenRed cX7_blueGreenRed 3 (some .int) wsX7_blueGreenRed (rmX7_blueGreenRed tg) (zc tg) (zs tg) 0 := cwV 0 hts gX0_read_X7_blueGreenRed rfl rfl rfl (by decide +kernel) ⟨Nat.le_of_ble_eq_true rfl, Nat.le_of_ble_eq_true rfl⟩
theorem qX0_read_X7_little_97 {args : Array Value} {s : State} {tg0 : Nat} {tg : Nat} (hts : ∀ w ∈ wsX0_read, w.before args s = true) : CallW (rmX0_read tg0) s args RX0 RX7 97 yX7_little cX7_little 4 (some .int) wsX7_little (rmX7_little tg) (zc tg) (zs tg) 1 := cwV 1 hts gX0_read_X7_little rfl rfl rfl (by decide +kernel) ⟨Nat.le_of_ble_eq_true rfl, Nat.le_of_ble_eq_true rfl⟩
theorem qX0_read_X7_need_110 {args : Array Value} {s : State} {tg0 : Nat} {tg : Nat} (hts : ∀ w ∈ wsX0_read, w.before args s = true) : CallW (rmX0_read tg0) s args RX0 RX7 110 yX7_need cX7_need 2 none wsX7_need (rmX7_need tg) (zc tg) (zs tg) 1 := cwV 1 hts gX0_read_X7_need rfl rfl rfl (by decide +kernel) ⟨Nat.le_of_ble_eq_true rfl, Nat.le_of_ble_eq_true rfl⟩
theorem qX0_read_X7_pass_92 {args : Array Value} {s : State} {tg0 : Nat} {tg : Nat} (hts : ∀ w ∈ wsX0_read, w.before args s = true) : CallW (rmX0_read tg0) s args RX0 RX7 92 yX7_pass cX7_pass 3 none wsX7_pass (rmX7_pass tg) (zc tg) (zs tg) 1 := cwV 1 hts gX0_read_X7_pass rfl rfl rfl (by decide +kernel) ⟨Nat.le_of_ble_eq_true rfl, Nat.le_of_ble_eq_true rfl⟩
set_option maxHeartbeats 4000000 in
set_option maxRecDepth 100000 in
theorem wX0_read_73 {p : Program} {l : Launch} {e : Env} {s : State} {m : MethodId} {args : Array Value} {below : List Frame} {meth : Method} {c : Code} {D : va_G} {A : Nat → Prop} {Q : State → Prop} {cI : ClassId} {h_t h_t_colours h_s h_s_file h_s_file_bytes h_p h_p_pixels : Nat} {s_file_size : Int32} {s_file_bytes : Nat → Int32} {tg0 : Nat} {zt_known : Int32} {zt_depth : Int32} {zt_packing : Int32} {zt_isUpward : Int32} {zt_column : Int32} {zt_up : Int32} {zt_colours : Nat → Int32} {zs_place : Int32} {zp_wide : Int32} {zp_high : Int32} {zp_pixels : Nat → Int32} (C : CallFix p m c cX0_read 5 s args wsX0_read RX0) (hN : zN s) (hK : va_K D vwCl [(cI, .int)] s) (hA : ∀ q, s.heap.size ≤ q → A q) (hT : zTh A s) (hst : l.stackTraces = false) (hE : zTEv tg0 p l e (rmX0_read tg0) s m args below meth c cX0_read D A Q (zwX0 cI h_t h_t_colours zt_known zt_depth zt_packing zt_isUpward zt_column zt_up zt_colours ++ zwX7 cI h_s h_s_file h_s_file_bytes zs_place s_file_size s_file_bytes ++ zwX5 cI h_p h_p_pixels zp_wide zp_high zp_pixels)) (hX : zTX tg0 p l e (rmX0_read tg0) s m args below meth c D A Q (zwX0 cI h_t h_t_colours zt_known zt_depth zt_packing zt_isUpward zt_column zt_up zt_colours ++ zwX7 cI h_s h_s_file h_s_file_bytes zs_place s_file_size s_file_bytes ++ zwX5 cI h_p h_p_pixels zp_wide zp_high zp_pixels)) {t_known : Int32} {t_depth : Int32} {t_packing : Int32} {t_isUpward : Int32} {t_column : Int32} {t_up : Int32} {t_colours : Nat → Int32} {s_place : Int32} {p_wide : Int32} {p_high : Int32} {p_pixels : Nat → Int32} {l3 : Int32} {l4 : Int32} {k1 : Int32} {H : Heap} {locs : List Loc} {ls : Array Slot} : fX0_read_73 t_known t_depth t_packing t_isUpward t_column t_up t_colours s_place s_file_size s_file_bytes p_wide p_high p_pixels l3 k1 = some (tg0, zt_known, zt_depth, zt_packing, zt_isUpward, zt_column, zt_up, zt_colours, zs_place, zp_wide, zp_high, zp_pixels) → va_P D vwCl (zwX0 cI h_t h_t_colours t_known t_depth t_packing t_isUpward t_column t_up t_colours ++ zwX7 cI h_s h_s_file h_s_file_bytes s_place s_file_size s_file_bytes ++ zwX5 cI h_p h_p_pixels p_wide p_high p_pixels) H → va_D A (zwX0 cI h_t h_t_colours t_known t_depth t_packing t_isUpward t_column t_up t_colours ++ zwX7 cI h_s h_s_file h_s_file_bytes s_place s_file_size s_file_bytes ++ zwX5 cI h_p h_p_pixels p_wide p_high p_pixels) → va_S A s.heap H locs → lv_has ls 5 [(0, .ref h_t), (1, .ref h_s), (2, .ref h_p), (3, .int l3), (4, .int l4)] → W p l e (rmX0_read tg0) s m args below meth c H locs 0 0 Q (F0 m 73 ls [.int k1, .ref h_s]) := by
  intro hf hP hD hS hl
  obtain ⟨hx, hb, hml, hown, hts⟩ := id C
  unfold fX0_read_73 at hf
  obtain ⟨tg1, hc2, hf⟩ := zb1_in hf
  have hle := zT_le hf
  refine zcx_v (vx_runV (As := [.int k1]) (rest := []) C (mX7_need l hst D cI H.size h_s h_s_file h_s_file_bytes s_place s_file_size s_file_bytes k1 tg1 hc2) (qX0_read_X7_need_110 hts) ⟨zPT_blind, va_recv hK hP (ci := 6) (q0 := 2) rfl rfl, zpreT hK hN hT hA hS hP hD [2, 3, 4] rfl rfl⟩ rfl rfl hl.1 rfl (lv_room (Nat.le_of_ble_eq_true rfl)) dX0_read_73 hle) hP hD hS hA [2, 3, 4] [0, 1, 5, 6] [0, 1, 4, 5, 6, 2, 3] (ws' := zwX0 cI h_t h_t_colours t_known t_depth t_packing t_isUpward t_column t_up t_colours ++ zwX7 cI h_s h_s_file h_s_file_bytes s_place s_file_size s_file_bytes ++ zwX5 cI h_p h_p_pixels p_wide p_high p_pixels) rfl rfl rfl rfl rfl rfl (fun ht H locs q9 ce hP hD hS hq hv hcl => ?_) (fun ht H locs hP hD hS => ?_)
  · replace hf := zif_f hf ht
    cases hf
    exact hX _ _ _ _ _ _ _ ht hP hD hS hq hv hcl
  · replace hf := zif_t hf ht
    clear hle
    refine lv_aload_n hx hb dX0_read_76 rfl (lv_at hl 1 rfl) ?_
    refine lv_iload_n hx hb dX0_read_77 rfl (lv_at hl 3 rfl) ?_
    refine lv_aload_n hx hb dX0_read_78 rfl (lv_at hl 1 rfl) ?_
    refine va_getN (D := D) (ci := 6) (v := .int s_place) (C := RX7) (T := TX7) (N := 2) hx hb hts iX0_read_X7 hown hK hP 2 rfl rfl 1 (by decide) (hN.at 21 rfl) (fun _ h9 => h9) rfl dX0_read_79 ?_
    refine lv_isub hx hb dX0_read_82 ?_
    obtain ⟨tg3, u4, hc5, hf⟩ := zb2_in hf
    have hle := zT_le hf
    refine zcx_v (vx_runV (As := [.int (l3 - s_place)]) (rest := []) C (mX7_pass l hst D cI H.size h_s h_s_file h_s_file_bytes s_place s_file_size s_file_bytes (l3 - s_place) tg3 u4 hc5) (qX0_read_X7_pass_92 hts) ⟨zPT_blind, va_recv hK hP (ci := 6) (q0 := 2) rfl rfl, zpreT hK hN hT hA hS hP hD [2, 3, 4] rfl rfl⟩ rfl rfl hl.1 rfl (lv_room (Nat.le_of_ble_eq_true rfl)) dX0_read_83 hle) hP hD hS hA [2, 3, 4] [0, 1, 5, 6] [0, 1, 4, 5, 6, 2, 3] (ws' := zwX0 cI h_t h_t_colours t_known t_depth t_packing t_isUpward t_column t_up t_colours ++ zwX7 cI h_s h_s_file h_s_file_bytes u4 s_file_size s_file_bytes ++ zwX5 cI h_p h_p_pixels p_wide p_high p_pixels) rfl rfl rfl rfl rfl rfl (fun ht H locs q9 ce hP hD hS hq hv hcl => ?_) (fun ht H locs hP hD hS => ?_)
    · replace hf := zif_f hf ht
      cases hf
      exact hX _ _ _ _ _ _ _ ht hP hD hS hq hv hcl
    · replace hf := zif_t hf ht
      clear hle
      refine lv_aload_n hx hb dX0_read_86 rfl (lv_at hl 0 rfl) ?_
      refine va_get (D := D) (ci := 0) (v := .int t_packing) (C := RX0) (T := TX0) (N := 7) hx hb hts iX0_read_X0 hown hK hP 0 rfl rfl 3 (by decide) (kX0_read_114 hts) (fun _ h9 => h9) rfl dX0_read_87 ?_
      refine lv_iconst (v := 1) hx hb dX0_read_90 (by decide) ?_
      refine lv_icmp_ne (tgt := 103) hx hb dX0_read_91 (by decide) (fun c6 => ?_) (fun c6 => ?_)
      · replace hf := zif_f hf c6
        refine lv_aload_n hx hb dX0_read_103 rfl (lv_at hl 0 rfl) ?_
        refine lv_aload_n hx hb dX0_read_104 rfl (lv_at hl 1 rfl) ?_
        refine lv_aload_n hx hb dX0_read_105 rfl (lv_at hl 2 rfl) ?_
        obtain ⟨tg7, u8, u9, hc10, hf⟩ := zb3_in hf
        have hle := zT_le hf
        refine zcx_v (vx_runV (As := [.ref h_s, .ref h_p]) (rest := []) C (mX0_readRows l hst D cI H.size h_t h_t_colours h_s h_s_file h_s_file_bytes h_p h_p_pixels t_known t_depth t_packing t_isUpward t_column t_up t_colours u4 s_file_size s_file_bytes p_wide p_high p_pixels tg7 u8 u9 hc10) (qX0_read_X0_readRows_120 hts) ⟨zPT_blind, va_recv hK hP (ci := 0) (q0 := 0) rfl rfl, zpreT hK hN hT hA hS hP hD [0, 1, 2, 3, 4, 5, 6] rfl rfl⟩ rfl rfl hl.1 rfl (lv_room (Nat.le_of_ble_eq_true rfl)) dX0_read_106 hle) hP hD hS hA [0, 1, 2, 3, 4, 5, 6] [] [0, 1, 2, 3, 4, 5, 6] (ws' := zwX0 cI h_t h_t_colours t_known t_depth t_packing t_isUpward t_column t_up t_colours ++ zwX7 cI h_s h_s_file h_s_file_bytes u8 s_file_size s_file_bytes ++ zwX5 cI h_p h_p_pixels p_wide p_high u9) rfl rfl rfl rfl rfl rfl (fun ht H locs q9 ce hP hD hS hq hv hcl => ?_) (fun ht H locs hP hD hS => ?_)
        · replace hf := zif_f hf ht
          cases hf
          exact hX _ _ _ _ _ _ _ ht hP hD hS hq hv hcl
        · replace hf := zif_t hf ht
          clear hle
          cases hf
          exact hE rfl _ _ _ _ dX0_read_109 hP hD hS
      · replace hf := zif_t hf c6
        refine lv_aload_n hx hb dX0_read_94 rfl (lv_at hl 0 rfl) ?_
        refine lv_aload_n hx hb dX0_read_95 rfl (lv_at hl 1 rfl) ?_
        refine lv_aload_n hx hb dX0_read_96 rfl (lv_at hl 2 rfl) ?_
        obtain ⟨tg11, u12, u13, u14, u15, hc16, hf⟩ := zb5_in hf
        have hle := zT_le hf
        refine zcx_v (vx_runV (As := [.ref h_s, .ref h_p]) (rest := []) C (mX0_readPacked l hst D cI H.size h_t h_t_colours h_s h_s_file h_s_file_bytes h_p h_p_pixels t_known t_depth t_packing t_isUpward t_column t_up t_colours u4 s_file_size s_file_bytes p_wide p_high p_pixels tg11 u12 u13 u14 u15 hc16) (qX0_read_X0_readPacked_117 hts) ⟨zPT_blind, va_recv hK hP (ci := 0) (q0 := 0) rfl rfl, zpreT hK hN hT hA hS hP hD [0, 1, 2, 3, 4, 5, 6] rfl rfl⟩ rfl rfl hl.1 rfl (lv_room (Nat.le_of_ble_eq_true rfl)) dX0_read_97 hle) hP hD hS hA [0, 1, 2, 3, 4, 5, 6] [] [0, 1, 2, 3, 4, 5, 6] (ws' := zwX0 cI h_t h_t_colours t_known t_depth t_packing t_isUpward u12 u13 t_colours ++ zwX7 cI h_s h_s_file h_s_file_bytes u14 s_file_size s_file_bytes ++ zwX5 cI h_p h_p_pixels p_wide p_high u15) rfl rfl rfl rfl rfl rfl (fun ht H locs q9 ce hP hD hS hq hv hcl => ?_) (fun ht H locs hP hD hS => ?_)
        · replace hf := zif_f hf ht
          cases hf
          exact hX _ _ _ _ _ _ _ ht hP hD hS hq hv hcl
        · replace hf := zif_t hf ht
          clear hle
          refine lv_goto (tgt := 109) hx hb dX0_read_100 (by decide) ?_
          cases hf
          exact hE rfl _ _ _ _ dX0_read_109 hP hD hS
set_option maxHeartbeats 4000000 in
set_option maxRecDepth 100000 in
theorem wX0_read_72 {p : Program} {l : Launch} {e : Env} {s : State} {m : MethodId} {args : Array Value} {below : List Frame} {meth : Method} {c : Code} {D : va_G} {A : Nat → Prop} {Q : State → Prop} {cI : ClassId} {h_t h_t_colours h_s h_s_file h_s_file_bytes h_p h_p_pixels : Nat} {s_file_size : Int32} {s_file_bytes : Nat → Int32} {tg0 : Nat} {zt_known : Int32} {zt_depth : Int32} {zt_packing : Int32} {zt_isUpward : Int32} {zt_column : Int32} {zt_up : Int32} {zt_colours : Nat → Int32} {zs_place : Int32} {zp_wide : Int32} {zp_high : Int32} {zp_pixels : Nat → Int32} (C : CallFix p m c cX0_read 5 s args wsX0_read RX0) (hN : zN s) (hK : va_K D vwCl [(cI, .int)] s) (hA : ∀ q, s.heap.size ≤ q → A q) (hT : zTh A s) (hst : l.stackTraces = false) (hE : zTEv tg0 p l e (rmX0_read tg0) s m args below meth c cX0_read D A Q (zwX0 cI h_t h_t_colours zt_known zt_depth zt_packing zt_isUpward zt_column zt_up zt_colours ++ zwX7 cI h_s h_s_file h_s_file_bytes zs_place s_file_size s_file_bytes ++ zwX5 cI h_p h_p_pixels zp_wide zp_high zp_pixels)) (hX : zTX tg0 p l e (rmX0_read tg0) s m args below meth c D A Q (zwX0 cI h_t h_t_colours zt_known zt_depth zt_packing zt_isUpward zt_column zt_up zt_colours ++ zwX7 cI h_s h_s_file h_s_file_bytes zs_place s_file_size s_file_bytes ++ zwX5 cI h_p h_p_pixels zp_wide zp_high zp_pixels)) {t_known : Int32} {t_depth : Int32} {t_packing : Int32} {t_isUpward : Int32} {t_column : Int32} {t_up : Int32} {t_colours : Nat → Int32} {s_place : Int32} {p_wide : Int32} {p_high : Int32} {p_pixels : Nat → Int32} {l3 : Int32} {l4 : Int32} {H : Heap} {locs : List Loc} {ls : Array Slot} : fX0_read_72 t_known t_depth t_packing t_isUpward t_column t_up t_colours s_place s_file_size s_file_bytes p_wide p_high p_pixels l3 = some (tg0, zt_known, zt_depth, zt_packing, zt_isUpward, zt_column, zt_up, zt_colours, zs_place, zp_wide, zp_high, zp_pixels) → va_P D vwCl (zwX0 cI h_t h_t_colours t_known t_depth t_packing t_isUpward t_column t_up t_colours ++ zwX7 cI h_s h_s_file h_s_file_bytes s_place s_file_size s_file_bytes ++ zwX5 cI h_p h_p_pixels p_wide p_high p_pixels) H → va_D A (zwX0 cI h_t h_t_colours t_known t_depth t_packing t_isUpward t_column t_up t_colours ++ zwX7 cI h_s h_s_file h_s_file_bytes s_place s_file_size s_file_bytes ++ zwX5 cI h_p h_p_pixels p_wide p_high p_pixels) → va_S A s.heap H locs → lv_has ls 5 [(0, .ref h_t), (1, .ref h_s), (2, .ref h_p), (3, .int l3), (4, .int l4)] → W p l e (rmX0_read tg0) s m args below meth c H locs 0 0 Q (F0 m 72 ls [.ref h_s]) := by
  intro hf hP hD hS hl
  obtain ⟨hx, hb, hml, hown, hts⟩ := id C
  unfold fX0_read_72 at hf
  refine lv_iconst (v := 0) hx hb dX0_read_72 (by decide) ?_
  exact wX0_read_73 C hN hK hA hT hst hE hX hf hP hD hS (lv_sub hl [0, 1, 2, 3, 4] rfl)
set_option maxHeartbeats 4000000 in
set_option maxRecDepth 100000 in
theorem wX0_read_21 {p : Program} {l : Launch} {e : Env} {s : State} {m : MethodId} {args : Array Value} {below : List Frame} {meth : Method} {c : Code} {D : va_G} {A : Nat → Prop} {Q : State → Prop} {cI : ClassId} {h_t h_t_colours h_s h_s_file h_s_file_bytes h_p h_p_pixels : Nat} {s_file_size : Int32} {s_file_bytes : Nat → Int32} {tg0 : Nat} {zt_known : Int32} {zt_depth : Int32} {zt_packing : Int32} {zt_isUpward : Int32} {zt_column : Int32} {zt_up : Int32} {zt_colours : Nat → Int32} {zs_place : Int32} {zp_wide : Int32} {zp_high : Int32} {zp_pixels : Nat → Int32} (C : CallFix p m c cX0_read 5 s args wsX0_read RX0) (hN : zN s) (hK : va_K D vwCl [(cI, .int)] s) (hA : ∀ q, s.heap.size ≤ q → A q) (hT : zTh A s) (hst : l.stackTraces = false) (hE : zTEv tg0 p l e (rmX0_read tg0) s m args below meth c cX0_read D A Q (zwX0 cI h_t h_t_colours zt_known zt_depth zt_packing zt_isUpward zt_column zt_up zt_colours ++ zwX7 cI h_s h_s_file h_s_file_bytes zs_place s_file_size s_file_bytes ++ zwX5 cI h_p h_p_pixels zp_wide zp_high zp_pixels)) (hX : zTX tg0 p l e (rmX0_read tg0) s m args below meth c D A Q (zwX0 cI h_t h_t_colours zt_known zt_depth zt_packing zt_isUpward zt_column zt_up zt_colours ++ zwX7 cI h_s h_s_file h_s_file_bytes zs_place s_file_size s_file_bytes ++ zwX5 cI h_p h_p_pixels zp_wide zp_high zp_pixels)) (n : Nat) : ∀ {t_known : Int32} {t_depth : Int32} {t_packing : Int32} {t_isUpward : Int32} {t_column : Int32} {t_up : Int32} {t_colours : Nat → Int32} {s_place : Int32} {p_wide : Int32} {p_high : Int32} {p_pixels : Nat → Int32} {l3 : Int32} {l4 : Int32} {H : Heap} {locs : List Loc} {ls : Array Slot}, fX0_read_21 n t_known t_depth t_packing t_isUpward t_column t_up t_colours s_place s_file_size s_file_bytes p_wide p_high p_pixels l3 l4 = some (tg0, zt_known, zt_depth, zt_packing, zt_isUpward, zt_column, zt_up, zt_colours, zs_place, zp_wide, zp_high, zp_pixels) → va_P D vwCl (zwX0 cI h_t h_t_colours t_known t_depth t_packing t_isUpward t_column t_up t_colours ++ zwX7 cI h_s h_s_file h_s_file_bytes s_place s_file_size s_file_bytes ++ zwX5 cI h_p h_p_pixels p_wide p_high p_pixels) H → va_D A (zwX0 cI h_t h_t_colours t_known t_depth t_packing t_isUpward t_column t_up t_colours ++ zwX7 cI h_s h_s_file h_s_file_bytes s_place s_file_size s_file_bytes ++ zwX5 cI h_p h_p_pixels p_wide p_high p_pixels) → va_S A s.heap H locs → lv_has ls 5 [(0, .ref h_t), (1, .ref h_s), (2, .ref h_p), (3, .int l3), (4, .int l4)] → W p l e (rmX0_read tg0) s m args below meth c H locs 0 0 Q (F0 m 21 ls []) := by
  obtain ⟨hx, hb, hml, hown, hts⟩ := id C
  induction n with
  | zero =>
    intro t_known t_depth t_packing t_isUpward t_column t_up t_colours s_place p_wide p_high p_pixels l3 l4 H locs ls hf
    cases hf
  | succ n hr_21 =>
    intro t_known t_depth t_packing t_isUpward t_column t_up t_colours s_place p_wide p_high p_pixels l3 l4 H locs ls hf hP hD hS hl
    rw [fX0_read_21_s] at hf
    refine lv_iload hx hb dX0_read_21 (lv_at hl 4 rfl) ?_
    refine lv_aload_n hx hb dX0_read_23 rfl (lv_at hl 0 rfl) ?_
    refine va_get (D := D) (ci := 0) (v := .int t_known) (C := RX0) (T := TX0) (N := 7) hx hb hts iX0_read_X0 hown hK hP 0 rfl rfl 1 (by decide) (kX0_read_27 hts) (fun _ h9 => h9) rfl dX0_read_24 ?_
    refine lv_icmp_ge (tgt := 52) hx hb dX0_read_27 (by decide) (fun c1 => ?_) (fun c1 => ?_)
    · replace hf := zif_t hf c1
      refine lv_aload_n hx hb dX0_read_52 rfl (lv_at hl 1 rfl) ?_
      refine lv_iload_n hx hb dX0_read_53 rfl (lv_at hl 3 rfl) ?_
      refine lv_aload_n hx hb dX0_read_54 rfl (lv_at hl 1 rfl) ?_
      refine va_getN (D := D) (ci := 6) (v := .int s_place) (C := RX7) (T := TX7) (N := 2) hx hb hts iX0_read_X7 hown hK hP 2 rfl rfl 1 (by decide) (hN.at 21 rfl) (fun _ h9 => h9) rfl dX0_read_55 ?_
      refine lv_icmp_lt (tgt := 72) hx hb dX0_read_58 (by decide) (fun c2 => ?_) (fun c2 => ?_)
      · replace hf := zif_t hf c2
        exact wX0_read_72 C hN hK hA hT hst hE hX hf hP hD hS (lv_sub hl [0, 1, 2, 3, 4] rfl)
      · replace hf := zif_f hf c2
        refine lv_iload_n hx hb dX0_read_61 rfl (lv_at hl 3 rfl) ?_
        refine lv_sipush (v := 800) hx hb dX0_read_62 (by decide) ?_
        refine lv_icmp_gt (tgt := 72) hx hb dX0_read_65 (by decide) (fun c3 => ?_) (fun c3 => ?_)
        · replace hf := zif_t hf c3
          exact wX0_read_72 C hN hK hA hT hst hE hX hf hP hD hS (lv_sub hl [0, 1, 2, 3, 4] rfl)
        · replace hf := zif_f hf c3
          refine lv_iconst (v := 1) hx hb dX0_read_68 (by decide) ?_
          refine lv_goto (tgt := 73) hx hb dX0_read_69 (by decide) ?_
          exact wX0_read_73 C hN hK hA hT hst hE hX hf hP hD hS (lv_sub hl [0, 1, 2, 3, 4] rfl)
    · replace hf := zif_f hf c1
      refine lv_aload_n hx hb dX0_read_30 rfl (lv_at hl 0 rfl) ?_
      refine va_get (D := D) (ci := 0) (v := .ref h_t_colours) (C := RX0) (T := TX0) (N := 7) hx hb hts iX0_read_X0 hown hK hP 0 rfl rfl 0 (by decide) (kX0_read_11 hts) (fun _ h9 => h9) rfl dX0_read_31 ?_
      refine lv_iload hx hb dX0_read_34 (lv_at hl 4 rfl) ?_
      refine lv_aload_n hx hb dX0_read_36 rfl (lv_at hl 1 rfl) ?_
      obtain ⟨tg4, r5, u6, hc7, hf⟩ := zb3_in hf
      have hle := zT_le hf
      refine zcx_i (vx_runV (As := []) (rest := [.int l4, .ref h_t_colours]) C (mX7_blueGreenRed l hst D cI H.size h_s h_s_file h_s_file_bytes s_place s_file_size s_file_bytes tg4 r5 u6 hc7) (qX0_read_X7_blueGreenRed_104 hts) ⟨zPT_blind, va_recv hK hP (ci := 6) (q0 := 2) rfl rfl, zpreT hK hN hT hA hS hP hD [2, 3, 4] rfl rfl⟩ rfl rfl hl.1 rfl (lv_room (Nat.le_of_ble_eq_true rfl)) dX0_read_37 hle) hP hD hS hA [2, 3, 4] [0, 1, 5, 6] [0, 1, 4, 5, 6, 2, 3] (ws' := zwX0 cI h_t h_t_colours t_known t_depth t_packing t_isUpward t_column t_up t_colours ++ zwX7 cI h_s h_s_file h_s_file_bytes u6 s_file_size s_file_bytes ++ zwX5 cI h_p h_p_pixels p_wide p_high p_pixels) rfl rfl rfl rfl rfl rfl (fun ht H locs q9 ce hP hD hS hq hv hcl => ?_) (fun ht H locs hP hD hS => ?_)
      · replace hf := zif_f hf ht
        cases hf
        exact hX _ _ _ _ _ _ _ ht hP hD hS hq hv hcl
      · replace hf := zif_t hf ht
        clear hle
        obtain ⟨hg9, g8, eg8, hf⟩ := zwr_in hf
        refine va_iast hx hb hK hP hD hS 1 0 rfl rfl hg9 dX0_read_40 (fun H locs hP hD hS => ?_)
        replace hP : va_P D vwCl (zwX0 cI h_t h_t_colours t_known t_depth t_packing t_isUpward t_column t_up g8 ++ zwX7 cI h_s h_s_file h_s_file_bytes u6 s_file_size s_file_bytes ++ zwX5 cI h_p h_p_pixels p_wide p_high p_pixels) H := by rw [← eg8]; exact hP
        replace hD : va_D A (zwX0 cI h_t h_t_colours t_known t_depth t_packing t_isUpward t_column t_up g8 ++ zwX7 cI h_s h_s_file h_s_file_bytes u6 s_file_size s_file_bytes ++ zwX5 cI h_p h_p_pixels p_wide p_high p_pixels) := by rw [← eg8]; exact hD
        clear eg8
        refine lv_aload_n hx hb dX0_read_41 rfl (lv_at hl 1 rfl) ?_
        refine lv_iconst (v := 1) hx hb dX0_read_42 (by decide) ?_
        obtain ⟨tg10, u11, hc12, hf⟩ := zb2_in hf
        have hle := zT_le hf
        refine zcx_v (vx_runV (As := [.int 1]) (rest := []) C (mX7_pass l hst D cI H.size h_s h_s_file h_s_file_bytes u6 s_file_size s_file_bytes 1 tg10 u11 hc12) (qX0_read_X7_pass_92 hts) ⟨zPT_blind, va_recv hK hP (ci := 6) (q0 := 2) rfl rfl, zpreT hK hN hT hA hS hP hD [2, 3, 4] rfl rfl⟩ rfl rfl hl.1 rfl (lv_room (Nat.le_of_ble_eq_true rfl)) dX0_read_43 hle) hP hD hS hA [2, 3, 4] [0, 1, 5, 6] [0, 1, 4, 5, 6, 2, 3] (ws' := zwX0 cI h_t h_t_colours t_known t_depth t_packing t_isUpward t_column t_up g8 ++ zwX7 cI h_s h_s_file h_s_file_bytes u11 s_file_size s_file_bytes ++ zwX5 cI h_p h_p_pixels p_wide p_high p_pixels) rfl rfl rfl rfl rfl rfl (fun ht H locs q9 ce hP hD hS hq hv hcl => ?_) (fun ht H locs hP hD hS => ?_)
        · replace hf := zif_f hf ht
          cases hf
          exact hX _ _ _ _ _ _ _ ht hP hD hS hq hv hcl
        · replace hf := zif_t hf ht
          clear hle
          obtain ⟨x13, ex13⟩ : ∃ y : Int32, y = l4 + 1 := ⟨_, rfl⟩
          replace hf := zlet_in hf ex13
          refine lv_iinc (v := x13) (lv' := [(4, .int x13), (0, .ref h_t), (1, .ref h_s), (2, .ref h_p), (3, .int l3)]) hx hb dX0_read_46 hl (k := 4) rfl (by rw [ex13]; rfl) (by decide) rfl (fun ls hl => ?_)
          clear ex13
          refine lv_goto (tgt := 21) hx hb dX0_read_49 (by decide) ?_
          exact hr_21 hf hP hD hS (lv_sub hl [1, 2, 3, 4, 0] rfl)
set_option maxHeartbeats 4000000 in
set_option maxRecDepth 100000 in
theorem wX0_read_0 {p : Program} {l : Launch} {e : Env} {s : State} {m : MethodId} {args : Array Value} {below : List Frame} {meth : Method} {c : Code} {D : va_G} {A : Nat → Prop} {Q : State → Prop} {cI : ClassId} {h_t h_t_colours h_s h_s_file h_s_file_bytes h_p h_p_pixels : Nat} {s_file_size : Int32} {s_file_bytes : Nat → Int32} {tg0 : Nat} {zt_known : Int32} {zt_depth : Int32} {zt_packing : Int32} {zt_isUpward : Int32} {zt_column : Int32} {zt_up : Int32} {zt_colours : Nat → Int32} {zs_place : Int32} {zp_wide : Int32} {zp_high : Int32} {zp_pixels : Nat → Int32} (C : CallFix p m c cX0_read 5 s args wsX0_read RX0) (hN : zN s) (hK : va_K D vwCl [(cI, .int)] s) (hA : ∀ q, s.heap.size ≤ q → A q) (hT : zTh A s) (hst : l.stackTraces = false) (hE : zTEv tg0 p l e (rmX0_read tg0) s m args below meth c cX0_read D A Q (zwX0 cI h_t h_t_colours zt_known zt_depth zt_packing zt_isUpward zt_column zt_up zt_colours ++ zwX7 cI h_s h_s_file h_s_file_bytes zs_place s_file_size s_file_bytes ++ zwX5 cI h_p h_p_pixels zp_wide zp_high zp_pixels)) (hX : zTX tg0 p l e (rmX0_read tg0) s m args below meth c D A Q (zwX0 cI h_t h_t_colours zt_known zt_depth zt_packing zt_isUpward zt_column zt_up zt_colours ++ zwX7 cI h_s h_s_file h_s_file_bytes zs_place s_file_size s_file_bytes ++ zwX5 cI h_p h_p_pixels zp_wide zp_high zp_pixels)) {t_known : Int32} {t_depth : Int32} {t_packing : Int32} {t_isUpward : Int32} {t_column : Int32} {t_up : Int32} {t_colours : Nat → Int32} {s_place : Int32} {p_wide : Int32} {p_high : Int32} {p_pixels : Nat → Int32} {H : Heap} {locs : List Loc} {ls : Array Slot} : fX0_read t_known t_depth t_packing t_isUpward t_column t_up t_colours s_place s_file_size s_file_bytes p_wide p_high p_pixels = some (tg0, zt_known, zt_depth, zt_packing, zt_isUpward, zt_column, zt_up, zt_colours, zs_place, zp_wide, zp_high, zp_pixels) → va_P D vwCl (zwX0 cI h_t h_t_colours t_known t_depth t_packing t_isUpward t_column t_up t_colours ++ zwX7 cI h_s h_s_file h_s_file_bytes s_place s_file_size s_file_bytes ++ zwX5 cI h_p h_p_pixels p_wide p_high p_pixels) H → va_D A (zwX0 cI h_t h_t_colours t_known t_depth t_packing t_isUpward t_column t_up t_colours ++ zwX7 cI h_s h_s_file h_s_file_bytes s_place s_file_size s_file_bytes ++ zwX5 cI h_p h_p_pixels p_wide p_high p_pixels) → va_S A s.heap H locs → lv_has ls 5 [(0, .ref h_t), (1, .ref h_s), (2, .ref h_p)] → W p l e (rmX0_read tg0) s m args below meth c H locs 0 0 Q (F0 m 0 ls []) := by
  intro hf hP hD hS hl
  obtain ⟨hx, hb, hml, hown, hts⟩ := id C
  unfold fX0_read at hf
  refine lv_aload_n hx hb dX0_read_0 rfl (lv_at hl 1 rfl) ?_
  refine lv_bipush (v := 10) hx hb dX0_read_1 (by decide) ?_
  obtain ⟨tg1, u2, hc3, hf⟩ := zb2_in hf
  have hle := zT_le hf
  refine zcx_v (vx_runV (As := [.int 10]) (rest := []) C (mX7_pass l hst D cI H.size h_s h_s_file h_s_file_bytes s_place s_file_size s_file_bytes 10 tg1 u2 hc3) (qX0_read_X7_pass_92 hts) ⟨zPT_blind, va_recv hK hP (ci := 6) (q0 := 2) rfl rfl, zpreT hK hN hT hA hS hP hD [2, 3, 4] rfl rfl⟩ rfl rfl hl.1 rfl (lv_room (Nat.le_of_ble_eq_true rfl)) dX0_read_3 hle) hP hD hS hA [2, 3, 4] [0, 1, 5, 6] [0, 1, 4, 5, 6, 2, 3] (ws' := zwX0 cI h_t h_t_colours t_known t_depth t_packing t_isUpward t_column t_up t_colours ++ zwX7 cI h_s h_s_file h_s_file_bytes u2 s_file_size s_file_bytes ++ zwX5 cI h_p h_p_pixels p_wide p_high p_pixels) rfl rfl rfl rfl rfl rfl (fun ht H locs q9 ce hP hD hS hq hv hcl => ?_) (fun ht H locs hP hD hS => ?_)
  · replace hf := zif_f hf ht
    cases hf
    exact hX _ _ _ _ _ _ _ ht hP hD hS hq hv hcl
  · replace hf := zif_t hf ht
    clear hle
    refine lv_aload_n hx hb dX0_read_6 rfl (lv_at hl 1 rfl) ?_
    refine lv_iconst (v := 4) hx hb dX0_read_7 (by decide) ?_
    obtain ⟨tg4, r5, u6, hc7, hf⟩ := zb3_in hf
    have hle := zT_le hf
    refine zcx_i (vx_runV (As := [.int 4]) (rest := []) C (mX7_little l hst D cI H.size h_s h_s_file h_s_file_bytes u2 s_file_size s_file_bytes 4 tg4 r5 u6 hc7) (qX0_read_X7_little_97 hts) ⟨zPT_blind, va_recv hK hP (ci := 6) (q0 := 2) rfl rfl, zpreT hK hN hT hA hS hP hD [2, 3, 4] rfl rfl⟩ rfl rfl hl.1 rfl (lv_room (Nat.le_of_ble_eq_true rfl)) dX0_read_8 hle) hP hD hS hA [2, 3, 4] [0, 1, 5, 6] [0, 1, 4, 5, 6, 2, 3] (ws' := zwX0 cI h_t h_t_colours t_known t_depth t_packing t_isUpward t_column t_up t_colours ++ zwX7 cI h_s h_s_file h_s_file_bytes u6 s_file_size s_file_bytes ++ zwX5 cI h_p h_p_pixels p_wide p_high p_pixels) rfl rfl rfl rfl rfl rfl (fun ht H locs q9 ce hP hD hS hq hv hcl => ?_) (fun ht H locs hP hD hS => ?_)
    · replace hf := zif_f hf ht
      cases hf
      exact hX _ _ _ _ _ _ _ ht hP hD hS hq hv hcl
    · replace hf := zif_t hf ht
      clear hle
      refine lv_istore_n (lv' := [(3, .int r5), (0, .ref h_t), (1, .ref h_s), (2, .ref h_p)]) hx hb dX0_read_11 rfl hl (by decide) rfl (fun ls hl => ?_)
      refine lv_aload_n hx hb dX0_read_12 rfl (lv_at hl 1 rfl) ?_
      refine lv_aload_n hx hb dX0_read_13 rfl (lv_at hl 2 rfl) ?_
      refine lv_aload_n hx hb dX0_read_14 rfl (lv_at hl 3 rfl) ?_
      obtain ⟨tg8, u9, u10, u11, u12, u13, u14, u15, u16, hc17, hf⟩ := zb9_in hf
      have hle := zT_le hf
      refine zcx_v (vx_runV (As := [.ref h_s, .ref h_p]) (rest := []) C (mX0_readHeader l hst D cI H.size h_t h_t_colours h_s h_s_file h_s_file_bytes h_p h_p_pixels t_known t_depth t_packing t_isUpward t_column t_up t_colours u6 s_file_size s_file_bytes p_wide p_high p_pixels tg8 u9 u10 u11 u12 u13 u14 u15 u16 hc17) (qX0_read_X0_readHeader_100 hts) ⟨zPT_blind, va_recv hK hP (ci := 0) (q0 := 0) rfl rfl, zpreT hK hN hT hA hS hP hD [0, 1, 2, 3, 4, 5, 6] rfl rfl⟩ rfl rfl hl.1 rfl (lv_room (Nat.le_of_ble_eq_true rfl)) dX0_read_15 hle) hP hD hS hA [0, 1, 2, 3, 4, 5, 6] [] [0, 1, 2, 3, 4, 5, 6] (ws' := zwX0 cI h_t h_t_colours u9 u10 u11 u12 t_column t_up t_colours ++ zwX7 cI h_s h_s_file h_s_file_bytes u13 s_file_size s_file_bytes ++ zwX5 cI h_p h_p_pixels u14 u15 u16) rfl rfl rfl rfl rfl rfl (fun ht H locs q9 ce hP hD hS hq hv hcl => ?_) (fun ht H locs hP hD hS => ?_)
      · replace hf := zif_f hf ht
        cases hf
        exact hX _ _ _ _ _ _ _ ht hP hD hS hq hv hcl
      · replace hf := zif_t hf ht
        clear hle
        refine lv_iconst (v := 0) hx hb dX0_read_18 (by decide) ?_
        refine lv_istore (lv' := [(4, .int 0), (3, .int r5), (0, .ref h_t), (1, .ref h_s), (2, .ref h_p)]) hx hb dX0_read_19 hl (by decide) rfl (fun ls hl => ?_)
        exact wX0_read_21 C hN hK hA hT hst hE hX 1000 hf hP hD hS (lv_sub hl [2, 3, 4, 1, 0] rfl)
set_option maxHeartbeats 4000000 in
set_option maxRecDepth 100000 in
theorem mX0_read (l : Launch) (hst : l.stackTraces = false) (D : va_G) (cI : ClassId) (sz : Nat) (h_t h_t_colours h_s h_s_file h_s_file_bytes h_p h_p_pixels : Nat) (t_known : Int32) (t_depth : Int32) (t_packing : Int32) (t_isUpward : Int32) (t_column : Int32) (t_up : Int32) (t_colours : Nat → Int32) (s_place : Int32) (s_file_size : Int32) (s_file_bytes : Nat → Int32) (p_wide : Int32) (p_high : Int32) (p_pixels : Nat → Int32) (tg0 : Nat) (zt_known : Int32) (zt_depth : Int32) (zt_packing : Int32) (zt_isUpward : Int32) (zt_column : Int32) (zt_up : Int32) (zt_colours : Nat → Int32) (zs_place : Int32) (zp_wide : Int32) (zp_high : Int32) (zp_pixels : Nat → Int32) (hf : fX0_read t_known t_depth t_packing t_isUpward t_column t_up t_colours s_place s_file_size s_file_bytes p_wide p_high p_pixels = some (tg0, zt_known, zt_depth, zt_packing, zt_isUpward, zt_column, zt_up, zt_colours, zs_place, zp_wide, zp_high, zp_pixels)) : vx_Met l yX0_read wsX0_read (rmX0_read tg0) (va_Pc [.ref h_t, .ref h_s, .ref h_p] (zPT D [(cI, .int)] (zwX0 cI h_t h_t_colours t_known t_depth t_packing t_isUpward t_column t_up t_colours ++ zwX7 cI h_s h_s_file h_s_file_bytes s_place s_file_size s_file_bytes ++ zwX5 cI h_p h_p_pixels p_wide p_high p_pixels) sz)) (zQTv D (zwX0 cI h_t h_t_colours t_known t_depth t_packing t_isUpward t_column t_up t_colours ++ zwX7 cI h_s h_s_file h_s_file_bytes s_place s_file_size s_file_bytes ++ zwX5 cI h_p h_p_pixels p_wide p_high p_pixels) sz tg0 (zwX0 cI h_t h_t_colours zt_known zt_depth zt_packing zt_isUpward zt_column zt_up zt_colours ++ zwX7 cI h_s h_s_file h_s_file_bytes zs_place s_file_size s_file_bytes ++ zwX5 cI h_p h_p_pixels zp_wide zp_high zp_pixels)) (zXT D (zwX0 cI h_t h_t_colours t_known t_depth t_packing t_isUpward t_column t_up t_colours ++ zwX7 cI h_s h_s_file h_s_file_bytes s_place s_file_size s_file_bytes ++ zwX5 cI h_p h_p_pixels p_wide p_high p_pixels) sz tg0 (zwX0 cI h_t h_t_colours zt_known zt_depth zt_packing zt_isUpward zt_column zt_up zt_colours ++ zwX7 cI h_s h_s_file h_s_file_bytes zs_place s_file_size s_file_bytes ++ zwX5 cI h_p h_p_pixels zp_wide zp_high zp_pixels)) (zc tg0) (zs tg0) (va_A (zwX0 cI h_t h_t_colours t_known t_depth t_packing t_isUpward t_column t_up t_colours ++ zwX7 cI h_s h_s_file h_s_file_bytes s_place s_file_size s_file_bytes ++ zwX5 cI h_p h_p_pixels p_wide p_high p_pixels) sz) := by
  refine vx_ofW (cc := cX0_read) (maxL := 5) (ret := none) (by decide) rfl ?_
  intro p e s m args below meth c s₁ B hml htab hv
  obtain ⟨rfl, ⟨hsz, hP, hK, hD0, hN⟩, hT⟩ := hv
  subst hsz
  have C : CallFix p m c cX0_read 5 s [.ref h_t, .ref h_s, .ref h_p].toArray wsX0_read RX0 := ⟨B.exec, B.bytes, hml, findClass_of_methodNamed B.named, atoms_spec (ws := wsX0_read) B.pre⟩
  have hl := lv_entry ([.ref h_t, .ref h_s, .ref h_p]) (n := 5) (Nat.le_of_ble_eq_true rfl)
  rw [lg_entry_eq]
  exact wX0_read_0 (A := va_A (zwX0 cI h_t h_t_colours t_known t_depth t_packing t_isUpward t_column t_up t_colours ++ zwX7 cI h_s h_s_file h_s_file_bytes s_place s_file_size s_file_bytes ++ zwX5 cI h_p h_p_pixels p_wide p_high p_pixels) s.heap.size) C hN hK (fun q h => Or.inr h) hT hst (fun h0 H locs pc ls d hP hD hS => zendT_v C.1 C.2.1 B.returns B.notSynchronized h0 d hP hD hS) (fun H locs pc ls rest q9 ce h0 hP hD hS hq hv hcl => zoutT htab B.notSynchronized h0 hP hD hS hq hv hcl) hf hP hD0.self va_S.rf hl
