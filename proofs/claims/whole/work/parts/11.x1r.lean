def fX1_chunkPixel (t_last : Int32) (t_table : Nat → Int32) (s_place : Int32) (s_file_size : Int32) (s_file_bytes : Nat → Int32) (v1 : Int32) : Option (Nat × Int32 × Int32) :=
  if v1 = 255 then
    zb3 (fX7_big s_place s_file_size s_file_bytes 4) fun tg22 r23 u24 =>
    if tg22 = 0 then
      some (0, r23, u24)
    else
      some (tg22, 0, u24)
  else
    if v1 = 254 then
      zb3 (fX7_big s_place s_file_size s_file_bytes 3) fun tg16 r17 u18 =>
      if tg16 = 0 then
        zb1 (fX8_alpha t_last) fun r20 =>
        some (0, (zshl r17 8) ||| r20, u18)
      else
        some (tg16, 0, u18)
    else
      if 64 ≤ v1 then
        if 128 ≤ v1 then
          zb3 (fX7_next s_place s_file_size s_file_bytes) fun tg5 r6 u7 =>
          if tg5 = 0 then
            zlet (v1 - 160) fun x9 =>
            zb1 (fX1_lastPlus t_last ((x9 + (r6 / 16)) - 8) x9 ((x9 + (zrem r6 16)) - 8)) fun r10 =>
            some (0, r10, u7)
          else
            some (tg5, 0, u7)
        else
          zb1 (fX1_lastPlus t_last ((zrem (v1 / 16) 4) - 2) ((zrem (v1 / 4) 4) - 2) ((zrem v1 4) - 2)) fun r12 =>
          some (0, r12, s_place)
      else
        zrd t_table 64 v1 fun x14 =>
        some (0, x14, s_place)
def fX1_readChunk_45 (t_last : Int32) (t_table : Nat → Int32) (s_place : Int32) (s_file_size : Int32) (s_file_bytes : Nat → Int32) (l3 : Int32) : Option (Nat × Int32 × Int32 × (Nat → Int32) × Int32) :=
  zb3 (fX1_chunkPixel t_last t_table s_place s_file_size s_file_bytes l3) fun tg1 r2 u3 =>
  if tg1 = 0 then
    zb1 (fX1_placeOf r2) fun r5 =>
    zwr t_table 64 r5 r2 fun g7 =>
    some (0, 0, r2, g7, u3)
  else
    some (tg1, 0, t_last, t_table, u3)
def fX1_readChunk_34 (t_last : Int32) (t_table : Nat → Int32) (s_place : Int32) (l3 : Int32) (k1 : Int32) : Option (Nat × Int32 × Int32 × (Nat → Int32) × Int32) :=
  zb1 (fX7_need k1) fun tg1 =>
  if tg1 = 0 then
    some (0, (l3 - 191) - 1, t_last, t_table, s_place)
  else
    some (tg1, 0, t_last, t_table, s_place)
def fX1_readChunk (t_last : Int32) (t_table : Nat → Int32) (s_place : Int32) (s_file_size : Int32) (s_file_bytes : Nat → Int32) (v1 : Int32) : Option (Nat × Int32 × Int32 × (Nat → Int32) × Int32) :=
  zb3 (fX7_next s_place s_file_size s_file_bytes) fun tg1 r2 u3 =>
  if tg1 = 0 then
    if r2 ≤ 191 then
      fX1_readChunk_45 t_last t_table u3 s_file_size s_file_bytes r2
    else
      if 253 < r2 then
        fX1_readChunk_45 t_last t_table u3 s_file_size s_file_bytes r2
      else
        if v1 < (r2 - 191) then
          fX1_readChunk_34 t_last t_table u3 r2 0
        else
          fX1_readChunk_34 t_last t_table u3 r2 1
  else
    some (tg1, 0, t_last, t_table, u3)
def fX1_readChunks_43 (rc15 : Int32 → (Nat → Int32) → Int32 → Int32 → (Nat → Int32) → (Nat → Int32) → Int32 → Int32 → Int32 → Option (Nat × Int32 × (Nat → Int32) × Int32 × (Nat → Int32))) (t_last : Int32) (t_table : Nat → Int32) (s_place : Int32) (s_file_size : Int32) (s_file_bytes : Nat → Int32) (p_pixels : Nat → Int32) (l3 : Int32) (l4 : Int32) (l5 : Int32) : Option (Nat × Int32 × (Nat → Int32) × Int32 × (Nat → Int32)) :=
  zwr p_pixels 64 l5 t_last fun g1 =>
  zlet (l5 + 1) fun x3 =>
  rc15 t_last t_table s_place s_file_size s_file_bytes g1 l3 l4 x3
def fX1_readChunks_15 : Nat → Int32 → (Nat → Int32) → Int32 → Int32 → (Nat → Int32) → (Nat → Int32) → Int32 → Int32 → Int32 → Option (Nat × Int32 × (Nat → Int32) × Int32 × (Nat → Int32))
  | 0, _, _, _, _, _, _, _, _, _ => none
  | n + 1, t_last, t_table, s_place, s_file_size, s_file_bytes, p_pixels, l3, l4, l5 =>
    if l4 ≤ l5 then
      some (0, t_last, t_table, s_place, p_pixels)
    else
      if l3 ≤ 0 then
        zb5 (fX1_readChunk t_last t_table s_place s_file_size s_file_bytes (l4 - l5)) fun tg3 r4 u5 u6 u7 =>
        if tg3 = 0 then
          fX1_readChunks_43 (fX1_readChunks_15 n) u5 u6 u7 s_file_size s_file_bytes p_pixels r4 l4 l5
        else
          some (tg3, u5, u6, u7, p_pixels)
      else
        zlet (l3 + (-1)) fun x9 =>
        fX1_readChunks_43 (fX1_readChunks_15 n) t_last t_table s_place s_file_size s_file_bytes p_pixels x9 l4 l5
theorem fX1_readChunks_15_s (n : Nat) (t_last : Int32) (t_table : Nat → Int32) (s_place : Int32) (s_file_size : Int32) (s_file_bytes : Nat → Int32) (p_pixels : Nat → Int32) (l3 : Int32) (l4 : Int32) (l5 : Int32) : fX1_readChunks_15 (n + 1) t_last t_table s_place s_file_size s_file_bytes p_pixels l3 l4 l5 =
    if l4 ≤ l5 then
      some (0, t_last, t_table, s_place, p_pixels)
    else
      if l3 ≤ 0 then
        zb5 (fX1_readChunk t_last t_table s_place s_file_size s_file_bytes (l4 - l5)) fun tg3 r4 u5 u6 u7 =>
        if tg3 = 0 then
          fX1_readChunks_43 (fX1_readChunks_15 n) u5 u6 u7 s_file_size s_file_bytes p_pixels r4 l4 l5
        else
          some (tg3, u5, u6, u7, p_pixels)
      else
        zlet (l3 + (-1)) fun x9 =>
        fX1_readChunks_43 (fX1_readChunks_15 n) t_last t_table s_place s_file_size s_file_bytes p_pixels x9 l4 l5 := rfl
def fX1_readChunks (t_table : Nat → Int32) (s_place : Int32) (s_file_size : Int32) (s_file_bytes : Nat → Int32) (p_wide : Int32) (p_high : Int32) (p_pixels : Nat → Int32) : Option (Nat × Int32 × (Nat → Int32) × Int32 × (Nat → Int32)) :=
  zb2 (fX1_forget t_table) fun u1 u2 =>
  zb1 (fX5_count p_wide p_high) fun r4 =>
  fX1_readChunks_15 1000 u1 u2 s_place s_file_size s_file_bytes p_pixels 0 r4 0
def fX1_read_129 (t_last : Int32) (t_table : Nat → Int32) (s_place : Int32) (s_file_size : Int32) (p_wide : Int32) (p_high : Int32) (p_pixels : Nat → Int32) (k1 : Int32) : Option (Nat × Int32 × (Nat → Int32) × Int32 × Int32 × Int32 × (Nat → Int32)) :=
  zb1 (fX7_need k1) fun tg1 =>
  if tg1 = 0 then
    zb1 (fX7_isAtEnd s_place s_file_size) fun r3 =>
    zb1 (fX7_need r3) fun tg5 =>
    if tg5 = 0 then
      some (0, t_last, t_table, s_place, p_wide, p_high, p_pixels)
    else
      some (tg5, t_last, t_table, s_place, p_wide, p_high, p_pixels)
  else
    some (tg1, t_last, t_table, s_place, p_wide, p_high, p_pixels)
def fX1_read_106 (rc86 : Int32 → (Nat → Int32) → Int32 → Int32 → (Nat → Int32) → Int32 → Int32 → (Nat → Int32) → Int32 → Option (Nat × Int32 × (Nat → Int32) × Int32 × Int32 × Int32 × (Nat → Int32))) (t_last : Int32) (t_table : Nat → Int32) (s_place : Int32) (s_file_size : Int32) (s_file_bytes : Nat → Int32) (p_wide : Int32) (p_high : Int32) (p_pixels : Nat → Int32) (l6 : Int32) (k1 : Int32) : Option (Nat × Int32 × (Nat → Int32) × Int32 × Int32 × Int32 × (Nat → Int32)) :=
  zb1 (fX7_need k1) fun tg1 =>
  if tg1 = 0 then
    zlet (l6 + 1) fun x3 =>
    rc86 t_last t_table s_place s_file_size s_file_bytes p_wide p_high p_pixels x3
  else
    some (tg1, t_last, t_table, s_place, p_wide, p_high, p_pixels)
def fX1_read_86 : Nat → Int32 → (Nat → Int32) → Int32 → Int32 → (Nat → Int32) → Int32 → Int32 → (Nat → Int32) → Int32 → Option (Nat × Int32 × (Nat → Int32) × Int32 × Int32 × Int32 × (Nat → Int32))
  | 0, _, _, _, _, _, _, _, _, _ => none
  | n + 1, t_last, t_table, s_place, s_file_size, s_file_bytes, p_wide, p_high, p_pixels, l6 =>
    if 7 ≤ l6 then
      zb3 (fX7_next s_place s_file_size s_file_bytes) fun tg2 r3 u4 =>
      if tg2 = 0 then
        if r3 = 1 then
          fX1_read_129 t_last t_table u4 s_file_size p_wide p_high p_pixels 1
        else
          fX1_read_129 t_last t_table u4 s_file_size p_wide p_high p_pixels 0
      else
        some (tg2, t_last, t_table, u4, p_wide, p_high, p_pixels)
    else
      zb3 (fX7_next s_place s_file_size s_file_bytes) fun tg7 r8 u9 =>
      if tg7 = 0 then
        if r8 = 0 then
          fX1_read_106 (fX1_read_86 n) t_last t_table u9 s_file_size s_file_bytes p_wide p_high p_pixels l6 1
        else
          fX1_read_106 (fX1_read_86 n) t_last t_table u9 s_file_size s_file_bytes p_wide p_high p_pixels l6 0
      else
        some (tg7, t_last, t_table, u9, p_wide, p_high, p_pixels)
theorem fX1_read_86_s (n : Nat) (t_last : Int32) (t_table : Nat → Int32) (s_place : Int32) (s_file_size : Int32) (s_file_bytes : Nat → Int32) (p_wide : Int32) (p_high : Int32) (p_pixels : Nat → Int32) (l6 : Int32) : fX1_read_86 (n + 1) t_last t_table s_place s_file_size s_file_bytes p_wide p_high p_pixels l6 =
    if 7 ≤ l6 then
      zb3 (fX7_next s_place s_file_size s_file_bytes) fun tg2 r3 u4 =>
      if tg2 = 0 then
        if r3 = 1 then
          fX1_read_129 t_last t_table u4 s_file_size p_wide p_high p_pixels 1
        else
          fX1_read_129 t_last t_table u4 s_file_size p_wide p_high p_pixels 0
      else
        some (tg2, t_last, t_table, u4, p_wide, p_high, p_pixels)
    else
      zb3 (fX7_next s_place s_file_size s_file_bytes) fun tg7 r8 u9 =>
      if tg7 = 0 then
        if r8 = 0 then
          fX1_read_106 (fX1_read_86 n) t_last t_table u9 s_file_size s_file_bytes p_wide p_high p_pixels l6 1
        else
          fX1_read_106 (fX1_read_86 n) t_last t_table u9 s_file_size s_file_bytes p_wide p_high p_pixels l6 0
      else
        some (tg7, t_last, t_table, u9, p_wide, p_high, p_pixels) := rfl
def fX1_read_67 (t_last : Int32) (t_table : Nat → Int32) (s_place : Int32) (s_file_size : Int32) (s_file_bytes : Nat → Int32) (p_wide : Int32) (p_high : Int32) (p_pixels : Nat → Int32) (l3 : Int32) (l4 : Int32) (k1 : Int32) : Option (Nat × Int32 × (Nat → Int32) × Int32 × Int32 × Int32 × (Nat → Int32)) :=
  zb1 (fX7_need k1) fun tg1 =>
  if tg1 = 0 then
    zb3 (fX5_begin p_pixels l3 l4) fun u3 u4 u5 =>
    zb5 (fX1_readChunks t_table s_place s_file_size s_file_bytes u3 u4 u5) fun tg7 u8 u9 u10 u11 =>
    if tg7 = 0 then
      fX1_read_86 1000 u8 u9 u10 s_file_size s_file_bytes u3 u4 u11 0
    else
      some (tg7, u8, u9, u10, u3, u4, u11)
  else
    some (tg1, t_last, t_table, s_place, p_wide, p_high, p_pixels)
def fX1_read_50 (t_last : Int32) (t_table : Nat → Int32) (s_place : Int32) (s_file_size : Int32) (s_file_bytes : Nat → Int32) (p_wide : Int32) (p_high : Int32) (p_pixels : Nat → Int32) (l3 : Int32) (l4 : Int32) (k1 : Int32) : Option (Nat × Int32 × (Nat → Int32) × Int32 × Int32 × Int32 × (Nat → Int32)) :=
  zb1 (fX7_need k1) fun tg1 =>
  if tg1 = 0 then
    zb3 (fX7_next s_place s_file_size s_file_bytes) fun tg3 r4 u5 =>
    if tg3 = 0 then
      if 1 < r4 then
        fX1_read_67 t_last t_table u5 s_file_size s_file_bytes p_wide p_high p_pixels l3 l4 0
      else
        fX1_read_67 t_last t_table u5 s_file_size s_file_bytes p_wide p_high p_pixels l3 l4 1
    else
      some (tg3, t_last, t_table, u5, p_wide, p_high, p_pixels)
  else
    some (tg1, t_last, t_table, s_place, p_wide, p_high, p_pixels)
def fX1_read_45 (t_last : Int32) (t_table : Nat → Int32) (s_place : Int32) (s_file_size : Int32) (s_file_bytes : Nat → Int32) (p_wide : Int32) (p_high : Int32) (p_pixels : Nat → Int32) (l3 : Int32) (l4 : Int32) : Option (Nat × Int32 × (Nat → Int32) × Int32 × Int32 × Int32 × (Nat → Int32)) :=
  fX1_read_50 t_last t_table s_place s_file_size s_file_bytes p_wide p_high p_pixels l3 l4 1
def fX1_read (t_last : Int32) (t_table : Nat → Int32) (s_place : Int32) (s_file_size : Int32) (s_file_bytes : Nat → Int32) (p_wide : Int32) (p_high : Int32) (p_pixels : Nat → Int32) : Option (Nat × Int32 × (Nat → Int32) × Int32 × Int32 × Int32 × (Nat → Int32)) :=
  zb2 (fX7_pass s_place s_file_size s_file_bytes 4) fun tg1 u2 =>
  if tg1 = 0 then
    zb3 (fX7_big u2 s_file_size s_file_bytes 4) fun tg4 r5 u6 =>
    if tg4 = 0 then
      zb2 (fX7_needSide r5) fun tg8 r9 =>
      if tg8 = 0 then
        zb3 (fX7_big u6 s_file_size s_file_bytes 4) fun tg11 r12 u13 =>
        if tg11 = 0 then
          zb2 (fX7_needSide r12) fun tg15 r16 =>
          if tg15 = 0 then
            zb3 (fX7_next u13 s_file_size s_file_bytes) fun tg18 r19 u20 =>
            if tg18 = 0 then
              if r19 = 3 then
                fX1_read_45 t_last t_table u20 s_file_size s_file_bytes p_wide p_high p_pixels r9 r16
              else
                if r19 = 4 then
                  fX1_read_45 t_last t_table u20 s_file_size s_file_bytes p_wide p_high p_pixels r9 r16
                else
                  fX1_read_50 t_last t_table u20 s_file_size s_file_bytes p_wide p_high p_pixels r9 r16 0
            else
              some (tg18, t_last, t_table, u20, p_wide, p_high, p_pixels)
          else
            some (tg15, t_last, t_table, u13, p_wide, p_high, p_pixels)
        else
          some (tg11, t_last, t_table, u13, p_wide, p_high, p_pixels)
      else
        some (tg8, t_last, t_table, u6, p_wide, p_high, p_pixels)
    else
      some (tg4, t_last, t_table, u6, p_wide, p_high, p_pixels)
  else
    some (tg1, t_last, t_table, u2, p_wide, p_high, p_pixels)
def rmX1_chunkPixel (tg : Nat) : Room := { frames := 8, cells := zc tg, slots := zs tg, locals := 126 }
theorem kX1_chunkPixel_9 {args : Array Value} {s : State} (h : ∀ w ∈ wsX1_chunkPixel, w.before args s = true) : (Cond.fieldLink RX1 9 "FourPictureFiles$ChunkFormat" "table" "[I").before args s = true := h _ (by decide +kernel)
theorem kX1_chunkPixel_25 {args : Array Value} {s : State} (h : ∀ w ∈ wsX1_chunkPixel, w.before args s = true) : (Cond.fieldLink RX1 25 "FourPictureFiles$ChunkFormat" "last" "I").before args s = true := h _ (by decide +kernel)
theorem iX1_chunkPixel_X1 : ∀ w ∈ u_ws RX1 TX1 2, w ∈ wsX1_chunkPixel := by decide +kernel
theorem qX1_chunkPixel_X1_lastPlus_137 {args : Array Value} {s : State} {tg0 : Nat} (hts : ∀ w ∈ wsX1_chunkPixel, w.before args s = true) : CallW (rmX1_chunkPixel tg0) s args RX1 RX1 137 yX1_lastPlus cX1_lastPlus 4 (some .int) wsX1_lastPlus rmX1_lastPlus 0 0 3 := cwV 3 hts gX1_chunkPixel_X1_lastPlus rfl rfl rfl (by decide +kernel) ⟨Nat.le_of_ble_eq_true rfl, Nat.le_of_ble_eq_true rfl⟩
theorem qX1_chunkPixel_X7_big_107 {args : Array Value} {s : State} {tg0 : Nat} {tg : Nat} (hts : ∀ w ∈ wsX1_chunkPixel, w.before args s = true) : CallW (rmX1_chunkPixel tg0) s args RX1 RX7 107 yX7_big cX7_big 4 (some .int) wsX7_big (rmX7_big tg) (zc tg) (zs tg) 1 := cwV 1 hts gX1_chunkPixel_X7_big rfl rfl rfl (by decide +kernel) ⟨Nat.le_of_ble_eq_true rfl, Nat.le_of_ble_eq_true rfl⟩
theorem qX1_chunkPixel_X7_next_113 {args : Array Value} {s : State} {tg0 : Nat} {tg : Nat} (hts : ∀ w ∈ wsX1_chunkPixel, w.before args s = true) : CallW (rmX1_chunkPixel tg0) s args RX1 RX7 113 yX7_next cX7_next 2 (some .int) wsX7_next (rmX7_next tg) (zc tg) (zs tg) 0 := cwV 0 hts gX1_chunkPixel_X7_next rfl rfl rfl (by decide +kernel) ⟨Nat.le_of_ble_eq_true rfl, Nat.le_of_ble_eq_true rfl⟩
theorem qX1_chunkPixel_X8_alpha_39 {args : Array Value} {s : State} {tg0 : Nat} (hts : ∀ w ∈ wsX1_chunkPixel, w.before args s = true) (hN : zN s) : va_CN (rmX1_chunkPixel tg0) s args RX1 39 yX8_alpha RX8 cX8_alpha 1 (some .int) wsX8_alpha rmX8_alpha 0 0 1 ∧ (Cond.static yX8_alpha).before args s = true ∧ True := ⟨va_cnB 1 hts gX1_chunkPixel_X8_alpha_n39 rfl rfl rfl (hN.nw 46 rfl) (hts (.initialized RX8) (by decide +kernel)) (by decide +kernel) ⟨Nat.le_of_ble_eq_true rfl, Nat.le_of_ble_eq_true rfl⟩, hts (.static yX8_alpha) (by decide +kernel), trivial⟩
set_option maxHeartbeats 4000000 in
set_option maxRecDepth 100000 in
theorem wX1_chunkPixel_0 {p : Program} {l : Launch} {e : Env} {s : State} {m : MethodId} {args : Array Value} {below : List Frame} {meth : Method} {c : Code} {D : va_G} {A : Nat → Prop} {Q : State → Prop} {cI : ClassId} {h_t h_t_table h_s h_s_file h_s_file_bytes : Nat} {t_last : Int32} {t_table : Nat → Int32} {s_file_size : Int32} {s_file_bytes : Nat → Int32} {tg0 : Nat} {r0 : Int32} {zs_place : Int32} (C : CallFix p m c cX1_chunkPixel 5 s args wsX1_chunkPixel RX1) (hN : zN s) (hK : va_K D vwCl [(cI, .int)] s) (hA : ∀ q, s.heap.size ≤ q → A q) (hT : zTh A s) (hst : l.stackTraces = false) (hE : zTEi tg0 p l e (rmX1_chunkPixel tg0) s m args below meth c cX1_chunkPixel D A Q (zwX1 cI h_t h_t_table t_last t_table ++ zwX7 cI h_s h_s_file h_s_file_bytes zs_place s_file_size s_file_bytes) r0) (hX : zTX tg0 p l e (rmX1_chunkPixel tg0) s m args below meth c D A Q (zwX1 cI h_t h_t_table t_last t_table ++ zwX7 cI h_s h_s_file h_s_file_bytes zs_place s_file_size s_file_bytes)) {s_place : Int32} {v1 : Int32} {H : Heap} {locs : List Loc} {ls : Array Slot} : fX1_chunkPixel t_last t_table s_place s_file_size s_file_bytes v1 = some (tg0, r0, zs_place) → va_P D vwCl (zwX1 cI h_t h_t_table t_last t_table ++ zwX7 cI h_s h_s_file h_s_file_bytes s_place s_file_size s_file_bytes) H → va_D A (zwX1 cI h_t h_t_table t_last t_table ++ zwX7 cI h_s h_s_file h_s_file_bytes s_place s_file_size s_file_bytes) → va_S A s.heap H locs → lv_has ls 5 [(0, .ref h_t), (1, .ref h_s), (2, .int v1)] → W p l e (rmX1_chunkPixel tg0) s m args below meth c H locs 0 0 Q (F0 m 0 ls []) := by
  intro hf hP hD hS hl
  obtain ⟨hx, hb, hml, hown, hts⟩ := id C
  unfold fX1_chunkPixel at hf
  refine lv_iload_n hx hb dX1_chunkPixel_0 rfl (lv_at hl 2 rfl) ?_
  refine lv_sipush (v := 255) hx hb dX1_chunkPixel_1 (by decide) ?_
  refine lv_icmp_ne (tgt := 13) hx hb dX1_chunkPixel_4 (by decide) (fun c1 => ?_) (fun c1 => ?_)
  · replace hf := zif_f hf c1
    refine lv_iload_n hx hb dX1_chunkPixel_13 rfl (lv_at hl 2 rfl) ?_
    refine lv_sipush (v := 254) hx hb dX1_chunkPixel_14 (by decide) ?_
    refine lv_icmp_ne (tgt := 37) hx hb dX1_chunkPixel_17 (by decide) (fun c2 => ?_) (fun c2 => ?_)
    · replace hf := zif_f hf c2
      refine lv_iload_n hx hb dX1_chunkPixel_37 rfl (lv_at hl 2 rfl) ?_
      refine lv_bipush (v := 64) hx hb dX1_chunkPixel_38 (by decide) ?_
      refine lv_icmp_ge (tgt := 50) hx hb dX1_chunkPixel_40 (by decide) (fun c3 => ?_) (fun c3 => ?_)
      · replace hf := zif_t hf c3
        refine lv_iload_n hx hb dX1_chunkPixel_50 rfl (lv_at hl 2 rfl) ?_
        refine lv_sipush (v := 128) hx hb dX1_chunkPixel_51 (by decide) ?_
        refine lv_icmp_ge (tgt := 82) hx hb dX1_chunkPixel_54 (by decide) (fun c4 => ?_) (fun c4 => ?_)
        · replace hf := zif_t hf c4
          refine lv_aload_n hx hb dX1_chunkPixel_82 rfl (lv_at hl 1 rfl) ?_
          obtain ⟨tg5, r6, u7, hc8, hf⟩ := zb3_in hf
          have hle := zT_le hf
          refine zcx_i (vx_runV (As := []) (rest := []) C (mX7_next l hst D cI H.size h_s h_s_file h_s_file_bytes s_place s_file_size s_file_bytes tg5 r6 u7 hc8) (qX1_chunkPixel_X7_next_113 hts) ⟨zPT_blind, va_recv hK hP (ci := 6) (q0 := 2) rfl rfl, zpreT hK hN hT hA hS hP hD [2, 3, 4] rfl rfl⟩ rfl rfl hl.1 rfl (lv_room (Nat.le_of_ble_eq_true rfl)) dX1_chunkPixel_83 hle) hP hD hS hA [2, 3, 4] [0, 1] [0, 1, 2, 3, 4] (ws' := zwX1 cI h_t h_t_table t_last t_table ++ zwX7 cI h_s h_s_file h_s_file_bytes u7 s_file_size s_file_bytes) rfl rfl rfl rfl rfl rfl (fun ht H locs q9 ce hP hD hS hq hv hcl => ?_) (fun ht H locs hP hD hS => ?_)
          · replace hf := zif_f hf ht
            cases hf
            exact hX _ _ _ _ _ _ _ ht hP hD hS hq hv hcl
          · replace hf := zif_t hf ht
            clear hle
            refine lv_istore_n (lv' := [(3, .int r6), (0, .ref h_t), (1, .ref h_s), (2, .int v1)]) hx hb dX1_chunkPixel_86 rfl hl (by decide) rfl (fun ls hl => ?_)
            refine lv_iload_n hx hb dX1_chunkPixel_87 rfl (lv_at hl 3 rfl) ?_
            refine lv_sipush (v := 160) hx hb dX1_chunkPixel_88 (by decide) ?_
            refine lv_isub hx hb dX1_chunkPixel_91 ?_
            refine lv_topi (fun x9 ex9 => ?_)
            replace hf := zlet_in hf ex9
            clear ex9
            refine lv_istore (lv' := [(4, .int x9), (3, .int r6), (0, .ref h_t), (1, .ref h_s), (2, .int v1)]) hx hb dX1_chunkPixel_92 hl (by decide) rfl (fun ls hl => ?_)
            refine lv_aload_n hx hb dX1_chunkPixel_94 rfl (lv_at hl 2 rfl) ?_
            refine lv_iload hx hb dX1_chunkPixel_95 (lv_at hl 0 rfl) ?_
            refine lv_iload_n hx hb dX1_chunkPixel_97 rfl (lv_at hl 1 rfl) ?_
            refine lv_bipush (v := 16) hx hb dX1_chunkPixel_98 (by decide) ?_
            refine lv_idiv hx hb dX1_chunkPixel_100 (by decide) ?_
            refine lv_iadd hx hb dX1_chunkPixel_101 ?_
            refine lv_bipush (v := 8) hx hb dX1_chunkPixel_102 (by decide) ?_
            refine lv_isub hx hb dX1_chunkPixel_104 ?_
            refine lv_iload hx hb dX1_chunkPixel_105 (lv_at hl 0 rfl) ?_
            refine lv_iload hx hb dX1_chunkPixel_107 (lv_at hl 0 rfl) ?_
            refine lv_iload_n hx hb dX1_chunkPixel_109 rfl (lv_at hl 1 rfl) ?_
            refine lv_bipush (v := 16) hx hb dX1_chunkPixel_110 (by decide) ?_
            refine lv_irem hx hb dX1_chunkPixel_112 (by decide) ?_
            refine lv_iadd hx hb dX1_chunkPixel_113 ?_
            refine lv_bipush (v := 8) hx hb dX1_chunkPixel_114 (by decide) ?_
            refine lv_isub hx hb dX1_chunkPixel_116 ?_
            obtain ⟨r10, hc11, hf⟩ := zb1_in hf
            refine zc_i (va_runV (As := [.int ((x9 + (r6 / 16)) - 8), .int x9, .int ((x9 + (zrem r6 16)) - 8)]) (rest := []) C (mX1_lastPlus l D cI H.size h_t h_t_table t_last t_table ((x9 + (r6 / 16)) - 8) x9 ((x9 + (zrem r6 16)) - 8) r10 hc11) (qX1_chunkPixel_X1_lastPlus_137 hts) ⟨zP_blind, va_recv hK hP (ci := 1) (q0 := 0) rfl rfl, zpre hK hN hP hD [0, 1] rfl rfl⟩ rfl rfl hl.1 rfl (lv_room (Nat.le_of_ble_eq_true rfl)) dX1_chunkPixel_117 ⟨Nat.zero_le _, Nat.zero_le _⟩) hP hD hS hA [0, 1] [2, 3, 4] [3, 4, 0, 1, 2] (ws' := zwX1 cI h_t h_t_table t_last t_table ++ zwX7 cI h_s h_s_file h_s_file_bytes u7 s_file_size s_file_bytes) rfl rfl rfl rfl rfl rfl (fun H locs hP hD hS => ?_)
            cases hf
            exact hE rfl _ _ _ _ dX1_chunkPixel_120 hP hD hS
        · replace hf := zif_f hf c4
          refine lv_aload_n hx hb dX1_chunkPixel_57 rfl (lv_at hl 0 rfl) ?_
          refine lv_iload_n hx hb dX1_chunkPixel_58 rfl (lv_at hl 2 rfl) ?_
          refine lv_bipush (v := 16) hx hb dX1_chunkPixel_59 (by decide) ?_
          refine lv_idiv hx hb dX1_chunkPixel_61 (by decide) ?_
          refine lv_iconst (v := 4) hx hb dX1_chunkPixel_62 (by decide) ?_
          refine lv_irem hx hb dX1_chunkPixel_63 (by decide) ?_
          refine lv_iconst (v := 2) hx hb dX1_chunkPixel_64 (by decide) ?_
          refine lv_isub hx hb dX1_chunkPixel_65 ?_
          refine lv_iload_n hx hb dX1_chunkPixel_66 rfl (lv_at hl 2 rfl) ?_
          refine lv_iconst (v := 4) hx hb dX1_chunkPixel_67 (by decide) ?_
          refine lv_idiv hx hb dX1_chunkPixel_68 (by decide) ?_
          refine lv_iconst (v := 4) hx hb dX1_chunkPixel_69 (by decide) ?_
          refine lv_irem hx hb dX1_chunkPixel_70 (by decide) ?_
          refine lv_iconst (v := 2) hx hb dX1_chunkPixel_71 (by decide) ?_
          refine lv_isub hx hb dX1_chunkPixel_72 ?_
          refine lv_iload_n hx hb dX1_chunkPixel_73 rfl (lv_at hl 2 rfl) ?_
          refine lv_iconst (v := 4) hx hb dX1_chunkPixel_74 (by decide) ?_
          refine lv_irem hx hb dX1_chunkPixel_75 (by decide) ?_
          refine lv_iconst (v := 2) hx hb dX1_chunkPixel_76 (by decide) ?_
          refine lv_isub hx hb dX1_chunkPixel_77 ?_
          obtain ⟨r12, hc13, hf⟩ := zb1_in hf
          refine zc_i (va_runV (As := [.int ((zrem (v1 / 16) 4) - 2), .int ((zrem (v1 / 4) 4) - 2), .int ((zrem v1 4) - 2)]) (rest := []) C (mX1_lastPlus l D cI H.size h_t h_t_table t_last t_table ((zrem (v1 / 16) 4) - 2) ((zrem (v1 / 4) 4) - 2) ((zrem v1 4) - 2) r12 hc13) (qX1_chunkPixel_X1_lastPlus_137 hts) ⟨zP_blind, va_recv hK hP (ci := 1) (q0 := 0) rfl rfl, zpre hK hN hP hD [0, 1] rfl rfl⟩ rfl rfl hl.1 rfl (lv_room (Nat.le_of_ble_eq_true rfl)) dX1_chunkPixel_78 ⟨Nat.zero_le _, Nat.zero_le _⟩) hP hD hS hA [0, 1] [2, 3, 4] [3, 4, 0, 1, 2] (ws' := zwX1 cI h_t h_t_table t_last t_table ++ zwX7 cI h_s h_s_file h_s_file_bytes s_place s_file_size s_file_bytes) rfl rfl rfl rfl rfl rfl (fun H locs hP hD hS => ?_)
          cases hf
          exact hE rfl _ _ _ _ dX1_chunkPixel_81 hP hD hS
      · replace hf := zif_f hf c3
        refine lv_aload_n hx hb dX1_chunkPixel_43 rfl (lv_at hl 0 rfl) ?_
        refine va_get (D := D) (ci := 1) (v := .ref h_t_table) (C := RX1) (T := TX1) (N := 2) hx hb hts iX1_chunkPixel_X1 hown hK hP 0 rfl rfl 0 (by decide) (kX1_chunkPixel_9 hts) (fun _ h9 => h9) rfl dX1_chunkPixel_44 ?_
        refine lv_iload_n hx hb dX1_chunkPixel_47 rfl (lv_at hl 2 rfl) ?_
        obtain ⟨hg15, hf⟩ := zrd_in hf
        refine va_iald hx hb hK hP 1 0 rfl rfl hg15 dX1_chunkPixel_48 ?_
        refine lv_topi (fun x14 ex14 => ?_)
        replace hf := hf x14 ex14
        clear ex14
        cases hf
        exact hE rfl _ _ _ _ dX1_chunkPixel_49 hP hD hS
    · replace hf := zif_t hf c2
      refine lv_aload_n hx hb dX1_chunkPixel_20 rfl (lv_at hl 1 rfl) ?_
      refine lv_iconst (v := 3) hx hb dX1_chunkPixel_21 (by decide) ?_
      obtain ⟨tg16, r17, u18, hc19, hf⟩ := zb3_in hf
      have hle := zT_le hf
      refine zcx_i (vx_runV (As := [.int 3]) (rest := []) C (mX7_big l hst D cI H.size h_s h_s_file h_s_file_bytes s_place s_file_size s_file_bytes 3 tg16 r17 u18 hc19) (qX1_chunkPixel_X7_big_107 hts) ⟨zPT_blind, va_recv hK hP (ci := 6) (q0 := 2) rfl rfl, zpreT hK hN hT hA hS hP hD [2, 3, 4] rfl rfl⟩ rfl rfl hl.1 rfl (lv_room (Nat.le_of_ble_eq_true rfl)) dX1_chunkPixel_22 hle) hP hD hS hA [2, 3, 4] [0, 1] [0, 1, 2, 3, 4] (ws' := zwX1 cI h_t h_t_table t_last t_table ++ zwX7 cI h_s h_s_file h_s_file_bytes u18 s_file_size s_file_bytes) rfl rfl rfl rfl rfl rfl (fun ht H locs q9 ce hP hD hS hq hv hcl => ?_) (fun ht H locs hP hD hS => ?_)
      · replace hf := zif_f hf ht
        cases hf
        exact hX _ _ _ _ _ _ _ ht hP hD hS hq hv hcl
      · replace hf := zif_t hf ht
        clear hle
        refine lv_bipush (v := 8) hx hb dX1_chunkPixel_25 (by decide) ?_
        refine lv_ishl hx hb dX1_chunkPixel_27 ?_
        refine lv_aload_n hx hb dX1_chunkPixel_28 rfl (lv_at hl 0 rfl) ?_
        refine va_get (D := D) (ci := 1) (v := .int t_last) (C := RX1) (T := TX1) (N := 2) hx hb hts iX1_chunkPixel_X1 hown hK hP 0 rfl rfl 1 (by decide) (kX1_chunkPixel_25 hts) (fun _ h9 => h9) rfl dX1_chunkPixel_29 ?_
        obtain ⟨r20, hc21, hf⟩ := zb1_in hf
        refine zc_i (va_runSN (As := [.int t_last]) (rest := [.int (zshl r17 8)]) C (mX8_alpha l D cI H.size t_last r20 hc21) (qX1_chunkPixel_X8_alpha_39 hts hN) ⟨zP_blind, zpre hK hN hP hD [] rfl rfl⟩ rfl rfl hl.1 rfl (lv_room (Nat.le_of_ble_eq_true rfl)) dX1_chunkPixel_32 ⟨Nat.zero_le _, Nat.zero_le _⟩) hP hD hS hA [] [0, 1, 2, 3, 4] [0, 1, 2, 3, 4] (ws' := zwX1 cI h_t h_t_table t_last t_table ++ zwX7 cI h_s h_s_file h_s_file_bytes u18 s_file_size s_file_bytes) rfl rfl rfl rfl rfl rfl (fun H locs hP hD hS => ?_)
        refine lv_ior hx hb dX1_chunkPixel_35 ?_
        cases hf
        exact hE rfl _ _ _ _ dX1_chunkPixel_36 hP hD hS
  · replace hf := zif_t hf c1
    refine lv_aload_n hx hb dX1_chunkPixel_7 rfl (lv_at hl 1 rfl) ?_
    refine lv_iconst (v := 4) hx hb dX1_chunkPixel_8 (by decide) ?_
    obtain ⟨tg22, r23, u24, hc25, hf⟩ := zb3_in hf
    have hle := zT_le hf
    refine zcx_i (vx_runV (As := [.int 4]) (rest := []) C (mX7_big l hst D cI H.size h_s h_s_file h_s_file_bytes s_place s_file_size s_file_bytes 4 tg22 r23 u24 hc25) (qX1_chunkPixel_X7_big_107 hts) ⟨zPT_blind, va_recv hK hP (ci := 6) (q0 := 2) rfl rfl, zpreT hK hN hT hA hS hP hD [2, 3, 4] rfl rfl⟩ rfl rfl hl.1 rfl (lv_room (Nat.le_of_ble_eq_true rfl)) dX1_chunkPixel_9 hle) hP hD hS hA [2, 3, 4] [0, 1] [0, 1, 2, 3, 4] (ws' := zwX1 cI h_t h_t_table t_last t_table ++ zwX7 cI h_s h_s_file h_s_file_bytes u24 s_file_size s_file_bytes) rfl rfl rfl rfl rfl rfl (fun ht H locs q9 ce hP hD hS hq hv hcl => ?_) (fun ht H locs hP hD hS => ?_)
    · replace hf := zif_f hf ht
      cases hf
      exact hX _ _ _ _ _ _ _ ht hP hD hS hq hv hcl
    · replace hf := zif_t hf ht
      clear hle
      cases hf
      exact hE rfl _ _ _ _ dX1_chunkPixel_12 hP hD hS
set_option maxHeartbeats 4000000 in
set_option maxRecDepth 100000 in
theorem mX1_chunkPixel (l : Launch) (hst : l.stackTraces = false) (D : va_G) (cI : ClassId) (sz : Nat) (h_t h_t_table h_s h_s_file h_s_file_bytes : Nat) (t_last : Int32) (t_table : Nat → Int32) (s_place : Int32) (s_file_size : Int32) (s_file_bytes : Nat → Int32) (v1 : Int32) (tg0 : Nat) (r0 : Int32) (zs_place : Int32) (hf : fX1_chunkPixel t_last t_table s_place s_file_size s_file_bytes v1 = some (tg0, r0, zs_place)) : vx_Met l yX1_chunkPixel wsX1_chunkPixel (rmX1_chunkPixel tg0) (va_Pc [.ref h_t, .ref h_s, .int v1] (zPT D [(cI, .int)] (zwX1 cI h_t h_t_table t_last t_table ++ zwX7 cI h_s h_s_file h_s_file_bytes s_place s_file_size s_file_bytes) sz)) (zQTi D (zwX1 cI h_t h_t_table t_last t_table ++ zwX7 cI h_s h_s_file h_s_file_bytes s_place s_file_size s_file_bytes) sz tg0 r0 (zwX1 cI h_t h_t_table t_last t_table ++ zwX7 cI h_s h_s_file h_s_file_bytes zs_place s_file_size s_file_bytes)) (zXT D (zwX1 cI h_t h_t_table t_last t_table ++ zwX7 cI h_s h_s_file h_s_file_bytes s_place s_file_size s_file_bytes) sz tg0 (zwX1 cI h_t h_t_table t_last t_table ++ zwX7 cI h_s h_s_file h_s_file_bytes zs_place s_file_size s_file_bytes)) (zc tg0) (zs tg0) (va_A (zwX1 cI h_t h_t_table t_last t_table ++ zwX7 cI h_s h_s_file h_s_file_bytes s_place s_file_size s_file_bytes) sz) := by
  refine vx_ofW (cc := cX1_chunkPixel) (maxL := 5) (ret := (some .int)) (by decide) rfl ?_
  intro p e s m args below meth c s₁ B hml htab hv
  obtain ⟨rfl, ⟨hsz, hP, hK, hD0, hN⟩, hT⟩ := hv
  subst hsz
  have C : CallFix p m c cX1_chunkPixel 5 s [.ref h_t, .ref h_s, .int v1].toArray wsX1_chunkPixel RX1 := ⟨B.exec, B.bytes, hml, findClass_of_methodNamed B.named, atoms_spec (ws := wsX1_chunkPixel) B.pre⟩
  have hl := lv_entry ([.ref h_t, .ref h_s, .int v1]) (n := 5) (Nat.le_of_ble_eq_true rfl)
  rw [lg_entry_eq]
  exact wX1_chunkPixel_0 (A := va_A (zwX1 cI h_t h_t_table t_last t_table ++ zwX7 cI h_s h_s_file h_s_file_bytes s_place s_file_size s_file_bytes) s.heap.size) C hN hK (fun q h => Or.inr h) hT hst (fun h0 H locs pc ls d hP hD hS => zendT_i C.1 C.2.1 B.returns B.notSynchronized h0 d hP hD hS) (fun H locs pc ls rest q9 ce h0 hP hD hS hq hv hcl => zoutT htab B.notSynchronized h0 hP hD hS hq hv hcl) hf hP hD0.self va_S.rf hl
def rmX1_readChunk (tg : Nat) : Room := { frames := 9, cells := zc tg, slots := zs tg, locals := 150 }
theorem kX1_readChunk_9 {args : Array Value} {s : State} (h : ∀ w ∈ wsX1_readChunk, w.before args s = true) : (Cond.fieldLink RX1 9 "FourPictureFiles$ChunkFormat" "table" "[I").before args s = true := h _ (by decide +kernel)
theorem kX1_readChunk_25 {args : Array Value} {s : State} (h : ∀ w ∈ wsX1_readChunk, w.before args s = true) : (Cond.fieldLink RX1 25 "FourPictureFiles$ChunkFormat" "last" "I").before args s = true := h _ (by decide +kernel)
theorem iX1_readChunk_X1 : ∀ w ∈ u_ws RX1 TX1 2, w ∈ wsX1_readChunk := by decide +kernel
theorem qX1_readChunk_X1_chunkPixel_134 {args : Array Value} {s : State} {tg0 : Nat} {tg : Nat} (hts : ∀ w ∈ wsX1_readChunk, w.before args s = true) : CallW (rmX1_readChunk tg0) s args RX1 RX1 134 yX1_chunkPixel cX1_chunkPixel 5 (some .int) wsX1_chunkPixel (rmX1_chunkPixel tg) (zc tg) (zs tg) 2 := cwV 2 hts gX1_readChunk_X1_chunkPixel rfl rfl rfl (by decide +kernel) ⟨Nat.le_of_ble_eq_true rfl, Nat.le_of_ble_eq_true rfl⟩
theorem qX1_readChunk_X1_placeOf_89 {args : Array Value} {s : State} {tg0 : Nat} (hts : ∀ w ∈ wsX1_readChunk, w.before args s = true) : CallB (rmX1_readChunk tg0) s args RX1 89 yX1_placeOf cX1_placeOf 1 (some .int) wsX1_placeOf rmX1_placeOf 0 0 1 ∧ (Cond.static yX1_placeOf).before args s = true := va_cwS 1 hts gX1_readChunk_X1_placeOf rfl rfl rfl (by decide +kernel) ⟨Nat.le_of_ble_eq_true rfl, Nat.le_of_ble_eq_true rfl⟩
theorem qX1_readChunk_X7_need_116 {args : Array Value} {s : State} {tg0 : Nat} {tg : Nat} (hts : ∀ w ∈ wsX1_readChunk, w.before args s = true) : CallW (rmX1_readChunk tg0) s args RX1 RX7 116 yX7_need cX7_need 2 none wsX7_need (rmX7_need tg) (zc tg) (zs tg) 1 := cwV 1 hts gX1_readChunk_X7_need rfl rfl rfl (by decide +kernel) ⟨Nat.le_of_ble_eq_true rfl, Nat.le_of_ble_eq_true rfl⟩
theorem qX1_readChunk_X7_next_113 {args : Array Value} {s : State} {tg0 : Nat} {tg : Nat} (hts : ∀ w ∈ wsX1_readChunk, w.before args s = true) : CallW (rmX1_readChunk tg0) s args RX1 RX7 113 yX7_next cX7_next 2 (some .int) wsX7_next (rmX7_next tg) (zc tg) (zs tg) 0 := cwV 0 hts gX1_readChunk_X7_next rfl rfl rfl (by decide +kernel) ⟨Nat.le_of_ble_eq_true rfl, Nat.le_of_ble_eq_true rfl⟩
set_option maxHeartbeats 4000000 in
set_option maxRecDepth 100000 in
theorem wX1_readChunk_45 {p : Program} {l : Launch} {e : Env} {s : State} {m : MethodId} {args : Array Value} {below : List Frame} {meth : Method} {c : Code} {D : va_G} {A : Nat → Prop} {Q : State → Prop} {cI : ClassId} {h_t h_t_table h_s h_s_file h_s_file_bytes : Nat} {s_file_size : Int32} {s_file_bytes : Nat → Int32} {tg0 : Nat} {r0 : Int32} {zt_last : Int32} {zt_table : Nat → Int32} {zs_place : Int32} (C : CallFix p m c cX1_readChunk 4 s args wsX1_readChunk RX1) (hN : zN s) (hK : va_K D vwCl [(cI, .int)] s) (hA : ∀ q, s.heap.size ≤ q → A q) (hT : zTh A s) (hst : l.stackTraces = false) (hE : zTEi tg0 p l e (rmX1_readChunk tg0) s m args below meth c cX1_readChunk D A Q (zwX1 cI h_t h_t_table zt_last zt_table ++ zwX7 cI h_s h_s_file h_s_file_bytes zs_place s_file_size s_file_bytes) r0) (hX : zTX tg0 p l e (rmX1_readChunk tg0) s m args below meth c D A Q (zwX1 cI h_t h_t_table zt_last zt_table ++ zwX7 cI h_s h_s_file h_s_file_bytes zs_place s_file_size s_file_bytes)) {t_last : Int32} {t_table : Nat → Int32} {s_place : Int32} {l2 : Int32} {l3 : Int32} {H : Heap} {locs : List Loc} {ls : Array Slot} : fX1_readChunk_45 t_last t_table s_place s_file_size s_file_bytes l3 = some (tg0, r0, zt_last, zt_table, zs_place) → va_P D vwCl (zwX1 cI h_t h_t_table t_last t_table ++ zwX7 cI h_s h_s_file h_s_file_bytes s_place s_file_size s_file_bytes) H → va_D A (zwX1 cI h_t h_t_table t_last t_table ++ zwX7 cI h_s h_s_file h_s_file_bytes s_place s_file_size s_file_bytes) → va_S A s.heap H locs → lv_has ls 4 [(0, .ref h_t), (1, .ref h_s), (2, .int l2), (3, .int l3)] → W p l e (rmX1_readChunk tg0) s m args below meth c H locs 0 0 Q (F0 m 45 ls []) := by
  intro hf hP hD hS hl
  obtain ⟨hx, hb, hml, hown, hts⟩ := id C
  unfold fX1_readChunk_45 at hf
  refine lv_aload_n hx hb dX1_readChunk_45 rfl (lv_at hl 0 rfl) ?_
  refine lv_aload_n hx hb dX1_readChunk_46 rfl (lv_at hl 0 rfl) ?_
  refine lv_aload_n hx hb dX1_readChunk_47 rfl (lv_at hl 1 rfl) ?_
  refine lv_iload_n hx hb dX1_readChunk_48 rfl (lv_at hl 3 rfl) ?_
  obtain ⟨tg1, r2, u3, hc4, hf⟩ := zb3_in hf
  have hle := zT_le hf
  refine zcx_i (vx_runV (As := [.ref h_s, .int l3]) (rest := [.ref h_t]) C (mX1_chunkPixel l hst D cI H.size h_t h_t_table h_s h_s_file h_s_file_bytes t_last t_table s_place s_file_size s_file_bytes l3 tg1 r2 u3 hc4) (qX1_readChunk_X1_chunkPixel_134 hts) ⟨zPT_blind, va_recv hK hP (ci := 1) (q0 := 0) rfl rfl, zpreT hK hN hT hA hS hP hD [0, 1, 2, 3, 4] rfl rfl⟩ rfl rfl hl.1 rfl (lv_room (Nat.le_of_ble_eq_true rfl)) dX1_readChunk_49 hle) hP hD hS hA [0, 1, 2, 3, 4] [] [0, 1, 2, 3, 4] (ws' := zwX1 cI h_t h_t_table t_last t_table ++ zwX7 cI h_s h_s_file h_s_file_bytes u3 s_file_size s_file_bytes) rfl rfl rfl rfl rfl rfl (fun ht H locs q9 ce hP hD hS hq hv hcl => ?_) (fun ht H locs hP hD hS => ?_)
  · replace hf := zif_f hf ht
    cases hf
    exact hX _ _ _ _ _ _ _ ht hP hD hS hq hv hcl
  · replace hf := zif_t hf ht
    clear hle
    refine va_put (D := D) (ci := 1) (v := .int r2) (ty := .int) (C := RX1) (T := TX1) (N := 2) hx hb hts iX1_readChunk_X1 tyX1 tyX1_ok nmX1 hown hK hP hD hS 0 rfl rfl 1 (by decide) (kX1_readChunk_25 hts) (fun _ h9 => h9) rfl (by decide +kernel) rfl rfl (Nat.le_of_ble_eq_true rfl) dX1_readChunk_52 (fun H locs hP hD hS => ?_)
    replace hP : va_P D vwCl (zwX1 cI h_t h_t_table r2 t_table ++ zwX7 cI h_s h_s_file h_s_file_bytes u3 s_file_size s_file_bytes) H := hP
    replace hD : va_D A (zwX1 cI h_t h_t_table r2 t_table ++ zwX7 cI h_s h_s_file h_s_file_bytes u3 s_file_size s_file_bytes) := hD
    refine lv_aload_n hx hb dX1_readChunk_55 rfl (lv_at hl 0 rfl) ?_
    refine va_get (D := D) (ci := 1) (v := .ref h_t_table) (C := RX1) (T := TX1) (N := 2) hx hb hts iX1_readChunk_X1 hown hK hP 0 rfl rfl 0 (by decide) (kX1_readChunk_9 hts) (fun _ h9 => h9) rfl dX1_readChunk_56 ?_
    refine lv_aload_n hx hb dX1_readChunk_59 rfl (lv_at hl 0 rfl) ?_
    refine va_get (D := D) (ci := 1) (v := .int r2) (C := RX1) (T := TX1) (N := 2) hx hb hts iX1_readChunk_X1 hown hK hP 0 rfl rfl 1 (by decide) (kX1_readChunk_25 hts) (fun _ h9 => h9) rfl dX1_readChunk_60 ?_
    obtain ⟨r5, hc6, hf⟩ := zb1_in hf
    refine zc_i (va_runS (As := [.int r2]) (rest := [.ref h_t_table]) C (mX1_placeOf l D cI H.size r2 r5 hc6) (qX1_readChunk_X1_placeOf_89 hts) ⟨zP_blind, zpre hK hN hP hD [] rfl rfl⟩ rfl rfl hl.1 rfl (lv_room (Nat.le_of_ble_eq_true rfl)) dX1_readChunk_63 ⟨Nat.zero_le _, Nat.zero_le _⟩) hP hD hS hA [] [0, 1, 2, 3, 4] [0, 1, 2, 3, 4] (ws' := zwX1 cI h_t h_t_table r2 t_table ++ zwX7 cI h_s h_s_file h_s_file_bytes u3 s_file_size s_file_bytes) rfl rfl rfl rfl rfl rfl (fun H locs hP hD hS => ?_)
    refine lv_aload_n hx hb dX1_readChunk_66 rfl (lv_at hl 0 rfl) ?_
    refine va_get (D := D) (ci := 1) (v := .int r2) (C := RX1) (T := TX1) (N := 2) hx hb hts iX1_readChunk_X1 hown hK hP 0 rfl rfl 1 (by decide) (kX1_readChunk_25 hts) (fun _ h9 => h9) rfl dX1_readChunk_67 ?_
    obtain ⟨hg8, g7, eg7, hf⟩ := zwr_in hf
    refine va_iast hx hb hK hP hD hS 1 0 rfl rfl hg8 dX1_readChunk_70 (fun H locs hP hD hS => ?_)
    replace hP : va_P D vwCl (zwX1 cI h_t h_t_table r2 g7 ++ zwX7 cI h_s h_s_file h_s_file_bytes u3 s_file_size s_file_bytes) H := by rw [← eg7]; exact hP
    replace hD : va_D A (zwX1 cI h_t h_t_table r2 g7 ++ zwX7 cI h_s h_s_file h_s_file_bytes u3 s_file_size s_file_bytes) := by rw [← eg7]; exact hD
    clear eg7
    refine lv_iconst (v := 0) hx hb dX1_readChunk_71 (by decide) ?_
    cases hf
    exact hE rfl _ _ _ _ dX1_readChunk_72 hP hD hS
set_option maxHeartbeats 4000000 in
set_option maxRecDepth 100000 in
theorem wX1_readChunk_34 {p : Program} {l : Launch} {e : Env} {s : State} {m : MethodId} {args : Array Value} {below : List Frame} {meth : Method} {c : Code} {D : va_G} {A : Nat → Prop} {Q : State → Prop} {cI : ClassId} {h_t h_t_table h_s h_s_file h_s_file_bytes : Nat} {s_file_size : Int32} {s_file_bytes : Nat → Int32} {tg0 : Nat} {r0 : Int32} {zt_last : Int32} {zt_table : Nat → Int32} {zs_place : Int32} (C : CallFix p m c cX1_readChunk 4 s args wsX1_readChunk RX1) (hN : zN s) (hK : va_K D vwCl [(cI, .int)] s) (hA : ∀ q, s.heap.size ≤ q → A q) (hT : zTh A s) (hst : l.stackTraces = false) (hE : zTEi tg0 p l e (rmX1_readChunk tg0) s m args below meth c cX1_readChunk D A Q (zwX1 cI h_t h_t_table zt_last zt_table ++ zwX7 cI h_s h_s_file h_s_file_bytes zs_place s_file_size s_file_bytes) r0) (hX : zTX tg0 p l e (rmX1_readChunk tg0) s m args below meth c D A Q (zwX1 cI h_t h_t_table zt_last zt_table ++ zwX7 cI h_s h_s_file h_s_file_bytes zs_place s_file_size s_file_bytes)) {t_last : Int32} {t_table : Nat → Int32} {s_place : Int32} {l2 : Int32} {l3 : Int32} {k1 : Int32} {H : Heap} {locs : List Loc} {ls : Array Slot} : fX1_readChunk_34 t_last t_table s_place l3 k1 = some (tg0, r0, zt_last, zt_table, zs_place) → va_P D vwCl (zwX1 cI h_t h_t_table t_last t_table ++ zwX7 cI h_s h_s_file h_s_file_bytes s_place s_file_size s_file_bytes) H → va_D A (zwX1 cI h_t h_t_table t_last t_table ++ zwX7 cI h_s h_s_file h_s_file_bytes s_place s_file_size s_file_bytes) → va_S A s.heap H locs → lv_has ls 4 [(0, .ref h_t), (1, .ref h_s), (2, .int l2), (3, .int l3)] → W p l e (rmX1_readChunk tg0) s m args below meth c H locs 0 0 Q (F0 m 34 ls [.int k1, .ref h_s]) := by
  intro hf hP hD hS hl
  obtain ⟨hx, hb, hml, hown, hts⟩ := id C
  unfold fX1_readChunk_34 at hf
  obtain ⟨tg1, hc2, hf⟩ := zb1_in hf
  have hle := zT_le hf
  refine zcx_v (vx_runV (As := [.int k1]) (rest := []) C (mX7_need l hst D cI H.size h_s h_s_file h_s_file_bytes s_place s_file_size s_file_bytes k1 tg1 hc2) (qX1_readChunk_X7_need_116 hts) ⟨zPT_blind, va_recv hK hP (ci := 6) (q0 := 2) rfl rfl, zpreT hK hN hT hA hS hP hD [2, 3, 4] rfl rfl⟩ rfl rfl hl.1 rfl (lv_room (Nat.le_of_ble_eq_true rfl)) dX1_readChunk_34 hle) hP hD hS hA [2, 3, 4] [0, 1] [0, 1, 2, 3, 4] (ws' := zwX1 cI h_t h_t_table t_last t_table ++ zwX7 cI h_s h_s_file h_s_file_bytes s_place s_file_size s_file_bytes) rfl rfl rfl rfl rfl rfl (fun ht H locs q9 ce hP hD hS hq hv hcl => ?_) (fun ht H locs hP hD hS => ?_)
  · replace hf := zif_f hf ht
    cases hf
    exact hX _ _ _ _ _ _ _ ht hP hD hS hq hv hcl
  · replace hf := zif_t hf ht
    clear hle
    refine lv_iload_n hx hb dX1_readChunk_37 rfl (lv_at hl 3 rfl) ?_
    refine lv_sipush (v := 191) hx hb dX1_readChunk_38 (by decide) ?_
    refine lv_isub hx hb dX1_readChunk_41 ?_
    refine lv_iconst (v := 1) hx hb dX1_readChunk_42 (by decide) ?_
    refine lv_isub hx hb dX1_readChunk_43 ?_
    cases hf
    exact hE rfl _ _ _ _ dX1_readChunk_44 hP hD hS
set_option maxHeartbeats 4000000 in
set_option maxRecDepth 100000 in
theorem wX1_readChunk_0 {p : Program} {l : Launch} {e : Env} {s : State} {m : MethodId} {args : Array Value} {below : List Frame} {meth : Method} {c : Code} {D : va_G} {A : Nat → Prop} {Q : State → Prop} {cI : ClassId} {h_t h_t_table h_s h_s_file h_s_file_bytes : Nat} {s_file_size : Int32} {s_file_bytes : Nat → Int32} {tg0 : Nat} {r0 : Int32} {zt_last : Int32} {zt_table : Nat → Int32} {zs_place : Int32} (C : CallFix p m c cX1_readChunk 4 s args wsX1_readChunk RX1) (hN : zN s) (hK : va_K D vwCl [(cI, .int)] s) (hA : ∀ q, s.heap.size ≤ q → A q) (hT : zTh A s) (hst : l.stackTraces = false) (hE : zTEi tg0 p l e (rmX1_readChunk tg0) s m args below meth c cX1_readChunk D A Q (zwX1 cI h_t h_t_table zt_last zt_table ++ zwX7 cI h_s h_s_file h_s_file_bytes zs_place s_file_size s_file_bytes) r0) (hX : zTX tg0 p l e (rmX1_readChunk tg0) s m args below meth c D A Q (zwX1 cI h_t h_t_table zt_last zt_table ++ zwX7 cI h_s h_s_file h_s_file_bytes zs_place s_file_size s_file_bytes)) {t_last : Int32} {t_table : Nat → Int32} {s_place : Int32} {v1 : Int32} {H : Heap} {locs : List Loc} {ls : Array Slot} : fX1_readChunk t_last t_table s_place s_file_size s_file_bytes v1 = some (tg0, r0, zt_last, zt_table, zs_place) → va_P D vwCl (zwX1 cI h_t h_t_table t_last t_table ++ zwX7 cI h_s h_s_file h_s_file_bytes s_place s_file_size s_file_bytes) H → va_D A (zwX1 cI h_t h_t_table t_last t_table ++ zwX7 cI h_s h_s_file h_s_file_bytes s_place s_file_size s_file_bytes) → va_S A s.heap H locs → lv_has ls 4 [(0, .ref h_t), (1, .ref h_s), (2, .int v1)] → W p l e (rmX1_readChunk tg0) s m args below meth c H locs 0 0 Q (F0 m 0 ls []) := by
  intro hf hP hD hS hl
  obtain ⟨hx, hb, hml, hown, hts⟩ := id C
  unfold fX1_readChunk at hf
  refine lv_aload_n hx hb dX1_readChunk_0 rfl (lv_at hl 1 rfl) ?_
  obtain ⟨tg1, r2, u3, hc4, hf⟩ := zb3_in hf
  have hle := zT_le hf
  refine zcx_i (vx_runV (As := []) (rest := []) C (mX7_next l hst D cI H.size h_s h_s_file h_s_file_bytes s_place s_file_size s_file_bytes tg1 r2 u3 hc4) (qX1_readChunk_X7_next_113 hts) ⟨zPT_blind, va_recv hK hP (ci := 6) (q0 := 2) rfl rfl, zpreT hK hN hT hA hS hP hD [2, 3, 4] rfl rfl⟩ rfl rfl hl.1 rfl (lv_room (Nat.le_of_ble_eq_true rfl)) dX1_readChunk_1 hle) hP hD hS hA [2, 3, 4] [0, 1] [0, 1, 2, 3, 4] (ws' := zwX1 cI h_t h_t_table t_last t_table ++ zwX7 cI h_s h_s_file h_s_file_bytes u3 s_file_size s_file_bytes) rfl rfl rfl rfl rfl rfl (fun ht H locs q9 ce hP hD hS hq hv hcl => ?_) (fun ht H locs hP hD hS => ?_)
  · replace hf := zif_f hf ht
    cases hf
    exact hX _ _ _ _ _ _ _ ht hP hD hS hq hv hcl
  · replace hf := zif_t hf ht
    clear hle
    refine lv_istore_n (lv' := [(3, .int r2), (0, .ref h_t), (1, .ref h_s), (2, .int v1)]) hx hb dX1_readChunk_4 rfl hl (by decide) rfl (fun ls hl => ?_)
    refine lv_iload_n hx hb dX1_readChunk_5 rfl (lv_at hl 0 rfl) ?_
    refine lv_sipush (v := 191) hx hb dX1_readChunk_6 (by decide) ?_
    refine lv_icmp_le (tgt := 45) hx hb dX1_readChunk_9 (by decide) (fun c5 => ?_) (fun c5 => ?_)
    · replace hf := zif_t hf c5
      exact wX1_readChunk_45 C hN hK hA hT hst hE hX hf hP hD hS (lv_sub hl [1, 2, 3, 0] rfl)
    · replace hf := zif_f hf c5
      refine lv_iload_n hx hb dX1_readChunk_12 rfl (lv_at hl 0 rfl) ?_
      refine lv_sipush (v := 253) hx hb dX1_readChunk_13 (by decide) ?_
      refine lv_icmp_gt (tgt := 45) hx hb dX1_readChunk_16 (by decide) (fun c6 => ?_) (fun c6 => ?_)
      · replace hf := zif_t hf c6
        exact wX1_readChunk_45 C hN hK hA hT hst hE hX hf hP hD hS (lv_sub hl [1, 2, 3, 0] rfl)
      · replace hf := zif_f hf c6
        refine lv_aload_n hx hb dX1_readChunk_19 rfl (lv_at hl 2 rfl) ?_
        refine lv_iload_n hx hb dX1_readChunk_20 rfl (lv_at hl 0 rfl) ?_
        refine lv_sipush (v := 191) hx hb dX1_readChunk_21 (by decide) ?_
        refine lv_isub hx hb dX1_readChunk_24 ?_
        refine lv_iload_n hx hb dX1_readChunk_25 rfl (lv_at hl 3 rfl) ?_
        refine lv_icmp_gt (tgt := 33) hx hb dX1_readChunk_26 (by decide) (fun c7 => ?_) (fun c7 => ?_)
        · replace hf := zif_t hf c7
          refine lv_iconst (v := 0) hx hb dX1_readChunk_33 (by decide) ?_
          exact wX1_readChunk_34 C hN hK hA hT hst hE hX hf hP hD hS (lv_sub hl [1, 2, 3, 0] rfl)
        · replace hf := zif_f hf c7
          refine lv_iconst (v := 1) hx hb dX1_readChunk_29 (by decide) ?_
          refine lv_goto (tgt := 34) hx hb dX1_readChunk_30 (by decide) ?_
          exact wX1_readChunk_34 C hN hK hA hT hst hE hX hf hP hD hS (lv_sub hl [1, 2, 3, 0] rfl)
set_option maxHeartbeats 4000000 in
set_option maxRecDepth 100000 in
theorem mX1_readChunk (l : Launch) (hst : l.stackTraces = false) (D : va_G) (cI : ClassId) (sz : Nat) (h_t h_t_table h_s h_s_file h_s_file_bytes : Nat) (t_last : Int32) (t_table : Nat → Int32) (s_place : Int32) (s_file_size : Int32) (s_file_bytes : Nat → Int32) (v1 : Int32) (tg0 : Nat) (r0 : Int32) (zt_last : Int32) (zt_table : Nat → Int32) (zs_place : Int32) (hf : fX1_readChunk t_last t_table s_place s_file_size s_file_bytes v1 = some (tg0, r0, zt_last, zt_table, zs_place)) : vx_Met l yX1_readChunk wsX1_readChunk (rmX1_readChunk tg0) (va_Pc [.ref h_t, .ref h_s, .int v1] (zPT D [(cI, .int)] (zwX1 cI h_t h_t_table t_last t_table ++ zwX7 cI h_s h_s_file h_s_file_bytes s_place s_file_size s_file_bytes) sz)) (zQTi D (zwX1 cI h_t h_t_table t_last t_table ++ zwX7 cI h_s h_s_file h_s_file_bytes s_place s_file_size s_file_bytes) sz tg0 r0 (zwX1 cI h_t h_t_table zt_last zt_table ++ zwX7 cI h_s h_s_file h_s_file_bytes zs_place s_file_size s_file_bytes)) (zXT D (zwX1 cI h_t h_t_table t_last t_table ++ zwX7 cI h_s h_s_file h_s_file_bytes s_place s_file_size s_file_bytes) sz tg0 (zwX1 cI h_t h_t_table zt_last zt_table ++ zwX7 cI h_s h_s_file h_s_file_bytes zs_place s_file_size s_file_bytes)) (zc tg0) (zs tg0) (va_A (zwX1 cI h_t h_t_table t_last t_table ++ zwX7 cI h_s h_s_file h_s_file_bytes s_place s_file_size s_file_bytes) sz) := by
  refine vx_ofW (cc := cX1_readChunk) (maxL := 4) (ret := (some .int)) (by decide) rfl ?_
  intro p e s m args below meth c s₁ B hml htab hv
  obtain ⟨rfl, ⟨hsz, hP, hK, hD0, hN⟩, hT⟩ := hv
  subst hsz
  have C : CallFix p m c cX1_readChunk 4 s [.ref h_t, .ref h_s, .int v1].toArray wsX1_readChunk RX1 := ⟨B.exec, B.bytes, hml, findClass_of_methodNamed B.named, atoms_spec (ws := wsX1_readChunk) B.pre⟩
  have hl := lv_entry ([.ref h_t, .ref h_s, .int v1]) (n := 4) (Nat.le_of_ble_eq_true rfl)
  rw [lg_entry_eq]
  exact wX1_readChunk_0 (A := va_A (zwX1 cI h_t h_t_table t_last t_table ++ zwX7 cI h_s h_s_file h_s_file_bytes s_place s_file_size s_file_bytes) s.heap.size) C hN hK (fun q h => Or.inr h) hT hst (fun h0 H locs pc ls d hP hD hS => zendT_i C.1 C.2.1 B.returns B.notSynchronized h0 d hP hD hS) (fun H locs pc ls rest q9 ce h0 hP hD hS hq hv hcl => zoutT htab B.notSynchronized h0 hP hD hS hq hv hcl) hf hP hD0.self va_S.rf hl
def rmX1_readChunks (tg : Nat) : Room := { frames := 10, cells := zc tg, slots := zs tg, locals := 173 }
theorem kX1_readChunks_25 {args : Array Value} {s : State} (h : ∀ w ∈ wsX1_readChunks, w.before args s = true) : (Cond.fieldLink RX1 25 "FourPictureFiles$ChunkFormat" "last" "I").before args s = true := h _ (by decide +kernel)
theorem iX1_readChunks_X1 : ∀ w ∈ u_ws RX1 TX1 2, w ∈ wsX1_readChunks := by decide +kernel
theorem iX1_readChunks_X5 : ∀ w ∈ u_ws RX5 TX5 3, w ∈ wsX1_readChunks := by decide +kernel
theorem qX1_readChunks_X1_forget_75 {args : Array Value} {s : State} {tg0 : Nat} (hts : ∀ w ∈ wsX1_readChunks, w.before args s = true) : CallW (rmX1_readChunks tg0) s args RX1 RX1 75 yX1_forget cX1_forget 1 none wsX1_forget rmX1_forget 0 0 0 := cwV 0 hts gX1_readChunks_X1_forget rfl rfl rfl (by decide +kernel) ⟨Nat.le_of_ble_eq_true rfl, Nat.le_of_ble_eq_true rfl⟩
theorem qX1_readChunks_X1_readChunk_130 {args : Array Value} {s : State} {tg0 : Nat} {tg : Nat} (hts : ∀ w ∈ wsX1_readChunks, w.before args s = true) : CallW (rmX1_readChunks tg0) s args RX1 RX1 130 yX1_readChunk cX1_readChunk 4 (some .int) wsX1_readChunk (rmX1_readChunk tg) (zc tg) (zs tg) 2 := cwV 2 hts gX1_readChunks_X1_readChunk rfl rfl rfl (by decide +kernel) ⟨Nat.le_of_ble_eq_true rfl, Nat.le_of_ble_eq_true rfl⟩
theorem qX1_readChunks_X5_count_78 {args : Array Value} {s : State} {tg0 : Nat} (hts : ∀ w ∈ wsX1_readChunks, w.before args s = true) : CallW (rmX1_readChunks tg0) s args RX1 RX5 78 yX5_count cX5_count 1 (some .int) wsX5_count rmX5_count 0 0 0 := cwV 0 hts gX1_readChunks_X5_count rfl rfl rfl (by decide +kernel) ⟨Nat.le_of_ble_eq_true rfl, Nat.le_of_ble_eq_true rfl⟩
set_option maxHeartbeats 4000000 in
set_option maxRecDepth 100000 in
theorem wX1_readChunks_43 {p : Program} {l : Launch} {e : Env} {s : State} {m : MethodId} {args : Array Value} {below : List Frame} {meth : Method} {c : Code} {D : va_G} {A : Nat → Prop} {Q : State → Prop} {cI : ClassId} {h_t h_t_table h_s h_s_file h_s_file_bytes h_p h_p_pixels : Nat} {s_file_size : Int32} {s_file_bytes : Nat → Int32} {p_wide : Int32} {p_high : Int32} {tg0 : Nat} {zt_last : Int32} {zt_table : Nat → Int32} {zs_place : Int32} {zp_pixels : Nat → Int32} (C : CallFix p m c cX1_readChunks 6 s args wsX1_readChunks RX1) (hN : zN s) (hK : va_K D vwCl [(cI, .int)] s) (hA : ∀ q, s.heap.size ≤ q → A q) (hT : zTh A s) (hst : l.stackTraces = false) (hE : zTEv tg0 p l e (rmX1_readChunks tg0) s m args below meth c cX1_readChunks D A Q (zwX1 cI h_t h_t_table zt_last zt_table ++ zwX7 cI h_s h_s_file h_s_file_bytes zs_place s_file_size s_file_bytes ++ zwX5 cI h_p h_p_pixels p_wide p_high zp_pixels)) (hX : zTX tg0 p l e (rmX1_readChunks tg0) s m args below meth c D A Q (zwX1 cI h_t h_t_table zt_last zt_table ++ zwX7 cI h_s h_s_file h_s_file_bytes zs_place s_file_size s_file_bytes ++ zwX5 cI h_p h_p_pixels p_wide p_high zp_pixels)) {rc15 : Int32 → (Nat → Int32) → Int32 → Int32 → (Nat → Int32) → (Nat → Int32) → Int32 → Int32 → Int32 → Option (Nat × Int32 × (Nat → Int32) × Int32 × (Nat → Int32))} (hr_15 : ∀ {t_last : Int32} {t_table : Nat → Int32} {s_place : Int32} {p_pixels : Nat → Int32} {l3 : Int32} {l4 : Int32} {l5 : Int32} {H : Heap} {locs : List Loc} {ls : Array Slot}, rc15 t_last t_table s_place s_file_size s_file_bytes p_pixels l3 l4 l5 = some (tg0, zt_last, zt_table, zs_place, zp_pixels) → va_P D vwCl (zwX1 cI h_t h_t_table t_last t_table ++ zwX7 cI h_s h_s_file h_s_file_bytes s_place s_file_size s_file_bytes ++ zwX5 cI h_p h_p_pixels p_wide p_high p_pixels) H → va_D A (zwX1 cI h_t h_t_table t_last t_table ++ zwX7 cI h_s h_s_file h_s_file_bytes s_place s_file_size s_file_bytes ++ zwX5 cI h_p h_p_pixels p_wide p_high p_pixels) → va_S A s.heap H locs → lv_has ls 6 [(0, .ref h_t), (1, .ref h_s), (2, .ref h_p), (3, .int l3), (4, .int l4), (5, .int l5)] → W p l e (rmX1_readChunks tg0) s m args below meth c H locs 0 0 Q (F0 m 15 ls [])) {t_last : Int32} {t_table : Nat → Int32} {s_place : Int32} {p_pixels : Nat → Int32} {l3 : Int32} {l4 : Int32} {l5 : Int32} {H : Heap} {locs : List Loc} {ls : Array Slot} : fX1_readChunks_43 rc15 t_last t_table s_place s_file_size s_file_bytes p_pixels l3 l4 l5 = some (tg0, zt_last, zt_table, zs_place, zp_pixels) → va_P D vwCl (zwX1 cI h_t h_t_table t_last t_table ++ zwX7 cI h_s h_s_file h_s_file_bytes s_place s_file_size s_file_bytes ++ zwX5 cI h_p h_p_pixels p_wide p_high p_pixels) H → va_D A (zwX1 cI h_t h_t_table t_last t_table ++ zwX7 cI h_s h_s_file h_s_file_bytes s_place s_file_size s_file_bytes ++ zwX5 cI h_p h_p_pixels p_wide p_high p_pixels) → va_S A s.heap H locs → lv_has ls 6 [(0, .ref h_t), (1, .ref h_s), (2, .ref h_p), (3, .int l3), (4, .int l4), (5, .int l5)] → W p l e (rmX1_readChunks tg0) s m args below meth c H locs 0 0 Q (F0 m 43 ls []) := by
  intro hf hP hD hS hl
  obtain ⟨hx, hb, hml, hown, hts⟩ := id C
  unfold fX1_readChunks_43 at hf
  refine lv_aload_n hx hb dX1_readChunks_43 rfl (lv_at hl 2 rfl) ?_
  refine va_getN (D := D) (ci := 4) (v := .ref h_p_pixels) (C := RX5) (T := TX5) (N := 3) hx hb hts iX1_readChunks_X5 hown hK hP 5 rfl rfl 0 (by decide) (hN.at 1 rfl) (fun _ h9 => h9) rfl dX1_readChunks_44 ?_
  refine lv_iload hx hb dX1_readChunks_47 (lv_at hl 5 rfl) ?_
  refine lv_aload_n hx hb dX1_readChunks_49 rfl (lv_at hl 0 rfl) ?_
  refine va_get (D := D) (ci := 1) (v := .int t_last) (C := RX1) (T := TX1) (N := 2) hx hb hts iX1_readChunks_X1 hown hK hP 0 rfl rfl 1 (by decide) (kX1_readChunks_25 hts) (fun _ h9 => h9) rfl dX1_readChunks_50 ?_
  obtain ⟨hg2, g1, eg1, hf⟩ := zwr_in hf
  refine va_iast hx hb hK hP hD hS 6 0 rfl rfl hg2 dX1_readChunks_53 (fun H locs hP hD hS => ?_)
  replace hP : va_P D vwCl (zwX1 cI h_t h_t_table t_last t_table ++ zwX7 cI h_s h_s_file h_s_file_bytes s_place s_file_size s_file_bytes ++ zwX5 cI h_p h_p_pixels p_wide p_high g1) H := by rw [← eg1]; exact hP
  replace hD : va_D A (zwX1 cI h_t h_t_table t_last t_table ++ zwX7 cI h_s h_s_file h_s_file_bytes s_place s_file_size s_file_bytes ++ zwX5 cI h_p h_p_pixels p_wide p_high g1) := by rw [← eg1]; exact hD
  clear eg1
  obtain ⟨x3, ex3⟩ : ∃ y : Int32, y = l5 + 1 := ⟨_, rfl⟩
  replace hf := zlet_in hf ex3
  refine lv_iinc (v := x3) (lv' := [(5, .int x3), (0, .ref h_t), (1, .ref h_s), (2, .ref h_p), (3, .int l3), (4, .int l4)]) hx hb dX1_readChunks_54 hl (k := 5) rfl (by rw [ex3]; rfl) (by decide) rfl (fun ls hl => ?_)
  clear ex3
  refine lv_goto (tgt := 15) hx hb dX1_readChunks_57 (by decide) ?_
  exact hr_15 hf hP hD hS (lv_sub hl [1, 2, 3, 4, 5, 0] rfl)
set_option maxHeartbeats 4000000 in
set_option maxRecDepth 100000 in
theorem wX1_readChunks_15 {p : Program} {l : Launch} {e : Env} {s : State} {m : MethodId} {args : Array Value} {below : List Frame} {meth : Method} {c : Code} {D : va_G} {A : Nat → Prop} {Q : State → Prop} {cI : ClassId} {h_t h_t_table h_s h_s_file h_s_file_bytes h_p h_p_pixels : Nat} {s_file_size : Int32} {s_file_bytes : Nat → Int32} {p_wide : Int32} {p_high : Int32} {tg0 : Nat} {zt_last : Int32} {zt_table : Nat → Int32} {zs_place : Int32} {zp_pixels : Nat → Int32} (C : CallFix p m c cX1_readChunks 6 s args wsX1_readChunks RX1) (hN : zN s) (hK : va_K D vwCl [(cI, .int)] s) (hA : ∀ q, s.heap.size ≤ q → A q) (hT : zTh A s) (hst : l.stackTraces = false) (hE : zTEv tg0 p l e (rmX1_readChunks tg0) s m args below meth c cX1_readChunks D A Q (zwX1 cI h_t h_t_table zt_last zt_table ++ zwX7 cI h_s h_s_file h_s_file_bytes zs_place s_file_size s_file_bytes ++ zwX5 cI h_p h_p_pixels p_wide p_high zp_pixels)) (hX : zTX tg0 p l e (rmX1_readChunks tg0) s m args below meth c D A Q (zwX1 cI h_t h_t_table zt_last zt_table ++ zwX7 cI h_s h_s_file h_s_file_bytes zs_place s_file_size s_file_bytes ++ zwX5 cI h_p h_p_pixels p_wide p_high zp_pixels)) (n : Nat) : ∀ {t_last : Int32} {t_table : Nat → Int32} {s_place : Int32} {p_pixels : Nat → Int32} {l3 : Int32} {l4 : Int32} {l5 : Int32} {H : Heap} {locs : List Loc} {ls : Array Slot}, fX1_readChunks_15 n t_last t_table s_place s_file_size s_file_bytes p_pixels l3 l4 l5 = some (tg0, zt_last, zt_table, zs_place, zp_pixels) → va_P D vwCl (zwX1 cI h_t h_t_table t_last t_table ++ zwX7 cI h_s h_s_file h_s_file_bytes s_place s_file_size s_file_bytes ++ zwX5 cI h_p h_p_pixels p_wide p_high p_pixels) H → va_D A (zwX1 cI h_t h_t_table t_last t_table ++ zwX7 cI h_s h_s_file h_s_file_bytes s_place s_file_size s_file_bytes ++ zwX5 cI h_p h_p_pixels p_wide p_high p_pixels) → va_S A s.heap H locs → lv_has ls 6 [(0, .ref h_t), (1, .ref h_s), (2, .ref h_p), (3, .int l3), (4, .int l4), (5, .int l5)] → W p l e (rmX1_readChunks tg0) s m args below meth c H locs 0 0 Q (F0 m 15 ls []) := by
  obtain ⟨hx, hb, hml, hown, hts⟩ := id C
  induction n with
  | zero =>
    intro t_last t_table s_place p_pixels l3 l4 l5 H locs ls hf
    cases hf
  | succ n hr_15 =>
    intro t_last t_table s_place p_pixels l3 l4 l5 H locs ls hf hP hD hS hl
    rw [fX1_readChunks_15_s] at hf
    refine lv_iload hx hb dX1_readChunks_15 (lv_at hl 5 rfl) ?_
    refine lv_iload hx hb dX1_readChunks_17 (lv_at hl 4 rfl) ?_
    refine lv_icmp_ge (tgt := 60) hx hb dX1_readChunks_19 (by decide) (fun c1 => ?_) (fun c1 => ?_)
    · replace hf := zif_t hf c1
      cases hf
      exact hE rfl _ _ _ _ dX1_readChunks_60 hP hD hS
    · replace hf := zif_f hf c1
      refine lv_iload_n hx hb dX1_readChunks_22 rfl (lv_at hl 3 rfl) ?_
      refine lv_if_le (tgt := 32) hx hb dX1_readChunks_23 (by decide) (fun c2 => ?_) (fun c2 => ?_)
      · replace hf := zif_t hf c2
        refine lv_aload_n hx hb dX1_readChunks_32 rfl (lv_at hl 0 rfl) ?_
        refine lv_aload_n hx hb dX1_readChunks_33 rfl (lv_at hl 1 rfl) ?_
        refine lv_iload hx hb dX1_readChunks_34 (lv_at hl 4 rfl) ?_
        refine lv_iload hx hb dX1_readChunks_36 (lv_at hl 5 rfl) ?_
        refine lv_isub hx hb dX1_readChunks_38 ?_
        obtain ⟨tg3, r4, u5, u6, u7, hc8, hf⟩ := zb5_in hf
        have hle := zT_le hf
        refine zcx_i (vx_runV (As := [.ref h_s, .int (l4 - l5)]) (rest := []) C (mX1_readChunk l hst D cI H.size h_t h_t_table h_s h_s_file h_s_file_bytes t_last t_table s_place s_file_size s_file_bytes (l4 - l5) tg3 r4 u5 u6 u7 hc8) (qX1_readChunks_X1_readChunk_130 hts) ⟨zPT_blind, va_recv hK hP (ci := 1) (q0 := 0) rfl rfl, zpreT hK hN hT hA hS hP hD [0, 1, 2, 3, 4] rfl rfl⟩ rfl rfl hl.1 rfl (lv_room (Nat.le_of_ble_eq_true rfl)) dX1_readChunks_39 hle) hP hD hS hA [0, 1, 2, 3, 4] [5, 6] [2, 3, 4, 5, 6, 0, 1] (ws' := zwX1 cI h_t h_t_table u5 u6 ++ zwX7 cI h_s h_s_file h_s_file_bytes u7 s_file_size s_file_bytes ++ zwX5 cI h_p h_p_pixels p_wide p_high p_pixels) rfl rfl rfl rfl rfl rfl (fun ht H locs q9 ce hP hD hS hq hv hcl => ?_) (fun ht H locs hP hD hS => ?_)
        · replace hf := zif_f hf ht
          cases hf
          exact hX _ _ _ _ _ _ _ ht hP hD hS hq hv hcl
        · replace hf := zif_t hf ht
          clear hle
          refine lv_istore_n (lv' := [(3, .int r4), (0, .ref h_t), (1, .ref h_s), (2, .ref h_p), (4, .int l4), (5, .int l5)]) hx hb dX1_readChunks_42 rfl hl (by decide) rfl (fun ls hl => ?_)
          exact wX1_readChunks_43 C hN hK hA hT hst hE hX hr_15 hf hP hD hS (lv_sub hl [1, 2, 3, 0, 4, 5] rfl)
      · replace hf := zif_f hf c2
        obtain ⟨x9, ex9⟩ : ∃ y : Int32, y = l3 + (-1) := ⟨_, rfl⟩
        replace hf := zlet_in hf ex9
        refine lv_iinc (v := x9) (lv' := [(3, .int x9), (0, .ref h_t), (1, .ref h_s), (2, .ref h_p), (4, .int l4), (5, .int l5)]) hx hb dX1_readChunks_26 hl (k := 3) rfl (by rw [ex9]; rfl) (by decide) rfl (fun ls hl => ?_)
        clear ex9
        refine lv_goto (tgt := 43) hx hb dX1_readChunks_29 (by decide) ?_
        exact wX1_readChunks_43 C hN hK hA hT hst hE hX hr_15 hf hP hD hS (lv_sub hl [1, 2, 3, 0, 4, 5] rfl)
set_option maxHeartbeats 4000000 in
set_option maxRecDepth 100000 in
theorem wX1_readChunks_0 {p : Program} {l : Launch} {e : Env} {s : State} {m : MethodId} {args : Array Value} {below : List Frame} {meth : Method} {c : Code} {D : va_G} {A : Nat → Prop} {Q : State → Prop} {cI : ClassId} {h_t h_t_table h_s h_s_file h_s_file_bytes h_p h_p_pixels : Nat} {s_file_size : Int32} {s_file_bytes : Nat → Int32} {p_wide : Int32} {p_high : Int32} {tg0 : Nat} {zt_last : Int32} {zt_table : Nat → Int32} {zs_place : Int32} {zp_pixels : Nat → Int32} (C : CallFix p m c cX1_readChunks 6 s args wsX1_readChunks RX1) (hN : zN s) (hK : va_K D vwCl [(cI, .int)] s) (hA : ∀ q, s.heap.size ≤ q → A q) (hT : zTh A s) (hst : l.stackTraces = false) (hE : zTEv tg0 p l e (rmX1_readChunks tg0) s m args below meth c cX1_readChunks D A Q (zwX1 cI h_t h_t_table zt_last zt_table ++ zwX7 cI h_s h_s_file h_s_file_bytes zs_place s_file_size s_file_bytes ++ zwX5 cI h_p h_p_pixels p_wide p_high zp_pixels)) (hX : zTX tg0 p l e (rmX1_readChunks tg0) s m args below meth c D A Q (zwX1 cI h_t h_t_table zt_last zt_table ++ zwX7 cI h_s h_s_file h_s_file_bytes zs_place s_file_size s_file_bytes ++ zwX5 cI h_p h_p_pixels p_wide p_high zp_pixels)) {t_last : Int32} {t_table : Nat → Int32} {s_place : Int32} {p_pixels : Nat → Int32} {H : Heap} {locs : List Loc} {ls : Array Slot} : fX1_readChunks t_table s_place s_file_size s_file_bytes p_wide p_high p_pixels = some (tg0, zt_last, zt_table, zs_place, zp_pixels) → va_P D vwCl (zwX1 cI h_t h_t_table t_last t_table ++ zwX7 cI h_s h_s_file h_s_file_bytes s_place s_file_size s_file_bytes ++ zwX5 cI h_p h_p_pixels p_wide p_high p_pixels) H → va_D A (zwX1 cI h_t h_t_table t_last t_table ++ zwX7 cI h_s h_s_file h_s_file_bytes s_place s_file_size s_file_bytes ++ zwX5 cI h_p h_p_pixels p_wide p_high p_pixels) → va_S A s.heap H locs → lv_has ls 6 [(0, .ref h_t), (1, .ref h_s), (2, .ref h_p)] → W p l e (rmX1_readChunks tg0) s m args below meth c H locs 0 0 Q (F0 m 0 ls []) := by
  intro hf hP hD hS hl
  obtain ⟨hx, hb, hml, hown, hts⟩ := id C
  unfold fX1_readChunks at hf
  refine lv_aload_n hx hb dX1_readChunks_0 rfl (lv_at hl 0 rfl) ?_
  obtain ⟨u1, u2, hc3, hf⟩ := zb2_in hf
  refine zc_v (va_runV (As := []) (rest := []) C (mX1_forget l D cI H.size h_t h_t_table t_last t_table u1 u2 hc3) (qX1_readChunks_X1_forget_75 hts) ⟨zP_blind, va_recv hK hP (ci := 1) (q0 := 0) rfl rfl, zpre hK hN hP hD [0, 1] rfl rfl⟩ rfl rfl hl.1 rfl (lv_room (Nat.le_of_ble_eq_true rfl)) dX1_readChunks_1 ⟨Nat.zero_le _, Nat.zero_le _⟩) hP hD hS hA [0, 1] [2, 3, 4, 5, 6] [5, 6, 0, 1, 2, 3, 4] (ws' := zwX1 cI h_t h_t_table u1 u2 ++ zwX7 cI h_s h_s_file h_s_file_bytes s_place s_file_size s_file_bytes ++ zwX5 cI h_p h_p_pixels p_wide p_high p_pixels) rfl rfl rfl rfl rfl rfl (fun H locs hP hD hS => ?_)
  refine lv_iconst (v := 0) hx hb dX1_readChunks_4 (by decide) ?_
  refine lv_istore_n (lv' := [(3, .int 0), (0, .ref h_t), (1, .ref h_s), (2, .ref h_p)]) hx hb dX1_readChunks_5 rfl hl (by decide) rfl (fun ls hl => ?_)
  refine lv_aload_n hx hb dX1_readChunks_6 rfl (lv_at hl 3 rfl) ?_
  obtain ⟨r4, hc5, hf⟩ := zb1_in hf
  refine zc_i (va_runV (As := []) (rest := []) C (mX5_count l D cI H.size h_p h_p_pixels p_wide p_high p_pixels r4 hc5) (qX1_readChunks_X5_count_78 hts) ⟨zP_blind, va_recv hK hP (ci := 4) (q0 := 5) rfl rfl, zpre hK hN hP hD [5, 6] rfl rfl⟩ rfl rfl hl.1 rfl (lv_room (Nat.le_of_ble_eq_true rfl)) dX1_readChunks_7 ⟨Nat.zero_le _, Nat.zero_le _⟩) hP hD hS hA [5, 6] [0, 1, 2, 3, 4] [0, 1, 2, 3, 4, 5, 6] (ws' := zwX1 cI h_t h_t_table u1 u2 ++ zwX7 cI h_s h_s_file h_s_file_bytes s_place s_file_size s_file_bytes ++ zwX5 cI h_p h_p_pixels p_wide p_high p_pixels) rfl rfl rfl rfl rfl rfl (fun H locs hP hD hS => ?_)
  refine lv_istore (lv' := [(4, .int r4), (3, .int 0), (0, .ref h_t), (1, .ref h_s), (2, .ref h_p)]) hx hb dX1_readChunks_10 hl (by decide) rfl (fun ls hl => ?_)
  refine lv_iconst (v := 0) hx hb dX1_readChunks_12 (by decide) ?_
  refine lv_istore (lv' := [(5, .int 0), (4, .int r4), (3, .int 0), (0, .ref h_t), (1, .ref h_s), (2, .ref h_p)]) hx hb dX1_readChunks_13 hl (by decide) rfl (fun ls hl => ?_)
  exact wX1_readChunks_15 C hN hK hA hT hst hE hX 1000 hf hP hD hS (lv_sub hl [3, 4, 5, 2, 1, 0] rfl)
set_option maxHeartbeats 4000000 in
set_option maxRecDepth 100000 in
theorem mX1_readChunks (l : Launch) (hst : l.stackTraces = false) (D : va_G) (cI : ClassId) (sz : Nat) (h_t h_t_table h_s h_s_file h_s_file_bytes h_p h_p_pixels : Nat) (t_last : Int32) (t_table : Nat → Int32) (s_place : Int32) (s_file_size : Int32) (s_file_bytes : Nat → Int32) (p_wide : Int32) (p_high : Int32) (p_pixels : Nat → Int32) (tg0 : Nat) (zt_last : Int32) (zt_table : Nat → Int32) (zs_place : Int32) (zp_pixels : Nat → Int32) (hf : fX1_readChunks t_table s_place s_file_size s_file_bytes p_wide p_high p_pixels = some (tg0, zt_last, zt_table, zs_place, zp_pixels)) : vx_Met l yX1_readChunks wsX1_readChunks (rmX1_readChunks tg0) (va_Pc [.ref h_t, .ref h_s, .ref h_p] (zPT D [(cI, .int)] (zwX1 cI h_t h_t_table t_last t_table ++ zwX7 cI h_s h_s_file h_s_file_bytes s_place s_file_size s_file_bytes ++ zwX5 cI h_p h_p_pixels p_wide p_high p_pixels) sz)) (zQTv D (zwX1 cI h_t h_t_table t_last t_table ++ zwX7 cI h_s h_s_file h_s_file_bytes s_place s_file_size s_file_bytes ++ zwX5 cI h_p h_p_pixels p_wide p_high p_pixels) sz tg0 (zwX1 cI h_t h_t_table zt_last zt_table ++ zwX7 cI h_s h_s_file h_s_file_bytes zs_place s_file_size s_file_bytes ++ zwX5 cI h_p h_p_pixels p_wide p_high zp_pixels)) (zXT D (zwX1 cI h_t h_t_table t_last t_table ++ zwX7 cI h_s h_s_file h_s_file_bytes s_place s_file_size s_file_bytes ++ zwX5 cI h_p h_p_pixels p_wide p_high p_pixels) sz tg0 (zwX1 cI h_t h_t_table zt_last zt_table ++ zwX7 cI h_s h_s_file h_s_file_bytes zs_place s_file_size s_file_bytes ++ zwX5 cI h_p h_p_pixels p_wide p_high zp_pixels)) (zc tg0) (zs tg0) (va_A (zwX1 cI h_t h_t_table t_last t_table ++ zwX7 cI h_s h_s_file h_s_file_bytes s_place s_file_size s_file_bytes ++ zwX5 cI h_p h_p_pixels p_wide p_high p_pixels) sz) := by
  refine vx_ofW (cc := cX1_readChunks) (maxL := 6) (ret := none) (by decide) rfl ?_
  intro p e s m args below meth c s₁ B hml htab hv
  obtain ⟨rfl, ⟨hsz, hP, hK, hD0, hN⟩, hT⟩ := hv
  subst hsz
  have C : CallFix p m c cX1_readChunks 6 s [.ref h_t, .ref h_s, .ref h_p].toArray wsX1_readChunks RX1 := ⟨B.exec, B.bytes, hml, findClass_of_methodNamed B.named, atoms_spec (ws := wsX1_readChunks) B.pre⟩
  have hl := lv_entry ([.ref h_t, .ref h_s, .ref h_p]) (n := 6) (Nat.le_of_ble_eq_true rfl)
  rw [lg_entry_eq]
  exact wX1_readChunks_0 (A := va_A (zwX1 cI h_t h_t_table t_last t_table ++ zwX7 cI h_s h_s_file h_s_file_bytes s_place s_file_size s_file_bytes ++ zwX5 cI h_p h_p_pixels p_wide p_high p_pixels) s.heap.size) C hN hK (fun q h => Or.inr h) hT hst (fun h0 H locs pc ls d hP hD hS => zendT_v C.1 C.2.1 B.returns B.notSynchronized h0 d hP hD hS) (fun H locs pc ls rest q9 ce h0 hP hD hS hq hv hcl => zoutT htab B.notSynchronized h0 hP hD hS hq hv hcl) hf hP hD0.self va_S.rf hl
def rmX1_read (tg : Nat) : Room := { frames := 11, cells := zc tg, slots := zs tg, locals := 198 }
theorem qX1_read_X1_readChunks_123 {args : Array Value} {s : State} {tg0 : Nat} {tg : Nat} (hts : ∀ w ∈ wsX1_read, w.before args s = true) : CallW (rmX1_read tg0) s args RX1 RX1 123 yX1_readChunks cX1_readChunks 6 none wsX1_readChunks (rmX1_readChunks tg) (zc tg) (zs tg) 2 := cwV 2 hts gX1_read_X1_readChunks rfl rfl rfl (by decide +kernel) ⟨Nat.le_of_ble_eq_true rfl, Nat.le_of_ble_eq_true rfl⟩
theorem qX1_read_X5_begin_120 {args : Array Value} {s : State} {tg0 : Nat} (hts : ∀ w ∈ wsX1_read, w.before args s = true) : CallW (rmX1_read tg0) s args RX1 RX5 120 yX5_begin cX5_begin 3 none wsX5_begin rmX5_begin 0 0 2 := cwV 2 hts gX1_read_X5_begin rfl rfl rfl (by decide +kernel) ⟨Nat.le_of_ble_eq_true rfl, Nat.le_of_ble_eq_true rfl⟩
theorem qX1_read_X7_big_107 {args : Array Value} {s : State} {tg0 : Nat} {tg : Nat} (hts : ∀ w ∈ wsX1_read, w.before args s = true) : CallW (rmX1_read tg0) s args RX1 RX7 107 yX7_big cX7_big 4 (some .int) wsX7_big (rmX7_big tg) (zc tg) (zs tg) 1 := cwV 1 hts gX1_read_X7_big rfl rfl rfl (by decide +kernel) ⟨Nat.le_of_ble_eq_true rfl, Nat.le_of_ble_eq_true rfl⟩
theorem qX1_read_X7_isAtEnd_127 {args : Array Value} {s : State} {tg0 : Nat} (hts : ∀ w ∈ wsX1_read, w.before args s = true) : CallW (rmX1_read tg0) s args RX1 RX7 127 yX7_isAtEnd cX7_isAtEnd 1 (some .boolean) wsX7_isAtEnd rmX7_isAtEnd 0 0 0 := cwV 0 hts gX1_read_X7_isAtEnd rfl rfl rfl (by decide +kernel) ⟨Nat.le_of_ble_eq_true rfl, Nat.le_of_ble_eq_true rfl⟩
theorem qX1_read_X7_need_116 {args : Array Value} {s : State} {tg0 : Nat} {tg : Nat} (hts : ∀ w ∈ wsX1_read, w.before args s = true) : CallW (rmX1_read tg0) s args RX1 RX7 116 yX7_need cX7_need 2 none wsX7_need (rmX7_need tg) (zc tg) (zs tg) 1 := cwV 1 hts gX1_read_X7_need rfl rfl rfl (by decide +kernel) ⟨Nat.le_of_ble_eq_true rfl, Nat.le_of_ble_eq_true rfl⟩
theorem qX1_read_X7_needSide_110 {args : Array Value} {s : State} {tg0 : Nat} {tg : Nat} (hts : ∀ w ∈ wsX1_read, w.before args s = true) : CallW (rmX1_read tg0) s args RX1 RX7 110 yX7_needSide cX7_needSide 2 (some .int) wsX7_needSide (rmX7_needSide tg) (zc tg) (zs tg) 1 := cwV 1 hts gX1_read_X7_needSide rfl rfl rfl (by decide +kernel) ⟨Nat.le_of_ble_eq_true rfl, Nat.le_of_ble_eq_true rfl⟩
theorem qX1_read_X7_next_113 {args : Array Value} {s : State} {tg0 : Nat} {tg : Nat} (hts : ∀ w ∈ wsX1_read, w.before args s = true) : CallW (rmX1_read tg0) s args RX1 RX7 113 yX7_next cX7_next 2 (some .int) wsX7_next (rmX7_next tg) (zc tg) (zs tg) 0 := cwV 0 hts gX1_read_X7_next rfl rfl rfl (by decide +kernel) ⟨Nat.le_of_ble_eq_true rfl, Nat.le_of_ble_eq_true rfl⟩
theorem qX1_read_X7_pass_102 {args : Array Value} {s : State} {tg0 : Nat} {tg : Nat} (hts : ∀ w ∈ wsX1_read, w.before args s = true) : CallW (rmX1_read tg0) s args RX1 RX7 102 yX7_pass cX7_pass 3 none wsX7_pass (rmX7_pass tg) (zc tg) (zs tg) 1 := cwV 1 hts gX1_read_X7_pass rfl rfl rfl (by decide +kernel) ⟨Nat.le_of_ble_eq_true rfl, Nat.le_of_ble_eq_true rfl⟩
set_option maxHeartbeats 4000000 in
set_option maxRecDepth 100000 in
theorem wX1_read_129 {p : Program} {l : Launch} {e : Env} {s : State} {m : MethodId} {args : Array Value} {below : List Frame} {meth : Method} {c : Code} {D : va_G} {A : Nat → Prop} {Q : State → Prop} {cI : ClassId} {h_t h_t_table h_s h_s_file h_s_file_bytes h_p h_p_pixels : Nat} {s_file_size : Int32} {s_file_bytes : Nat → Int32} {tg0 : Nat} {zt_last : Int32} {zt_table : Nat → Int32} {zs_place : Int32} {zp_wide : Int32} {zp_high : Int32} {zp_pixels : Nat → Int32} (C : CallFix p m c cX1_read 7 s args wsX1_read RX1) (hN : zN s) (hK : va_K D vwCl [(cI, .int)] s) (hA : ∀ q, s.heap.size ≤ q → A q) (hT : zTh A s) (hst : l.stackTraces = false) (hE : zTEv tg0 p l e (rmX1_read tg0) s m args below meth c cX1_read D A Q (zwX1 cI h_t h_t_table zt_last zt_table ++ zwX7 cI h_s h_s_file h_s_file_bytes zs_place s_file_size s_file_bytes ++ zwX5 cI h_p h_p_pixels zp_wide zp_high zp_pixels)) (hX : zTX tg0 p l e (rmX1_read tg0) s m args below meth c D A Q (zwX1 cI h_t h_t_table zt_last zt_table ++ zwX7 cI h_s h_s_file h_s_file_bytes zs_place s_file_size s_file_bytes ++ zwX5 cI h_p h_p_pixels zp_wide zp_high zp_pixels)) {t_last : Int32} {t_table : Nat → Int32} {s_place : Int32} {p_wide : Int32} {p_high : Int32} {p_pixels : Nat → Int32} {l3 : Int32} {l4 : Int32} {l5 : Int32} {l6 : Int32} {k1 : Int32} {H : Heap} {locs : List Loc} {ls : Array Slot} : fX1_read_129 t_last t_table s_place s_file_size p_wide p_high p_pixels k1 = some (tg0, zt_last, zt_table, zs_place, zp_wide, zp_high, zp_pixels) → va_P D vwCl (zwX1 cI h_t h_t_table t_last t_table ++ zwX7 cI h_s h_s_file h_s_file_bytes s_place s_file_size s_file_bytes ++ zwX5 cI h_p h_p_pixels p_wide p_high p_pixels) H → va_D A (zwX1 cI h_t h_t_table t_last t_table ++ zwX7 cI h_s h_s_file h_s_file_bytes s_place s_file_size s_file_bytes ++ zwX5 cI h_p h_p_pixels p_wide p_high p_pixels) → va_S A s.heap H locs → lv_has ls 7 [(0, .ref h_t), (1, .ref h_s), (2, .ref h_p), (3, .int l3), (4, .int l4), (5, .int l5), (6, .int l6)] → W p l e (rmX1_read tg0) s m args below meth c H locs 0 0 Q (F0 m 129 ls [.int k1, .ref h_s]) := by
  intro hf hP hD hS hl
  obtain ⟨hx, hb, hml, hown, hts⟩ := id C
  unfold fX1_read_129 at hf
  obtain ⟨tg1, hc2, hf⟩ := zb1_in hf
  have hle := zT_le hf
  refine zcx_v (vx_runV (As := [.int k1]) (rest := []) C (mX7_need l hst D cI H.size h_s h_s_file h_s_file_bytes s_place s_file_size s_file_bytes k1 tg1 hc2) (qX1_read_X7_need_116 hts) ⟨zPT_blind, va_recv hK hP (ci := 6) (q0 := 2) rfl rfl, zpreT hK hN hT hA hS hP hD [2, 3, 4] rfl rfl⟩ rfl rfl hl.1 rfl (lv_room (Nat.le_of_ble_eq_true rfl)) dX1_read_129 hle) hP hD hS hA [2, 3, 4] [0, 1, 5, 6] [0, 1, 4, 5, 6, 2, 3] (ws' := zwX1 cI h_t h_t_table t_last t_table ++ zwX7 cI h_s h_s_file h_s_file_bytes s_place s_file_size s_file_bytes ++ zwX5 cI h_p h_p_pixels p_wide p_high p_pixels) rfl rfl rfl rfl rfl rfl (fun ht H locs q9 ce hP hD hS hq hv hcl => ?_) (fun ht H locs hP hD hS => ?_)
  · replace hf := zif_f hf ht
    cases hf
    exact hX _ _ _ _ _ _ _ ht hP hD hS hq hv hcl
  · replace hf := zif_t hf ht
    clear hle
    refine lv_aload_n hx hb dX1_read_132 rfl (lv_at hl 1 rfl) ?_
    refine lv_aload_n hx hb dX1_read_133 rfl (lv_at hl 1 rfl) ?_
    obtain ⟨r3, hc4, hf⟩ := zb1_in hf
    refine zc_i (va_runV (As := []) (rest := [.ref h_s]) C (mX7_isAtEnd l D cI H.size h_s h_s_file h_s_file_bytes s_place s_file_size s_file_bytes r3 hc4) (qX1_read_X7_isAtEnd_127 hts) ⟨zP_blind, va_recv hK hP (ci := 6) (q0 := 2) rfl rfl, zpre hK hN hP hD [2, 3, 4] rfl rfl⟩ rfl rfl hl.1 rfl (lv_room (Nat.le_of_ble_eq_true rfl)) dX1_read_134 ⟨Nat.zero_le _, Nat.zero_le _⟩) hP hD hS hA [2, 3, 4] [0, 1, 5, 6] [0, 1, 4, 5, 6, 2, 3] (ws' := zwX1 cI h_t h_t_table t_last t_table ++ zwX7 cI h_s h_s_file h_s_file_bytes s_place s_file_size s_file_bytes ++ zwX5 cI h_p h_p_pixels p_wide p_high p_pixels) rfl rfl rfl rfl rfl rfl (fun H locs hP hD hS => ?_)
    obtain ⟨tg5, hc6, hf⟩ := zb1_in hf
    have hle := zT_le hf
    refine zcx_v (vx_runV (As := [.int r3]) (rest := []) C (mX7_need l hst D cI H.size h_s h_s_file h_s_file_bytes s_place s_file_size s_file_bytes r3 tg5 hc6) (qX1_read_X7_need_116 hts) ⟨zPT_blind, va_recv hK hP (ci := 6) (q0 := 2) rfl rfl, zpreT hK hN hT hA hS hP hD [2, 3, 4] rfl rfl⟩ rfl rfl hl.1 rfl (lv_room (Nat.le_of_ble_eq_true rfl)) dX1_read_137 hle) hP hD hS hA [2, 3, 4] [0, 1, 5, 6] [0, 1, 4, 5, 6, 2, 3] (ws' := zwX1 cI h_t h_t_table t_last t_table ++ zwX7 cI h_s h_s_file h_s_file_bytes s_place s_file_size s_file_bytes ++ zwX5 cI h_p h_p_pixels p_wide p_high p_pixels) rfl rfl rfl rfl rfl rfl (fun ht H locs q9 ce hP hD hS hq hv hcl => ?_) (fun ht H locs hP hD hS => ?_)
    · replace hf := zif_f hf ht
      cases hf
      exact hX _ _ _ _ _ _ _ ht hP hD hS hq hv hcl
    · replace hf := zif_t hf ht
      clear hle
      cases hf
      exact hE rfl _ _ _ _ dX1_read_140 hP hD hS
set_option maxHeartbeats 4000000 in
set_option maxRecDepth 100000 in
theorem wX1_read_106 {p : Program} {l : Launch} {e : Env} {s : State} {m : MethodId} {args : Array Value} {below : List Frame} {meth : Method} {c : Code} {D : va_G} {A : Nat → Prop} {Q : State → Prop} {cI : ClassId} {h_t h_t_table h_s h_s_file h_s_file_bytes h_p h_p_pixels : Nat} {s_file_size : Int32} {s_file_bytes : Nat → Int32} {tg0 : Nat} {zt_last : Int32} {zt_table : Nat → Int32} {zs_place : Int32} {zp_wide : Int32} {zp_high : Int32} {zp_pixels : Nat → Int32} (C : CallFix p m c cX1_read 7 s args wsX1_read RX1) (hN : zN s) (hK : va_K D vwCl [(cI, .int)] s) (hA : ∀ q, s.heap.size ≤ q → A q) (hT : zTh A s) (hst : l.stackTraces = false) (hE : zTEv tg0 p l e (rmX1_read tg0) s m args below meth c cX1_read D A Q (zwX1 cI h_t h_t_table zt_last zt_table ++ zwX7 cI h_s h_s_file h_s_file_bytes zs_place s_file_size s_file_bytes ++ zwX5 cI h_p h_p_pixels zp_wide zp_high zp_pixels)) (hX : zTX tg0 p l e (rmX1_read tg0) s m args below meth c D A Q (zwX1 cI h_t h_t_table zt_last zt_table ++ zwX7 cI h_s h_s_file h_s_file_bytes zs_place s_file_size s_file_bytes ++ zwX5 cI h_p h_p_pixels zp_wide zp_high zp_pixels)) {rc86 : Int32 → (Nat → Int32) → Int32 → Int32 → (Nat → Int32) → Int32 → Int32 → (Nat → Int32) → Int32 → Option (Nat × Int32 × (Nat → Int32) × Int32 × Int32 × Int32 × (Nat → Int32))} (hr_86 : ∀ {t_last : Int32} {t_table : Nat → Int32} {s_place : Int32} {p_wide : Int32} {p_high : Int32} {p_pixels : Nat → Int32} {l3 : Int32} {l4 : Int32} {l5 : Int32} {l6 : Int32} {H : Heap} {locs : List Loc} {ls : Array Slot}, rc86 t_last t_table s_place s_file_size s_file_bytes p_wide p_high p_pixels l6 = some (tg0, zt_last, zt_table, zs_place, zp_wide, zp_high, zp_pixels) → va_P D vwCl (zwX1 cI h_t h_t_table t_last t_table ++ zwX7 cI h_s h_s_file h_s_file_bytes s_place s_file_size s_file_bytes ++ zwX5 cI h_p h_p_pixels p_wide p_high p_pixels) H → va_D A (zwX1 cI h_t h_t_table t_last t_table ++ zwX7 cI h_s h_s_file h_s_file_bytes s_place s_file_size s_file_bytes ++ zwX5 cI h_p h_p_pixels p_wide p_high p_pixels) → va_S A s.heap H locs → lv_has ls 7 [(0, .ref h_t), (1, .ref h_s), (2, .ref h_p), (3, .int l3), (4, .int l4), (5, .int l5), (6, .int l6)] → W p l e (rmX1_read tg0) s m args below meth c H locs 0 0 Q (F0 m 86 ls [])) {t_last : Int32} {t_table : Nat → Int32} {s_place : Int32} {p_wide : Int32} {p_high : Int32} {p_pixels : Nat → Int32} {l3 : Int32} {l4 : Int32} {l5 : Int32} {l6 : Int32} {k1 : Int32} {H : Heap} {locs : List Loc} {ls : Array Slot} : fX1_read_106 rc86 t_last t_table s_place s_file_size s_file_bytes p_wide p_high p_pixels l6 k1 = some (tg0, zt_last, zt_table, zs_place, zp_wide, zp_high, zp_pixels) → va_P D vwCl (zwX1 cI h_t h_t_table t_last t_table ++ zwX7 cI h_s h_s_file h_s_file_bytes s_place s_file_size s_file_bytes ++ zwX5 cI h_p h_p_pixels p_wide p_high p_pixels) H → va_D A (zwX1 cI h_t h_t_table t_last t_table ++ zwX7 cI h_s h_s_file h_s_file_bytes s_place s_file_size s_file_bytes ++ zwX5 cI h_p h_p_pixels p_wide p_high p_pixels) → va_S A s.heap H locs → lv_has ls 7 [(0, .ref h_t), (1, .ref h_s), (2, .ref h_p), (3, .int l3), (4, .int l4), (5, .int l5), (6, .int l6)] → W p l e (rmX1_read tg0) s m args below meth c H locs 0 0 Q (F0 m 106 ls [.int k1, .ref h_s]) := by
  intro hf hP hD hS hl
  obtain ⟨hx, hb, hml, hown, hts⟩ := id C
  unfold fX1_read_106 at hf
  obtain ⟨tg1, hc2, hf⟩ := zb1_in hf
  have hle := zT_le hf
  refine zcx_v (vx_runV (As := [.int k1]) (rest := []) C (mX7_need l hst D cI H.size h_s h_s_file h_s_file_bytes s_place s_file_size s_file_bytes k1 tg1 hc2) (qX1_read_X7_need_116 hts) ⟨zPT_blind, va_recv hK hP (ci := 6) (q0 := 2) rfl rfl, zpreT hK hN hT hA hS hP hD [2, 3, 4] rfl rfl⟩ rfl rfl hl.1 rfl (lv_room (Nat.le_of_ble_eq_true rfl)) dX1_read_106 hle) hP hD hS hA [2, 3, 4] [0, 1, 5, 6] [0, 1, 4, 5, 6, 2, 3] (ws' := zwX1 cI h_t h_t_table t_last t_table ++ zwX7 cI h_s h_s_file h_s_file_bytes s_place s_file_size s_file_bytes ++ zwX5 cI h_p h_p_pixels p_wide p_high p_pixels) rfl rfl rfl rfl rfl rfl (fun ht H locs q9 ce hP hD hS hq hv hcl => ?_) (fun ht H locs hP hD hS => ?_)
  · replace hf := zif_f hf ht
    cases hf
    exact hX _ _ _ _ _ _ _ ht hP hD hS hq hv hcl
  · replace hf := zif_t hf ht
    clear hle
    obtain ⟨x3, ex3⟩ : ∃ y : Int32, y = l6 + 1 := ⟨_, rfl⟩
    replace hf := zlet_in hf ex3
    refine lv_iinc (v := x3) (lv' := [(6, .int x3), (0, .ref h_t), (1, .ref h_s), (2, .ref h_p), (3, .int l3), (4, .int l4), (5, .int l5)]) hx hb dX1_read_109 hl (k := 6) rfl (by rw [ex3]; rfl) (by decide) rfl (fun ls hl => ?_)
    clear ex3
    refine lv_goto (tgt := 86) hx hb dX1_read_112 (by decide) ?_
    exact hr_86 hf hP hD hS (lv_sub hl [1, 2, 3, 4, 5, 6, 0] rfl)
set_option maxHeartbeats 4000000 in
set_option maxRecDepth 100000 in
theorem wX1_read_86 {p : Program} {l : Launch} {e : Env} {s : State} {m : MethodId} {args : Array Value} {below : List Frame} {meth : Method} {c : Code} {D : va_G} {A : Nat → Prop} {Q : State → Prop} {cI : ClassId} {h_t h_t_table h_s h_s_file h_s_file_bytes h_p h_p_pixels : Nat} {s_file_size : Int32} {s_file_bytes : Nat → Int32} {tg0 : Nat} {zt_last : Int32} {zt_table : Nat → Int32} {zs_place : Int32} {zp_wide : Int32} {zp_high : Int32} {zp_pixels : Nat → Int32} (C : CallFix p m c cX1_read 7 s args wsX1_read RX1) (hN : zN s) (hK : va_K D vwCl [(cI, .int)] s) (hA : ∀ q, s.heap.size ≤ q → A q) (hT : zTh A s) (hst : l.stackTraces = false) (hE : zTEv tg0 p l e (rmX1_read tg0) s m args below meth c cX1_read D A Q (zwX1 cI h_t h_t_table zt_last zt_table ++ zwX7 cI h_s h_s_file h_s_file_bytes zs_place s_file_size s_file_bytes ++ zwX5 cI h_p h_p_pixels zp_wide zp_high zp_pixels)) (hX : zTX tg0 p l e (rmX1_read tg0) s m args below meth c D A Q (zwX1 cI h_t h_t_table zt_last zt_table ++ zwX7 cI h_s h_s_file h_s_file_bytes zs_place s_file_size s_file_bytes ++ zwX5 cI h_p h_p_pixels zp_wide zp_high zp_pixels)) (n : Nat) : ∀ {t_last : Int32} {t_table : Nat → Int32} {s_place : Int32} {p_wide : Int32} {p_high : Int32} {p_pixels : Nat → Int32} {l3 : Int32} {l4 : Int32} {l5 : Int32} {l6 : Int32} {H : Heap} {locs : List Loc} {ls : Array Slot}, fX1_read_86 n t_last t_table s_place s_file_size s_file_bytes p_wide p_high p_pixels l6 = some (tg0, zt_last, zt_table, zs_place, zp_wide, zp_high, zp_pixels) → va_P D vwCl (zwX1 cI h_t h_t_table t_last t_table ++ zwX7 cI h_s h_s_file h_s_file_bytes s_place s_file_size s_file_bytes ++ zwX5 cI h_p h_p_pixels p_wide p_high p_pixels) H → va_D A (zwX1 cI h_t h_t_table t_last t_table ++ zwX7 cI h_s h_s_file h_s_file_bytes s_place s_file_size s_file_bytes ++ zwX5 cI h_p h_p_pixels p_wide p_high p_pixels) → va_S A s.heap H locs → lv_has ls 7 [(0, .ref h_t), (1, .ref h_s), (2, .ref h_p), (3, .int l3), (4, .int l4), (5, .int l5), (6, .int l6)] → W p l e (rmX1_read tg0) s m args below meth c H locs 0 0 Q (F0 m 86 ls []) := by
  obtain ⟨hx, hb, hml, hown, hts⟩ := id C
  induction n with
  | zero =>
    intro t_last t_table s_place p_wide p_high p_pixels l3 l4 l5 l6 H locs ls hf
    cases hf
  | succ n hr_86 =>
    intro t_last t_table s_place p_wide p_high p_pixels l3 l4 l5 l6 H locs ls hf hP hD hS hl
    rw [fX1_read_86_s] at hf
    refine lv_iload hx hb dX1_read_86 (lv_at hl 6 rfl) ?_
    refine lv_bipush (v := 7) hx hb dX1_read_88 (by decide) ?_
    refine lv_icmp_ge (tgt := 115) hx hb dX1_read_90 (by decide) (fun c1 => ?_) (fun c1 => ?_)
    · replace hf := zif_t hf c1
      refine lv_aload_n hx hb dX1_read_115 rfl (lv_at hl 1 rfl) ?_
      refine lv_aload_n hx hb dX1_read_116 rfl (lv_at hl 1 rfl) ?_
      obtain ⟨tg2, r3, u4, hc5, hf⟩ := zb3_in hf
      have hle := zT_le hf
      refine zcx_i (vx_runV (As := []) (rest := [.ref h_s]) C (mX7_next l hst D cI H.size h_s h_s_file h_s_file_bytes s_place s_file_size s_file_bytes tg2 r3 u4 hc5) (qX1_read_X7_next_113 hts) ⟨zPT_blind, va_recv hK hP (ci := 6) (q0 := 2) rfl rfl, zpreT hK hN hT hA hS hP hD [2, 3, 4] rfl rfl⟩ rfl rfl hl.1 rfl (lv_room (Nat.le_of_ble_eq_true rfl)) dX1_read_117 hle) hP hD hS hA [2, 3, 4] [0, 1, 5, 6] [0, 1, 4, 5, 6, 2, 3] (ws' := zwX1 cI h_t h_t_table t_last t_table ++ zwX7 cI h_s h_s_file h_s_file_bytes u4 s_file_size s_file_bytes ++ zwX5 cI h_p h_p_pixels p_wide p_high p_pixels) rfl rfl rfl rfl rfl rfl (fun ht H locs q9 ce hP hD hS hq hv hcl => ?_) (fun ht H locs hP hD hS => ?_)
      · replace hf := zif_f hf ht
        cases hf
        exact hX _ _ _ _ _ _ _ ht hP hD hS hq hv hcl
      · replace hf := zif_t hf ht
        clear hle
        refine lv_iconst (v := 1) hx hb dX1_read_120 (by decide) ?_
        refine lv_icmp_ne (tgt := 128) hx hb dX1_read_121 (by decide) (fun c6 => ?_) (fun c6 => ?_)
        · replace hf := zif_f hf c6
          refine lv_iconst (v := 0) hx hb dX1_read_128 (by decide) ?_
          exact wX1_read_129 C hN hK hA hT hst hE hX hf hP hD hS (lv_sub hl [0, 1, 2, 3, 4, 5, 6] rfl)
        · replace hf := zif_t hf c6
          refine lv_iconst (v := 1) hx hb dX1_read_124 (by decide) ?_
          refine lv_goto (tgt := 129) hx hb dX1_read_125 (by decide) ?_
          exact wX1_read_129 C hN hK hA hT hst hE hX hf hP hD hS (lv_sub hl [0, 1, 2, 3, 4, 5, 6] rfl)
    · replace hf := zif_f hf c1
      refine lv_aload_n hx hb dX1_read_93 rfl (lv_at hl 1 rfl) ?_
      refine lv_aload_n hx hb dX1_read_94 rfl (lv_at hl 1 rfl) ?_
      obtain ⟨tg7, r8, u9, hc10, hf⟩ := zb3_in hf
      have hle := zT_le hf
      refine zcx_i (vx_runV (As := []) (rest := [.ref h_s]) C (mX7_next l hst D cI H.size h_s h_s_file h_s_file_bytes s_place s_file_size s_file_bytes tg7 r8 u9 hc10) (qX1_read_X7_next_113 hts) ⟨zPT_blind, va_recv hK hP (ci := 6) (q0 := 2) rfl rfl, zpreT hK hN hT hA hS hP hD [2, 3, 4] rfl rfl⟩ rfl rfl hl.1 rfl (lv_room (Nat.le_of_ble_eq_true rfl)) dX1_read_95 hle) hP hD hS hA [2, 3, 4] [0, 1, 5, 6] [0, 1, 4, 5, 6, 2, 3] (ws' := zwX1 cI h_t h_t_table t_last t_table ++ zwX7 cI h_s h_s_file h_s_file_bytes u9 s_file_size s_file_bytes ++ zwX5 cI h_p h_p_pixels p_wide p_high p_pixels) rfl rfl rfl rfl rfl rfl (fun ht H locs q9 ce hP hD hS hq hv hcl => ?_) (fun ht H locs hP hD hS => ?_)
      · replace hf := zif_f hf ht
        cases hf
        exact hX _ _ _ _ _ _ _ ht hP hD hS hq hv hcl
      · replace hf := zif_t hf ht
        clear hle
        refine lv_if_ne (tgt := 105) hx hb dX1_read_98 (by decide) (fun c11 => ?_) (fun c11 => ?_)
        · replace hf := zif_f hf c11
          refine lv_iconst (v := 0) hx hb dX1_read_105 (by decide) ?_
          exact wX1_read_106 C hN hK hA hT hst hE hX hr_86 hf hP hD hS (lv_sub hl [0, 1, 2, 3, 4, 5, 6] rfl)
        · replace hf := zif_t hf c11
          refine lv_iconst (v := 1) hx hb dX1_read_101 (by decide) ?_
          refine lv_goto (tgt := 106) hx hb dX1_read_102 (by decide) ?_
          exact wX1_read_106 C hN hK hA hT hst hE hX hr_86 hf hP hD hS (lv_sub hl [0, 1, 2, 3, 4, 5, 6] rfl)
set_option maxHeartbeats 4000000 in
set_option maxRecDepth 100000 in
theorem wX1_read_67 {p : Program} {l : Launch} {e : Env} {s : State} {m : MethodId} {args : Array Value} {below : List Frame} {meth : Method} {c : Code} {D : va_G} {A : Nat → Prop} {Q : State → Prop} {cI : ClassId} {h_t h_t_table h_s h_s_file h_s_file_bytes h_p h_p_pixels : Nat} {s_file_size : Int32} {s_file_bytes : Nat → Int32} {tg0 : Nat} {zt_last : Int32} {zt_table : Nat → Int32} {zs_place : Int32} {zp_wide : Int32} {zp_high : Int32} {zp_pixels : Nat → Int32} (C : CallFix p m c cX1_read 7 s args wsX1_read RX1) (hN : zN s) (hK : va_K D vwCl [(cI, .int)] s) (hA : ∀ q, s.heap.size ≤ q → A q) (hT : zTh A s) (hst : l.stackTraces = false) (hE : zTEv tg0 p l e (rmX1_read tg0) s m args below meth c cX1_read D A Q (zwX1 cI h_t h_t_table zt_last zt_table ++ zwX7 cI h_s h_s_file h_s_file_bytes zs_place s_file_size s_file_bytes ++ zwX5 cI h_p h_p_pixels zp_wide zp_high zp_pixels)) (hX : zTX tg0 p l e (rmX1_read tg0) s m args below meth c D A Q (zwX1 cI h_t h_t_table zt_last zt_table ++ zwX7 cI h_s h_s_file h_s_file_bytes zs_place s_file_size s_file_bytes ++ zwX5 cI h_p h_p_pixels zp_wide zp_high zp_pixels)) {t_last : Int32} {t_table : Nat → Int32} {s_place : Int32} {p_wide : Int32} {p_high : Int32} {p_pixels : Nat → Int32} {l3 : Int32} {l4 : Int32} {l5 : Int32} {k1 : Int32} {H : Heap} {locs : List Loc} {ls : Array Slot} : fX1_read_67 t_last t_table s_place s_file_size s_file_bytes p_wide p_high p_pixels l3 l4 k1 = some (tg0, zt_last, zt_table, zs_place, zp_wide, zp_high, zp_pixels) → va_P D vwCl (zwX1 cI h_t h_t_table t_last t_table ++ zwX7 cI h_s h_s_file h_s_file_bytes s_place s_file_size s_file_bytes ++ zwX5 cI h_p h_p_pixels p_wide p_high p_pixels) H → va_D A (zwX1 cI h_t h_t_table t_last t_table ++ zwX7 cI h_s h_s_file h_s_file_bytes s_place s_file_size s_file_bytes ++ zwX5 cI h_p h_p_pixels p_wide p_high p_pixels) → va_S A s.heap H locs → lv_has ls 7 [(0, .ref h_t), (1, .ref h_s), (2, .ref h_p), (3, .int l3), (4, .int l4), (5, .int l5)] → W p l e (rmX1_read tg0) s m args below meth c H locs 0 0 Q (F0 m 67 ls [.int k1, .ref h_s]) := by
  intro hf hP hD hS hl
  obtain ⟨hx, hb, hml, hown, hts⟩ := id C
  unfold fX1_read_67 at hf
  obtain ⟨tg1, hc2, hf⟩ := zb1_in hf
  have hle := zT_le hf
  refine zcx_v (vx_runV (As := [.int k1]) (rest := []) C (mX7_need l hst D cI H.size h_s h_s_file h_s_file_bytes s_place s_file_size s_file_bytes k1 tg1 hc2) (qX1_read_X7_need_116 hts) ⟨zPT_blind, va_recv hK hP (ci := 6) (q0 := 2) rfl rfl, zpreT hK hN hT hA hS hP hD [2, 3, 4] rfl rfl⟩ rfl rfl hl.1 rfl (lv_room (Nat.le_of_ble_eq_true rfl)) dX1_read_67 hle) hP hD hS hA [2, 3, 4] [0, 1, 5, 6] [0, 1, 4, 5, 6, 2, 3] (ws' := zwX1 cI h_t h_t_table t_last t_table ++ zwX7 cI h_s h_s_file h_s_file_bytes s_place s_file_size s_file_bytes ++ zwX5 cI h_p h_p_pixels p_wide p_high p_pixels) rfl rfl rfl rfl rfl rfl (fun ht H locs q9 ce hP hD hS hq hv hcl => ?_) (fun ht H locs hP hD hS => ?_)
  · replace hf := zif_f hf ht
    cases hf
    exact hX _ _ _ _ _ _ _ ht hP hD hS hq hv hcl
  · replace hf := zif_t hf ht
    clear hle
    refine lv_aload_n hx hb dX1_read_70 rfl (lv_at hl 2 rfl) ?_
    refine lv_iload_n hx hb dX1_read_71 rfl (lv_at hl 3 rfl) ?_
    refine lv_iload hx hb dX1_read_72 (lv_at hl 4 rfl) ?_
    obtain ⟨u3, u4, u5, hc6, hf⟩ := zb3_in hf
    refine zc_v (va_runV (As := [.int l3, .int l4]) (rest := []) C (mX5_begin l D cI H.size h_p h_p_pixels p_wide p_high p_pixels l3 l4 u3 u4 u5 hc6) (qX1_read_X5_begin_120 hts) ⟨zP_blind, va_recv hK hP (ci := 4) (q0 := 5) rfl rfl, zpre hK hN hP hD [5, 6] rfl rfl⟩ rfl rfl hl.1 rfl (lv_room (Nat.le_of_ble_eq_true rfl)) dX1_read_74 ⟨Nat.zero_le _, Nat.zero_le _⟩) hP hD hS hA [5, 6] [0, 1, 2, 3, 4] [0, 1, 2, 3, 4, 5, 6] (ws' := zwX1 cI h_t h_t_table t_last t_table ++ zwX7 cI h_s h_s_file h_s_file_bytes s_place s_file_size s_file_bytes ++ zwX5 cI h_p h_p_pixels u3 u4 u5) rfl rfl rfl rfl rfl rfl (fun H locs hP hD hS => ?_)
    refine lv_aload_n hx hb dX1_read_77 rfl (lv_at hl 0 rfl) ?_
    refine lv_aload_n hx hb dX1_read_78 rfl (lv_at hl 1 rfl) ?_
    refine lv_aload_n hx hb dX1_read_79 rfl (lv_at hl 2 rfl) ?_
    obtain ⟨tg7, u8, u9, u10, u11, hc12, hf⟩ := zb5_in hf
    have hle := zT_le hf
    refine zcx_v (vx_runV (As := [.ref h_s, .ref h_p]) (rest := []) C (mX1_readChunks l hst D cI H.size h_t h_t_table h_s h_s_file h_s_file_bytes h_p h_p_pixels t_last t_table s_place s_file_size s_file_bytes u3 u4 u5 tg7 u8 u9 u10 u11 hc12) (qX1_read_X1_readChunks_123 hts) ⟨zPT_blind, va_recv hK hP (ci := 1) (q0 := 0) rfl rfl, zpreT hK hN hT hA hS hP hD [0, 1, 2, 3, 4, 5, 6] rfl rfl⟩ rfl rfl hl.1 rfl (lv_room (Nat.le_of_ble_eq_true rfl)) dX1_read_80 hle) hP hD hS hA [0, 1, 2, 3, 4, 5, 6] [] [0, 1, 2, 3, 4, 5, 6] (ws' := zwX1 cI h_t h_t_table u8 u9 ++ zwX7 cI h_s h_s_file h_s_file_bytes u10 s_file_size s_file_bytes ++ zwX5 cI h_p h_p_pixels u3 u4 u11) rfl rfl rfl rfl rfl rfl (fun ht H locs q9 ce hP hD hS hq hv hcl => ?_) (fun ht H locs hP hD hS => ?_)
    · replace hf := zif_f hf ht
      cases hf
      exact hX _ _ _ _ _ _ _ ht hP hD hS hq hv hcl
    · replace hf := zif_t hf ht
      clear hle
      refine lv_iconst (v := 0) hx hb dX1_read_83 (by decide) ?_
      refine lv_istore (lv' := [(6, .int 0), (0, .ref h_t), (1, .ref h_s), (2, .ref h_p), (3, .int l3), (4, .int l4), (5, .int l5)]) hx hb dX1_read_84 hl (by decide) rfl (fun ls hl => ?_)
      exact wX1_read_86 C hN hK hA hT hst hE hX 1000 hf hP hD hS (lv_sub hl [1, 2, 3, 4, 5, 6, 0] rfl)
set_option maxHeartbeats 4000000 in
set_option maxRecDepth 100000 in
theorem wX1_read_50 {p : Program} {l : Launch} {e : Env} {s : State} {m : MethodId} {args : Array Value} {below : List Frame} {meth : Method} {c : Code} {D : va_G} {A : Nat → Prop} {Q : State → Prop} {cI : ClassId} {h_t h_t_table h_s h_s_file h_s_file_bytes h_p h_p_pixels : Nat} {s_file_size : Int32} {s_file_bytes : Nat → Int32} {tg0 : Nat} {zt_last : Int32} {zt_table : Nat → Int32} {zs_place : Int32} {zp_wide : Int32} {zp_high : Int32} {zp_pixels : Nat → Int32} (C : CallFix p m c cX1_read 7 s args wsX1_read RX1) (hN : zN s) (hK : va_K D vwCl [(cI, .int)] s) (hA : ∀ q, s.heap.size ≤ q → A q) (hT : zTh A s) (hst : l.stackTraces = false) (hE : zTEv tg0 p l e (rmX1_read tg0) s m args below meth c cX1_read D A Q (zwX1 cI h_t h_t_table zt_last zt_table ++ zwX7 cI h_s h_s_file h_s_file_bytes zs_place s_file_size s_file_bytes ++ zwX5 cI h_p h_p_pixels zp_wide zp_high zp_pixels)) (hX : zTX tg0 p l e (rmX1_read tg0) s m args below meth c D A Q (zwX1 cI h_t h_t_table zt_last zt_table ++ zwX7 cI h_s h_s_file h_s_file_bytes zs_place s_file_size s_file_bytes ++ zwX5 cI h_p h_p_pixels zp_wide zp_high zp_pixels)) {t_last : Int32} {t_table : Nat → Int32} {s_place : Int32} {p_wide : Int32} {p_high : Int32} {p_pixels : Nat → Int32} {l3 : Int32} {l4 : Int32} {l5 : Int32} {k1 : Int32} {H : Heap} {locs : List Loc} {ls : Array Slot} : fX1_read_50 t_last t_table s_place s_file_size s_file_bytes p_wide p_high p_pixels l3 l4 k1 = some (tg0, zt_last, zt_table, zs_place, zp_wide, zp_high, zp_pixels) → va_P D vwCl (zwX1 cI h_t h_t_table t_last t_table ++ zwX7 cI h_s h_s_file h_s_file_bytes s_place s_file_size s_file_bytes ++ zwX5 cI h_p h_p_pixels p_wide p_high p_pixels) H → va_D A (zwX1 cI h_t h_t_table t_last t_table ++ zwX7 cI h_s h_s_file h_s_file_bytes s_place s_file_size s_file_bytes ++ zwX5 cI h_p h_p_pixels p_wide p_high p_pixels) → va_S A s.heap H locs → lv_has ls 7 [(0, .ref h_t), (1, .ref h_s), (2, .ref h_p), (3, .int l3), (4, .int l4), (5, .int l5)] → W p l e (rmX1_read tg0) s m args below meth c H locs 0 0 Q (F0 m 50 ls [.int k1, .ref h_s]) := by
  intro hf hP hD hS hl
  obtain ⟨hx, hb, hml, hown, hts⟩ := id C
  unfold fX1_read_50 at hf
  obtain ⟨tg1, hc2, hf⟩ := zb1_in hf
  have hle := zT_le hf
  refine zcx_v (vx_runV (As := [.int k1]) (rest := []) C (mX7_need l hst D cI H.size h_s h_s_file h_s_file_bytes s_place s_file_size s_file_bytes k1 tg1 hc2) (qX1_read_X7_need_116 hts) ⟨zPT_blind, va_recv hK hP (ci := 6) (q0 := 2) rfl rfl, zpreT hK hN hT hA hS hP hD [2, 3, 4] rfl rfl⟩ rfl rfl hl.1 rfl (lv_room (Nat.le_of_ble_eq_true rfl)) dX1_read_50 hle) hP hD hS hA [2, 3, 4] [0, 1, 5, 6] [0, 1, 4, 5, 6, 2, 3] (ws' := zwX1 cI h_t h_t_table t_last t_table ++ zwX7 cI h_s h_s_file h_s_file_bytes s_place s_file_size s_file_bytes ++ zwX5 cI h_p h_p_pixels p_wide p_high p_pixels) rfl rfl rfl rfl rfl rfl (fun ht H locs q9 ce hP hD hS hq hv hcl => ?_) (fun ht H locs hP hD hS => ?_)
  · replace hf := zif_f hf ht
    cases hf
    exact hX _ _ _ _ _ _ _ ht hP hD hS hq hv hcl
  · replace hf := zif_t hf ht
    clear hle
    refine lv_aload_n hx hb dX1_read_53 rfl (lv_at hl 1 rfl) ?_
    refine lv_aload_n hx hb dX1_read_54 rfl (lv_at hl 1 rfl) ?_
    obtain ⟨tg3, r4, u5, hc6, hf⟩ := zb3_in hf
    have hle := zT_le hf
    refine zcx_i (vx_runV (As := []) (rest := [.ref h_s]) C (mX7_next l hst D cI H.size h_s h_s_file h_s_file_bytes s_place s_file_size s_file_bytes tg3 r4 u5 hc6) (qX1_read_X7_next_113 hts) ⟨zPT_blind, va_recv hK hP (ci := 6) (q0 := 2) rfl rfl, zpreT hK hN hT hA hS hP hD [2, 3, 4] rfl rfl⟩ rfl rfl hl.1 rfl (lv_room (Nat.le_of_ble_eq_true rfl)) dX1_read_55 hle) hP hD hS hA [2, 3, 4] [0, 1, 5, 6] [0, 1, 4, 5, 6, 2, 3] (ws' := zwX1 cI h_t h_t_table t_last t_table ++ zwX7 cI h_s h_s_file h_s_file_bytes u5 s_file_size s_file_bytes ++ zwX5 cI h_p h_p_pixels p_wide p_high p_pixels) rfl rfl rfl rfl rfl rfl (fun ht H locs q9 ce hP hD hS hq hv hcl => ?_) (fun ht H locs hP hD hS => ?_)
    · replace hf := zif_f hf ht
      cases hf
      exact hX _ _ _ _ _ _ _ ht hP hD hS hq hv hcl
    · replace hf := zif_t hf ht
      clear hle
      refine lv_iconst (v := 1) hx hb dX1_read_58 (by decide) ?_
      refine lv_icmp_gt (tgt := 66) hx hb dX1_read_59 (by decide) (fun c7 => ?_) (fun c7 => ?_)
      · replace hf := zif_t hf c7
        refine lv_iconst (v := 0) hx hb dX1_read_66 (by decide) ?_
        exact wX1_read_67 C hN hK hA hT hst hE hX hf hP hD hS (lv_sub hl [0, 1, 2, 3, 4, 5] rfl)
      · replace hf := zif_f hf c7
        refine lv_iconst (v := 1) hx hb dX1_read_62 (by decide) ?_
        refine lv_goto (tgt := 67) hx hb dX1_read_63 (by decide) ?_
        exact wX1_read_67 C hN hK hA hT hst hE hX hf hP hD hS (lv_sub hl [0, 1, 2, 3, 4, 5] rfl)
set_option maxHeartbeats 4000000 in
set_option maxRecDepth 100000 in
theorem wX1_read_45 {p : Program} {l : Launch} {e : Env} {s : State} {m : MethodId} {args : Array Value} {below : List Frame} {meth : Method} {c : Code} {D : va_G} {A : Nat → Prop} {Q : State → Prop} {cI : ClassId} {h_t h_t_table h_s h_s_file h_s_file_bytes h_p h_p_pixels : Nat} {s_file_size : Int32} {s_file_bytes : Nat → Int32} {tg0 : Nat} {zt_last : Int32} {zt_table : Nat → Int32} {zs_place : Int32} {zp_wide : Int32} {zp_high : Int32} {zp_pixels : Nat → Int32} (C : CallFix p m c cX1_read 7 s args wsX1_read RX1) (hN : zN s) (hK : va_K D vwCl [(cI, .int)] s) (hA : ∀ q, s.heap.size ≤ q → A q) (hT : zTh A s) (hst : l.stackTraces = false) (hE : zTEv tg0 p l e (rmX1_read tg0) s m args below meth c cX1_read D A Q (zwX1 cI h_t h_t_table zt_last zt_table ++ zwX7 cI h_s h_s_file h_s_file_bytes zs_place s_file_size s_file_bytes ++ zwX5 cI h_p h_p_pixels zp_wide zp_high zp_pixels)) (hX : zTX tg0 p l e (rmX1_read tg0) s m args below meth c D A Q (zwX1 cI h_t h_t_table zt_last zt_table ++ zwX7 cI h_s h_s_file h_s_file_bytes zs_place s_file_size s_file_bytes ++ zwX5 cI h_p h_p_pixels zp_wide zp_high zp_pixels)) {t_last : Int32} {t_table : Nat → Int32} {s_place : Int32} {p_wide : Int32} {p_high : Int32} {p_pixels : Nat → Int32} {l3 : Int32} {l4 : Int32} {l5 : Int32} {H : Heap} {locs : List Loc} {ls : Array Slot} : fX1_read_45 t_last t_table s_place s_file_size s_file_bytes p_wide p_high p_pixels l3 l4 = some (tg0, zt_last, zt_table, zs_place, zp_wide, zp_high, zp_pixels) → va_P D vwCl (zwX1 cI h_t h_t_table t_last t_table ++ zwX7 cI h_s h_s_file h_s_file_bytes s_place s_file_size s_file_bytes ++ zwX5 cI h_p h_p_pixels p_wide p_high p_pixels) H → va_D A (zwX1 cI h_t h_t_table t_last t_table ++ zwX7 cI h_s h_s_file h_s_file_bytes s_place s_file_size s_file_bytes ++ zwX5 cI h_p h_p_pixels p_wide p_high p_pixels) → va_S A s.heap H locs → lv_has ls 7 [(0, .ref h_t), (1, .ref h_s), (2, .ref h_p), (3, .int l3), (4, .int l4), (5, .int l5)] → W p l e (rmX1_read tg0) s m args below meth c H locs 0 0 Q (F0 m 45 ls [.ref h_s]) := by
  intro hf hP hD hS hl
  obtain ⟨hx, hb, hml, hown, hts⟩ := id C
  unfold fX1_read_45 at hf
  refine lv_iconst (v := 1) hx hb dX1_read_45 (by decide) ?_
  refine lv_goto (tgt := 50) hx hb dX1_read_46 (by decide) ?_
  exact wX1_read_50 C hN hK hA hT hst hE hX hf hP hD hS (lv_sub hl [0, 1, 2, 3, 4, 5] rfl)
set_option maxHeartbeats 4000000 in
set_option maxRecDepth 100000 in
theorem wX1_read_0 {p : Program} {l : Launch} {e : Env} {s : State} {m : MethodId} {args : Array Value} {below : List Frame} {meth : Method} {c : Code} {D : va_G} {A : Nat → Prop} {Q : State → Prop} {cI : ClassId} {h_t h_t_table h_s h_s_file h_s_file_bytes h_p h_p_pixels : Nat} {s_file_size : Int32} {s_file_bytes : Nat → Int32} {tg0 : Nat} {zt_last : Int32} {zt_table : Nat → Int32} {zs_place : Int32} {zp_wide : Int32} {zp_high : Int32} {zp_pixels : Nat → Int32} (C : CallFix p m c cX1_read 7 s args wsX1_read RX1) (hN : zN s) (hK : va_K D vwCl [(cI, .int)] s) (hA : ∀ q, s.heap.size ≤ q → A q) (hT : zTh A s) (hst : l.stackTraces = false) (hE : zTEv tg0 p l e (rmX1_read tg0) s m args below meth c cX1_read D A Q (zwX1 cI h_t h_t_table zt_last zt_table ++ zwX7 cI h_s h_s_file h_s_file_bytes zs_place s_file_size s_file_bytes ++ zwX5 cI h_p h_p_pixels zp_wide zp_high zp_pixels)) (hX : zTX tg0 p l e (rmX1_read tg0) s m args below meth c D A Q (zwX1 cI h_t h_t_table zt_last zt_table ++ zwX7 cI h_s h_s_file h_s_file_bytes zs_place s_file_size s_file_bytes ++ zwX5 cI h_p h_p_pixels zp_wide zp_high zp_pixels)) {t_last : Int32} {t_table : Nat → Int32} {s_place : Int32} {p_wide : Int32} {p_high : Int32} {p_pixels : Nat → Int32} {H : Heap} {locs : List Loc} {ls : Array Slot} : fX1_read t_last t_table s_place s_file_size s_file_bytes p_wide p_high p_pixels = some (tg0, zt_last, zt_table, zs_place, zp_wide, zp_high, zp_pixels) → va_P D vwCl (zwX1 cI h_t h_t_table t_last t_table ++ zwX7 cI h_s h_s_file h_s_file_bytes s_place s_file_size s_file_bytes ++ zwX5 cI h_p h_p_pixels p_wide p_high p_pixels) H → va_D A (zwX1 cI h_t h_t_table t_last t_table ++ zwX7 cI h_s h_s_file h_s_file_bytes s_place s_file_size s_file_bytes ++ zwX5 cI h_p h_p_pixels p_wide p_high p_pixels) → va_S A s.heap H locs → lv_has ls 7 [(0, .ref h_t), (1, .ref h_s), (2, .ref h_p)] → W p l e (rmX1_read tg0) s m args below meth c H locs 0 0 Q (F0 m 0 ls []) := by
  intro hf hP hD hS hl
  obtain ⟨hx, hb, hml, hown, hts⟩ := id C
  unfold fX1_read at hf
  refine lv_aload_n hx hb dX1_read_0 rfl (lv_at hl 1 rfl) ?_
  refine lv_iconst (v := 4) hx hb dX1_read_1 (by decide) ?_
  obtain ⟨tg1, u2, hc3, hf⟩ := zb2_in hf
  have hle := zT_le hf
  refine zcx_v (vx_runV (As := [.int 4]) (rest := []) C (mX7_pass l hst D cI H.size h_s h_s_file h_s_file_bytes s_place s_file_size s_file_bytes 4 tg1 u2 hc3) (qX1_read_X7_pass_102 hts) ⟨zPT_blind, va_recv hK hP (ci := 6) (q0 := 2) rfl rfl, zpreT hK hN hT hA hS hP hD [2, 3, 4] rfl rfl⟩ rfl rfl hl.1 rfl (lv_room (Nat.le_of_ble_eq_true rfl)) dX1_read_2 hle) hP hD hS hA [2, 3, 4] [0, 1, 5, 6] [0, 1, 4, 5, 6, 2, 3] (ws' := zwX1 cI h_t h_t_table t_last t_table ++ zwX7 cI h_s h_s_file h_s_file_bytes u2 s_file_size s_file_bytes ++ zwX5 cI h_p h_p_pixels p_wide p_high p_pixels) rfl rfl rfl rfl rfl rfl (fun ht H locs q9 ce hP hD hS hq hv hcl => ?_) (fun ht H locs hP hD hS => ?_)
  · replace hf := zif_f hf ht
    cases hf
    exact hX _ _ _ _ _ _ _ ht hP hD hS hq hv hcl
  · replace hf := zif_t hf ht
    clear hle
    refine lv_aload_n hx hb dX1_read_5 rfl (lv_at hl 1 rfl) ?_
    refine lv_aload_n hx hb dX1_read_6 rfl (lv_at hl 1 rfl) ?_
    refine lv_iconst (v := 4) hx hb dX1_read_7 (by decide) ?_
    obtain ⟨tg4, r5, u6, hc7, hf⟩ := zb3_in hf
    have hle := zT_le hf
    refine zcx_i (vx_runV (As := [.int 4]) (rest := [.ref h_s]) C (mX7_big l hst D cI H.size h_s h_s_file h_s_file_bytes u2 s_file_size s_file_bytes 4 tg4 r5 u6 hc7) (qX1_read_X7_big_107 hts) ⟨zPT_blind, va_recv hK hP (ci := 6) (q0 := 2) rfl rfl, zpreT hK hN hT hA hS hP hD [2, 3, 4] rfl rfl⟩ rfl rfl hl.1 rfl (lv_room (Nat.le_of_ble_eq_true rfl)) dX1_read_8 hle) hP hD hS hA [2, 3, 4] [0, 1, 5, 6] [0, 1, 4, 5, 6, 2, 3] (ws' := zwX1 cI h_t h_t_table t_last t_table ++ zwX7 cI h_s h_s_file h_s_file_bytes u6 s_file_size s_file_bytes ++ zwX5 cI h_p h_p_pixels p_wide p_high p_pixels) rfl rfl rfl rfl rfl rfl (fun ht H locs q9 ce hP hD hS hq hv hcl => ?_) (fun ht H locs hP hD hS => ?_)
    · replace hf := zif_f hf ht
      cases hf
      exact hX _ _ _ _ _ _ _ ht hP hD hS hq hv hcl
    · replace hf := zif_t hf ht
      clear hle
      obtain ⟨tg8, r9, hc10, hf⟩ := zb2_in hf
      have hle := zT_le hf
      refine zcx_i (vx_runV (As := [.int r5]) (rest := []) C (mX7_needSide l hst D cI H.size h_s h_s_file h_s_file_bytes u6 s_file_size s_file_bytes r5 tg8 r9 hc10) (qX1_read_X7_needSide_110 hts) ⟨zPT_blind, va_recv hK hP (ci := 6) (q0 := 2) rfl rfl, zpreT hK hN hT hA hS hP hD [2, 3, 4] rfl rfl⟩ rfl rfl hl.1 rfl (lv_room (Nat.le_of_ble_eq_true rfl)) dX1_read_11 hle) hP hD hS hA [2, 3, 4] [0, 1, 5, 6] [0, 1, 4, 5, 6, 2, 3] (ws' := zwX1 cI h_t h_t_table t_last t_table ++ zwX7 cI h_s h_s_file h_s_file_bytes u6 s_file_size s_file_bytes ++ zwX5 cI h_p h_p_pixels p_wide p_high p_pixels) rfl rfl rfl rfl rfl rfl (fun ht H locs q9 ce hP hD hS hq hv hcl => ?_) (fun ht H locs hP hD hS => ?_)
      · replace hf := zif_f hf ht
        cases hf
        exact hX _ _ _ _ _ _ _ ht hP hD hS hq hv hcl
      · replace hf := zif_t hf ht
        clear hle
        refine lv_istore_n (lv' := [(3, .int r9), (0, .ref h_t), (1, .ref h_s), (2, .ref h_p)]) hx hb dX1_read_14 rfl hl (by decide) rfl (fun ls hl => ?_)
        refine lv_aload_n hx hb dX1_read_15 rfl (lv_at hl 2 rfl) ?_
        refine lv_aload_n hx hb dX1_read_16 rfl (lv_at hl 2 rfl) ?_
        refine lv_iconst (v := 4) hx hb dX1_read_17 (by decide) ?_
        obtain ⟨tg11, r12, u13, hc14, hf⟩ := zb3_in hf
        have hle := zT_le hf
        refine zcx_i (vx_runV (As := [.int 4]) (rest := [.ref h_s]) C (mX7_big l hst D cI H.size h_s h_s_file h_s_file_bytes u6 s_file_size s_file_bytes 4 tg11 r12 u13 hc14) (qX1_read_X7_big_107 hts) ⟨zPT_blind, va_recv hK hP (ci := 6) (q0 := 2) rfl rfl, zpreT hK hN hT hA hS hP hD [2, 3, 4] rfl rfl⟩ rfl rfl hl.1 rfl (lv_room (Nat.le_of_ble_eq_true rfl)) dX1_read_18 hle) hP hD hS hA [2, 3, 4] [0, 1, 5, 6] [0, 1, 4, 5, 6, 2, 3] (ws' := zwX1 cI h_t h_t_table t_last t_table ++ zwX7 cI h_s h_s_file h_s_file_bytes u13 s_file_size s_file_bytes ++ zwX5 cI h_p h_p_pixels p_wide p_high p_pixels) rfl rfl rfl rfl rfl rfl (fun ht H locs q9 ce hP hD hS hq hv hcl => ?_) (fun ht H locs hP hD hS => ?_)
        · replace hf := zif_f hf ht
          cases hf
          exact hX _ _ _ _ _ _ _ ht hP hD hS hq hv hcl
        · replace hf := zif_t hf ht
          clear hle
          obtain ⟨tg15, r16, hc17, hf⟩ := zb2_in hf
          have hle := zT_le hf
          refine zcx_i (vx_runV (As := [.int r12]) (rest := []) C (mX7_needSide l hst D cI H.size h_s h_s_file h_s_file_bytes u13 s_file_size s_file_bytes r12 tg15 r16 hc17) (qX1_read_X7_needSide_110 hts) ⟨zPT_blind, va_recv hK hP (ci := 6) (q0 := 2) rfl rfl, zpreT hK hN hT hA hS hP hD [2, 3, 4] rfl rfl⟩ rfl rfl hl.1 rfl (lv_room (Nat.le_of_ble_eq_true rfl)) dX1_read_21 hle) hP hD hS hA [2, 3, 4] [0, 1, 5, 6] [0, 1, 4, 5, 6, 2, 3] (ws' := zwX1 cI h_t h_t_table t_last t_table ++ zwX7 cI h_s h_s_file h_s_file_bytes u13 s_file_size s_file_bytes ++ zwX5 cI h_p h_p_pixels p_wide p_high p_pixels) rfl rfl rfl rfl rfl rfl (fun ht H locs q9 ce hP hD hS hq hv hcl => ?_) (fun ht H locs hP hD hS => ?_)
          · replace hf := zif_f hf ht
            cases hf
            exact hX _ _ _ _ _ _ _ ht hP hD hS hq hv hcl
          · replace hf := zif_t hf ht
            clear hle
            refine lv_istore (lv' := [(4, .int r16), (3, .int r9), (0, .ref h_t), (1, .ref h_s), (2, .ref h_p)]) hx hb dX1_read_24 hl (by decide) rfl (fun ls hl => ?_)
            refine lv_aload_n hx hb dX1_read_26 rfl (lv_at hl 3 rfl) ?_
            obtain ⟨tg18, r19, u20, hc21, hf⟩ := zb3_in hf
            have hle := zT_le hf
            refine zcx_i (vx_runV (As := []) (rest := []) C (mX7_next l hst D cI H.size h_s h_s_file h_s_file_bytes u13 s_file_size s_file_bytes tg18 r19 u20 hc21) (qX1_read_X7_next_113 hts) ⟨zPT_blind, va_recv hK hP (ci := 6) (q0 := 2) rfl rfl, zpreT hK hN hT hA hS hP hD [2, 3, 4] rfl rfl⟩ rfl rfl hl.1 rfl (lv_room (Nat.le_of_ble_eq_true rfl)) dX1_read_27 hle) hP hD hS hA [2, 3, 4] [0, 1, 5, 6] [0, 1, 4, 5, 6, 2, 3] (ws' := zwX1 cI h_t h_t_table t_last t_table ++ zwX7 cI h_s h_s_file h_s_file_bytes u20 s_file_size s_file_bytes ++ zwX5 cI h_p h_p_pixels p_wide p_high p_pixels) rfl rfl rfl rfl rfl rfl (fun ht H locs q9 ce hP hD hS hq hv hcl => ?_) (fun ht H locs hP hD hS => ?_)
            · replace hf := zif_f hf ht
              cases hf
              exact hX _ _ _ _ _ _ _ ht hP hD hS hq hv hcl
            · replace hf := zif_t hf ht
              clear hle
              refine lv_istore (lv' := [(5, .int r19), (4, .int r16), (3, .int r9), (0, .ref h_t), (1, .ref h_s), (2, .ref h_p)]) hx hb dX1_read_30 hl (by decide) rfl (fun ls hl => ?_)
              refine lv_aload_n hx hb dX1_read_32 rfl (lv_at hl 4 rfl) ?_
              refine lv_iload hx hb dX1_read_33 (lv_at hl 0 rfl) ?_
              refine lv_iconst (v := 3) hx hb dX1_read_35 (by decide) ?_
              refine lv_icmp_eq (tgt := 45) hx hb dX1_read_36 (by decide) (fun c22 => ?_) (fun c22 => ?_)
              · replace hf := zif_t hf c22
                exact wX1_read_45 C hN hK hA hT hst hE hX hf hP hD hS (lv_sub hl [3, 4, 5, 2, 1, 0] rfl)
              · replace hf := zif_f hf c22
                refine lv_iload hx hb dX1_read_39 (lv_at hl 0 rfl) ?_
                refine lv_iconst (v := 4) hx hb dX1_read_41 (by decide) ?_
                refine lv_icmp_ne (tgt := 49) hx hb dX1_read_42 (by decide) (fun c23 => ?_) (fun c23 => ?_)
                · replace hf := zif_f hf c23
                  refine lv_iconst (v := 0) hx hb dX1_read_49 (by decide) ?_
                  exact wX1_read_50 C hN hK hA hT hst hE hX hf hP hD hS (lv_sub hl [3, 4, 5, 2, 1, 0] rfl)
                · replace hf := zif_t hf c23
                  exact wX1_read_45 C hN hK hA hT hst hE hX hf hP hD hS (lv_sub hl [3, 4, 5, 2, 1, 0] rfl)
set_option maxHeartbeats 4000000 in
set_option maxRecDepth 100000 in
theorem mX1_read (l : Launch) (hst : l.stackTraces = false) (D : va_G) (cI : ClassId) (sz : Nat) (h_t h_t_table h_s h_s_file h_s_file_bytes h_p h_p_pixels : Nat) (t_last : Int32) (t_table : Nat → Int32) (s_place : Int32) (s_file_size : Int32) (s_file_bytes : Nat → Int32) (p_wide : Int32) (p_high : Int32) (p_pixels : Nat → Int32) (tg0 : Nat) (zt_last : Int32) (zt_table : Nat → Int32) (zs_place : Int32) (zp_wide : Int32) (zp_high : Int32) (zp_pixels : Nat → Int32) (hf : fX1_read t_last t_table s_place s_file_size s_file_bytes p_wide p_high p_pixels = some (tg0, zt_last, zt_table, zs_place, zp_wide, zp_high, zp_pixels)) : vx_Met l yX1_read wsX1_read (rmX1_read tg0) (va_Pc [.ref h_t, .ref h_s, .ref h_p] (zPT D [(cI, .int)] (zwX1 cI h_t h_t_table t_last t_table ++ zwX7 cI h_s h_s_file h_s_file_bytes s_place s_file_size s_file_bytes ++ zwX5 cI h_p h_p_pixels p_wide p_high p_pixels) sz)) (zQTv D (zwX1 cI h_t h_t_table t_last t_table ++ zwX7 cI h_s h_s_file h_s_file_bytes s_place s_file_size s_file_bytes ++ zwX5 cI h_p h_p_pixels p_wide p_high p_pixels) sz tg0 (zwX1 cI h_t h_t_table zt_last zt_table ++ zwX7 cI h_s h_s_file h_s_file_bytes zs_place s_file_size s_file_bytes ++ zwX5 cI h_p h_p_pixels zp_wide zp_high zp_pixels)) (zXT D (zwX1 cI h_t h_t_table t_last t_table ++ zwX7 cI h_s h_s_file h_s_file_bytes s_place s_file_size s_file_bytes ++ zwX5 cI h_p h_p_pixels p_wide p_high p_pixels) sz tg0 (zwX1 cI h_t h_t_table zt_last zt_table ++ zwX7 cI h_s h_s_file h_s_file_bytes zs_place s_file_size s_file_bytes ++ zwX5 cI h_p h_p_pixels zp_wide zp_high zp_pixels)) (zc tg0) (zs tg0) (va_A (zwX1 cI h_t h_t_table t_last t_table ++ zwX7 cI h_s h_s_file h_s_file_bytes s_place s_file_size s_file_bytes ++ zwX5 cI h_p h_p_pixels p_wide p_high p_pixels) sz) := by
  refine vx_ofW (cc := cX1_read) (maxL := 7) (ret := none) (by decide) rfl ?_
  intro p e s m args below meth c s₁ B hml htab hv
  obtain ⟨rfl, ⟨hsz, hP, hK, hD0, hN⟩, hT⟩ := hv
  subst hsz
  have C : CallFix p m c cX1_read 7 s [.ref h_t, .ref h_s, .ref h_p].toArray wsX1_read RX1 := ⟨B.exec, B.bytes, hml, findClass_of_methodNamed B.named, atoms_spec (ws := wsX1_read) B.pre⟩
  have hl := lv_entry ([.ref h_t, .ref h_s, .ref h_p]) (n := 7) (Nat.le_of_ble_eq_true rfl)
  rw [lg_entry_eq]
  exact wX1_read_0 (A := va_A (zwX1 cI h_t h_t_table t_last t_table ++ zwX7 cI h_s h_s_file h_s_file_bytes s_place s_file_size s_file_bytes ++ zwX5 cI h_p h_p_pixels p_wide p_high p_pixels) s.heap.size) C hN hK (fun q h => Or.inr h) hT hst (fun h0 H locs pc ls d hP hD hS => zendT_v C.1 C.2.1 B.returns B.notSynchronized h0 d hP hD hS) (fun H locs pc ls rest q9 ce h0 hP hD hS hq hv hcl => zoutT htab B.notSynchronized h0 hP hD hS hq hv hcl) hf hP hD0.self va_S.rf hl
