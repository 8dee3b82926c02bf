def fX8_sniff_2 : Nat → Int32 → (Nat → Int32) → Int32 → Option (Int32)
  | 0, _, _, _ => none
  | n + 1, f_size, f_bytes, l1 =>
    if 4 ≤ l1 then
      some (-1)
    else
      if l1 = 0 then
        zb1 (fX1_isThatOf f_size f_bytes) fun r3 =>
        if r3 = 0 then
          zlet (0 + 1) fun x6 =>
          (fX8_sniff_2 n) f_size f_bytes x6
        else
          some 0
      else
        if l1 = 1 then
          zb1 (fX6_isThatOf f_size f_bytes) fun r8 =>
          if r8 = 0 then
            zlet (1 + 1) fun x11 =>
            (fX8_sniff_2 n) f_size f_bytes x11
          else
            some 1
        else
          if l1 = 2 then
            zb1 (fX0_isThatOf f_size f_bytes) fun r13 =>
            if r13 = 0 then
              zlet (2 + 1) fun x16 =>
              (fX8_sniff_2 n) f_size f_bytes x16
            else
              some 2
          else
            if l1 = 3 then
              zb1 (fX4_isThatOf f_size f_bytes) fun r18 =>
              if r18 = 0 then
                zlet (3 + 1) fun x21 =>
                (fX8_sniff_2 n) f_size f_bytes x21
              else
                some 3
            else
              none
theorem fX8_sniff_2_s (n : Nat) (f_size : Int32) (f_bytes : Nat → Int32) (l1 : Int32) : fX8_sniff_2 (n + 1) f_size f_bytes l1 =
    if 4 ≤ l1 then
      some (-1)
    else
      if l1 = 0 then
        zb1 (fX1_isThatOf f_size f_bytes) fun r3 =>
        if r3 = 0 then
          zlet (0 + 1) fun x6 =>
          (fX8_sniff_2 n) f_size f_bytes x6
        else
          some 0
      else
        if l1 = 1 then
          zb1 (fX6_isThatOf f_size f_bytes) fun r8 =>
          if r8 = 0 then
            zlet (1 + 1) fun x11 =>
            (fX8_sniff_2 n) f_size f_bytes x11
          else
            some 1
        else
          if l1 = 2 then
            zb1 (fX0_isThatOf f_size f_bytes) fun r13 =>
            if r13 = 0 then
              zlet (2 + 1) fun x16 =>
              (fX8_sniff_2 n) f_size f_bytes x16
            else
              some 2
          else
            if l1 = 3 then
              zb1 (fX4_isThatOf f_size f_bytes) fun r18 =>
              if r18 = 0 then
                zlet (3 + 1) fun x21 =>
                (fX8_sniff_2 n) f_size f_bytes x21
              else
                some 3
            else
              none := rfl
def fX8_sniff (f_size : Int32) (f_bytes : Nat → Int32) : Option (Int32) :=
  fX8_sniff_2 1000 f_size f_bytes 0
def fX8_encode (p_wide : Int32) (p_high : Int32) (p_pixels : Nat → Int32) (f_size : Int32) (f_bytes : Nat → Int32) (c_last : Int32) (c_table : Nat → Int32) (b_known : Int32) (b_colours : Nat → Int32) (k_depth : Int32) (v0 : Int32) (v1 : Int32) : Option (Int32 × Int32 × (Nat → Int32) × Int32 × (Nat → Int32) × Int32 × (Nat → Int32) × Int32) :=
  if v0 < 0 then
    some ((-1), f_size, f_bytes, c_last, c_table, b_known, b_colours, k_depth)
  else
    if 4 ≤ v0 then
      some ((-1), f_size, f_bytes, c_last, c_table, b_known, b_colours, k_depth)
    else
      if v1 < 0 then
        some ((-1), f_size, f_bytes, c_last, c_table, b_known, b_colours, k_depth)
      else
        if v1 ≤ 1 then
          if v0 = 0 then
            zb1 (fX1_canHold) fun r6 =>
            if r6 = 0 then
              some ((-1), f_size, f_bytes, c_last, c_table, b_known, b_colours, k_depth)
            else
              zb4 (fX1_write c_table p_wide p_high p_pixels 0 f_bytes) fun u9 u10 u11 u12 =>
              some (u11, u11, u12, u9, u10, b_known, b_colours, k_depth)
          else
            if v0 = 1 then
              zb1 (fX6_canHold p_wide p_high p_pixels) fun r15 =>
              if r15 = 0 then
                some ((-1), f_size, f_bytes, c_last, c_table, b_known, b_colours, k_depth)
              else
                zb2 (fX6_write p_wide p_high p_pixels 0 f_bytes v1) fun u18 u19 =>
                some (u18, u18, u19, c_last, c_table, b_known, b_colours, k_depth)
            else
              if v0 = 2 then
                zb1 (fX0_canHold p_wide p_high p_pixels) fun r22 =>
                if r22 = 0 then
                  some ((-1), f_size, f_bytes, c_last, c_table, b_known, b_colours, k_depth)
                else
                  zb4 (fX0_write b_colours p_wide p_high p_pixels 0 f_bytes v1) fun u25 u26 u27 u28 =>
                  some (u27, u27, u28, c_last, c_table, u25, u26, k_depth)
              else
                if v0 = 3 then
                  zb1 (fX4_canHold) fun r31 =>
                  if r31 = 0 then
                    some ((-1), f_size, f_bytes, c_last, c_table, b_known, b_colours, k_depth)
                  else
                    zb3 (fX4_write p_wide p_high p_pixels 0 f_bytes v1) fun u34 u35 u36 =>
                    some (u35, u35, u36, c_last, c_table, b_known, b_colours, u34)
                else
                  none
        else
          some ((-1), f_size, f_bytes, c_last, c_table, b_known, b_colours, k_depth)
def rmX8_sniff : Room := { frames := 2, cells := 0, slots := 0, locals := 44 }
theorem kX8_sniff_22 {args : Array Value} {s : State} (h : ∀ w ∈ wsX8_sniff, w.before args s = true) : (Cond.fieldLink RX8 22 "FourPictureFiles" "file" "LFourPictureFiles$FileRow;").before args s = true := h _ (by decide +kernel)
theorem kX8_sniff_37 {args : Array Value} {s : State} (h : ∀ w ∈ wsX8_sniff, w.before args s = true) : (Cond.fieldLink RX8 37 "FourPictureFiles" "formats" "[LFourPictureFiles$Format;").before args s = true := h _ (by decide +kernel)
theorem iX8_sniff_X8 : ∀ w ∈ u_ws RX8 TX8 5, w ∈ wsX8_sniff := by decide +kernel
theorem qX8_sniff_X0_isThatOf_115 {args : Array Value} {s : State} (hts : ∀ w ∈ wsX8_sniff, w.before args s = true) (hN : zN s) : va_CU rmX8_sniff s args RX8 RX0 "FourPictureFiles$Format" 115 ⟨"FourPictureFiles$Format", "isThatOf", "(LFourPictureFiles$FileRow;)Z"⟩ yX0_isThatOf cX0_isThatOf 2 (some .boolean) wsX0_isThatOf rmX0_isThatOf 0 0 1 := va_cwA 1 hts gX8_sniff_X0_isThatOf_u115X0 rfl rfl rfl (hN.nw 57 rfl) (by decide +kernel) ⟨Nat.le_of_ble_eq_true rfl, Nat.le_of_ble_eq_true rfl⟩
theorem qX8_sniff_X1_isThatOf_115 {args : Array Value} {s : State} (hts : ∀ w ∈ wsX8_sniff, w.before args s = true) (hN : zN s) : va_CU rmX8_sniff s args RX8 RX1 "FourPictureFiles$Format" 115 ⟨"FourPictureFiles$Format", "isThatOf", "(LFourPictureFiles$FileRow;)Z"⟩ yX1_isThatOf cX1_isThatOf 2 (some .boolean) wsX1_isThatOf rmX1_isThatOf 0 0 1 := va_cwA 1 hts gX8_sniff_X1_isThatOf_u115X1 rfl rfl rfl (hN.nw 57 rfl) (by decide +kernel) ⟨Nat.le_of_ble_eq_true rfl, Nat.le_of_ble_eq_true rfl⟩
theorem qX8_sniff_X4_isThatOf_115 {args : Array Value} {s : State} (hts : ∀ w ∈ wsX8_sniff, w.before args s = true) (hN : zN s) : va_CU rmX8_sniff s args RX8 RX4 "FourPictureFiles$Format" 115 ⟨"FourPictureFiles$Format", "isThatOf", "(LFourPictureFiles$FileRow;)Z"⟩ yX4_isThatOf cX4_isThatOf 4 (some .boolean) wsX4_isThatOf rmX4_isThatOf 0 0 1 := va_cwA 1 hts gX8_sniff_X4_isThatOf_u115X4 rfl rfl rfl (hN.nw 57 rfl) (by decide +kernel) ⟨Nat.le_of_ble_eq_true rfl, Nat.le_of_ble_eq_true rfl⟩
theorem qX8_sniff_X6_isThatOf_115 {args : Array Value} {s : State} (hts : ∀ w ∈ wsX8_sniff, w.before args s = true) (hN : zN s) : va_CU rmX8_sniff s args RX8 RX6 "FourPictureFiles$Format" 115 ⟨"FourPictureFiles$Format", "isThatOf", "(LFourPictureFiles$FileRow;)Z"⟩ yX6_isThatOf cX6_isThatOf 3 (some .boolean) wsX6_isThatOf rmX6_isThatOf 0 0 1 := va_cwA 1 hts gX8_sniff_X6_isThatOf_u115X6 rfl rfl rfl (hN.nw 57 rfl) (by decide +kernel) ⟨Nat.le_of_ble_eq_true rfl, Nat.le_of_ble_eq_true rfl⟩
set_option maxHeartbeats 4000000 in
set_option maxRecDepth 100000 in
theorem wX8_sniff_2 {p : Program} {l : Launch} {e : Env} {s : State} {m : MethodId} {args : Array Value} {below : List Frame} {meth : Method} {c : Code} {D : va_G} {A : Nat → Prop} {Q : State → Prop} {cI cF : ClassId} {h_t h_t_picture h_t_draft h_t_source h_f h_f_bytes h_fm h_c h_c_table h_m h_b h_b_colours h_k : Nat} {f_size : Int32} {f_bytes : Nat → Int32} {c_last : Int32} {c_table : Nat → Int32} {m_inDigits : Int32} {m_greatest : Int32} {b_known : Int32} {b_depth : Int32} {b_packing : Int32} {b_isUpward : Int32} {b_column : Int32} {b_up : Int32} {b_colours : Nat → Int32} {k_depth : Int32} {k_left : Int32} {k_isRepeated : Int32} {k_held : Int32} {r0 : Int32} (C : CallFix p m c cX8_sniff 2 s args wsX8_sniff RX8) (hN : zN s) (hK2 : va_K D vwCl [(cI, .int), (cF, .object RX3)] s) (hA : ∀ q, s.heap.size ≤ q → A q) (hE : zEi p l e rmX8_sniff s m args below meth c cX8_sniff D A Q (zwX8 h_t h_t_picture h_t_draft h_f h_t_source h_fm ++ zwX2 cI h_f h_f_bytes f_size f_bytes ++ zwF cF h_fm h_c h_m h_b h_k ++ zwX1 cI h_c h_c_table c_last c_table ++ zwX6 cI h_m m_inDigits m_greatest ++ zwX0 cI h_b h_b_colours b_known b_depth b_packing b_isUpward b_column b_up b_colours ++ zwX4 cI h_k k_depth k_left k_isRepeated k_held) r0) (n : Nat) : ∀ {l1 : Int32} {H : Heap} {locs : List Loc} {ls : Array Slot}, fX8_sniff_2 n f_size f_bytes l1 = some r0 → va_P D vwCl (zwX8 h_t h_t_picture h_t_draft h_f h_t_source h_fm ++ zwX2 cI h_f h_f_bytes f_size f_bytes ++ zwF cF h_fm h_c h_m h_b h_k ++ zwX1 cI h_c h_c_table c_last c_table ++ zwX6 cI h_m m_inDigits m_greatest ++ zwX0 cI h_b h_b_colours b_known b_depth b_packing b_isUpward b_column b_up b_colours ++ zwX4 cI h_k k_depth k_left k_isRepeated k_held) H → va_D A (zwX8 h_t h_t_picture h_t_draft h_f h_t_source h_fm ++ zwX2 cI h_f h_f_bytes f_size f_bytes ++ zwF cF h_fm h_c h_m h_b h_k ++ zwX1 cI h_c h_c_table c_last c_table ++ zwX6 cI h_m m_inDigits m_greatest ++ zwX0 cI h_b h_b_colours b_known b_depth b_packing b_isUpward b_column b_up b_colours ++ zwX4 cI h_k k_depth k_left k_isRepeated k_held) → va_S A s.heap H locs → lv_has ls 2 [(0, .ref h_t), (1, .int l1)] → W p l e rmX8_sniff s m args below meth c H locs 0 0 Q (F0 m 2 ls []) := by
  obtain ⟨hx, hb, hml, hown, hts⟩ := id C
  have hK := hK2.sub (tys' := [(cI, .int)]) [0] rfl
  induction n with
  | zero =>
    intro l1 H locs ls hf
    cases hf
  | succ n hr_2 =>
    intro l1 H locs ls hf hP hD hS hl
    rw [fX8_sniff_2_s] at hf
    refine lv_iload_n hx hb dX8_sniff_2 rfl (lv_at hl 1 rfl) ?_
    refine lv_iconst (v := 4) hx hb dX8_sniff_3 (by decide) ?_
    refine lv_icmp_ge (tgt := 31) hx hb dX8_sniff_4 (by decide) (fun c1 => ?_) (fun c1 => ?_)
    · replace hf := zif_t hf c1
      refine lv_iconst (v := (-1)) hx hb dX8_sniff_31 (by decide) ?_
      cases hf
      exact hE _ _ _ _ dX8_sniff_32 hP hD hS
    · replace hf := zif_f hf c1
      refine lv_aload_n hx hb dX8_sniff_7 rfl (lv_at hl 0 rfl) ?_
      refine va_get (D := D) (ci := 7) (v := .ref h_fm) (C := RX8) (T := TX8) (N := 5) hx hb hts iX8_sniff_X8 hown hK hP 0 rfl rfl 4 (by decide) (kX8_sniff_37 hts) (fun _ h9 => h9) rfl dX8_sniff_8 ?_
      refine lv_iload_n hx hb dX8_sniff_11 rfl (lv_at hl 1 rfl) ?_
      by_cases c2 : l1 = 0
      · replace hf := zif_t hf c2
        subst c2
        refine zaald0 hx hb hK2 hP 3 1 rfl rfl dX8_sniff_12 ?_
        refine lv_aload_n hx hb dX8_sniff_13 rfl (lv_at hl 0 rfl) ?_
        refine va_get (D := D) (ci := 7) (v := .ref h_f) (C := RX8) (T := TX8) (N := 5) hx hb hts iX8_sniff_X8 hown hK hP 0 rfl rfl 2 (by decide) (kX8_sniff_22 hts) (fun _ h9 => h9) rfl dX8_sniff_14 ?_
        obtain ⟨r3, hc4, hf⟩ := zb1_in hf
        refine zc_i (va_runU (As := [.ref h_f]) (rest := []) C (mX1_isThatOf l D cI H.size h_c h_c_table h_f h_f_bytes c_last c_table f_size f_bytes r3 hc4) (qX8_sniff_X1_isThatOf_115 hts hN) ⟨zP_blind, va_recv hK hP (ci := 1) (q0 := 4) rfl rfl, zpre hK hN hP hD [4, 5, 1, 2] rfl rfl⟩ rfl rfl hl.1 rfl (lv_room (Nat.le_of_ble_eq_true rfl)) dX8_sniff_17 ⟨Nat.zero_le _, Nat.zero_le _⟩) hP hD hS hA [4, 5, 1, 2] [0, 3, 6, 7, 8, 9] [0, 8, 9, 1, 6, 7, 2, 3, 4, 5] (ws' := zwX8 h_t h_t_picture h_t_draft h_f h_t_source h_fm ++ zwX2 cI h_f h_f_bytes f_size f_bytes ++ zwF cF h_fm h_c h_m h_b h_k ++ zwX1 cI h_c h_c_table c_last c_table ++ zwX6 cI h_m m_inDigits m_greatest ++ zwX0 cI h_b h_b_colours b_known b_depth b_packing b_isUpward b_column b_up b_colours ++ zwX4 cI h_k k_depth k_left k_isRepeated k_held) rfl rfl rfl rfl rfl rfl (fun H locs hP hD hS => ?_)
        refine lv_if_eq (tgt := 25) hx hb dX8_sniff_20 (by decide) (fun c5 => ?_) (fun c5 => ?_)
        · replace hf := zif_t hf c5
          obtain ⟨x6, ex6⟩ : ∃ y : Int32, y = 0 + 1 := ⟨_, rfl⟩
          replace hf := zlet_in hf ex6
          refine lv_iinc (v := x6) (lv' := [(1, .int x6), (0, .ref h_t)]) hx hb dX8_sniff_25 hl (k := 1) rfl (by rw [ex6]; rfl) (by decide) rfl (fun ls hl => ?_)
          clear ex6
          refine lv_goto (tgt := 2) hx hb dX8_sniff_28 (by decide) ?_
          exact hr_2 hf hP hD hS (lv_sub hl [1, 0] rfl)
        · replace hf := zif_f hf c5
          refine lv_iload_n hx hb dX8_sniff_23 rfl (lv_at hl 1 rfl) ?_
          cases hf
          exact hE _ _ _ _ dX8_sniff_24 hP hD hS
      replace hf := zif_f hf c2
      by_cases c7 : l1 = 1
      · replace hf := zif_t hf c7
        subst c7
        refine zaald1 hx hb hK2 hP 3 1 rfl rfl dX8_sniff_12 ?_
        refine lv_aload_n hx hb dX8_sniff_13 rfl (lv_at hl 0 rfl) ?_
        refine va_get (D := D) (ci := 7) (v := .ref h_f) (C := RX8) (T := TX8) (N := 5) hx hb hts iX8_sniff_X8 hown hK hP 0 rfl rfl 2 (by decide) (kX8_sniff_22 hts) (fun _ h9 => h9) rfl dX8_sniff_14 ?_
        obtain ⟨r8, hc9, hf⟩ := zb1_in hf
        refine zc_i (va_runU (As := [.ref h_f]) (rest := []) C (mX6_isThatOf l D cI H.size h_m h_f h_f_bytes m_inDigits m_greatest f_size f_bytes r8 hc9) (qX8_sniff_X6_isThatOf_115 hts hN) ⟨zP_blind, va_recv hK hP (ci := 5) (q0 := 6) rfl rfl, zpre hK hN hP hD [6, 1, 2] rfl rfl⟩ rfl rfl hl.1 rfl (lv_room (Nat.le_of_ble_eq_true rfl)) dX8_sniff_17 ⟨Nat.zero_le _, Nat.zero_le _⟩) hP hD hS hA [6, 1, 2] [0, 3, 4, 5, 7, 8, 9] [0, 8, 9, 1, 2, 3, 7, 4, 5, 6] (ws' := zwX8 h_t h_t_picture h_t_draft h_f h_t_source h_fm ++ zwX2 cI h_f h_f_bytes f_size f_bytes ++ zwF cF h_fm h_c h_m h_b h_k ++ zwX1 cI h_c h_c_table c_last c_table ++ zwX6 cI h_m m_inDigits m_greatest ++ zwX0 cI h_b h_b_colours b_known b_depth b_packing b_isUpward b_column b_up b_colours ++ zwX4 cI h_k k_depth k_left k_isRepeated k_held) rfl rfl rfl rfl rfl rfl (fun H locs hP hD hS => ?_)
        refine lv_if_eq (tgt := 25) hx hb dX8_sniff_20 (by decide) (fun c10 => ?_) (fun c10 => ?_)
        · replace hf := zif_t hf c10
          obtain ⟨x11, ex11⟩ : ∃ y : Int32, y = 1 + 1 := ⟨_, rfl⟩
          replace hf := zlet_in hf ex11
          refine lv_iinc (v := x11) (lv' := [(1, .int x11), (0, .ref h_t)]) hx hb dX8_sniff_25 hl (k := 1) rfl (by rw [ex11]; rfl) (by decide) rfl (fun ls hl => ?_)
          clear ex11
          refine lv_goto (tgt := 2) hx hb dX8_sniff_28 (by decide) ?_
          exact hr_2 hf hP hD hS (lv_sub hl [1, 0] rfl)
        · replace hf := zif_f hf c10
          refine lv_iload_n hx hb dX8_sniff_23 rfl (lv_at hl 1 rfl) ?_
          cases hf
          exact hE _ _ _ _ dX8_sniff_24 hP hD hS
      replace hf := zif_f hf c7
      by_cases c12 : l1 = 2
      · replace hf := zif_t hf c12
        subst c12
        refine zaald2 hx hb hK2 hP 3 1 rfl rfl dX8_sniff_12 ?_
        refine lv_aload_n hx hb dX8_sniff_13 rfl (lv_at hl 0 rfl) ?_
        refine va_get (D := D) (ci := 7) (v := .ref h_f) (C := RX8) (T := TX8) (N := 5) hx hb hts iX8_sniff_X8 hown hK hP 0 rfl rfl 2 (by decide) (kX8_sniff_22 hts) (fun _ h9 => h9) rfl dX8_sniff_14 ?_
        obtain ⟨r13, hc14, hf⟩ := zb1_in hf
        refine zc_i (va_runU (As := [.ref h_f]) (rest := []) C (mX0_isThatOf l D cI H.size h_b h_b_colours h_f h_f_bytes b_known b_depth b_packing b_isUpward b_column b_up b_colours f_size f_bytes r13 hc14) (qX8_sniff_X0_isThatOf_115 hts hN) ⟨zP_blind, va_recv hK hP (ci := 0) (q0 := 7) rfl rfl, zpre hK hN hP hD [7, 8, 1, 2] rfl rfl⟩ rfl rfl hl.1 rfl (lv_room (Nat.le_of_ble_eq_true rfl)) dX8_sniff_17 ⟨Nat.zero_le _, Nat.zero_le _⟩) hP hD hS hA [7, 8, 1, 2] [0, 3, 4, 5, 6, 9] [0, 8, 9, 1, 2, 3, 4, 6, 7, 5] (ws' := zwX8 h_t h_t_picture h_t_draft h_f h_t_source h_fm ++ zwX2 cI h_f h_f_bytes f_size f_bytes ++ zwF cF h_fm h_c h_m h_b h_k ++ zwX1 cI h_c h_c_table c_last c_table ++ zwX6 cI h_m m_inDigits m_greatest ++ zwX0 cI h_b h_b_colours b_known b_depth b_packing b_isUpward b_column b_up b_colours ++ zwX4 cI h_k k_depth k_left k_isRepeated k_held) rfl rfl rfl rfl rfl rfl (fun H locs hP hD hS => ?_)
        refine lv_if_eq (tgt := 25) hx hb dX8_sniff_20 (by decide) (fun c15 => ?_) (fun c15 => ?_)
        · replace hf := zif_t hf c15
          obtain ⟨x16, ex16⟩ : ∃ y : Int32, y = 2 + 1 := ⟨_, rfl⟩
          replace hf := zlet_in hf ex16
          refine lv_iinc (v := x16) (lv' := [(1, .int x16), (0, .ref h_t)]) hx hb dX8_sniff_25 hl (k := 1) rfl (by rw [ex16]; rfl) (by decide) rfl (fun ls hl => ?_)
          clear ex16
          refine lv_goto (tgt := 2) hx hb dX8_sniff_28 (by decide) ?_
          exact hr_2 hf hP hD hS (lv_sub hl [1, 0] rfl)
        · replace hf := zif_f hf c15
          refine lv_iload_n hx hb dX8_sniff_23 rfl (lv_at hl 1 rfl) ?_
          cases hf
          exact hE _ _ _ _ dX8_sniff_24 hP hD hS
      replace hf := zif_f hf c12
      by_cases c17 : l1 = 3
      · replace hf := zif_t hf c17
        subst c17
        refine zaald3 hx hb hK2 hP 3 1 rfl rfl dX8_sniff_12 ?_
        refine lv_aload_n hx hb dX8_sniff_13 rfl (lv_at hl 0 rfl) ?_
        refine va_get (D := D) (ci := 7) (v := .ref h_f) (C := RX8) (T := TX8) (N := 5) hx hb hts iX8_sniff_X8 hown hK hP 0 rfl rfl 2 (by decide) (kX8_sniff_22 hts) (fun _ h9 => h9) rfl dX8_sniff_14 ?_
        obtain ⟨r18, hc19, hf⟩ := zb1_in hf
        refine zc_i (va_runU (As := [.ref h_f]) (rest := []) C (mX4_isThatOf l D cI H.size h_k h_f h_f_bytes k_depth k_left k_isRepeated k_held f_size f_bytes r18 hc19) (qX8_sniff_X4_isThatOf_115 hts hN) ⟨zP_blind, va_recv hK hP (ci := 3) (q0 := 9) rfl rfl, zpre hK hN hP hD [9, 1, 2] rfl rfl⟩ rfl rfl hl.1 rfl (lv_room (Nat.le_of_ble_eq_true rfl)) dX8_sniff_17 ⟨Nat.zero_le _, Nat.zero_le _⟩) hP hD hS hA [9, 1, 2] [0, 3, 4, 5, 6, 7, 8] [0, 8, 9, 1, 2, 3, 4, 5, 6, 7] (ws' := zwX8 h_t h_t_picture h_t_draft h_f h_t_source h_fm ++ zwX2 cI h_f h_f_bytes f_size f_bytes ++ zwF cF h_fm h_c h_m h_b h_k ++ zwX1 cI h_c h_c_table c_last c_table ++ zwX6 cI h_m m_inDigits m_greatest ++ zwX0 cI h_b h_b_colours b_known b_depth b_packing b_isUpward b_column b_up b_colours ++ zwX4 cI h_k k_depth k_left k_isRepeated k_held) rfl rfl rfl rfl rfl rfl (fun H locs hP hD hS => ?_)
        refine lv_if_eq (tgt := 25) hx hb dX8_sniff_20 (by decide) (fun c20 => ?_) (fun c20 => ?_)
        · replace hf := zif_t hf c20
          obtain ⟨x21, ex21⟩ : ∃ y : Int32, y = 3 + 1 := ⟨_, rfl⟩
          replace hf := zlet_in hf ex21
          refine lv_iinc (v := x21) (lv' := [(1, .int x21), (0, .ref h_t)]) hx hb dX8_sniff_25 hl (k := 1) rfl (by rw [ex21]; rfl) (by decide) rfl (fun ls hl => ?_)
          clear ex21
          refine lv_goto (tgt := 2) hx hb dX8_sniff_28 (by decide) ?_
          exact hr_2 hf hP hD hS (lv_sub hl [1, 0] rfl)
        · replace hf := zif_f hf c20
          refine lv_iload_n hx hb dX8_sniff_23 rfl (lv_at hl 1 rfl) ?_
          cases hf
          exact hE _ _ _ _ dX8_sniff_24 hP hD hS
      replace hf := zif_f hf c17
      cases hf
set_option maxHeartbeats 4000000 in
set_option maxRecDepth 100000 in
theorem wX8_sniff_0 {p : Program} {l : Launch} {e : Env} {s : State} {m : MethodId} {args : Array Value} {below : List Frame} {meth : Method} {c : Code} {D : va_G} {A : Nat → Prop} {Q : State → Prop} {cI cF : ClassId} {h_t h_t_picture h_t_draft h_t_source h_f h_f_bytes h_fm h_c h_c_table h_m h_b h_b_colours h_k : Nat} {f_size : Int32} {f_bytes : Nat → Int32} {c_last : Int32} {c_table : Nat → Int32} {m_inDigits : Int32} {m_greatest : Int32} {b_known : Int32} {b_depth : Int32} {b_packing : Int32} {b_isUpward : Int32} {b_column : Int32} {b_up : Int32} {b_colours : Nat → Int32} {k_depth : Int32} {k_left : Int32} {k_isRepeated : Int32} {k_held : Int32} {r0 : Int32} (C : CallFix p m c cX8_sniff 2 s args wsX8_sniff RX8) (hN : zN s) (hK2 : va_K D vwCl [(cI, .int), (cF, .object RX3)] s) (hA : ∀ q, s.heap.size ≤ q → A q) (hE : zEi p l e rmX8_sniff s m args below meth c cX8_sniff D A Q (zwX8 h_t h_t_picture h_t_draft h_f h_t_source h_fm ++ zwX2 cI h_f h_f_bytes f_size f_bytes ++ zwF cF h_fm h_c h_m h_b h_k ++ zwX1 cI h_c h_c_table c_last c_table ++ zwX6 cI h_m m_inDigits m_greatest ++ zwX0 cI h_b h_b_colours b_known b_depth b_packing b_isUpward b_column b_up b_colours ++ zwX4 cI h_k k_depth k_left k_isRepeated k_held) r0) {H : Heap} {locs : List Loc} {ls : Array Slot} : fX8_sniff f_size f_bytes = some r0 → va_P D vwCl (zwX8 h_t h_t_picture h_t_draft h_f h_t_source h_fm ++ zwX2 cI h_f h_f_bytes f_size f_bytes ++ zwF cF h_fm h_c h_m h_b h_k ++ zwX1 cI h_c h_c_table c_last c_table ++ zwX6 cI h_m m_inDigits m_greatest ++ zwX0 cI h_b h_b_colours b_known b_depth b_packing b_isUpward b_column b_up b_colours ++ zwX4 cI h_k k_depth k_left k_isRepeated k_held) H → va_D A (zwX8 h_t h_t_picture h_t_draft h_f h_t_source h_fm ++ zwX2 cI h_f h_f_bytes f_size f_bytes ++ zwF cF h_fm h_c h_m h_b h_k ++ zwX1 cI h_c h_c_table c_last c_table ++ zwX6 cI h_m m_inDigits m_greatest ++ zwX0 cI h_b h_b_colours b_known b_depth b_packing b_isUpward b_column b_up b_colours ++ zwX4 cI h_k k_depth k_left k_isRepeated k_held) → va_S A s.heap H locs → lv_has ls 2 [(0, .ref h_t)] → W p l e rmX8_sniff s m args below meth c H locs 0 0 Q (F0 m 0 ls []) := by
  intro hf hP hD hS hl
  obtain ⟨hx, hb, hml, hown, hts⟩ := id C
  have hK := hK2.sub (tys' := [(cI, .int)]) [0] rfl
  unfold fX8_sniff at hf
  refine lv_iconst (v := 0) hx hb dX8_sniff_0 (by decide) ?_
  refine lv_istore_n (lv' := [(1, .int 0), (0, .ref h_t)]) hx hb dX8_sniff_1 rfl hl (by decide) rfl (fun ls hl => ?_)
  exact wX8_sniff_2 C hN hK2 hA hE 1000 hf hP hD hS (lv_sub hl [1, 0] rfl)
set_option maxHeartbeats 4000000 in
set_option maxRecDepth 100000 in
theorem mX8_sniff (l : Launch) (D : va_G) (cI cF : ClassId) (sz : Nat) (h_t h_t_picture h_t_draft h_t_source h_f h_f_bytes h_fm h_c h_c_table h_m h_b h_b_colours h_k : Nat) (f_size : Int32) (f_bytes : Nat → Int32) (c_last : Int32) (c_table : Nat → Int32) (m_inDigits : Int32) (m_greatest : Int32) (b_known : Int32) (b_depth : Int32) (b_packing : Int32) (b_isUpward : Int32) (b_column : Int32) (b_up : Int32) (b_colours : Nat → Int32) (k_depth : Int32) (k_left : Int32) (k_isRepeated : Int32) (k_held : Int32) (r0 : Int32) (hf : fX8_sniff f_size f_bytes = some r0) : Met l yX8_sniff wsX8_sniff rmX8_sniff (va_Pc [.ref h_t] (zP D [(cI, .int), (cF, .object RX3)] (zwX8 h_t h_t_picture h_t_draft h_f h_t_source h_fm ++ zwX2 cI h_f h_f_bytes f_size f_bytes ++ zwF cF h_fm h_c h_m h_b h_k ++ zwX1 cI h_c h_c_table c_last c_table ++ zwX6 cI h_m m_inDigits m_greatest ++ zwX0 cI h_b h_b_colours b_known b_depth b_packing b_isUpward b_column b_up b_colours ++ zwX4 cI h_k k_depth k_left k_isRepeated k_held) sz)) (zQi D (zwX8 h_t h_t_picture h_t_draft h_f h_t_source h_fm ++ zwX2 cI h_f h_f_bytes f_size f_bytes ++ zwF cF h_fm h_c h_m h_b h_k ++ zwX1 cI h_c h_c_table c_last c_table ++ zwX6 cI h_m m_inDigits m_greatest ++ zwX0 cI h_b h_b_colours b_known b_depth b_packing b_isUpward b_column b_up b_colours ++ zwX4 cI h_k k_depth k_left k_isRepeated k_held) sz r0 (zwX8 h_t h_t_picture h_t_draft h_f h_t_source h_fm ++ zwX2 cI h_f h_f_bytes f_size f_bytes ++ zwF cF h_fm h_c h_m h_b h_k ++ zwX1 cI h_c h_c_table c_last c_table ++ zwX6 cI h_m m_inDigits m_greatest ++ zwX0 cI h_b h_b_colours b_known b_depth b_packing b_isUpward b_column b_up b_colours ++ zwX4 cI h_k k_depth k_left k_isRepeated k_held)) 0 0 (va_A (zwX8 h_t h_t_picture h_t_draft h_f h_t_source h_fm ++ zwX2 cI h_f h_f_bytes f_size f_bytes ++ zwF cF h_fm h_c h_m h_b h_k ++ zwX1 cI h_c h_c_table c_last c_table ++ zwX6 cI h_m m_inDigits m_greatest ++ zwX0 cI h_b h_b_colours b_known b_depth b_packing b_isUpward b_column b_up b_colours ++ zwX4 cI h_k k_depth k_left k_isRepeated k_held) sz) := by
  refine Met.ofW (cc := cX8_sniff) (maxL := 2) (ret := (some .int)) (by decide) rfl ?_
  intro p e s m args below meth c s₁ B hml hv
  obtain ⟨rfl, hsz, hP, hK, hD0, hN⟩ := hv
  subst hsz
  have C : CallFix p m c cX8_sniff 2 s [.ref h_t].toArray wsX8_sniff RX8 := ⟨B.exec, B.bytes, hml, findClass_of_methodNamed B.named, atoms_spec (ws := wsX8_sniff) B.pre⟩
  have hl := lv_entry ([.ref h_t]) (n := 2) (Nat.le_of_ble_eq_true rfl)
  rw [lg_entry_eq]
  exact wX8_sniff_0 (A := va_A (zwX8 h_t h_t_picture h_t_draft h_f h_t_source h_fm ++ zwX2 cI h_f h_f_bytes f_size f_bytes ++ zwF cF h_fm h_c h_m h_b h_k ++ zwX1 cI h_c h_c_table c_last c_table ++ zwX6 cI h_m m_inDigits m_greatest ++ zwX0 cI h_b h_b_colours b_known b_depth b_packing b_isUpward b_column b_up b_colours ++ zwX4 cI h_k k_depth k_left k_isRepeated k_held) s.heap.size) C hN hK (fun q h => Or.inr h) (fun H locs pc ls d hP hD hS => zend_i C.1 C.2.1 B.returns B.notSynchronized d hP hD hS) hf hP hD0.self va_S.rf hl
def rmX8_encode : Room := { frames := 6, cells := 0, slots := 0, locals := 142 }
theorem kX8_encode_10 {args : Array Value} {s : State} (h : ∀ w ∈ wsX8_encode, w.before args s = true) : (Cond.fieldLink RX8 10 "FourPictureFiles" "picture" "LFourPictureFiles$Picture;").before args s = true := h _ (by decide +kernel)
theorem kX8_encode_22 {args : Array Value} {s : State} (h : ∀ w ∈ wsX8_encode, w.before args s = true) : (Cond.fieldLink RX8 22 "FourPictureFiles" "file" "LFourPictureFiles$FileRow;").before args s = true := h _ (by decide +kernel)
theorem kX8_encode_37 {args : Array Value} {s : State} (h : ∀ w ∈ wsX8_encode, w.before args s = true) : (Cond.fieldLink RX8 37 "FourPictureFiles" "formats" "[LFourPictureFiles$Format;").before args s = true := h _ (by decide +kernel)
theorem iX8_encode_X2 : ∀ w ∈ u_ws RX2 TX2 2, w ∈ wsX8_encode := by decide +kernel
theorem iX8_encode_X8 : ∀ w ∈ u_ws RX8 TX8 5, w ∈ wsX8_encode := by decide +kernel
theorem qX8_encode_X0_canHold_119 {args : Array Value} {s : State} (hts : ∀ w ∈ wsX8_encode, w.before args s = true) (hN : zN s) : va_CU rmX8_encode s args RX8 RX0 "FourPictureFiles$Format" 119 ⟨"FourPictureFiles$Format", "canHold", "(LFourPictureFiles$Picture;)Z"⟩ yX0_canHold cX0_canHold 2 (some .boolean) wsX0_canHold rmX0_canHold 0 0 1 := va_cwA 1 hts gX8_encode_X0_canHold_u119X0 rfl rfl rfl (hN.nw 58 rfl) (by decide +kernel) ⟨Nat.le_of_ble_eq_true rfl, Nat.le_of_ble_eq_true rfl⟩
theorem qX8_encode_X0_write_123 {args : Array Value} {s : State} (hts : ∀ w ∈ wsX8_encode, w.before args s = true) (hN : zN s) : va_CU rmX8_encode s args RX8 RX0 "FourPictureFiles$Format" 123 ⟨"FourPictureFiles$Format", "write", "(LFourPictureFiles$Picture;ILFourPictureFiles$FileRow;)V"⟩ yX0_write cX0_write 5 none wsX0_write rmX0_write 0 0 3 := va_cwA 3 hts gX8_encode_X0_write_u123X0 rfl rfl rfl (hN.nw 59 rfl) (by decide +kernel) ⟨Nat.le_of_ble_eq_true rfl, Nat.le_of_ble_eq_true rfl⟩
theorem qX8_encode_X1_canHold_119 {args : Array Value} {s : State} (hts : ∀ w ∈ wsX8_encode, w.before args s = true) (hN : zN s) : va_CU rmX8_encode s args RX8 RX1 "FourPictureFiles$Format" 119 ⟨"FourPictureFiles$Format", "canHold", "(LFourPictureFiles$Picture;)Z"⟩ yX1_canHold cX1_canHold 2 (some .boolean) wsX1_canHold rmX1_canHold 0 0 1 := va_cwA 1 hts gX8_encode_X1_canHold_u119X1 rfl rfl rfl (hN.nw 58 rfl) (by decide +kernel) ⟨Nat.le_of_ble_eq_true rfl, Nat.le_of_ble_eq_true rfl⟩
theorem qX8_encode_X1_write_123 {args : Array Value} {s : State} (hts : ∀ w ∈ wsX8_encode, w.before args s = true) (hN : zN s) : va_CU rmX8_encode s args RX8 RX1 "FourPictureFiles$Format" 123 ⟨"FourPictureFiles$Format", "write", "(LFourPictureFiles$Picture;ILFourPictureFiles$FileRow;)V"⟩ yX1_write cX1_write 4 none wsX1_write rmX1_write 0 0 3 := va_cwA 3 hts gX8_encode_X1_write_u123X1 rfl rfl rfl (hN.nw 59 rfl) (by decide +kernel) ⟨Nat.le_of_ble_eq_true rfl, Nat.le_of_ble_eq_true rfl⟩
theorem qX8_encode_X4_canHold_119 {args : Array Value} {s : State} (hts : ∀ w ∈ wsX8_encode, w.before args s = true) (hN : zN s) : va_CU rmX8_encode s args RX8 RX4 "FourPictureFiles$Format" 119 ⟨"FourPictureFiles$Format", "canHold", "(LFourPictureFiles$Picture;)Z"⟩ yX4_canHold cX4_canHold 2 (some .boolean) wsX4_canHold rmX4_canHold 0 0 1 := va_cwA 1 hts gX8_encode_X4_canHold_u119X4 rfl rfl rfl (hN.nw 58 rfl) (by decide +kernel) ⟨Nat.le_of_ble_eq_true rfl, Nat.le_of_ble_eq_true rfl⟩
theorem qX8_encode_X4_write_123 {args : Array Value} {s : State} (hts : ∀ w ∈ wsX8_encode, w.before args s = true) (hN : zN s) : va_CU rmX8_encode s args RX8 RX4 "FourPictureFiles$Format" 123 ⟨"FourPictureFiles$Format", "write", "(LFourPictureFiles$Picture;ILFourPictureFiles$FileRow;)V"⟩ yX4_write cX4_write 6 none wsX4_write rmX4_write 0 0 3 := va_cwA 3 hts gX8_encode_X4_write_u123X4 rfl rfl rfl (hN.nw 59 rfl) (by decide +kernel) ⟨Nat.le_of_ble_eq_true rfl, Nat.le_of_ble_eq_true rfl⟩
theorem qX8_encode_X6_canHold_119 {args : Array Value} {s : State} (hts : ∀ w ∈ wsX8_encode, w.before args s = true) (hN : zN s) : va_CU rmX8_encode s args RX8 RX6 "FourPictureFiles$Format" 119 ⟨"FourPictureFiles$Format", "canHold", "(LFourPictureFiles$Picture;)Z"⟩ yX6_canHold cX6_canHold 2 (some .boolean) wsX6_canHold rmX6_canHold 0 0 1 := va_cwA 1 hts gX8_encode_X6_canHold_u119X6 rfl rfl rfl (hN.nw 58 rfl) (by decide +kernel) ⟨Nat.le_of_ble_eq_true rfl, Nat.le_of_ble_eq_true rfl⟩
theorem qX8_encode_X6_write_123 {args : Array Value} {s : State} (hts : ∀ w ∈ wsX8_encode, w.before args s = true) (hN : zN s) : va_CU rmX8_encode s args RX8 RX6 "FourPictureFiles$Format" 123 ⟨"FourPictureFiles$Format", "write", "(LFourPictureFiles$Picture;ILFourPictureFiles$FileRow;)V"⟩ yX6_write cX6_write 8 none wsX6_write rmX6_write 0 0 3 := va_cwA 3 hts gX8_encode_X6_write_u123X6 rfl rfl rfl (hN.nw 59 rfl) (by decide +kernel) ⟨Nat.le_of_ble_eq_true rfl, Nat.le_of_ble_eq_true rfl⟩
set_option maxHeartbeats 4000000 in
set_option maxRecDepth 100000 in
theorem wX8_encode_0 {p : Program} {l : Launch} {e : Env} {s : State} {m : MethodId} {args : Array Value} {below : List Frame} {meth : Method} {c : Code} {D : va_G} {A : Nat → Prop} {Q : State → Prop} {cI cF : ClassId} {h_t h_t_draft h_t_source h_p h_p_pixels h_f h_f_bytes h_fm h_c h_c_table h_m h_b h_b_colours h_k : Nat} {p_wide : Int32} {p_high : Int32} {p_pixels : Nat → Int32} {m_inDigits : Int32} {m_greatest : Int32} {b_depth : Int32} {b_packing : Int32} {b_isUpward : Int32} {b_column : Int32} {b_up : Int32} {k_left : Int32} {k_isRepeated : Int32} {k_held : Int32} {r0 : Int32} {zf_size : Int32} {zf_bytes : Nat → Int32} {zc_last : Int32} {zc_table : Nat → Int32} {zb_known : Int32} {zb_colours : Nat → Int32} {zk_depth : Int32} (C : CallFix p m c cX8_encode 3 s args wsX8_encode RX8) (hN : zN s) (hK2 : va_K D vwCl [(cI, .int), (cF, .object RX3)] s) (hA : ∀ q, s.heap.size ≤ q → A q) (hE : zEi p l e rmX8_encode s m args below meth c cX8_encode D A Q (zwX8 h_t h_p h_t_draft h_f h_t_source h_fm ++ zwX5 cI h_p h_p_pixels p_wide p_high p_pixels ++ zwX2 cI h_f h_f_bytes zf_size zf_bytes ++ zwF cF h_fm h_c h_m h_b h_k ++ zwX1 cI h_c h_c_table zc_last zc_table ++ zwX6 cI h_m m_inDigits m_greatest ++ zwX0 cI h_b h_b_colours zb_known b_depth b_packing b_isUpward b_column b_up zb_colours ++ zwX4 cI h_k zk_depth k_left k_isRepeated k_held) r0) {f_size : Int32} {f_bytes : Nat → Int32} {c_last : Int32} {c_table : Nat → Int32} {b_known : Int32} {b_colours : Nat → Int32} {k_depth : Int32} {v0 : Int32} {v1 : Int32} {H : Heap} {locs : List Loc} {ls : Array Slot} : fX8_encode p_wide p_high p_pixels f_size f_bytes c_last c_table b_known b_colours k_depth v0 v1 = some (r0, zf_size, zf_bytes, zc_last, zc_table, zb_known, zb_colours, zk_depth) → va_P D vwCl (zwX8 h_t h_p h_t_draft h_f h_t_source h_fm ++ zwX5 cI h_p h_p_pixels p_wide p_high p_pixels ++ zwX2 cI h_f h_f_bytes f_size f_bytes ++ zwF cF h_fm h_c h_m h_b h_k ++ zwX1 cI h_c h_c_table c_last c_table ++ zwX6 cI h_m m_inDigits m_greatest ++ zwX0 cI h_b h_b_colours b_known b_depth b_packing b_isUpward b_column b_up b_colours ++ zwX4 cI h_k k_depth k_left k_isRepeated k_held) H → va_D A (zwX8 h_t h_p h_t_draft h_f h_t_source h_fm ++ zwX5 cI h_p h_p_pixels p_wide p_high p_pixels ++ zwX2 cI h_f h_f_bytes f_size f_bytes ++ zwF cF h_fm h_c h_m h_b h_k ++ zwX1 cI h_c h_c_table c_last c_table ++ zwX6 cI h_m m_inDigits m_greatest ++ zwX0 cI h_b h_b_colours b_known b_depth b_packing b_isUpward b_column b_up b_colours ++ zwX4 cI h_k k_depth k_left k_isRepeated k_held) → va_S A s.heap H locs → lv_has ls 3 [(0, .ref h_t), (1, .int v0), (2, .int v1)] → W p l e rmX8_encode s m args below meth c H locs 0 0 Q (F0 m 0 ls []) := by
  intro hf hP hD hS hl
  obtain ⟨hx, hb, hml, hown, hts⟩ := id C
  have hK := hK2.sub (tys' := [(cI, .int)]) [0] rfl
  unfold fX8_encode at hf
  refine lv_iload_n hx hb dX8_encode_0 rfl (lv_at hl 1 rfl) ?_
  refine lv_if_lt (tgt := 18) hx hb dX8_encode_1 (by decide) (fun c1 => ?_) (fun c1 => ?_)
  · replace hf := zif_t hf c1
    refine lv_iconst (v := (-1)) hx hb dX8_encode_18 (by decide) ?_
    cases hf
    exact hE _ _ _ _ dX8_encode_19 hP hD hS
  · replace hf := zif_f hf c1
    refine lv_iload_n hx hb dX8_encode_4 rfl (lv_at hl 1 rfl) ?_
    refine lv_iconst (v := 4) hx hb dX8_encode_5 (by decide) ?_
    refine lv_icmp_ge (tgt := 18) hx hb dX8_encode_6 (by decide) (fun c2 => ?_) (fun c2 => ?_)
    · replace hf := zif_t hf c2
      refine lv_iconst (v := (-1)) hx hb dX8_encode_18 (by decide) ?_
      cases hf
      exact hE _ _ _ _ dX8_encode_19 hP hD hS
    · replace hf := zif_f hf c2
      refine lv_iload_n hx hb dX8_encode_9 rfl (lv_at hl 2 rfl) ?_
      refine lv_if_lt (tgt := 18) hx hb dX8_encode_10 (by decide) (fun c3 => ?_) (fun c3 => ?_)
      · replace hf := zif_t hf c3
        refine lv_iconst (v := (-1)) hx hb dX8_encode_18 (by decide) ?_
        cases hf
        exact hE _ _ _ _ dX8_encode_19 hP hD hS
      · replace hf := zif_f hf c3
        refine lv_iload_n hx hb dX8_encode_13 rfl (lv_at hl 2 rfl) ?_
        refine lv_iconst (v := 1) hx hb dX8_encode_14 (by decide) ?_
        refine lv_icmp_le (tgt := 20) hx hb dX8_encode_15 (by decide) (fun c4 => ?_) (fun c4 => ?_)
        · replace hf := zif_t hf c4
          refine lv_aload_n hx hb dX8_encode_20 rfl (lv_at hl 0 rfl) ?_
          refine va_get (D := D) (ci := 7) (v := .ref h_fm) (C := RX8) (T := TX8) (N := 5) hx hb hts iX8_encode_X8 hown hK hP 0 rfl rfl 4 (by decide) (kX8_encode_37 hts) (fun _ h9 => h9) rfl dX8_encode_21 ?_
          refine lv_iload_n hx hb dX8_encode_24 rfl (lv_at hl 1 rfl) ?_
          by_cases c5 : v0 = 0
          · replace hf := zif_t hf c5
            subst c5
            refine zaald0 hx hb hK2 hP 5 1 rfl rfl dX8_encode_25 ?_
            refine lv_aload_n hx hb dX8_encode_26 rfl (lv_at hl 0 rfl) ?_
            refine va_get (D := D) (ci := 7) (v := .ref h_p) (C := RX8) (T := TX8) (N := 5) hx hb hts iX8_encode_X8 hown hK hP 0 rfl rfl 0 (by decide) (kX8_encode_10 hts) (fun _ h9 => h9) rfl dX8_encode_27 ?_
            obtain ⟨r6, hc7, hf⟩ := zb1_in hf
            refine zc_i (va_runU (As := [.ref h_p]) (rest := []) C (mX1_canHold l D cI H.size h_c h_c_table h_p h_p_pixels c_last c_table p_wide p_high p_pixels r6 hc7) (qX8_encode_X1_canHold_119 hts hN) ⟨zP_blind, va_recv hK hP (ci := 1) (q0 := 6) rfl rfl, zpre hK hN hP hD [6, 7, 1, 2] rfl rfl⟩ rfl rfl hl.1 rfl (lv_room (Nat.le_of_ble_eq_true rfl)) dX8_encode_30 ⟨Nat.zero_le _, Nat.zero_le _⟩) hP hD hS hA [6, 7, 1, 2] [0, 3, 4, 5, 8, 9, 10, 11] [0, 10, 11, 1, 2, 3, 8, 9, 4, 5, 6, 7] (ws' := zwX8 h_t h_p h_t_draft h_f h_t_source h_fm ++ zwX5 cI h_p h_p_pixels p_wide p_high p_pixels ++ zwX2 cI h_f h_f_bytes f_size f_bytes ++ zwF cF h_fm h_c h_m h_b h_k ++ zwX1 cI h_c h_c_table c_last c_table ++ zwX6 cI h_m m_inDigits m_greatest ++ zwX0 cI h_b h_b_colours b_known b_depth b_packing b_isUpward b_column b_up b_colours ++ zwX4 cI h_k k_depth k_left k_isRepeated k_held) rfl rfl rfl rfl rfl rfl (fun H locs hP hD hS => ?_)
            refine lv_if_ne (tgt := 38) hx hb dX8_encode_33 (by decide) (fun c8 => ?_) (fun c8 => ?_)
            · replace hf := zif_f hf c8
              refine lv_aload_n hx hb dX8_encode_38 rfl (lv_at hl 0 rfl) ?_
              refine va_get (D := D) (ci := 7) (v := .ref h_f) (C := RX8) (T := TX8) (N := 5) hx hb hts iX8_encode_X8 hown hK hP 0 rfl rfl 2 (by decide) (kX8_encode_22 hts) (fun _ h9 => h9) rfl dX8_encode_39 ?_
              refine lv_iconst (v := 0) hx hb dX8_encode_42 (by decide) ?_
              refine va_putN (D := D) (ci := 2) (v := .int 0) (ty := .int) (C := RX2) (T := TX2) (N := 2) hx hb hts iX8_encode_X2 tyX2 tyX2_ok nmX2 hown hK hP hD hS 3 rfl rfl 1 (by decide) (hN.at 19 rfl) (fun _ h9 => h9) rfl (by decide +kernel) rfl rfl (Nat.le_of_ble_eq_true rfl) dX8_encode_43 (fun H locs hP hD hS => ?_)
              replace hP : va_P D vwCl (zwX8 h_t h_p h_t_draft h_f h_t_source h_fm ++ zwX5 cI h_p h_p_pixels p_wide p_high p_pixels ++ zwX2 cI h_f h_f_bytes 0 f_bytes ++ zwF cF h_fm h_c h_m h_b h_k ++ zwX1 cI h_c h_c_table c_last c_table ++ zwX6 cI h_m m_inDigits m_greatest ++ zwX0 cI h_b h_b_colours b_known b_depth b_packing b_isUpward b_column b_up b_colours ++ zwX4 cI h_k k_depth k_left k_isRepeated k_held) H := hP
              replace hD : va_D A (zwX8 h_t h_p h_t_draft h_f h_t_source h_fm ++ zwX5 cI h_p h_p_pixels p_wide p_high p_pixels ++ zwX2 cI h_f h_f_bytes 0 f_bytes ++ zwF cF h_fm h_c h_m h_b h_k ++ zwX1 cI h_c h_c_table c_last c_table ++ zwX6 cI h_m m_inDigits m_greatest ++ zwX0 cI h_b h_b_colours b_known b_depth b_packing b_isUpward b_column b_up b_colours ++ zwX4 cI h_k k_depth k_left k_isRepeated k_held) := hD
              refine lv_aload_n hx hb dX8_encode_46 rfl (lv_at hl 0 rfl) ?_
              refine va_get (D := D) (ci := 7) (v := .ref h_fm) (C := RX8) (T := TX8) (N := 5) hx hb hts iX8_encode_X8 hown hK hP 0 rfl rfl 4 (by decide) (kX8_encode_37 hts) (fun _ h9 => h9) rfl dX8_encode_47 ?_
              refine lv_iload_n hx hb dX8_encode_50 rfl (lv_at hl 1 rfl) ?_
              refine zaald0 hx hb hK2 hP 5 1 rfl rfl dX8_encode_51 ?_
              refine lv_aload_n hx hb dX8_encode_52 rfl (lv_at hl 0 rfl) ?_
              refine va_get (D := D) (ci := 7) (v := .ref h_p) (C := RX8) (T := TX8) (N := 5) hx hb hts iX8_encode_X8 hown hK hP 0 rfl rfl 0 (by decide) (kX8_encode_10 hts) (fun _ h9 => h9) rfl dX8_encode_53 ?_
              refine lv_iload_n hx hb dX8_encode_56 rfl (lv_at hl 2 rfl) ?_
              refine lv_aload_n hx hb dX8_encode_57 rfl (lv_at hl 0 rfl) ?_
              refine va_get (D := D) (ci := 7) (v := .ref h_f) (C := RX8) (T := TX8) (N := 5) hx hb hts iX8_encode_X8 hown hK hP 0 rfl rfl 2 (by decide) (kX8_encode_22 hts) (fun _ h9 => h9) rfl dX8_encode_58 ?_
              obtain ⟨u9, u10, u11, u12, hc13, hf⟩ := zb4_in hf
              refine zc_v (va_runU (As := [.ref h_p, .int v1, .ref h_f]) (rest := []) C (mX1_write l D cI H.size h_c h_c_table h_p h_p_pixels h_f h_f_bytes c_last c_table p_wide p_high p_pixels 0 f_bytes v1 u9 u10 u11 u12 hc13) (qX8_encode_X1_write_123 hts hN) ⟨zP_blind, va_recv hK hP (ci := 1) (q0 := 6) rfl rfl, zpre hK hN hP hD [6, 7, 1, 2, 3, 4] rfl rfl⟩ rfl rfl hl.1 rfl (lv_room (Nat.le_of_ble_eq_true rfl)) dX8_encode_61 ⟨Nat.zero_le _, Nat.zero_le _⟩) hP hD hS hA [6, 7, 1, 2, 3, 4] [0, 5, 8, 9, 10, 11] [0, 8, 9, 10, 11, 1, 6, 7, 2, 3, 4, 5] (ws' := zwX8 h_t h_p h_t_draft h_f h_t_source h_fm ++ zwX5 cI h_p h_p_pixels p_wide p_high p_pixels ++ zwX2 cI h_f h_f_bytes u11 u12 ++ zwF cF h_fm h_c h_m h_b h_k ++ zwX1 cI h_c h_c_table u9 u10 ++ zwX6 cI h_m m_inDigits m_greatest ++ zwX0 cI h_b h_b_colours b_known b_depth b_packing b_isUpward b_column b_up b_colours ++ zwX4 cI h_k k_depth k_left k_isRepeated k_held) rfl rfl rfl rfl rfl rfl (fun H locs hP hD hS => ?_)
              refine lv_aload_n hx hb dX8_encode_64 rfl (lv_at hl 0 rfl) ?_
              refine va_get (D := D) (ci := 7) (v := .ref h_f) (C := RX8) (T := TX8) (N := 5) hx hb hts iX8_encode_X8 hown hK hP 0 rfl rfl 2 (by decide) (kX8_encode_22 hts) (fun _ h9 => h9) rfl dX8_encode_65 ?_
              refine va_getN (D := D) (ci := 2) (v := .int u11) (C := RX2) (T := TX2) (N := 2) hx hb hts iX8_encode_X2 hown hK hP 3 rfl rfl 1 (by decide) (hN.at 19 rfl) (fun _ h9 => h9) rfl dX8_encode_68 ?_
              cases hf
              exact hE _ _ _ _ dX8_encode_71 hP hD hS
            · replace hf := zif_t hf c8
              refine lv_iconst (v := (-1)) hx hb dX8_encode_36 (by decide) ?_
              cases hf
              exact hE _ _ _ _ dX8_encode_37 hP hD hS
          replace hf := zif_f hf c5
          by_cases c14 : v0 = 1
          · replace hf := zif_t hf c14
            subst c14
            refine zaald1 hx hb hK2 hP 5 1 rfl rfl dX8_encode_25 ?_
            refine lv_aload_n hx hb dX8_encode_26 rfl (lv_at hl 0 rfl) ?_
            refine va_get (D := D) (ci := 7) (v := .ref h_p) (C := RX8) (T := TX8) (N := 5) hx hb hts iX8_encode_X8 hown hK hP 0 rfl rfl 0 (by decide) (kX8_encode_10 hts) (fun _ h9 => h9) rfl dX8_encode_27 ?_
            obtain ⟨r15, hc16, hf⟩ := zb1_in hf
            refine zc_i (va_runU (As := [.ref h_p]) (rest := []) C (mX6_canHold l D cI H.size h_m h_p h_p_pixels m_inDigits m_greatest p_wide p_high p_pixels r15 hc16) (qX8_encode_X6_canHold_119 hts hN) ⟨zP_blind, va_recv hK hP (ci := 5) (q0 := 8) rfl rfl, zpre hK hN hP hD [8, 1, 2] rfl rfl⟩ rfl rfl hl.1 rfl (lv_room (Nat.le_of_ble_eq_true rfl)) dX8_encode_30 ⟨Nat.zero_le _, Nat.zero_le _⟩) hP hD hS hA [8, 1, 2] [0, 3, 4, 5, 6, 7, 9, 10, 11] [0, 10, 11, 1, 2, 3, 4, 5, 9, 6, 7, 8] (ws' := zwX8 h_t h_p h_t_draft h_f h_t_source h_fm ++ zwX5 cI h_p h_p_pixels p_wide p_high p_pixels ++ zwX2 cI h_f h_f_bytes f_size f_bytes ++ zwF cF h_fm h_c h_m h_b h_k ++ zwX1 cI h_c h_c_table c_last c_table ++ zwX6 cI h_m m_inDigits m_greatest ++ zwX0 cI h_b h_b_colours b_known b_depth b_packing b_isUpward b_column b_up b_colours ++ zwX4 cI h_k k_depth k_left k_isRepeated k_held) rfl rfl rfl rfl rfl rfl (fun H locs hP hD hS => ?_)
            refine lv_if_ne (tgt := 38) hx hb dX8_encode_33 (by decide) (fun c17 => ?_) (fun c17 => ?_)
            · replace hf := zif_f hf c17
              refine lv_aload_n hx hb dX8_encode_38 rfl (lv_at hl 0 rfl) ?_
              refine va_get (D := D) (ci := 7) (v := .ref h_f) (C := RX8) (T := TX8) (N := 5) hx hb hts iX8_encode_X8 hown hK hP 0 rfl rfl 2 (by decide) (kX8_encode_22 hts) (fun _ h9 => h9) rfl dX8_encode_39 ?_
              refine lv_iconst (v := 0) hx hb dX8_encode_42 (by decide) ?_
              refine va_putN (D := D) (ci := 2) (v := .int 0) (ty := .int) (C := RX2) (T := TX2) (N := 2) hx hb hts iX8_encode_X2 tyX2 tyX2_ok nmX2 hown hK hP hD hS 3 rfl rfl 1 (by decide) (hN.at 19 rfl) (fun _ h9 => h9) rfl (by decide +kernel) rfl rfl (Nat.le_of_ble_eq_true rfl) dX8_encode_43 (fun H locs hP hD hS => ?_)
              replace hP : va_P D vwCl (zwX8 h_t h_p h_t_draft h_f h_t_source h_fm ++ zwX5 cI h_p h_p_pixels p_wide p_high p_pixels ++ zwX2 cI h_f h_f_bytes 0 f_bytes ++ zwF cF h_fm h_c h_m h_b h_k ++ zwX1 cI h_c h_c_table c_last c_table ++ zwX6 cI h_m m_inDigits m_greatest ++ zwX0 cI h_b h_b_colours b_known b_depth b_packing b_isUpward b_column b_up b_colours ++ zwX4 cI h_k k_depth k_left k_isRepeated k_held) H := hP
              replace hD : va_D A (zwX8 h_t h_p h_t_draft h_f h_t_source h_fm ++ zwX5 cI h_p h_p_pixels p_wide p_high p_pixels ++ zwX2 cI h_f h_f_bytes 0 f_bytes ++ zwF cF h_fm h_c h_m h_b h_k ++ zwX1 cI h_c h_c_table c_last c_table ++ zwX6 cI h_m m_inDigits m_greatest ++ zwX0 cI h_b h_b_colours b_known b_depth b_packing b_isUpward b_column b_up b_colours ++ zwX4 cI h_k k_depth k_left k_isRepeated k_held) := hD
              refine lv_aload_n hx hb dX8_encode_46 rfl (lv_at hl 0 rfl) ?_
              refine va_get (D := D) (ci := 7) (v := .ref h_fm) (C := RX8) (T := TX8) (N := 5) hx hb hts iX8_encode_X8 hown hK hP 0 rfl rfl 4 (by decide) (kX8_encode_37 hts) (fun _ h9 => h9) rfl dX8_encode_47 ?_
              refine lv_iload_n hx hb dX8_encode_50 rfl (lv_at hl 1 rfl) ?_
              refine zaald1 hx hb hK2 hP 5 1 rfl rfl dX8_encode_51 ?_
              refine lv_aload_n hx hb dX8_encode_52 rfl (lv_at hl 0 rfl) ?_
              refine va_get (D := D) (ci := 7) (v := .ref h_p) (C := RX8) (T := TX8) (N := 5) hx hb hts iX8_encode_X8 hown hK hP 0 rfl rfl 0 (by decide) (kX8_encode_10 hts) (fun _ h9 => h9) rfl dX8_encode_53 ?_
              refine lv_iload_n hx hb dX8_encode_56 rfl (lv_at hl 2 rfl) ?_
              refine lv_aload_n hx hb dX8_encode_57 rfl (lv_at hl 0 rfl) ?_
              refine va_get (D := D) (ci := 7) (v := .ref h_f) (C := RX8) (T := TX8) (N := 5) hx hb hts iX8_encode_X8 hown hK hP 0 rfl rfl 2 (by decide) (kX8_encode_22 hts) (fun _ h9 => h9) rfl dX8_encode_58 ?_
              obtain ⟨u18, u19, hc20, hf⟩ := zb2_in hf
              refine zc_v (va_runU (As := [.ref h_p, .int v1, .ref h_f]) (rest := []) C (mX6_write l D cI H.size h_m h_p h_p_pixels h_f h_f_bytes m_inDigits m_greatest p_wide p_high p_pixels 0 f_bytes v1 u18 u19 hc20) (qX8_encode_X6_write_123 hts hN) ⟨zP_blind, va_recv hK hP (ci := 5) (q0 := 8) rfl rfl, zpre hK hN hP hD [8, 1, 2, 3, 4] rfl rfl⟩ rfl rfl hl.1 rfl (lv_room (Nat.le_of_ble_eq_true rfl)) dX8_encode_61 ⟨Nat.zero_le _, Nat.zero_le _⟩) hP hD hS hA [8, 1, 2, 3, 4] [0, 5, 6, 7, 9, 10, 11] [0, 8, 9, 10, 11, 1, 2, 3, 7, 4, 5, 6] (ws' := zwX8 h_t h_p h_t_draft h_f h_t_source h_fm ++ zwX5 cI h_p h_p_pixels p_wide p_high p_pixels ++ zwX2 cI h_f h_f_bytes u18 u19 ++ zwF cF h_fm h_c h_m h_b h_k ++ zwX1 cI h_c h_c_table c_last c_table ++ zwX6 cI h_m m_inDigits m_greatest ++ zwX0 cI h_b h_b_colours b_known b_depth b_packing b_isUpward b_column b_up b_colours ++ zwX4 cI h_k k_depth k_left k_isRepeated k_held) rfl rfl rfl rfl rfl rfl (fun H locs hP hD hS => ?_)
              refine lv_aload_n hx hb dX8_encode_64 rfl (lv_at hl 0 rfl) ?_
              refine va_get (D := D) (ci := 7) (v := .ref h_f) (C := RX8) (T := TX8) (N := 5) hx hb hts iX8_encode_X8 hown hK hP 0 rfl rfl 2 (by decide) (kX8_encode_22 hts) (fun _ h9 => h9) rfl dX8_encode_65 ?_
              refine va_getN (D := D) (ci := 2) (v := .int u18) (C := RX2) (T := TX2) (N := 2) hx hb hts iX8_encode_X2 hown hK hP 3 rfl rfl 1 (by decide) (hN.at 19 rfl) (fun _ h9 => h9) rfl dX8_encode_68 ?_
              cases hf
              exact hE _ _ _ _ dX8_encode_71 hP hD hS
            · replace hf := zif_t hf c17
              refine lv_iconst (v := (-1)) hx hb dX8_encode_36 (by decide) ?_
              cases hf
              exact hE _ _ _ _ dX8_encode_37 hP hD hS
          replace hf := zif_f hf c14
          by_cases c21 : v0 = 2
          · replace hf := zif_t hf c21
            subst c21
            refine zaald2 hx hb hK2 hP 5 1 rfl rfl dX8_encode_25 ?_
            refine lv_aload_n hx hb dX8_encode_26 rfl (lv_at hl 0 rfl) ?_
            refine va_get (D := D) (ci := 7) (v := .ref h_p) (C := RX8) (T := TX8) (N := 5) hx hb hts iX8_encode_X8 hown hK hP 0 rfl rfl 0 (by decide) (kX8_encode_10 hts) (fun _ h9 => h9) rfl dX8_encode_27 ?_
            obtain ⟨r22, hc23, hf⟩ := zb1_in hf
            refine zc_i (va_runU (As := [.ref h_p]) (rest := []) C (mX0_canHold l D cI H.size h_b h_b_colours h_p h_p_pixels b_known b_depth b_packing b_isUpward b_column b_up b_colours p_wide p_high p_pixels r22 hc23) (qX8_encode_X0_canHold_119 hts hN) ⟨zP_blind, va_recv hK hP (ci := 0) (q0 := 9) rfl rfl, zpre hK hN hP hD [9, 10, 1, 2] rfl rfl⟩ rfl rfl hl.1 rfl (lv_room (Nat.le_of_ble_eq_true rfl)) dX8_encode_30 ⟨Nat.zero_le _, Nat.zero_le _⟩) hP hD hS hA [9, 10, 1, 2] [0, 3, 4, 5, 6, 7, 8, 11] [0, 10, 11, 1, 2, 3, 4, 5, 6, 8, 9, 7] (ws' := zwX8 h_t h_p h_t_draft h_f h_t_source h_fm ++ zwX5 cI h_p h_p_pixels p_wide p_high p_pixels ++ zwX2 cI h_f h_f_bytes f_size f_bytes ++ zwF cF h_fm h_c h_m h_b h_k ++ zwX1 cI h_c h_c_table c_last c_table ++ zwX6 cI h_m m_inDigits m_greatest ++ zwX0 cI h_b h_b_colours b_known b_depth b_packing b_isUpward b_column b_up b_colours ++ zwX4 cI h_k k_depth k_left k_isRepeated k_held) rfl rfl rfl rfl rfl rfl (fun H locs hP hD hS => ?_)
            refine lv_if_ne (tgt := 38) hx hb dX8_encode_33 (by decide) (fun c24 => ?_) (fun c24 => ?_)
            · replace hf := zif_f hf c24
              refine lv_aload_n hx hb dX8_encode_38 rfl (lv_at hl 0 rfl) ?_
              refine va_get (D := D) (ci := 7) (v := .ref h_f) (C := RX8) (T := TX8) (N := 5) hx hb hts iX8_encode_X8 hown hK hP 0 rfl rfl 2 (by decide) (kX8_encode_22 hts) (fun _ h9 => h9) rfl dX8_encode_39 ?_
              refine lv_iconst (v := 0) hx hb dX8_encode_42 (by decide) ?_
              refine va_putN (D := D) (ci := 2) (v := .int 0) (ty := .int) (C := RX2) (T := TX2) (N := 2) hx hb hts iX8_encode_X2 tyX2 tyX2_ok nmX2 hown hK hP hD hS 3 rfl rfl 1 (by decide) (hN.at 19 rfl) (fun _ h9 => h9) rfl (by decide +kernel) rfl rfl (Nat.le_of_ble_eq_true rfl) dX8_encode_43 (fun H locs hP hD hS => ?_)
              replace hP : va_P D vwCl (zwX8 h_t h_p h_t_draft h_f h_t_source h_fm ++ zwX5 cI h_p h_p_pixels p_wide p_high p_pixels ++ zwX2 cI h_f h_f_bytes 0 f_bytes ++ zwF cF h_fm h_c h_m h_b h_k ++ zwX1 cI h_c h_c_table c_last c_table ++ zwX6 cI h_m m_inDigits m_greatest ++ zwX0 cI h_b h_b_colours b_known b_depth b_packing b_isUpward b_column b_up b_colours ++ zwX4 cI h_k k_depth k_left k_isRepeated k_held) H := hP
              replace hD : va_D A (zwX8 h_t h_p h_t_draft h_f h_t_source h_fm ++ zwX5 cI h_p h_p_pixels p_wide p_high p_pixels ++ zwX2 cI h_f h_f_bytes 0 f_bytes ++ zwF cF h_fm h_c h_m h_b h_k ++ zwX1 cI h_c h_c_table c_last c_table ++ zwX6 cI h_m m_inDigits m_greatest ++ zwX0 cI h_b h_b_colours b_known b_depth b_packing b_isUpward b_column b_up b_colours ++ zwX4 cI h_k k_depth k_left k_isRepeated k_held) := hD
              refine lv_aload_n hx hb dX8_encode_46 rfl (lv_at hl 0 rfl) ?_
              refine va_get (D := D) (ci := 7) (v := .ref h_fm) (C := RX8) (T := TX8) (N := 5) hx hb hts iX8_encode_X8 hown hK hP 0 rfl rfl 4 (by decide) (kX8_encode_37 hts) (fun _ h9 => h9) rfl dX8_encode_47 ?_
              refine lv_iload_n hx hb dX8_encode_50 rfl (lv_at hl 1 rfl) ?_
              refine zaald2 hx hb hK2 hP 5 1 rfl rfl dX8_encode_51 ?_
              refine lv_aload_n hx hb dX8_encode_52 rfl (lv_at hl 0 rfl) ?_
              refine va_get (D := D) (ci := 7) (v := .ref h_p) (C := RX8) (T := TX8) (N := 5) hx hb hts iX8_encode_X8 hown hK hP 0 rfl rfl 0 (by decide) (kX8_encode_10 hts) (fun _ h9 => h9) rfl dX8_encode_53 ?_
              refine lv_iload_n hx hb dX8_encode_56 rfl (lv_at hl 2 rfl) ?_
              refine lv_aload_n hx hb dX8_encode_57 rfl (lv_at hl 0 rfl) ?_
              refine va_get (D := D) (ci := 7) (v := .ref h_f) (C := RX8) (T := TX8) (N := 5) hx hb hts iX8_encode_X8 hown hK hP 0 rfl rfl 2 (by decide) (kX8_encode_22 hts) (fun _ h9 => h9) rfl dX8_encode_58 ?_
              obtain ⟨u25, u26, u27, u28, hc29, hf⟩ := zb4_in hf
              refine zc_v (va_runU (As := [.ref h_p, .int v1, .ref h_f]) (rest := []) C (mX0_write l D cI H.size h_b h_b_colours h_p h_p_pixels h_f h_f_bytes b_known b_depth b_packing b_isUpward b_column b_up b_colours p_wide p_high p_pixels 0 f_bytes v1 u25 u26 u27 u28 hc29) (qX8_encode_X0_write_123 hts hN) ⟨zP_blind, va_recv hK hP (ci := 0) (q0 := 9) rfl rfl, zpre hK hN hP hD [9, 10, 1, 2, 3, 4] rfl rfl⟩ rfl rfl hl.1 rfl (lv_room (Nat.le_of_ble_eq_true rfl)) dX8_encode_61 ⟨Nat.zero_le _, Nat.zero_le _⟩) hP hD hS hA [9, 10, 1, 2, 3, 4] [0, 5, 6, 7, 8, 11] [0, 8, 9, 10, 11, 1, 2, 3, 4, 6, 7, 5] (ws' := zwX8 h_t h_p h_t_draft h_f h_t_source h_fm ++ zwX5 cI h_p h_p_pixels p_wide p_high p_pixels ++ zwX2 cI h_f h_f_bytes u27 u28 ++ zwF cF h_fm h_c h_m h_b h_k ++ zwX1 cI h_c h_c_table c_last c_table ++ zwX6 cI h_m m_inDigits m_greatest ++ zwX0 cI h_b h_b_colours u25 b_depth b_packing b_isUpward b_column b_up u26 ++ zwX4 cI h_k k_depth k_left k_isRepeated k_held) rfl rfl rfl rfl rfl rfl (fun H locs hP hD hS => ?_)
              refine lv_aload_n hx hb dX8_encode_64 rfl (lv_at hl 0 rfl) ?_
              refine va_get (D := D) (ci := 7) (v := .ref h_f) (C := RX8) (T := TX8) (N := 5) hx hb hts iX8_encode_X8 hown hK hP 0 rfl rfl 2 (by decide) (kX8_encode_22 hts) (fun _ h9 => h9) rfl dX8_encode_65 ?_
              refine va_getN (D := D) (ci := 2) (v := .int u27) (C := RX2) (T := TX2) (N := 2) hx hb hts iX8_encode_X2 hown hK hP 3 rfl rfl 1 (by decide) (hN.at 19 rfl) (fun _ h9 => h9) rfl dX8_encode_68 ?_
              cases hf
              exact hE _ _ _ _ dX8_encode_71 hP hD hS
            · replace hf := zif_t hf c24
              refine lv_iconst (v := (-1)) hx hb dX8_encode_36 (by decide) ?_
              cases hf
              exact hE _ _ _ _ dX8_encode_37 hP hD hS
          replace hf := zif_f hf c21
          by_cases c30 : v0 = 3
          · replace hf := zif_t hf c30
            subst c30
            refine zaald3 hx hb hK2 hP 5 1 rfl rfl dX8_encode_25 ?_
            refine lv_aload_n hx hb dX8_encode_26 rfl (lv_at hl 0 rfl) ?_
            refine va_get (D := D) (ci := 7) (v := .ref h_p) (C := RX8) (T := TX8) (N := 5) hx hb hts iX8_encode_X8 hown hK hP 0 rfl rfl 0 (by decide) (kX8_encode_10 hts) (fun _ h9 => h9) rfl dX8_encode_27 ?_
            obtain ⟨r31, hc32, hf⟩ := zb1_in hf
            refine zc_i (va_runU (As := [.ref h_p]) (rest := []) C (mX4_canHold l D cI H.size h_k h_p h_p_pixels k_depth k_left k_isRepeated k_held p_wide p_high p_pixels r31 hc32) (qX8_encode_X4_canHold_119 hts hN) ⟨zP_blind, va_recv hK hP (ci := 3) (q0 := 11) rfl rfl, zpre hK hN hP hD [11, 1, 2] rfl rfl⟩ rfl rfl hl.1 rfl (lv_room (Nat.le_of_ble_eq_true rfl)) dX8_encode_30 ⟨Nat.zero_le _, Nat.zero_le _⟩) hP hD hS hA [11, 1, 2] [0, 3, 4, 5, 6, 7, 8, 9, 10] [0, 10, 11, 1, 2, 3, 4, 5, 6, 7, 8, 9] (ws' := zwX8 h_t h_p h_t_draft h_f h_t_source h_fm ++ zwX5 cI h_p h_p_pixels p_wide p_high p_pixels ++ zwX2 cI h_f h_f_bytes f_size f_bytes ++ zwF cF h_fm h_c h_m h_b h_k ++ zwX1 cI h_c h_c_table c_last c_table ++ zwX6 cI h_m m_inDigits m_greatest ++ zwX0 cI h_b h_b_colours b_known b_depth b_packing b_isUpward b_column b_up b_colours ++ zwX4 cI h_k k_depth k_left k_isRepeated k_held) rfl rfl rfl rfl rfl rfl (fun H locs hP hD hS => ?_)
            refine lv_if_ne (tgt := 38) hx hb dX8_encode_33 (by decide) (fun c33 => ?_) (fun c33 => ?_)
            · replace hf := zif_f hf c33
              refine lv_aload_n hx hb dX8_encode_38 rfl (lv_at hl 0 rfl) ?_
              refine va_get (D := D) (ci := 7) (v := .ref h_f) (C := RX8) (T := TX8) (N := 5) hx hb hts iX8_encode_X8 hown hK hP 0 rfl rfl 2 (by decide) (kX8_encode_22 hts) (fun _ h9 => h9) rfl dX8_encode_39 ?_
              refine lv_iconst (v := 0) hx hb dX8_encode_42 (by decide) ?_
              refine va_putN (D := D) (ci := 2) (v := .int 0) (ty := .int) (C := RX2) (T := TX2) (N := 2) hx hb hts iX8_encode_X2 tyX2 tyX2_ok nmX2 hown hK hP hD hS 3 rfl rfl 1 (by decide) (hN.at 19 rfl) (fun _ h9 => h9) rfl (by decide +kernel) rfl rfl (Nat.le_of_ble_eq_true rfl) dX8_encode_43 (fun H locs hP hD hS => ?_)
              replace hP : va_P D vwCl (zwX8 h_t h_p h_t_draft h_f h_t_source h_fm ++ zwX5 cI h_p h_p_pixels p_wide p_high p_pixels ++ zwX2 cI h_f h_f_bytes 0 f_bytes ++ zwF cF h_fm h_c h_m h_b h_k ++ zwX1 cI h_c h_c_table c_last c_table ++ zwX6 cI h_m m_inDigits m_greatest ++ zwX0 cI h_b h_b_colours b_known b_depth b_packing b_isUpward b_column b_up b_colours ++ zwX4 cI h_k k_depth k_left k_isRepeated k_held) H := hP
              replace hD : va_D A (zwX8 h_t h_p h_t_draft h_f h_t_source h_fm ++ zwX5 cI h_p h_p_pixels p_wide p_high p_pixels ++ zwX2 cI h_f h_f_bytes 0 f_bytes ++ zwF cF h_fm h_c h_m h_b h_k ++ zwX1 cI h_c h_c_table c_last c_table ++ zwX6 cI h_m m_inDigits m_greatest ++ zwX0 cI h_b h_b_colours b_known b_depth b_packing b_isUpward b_column b_up b_colours ++ zwX4 cI h_k k_depth k_left k_isRepeated k_held) := hD
              refine lv_aload_n hx hb dX8_encode_46 rfl (lv_at hl 0 rfl) ?_
              refine va_get (D := D) (ci := 7) (v := .ref h_fm) (C := RX8) (T := TX8) (N := 5) hx hb hts iX8_encode_X8 hown hK hP 0 rfl rfl 4 (by decide) (kX8_encode_37 hts) (fun _ h9 => h9) rfl dX8_encode_47 ?_
              refine lv_iload_n hx hb dX8_encode_50 rfl (lv_at hl 1 rfl) ?_
              refine zaald3 hx hb hK2 hP 5 1 rfl rfl dX8_encode_51 ?_
              refine lv_aload_n hx hb dX8_encode_52 rfl (lv_at hl 0 rfl) ?_
              refine va_get (D := D) (ci := 7) (v := .ref h_p) (C := RX8) (T := TX8) (N := 5) hx hb hts iX8_encode_X8 hown hK hP 0 rfl rfl 0 (by decide) (kX8_encode_10 hts) (fun _ h9 => h9) rfl dX8_encode_53 ?_
              refine lv_iload_n hx hb dX8_encode_56 rfl (lv_at hl 2 rfl) ?_
              refine lv_aload_n hx hb dX8_encode_57 rfl (lv_at hl 0 rfl) ?_
              refine va_get (D := D) (ci := 7) (v := .ref h_f) (C := RX8) (T := TX8) (N := 5) hx hb hts iX8_encode_X8 hown hK hP 0 rfl rfl 2 (by decide) (kX8_encode_22 hts) (fun _ h9 => h9) rfl dX8_encode_58 ?_
              obtain ⟨u34, u35, u36, hc37, hf⟩ := zb3_in hf
              refine zc_v (va_runU (As := [.ref h_p, .int v1, .ref h_f]) (rest := []) C (mX4_write l D cI H.size h_k h_p h_p_pixels h_f h_f_bytes k_depth k_left k_isRepeated k_held p_wide p_high p_pixels 0 f_bytes v1 u34 u35 u36 hc37) (qX8_encode_X4_write_123 hts hN) ⟨zP_blind, va_recv hK hP (ci := 3) (q0 := 11) rfl rfl, zpre hK hN hP hD [11, 1, 2, 3, 4] rfl rfl⟩ rfl rfl hl.1 rfl (lv_room (Nat.le_of_ble_eq_true rfl)) dX8_encode_61 ⟨Nat.zero_le _, Nat.zero_le _⟩) hP hD hS hA [11, 1, 2, 3, 4] [0, 5, 6, 7, 8, 9, 10] [0, 8, 9, 10, 11, 1, 2, 3, 4, 5, 6, 7] (ws' := zwX8 h_t h_p h_t_draft h_f h_t_source h_fm ++ zwX5 cI h_p h_p_pixels p_wide p_high p_pixels ++ zwX2 cI h_f h_f_bytes u35 u36 ++ zwF cF h_fm h_c h_m h_b h_k ++ zwX1 cI h_c h_c_table c_last c_table ++ zwX6 cI h_m m_inDigits m_greatest ++ zwX0 cI h_b h_b_colours b_known b_depth b_packing b_isUpward b_column b_up b_colours ++ zwX4 cI h_k u34 k_left k_isRepeated k_held) rfl rfl rfl rfl rfl rfl (fun H locs hP hD hS => ?_)
              refine lv_aload_n hx hb dX8_encode_64 rfl (lv_at hl 0 rfl) ?_
              refine va_get (D := D) (ci := 7) (v := .ref h_f) (C := RX8) (T := TX8) (N := 5) hx hb hts iX8_encode_X8 hown hK hP 0 rfl rfl 2 (by decide) (kX8_encode_22 hts) (fun _ h9 => h9) rfl dX8_encode_65 ?_
              refine va_getN (D := D) (ci := 2) (v := .int u35) (C := RX2) (T := TX2) (N := 2) hx hb hts iX8_encode_X2 hown hK hP 3 rfl rfl 1 (by decide) (hN.at 19 rfl) (fun _ h9 => h9) rfl dX8_encode_68 ?_
              cases hf
              exact hE _ _ _ _ dX8_encode_71 hP hD hS
            · replace hf := zif_t hf c33
              refine lv_iconst (v := (-1)) hx hb dX8_encode_36 (by decide) ?_
              cases hf
              exact hE _ _ _ _ dX8_encode_37 hP hD hS
          replace hf := zif_f hf c30
          cases hf
        · replace hf := zif_f hf c4
          refine lv_iconst (v := (-1)) hx hb dX8_encode_18 (by decide) ?_
          cases hf
          exact hE _ _ _ _ dX8_encode_19 hP hD hS
set_option maxHeartbeats 4000000 in
set_option maxRecDepth 100000 in
theorem mX8_encode (l : Launch) (D : va_G) (cI cF : ClassId) (sz : Nat) (h_t h_t_draft h_t_source h_p h_p_pixels h_f h_f_bytes h_fm h_c h_c_table h_m h_b h_b_colours h_k : Nat) (p_wide : Int32) (p_high : Int32) (p_pixels : Nat → Int32) (f_size : Int32) (f_bytes : Nat → Int32) (c_last : Int32) (c_table : Nat → Int32) (m_inDigits : Int32) (m_greatest : Int32) (b_known : Int32) (b_depth : Int32) (b_packing : Int32) (b_isUpward : Int32) (b_column : Int32) (b_up : Int32) (b_colours : Nat → Int32) (k_depth : Int32) (k_left : Int32) (k_isRepeated : Int32) (k_held : Int32) (v0 v1 : Int32) (r0 : Int32) (zf_size : Int32) (zf_bytes : Nat → Int32) (zc_last : Int32) (zc_table : Nat → Int32) (zb_known : Int32) (zb_colours : Nat → Int32) (zk_depth : Int32) (hf : fX8_encode p_wide p_high p_pixels f_size f_bytes c_last c_table b_known b_colours k_depth v0 v1 = some (r0, zf_size, zf_bytes, zc_last, zc_table, zb_known, zb_colours, zk_depth)) : Met l yX8_encode wsX8_encode rmX8_encode (va_Pc [.ref h_t, .int v0, .int v1] (zP D [(cI, .int), (cF, .object RX3)] (zwX8 h_t h_p h_t_draft h_f h_t_source h_fm ++ zwX5 cI h_p h_p_pixels p_wide p_high p_pixels ++ zwX2 cI h_f h_f_bytes f_size f_bytes ++ zwF cF h_fm h_c h_m h_b h_k ++ zwX1 cI h_c h_c_table c_last c_table ++ zwX6 cI h_m m_inDigits m_greatest ++ zwX0 cI h_b h_b_colours b_known b_depth b_packing b_isUpward b_column b_up b_colours ++ zwX4 cI h_k k_depth k_left k_isRepeated k_held) sz)) (zQi D (zwX8 h_t h_p h_t_draft h_f h_t_source h_fm ++ zwX5 cI h_p h_p_pixels p_wide p_high p_pixels ++ zwX2 cI h_f h_f_bytes f_size f_bytes ++ zwF cF h_fm h_c h_m h_b h_k ++ zwX1 cI h_c h_c_table c_last c_table ++ zwX6 cI h_m m_inDigits m_greatest ++ zwX0 cI h_b h_b_colours b_known b_depth b_packing b_isUpward b_column b_up b_colours ++ zwX4 cI h_k k_depth k_left k_isRepeated k_held) sz r0 (zwX8 h_t h_p h_t_draft h_f h_t_source h_fm ++ zwX5 cI h_p h_p_pixels p_wide p_high p_pixels ++ zwX2 cI h_f h_f_bytes zf_size zf_bytes ++ zwF cF h_fm h_c h_m h_b h_k ++ zwX1 cI h_c h_c_table zc_last zc_table ++ zwX6 cI h_m m_inDigits m_greatest ++ zwX0 cI h_b h_b_colours zb_known b_depth b_packing b_isUpward b_column b_up zb_colours ++ zwX4 cI h_k zk_depth k_left k_isRepeated k_held)) 0 0 (va_A (zwX8 h_t h_p h_t_draft h_f h_t_source h_fm ++ zwX5 cI h_p h_p_pixels p_wide p_high p_pixels ++ zwX2 cI h_f h_f_bytes f_size f_bytes ++ zwF cF h_fm h_c h_m h_b h_k ++ zwX1 cI h_c h_c_table c_last c_table ++ zwX6 cI h_m m_inDigits m_greatest ++ zwX0 cI h_b h_b_colours b_known b_depth b_packing b_isUpward b_column b_up b_colours ++ zwX4 cI h_k k_depth k_left k_isRepeated k_held) sz) := by
  refine Met.ofW (cc := cX8_encode) (maxL := 3) (ret := (some .int)) (by decide) rfl ?_
  intro p e s m args below meth c s₁ B hml hv
  obtain ⟨rfl, hsz, hP, hK, hD0, hN⟩ := hv
  subst hsz
  have C : CallFix p m c cX8_encode 3 s [.ref h_t, .int v0, .int v1].toArray wsX8_encode RX8 := ⟨B.exec, B.bytes, hml, findClass_of_methodNamed B.named, atoms_spec (ws := wsX8_encode) B.pre⟩
  have hl := lv_entry ([.ref h_t, .int v0, .int v1]) (n := 3) (Nat.le_of_ble_eq_true rfl)
  rw [lg_entry_eq]
  exact wX8_encode_0 (A := va_A (zwX8 h_t h_p h_t_draft h_f h_t_source h_fm ++ zwX5 cI h_p h_p_pixels p_wide p_high p_pixels ++ zwX2 cI h_f h_f_bytes f_size f_bytes ++ zwF cF h_fm h_c h_m h_b h_k ++ zwX1 cI h_c h_c_table c_last c_table ++ zwX6 cI h_m m_inDigits m_greatest ++ zwX0 cI h_b h_b_colours b_known b_depth b_packing b_isUpward b_column b_up b_colours ++ zwX4 cI h_k k_depth k_left k_isRepeated k_held) s.heap.size) C hN hK (fun q h => Or.inr h) (fun H locs pc ls d hP hD hS => zend_i C.1 C.2.1 B.returns B.notSynchronized d hP hD hS) hf hP hD0.self va_S.rf hl
