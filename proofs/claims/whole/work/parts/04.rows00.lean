set_option maxRecDepth 20000 in
theorem ggX0_init_X3_init : GoodIn wsX0_init wsX3_init := goodIn_r _ [5, 6, 7, 8] (by decide +kernel) (by decide +kernel)
set_option maxRecDepth 20000 in
theorem gX0_init_X3_init_n3 : GoodIn wsX0_init (wsX3_init) := ggX0_init_X3_init
theorem dX0_init_0 : decode cX0_init 0 = .ok (.aload_n 0, 1) := by decide +kernel
theorem dX0_init_1 : decode cX0_init 1 = .ok (.invokespecial 3, 3) := by decide +kernel
theorem dX0_init_4 : decode cX0_init 4 = .ok (.aload_n 0, 1) := by decide +kernel
theorem dX0_init_5 : decode cX0_init 5 = .ok (.bipush 64, 2) := by decide +kernel
theorem dX0_init_7 : decode cX0_init 7 = .ok (.newarray .int, 2) := by decide +kernel
theorem dX0_init_9 : decode cX0_init 9 = .ok (.putfield 11, 3) := by decide +kernel
theorem dX0_init_12 : decode cX0_init 12 = .ok (.return_, 1) := by decide +kernel
set_option maxRecDepth 20000 in
theorem ggX0_isThatOf_X2_at : GoodIn wsX0_isThatOf wsX2_at := goodIn_r _ [5, 6, 7, 8, 9] (by decide +kernel) (by decide +kernel)
set_option maxRecDepth 20000 in
theorem gX0_isThatOf_X2_at : GoodIn wsX0_isThatOf (wsV RX0 15 RX2 yX2_at wsX2_at) := goodIn_app (goodIn_of _ (by decide +kernel)) ggX0_isThatOf_X2_at
theorem dX0_isThatOf_0 : decode cX0_isThatOf 0 = .ok (.aload_n 1, 1) := by decide +kernel
theorem dX0_isThatOf_1 : decode cX0_isThatOf 1 = .ok (.iconst 0, 1) := by decide +kernel
theorem dX0_isThatOf_2 : decode cX0_isThatOf 2 = .ok (.invokevirtual 15, 3) := by decide +kernel
theorem dX0_isThatOf_5 : decode cX0_isThatOf 5 = .ok (.bipush 66, 2) := by decide +kernel
theorem dX0_isThatOf_7 : decode cX0_isThatOf 7 = .ok (.if_icmp .ne 17, 3) := by decide +kernel
theorem dX0_isThatOf_10 : decode cX0_isThatOf 10 = .ok (.aload_n 1, 1) := by decide +kernel
theorem dX0_isThatOf_11 : decode cX0_isThatOf 11 = .ok (.iconst 1, 1) := by decide +kernel
theorem dX0_isThatOf_12 : decode cX0_isThatOf 12 = .ok (.invokevirtual 15, 3) := by decide +kernel
theorem dX0_isThatOf_15 : decode cX0_isThatOf 15 = .ok (.bipush 77, 2) := by decide +kernel
theorem dX0_isThatOf_17 : decode cX0_isThatOf 17 = .ok (.if_icmp .ne 7, 3) := by decide +kernel
theorem dX0_isThatOf_20 : decode cX0_isThatOf 20 = .ok (.iconst 1, 1) := by decide +kernel
theorem dX0_isThatOf_21 : decode cX0_isThatOf 21 = .ok (.goto 4, 3) := by decide +kernel
theorem dX0_isThatOf_24 : decode cX0_isThatOf 24 = .ok (.iconst 0, 1) := by decide +kernel
theorem dX0_isThatOf_25 : decode cX0_isThatOf 25 = .ok (.ireturn, 1) := by decide +kernel
set_option maxRecDepth 20000 in
theorem ggX0_canHold_X5_isOpaque : GoodIn wsX0_canHold wsX5_isOpaque := goodIn_r _ [5, 6, 7, 8, 9, 4, 10, 11, 12, 13, 14, 15, 16, 17, 18] (by decide +kernel) (by decide +kernel)
set_option maxRecDepth 20000 in
theorem gX0_canHold_X5_isOpaque : GoodIn wsX0_canHold (wsV RX0 21 RX5 yX5_isOpaque wsX5_isOpaque) := goodIn_app (goodIn_of _ (by decide +kernel)) ggX0_canHold_X5_isOpaque
theorem dX0_canHold_0 : decode cX0_canHold 0 = .ok (.aload_n 1, 1) := by decide +kernel
theorem dX0_canHold_1 : decode cX0_canHold 1 = .ok (.invokevirtual 21, 3) := by decide +kernel
theorem dX0_canHold_4 : decode cX0_canHold 4 = .ok (.ireturn, 1) := by decide +kernel
set_option maxRecDepth 20000 in
theorem ggX0_write_X0_gatherColours : GoodIn wsX0_write wsX0_gatherColours := goodIn_r _ [7, 1, 2, 8, 9, 10, 11, 12, 13, 14, 15, 16, 17, 6, 18, 75, 76, 77, 68, 69, 70, 71, 72, 73, 74] (by decide +kernel) (by decide +kernel)
set_option maxRecDepth 20000 in
theorem gX0_write_X0_gatherColours : GoodIn wsX0_write (wsV RX0 31 RX0 yX0_gatherColours wsX0_gatherColours) := goodIn_app (goodIn_of _ (by decide +kernel)) ggX0_write_X0_gatherColours
set_option maxRecDepth 20000 in
theorem ggX0_write_X0_writeHeader : GoodIn wsX0_write wsX0_writeHeader := goodIn_r _ [22, 1, 23, 24, 25, 26, 27, 28, 29, 30, 31, 32, 33, 34, 35, 36, 37, 38, 68, 69, 70, 71, 72, 73, 74, 75, 76, 77, 78, 79] (by decide +kernel) (by decide +kernel)
set_option maxRecDepth 20000 in
theorem gX0_write_X0_writeHeader : GoodIn wsX0_write (wsV RX0 35 RX0 yX0_writeHeader wsX0_writeHeader) := goodIn_app (goodIn_of _ (by decide +kernel)) ggX0_write_X0_writeHeader
set_option maxRecDepth 20000 in
theorem ggX0_write_X2_appendBlueGreenRed : GoodIn wsX0_write wsX2_appendBlueGreenRed := goodIn_r _ [42, 43, 44, 45, 34, 24, 25, 26, 27, 28, 29, 46, 47, 48, 49, 78, 79] (by decide +kernel) (by decide +kernel)
set_option maxRecDepth 20000 in
theorem gX0_write_X2_appendBlueGreenRed : GoodIn wsX0_write (wsV RX0 39 RX2 yX2_appendBlueGreenRed wsX2_appendBlueGreenRed) := goodIn_app (goodIn_of _ (by decide +kernel)) ggX0_write_X2_appendBlueGreenRed
set_option maxRecDepth 20000 in
theorem ggX0_write_X2_append : GoodIn wsX0_write wsX2_append := goodIn_r _ [27, 28, 29, 78, 79] (by decide +kernel) (by decide +kernel)
set_option maxRecDepth 20000 in
theorem gX0_write_X2_append : GoodIn wsX0_write (wsV RX0 43 RX2 yX2_append wsX2_append) := goodIn_app (goodIn_of _ (by decide +kernel)) ggX0_write_X2_append
set_option maxRecDepth 20000 in
theorem ggX0_write_X0_writePlainRow : GoodIn wsX0_write wsX0_writePlainRow := goodIn_r _ [52, 53, 54, 55, 11, 56, 57, 13, 39, 40, 41, 26, 42, 43, 44, 45, 34, 24, 25, 27, 28, 29, 46, 47, 48, 49, 58, 59, 6, 60, 30, 31, 32, 33, 75, 76, 77, 78, 79] (by decide +kernel) (by decide +kernel)
set_option maxRecDepth 20000 in
theorem gX0_write_X0_writePlainRow : GoodIn wsX0_write (va_wsS RX0 50 yX0_writePlainRow wsX0_writePlainRow) := goodIn_app (goodIn_of _ (by decide +kernel)) ggX0_write_X0_writePlainRow
set_option maxRecDepth 20000 in
theorem ggX0_write_X0_writePackedRow : GoodIn wsX0_write wsX0_writePackedRow := goodIn_r _ [64, 53, 54, 55, 11, 56, 57, 13, 23, 24, 25, 26, 27, 28, 29, 15, 16, 17, 6, 18, 1, 2, 75, 76, 77, 78, 79, 68, 69, 70, 71, 72, 73, 74] (by decide +kernel) (by decide +kernel)
set_option maxRecDepth 20000 in
theorem gX0_write_X0_writePackedRow : GoodIn wsX0_write (wsV RX0 53 RX0 yX0_writePackedRow wsX0_writePackedRow) := goodIn_app (goodIn_of _ (by decide +kernel)) ggX0_write_X0_writePackedRow
set_option maxRecDepth 20000 in
theorem ggX0_write_X0_writeLength : GoodIn wsX0_write wsX0_writeLength := goodIn_r _ [67, 78, 79] (by decide +kernel) (by decide +kernel)
set_option maxRecDepth 20000 in
theorem gX0_write_X0_writeLength : GoodIn wsX0_write (va_wsS RX0 56 yX0_writeLength wsX0_writeLength) := goodIn_app (goodIn_of _ (by decide +kernel)) ggX0_write_X0_writeLength
theorem dX0_write_0 : decode cX0_write 0 = .ok (.aload_n 0, 1) := by decide +kernel
theorem dX0_write_1 : decode cX0_write 1 = .ok (.iconst 0, 1) := by decide +kernel
theorem dX0_write_2 : decode cX0_write 2 = .ok (.putfield 27, 3) := by decide +kernel
theorem dX0_write_5 : decode cX0_write 5 = .ok (.iload_n 2, 1) := by decide +kernel
theorem dX0_write_6 : decode cX0_write 6 = .ok (.iconst 1, 1) := by decide +kernel
theorem dX0_write_7 : decode cX0_write 7 = .ok (.if_icmp .ne 8, 3) := by decide +kernel
theorem dX0_write_10 : decode cX0_write 10 = .ok (.aload_n 0, 1) := by decide +kernel
theorem dX0_write_11 : decode cX0_write 11 = .ok (.aload_n 1, 1) := by decide +kernel
theorem dX0_write_12 : decode cX0_write 12 = .ok (.invokevirtual 31, 3) := by decide +kernel
theorem dX0_write_15 : decode cX0_write 15 = .ok (.aload_n 0, 1) := by decide +kernel
theorem dX0_write_16 : decode cX0_write 16 = .ok (.aload_n 1, 1) := by decide +kernel
theorem dX0_write_17 : decode cX0_write 17 = .ok (.iload_n 2, 1) := by decide +kernel
theorem dX0_write_18 : decode cX0_write 18 = .ok (.aload_n 3, 1) := by decide +kernel
theorem dX0_write_19 : decode cX0_write 19 = .ok (.invokevirtual 35, 3) := by decide +kernel
theorem dX0_write_22 : decode cX0_write 22 = .ok (.iconst 0, 1) := by decide +kernel
theorem dX0_write_23 : decode cX0_write 23 = .ok (.istore 4, 2) := by decide +kernel
theorem dX0_write_25 : decode cX0_write 25 = .ok (.iload 4, 2) := by decide +kernel
theorem dX0_write_27 : decode cX0_write 27 = .ok (.aload_n 0, 1) := by decide +kernel
theorem dX0_write_28 : decode cX0_write 28 = .ok (.getfield 27, 3) := by decide +kernel
theorem dX0_write_31 : decode cX0_write 31 = .ok (.if_icmp .ge 26, 3) := by decide +kernel
theorem dX0_write_34 : decode cX0_write 34 = .ok (.aload_n 3, 1) := by decide +kernel
theorem dX0_write_35 : decode cX0_write 35 = .ok (.aload_n 0, 1) := by decide +kernel
theorem dX0_write_36 : decode cX0_write 36 = .ok (.getfield 11, 3) := by decide +kernel
theorem dX0_write_39 : decode cX0_write 39 = .ok (.iload 4, 2) := by decide +kernel
theorem dX0_write_41 : decode cX0_write 41 = .ok (.iaload, 1) := by decide +kernel
theorem dX0_write_42 : decode cX0_write 42 = .ok (.invokevirtual 39, 3) := by decide +kernel
theorem dX0_write_45 : decode cX0_write 45 = .ok (.aload_n 3, 1) := by decide +kernel
theorem dX0_write_46 : decode cX0_write 46 = .ok (.iconst 0, 1) := by decide +kernel
theorem dX0_write_47 : decode cX0_write 47 = .ok (.invokevirtual 43, 3) := by decide +kernel
theorem dX0_write_50 : decode cX0_write 50 = .ok (.pop, 1) := by decide +kernel
theorem dX0_write_51 : decode cX0_write 51 = .ok (.iinc 4 1, 3) := by decide +kernel
theorem dX0_write_54 : decode cX0_write 54 = .ok (.goto (-29), 3) := by decide +kernel
theorem dX0_write_57 : decode cX0_write 57 = .ok (.aload_n 1, 1) := by decide +kernel
theorem dX0_write_58 : decode cX0_write 58 = .ok (.getfield 47, 3) := by decide +kernel
theorem dX0_write_61 : decode cX0_write 61 = .ok (.iconst 1, 1) := by decide +kernel
theorem dX0_write_62 : decode cX0_write 62 = .ok (.isub, 1) := by decide +kernel
theorem dX0_write_63 : decode cX0_write 63 = .ok (.istore 4, 2) := by decide +kernel
theorem dX0_write_65 : decode cX0_write 65 = .ok (.iload 4, 2) := by decide +kernel
theorem dX0_write_67 : decode cX0_write 67 = .ok (.ifCond .lt 31, 3) := by decide +kernel
theorem dX0_write_70 : decode cX0_write 70 = .ok (.iload_n 2, 1) := by decide +kernel
theorem dX0_write_71 : decode cX0_write 71 = .ok (.ifCond .ne 13, 3) := by decide +kernel
theorem dX0_write_74 : decode cX0_write 74 = .ok (.aload_n 1, 1) := by decide +kernel
theorem dX0_write_75 : decode cX0_write 75 = .ok (.iload 4, 2) := by decide +kernel
theorem dX0_write_77 : decode cX0_write 77 = .ok (.aload_n 3, 1) := by decide +kernel
theorem dX0_write_78 : decode cX0_write 78 = .ok (.invokestatic 50, 3) := by decide +kernel
theorem dX0_write_81 : decode cX0_write 81 = .ok (.goto 11, 3) := by decide +kernel
theorem dX0_write_84 : decode cX0_write 84 = .ok (.aload_n 0, 1) := by decide +kernel
theorem dX0_write_85 : decode cX0_write 85 = .ok (.aload_n 1, 1) := by decide +kernel
theorem dX0_write_86 : decode cX0_write 86 = .ok (.iload 4, 2) := by decide +kernel
theorem dX0_write_88 : decode cX0_write 88 = .ok (.aload_n 3, 1) := by decide +kernel
theorem dX0_write_89 : decode cX0_write 89 = .ok (.invokevirtual 53, 3) := by decide +kernel
theorem dX0_write_92 : decode cX0_write 92 = .ok (.iinc 4 (-1), 3) := by decide +kernel
theorem dX0_write_95 : decode cX0_write 95 = .ok (.goto (-30), 3) := by decide +kernel
theorem dX0_write_98 : decode cX0_write 98 = .ok (.aload_n 3, 1) := by decide +kernel
theorem dX0_write_99 : decode cX0_write 99 = .ok (.invokestatic 56, 3) := by decide +kernel
theorem dX0_write_102 : decode cX0_write 102 = .ok (.return_, 1) := by decide +kernel
set_option maxRecDepth 20000 in
theorem ggX0_gatherColours_X5_count : GoodIn wsX0_gatherColours wsX5_count := goodIn_r _ [7, 8, 9, 15, 16, 17] (by decide +kernel) (by decide +kernel)
set_option maxRecDepth 20000 in
theorem gX0_gatherColours_X5_count : GoodIn wsX0_gatherColours (wsV RX0 60 RX5 yX5_count wsX5_count) := goodIn_app (goodIn_of _ (by decide +kernel)) ggX0_gatherColours_X5_count
set_option maxRecDepth 20000 in
theorem ggX0_gatherColours_X0_numberOf : GoodIn wsX0_gatherColours wsX0_numberOf := goodIn_r _ [14, 1, 2, 18, 19, 20, 21, 22, 23, 24] (by decide +kernel) (by decide +kernel)
set_option maxRecDepth 20000 in
theorem gX0_gatherColours_X0_numberOf : GoodIn wsX0_gatherColours (wsV RX0 67 RX0 yX0_numberOf wsX0_numberOf) := goodIn_app (goodIn_of _ (by decide +kernel)) ggX0_gatherColours_X0_numberOf
theorem dX0_gatherColours_0 : decode cX0_gatherColours 0 = .ok (.iconst 0, 1) := by decide +kernel
theorem dX0_gatherColours_1 : decode cX0_gatherColours 1 = .ok (.istore_n 2, 1) := by decide +kernel
theorem dX0_gatherColours_2 : decode cX0_gatherColours 2 = .ok (.iload_n 2, 1) := by decide +kernel
theorem dX0_gatherColours_3 : decode cX0_gatherColours 3 = .ok (.aload_n 1, 1) := by decide +kernel
theorem dX0_gatherColours_4 : decode cX0_gatherColours 4 = .ok (.invokevirtual 60, 3) := by decide +kernel
theorem dX0_gatherColours_7 : decode cX0_gatherColours 7 = .ok (.if_icmp .ge 57, 3) := by decide +kernel
theorem dX0_gatherColours_10 : decode cX0_gatherColours 10 = .ok (.aload_n 1, 1) := by decide +kernel
theorem dX0_gatherColours_11 : decode cX0_gatherColours 11 = .ok (.getfield 64, 3) := by decide +kernel
theorem dX0_gatherColours_14 : decode cX0_gatherColours 14 = .ok (.iload_n 2, 1) := by decide +kernel
theorem dX0_gatherColours_15 : decode cX0_gatherColours 15 = .ok (.iaload, 1) := by decide +kernel
theorem dX0_gatherColours_16 : decode cX0_gatherColours 16 = .ok (.istore_n 3, 1) := by decide +kernel
theorem dX0_gatherColours_17 : decode cX0_gatherColours 17 = .ok (.aload_n 0, 1) := by decide +kernel
theorem dX0_gatherColours_18 : decode cX0_gatherColours 18 = .ok (.iload_n 3, 1) := by decide +kernel
theorem dX0_gatherColours_19 : decode cX0_gatherColours 19 = .ok (.invokevirtual 67, 3) := by decide +kernel
theorem dX0_gatherColours_22 : decode cX0_gatherColours 22 = .ok (.aload_n 0, 1) := by decide +kernel
theorem dX0_gatherColours_23 : decode cX0_gatherColours 23 = .ok (.getfield 27, 3) := by decide +kernel
theorem dX0_gatherColours_26 : decode cX0_gatherColours 26 = .ok (.if_icmp .ne 32, 3) := by decide +kernel
theorem dX0_gatherColours_29 : decode cX0_gatherColours 29 = .ok (.aload_n 0, 1) := by decide +kernel
theorem dX0_gatherColours_30 : decode cX0_gatherColours 30 = .ok (.getfield 27, 3) := by decide +kernel
theorem dX0_gatherColours_33 : decode cX0_gatherColours 33 = .ok (.bipush 64, 2) := by decide +kernel
theorem dX0_gatherColours_35 : decode cX0_gatherColours 35 = .ok (.if_icmp .ge 23, 3) := by decide +kernel
theorem dX0_gatherColours_38 : decode cX0_gatherColours 38 = .ok (.aload_n 0, 1) := by decide +kernel
theorem dX0_gatherColours_39 : decode cX0_gatherColours 39 = .ok (.getfield 11, 3) := by decide +kernel
theorem dX0_gatherColours_42 : decode cX0_gatherColours 42 = .ok (.aload_n 0, 1) := by decide +kernel
theorem dX0_gatherColours_43 : decode cX0_gatherColours 43 = .ok (.getfield 27, 3) := by decide +kernel
theorem dX0_gatherColours_46 : decode cX0_gatherColours 46 = .ok (.iload_n 3, 1) := by decide +kernel
theorem dX0_gatherColours_47 : decode cX0_gatherColours 47 = .ok (.iastore, 1) := by decide +kernel
theorem dX0_gatherColours_48 : decode cX0_gatherColours 48 = .ok (.aload_n 0, 1) := by decide +kernel
theorem dX0_gatherColours_49 : decode cX0_gatherColours 49 = .ok (.dup, 1) := by decide +kernel
theorem dX0_gatherColours_50 : decode cX0_gatherColours 50 = .ok (.getfield 27, 3) := by decide +kernel
theorem dX0_gatherColours_53 : decode cX0_gatherColours 53 = .ok (.iconst 1, 1) := by decide +kernel
theorem dX0_gatherColours_54 : decode cX0_gatherColours 54 = .ok (.iadd, 1) := by decide +kernel
theorem dX0_gatherColours_55 : decode cX0_gatherColours 55 = .ok (.putfield 27, 3) := by decide +kernel
theorem dX0_gatherColours_58 : decode cX0_gatherColours 58 = .ok (.iinc 2 1, 3) := by decide +kernel
theorem dX0_gatherColours_61 : decode cX0_gatherColours 61 = .ok (.goto (-59), 3) := by decide +kernel
theorem dX0_gatherColours_64 : decode cX0_gatherColours 64 = .ok (.return_, 1) := by decide +kernel
theorem dX0_numberOf_0 : decode cX0_numberOf 0 = .ok (.iconst 0, 1) := by decide +kernel
theorem dX0_numberOf_1 : decode cX0_numberOf 1 = .ok (.istore_n 2, 1) := by decide +kernel
theorem dX0_numberOf_2 : decode cX0_numberOf 2 = .ok (.iload_n 2, 1) := by decide +kernel
theorem dX0_numberOf_3 : decode cX0_numberOf 3 = .ok (.aload_n 0, 1) := by decide +kernel
theorem dX0_numberOf_4 : decode cX0_numberOf 4 = .ok (.getfield 27, 3) := by decide +kernel
theorem dX0_numberOf_7 : decode cX0_numberOf 7 = .ok (.if_icmp .ge 21, 3) := by decide +kernel
theorem dX0_numberOf_10 : decode cX0_numberOf 10 = .ok (.aload_n 0, 1) := by decide +kernel
theorem dX0_numberOf_11 : decode cX0_numberOf 11 = .ok (.getfield 11, 3) := by decide +kernel
theorem dX0_numberOf_14 : decode cX0_numberOf 14 = .ok (.iload_n 2, 1) := by decide +kernel
theorem dX0_numberOf_15 : decode cX0_numberOf 15 = .ok (.iaload, 1) := by decide +kernel
theorem dX0_numberOf_16 : decode cX0_numberOf 16 = .ok (.iload_n 1, 1) := by decide +kernel
theorem dX0_numberOf_17 : decode cX0_numberOf 17 = .ok (.if_icmp .ne 5, 3) := by decide +kernel
theorem dX0_numberOf_20 : decode cX0_numberOf 20 = .ok (.iload_n 2, 1) := by decide +kernel
theorem dX0_numberOf_21 : decode cX0_numberOf 21 = .ok (.ireturn, 1) := by decide +kernel
theorem dX0_numberOf_22 : decode cX0_numberOf 22 = .ok (.iinc 2 1, 3) := by decide +kernel
theorem dX0_numberOf_25 : decode cX0_numberOf 25 = .ok (.goto (-23), 3) := by decide +kernel
theorem dX0_numberOf_28 : decode cX0_numberOf 28 = .ok (.aload_n 0, 1) := by decide +kernel
theorem dX0_numberOf_29 : decode cX0_numberOf 29 = .ok (.getfield 27, 3) := by decide +kernel
theorem dX0_numberOf_32 : decode cX0_numberOf 32 = .ok (.ireturn, 1) := by decide +kernel
set_option maxRecDepth 20000 in
theorem ggX0_writeHeader_X2_append : GoodIn wsX0_writeHeader wsX2_append := goodIn_r _ [6, 7, 8, 28, 29] (by decide +kernel) (by decide +kernel)
set_option maxRecDepth 20000 in
theorem gX0_writeHeader_X2_append : GoodIn wsX0_writeHeader (wsV RX0 43 RX2 yX2_append wsX2_append) := goodIn_app (goodIn_of _ (by decide +kernel)) ggX0_writeHeader_X2_append
set_option maxRecDepth 20000 in
theorem ggX0_writeHeader_X2_appendZeros : GoodIn wsX0_writeHeader wsX2_appendZeros := goodIn_r _ [12, 13, 3, 4, 5, 6, 7, 8, 28, 29] (by decide +kernel) (by decide +kernel)
set_option maxRecDepth 20000 in
theorem gX0_writeHeader_X2_appendZeros : GoodIn wsX0_writeHeader (wsV RX0 70 RX2 yX2_appendZeros wsX2_appendZeros) := goodIn_app (goodIn_of _ (by decide +kernel)) ggX0_writeHeader_X2_appendZeros
set_option maxRecDepth 20000 in
theorem ggX0_writeHeader_X2_appendLittle : GoodIn wsX0_writeHeader wsX2_appendLittle := goodIn_r _ [17, 13, 3, 4, 5, 6, 7, 8, 28, 29] (by decide +kernel) (by decide +kernel)
set_option maxRecDepth 20000 in
theorem gX0_writeHeader_X2_appendLittle : GoodIn wsX0_writeHeader (wsV RX0 73 RX2 yX2_appendLittle wsX2_appendLittle) := goodIn_app (goodIn_of _ (by decide +kernel)) ggX0_writeHeader_X2_appendLittle
theorem dX0_writeHeader_0 : decode cX0_writeHeader 0 = .ok (.aload_n 3, 1) := by decide +kernel
theorem dX0_writeHeader_1 : decode cX0_writeHeader 1 = .ok (.bipush 66, 2) := by decide +kernel
theorem dX0_writeHeader_3 : decode cX0_writeHeader 3 = .ok (.invokevirtual 43, 3) := by decide +kernel
theorem dX0_writeHeader_6 : decode cX0_writeHeader 6 = .ok (.pop, 1) := by decide +kernel
theorem dX0_writeHeader_7 : decode cX0_writeHeader 7 = .ok (.aload_n 3, 1) := by decide +kernel
theorem dX0_writeHeader_8 : decode cX0_writeHeader 8 = .ok (.bipush 77, 2) := by decide +kernel
theorem dX0_writeHeader_10 : decode cX0_writeHeader 10 = .ok (.invokevirtual 43, 3) := by decide +kernel
theorem dX0_writeHeader_13 : decode cX0_writeHeader 13 = .ok (.pop, 1) := by decide +kernel
theorem dX0_writeHeader_14 : decode cX0_writeHeader 14 = .ok (.aload_n 3, 1) := by decide +kernel
theorem dX0_writeHeader_15 : decode cX0_writeHeader 15 = .ok (.bipush 8, 2) := by decide +kernel
theorem dX0_writeHeader_17 : decode cX0_writeHeader 17 = .ok (.invokevirtual 70, 3) := by decide +kernel
theorem dX0_writeHeader_20 : decode cX0_writeHeader 20 = .ok (.aload_n 3, 1) := by decide +kernel
theorem dX0_writeHeader_21 : decode cX0_writeHeader 21 = .ok (.iconst 4, 1) := by decide +kernel
theorem dX0_writeHeader_22 : decode cX0_writeHeader 22 = .ok (.bipush 54, 2) := by decide +kernel
theorem dX0_writeHeader_24 : decode cX0_writeHeader 24 = .ok (.iconst 4, 1) := by decide +kernel
theorem dX0_writeHeader_25 : decode cX0_writeHeader 25 = .ok (.aload_n 0, 1) := by decide +kernel
theorem dX0_writeHeader_26 : decode cX0_writeHeader 26 = .ok (.getfield 27, 3) := by decide +kernel
theorem dX0_writeHeader_29 : decode cX0_writeHeader 29 = .ok (.imul, 1) := by decide +kernel
theorem dX0_writeHeader_30 : decode cX0_writeHeader 30 = .ok (.iadd, 1) := by decide +kernel
theorem dX0_writeHeader_31 : decode cX0_writeHeader 31 = .ok (.invokevirtual 73, 3) := by decide +kernel
theorem dX0_writeHeader_34 : decode cX0_writeHeader 34 = .ok (.aload_n 3, 1) := by decide +kernel
theorem dX0_writeHeader_35 : decode cX0_writeHeader 35 = .ok (.iconst 4, 1) := by decide +kernel
theorem dX0_writeHeader_36 : decode cX0_writeHeader 36 = .ok (.bipush 40, 2) := by decide +kernel
theorem dX0_writeHeader_38 : decode cX0_writeHeader 38 = .ok (.invokevirtual 73, 3) := by decide +kernel
theorem dX0_writeHeader_41 : decode cX0_writeHeader 41 = .ok (.aload_n 3, 1) := by decide +kernel
theorem dX0_writeHeader_42 : decode cX0_writeHeader 42 = .ok (.iconst 4, 1) := by decide +kernel
theorem dX0_writeHeader_43 : decode cX0_writeHeader 43 = .ok (.aload_n 1, 1) := by decide +kernel
theorem dX0_writeHeader_44 : decode cX0_writeHeader 44 = .ok (.getfield 77, 3) := by decide +kernel
theorem dX0_writeHeader_47 : decode cX0_writeHeader 47 = .ok (.invokevirtual 73, 3) := by decide +kernel
theorem dX0_writeHeader_50 : decode cX0_writeHeader 50 = .ok (.aload_n 3, 1) := by decide +kernel
theorem dX0_writeHeader_51 : decode cX0_writeHeader 51 = .ok (.iconst 4, 1) := by decide +kernel
theorem dX0_writeHeader_52 : decode cX0_writeHeader 52 = .ok (.aload_n 1, 1) := by decide +kernel
theorem dX0_writeHeader_53 : decode cX0_writeHeader 53 = .ok (.getfield 47, 3) := by decide +kernel
theorem dX0_writeHeader_56 : decode cX0_writeHeader 56 = .ok (.invokevirtual 73, 3) := by decide +kernel
theorem dX0_writeHeader_59 : decode cX0_writeHeader 59 = .ok (.aload_n 3, 1) := by decide +kernel
theorem dX0_writeHeader_60 : decode cX0_writeHeader 60 = .ok (.iconst 2, 1) := by decide +kernel
theorem dX0_writeHeader_61 : decode cX0_writeHeader 61 = .ok (.iconst 1, 1) := by decide +kernel
theorem dX0_writeHeader_62 : decode cX0_writeHeader 62 = .ok (.invokevirtual 73, 3) := by decide +kernel
theorem dX0_writeHeader_65 : decode cX0_writeHeader 65 = .ok (.aload_n 3, 1) := by decide +kernel
theorem dX0_writeHeader_66 : decode cX0_writeHeader 66 = .ok (.iconst 2, 1) := by decide +kernel
theorem dX0_writeHeader_67 : decode cX0_writeHeader 67 = .ok (.iload_n 2, 1) := by decide +kernel
theorem dX0_writeHeader_68 : decode cX0_writeHeader 68 = .ok (.ifCond .ne 8, 3) := by decide +kernel
theorem dX0_writeHeader_71 : decode cX0_writeHeader 71 = .ok (.bipush 24, 2) := by decide +kernel
theorem dX0_writeHeader_73 : decode cX0_writeHeader 73 = .ok (.goto 5, 3) := by decide +kernel
theorem dX0_writeHeader_76 : decode cX0_writeHeader 76 = .ok (.bipush 8, 2) := by decide +kernel
theorem dX0_writeHeader_78 : decode cX0_writeHeader 78 = .ok (.invokevirtual 73, 3) := by decide +kernel
theorem dX0_writeHeader_81 : decode cX0_writeHeader 81 = .ok (.aload_n 3, 1) := by decide +kernel
theorem dX0_writeHeader_82 : decode cX0_writeHeader 82 = .ok (.iconst 4, 1) := by decide +kernel
theorem dX0_writeHeader_83 : decode cX0_writeHeader 83 = .ok (.iload_n 2, 1) := by decide +kernel
theorem dX0_writeHeader_84 : decode cX0_writeHeader 84 = .ok (.invokevirtual 73, 3) := by decide +kernel
theorem dX0_writeHeader_87 : decode cX0_writeHeader 87 = .ok (.aload_n 3, 1) := by decide +kernel
theorem dX0_writeHeader_88 : decode cX0_writeHeader 88 = .ok (.bipush 12, 2) := by decide +kernel
theorem dX0_writeHeader_90 : decode cX0_writeHeader 90 = .ok (.invokevirtual 70, 3) := by decide +kernel
theorem dX0_writeHeader_93 : decode cX0_writeHeader 93 = .ok (.aload_n 3, 1) := by decide +kernel
theorem dX0_writeHeader_94 : decode cX0_writeHeader 94 = .ok (.iconst 4, 1) := by decide +kernel
theorem dX0_writeHeader_95 : decode cX0_writeHeader 95 = .ok (.aload_n 0, 1) := by decide +kernel
theorem dX0_writeHeader_96 : decode cX0_writeHeader 96 = .ok (.getfield 27, 3) := by decide +kernel
theorem dX0_writeHeader_99 : decode cX0_writeHeader 99 = .ok (.invokevirtual 73, 3) := by decide +kernel
theorem dX0_writeHeader_102 : decode cX0_writeHeader 102 = .ok (.aload_n 3, 1) := by decide +kernel
theorem dX0_writeHeader_103 : decode cX0_writeHeader 103 = .ok (.iconst 4, 1) := by decide +kernel
theorem dX0_writeHeader_104 : decode cX0_writeHeader 104 = .ok (.invokevirtual 70, 3) := by decide +kernel
theorem dX0_writeHeader_107 : decode cX0_writeHeader 107 = .ok (.return_, 1) := by decide +kernel
theorem dX0_writeLength_0 : decode cX0_writeLength 0 = .ok (.aload_n 0, 1) := by decide +kernel
theorem dX0_writeLength_1 : decode cX0_writeLength 1 = .ok (.getfield 80, 3) := by decide +kernel
theorem dX0_writeLength_4 : decode cX0_writeLength 4 = .ok (.iconst 2, 1) := by decide +kernel
theorem dX0_writeLength_5 : decode cX0_writeLength 5 = .ok (.aload_n 0, 1) := by decide +kernel
theorem dX0_writeLength_6 : decode cX0_writeLength 6 = .ok (.getfield 83, 3) := by decide +kernel
theorem dX0_writeLength_9 : decode cX0_writeLength 9 = .ok (.sipush 255, 3) := by decide +kernel
theorem dX0_writeLength_12 : decode cX0_writeLength 12 = .ok (.iand, 1) := by decide +kernel
theorem dX0_writeLength_13 : decode cX0_writeLength 13 = .ok (.iastore, 1) := by decide +kernel
theorem dX0_writeLength_14 : decode cX0_writeLength 14 = .ok (.aload_n 0, 1) := by decide +kernel
theorem dX0_writeLength_15 : decode cX0_writeLength 15 = .ok (.getfield 80, 3) := by decide +kernel
theorem dX0_writeLength_18 : decode cX0_writeLength 18 = .ok (.iconst 3, 1) := by decide +kernel
theorem dX0_writeLength_19 : decode cX0_writeLength 19 = .ok (.aload_n 0, 1) := by decide +kernel
theorem dX0_writeLength_20 : decode cX0_writeLength 20 = .ok (.getfield 83, 3) := by decide +kernel
theorem dX0_writeLength_23 : decode cX0_writeLength 23 = .ok (.bipush 8, 2) := by decide +kernel
theorem dX0_writeLength_25 : decode cX0_writeLength 25 = .ok (.iushr, 1) := by decide +kernel
theorem dX0_writeLength_26 : decode cX0_writeLength 26 = .ok (.iastore, 1) := by decide +kernel
theorem dX0_writeLength_27 : decode cX0_writeLength 27 = .ok (.return_, 1) := by decide +kernel
set_option maxRecDepth 20000 in
theorem ggX0_writePlainRow_X5_at : GoodIn wsX0_writePlainRow wsX5_at := goodIn_r _ [5, 6, 7, 34, 35, 36] (by decide +kernel) (by decide +kernel)
set_option maxRecDepth 20000 in
theorem gX0_writePlainRow_X5_at : GoodIn wsX0_writePlainRow (wsV RX0 86 RX5 yX5_at wsX5_at) := goodIn_app (goodIn_of _ (by decide +kernel)) ggX0_writePlainRow_X5_at
set_option maxRecDepth 20000 in
theorem ggX0_writePlainRow_X2_appendBlueGreenRed : GoodIn wsX0_writePlainRow wsX2_appendBlueGreenRed := goodIn_r _ [12, 13, 14, 15, 16, 17, 18, 11, 19, 20, 21, 22, 23, 24, 25, 37, 38] (by decide +kernel) (by decide +kernel)
set_option maxRecDepth 20000 in
theorem gX0_writePlainRow_X2_appendBlueGreenRed : GoodIn wsX0_writePlainRow (wsV RX0 39 RX2 yX2_appendBlueGreenRed wsX2_appendBlueGreenRed) := goodIn_app (goodIn_of _ (by decide +kernel)) ggX0_writePlainRow_X2_appendBlueGreenRed
set_option maxRecDepth 20000 in
theorem ggX0_writePlainRow_X0_bytesToFour : GoodIn wsX0_writePlainRow wsX0_bytesToFour := goodIn_r _ [29] (by decide +kernel) (by decide +kernel)
set_option maxRecDepth 20000 in
theorem gX0_writePlainRow_X0_bytesToFour : GoodIn wsX0_writePlainRow (va_wsS RX0 89 yX0_bytesToFour wsX0_bytesToFour) := goodIn_app (goodIn_of _ (by decide +kernel)) ggX0_writePlainRow_X0_bytesToFour
set_option maxRecDepth 20000 in
theorem ggX0_writePlainRow_X2_appendZeros : GoodIn wsX0_writePlainRow wsX2_appendZeros := goodIn_r _ [33, 16, 17, 18, 11, 19, 20, 21, 37, 38] (by decide +kernel) (by decide +kernel)
set_option maxRecDepth 20000 in
theorem gX0_writePlainRow_X2_appendZeros : GoodIn wsX0_writePlainRow (wsV RX0 70 RX2 yX2_appendZeros wsX2_appendZeros) := goodIn_app (goodIn_of _ (by decide +kernel)) ggX0_writePlainRow_X2_appendZeros
theorem dX0_writePlainRow_0 : decode cX0_writePlainRow 0 = .ok (.iconst 0, 1) := by decide +kernel
theorem dX0_writePlainRow_1 : decode cX0_writePlainRow 1 = .ok (.istore_n 3, 1) := by decide +kernel
theorem dX0_writePlainRow_2 : decode cX0_writePlainRow 2 = .ok (.iload_n 3, 1) := by decide +kernel
theorem dX0_writePlainRow_3 : decode cX0_writePlainRow 3 = .ok (.aload_n 0, 1) := by decide +kernel
theorem dX0_writePlainRow_4 : decode cX0_writePlainRow 4 = .ok (.getfield 77, 3) := by decide +kernel
theorem dX0_writePlainRow_7 : decode cX0_writePlainRow 7 = .ok (.if_icmp .ge 19, 3) := by decide +kernel
theorem dX0_writePlainRow_10 : decode cX0_writePlainRow 10 = .ok (.aload_n 2, 1) := by decide +kernel
theorem dX0_writePlainRow_11 : decode cX0_writePlainRow 11 = .ok (.aload_n 0, 1) := by decide +kernel
theorem dX0_writePlainRow_12 : decode cX0_writePlainRow 12 = .ok (.iload_n 3, 1) := by decide +kernel
theorem dX0_writePlainRow_13 : decode cX0_writePlainRow 13 = .ok (.iload_n 1, 1) := by decide +kernel
theorem dX0_writePlainRow_14 : decode cX0_writePlainRow 14 = .ok (.invokevirtual 86, 3) := by decide +kernel
theorem dX0_writePlainRow_17 : decode cX0_writePlainRow 17 = .ok (.invokevirtual 39, 3) := by decide +kernel
theorem dX0_writePlainRow_20 : decode cX0_writePlainRow 20 = .ok (.iinc 3 1, 3) := by decide +kernel
theorem dX0_writePlainRow_23 : decode cX0_writePlainRow 23 = .ok (.goto (-21), 3) := by decide +kernel
theorem dX0_writePlainRow_26 : decode cX0_writePlainRow 26 = .ok (.aload_n 2, 1) := by decide +kernel
theorem dX0_writePlainRow_27 : decode cX0_writePlainRow 27 = .ok (.iconst 3, 1) := by decide +kernel
theorem dX0_writePlainRow_28 : decode cX0_writePlainRow 28 = .ok (.aload_n 0, 1) := by decide +kernel
theorem dX0_writePlainRow_29 : decode cX0_writePlainRow 29 = .ok (.getfield 77, 3) := by decide +kernel
theorem dX0_writePlainRow_32 : decode cX0_writePlainRow 32 = .ok (.imul, 1) := by decide +kernel
theorem dX0_writePlainRow_33 : decode cX0_writePlainRow 33 = .ok (.invokestatic 89, 3) := by decide +kernel
theorem dX0_writePlainRow_36 : decode cX0_writePlainRow 36 = .ok (.invokevirtual 70, 3) := by decide +kernel
theorem dX0_writePlainRow_39 : decode cX0_writePlainRow 39 = .ok (.return_, 1) := by decide +kernel
set_option maxRecDepth 20000 in
theorem ggX0_writePackedRow_X5_at : GoodIn wsX0_writePackedRow wsX5_at := goodIn_r _ [5, 6, 7, 22, 23, 24] (by decide +kernel) (by decide +kernel)
set_option maxRecDepth 20000 in
theorem gX0_writePackedRow_X5_at : GoodIn wsX0_writePackedRow (wsV RX0 86 RX5 yX5_at wsX5_at) := goodIn_app (goodIn_of _ (by decide +kernel)) ggX0_writePackedRow_X5_at
set_option maxRecDepth 20000 in
theorem ggX0_writePackedRow_X2_append : GoodIn wsX0_writePackedRow wsX2_append := goodIn_r _ [12, 13, 14, 25, 26] (by decide +kernel) (by decide +kernel)
set_option maxRecDepth 20000 in
theorem gX0_writePackedRow_X2_append : GoodIn wsX0_writePackedRow (wsV RX0 43 RX2 yX2_append wsX2_append) := goodIn_app (goodIn_of _ (by decide +kernel)) ggX0_writePackedRow_X2_append
set_option maxRecDepth 20000 in
theorem ggX0_writePackedRow_X0_numberOf : GoodIn wsX0_writePackedRow wsX0_numberOf := goodIn_r _ [19, 20, 21, 27, 28, 29, 30, 31, 32, 33] (by decide +kernel) (by decide +kernel)
set_option maxRecDepth 20000 in
theorem gX0_writePackedRow_X0_numberOf : GoodIn wsX0_writePackedRow (wsV RX0 67 RX0 yX0_numberOf wsX0_numberOf) := goodIn_app (goodIn_of _ (by decide +kernel)) ggX0_writePackedRow_X0_numberOf
theorem dX0_writePackedRow_0 : decode cX0_writePackedRow 0 = .ok (.iconst 0, 1) := by decide +kernel
theorem dX0_writePackedRow_1 : decode cX0_writePackedRow 1 = .ok (.istore 4, 2) := by decide +kernel
theorem dX0_writePackedRow_3 : decode cX0_writePackedRow 3 = .ok (.iconst 0, 1) := by decide +kernel
theorem dX0_writePackedRow_4 : decode cX0_writePackedRow 4 = .ok (.istore 5, 2) := by decide +kernel
theorem dX0_writePackedRow_6 : decode cX0_writePackedRow 6 = .ok (.iload 5, 2) := by decide +kernel
theorem dX0_writePackedRow_8 : decode cX0_writePackedRow 8 = .ok (.aload_n 1, 1) := by decide +kernel
theorem dX0_writePackedRow_9 : decode cX0_writePackedRow 9 = .ok (.getfield 77, 3) := by decide +kernel
theorem dX0_writePackedRow_12 : decode cX0_writePackedRow 12 = .ok (.if_icmp .ge 67, 3) := by decide +kernel
theorem dX0_writePackedRow_15 : decode cX0_writePackedRow 15 = .ok (.iinc 4 1, 3) := by decide +kernel
theorem dX0_writePackedRow_18 : decode cX0_writePackedRow 18 = .ok (.aload_n 1, 1) := by decide +kernel
theorem dX0_writePackedRow_19 : decode cX0_writePackedRow 19 = .ok (.iload 5, 2) := by decide +kernel
theorem dX0_writePackedRow_21 : decode cX0_writePackedRow 21 = .ok (.iload_n 2, 1) := by decide +kernel
theorem dX0_writePackedRow_22 : decode cX0_writePackedRow 22 = .ok (.invokevirtual 86, 3) := by decide +kernel
theorem dX0_writePackedRow_25 : decode cX0_writePackedRow 25 = .ok (.istore 6, 2) := by decide +kernel
theorem dX0_writePackedRow_27 : decode cX0_writePackedRow 27 = .ok (.iload 5, 2) := by decide +kernel
theorem dX0_writePackedRow_29 : decode cX0_writePackedRow 29 = .ok (.iconst 1, 1) := by decide +kernel
theorem dX0_writePackedRow_30 : decode cX0_writePackedRow 30 = .ok (.iadd, 1) := by decide +kernel
theorem dX0_writePackedRow_31 : decode cX0_writePackedRow 31 = .ok (.aload_n 1, 1) := by decide +kernel
theorem dX0_writePackedRow_32 : decode cX0_writePackedRow 32 = .ok (.getfield 77, 3) := by decide +kernel
theorem dX0_writePackedRow_35 : decode cX0_writePackedRow 35 = .ok (.if_icmp .eq 17, 3) := by decide +kernel
theorem dX0_writePackedRow_38 : decode cX0_writePackedRow 38 = .ok (.aload_n 1, 1) := by decide +kernel
theorem dX0_writePackedRow_39 : decode cX0_writePackedRow 39 = .ok (.iload 5, 2) := by decide +kernel
theorem dX0_writePackedRow_41 : decode cX0_writePackedRow 41 = .ok (.iconst 1, 1) := by decide +kernel
theorem dX0_writePackedRow_42 : decode cX0_writePackedRow 42 = .ok (.iadd, 1) := by decide +kernel
theorem dX0_writePackedRow_43 : decode cX0_writePackedRow 43 = .ok (.iload_n 2, 1) := by decide +kernel
theorem dX0_writePackedRow_44 : decode cX0_writePackedRow 44 = .ok (.invokevirtual 86, 3) := by decide +kernel
theorem dX0_writePackedRow_47 : decode cX0_writePackedRow 47 = .ok (.iload 6, 2) := by decide +kernel
theorem dX0_writePackedRow_49 : decode cX0_writePackedRow 49 = .ok (.if_icmp .eq 24, 3) := by decide +kernel
theorem dX0_writePackedRow_52 : decode cX0_writePackedRow 52 = .ok (.aload_n 3, 1) := by decide +kernel
theorem dX0_writePackedRow_53 : decode cX0_writePackedRow 53 = .ok (.iload 4, 2) := by decide +kernel
theorem dX0_writePackedRow_55 : decode cX0_writePackedRow 55 = .ok (.invokevirtual 43, 3) := by decide +kernel
theorem dX0_writePackedRow_58 : decode cX0_writePackedRow 58 = .ok (.pop, 1) := by decide +kernel
theorem dX0_writePackedRow_59 : decode cX0_writePackedRow 59 = .ok (.aload_n 3, 1) := by decide +kernel
theorem dX0_writePackedRow_60 : decode cX0_writePackedRow 60 = .ok (.aload_n 0, 1) := by decide +kernel
theorem dX0_writePackedRow_61 : decode cX0_writePackedRow 61 = .ok (.iload 6, 2) := by decide +kernel
theorem dX0_writePackedRow_63 : decode cX0_writePackedRow 63 = .ok (.invokevirtual 67, 3) := by decide +kernel
theorem dX0_writePackedRow_66 : decode cX0_writePackedRow 66 = .ok (.invokevirtual 43, 3) := by decide +kernel
theorem dX0_writePackedRow_69 : decode cX0_writePackedRow 69 = .ok (.pop, 1) := by decide +kernel
theorem dX0_writePackedRow_70 : decode cX0_writePackedRow 70 = .ok (.iconst 0, 1) := by decide +kernel
theorem dX0_writePackedRow_71 : decode cX0_writePackedRow 71 = .ok (.istore 4, 2) := by decide +kernel
theorem dX0_writePackedRow_73 : decode cX0_writePackedRow 73 = .ok (.iinc 5 1, 3) := by decide +kernel
theorem dX0_writePackedRow_76 : decode cX0_writePackedRow 76 = .ok (.goto (-70), 3) := by decide +kernel
theorem dX0_writePackedRow_79 : decode cX0_writePackedRow 79 = .ok (.aload_n 3, 1) := by decide +kernel
theorem dX0_writePackedRow_80 : decode cX0_writePackedRow 80 = .ok (.iconst 0, 1) := by decide +kernel
theorem dX0_writePackedRow_81 : decode cX0_writePackedRow 81 = .ok (.invokevirtual 43, 3) := by decide +kernel
theorem dX0_writePackedRow_84 : decode cX0_writePackedRow 84 = .ok (.pop, 1) := by decide +kernel
theorem dX0_writePackedRow_85 : decode cX0_writePackedRow 85 = .ok (.aload_n 3, 1) := by decide +kernel
theorem dX0_writePackedRow_86 : decode cX0_writePackedRow 86 = .ok (.iload_n 2, 1) := by decide +kernel
theorem dX0_writePackedRow_87 : decode cX0_writePackedRow 87 = .ok (.ifCond .ne 7, 3) := by decide +kernel
theorem dX0_writePackedRow_90 : decode cX0_writePackedRow 90 = .ok (.iconst 1, 1) := by decide +kernel
theorem dX0_writePackedRow_91 : decode cX0_writePackedRow 91 = .ok (.goto 4, 3) := by decide +kernel
theorem dX0_writePackedRow_94 : decode cX0_writePackedRow 94 = .ok (.iconst 0, 1) := by decide +kernel
theorem dX0_writePackedRow_95 : decode cX0_writePackedRow 95 = .ok (.invokevirtual 43, 3) := by decide +kernel
theorem dX0_writePackedRow_98 : decode cX0_writePackedRow 98 = .ok (.pop, 1) := by decide +kernel
theorem dX0_writePackedRow_99 : decode cX0_writePackedRow 99 = .ok (.return_, 1) := by decide +kernel
theorem dX0_bytesToFour_0 : decode cX0_bytesToFour 0 = .ok (.iload_n 0, 1) := by decide +kernel
theorem dX0_bytesToFour_1 : decode cX0_bytesToFour 1 = .ok (.ineg, 1) := by decide +kernel
theorem dX0_bytesToFour_2 : decode cX0_bytesToFour 2 = .ok (.iconst 3, 1) := by decide +kernel
theorem dX0_bytesToFour_3 : decode cX0_bytesToFour 3 = .ok (.iand, 1) := by decide +kernel
theorem dX0_bytesToFour_4 : decode cX0_bytesToFour 4 = .ok (.ireturn, 1) := by decide +kernel
set_option maxRecDepth 20000 in
theorem ggX0_read_X7_pass : GoodIn wsX0_read wsX7_pass := goodIn_ca (goodIn_r _ [8, 9, 10, 11, 7, 12, 13, 14, 15, 16, 110, 111, 112, 113] (by decide +kernel) (by decide +kernel)) (goodIn_sub (fun _ h => List.mem_cons_of_mem _ (List.mem_append_left _ (List.mem_append_right _ h))) (by decide +kernel))
set_option maxRecDepth 20000 in
theorem gX0_read_X7_pass : GoodIn wsX0_read (wsV RX0 92 RX7 yX7_pass wsX7_pass) := goodIn_app (goodIn_of _ (by decide +kernel)) ggX0_read_X7_pass
set_option maxRecDepth 20000 in
theorem ggX0_read_X7_little : GoodIn wsX0_read wsX7_little := goodIn_ca (goodIn_r _ [20, 9, 10, 11, 7, 12, 13, 14, 15, 16, 110, 111, 112, 113] (by decide +kernel) (by decide +kernel)) (goodIn_sub (fun _ h => List.mem_cons_of_mem _ (List.mem_append_left _ (List.mem_append_right _ h))) (by decide +kernel))
set_option maxRecDepth 20000 in
theorem gX0_read_X7_little : GoodIn wsX0_read (wsV RX0 97 RX7 yX7_little wsX7_little) := goodIn_app (goodIn_of _ (by decide +kernel)) ggX0_read_X7_little
set_option maxRecDepth 20000 in
theorem ggX0_read_X0_readHeader : GoodIn wsX0_read wsX0_readHeader := goodIn_ca (goodIn_ca (goodIn_r _ [25, 26, 27, 3, 1, 17, 18, 19, 7, 20, 9, 10, 11, 12, 13, 14, 15, 16, 28, 29, 30, 31, 32, 33, 34, 35, 36, 37, 38, 39, 40, 41, 4, 5, 6, 8, 42, 43, 44, 45, 46, 47, 48, 49, 50, 51, 52, 53, 54, 55, 56, 57, 103, 104, 105, 106, 107, 108, 109, 110, 111, 112, 113, 114, 115, 116] (by decide +kernel) (by decide +kernel)) (goodIn_sub (fun _ h => List.mem_cons_of_mem _ (List.mem_append_left _ (List.mem_append_right _ h))) (by decide +kernel))) (goodIn_sub (fun _ h => List.mem_cons_of_mem _ (List.mem_append_right _ h)) (by decide +kernel))
set_option maxRecDepth 20000 in
theorem gX0_read_X0_readHeader : GoodIn wsX0_read (wsV RX0 100 RX0 yX0_readHeader wsX0_readHeader) := goodIn_app (goodIn_of _ (by decide +kernel)) ggX0_read_X0_readHeader
set_option maxRecDepth 20000 in
theorem ggX0_read_X7_blueGreenRed : GoodIn wsX0_read wsX7_blueGreenRed := goodIn_ca (goodIn_r _ [61, 9, 10, 11, 7, 12, 13, 14, 15, 16, 62, 39, 63, 110, 111, 112, 113] (by decide +kernel) (by decide +kernel)) (goodIn_sub (fun _ h => List.mem_cons_of_mem _ (List.mem_append_left _ (List.mem_append_right _ h))) (by decide +kernel))
set_option maxRecDepth 20000 in
theorem gX0_read_X7_blueGreenRed : GoodIn wsX0_read (wsV RX0 104 RX7 yX7_blueGreenRed wsX7_blueGreenRed) := goodIn_app (goodIn_of _ (by decide +kernel)) ggX0_read_X7_blueGreenRed
set_option maxRecDepth 20000 in
theorem ggX0_read_X7_need : GoodIn wsX0_read wsX7_need := goodIn_ca (goodIn_r _ [31, 32, 33] (by decide +kernel) (by decide +kernel)) (goodIn_sub (fun _ h => List.mem_cons_of_mem _ (List.mem_append_right _ h)) (by decide +kernel))
set_option maxRecDepth 20000 in
theorem gX0_read_X7_need : GoodIn wsX0_read (wsV RX0 110 RX7 yX7_need wsX7_need) := goodIn_app (goodIn_of _ (by decide +kernel)) ggX0_read_X7_need
set_option maxRecDepth 20000 in
theorem ggX0_read_X0_readPacked : GoodIn wsX0_read wsX0_readPacked := goodIn_ca (goodIn_ca (goodIn_r _ [67, 2, 68, 69, 70, 50, 51, 45, 52, 53, 54, 55, 56, 57, 71, 10, 11, 7, 12, 13, 14, 15, 16, 72, 73, 74, 24, 75, 76, 77, 78, 79, 28, 29, 30, 31, 32, 33, 80, 81, 82, 83, 84, 85, 86, 87, 47, 48, 88, 89, 90, 91, 1, 92, 93, 94, 95, 4, 5, 6, 8, 9, 103, 104, 105, 106, 107, 108, 109, 114, 115, 116, 110, 111, 112, 113] (by decide +kernel) (by decide +kernel)) (goodIn_sub (fun _ h => List.mem_cons_of_mem _ (List.mem_append_left _ (List.mem_append_right _ h))) (by decide +kernel))) (goodIn_sub (fun _ h => List.mem_cons_of_mem _ (List.mem_append_right _ h)) (by decide +kernel))
set_option maxRecDepth 20000 in
theorem gX0_read_X0_readPacked : GoodIn wsX0_read (wsV RX0 117 RX0 yX0_readPacked wsX0_readPacked) := goodIn_app (goodIn_of _ (by decide +kernel)) ggX0_read_X0_readPacked
set_option maxRecDepth 20000 in
theorem ggX0_read_X0_readRows : GoodIn wsX0_read wsX0_readRows := goodIn_ca (goodIn_ca (goodIn_r _ [99, 27, 26, 100, 101, 24, 102, 58, 59, 60, 7, 61, 9, 10, 11, 12, 13, 14, 15, 16, 62, 39, 63, 71, 88, 89, 90, 91, 1, 2, 28, 29, 30, 31, 32, 33, 92, 93, 94, 45, 95, 53, 47, 4, 5, 6, 8, 114, 115, 116, 103, 104, 105, 106, 107, 108, 109, 110, 111, 112, 113] (by decide +kernel) (by decide +kernel)) (goodIn_sub (fun _ h => List.mem_cons_of_mem _ (List.mem_append_left _ (List.mem_append_right _ h))) (by decide +kernel))) (goodIn_sub (fun _ h => List.mem_cons_of_mem _ (List.mem_append_right _ h)) (by decide +kernel))
set_option maxRecDepth 20000 in
theorem gX0_read_X0_readRows : GoodIn wsX0_read (wsV RX0 120 RX0 yX0_readRows wsX0_readRows) := goodIn_app (goodIn_of _ (by decide +kernel)) ggX0_read_X0_readRows
theorem dX0_read_0 : decode cX0_read 0 = .ok (.aload_n 1, 1) := by decide +kernel
theorem dX0_read_1 : decode cX0_read 1 = .ok (.bipush 10, 2) := by decide +kernel
theorem dX0_read_3 : decode cX0_read 3 = .ok (.invokevirtual 92, 3) := by decide +kernel
theorem dX0_read_6 : decode cX0_read 6 = .ok (.aload_n 1, 1) := by decide +kernel
theorem dX0_read_7 : decode cX0_read 7 = .ok (.iconst 4, 1) := by decide +kernel
theorem dX0_read_8 : decode cX0_read 8 = .ok (.invokevirtual 97, 3) := by decide +kernel
theorem dX0_read_11 : decode cX0_read 11 = .ok (.istore_n 3, 1) := by decide +kernel
theorem dX0_read_12 : decode cX0_read 12 = .ok (.aload_n 0, 1) := by decide +kernel
theorem dX0_read_13 : decode cX0_read 13 = .ok (.aload_n 1, 1) := by decide +kernel
theorem dX0_read_14 : decode cX0_read 14 = .ok (.aload_n 2, 1) := by decide +kernel
theorem dX0_read_15 : decode cX0_read 15 = .ok (.invokevirtual 100, 3) := by decide +kernel
theorem dX0_read_18 : decode cX0_read 18 = .ok (.iconst 0, 1) := by decide +kernel
theorem dX0_read_19 : decode cX0_read 19 = .ok (.istore 4, 2) := by decide +kernel
theorem dX0_read_21 : decode cX0_read 21 = .ok (.iload 4, 2) := by decide +kernel
theorem dX0_read_23 : decode cX0_read 23 = .ok (.aload_n 0, 1) := by decide +kernel
theorem dX0_read_24 : decode cX0_read 24 = .ok (.getfield 27, 3) := by decide +kernel
theorem dX0_read_27 : decode cX0_read 27 = .ok (.if_icmp .ge 25, 3) := by decide +kernel
theorem dX0_read_30 : decode cX0_read 30 = .ok (.aload_n 0, 1) := by decide +kernel
theorem dX0_read_31 : decode cX0_read 31 = .ok (.getfield 11, 3) := by decide +kernel
theorem dX0_read_34 : decode cX0_read 34 = .ok (.iload 4, 2) := by decide +kernel
theorem dX0_read_36 : decode cX0_read 36 = .ok (.aload_n 1, 1) := by decide +kernel
theorem dX0_read_37 : decode cX0_read 37 = .ok (.invokevirtual 104, 3) := by decide +kernel
theorem dX0_read_40 : decode cX0_read 40 = .ok (.iastore, 1) := by decide +kernel
theorem dX0_read_41 : decode cX0_read 41 = .ok (.aload_n 1, 1) := by decide +kernel
theorem dX0_read_42 : decode cX0_read 42 = .ok (.iconst 1, 1) := by decide +kernel
theorem dX0_read_43 : decode cX0_read 43 = .ok (.invokevirtual 92, 3) := by decide +kernel
theorem dX0_read_46 : decode cX0_read 46 = .ok (.iinc 4 1, 3) := by decide +kernel
theorem dX0_read_49 : decode cX0_read 49 = .ok (.goto (-28), 3) := by decide +kernel
theorem dX0_read_52 : decode cX0_read 52 = .ok (.aload_n 1, 1) := by decide +kernel
theorem dX0_read_53 : decode cX0_read 53 = .ok (.iload_n 3, 1) := by decide +kernel
theorem dX0_read_54 : decode cX0_read 54 = .ok (.aload_n 1, 1) := by decide +kernel
theorem dX0_read_55 : decode cX0_read 55 = .ok (.getfield 107, 3) := by decide +kernel
theorem dX0_read_58 : decode cX0_read 58 = .ok (.if_icmp .lt 14, 3) := by decide +kernel
theorem dX0_read_61 : decode cX0_read 61 = .ok (.iload_n 3, 1) := by decide +kernel
theorem dX0_read_62 : decode cX0_read 62 = .ok (.sipush 800, 3) := by decide +kernel
theorem dX0_read_65 : decode cX0_read 65 = .ok (.if_icmp .gt 7, 3) := by decide +kernel
theorem dX0_read_68 : decode cX0_read 68 = .ok (.iconst 1, 1) := by decide +kernel
theorem dX0_read_69 : decode cX0_read 69 = .ok (.goto 4, 3) := by decide +kernel
theorem dX0_read_72 : decode cX0_read 72 = .ok (.iconst 0, 1) := by decide +kernel
theorem dX0_read_73 : decode cX0_read 73 = .ok (.invokevirtual 110, 3) := by decide +kernel
theorem dX0_read_76 : decode cX0_read 76 = .ok (.aload_n 1, 1) := by decide +kernel
theorem dX0_read_77 : decode cX0_read 77 = .ok (.iload_n 3, 1) := by decide +kernel
theorem dX0_read_78 : decode cX0_read 78 = .ok (.aload_n 1, 1) := by decide +kernel
theorem dX0_read_79 : decode cX0_read 79 = .ok (.getfield 107, 3) := by decide +kernel
theorem dX0_read_82 : decode cX0_read 82 = .ok (.isub, 1) := by decide +kernel
theorem dX0_read_83 : decode cX0_read 83 = .ok (.invokevirtual 92, 3) := by decide +kernel
theorem dX0_read_86 : decode cX0_read 86 = .ok (.aload_n 0, 1) := by decide +kernel
theorem dX0_read_87 : decode cX0_read 87 = .ok (.getfield 114, 3) := by decide +kernel
theorem dX0_read_90 : decode cX0_read 90 = .ok (.iconst 1, 1) := by decide +kernel
theorem dX0_read_91 : decode cX0_read 91 = .ok (.if_icmp .ne 12, 3) := by decide +kernel
theorem dX0_read_94 : decode cX0_read 94 = .ok (.aload_n 0, 1) := by decide +kernel
theorem dX0_read_95 : decode cX0_read 95 = .ok (.aload_n 1, 1) := by decide +kernel
theorem dX0_read_96 : decode cX0_read 96 = .ok (.aload_n 2, 1) := by decide +kernel
theorem dX0_read_97 : decode cX0_read 97 = .ok (.invokevirtual 117, 3) := by decide +kernel
theorem dX0_read_100 : decode cX0_read 100 = .ok (.goto 9, 3) := by decide +kernel
theorem dX0_read_103 : decode cX0_read 103 = .ok (.aload_n 0, 1) := by decide +kernel
theorem dX0_read_104 : decode cX0_read 104 = .ok (.aload_n 1, 1) := by decide +kernel
theorem dX0_read_105 : decode cX0_read 105 = .ok (.aload_n 2, 1) := by decide +kernel
theorem dX0_read_106 : decode cX0_read 106 = .ok (.invokevirtual 120, 3) := by decide +kernel
theorem dX0_read_109 : decode cX0_read 109 = .ok (.return_, 1) := by decide +kernel
set_option maxRecDepth 20000 in
theorem ggX0_readHeader_X7_little : GoodIn wsX0_readHeader wsX7_little := goodIn_ca (goodIn_r _ [9, 10, 11, 12, 8, 13, 14, 15, 16, 17, 59, 60, 61, 62] (by decide +kernel) (by decide +kernel)) (goodIn_sub (fun _ h => List.mem_cons_of_mem _ (List.mem_append_left _ (List.mem_append_right _ h))) (by decide +kernel))
set_option maxRecDepth 20000 in
theorem gX0_readHeader_X7_little : GoodIn wsX0_readHeader (wsV RX0 97 RX7 yX7_little wsX7_little) := goodIn_app (goodIn_of _ (by decide +kernel)) ggX0_readHeader_X7_little
set_option maxRecDepth 20000 in
theorem ggX0_readHeader_X7_need : GoodIn wsX0_readHeader wsX7_need := goodIn_ca (goodIn_r _ [21, 22, 23] (by decide +kernel) (by decide +kernel)) (goodIn_sub (fun _ h => List.mem_cons_of_mem _ (List.mem_append_right _ h)) (by decide +kernel))
set_option maxRecDepth 20000 in
theorem gX0_readHeader_X7_need : GoodIn wsX0_readHeader (wsV RX0 110 RX7 yX7_need wsX7_need) := goodIn_app (goodIn_of _ (by decide +kernel)) ggX0_readHeader_X7_need
set_option maxRecDepth 20000 in
theorem ggX0_readHeader_X7_needSide : GoodIn wsX0_readHeader wsX7_needSide := goodIn_ca (goodIn_r _ [27, 28, 29, 30, 31, 19, 20, 8, 21, 22, 23] (by decide +kernel) (by decide +kernel)) (goodIn_sub (fun _ h => List.mem_cons_of_mem _ (List.mem_append_right _ h)) (by decide +kernel))
set_option maxRecDepth 20000 in
theorem gX0_readHeader_X7_needSide : GoodIn wsX0_readHeader (wsV RX0 123 RX7 yX7_needSide wsX7_needSide) := goodIn_app (goodIn_of _ (by decide +kernel)) ggX0_readHeader_X7_needSide
set_option maxRecDepth 20000 in
theorem ggX0_readHeader_X7_pass : GoodIn wsX0_readHeader wsX7_pass := goodIn_ca (goodIn_r _ [35, 10, 11, 12, 8, 13, 14, 15, 16, 17, 59, 60, 61, 62] (by decide +kernel) (by decide +kernel)) (goodIn_sub (fun _ h => List.mem_cons_of_mem _ (List.mem_append_left _ (List.mem_append_right _ h))) (by decide +kernel))
set_option maxRecDepth 20000 in
theorem gX0_readHeader_X7_pass : GoodIn wsX0_readHeader (wsV RX0 92 RX7 yX7_pass wsX7_pass) := goodIn_app (goodIn_of _ (by decide +kernel)) ggX0_readHeader_X7_pass
set_option maxRecDepth 20000 in
theorem ggX0_readHeader_X5_begin : GoodIn wsX0_readHeader wsX5_begin := goodIn_r _ [40, 41, 42, 43, 44, 45, 39, 46, 47, 48, 49, 50, 51, 63, 64, 65] (by decide +kernel) (by decide +kernel)
set_option maxRecDepth 20000 in
theorem gX0_readHeader_X5_begin : GoodIn wsX0_readHeader (wsV RX0 133 RX5 yX5_begin wsX5_begin) := goodIn_app (goodIn_of _ (by decide +kernel)) ggX0_readHeader_X5_begin
theorem dX0_readHeader_0 : decode cX0_readHeader 0 = .ok (.aload_n 1, 1) := by decide +kernel
theorem dX0_readHeader_1 : decode cX0_readHeader 1 = .ok (.aload_n 1, 1) := by decide +kernel
theorem dX0_readHeader_2 : decode cX0_readHeader 2 = .ok (.iconst 4, 1) := by decide +kernel
theorem dX0_readHeader_3 : decode cX0_readHeader 3 = .ok (.invokevirtual 97, 3) := by decide +kernel
theorem dX0_readHeader_6 : decode cX0_readHeader 6 = .ok (.bipush 40, 2) := by decide +kernel
theorem dX0_readHeader_8 : decode cX0_readHeader 8 = .ok (.if_icmp .ne 7, 3) := by decide +kernel
theorem dX0_readHeader_11 : decode cX0_readHeader 11 = .ok (.iconst 1, 1) := by decide +kernel
theorem dX0_readHeader_12 : decode cX0_readHeader 12 = .ok (.goto 4, 3) := by decide +kernel
theorem dX0_readHeader_15 : decode cX0_readHeader 15 = .ok (.iconst 0, 1) := by decide +kernel
theorem dX0_readHeader_16 : decode cX0_readHeader 16 = .ok (.invokevirtual 110, 3) := by decide +kernel
theorem dX0_readHeader_19 : decode cX0_readHeader 19 = .ok (.aload_n 1, 1) := by decide +kernel
theorem dX0_readHeader_20 : decode cX0_readHeader 20 = .ok (.aload_n 1, 1) := by decide +kernel
theorem dX0_readHeader_21 : decode cX0_readHeader 21 = .ok (.iconst 4, 1) := by decide +kernel
theorem dX0_readHeader_22 : decode cX0_readHeader 22 = .ok (.invokevirtual 97, 3) := by decide +kernel
theorem dX0_readHeader_25 : decode cX0_readHeader 25 = .ok (.invokevirtual 123, 3) := by decide +kernel
theorem dX0_readHeader_28 : decode cX0_readHeader 28 = .ok (.istore_n 3, 1) := by decide +kernel
theorem dX0_readHeader_29 : decode cX0_readHeader 29 = .ok (.aload_n 1, 1) := by decide +kernel
theorem dX0_readHeader_30 : decode cX0_readHeader 30 = .ok (.iconst 4, 1) := by decide +kernel
theorem dX0_readHeader_31 : decode cX0_readHeader 31 = .ok (.invokevirtual 97, 3) := by decide +kernel
theorem dX0_readHeader_34 : decode cX0_readHeader 34 = .ok (.istore 4, 2) := by decide +kernel
theorem dX0_readHeader_36 : decode cX0_readHeader 36 = .ok (.aload_n 0, 1) := by decide +kernel
theorem dX0_readHeader_37 : decode cX0_readHeader 37 = .ok (.iload 4, 2) := by decide +kernel
theorem dX0_readHeader_39 : decode cX0_readHeader 39 = .ok (.ifCond .le 7, 3) := by decide +kernel
theorem dX0_readHeader_42 : decode cX0_readHeader 42 = .ok (.iconst 1, 1) := by decide +kernel
theorem dX0_readHeader_43 : decode cX0_readHeader 43 = .ok (.goto 4, 3) := by decide +kernel
theorem dX0_readHeader_46 : decode cX0_readHeader 46 = .ok (.iconst 0, 1) := by decide +kernel
theorem dX0_readHeader_47 : decode cX0_readHeader 47 = .ok (.putfield 126, 3) := by decide +kernel
theorem dX0_readHeader_50 : decode cX0_readHeader 50 = .ok (.aload_n 1, 1) := by decide +kernel
theorem dX0_readHeader_51 : decode cX0_readHeader 51 = .ok (.aload_n 0, 1) := by decide +kernel
theorem dX0_readHeader_52 : decode cX0_readHeader 52 = .ok (.getfield 126, 3) := by decide +kernel
theorem dX0_readHeader_55 : decode cX0_readHeader 55 = .ok (.ifCond .eq 8, 3) := by decide +kernel
theorem dX0_readHeader_58 : decode cX0_readHeader 58 = .ok (.iload 4, 2) := by decide +kernel
theorem dX0_readHeader_60 : decode cX0_readHeader 60 = .ok (.goto 6, 3) := by decide +kernel
theorem dX0_readHeader_63 : decode cX0_readHeader 63 = .ok (.iload 4, 2) := by decide +kernel
theorem dX0_readHeader_65 : decode cX0_readHeader 65 = .ok (.ineg, 1) := by decide +kernel
theorem dX0_readHeader_66 : decode cX0_readHeader 66 = .ok (.invokevirtual 123, 3) := by decide +kernel
theorem dX0_readHeader_69 : decode cX0_readHeader 69 = .ok (.istore 5, 2) := by decide +kernel
theorem dX0_readHeader_71 : decode cX0_readHeader 71 = .ok (.aload_n 1, 1) := by decide +kernel
theorem dX0_readHeader_72 : decode cX0_readHeader 72 = .ok (.aload_n 1, 1) := by decide +kernel
theorem dX0_readHeader_73 : decode cX0_readHeader 73 = .ok (.iconst 2, 1) := by decide +kernel
theorem dX0_readHeader_74 : decode cX0_readHeader 74 = .ok (.invokevirtual 97, 3) := by decide +kernel
theorem dX0_readHeader_77 : decode cX0_readHeader 77 = .ok (.iconst 1, 1) := by decide +kernel
theorem dX0_readHeader_78 : decode cX0_readHeader 78 = .ok (.if_icmp .ne 7, 3) := by decide +kernel
theorem dX0_readHeader_81 : decode cX0_readHeader 81 = .ok (.iconst 1, 1) := by decide +kernel
theorem dX0_readHeader_82 : decode cX0_readHeader 82 = .ok (.goto 4, 3) := by decide +kernel
theorem dX0_readHeader_85 : decode cX0_readHeader 85 = .ok (.iconst 0, 1) := by decide +kernel
theorem dX0_readHeader_86 : decode cX0_readHeader 86 = .ok (.invokevirtual 110, 3) := by decide +kernel
theorem dX0_readHeader_89 : decode cX0_readHeader 89 = .ok (.aload_n 0, 1) := by decide +kernel
theorem dX0_readHeader_90 : decode cX0_readHeader 90 = .ok (.aload_n 1, 1) := by decide +kernel
theorem dX0_readHeader_91 : decode cX0_readHeader 91 = .ok (.iconst 2, 1) := by decide +kernel
theorem dX0_readHeader_92 : decode cX0_readHeader 92 = .ok (.invokevirtual 97, 3) := by decide +kernel
theorem dX0_readHeader_95 : decode cX0_readHeader 95 = .ok (.putfield 130, 3) := by decide +kernel
theorem dX0_readHeader_98 : decode cX0_readHeader 98 = .ok (.aload_n 1, 1) := by decide +kernel
theorem dX0_readHeader_99 : decode cX0_readHeader 99 = .ok (.aload_n 0, 1) := by decide +kernel
theorem dX0_readHeader_100 : decode cX0_readHeader 100 = .ok (.getfield 130, 3) := by decide +kernel
theorem dX0_readHeader_103 : decode cX0_readHeader 103 = .ok (.bipush 8, 2) := by decide +kernel
theorem dX0_readHeader_105 : decode cX0_readHeader 105 = .ok (.if_icmp .eq 12, 3) := by decide +kernel
theorem dX0_readHeader_108 : decode cX0_readHeader 108 = .ok (.aload_n 0, 1) := by decide +kernel
theorem dX0_readHeader_109 : decode cX0_readHeader 109 = .ok (.getfield 130, 3) := by decide +kernel
theorem dX0_readHeader_112 : decode cX0_readHeader 112 = .ok (.bipush 24, 2) := by decide +kernel
theorem dX0_readHeader_114 : decode cX0_readHeader 114 = .ok (.if_icmp .ne 7, 3) := by decide +kernel
theorem dX0_readHeader_117 : decode cX0_readHeader 117 = .ok (.iconst 1, 1) := by decide +kernel
theorem dX0_readHeader_118 : decode cX0_readHeader 118 = .ok (.goto 4, 3) := by decide +kernel
theorem dX0_readHeader_121 : decode cX0_readHeader 121 = .ok (.iconst 0, 1) := by decide +kernel
theorem dX0_readHeader_122 : decode cX0_readHeader 122 = .ok (.invokevirtual 110, 3) := by decide +kernel
theorem dX0_readHeader_125 : decode cX0_readHeader 125 = .ok (.aload_n 0, 1) := by decide +kernel
theorem dX0_readHeader_126 : decode cX0_readHeader 126 = .ok (.aload_n 1, 1) := by decide +kernel
theorem dX0_readHeader_127 : decode cX0_readHeader 127 = .ok (.iconst 4, 1) := by decide +kernel
theorem dX0_readHeader_128 : decode cX0_readHeader 128 = .ok (.invokevirtual 97, 3) := by decide +kernel
theorem dX0_readHeader_131 : decode cX0_readHeader 131 = .ok (.putfield 114, 3) := by decide +kernel
theorem dX0_readHeader_134 : decode cX0_readHeader 134 = .ok (.aload_n 1, 1) := by decide +kernel
theorem dX0_readHeader_135 : decode cX0_readHeader 135 = .ok (.aload_n 0, 1) := by decide +kernel
theorem dX0_readHeader_136 : decode cX0_readHeader 136 = .ok (.getfield 114, 3) := by decide +kernel
theorem dX0_readHeader_139 : decode cX0_readHeader 139 = .ok (.ifCond .eq 27, 3) := by decide +kernel
theorem dX0_readHeader_142 : decode cX0_readHeader 142 = .ok (.aload_n 0, 1) := by decide +kernel
theorem dX0_readHeader_143 : decode cX0_readHeader 143 = .ok (.getfield 114, 3) := by decide +kernel
theorem dX0_readHeader_146 : decode cX0_readHeader 146 = .ok (.iconst 1, 1) := by decide +kernel
theorem dX0_readHeader_147 : decode cX0_readHeader 147 = .ok (.if_icmp .ne 23, 3) := by decide +kernel
theorem dX0_readHeader_150 : decode cX0_readHeader 150 = .ok (.aload_n 0, 1) := by decide +kernel
theorem dX0_readHeader_151 : decode cX0_readHeader 151 = .ok (.getfield 130, 3) := by decide +kernel
theorem dX0_readHeader_154 : decode cX0_readHeader 154 = .ok (.bipush 8, 2) := by decide +kernel
theorem dX0_readHeader_156 : decode cX0_readHeader 156 = .ok (.if_icmp .ne 14, 3) := by decide +kernel
theorem dX0_readHeader_159 : decode cX0_readHeader 159 = .ok (.aload_n 0, 1) := by decide +kernel
theorem dX0_readHeader_160 : decode cX0_readHeader 160 = .ok (.getfield 126, 3) := by decide +kernel
theorem dX0_readHeader_163 : decode cX0_readHeader 163 = .ok (.ifCond .eq 7, 3) := by decide +kernel
theorem dX0_readHeader_166 : decode cX0_readHeader 166 = .ok (.iconst 1, 1) := by decide +kernel
theorem dX0_readHeader_167 : decode cX0_readHeader 167 = .ok (.goto 4, 3) := by decide +kernel
theorem dX0_readHeader_170 : decode cX0_readHeader 170 = .ok (.iconst 0, 1) := by decide +kernel
theorem dX0_readHeader_171 : decode cX0_readHeader 171 = .ok (.invokevirtual 110, 3) := by decide +kernel
theorem dX0_readHeader_174 : decode cX0_readHeader 174 = .ok (.aload_n 1, 1) := by decide +kernel
theorem dX0_readHeader_175 : decode cX0_readHeader 175 = .ok (.bipush 12, 2) := by decide +kernel
theorem dX0_readHeader_177 : decode cX0_readHeader 177 = .ok (.invokevirtual 92, 3) := by decide +kernel
theorem dX0_readHeader_180 : decode cX0_readHeader 180 = .ok (.aload_n 0, 1) := by decide +kernel
theorem dX0_readHeader_181 : decode cX0_readHeader 181 = .ok (.aload_n 1, 1) := by decide +kernel
theorem dX0_readHeader_182 : decode cX0_readHeader 182 = .ok (.iconst 4, 1) := by decide +kernel
theorem dX0_readHeader_183 : decode cX0_readHeader 183 = .ok (.invokevirtual 97, 3) := by decide +kernel
theorem dX0_readHeader_186 : decode cX0_readHeader 186 = .ok (.putfield 27, 3) := by decide +kernel
theorem dX0_readHeader_189 : decode cX0_readHeader 189 = .ok (.aload_n 1, 1) := by decide +kernel
theorem dX0_readHeader_190 : decode cX0_readHeader 190 = .ok (.aload_n 0, 1) := by decide +kernel
theorem dX0_readHeader_191 : decode cX0_readHeader 191 = .ok (.getfield 130, 3) := by decide +kernel
theorem dX0_readHeader_194 : decode cX0_readHeader 194 = .ok (.bipush 8, 2) := by decide +kernel
theorem dX0_readHeader_196 : decode cX0_readHeader 196 = .ok (.if_icmp .ne 28, 3) := by decide +kernel
theorem dX0_readHeader_199 : decode cX0_readHeader 199 = .ok (.aload_n 0, 1) := by decide +kernel
theorem dX0_readHeader_200 : decode cX0_readHeader 200 = .ok (.getfield 27, 3) := by decide +kernel
theorem dX0_readHeader_203 : decode cX0_readHeader 203 = .ok (.iconst 1, 1) := by decide +kernel
theorem dX0_readHeader_204 : decode cX0_readHeader 204 = .ok (.if_icmp .lt 16, 3) := by decide +kernel
theorem dX0_readHeader_207 : decode cX0_readHeader 207 = .ok (.aload_n 0, 1) := by decide +kernel
theorem dX0_readHeader_208 : decode cX0_readHeader 208 = .ok (.getfield 27, 3) := by decide +kernel
theorem dX0_readHeader_211 : decode cX0_readHeader 211 = .ok (.bipush 64, 2) := by decide +kernel
theorem dX0_readHeader_213 : decode cX0_readHeader 213 = .ok (.if_icmp .gt 7, 3) := by decide +kernel
theorem dX0_readHeader_216 : decode cX0_readHeader 216 = .ok (.iconst 1, 1) := by decide +kernel
theorem dX0_readHeader_217 : decode cX0_readHeader 217 = .ok (.goto 19, 3) := by decide +kernel
theorem dX0_readHeader_220 : decode cX0_readHeader 220 = .ok (.iconst 0, 1) := by decide +kernel
theorem dX0_readHeader_221 : decode cX0_readHeader 221 = .ok (.goto 15, 3) := by decide +kernel
theorem dX0_readHeader_224 : decode cX0_readHeader 224 = .ok (.aload_n 0, 1) := by decide +kernel
theorem dX0_readHeader_225 : decode cX0_readHeader 225 = .ok (.getfield 27, 3) := by decide +kernel
theorem dX0_readHeader_228 : decode cX0_readHeader 228 = .ok (.ifCond .ne 7, 3) := by decide +kernel
theorem dX0_readHeader_231 : decode cX0_readHeader 231 = .ok (.iconst 1, 1) := by decide +kernel
theorem dX0_readHeader_232 : decode cX0_readHeader 232 = .ok (.goto 4, 3) := by decide +kernel
theorem dX0_readHeader_235 : decode cX0_readHeader 235 = .ok (.iconst 0, 1) := by decide +kernel
theorem dX0_readHeader_236 : decode cX0_readHeader 236 = .ok (.invokevirtual 110, 3) := by decide +kernel
theorem dX0_readHeader_239 : decode cX0_readHeader 239 = .ok (.aload_n 1, 1) := by decide +kernel
theorem dX0_readHeader_240 : decode cX0_readHeader 240 = .ok (.iconst 4, 1) := by decide +kernel
theorem dX0_readHeader_241 : decode cX0_readHeader 241 = .ok (.invokevirtual 92, 3) := by decide +kernel
theorem dX0_readHeader_244 : decode cX0_readHeader 244 = .ok (.aload_n 2, 1) := by decide +kernel
theorem dX0_readHeader_245 : decode cX0_readHeader 245 = .ok (.iload_n 3, 1) := by decide +kernel
theorem dX0_readHeader_246 : decode cX0_readHeader 246 = .ok (.iload 5, 2) := by decide +kernel
theorem dX0_readHeader_248 : decode cX0_readHeader 248 = .ok (.invokevirtual 133, 3) := by decide +kernel
theorem dX0_readHeader_251 : decode cX0_readHeader 251 = .ok (.return_, 1) := by decide +kernel
set_option maxRecDepth 20000 in
theorem ggX0_readRows_X0_bytesToFour : GoodIn wsX0_readRows wsX0_bytesToFour := goodIn_r _ [6] (by decide +kernel) (by decide +kernel)
set_option maxRecDepth 20000 in
theorem gX0_readRows_X0_bytesToFour : GoodIn wsX0_readRows (va_wsS RX0 89 yX0_bytesToFour wsX0_bytesToFour) := goodIn_app (goodIn_of _ (by decide +kernel)) ggX0_readRows_X0_bytesToFour
set_option maxRecDepth 20000 in
theorem ggX0_readRows_X7_blueGreenRed : GoodIn wsX0_readRows wsX7_blueGreenRed := goodIn_ca (goodIn_r _ [11, 12, 13, 14, 10, 15, 16, 17, 18, 19, 20, 21, 22, 57, 58, 59, 60] (by decide +kernel) (by decide +kernel)) (goodIn_sub (fun _ h => List.mem_cons_of_mem _ (List.mem_append_left _ (List.mem_append_right _ h))) (by decide +kernel))
set_option maxRecDepth 20000 in
theorem gX0_readRows_X7_blueGreenRed : GoodIn wsX0_readRows (wsV RX0 104 RX7 yX7_blueGreenRed wsX7_blueGreenRed) := goodIn_app (goodIn_of _ (by decide +kernel)) ggX0_readRows_X7_blueGreenRed
set_option maxRecDepth 20000 in
theorem ggX0_readRows_X7_next : GoodIn wsX0_readRows wsX7_next := goodIn_ca (goodIn_r _ [15, 16, 17, 18, 19, 57, 58, 59, 60] (by decide +kernel) (by decide +kernel)) (goodIn_sub (fun _ h => List.mem_cons_of_mem _ (List.mem_append_left _ (List.mem_append_right _ h))) (by decide +kernel))
set_option maxRecDepth 20000 in
theorem gX0_readRows_X7_next : GoodIn wsX0_readRows (wsV RX0 136 RX7 yX7_next wsX7_next) := goodIn_app (goodIn_of _ (by decide +kernel)) ggX0_readRows_X7_next
set_option maxRecDepth 20000 in
theorem ggX0_readRows_X0_colourOf : GoodIn wsX0_readRows wsX0_colourOf := goodIn_ca (goodIn_r _ [27, 28, 29, 30, 31, 32, 10, 33, 34, 35, 50, 51, 52, 53, 54, 55, 56] (by decide +kernel) (by decide +kernel)) (goodIn_sub (fun _ h => List.mem_cons_of_mem _ (List.mem_append_right _ h)) (by decide +kernel))
set_option maxRecDepth 20000 in
theorem gX0_readRows_X0_colourOf : GoodIn wsX0_readRows (wsV RX0 139 RX0 yX0_colourOf wsX0_colourOf) := goodIn_app (goodIn_of _ (by decide +kernel)) ggX0_readRows_X0_colourOf
set_option maxRecDepth 20000 in
theorem ggX0_readRows_X5_set : GoodIn wsX0_readRows wsX5_set := goodIn_r _ [40, 41, 42, 47, 48, 49] (by decide +kernel) (by decide +kernel)
set_option maxRecDepth 20000 in
theorem gX0_readRows_X5_set : GoodIn wsX0_readRows (wsV RX0 143 RX5 yX5_set wsX5_set) := goodIn_app (goodIn_of _ (by decide +kernel)) ggX0_readRows_X5_set
set_option maxRecDepth 20000 in
theorem ggX0_readRows_X7_pass : GoodIn wsX0_readRows wsX7_pass := goodIn_ca (goodIn_r _ [46, 12, 13, 14, 10, 15, 16, 17, 18, 19, 57, 58, 59, 60] (by decide +kernel) (by decide +kernel)) (goodIn_sub (fun _ h => List.mem_cons_of_mem _ (List.mem_append_left _ (List.mem_append_right _ h))) (by decide +kernel))
set_option maxRecDepth 20000 in
theorem gX0_readRows_X7_pass : GoodIn wsX0_readRows (wsV RX0 92 RX7 yX7_pass wsX7_pass) := goodIn_app (goodIn_of _ (by decide +kernel)) ggX0_readRows_X7_pass
theorem dX0_readRows_0 : decode cX0_readRows 0 = .ok (.aload_n 2, 1) := by decide +kernel
theorem dX0_readRows_1 : decode cX0_readRows 1 = .ok (.getfield 77, 3) := by decide +kernel
theorem dX0_readRows_4 : decode cX0_readRows 4 = .ok (.aload_n 0, 1) := by decide +kernel
theorem dX0_readRows_5 : decode cX0_readRows 5 = .ok (.getfield 130, 3) := by decide +kernel
theorem dX0_readRows_8 : decode cX0_readRows 8 = .ok (.imul, 1) := by decide +kernel
theorem dX0_readRows_9 : decode cX0_readRows 9 = .ok (.bipush 8, 2) := by decide +kernel
theorem dX0_readRows_11 : decode cX0_readRows 11 = .ok (.idiv, 1) := by decide +kernel
theorem dX0_readRows_12 : decode cX0_readRows 12 = .ok (.invokestatic 89, 3) := by decide +kernel
theorem dX0_readRows_15 : decode cX0_readRows 15 = .ok (.istore_n 3, 1) := by decide +kernel
theorem dX0_readRows_16 : decode cX0_readRows 16 = .ok (.iconst 0, 1) := by decide +kernel
theorem dX0_readRows_17 : decode cX0_readRows 17 = .ok (.istore 4, 2) := by decide +kernel
theorem dX0_readRows_19 : decode cX0_readRows 19 = .ok (.iload 4, 2) := by decide +kernel
theorem dX0_readRows_21 : decode cX0_readRows 21 = .ok (.aload_n 2, 1) := by decide +kernel
theorem dX0_readRows_22 : decode cX0_readRows 22 = .ok (.getfield 47, 3) := by decide +kernel
theorem dX0_readRows_25 : decode cX0_readRows 25 = .ok (.if_icmp .ge 88, 3) := by decide +kernel
theorem dX0_readRows_28 : decode cX0_readRows 28 = .ok (.aload_n 0, 1) := by decide +kernel
theorem dX0_readRows_29 : decode cX0_readRows 29 = .ok (.getfield 126, 3) := by decide +kernel
theorem dX0_readRows_32 : decode cX0_readRows 32 = .ok (.ifCond .eq 15, 3) := by decide +kernel
theorem dX0_readRows_35 : decode cX0_readRows 35 = .ok (.aload_n 2, 1) := by decide +kernel
theorem dX0_readRows_36 : decode cX0_readRows 36 = .ok (.getfield 47, 3) := by decide +kernel
theorem dX0_readRows_39 : decode cX0_readRows 39 = .ok (.iconst 1, 1) := by decide +kernel
theorem dX0_readRows_40 : decode cX0_readRows 40 = .ok (.isub, 1) := by decide +kernel
theorem dX0_readRows_41 : decode cX0_readRows 41 = .ok (.iload 4, 2) := by decide +kernel
theorem dX0_readRows_43 : decode cX0_readRows 43 = .ok (.isub, 1) := by decide +kernel
theorem dX0_readRows_44 : decode cX0_readRows 44 = .ok (.goto 5, 3) := by decide +kernel
theorem dX0_readRows_47 : decode cX0_readRows 47 = .ok (.iload 4, 2) := by decide +kernel
theorem dX0_readRows_49 : decode cX0_readRows 49 = .ok (.istore 5, 2) := by decide +kernel
theorem dX0_readRows_51 : decode cX0_readRows 51 = .ok (.iconst 0, 1) := by decide +kernel
theorem dX0_readRows_52 : decode cX0_readRows 52 = .ok (.istore 6, 2) := by decide +kernel
theorem dX0_readRows_54 : decode cX0_readRows 54 = .ok (.iload 6, 2) := by decide +kernel
theorem dX0_readRows_56 : decode cX0_readRows 56 = .ok (.aload_n 2, 1) := by decide +kernel
theorem dX0_readRows_57 : decode cX0_readRows 57 = .ok (.getfield 77, 3) := by decide +kernel
theorem dX0_readRows_60 : decode cX0_readRows 60 = .ok (.if_icmp .ge 42, 3) := by decide +kernel
theorem dX0_readRows_63 : decode cX0_readRows 63 = .ok (.aload_n 2, 1) := by decide +kernel
theorem dX0_readRows_64 : decode cX0_readRows 64 = .ok (.iload 6, 2) := by decide +kernel
theorem dX0_readRows_66 : decode cX0_readRows 66 = .ok (.iload 5, 2) := by decide +kernel
theorem dX0_readRows_68 : decode cX0_readRows 68 = .ok (.aload_n 0, 1) := by decide +kernel
theorem dX0_readRows_69 : decode cX0_readRows 69 = .ok (.getfield 130, 3) := by decide +kernel
theorem dX0_readRows_72 : decode cX0_readRows 72 = .ok (.bipush 24, 2) := by decide +kernel
theorem dX0_readRows_74 : decode cX0_readRows 74 = .ok (.if_icmp .ne 10, 3) := by decide +kernel
theorem dX0_readRows_77 : decode cX0_readRows 77 = .ok (.aload_n 1, 1) := by decide +kernel
theorem dX0_readRows_78 : decode cX0_readRows 78 = .ok (.invokevirtual 104, 3) := by decide +kernel
theorem dX0_readRows_81 : decode cX0_readRows 81 = .ok (.goto 12, 3) := by decide +kernel
theorem dX0_readRows_84 : decode cX0_readRows 84 = .ok (.aload_n 0, 1) := by decide +kernel
theorem dX0_readRows_85 : decode cX0_readRows 85 = .ok (.aload_n 1, 1) := by decide +kernel
theorem dX0_readRows_86 : decode cX0_readRows 86 = .ok (.aload_n 1, 1) := by decide +kernel
theorem dX0_readRows_87 : decode cX0_readRows 87 = .ok (.invokevirtual 136, 3) := by decide +kernel
theorem dX0_readRows_90 : decode cX0_readRows 90 = .ok (.invokevirtual 139, 3) := by decide +kernel
theorem dX0_readRows_93 : decode cX0_readRows 93 = .ok (.invokevirtual 143, 3) := by decide +kernel
theorem dX0_readRows_96 : decode cX0_readRows 96 = .ok (.iinc 6 1, 3) := by decide +kernel
theorem dX0_readRows_99 : decode cX0_readRows 99 = .ok (.goto (-45), 3) := by decide +kernel
theorem dX0_readRows_102 : decode cX0_readRows 102 = .ok (.aload_n 1, 1) := by decide +kernel
theorem dX0_readRows_103 : decode cX0_readRows 103 = .ok (.iload_n 3, 1) := by decide +kernel
theorem dX0_readRows_104 : decode cX0_readRows 104 = .ok (.invokevirtual 92, 3) := by decide +kernel
theorem dX0_readRows_107 : decode cX0_readRows 107 = .ok (.iinc 4 1, 3) := by decide +kernel
theorem dX0_readRows_110 : decode cX0_readRows 110 = .ok (.goto (-91), 3) := by decide +kernel
theorem dX0_readRows_113 : decode cX0_readRows 113 = .ok (.return_, 1) := by decide +kernel
set_option maxRecDepth 20000 in
theorem ggX0_colourOf_X7_need : GoodIn wsX0_colourOf wsX7_need := goodIn_ca (goodIn_r _ [7, 8, 9] (by decide +kernel) (by decide +kernel)) (goodIn_sub (fun _ h => List.mem_cons_of_mem _ (List.mem_append_right _ h)) (by decide +kernel))
set_option maxRecDepth 20000 in
theorem gX0_colourOf_X7_need : GoodIn wsX0_colourOf (wsV RX0 110 RX7 yX7_need wsX7_need) := goodIn_app (goodIn_of _ (by decide +kernel)) ggX0_colourOf_X7_need
theorem dX0_colourOf_0 : decode cX0_colourOf 0 = .ok (.aload_n 1, 1) := by decide +kernel
theorem dX0_colourOf_1 : decode cX0_colourOf 1 = .ok (.iload_n 2, 1) := by decide +kernel
theorem dX0_colourOf_2 : decode cX0_colourOf 2 = .ok (.aload_n 0, 1) := by decide +kernel
theorem dX0_colourOf_3 : decode cX0_colourOf 3 = .ok (.getfield 27, 3) := by decide +kernel
theorem dX0_colourOf_6 : decode cX0_colourOf 6 = .ok (.if_icmp .ge 7, 3) := by decide +kernel
theorem dX0_colourOf_9 : decode cX0_colourOf 9 = .ok (.iconst 1, 1) := by decide +kernel
theorem dX0_colourOf_10 : decode cX0_colourOf 10 = .ok (.goto 4, 3) := by decide +kernel
theorem dX0_colourOf_13 : decode cX0_colourOf 13 = .ok (.iconst 0, 1) := by decide +kernel
theorem dX0_colourOf_14 : decode cX0_colourOf 14 = .ok (.invokevirtual 110, 3) := by decide +kernel
theorem dX0_colourOf_17 : decode cX0_colourOf 17 = .ok (.aload_n 0, 1) := by decide +kernel
theorem dX0_colourOf_18 : decode cX0_colourOf 18 = .ok (.getfield 11, 3) := by decide +kernel
theorem dX0_colourOf_21 : decode cX0_colourOf 21 = .ok (.iload_n 2, 1) := by decide +kernel
theorem dX0_colourOf_22 : decode cX0_colourOf 22 = .ok (.iaload, 1) := by decide +kernel
theorem dX0_colourOf_23 : decode cX0_colourOf 23 = .ok (.ireturn, 1) := by decide +kernel
set_option maxRecDepth 20000 in
theorem ggX0_readPacked_X5_fill : GoodIn wsX0_readPacked wsX5_fill := goodIn_r _ [8, 9, 10, 11, 12, 13, 69, 70, 71] (by decide +kernel) (by decide +kernel)
set_option maxRecDepth 20000 in
theorem gX0_readPacked_X5_fill : GoodIn wsX0_readPacked (wsV RX0 147 RX5 yX5_fill wsX5_fill) := goodIn_app (goodIn_of _ (by decide +kernel)) ggX0_readPacked_X5_fill
set_option maxRecDepth 20000 in
theorem ggX0_readPacked_X7_next : GoodIn wsX0_readPacked wsX7_next := goodIn_ca (goodIn_r _ [18, 19, 20, 21, 22, 72, 73, 74, 75] (by decide +kernel) (by decide +kernel)) (goodIn_sub (fun _ h => List.mem_cons_of_mem _ (List.mem_append_left _ (List.mem_append_right _ h))) (by decide +kernel))
set_option maxRecDepth 20000 in
theorem gX0_readPacked_X7_next : GoodIn wsX0_readPacked (wsV RX0 136 RX7 yX7_next wsX7_next) := goodIn_app (goodIn_of _ (by decide +kernel)) ggX0_readPacked_X7_next
set_option maxRecDepth 20000 in
theorem ggX0_readPacked_X0_obey : GoodIn wsX0_readPacked wsX0_obey := goodIn_ca (goodIn_ca (goodIn_r _ [27, 3, 2, 28, 29, 30, 26, 31, 32, 33, 34, 17, 35, 36, 37, 14, 15, 16, 18, 19, 20, 21, 22, 38, 39, 40, 41, 42, 43, 44, 7, 45, 46, 47, 48, 49, 50, 51, 52, 1, 53, 54, 55, 56, 9, 57, 58, 59, 60, 61, 62, 63, 64, 65, 66, 67, 68, 69, 70, 71, 72, 73, 74, 75] (by decide +kernel) (by decide +kernel)) (goodIn_sub (fun _ h => List.mem_cons_of_mem _ (List.mem_append_right _ h)) (by decide +kernel))) (goodIn_sub (fun _ h => List.mem_cons_of_mem _ (List.mem_append_left _ (List.mem_append_right _ h))) (by decide +kernel))
set_option maxRecDepth 20000 in
theorem gX0_readPacked_X0_obey : GoodIn wsX0_readPacked (wsV RX0 156 RX0 yX0_obey wsX0_obey) := goodIn_app (goodIn_of _ (by decide +kernel)) ggX0_readPacked_X0_obey
set_option maxRecDepth 20000 in
theorem ggX0_readPacked_X0_paint : GoodIn wsX0_readPacked wsX0_paint := goodIn_ca (goodIn_r _ [41, 3, 2, 42, 43, 44, 7, 45, 46, 47, 32, 33, 34, 17, 35, 36, 37, 48, 49, 50, 26, 51, 52, 1, 53, 54, 55, 56, 9, 69, 70, 71, 62, 63, 64, 65, 66, 67, 68] (by decide +kernel) (by decide +kernel)) (goodIn_sub (fun _ h => List.mem_cons_of_mem _ (List.mem_append_right _ h)) (by decide +kernel))
set_option maxRecDepth 20000 in
theorem gX0_readPacked_X0_paint : GoodIn wsX0_readPacked (wsV RX0 160 RX0 yX0_paint wsX0_paint) := goodIn_app (goodIn_of _ (by decide +kernel)) ggX0_readPacked_X0_paint
theorem dX0_readPacked_0 : decode cX0_readPacked 0 = .ok (.aload_n 2, 1) := by decide +kernel
theorem dX0_readPacked_1 : decode cX0_readPacked 1 = .ok (.aload_n 0, 1) := by decide +kernel
theorem dX0_readPacked_2 : decode cX0_readPacked 2 = .ok (.getfield 11, 3) := by decide +kernel
theorem dX0_readPacked_5 : decode cX0_readPacked 5 = .ok (.iconst 0, 1) := by decide +kernel
theorem dX0_readPacked_6 : decode cX0_readPacked 6 = .ok (.iaload, 1) := by decide +kernel
theorem dX0_readPacked_7 : decode cX0_readPacked 7 = .ok (.invokevirtual 147, 3) := by decide +kernel
theorem dX0_readPacked_10 : decode cX0_readPacked 10 = .ok (.aload_n 0, 1) := by decide +kernel
theorem dX0_readPacked_11 : decode cX0_readPacked 11 = .ok (.iconst 0, 1) := by decide +kernel
theorem dX0_readPacked_12 : decode cX0_readPacked 12 = .ok (.putfield 150, 3) := by decide +kernel
theorem dX0_readPacked_15 : decode cX0_readPacked 15 = .ok (.aload_n 0, 1) := by decide +kernel
theorem dX0_readPacked_16 : decode cX0_readPacked 16 = .ok (.iconst 0, 1) := by decide +kernel
theorem dX0_readPacked_17 : decode cX0_readPacked 17 = .ok (.putfield 153, 3) := by decide +kernel
theorem dX0_readPacked_20 : decode cX0_readPacked 20 = .ok (.iconst 0, 1) := by decide +kernel
theorem dX0_readPacked_21 : decode cX0_readPacked 21 = .ok (.istore_n 3, 1) := by decide +kernel
theorem dX0_readPacked_22 : decode cX0_readPacked 22 = .ok (.iload_n 3, 1) := by decide +kernel
theorem dX0_readPacked_23 : decode cX0_readPacked 23 = .ok (.sipush 800, 3) := by decide +kernel
theorem dX0_readPacked_26 : decode cX0_readPacked 26 = .ok (.if_icmp .ge 73, 3) := by decide +kernel
theorem dX0_readPacked_29 : decode cX0_readPacked 29 = .ok (.aload_n 1, 1) := by decide +kernel
theorem dX0_readPacked_30 : decode cX0_readPacked 30 = .ok (.invokevirtual 136, 3) := by decide +kernel
theorem dX0_readPacked_33 : decode cX0_readPacked 33 = .ok (.istore 4, 2) := by decide +kernel
theorem dX0_readPacked_35 : decode cX0_readPacked 35 = .ok (.aload_n 1, 1) := by decide +kernel
theorem dX0_readPacked_36 : decode cX0_readPacked 36 = .ok (.invokevirtual 136, 3) := by decide +kernel
theorem dX0_readPacked_39 : decode cX0_readPacked 39 = .ok (.istore 5, 2) := by decide +kernel
theorem dX0_readPacked_41 : decode cX0_readPacked 41 = .ok (.iload 4, 2) := by decide +kernel
theorem dX0_readPacked_43 : decode cX0_readPacked 43 = .ok (.ifCond .ne 10, 3) := by decide +kernel
theorem dX0_readPacked_46 : decode cX0_readPacked 46 = .ok (.iload 5, 2) := by decide +kernel
theorem dX0_readPacked_48 : decode cX0_readPacked 48 = .ok (.iconst 1, 1) := by decide +kernel
theorem dX0_readPacked_49 : decode cX0_readPacked 49 = .ok (.if_icmp .ne 4, 3) := by decide +kernel
theorem dX0_readPacked_52 : decode cX0_readPacked 52 = .ok (.return_, 1) := by decide +kernel
theorem dX0_readPacked_53 : decode cX0_readPacked 53 = .ok (.iload 4, 2) := by decide +kernel
theorem dX0_readPacked_55 : decode cX0_readPacked 55 = .ok (.ifCond .ne 14, 3) := by decide +kernel
theorem dX0_readPacked_58 : decode cX0_readPacked 58 = .ok (.aload_n 0, 1) := by decide +kernel
theorem dX0_readPacked_59 : decode cX0_readPacked 59 = .ok (.iload 5, 2) := by decide +kernel
theorem dX0_readPacked_61 : decode cX0_readPacked 61 = .ok (.aload_n 1, 1) := by decide +kernel
theorem dX0_readPacked_62 : decode cX0_readPacked 62 = .ok (.aload_n 2, 1) := by decide +kernel
theorem dX0_readPacked_63 : decode cX0_readPacked 63 = .ok (.invokevirtual 156, 3) := by decide +kernel
theorem dX0_readPacked_66 : decode cX0_readPacked 66 = .ok (.goto 27, 3) := by decide +kernel
theorem dX0_readPacked_69 : decode cX0_readPacked 69 = .ok (.iconst 0, 1) := by decide +kernel
theorem dX0_readPacked_70 : decode cX0_readPacked 70 = .ok (.istore 6, 2) := by decide +kernel
theorem dX0_readPacked_72 : decode cX0_readPacked 72 = .ok (.iload 6, 2) := by decide +kernel
theorem dX0_readPacked_74 : decode cX0_readPacked 74 = .ok (.iload 4, 2) := by decide +kernel
theorem dX0_readPacked_76 : decode cX0_readPacked 76 = .ok (.if_icmp .ge 17, 3) := by decide +kernel
theorem dX0_readPacked_79 : decode cX0_readPacked 79 = .ok (.aload_n 0, 1) := by decide +kernel
theorem dX0_readPacked_80 : decode cX0_readPacked 80 = .ok (.iload 5, 2) := by decide +kernel
theorem dX0_readPacked_82 : decode cX0_readPacked 82 = .ok (.aload_n 1, 1) := by decide +kernel
theorem dX0_readPacked_83 : decode cX0_readPacked 83 = .ok (.aload_n 2, 1) := by decide +kernel
theorem dX0_readPacked_84 : decode cX0_readPacked 84 = .ok (.invokevirtual 160, 3) := by decide +kernel
theorem dX0_readPacked_87 : decode cX0_readPacked 87 = .ok (.iinc 6 1, 3) := by decide +kernel
theorem dX0_readPacked_90 : decode cX0_readPacked 90 = .ok (.goto (-18), 3) := by decide +kernel
theorem dX0_readPacked_93 : decode cX0_readPacked 93 = .ok (.iinc 3 1, 3) := by decide +kernel
theorem dX0_readPacked_96 : decode cX0_readPacked 96 = .ok (.goto (-74), 3) := by decide +kernel
theorem dX0_readPacked_99 : decode cX0_readPacked 99 = .ok (.return_, 1) := by decide +kernel
set_option maxRecDepth 20000 in
theorem ggX0_obey_X0_goTo : GoodIn wsX0_obey wsX0_goTo := goodIn_ca (goodIn_r _ [7, 2, 1, 8, 9, 10, 11, 12, 13, 14, 57, 58, 59, 50, 51, 52, 53, 54, 55, 56] (by decide +kernel) (by decide +kernel)) (goodIn_sub (fun _ h => List.mem_cons_of_mem _ (List.mem_append_left _ (List.mem_append_right _ h))) (by decide +kernel))
set_option maxRecDepth 20000 in
theorem gX0_obey_X0_goTo : GoodIn wsX0_obey (wsV RX0 163 RX0 yX0_goTo wsX0_goTo) := goodIn_app (goodIn_of _ (by decide +kernel)) ggX0_obey_X0_goTo
set_option maxRecDepth 20000 in
theorem ggX0_obey_X7_next : GoodIn wsX0_obey wsX7_next := goodIn_ca (goodIn_r _ [18, 19, 20, 21, 22, 60, 61, 62, 63] (by decide +kernel) (by decide +kernel)) (goodIn_sub (fun _ h => List.mem_cons_of_mem _ (List.mem_append_right _ h)) (by decide +kernel))
set_option maxRecDepth 20000 in
theorem gX0_obey_X7_next : GoodIn wsX0_obey (wsV RX0 136 RX7 yX7_next wsX7_next) := goodIn_app (goodIn_of _ (by decide +kernel)) ggX0_obey_X7_next
set_option maxRecDepth 20000 in
theorem ggX0_obey_X0_paint : GoodIn wsX0_obey wsX0_paint := goodIn_ca (goodIn_r _ [26, 1, 2, 27, 28, 29, 30, 31, 32, 33, 8, 9, 10, 11, 12, 13, 14, 34, 35, 36, 6, 37, 38, 39, 40, 41, 42, 43, 44, 57, 58, 59, 50, 51, 52, 53, 54, 55, 56] (by decide +kernel) (by decide +kernel)) (goodIn_sub (fun _ h => List.mem_cons_of_mem _ (List.mem_append_left _ (List.mem_append_right _ h))) (by decide +kernel))
set_option maxRecDepth 20000 in
theorem gX0_obey_X0_paint : GoodIn wsX0_obey (wsV RX0 160 RX0 yX0_paint wsX0_paint) := goodIn_app (goodIn_of _ (by decide +kernel)) ggX0_obey_X0_paint
set_option maxRecDepth 20000 in
theorem ggX0_obey_X7_pass : GoodIn wsX0_obey wsX7_pass := goodIn_ca (goodIn_r _ [48, 49, 16, 17, 11, 18, 19, 20, 21, 22, 60, 61, 62, 63] (by decide +kernel) (by decide +kernel)) (goodIn_sub (fun _ h => List.mem_cons_of_mem _ (List.mem_append_right _ h)) (by decide +kernel))
set_option maxRecDepth 20000 in
theorem gX0_obey_X7_pass : GoodIn wsX0_obey (wsV RX0 92 RX7 yX7_pass wsX7_pass) := goodIn_app (goodIn_of _ (by decide +kernel)) ggX0_obey_X7_pass
theorem dX0_obey_0 : decode cX0_obey 0 = .ok (.iload_n 1, 1) := by decide +kernel
theorem dX0_obey_1 : decode cX0_obey 1 = .ok (.ifCond .ne 19, 3) := by decide +kernel
theorem dX0_obey_4 : decode cX0_obey 4 = .ok (.aload_n 0, 1) := by decide +kernel
theorem dX0_obey_5 : decode cX0_obey 5 = .ok (.iconst 0, 1) := by decide +kernel
theorem dX0_obey_6 : decode cX0_obey 6 = .ok (.aload_n 0, 1) := by decide +kernel
theorem dX0_obey_7 : decode cX0_obey 7 = .ok (.getfield 153, 3) := by decide +kernel
theorem dX0_obey_10 : decode cX0_obey 10 = .ok (.iconst 1, 1) := by decide +kernel
theorem dX0_obey_11 : decode cX0_obey 11 = .ok (.iadd, 1) := by decide +kernel
theorem dX0_obey_12 : decode cX0_obey 12 = .ok (.aload_n 2, 1) := by decide +kernel
theorem dX0_obey_13 : decode cX0_obey 13 = .ok (.aload_n 3, 1) := by decide +kernel
theorem dX0_obey_14 : decode cX0_obey 14 = .ok (.invokevirtual 163, 3) := by decide +kernel
theorem dX0_obey_17 : decode cX0_obey 17 = .ok (.goto 75, 3) := by decide +kernel
theorem dX0_obey_20 : decode cX0_obey 20 = .ok (.iload_n 1, 1) := by decide +kernel
theorem dX0_obey_21 : decode cX0_obey 21 = .ok (.iconst 2, 1) := by decide +kernel
theorem dX0_obey_22 : decode cX0_obey 22 = .ok (.if_icmp .ne 38, 3) := by decide +kernel
theorem dX0_obey_25 : decode cX0_obey 25 = .ok (.aload_n 2, 1) := by decide +kernel
theorem dX0_obey_26 : decode cX0_obey 26 = .ok (.invokevirtual 136, 3) := by decide +kernel
theorem dX0_obey_29 : decode cX0_obey 29 = .ok (.istore 4, 2) := by decide +kernel
theorem dX0_obey_31 : decode cX0_obey 31 = .ok (.aload_n 2, 1) := by decide +kernel
theorem dX0_obey_32 : decode cX0_obey 32 = .ok (.invokevirtual 136, 3) := by decide +kernel
theorem dX0_obey_35 : decode cX0_obey 35 = .ok (.istore 5, 2) := by decide +kernel
theorem dX0_obey_37 : decode cX0_obey 37 = .ok (.aload_n 0, 1) := by decide +kernel
theorem dX0_obey_38 : decode cX0_obey 38 = .ok (.aload_n 0, 1) := by decide +kernel
theorem dX0_obey_39 : decode cX0_obey 39 = .ok (.getfield 150, 3) := by decide +kernel
theorem dX0_obey_42 : decode cX0_obey 42 = .ok (.iload 4, 2) := by decide +kernel
theorem dX0_obey_44 : decode cX0_obey 44 = .ok (.iadd, 1) := by decide +kernel
theorem dX0_obey_45 : decode cX0_obey 45 = .ok (.aload_n 0, 1) := by decide +kernel
theorem dX0_obey_46 : decode cX0_obey 46 = .ok (.getfield 153, 3) := by decide +kernel
theorem dX0_obey_49 : decode cX0_obey 49 = .ok (.iload 5, 2) := by decide +kernel
theorem dX0_obey_51 : decode cX0_obey 51 = .ok (.iadd, 1) := by decide +kernel
theorem dX0_obey_52 : decode cX0_obey 52 = .ok (.aload_n 2, 1) := by decide +kernel
theorem dX0_obey_53 : decode cX0_obey 53 = .ok (.aload_n 3, 1) := by decide +kernel
theorem dX0_obey_54 : decode cX0_obey 54 = .ok (.invokevirtual 163, 3) := by decide +kernel
theorem dX0_obey_57 : decode cX0_obey 57 = .ok (.goto 35, 3) := by decide +kernel
theorem dX0_obey_60 : decode cX0_obey 60 = .ok (.iconst 0, 1) := by decide +kernel
theorem dX0_obey_61 : decode cX0_obey 61 = .ok (.istore 4, 2) := by decide +kernel
theorem dX0_obey_63 : decode cX0_obey 63 = .ok (.iload 4, 2) := by decide +kernel
theorem dX0_obey_65 : decode cX0_obey 65 = .ok (.iload_n 1, 1) := by decide +kernel
theorem dX0_obey_66 : decode cX0_obey 66 = .ok (.if_icmp .ge 19, 3) := by decide +kernel
theorem dX0_obey_69 : decode cX0_obey 69 = .ok (.aload_n 0, 1) := by decide +kernel
theorem dX0_obey_70 : decode cX0_obey 70 = .ok (.aload_n 2, 1) := by decide +kernel
theorem dX0_obey_71 : decode cX0_obey 71 = .ok (.invokevirtual 136, 3) := by decide +kernel
theorem dX0_obey_74 : decode cX0_obey 74 = .ok (.aload_n 2, 1) := by decide +kernel
theorem dX0_obey_75 : decode cX0_obey 75 = .ok (.aload_n 3, 1) := by decide +kernel
theorem dX0_obey_76 : decode cX0_obey 76 = .ok (.invokevirtual 160, 3) := by decide +kernel
theorem dX0_obey_79 : decode cX0_obey 79 = .ok (.iinc 4 1, 3) := by decide +kernel
theorem dX0_obey_82 : decode cX0_obey 82 = .ok (.goto (-19), 3) := by decide +kernel
theorem dX0_obey_85 : decode cX0_obey 85 = .ok (.aload_n 2, 1) := by decide +kernel
theorem dX0_obey_86 : decode cX0_obey 86 = .ok (.iload_n 1, 1) := by decide +kernel
theorem dX0_obey_87 : decode cX0_obey 87 = .ok (.iconst 2, 1) := by decide +kernel
theorem dX0_obey_88 : decode cX0_obey 88 = .ok (.irem, 1) := by decide +kernel
theorem dX0_obey_89 : decode cX0_obey 89 = .ok (.invokevirtual 92, 3) := by decide +kernel
theorem dX0_obey_92 : decode cX0_obey 92 = .ok (.return_, 1) := by decide +kernel
set_option maxRecDepth 20000 in
theorem ggX0_goTo_X7_need : GoodIn wsX0_goTo wsX7_need := goodIn_ca (goodIn_r _ [7, 8, 9] (by decide +kernel) (by decide +kernel)) (goodIn_sub (fun _ h => List.mem_cons_of_mem _ (List.mem_append_right _ h)) (by decide +kernel))
set_option maxRecDepth 20000 in
theorem gX0_goTo_X7_need : GoodIn wsX0_goTo (wsV RX0 110 RX7 yX7_need wsX7_need) := goodIn_app (goodIn_of _ (by decide +kernel)) ggX0_goTo_X7_need
theorem dX0_goTo_0 : decode cX0_goTo 0 = .ok (.aload_n 3, 1) := by decide +kernel
theorem dX0_goTo_1 : decode cX0_goTo 1 = .ok (.iload_n 1, 1) := by decide +kernel
theorem dX0_goTo_2 : decode cX0_goTo 2 = .ok (.aload 4, 2) := by decide +kernel
theorem dX0_goTo_4 : decode cX0_goTo 4 = .ok (.getfield 77, 3) := by decide +kernel
theorem dX0_goTo_7 : decode cX0_goTo 7 = .ok (.if_icmp .gt 16, 3) := by decide +kernel
theorem dX0_goTo_10 : decode cX0_goTo 10 = .ok (.iload_n 2, 1) := by decide +kernel
theorem dX0_goTo_11 : decode cX0_goTo 11 = .ok (.aload 4, 2) := by decide +kernel
theorem dX0_goTo_13 : decode cX0_goTo 13 = .ok (.getfield 47, 3) := by decide +kernel
theorem dX0_goTo_16 : decode cX0_goTo 16 = .ok (.if_icmp .gt 7, 3) := by decide +kernel
theorem dX0_goTo_19 : decode cX0_goTo 19 = .ok (.iconst 1, 1) := by decide +kernel
theorem dX0_goTo_20 : decode cX0_goTo 20 = .ok (.goto 4, 3) := by decide +kernel
theorem dX0_goTo_23 : decode cX0_goTo 23 = .ok (.iconst 0, 1) := by decide +kernel
theorem dX0_goTo_24 : decode cX0_goTo 24 = .ok (.invokevirtual 110, 3) := by decide +kernel
theorem dX0_goTo_27 : decode cX0_goTo 27 = .ok (.aload_n 0, 1) := by decide +kernel
theorem dX0_goTo_28 : decode cX0_goTo 28 = .ok (.iload_n 1, 1) := by decide +kernel
theorem dX0_goTo_29 : decode cX0_goTo 29 = .ok (.putfield 150, 3) := by decide +kernel
theorem dX0_goTo_32 : decode cX0_goTo 32 = .ok (.aload_n 0, 1) := by decide +kernel
theorem dX0_goTo_33 : decode cX0_goTo 33 = .ok (.iload_n 2, 1) := by decide +kernel
theorem dX0_goTo_34 : decode cX0_goTo 34 = .ok (.putfield 153, 3) := by decide +kernel
theorem dX0_goTo_37 : decode cX0_goTo 37 = .ok (.return_, 1) := by decide +kernel
set_option maxRecDepth 20000 in
theorem ggX0_paint_X5_has : GoodIn wsX0_paint wsX5_has := goodIn_r _ [7, 8, 9, 29, 30, 31] (by decide +kernel) (by decide +kernel)
set_option maxRecDepth 20000 in
theorem gX0_paint_X5_has : GoodIn wsX0_paint (wsV RX0 167 RX5 yX5_has wsX5_has) := goodIn_app (goodIn_of _ (by decide +kernel)) ggX0_paint_X5_has
set_option maxRecDepth 20000 in
theorem ggX0_paint_X7_need : GoodIn wsX0_paint wsX7_need := goodIn_ca (goodIn_r _ [14, 15, 16] (by decide +kernel) (by decide +kernel)) (goodIn_sub (fun _ h => List.mem_cons_of_mem _ (List.mem_append_right _ h)) (by decide +kernel))
set_option maxRecDepth 20000 in
theorem gX0_paint_X7_need : GoodIn wsX0_paint (wsV RX0 110 RX7 yX7_need wsX7_need) := goodIn_app (goodIn_of _ (by decide +kernel)) ggX0_paint_X7_need
set_option maxRecDepth 20000 in
theorem ggX0_paint_X0_colourOf : GoodIn wsX0_paint wsX0_colourOf := goodIn_ca (goodIn_r _ [21, 22, 23, 10, 11, 12, 13, 14, 15, 16, 32, 33, 34, 35, 36, 37, 38] (by decide +kernel) (by decide +kernel)) (goodIn_sub (fun _ h => List.mem_cons_of_mem _ (List.mem_append_right _ h)) (by decide +kernel))
set_option maxRecDepth 20000 in
theorem gX0_paint_X0_colourOf : GoodIn wsX0_paint (wsV RX0 139 RX0 yX0_colourOf wsX0_colourOf) := goodIn_app (goodIn_of _ (by decide +kernel)) ggX0_paint_X0_colourOf
set_option maxRecDepth 20000 in
theorem ggX0_paint_X5_set : GoodIn wsX0_paint wsX5_set := goodIn_r _ [27, 28, 8, 29, 30, 31] (by decide +kernel) (by decide +kernel)
set_option maxRecDepth 20000 in
theorem gX0_paint_X5_set : GoodIn wsX0_paint (wsV RX0 143 RX5 yX5_set wsX5_set) := goodIn_app (goodIn_of _ (by decide +kernel)) ggX0_paint_X5_set
theorem dX0_paint_0 : decode cX0_paint 0 = .ok (.aload_n 3, 1) := by decide +kernel
theorem dX0_paint_1 : decode cX0_paint 1 = .ok (.getfield 47, 3) := by decide +kernel
theorem dX0_paint_4 : decode cX0_paint 4 = .ok (.iconst 1, 1) := by decide +kernel
theorem dX0_paint_5 : decode cX0_paint 5 = .ok (.isub, 1) := by decide +kernel
theorem dX0_paint_6 : decode cX0_paint 6 = .ok (.aload_n 0, 1) := by decide +kernel
theorem dX0_paint_7 : decode cX0_paint 7 = .ok (.getfield 153, 3) := by decide +kernel
theorem dX0_paint_10 : decode cX0_paint 10 = .ok (.isub, 1) := by decide +kernel
theorem dX0_paint_11 : decode cX0_paint 11 = .ok (.istore 4, 2) := by decide +kernel
theorem dX0_paint_13 : decode cX0_paint 13 = .ok (.aload_n 2, 1) := by decide +kernel
theorem dX0_paint_14 : decode cX0_paint 14 = .ok (.aload_n 3, 1) := by decide +kernel
theorem dX0_paint_15 : decode cX0_paint 15 = .ok (.aload_n 0, 1) := by decide +kernel
theorem dX0_paint_16 : decode cX0_paint 16 = .ok (.getfield 150, 3) := by decide +kernel
theorem dX0_paint_19 : decode cX0_paint 19 = .ok (.iload 4, 2) := by decide +kernel
theorem dX0_paint_21 : decode cX0_paint 21 = .ok (.invokevirtual 167, 3) := by decide +kernel
theorem dX0_paint_24 : decode cX0_paint 24 = .ok (.invokevirtual 110, 3) := by decide +kernel
theorem dX0_paint_27 : decode cX0_paint 27 = .ok (.aload_n 3, 1) := by decide +kernel
theorem dX0_paint_28 : decode cX0_paint 28 = .ok (.aload_n 0, 1) := by decide +kernel
theorem dX0_paint_29 : decode cX0_paint 29 = .ok (.getfield 150, 3) := by decide +kernel
theorem dX0_paint_32 : decode cX0_paint 32 = .ok (.iload 4, 2) := by decide +kernel
theorem dX0_paint_34 : decode cX0_paint 34 = .ok (.aload_n 0, 1) := by decide +kernel
theorem dX0_paint_35 : decode cX0_paint 35 = .ok (.aload_n 2, 1) := by decide +kernel
theorem dX0_paint_36 : decode cX0_paint 36 = .ok (.iload_n 1, 1) := by decide +kernel
theorem dX0_paint_37 : decode cX0_paint 37 = .ok (.invokevirtual 139, 3) := by decide +kernel
theorem dX0_paint_40 : decode cX0_paint 40 = .ok (.invokevirtual 143, 3) := by decide +kernel
theorem dX0_paint_43 : decode cX0_paint 43 = .ok (.aload_n 0, 1) := by decide +kernel
theorem dX0_paint_44 : decode cX0_paint 44 = .ok (.dup, 1) := by decide +kernel
theorem dX0_paint_45 : decode cX0_paint 45 = .ok (.getfield 150, 3) := by decide +kernel
theorem dX0_paint_48 : decode cX0_paint 48 = .ok (.iconst 1, 1) := by decide +kernel
theorem dX0_paint_49 : decode cX0_paint 49 = .ok (.iadd, 1) := by decide +kernel
theorem dX0_paint_50 : decode cX0_paint 50 = .ok (.putfield 150, 3) := by decide +kernel
theorem dX0_paint_53 : decode cX0_paint 53 = .ok (.return_, 1) := by decide +kernel
set_option maxRecDepth 20000 in
theorem ggX1_init_X3_init : GoodIn wsX1_init wsX3_init := goodIn_r _ [5, 6, 7, 8] (by decide +kernel) (by decide +kernel)
set_option maxRecDepth 20000 in
theorem gX1_init_X3_init_n1 : GoodIn wsX1_init (wsX3_init) := ggX1_init_X3_init
theorem dX1_init_0 : decode cX1_init 0 = .ok (.aload_n 0, 1) := by decide +kernel
theorem dX1_init_1 : decode cX1_init 1 = .ok (.invokespecial 1, 3) := by decide +kernel
theorem dX1_init_4 : decode cX1_init 4 = .ok (.aload_n 0, 1) := by decide +kernel
theorem dX1_init_5 : decode cX1_init 5 = .ok (.bipush 64, 2) := by decide +kernel
theorem dX1_init_7 : decode cX1_init 7 = .ok (.newarray .int, 2) := by decide +kernel
theorem dX1_init_9 : decode cX1_init 9 = .ok (.putfield 9, 3) := by decide +kernel
theorem dX1_init_12 : decode cX1_init 12 = .ok (.return_, 1) := by decide +kernel
set_option maxRecDepth 20000 in
theorem ggX1_forget_J7_fill_53178 : GoodIn wsX1_forget wsJ7_fill_53178 := goodIn_r _ [6] (by decide +kernel) (by decide +kernel)
set_option maxRecDepth 20000 in
theorem gX1_forget_J7_fill_53178 : GoodIn wsX1_forget (va_wsS RX1 13 yJ7_fill_53178 wsJ7_fill_53178) := goodIn_app (goodIn_of _ (by decide +kernel)) ggX1_forget_J7_fill_53178
set_option maxRecDepth 20000 in
theorem ggX1_forget_X8_opaque : GoodIn wsX1_forget wsX8_opaque := goodIn_r _ [9, 10, 11, 8, 12] (by decide +kernel) (by decide +kernel)
set_option maxRecDepth 20000 in
theorem gX1_forget_X8_opaque_n19 : GoodIn wsX1_forget (wsX8_opaque) := ggX1_forget_X8_opaque
theorem dX1_forget_0 : decode cX1_forget 0 = .ok (.aload_n 0, 1) := by decide +kernel
theorem dX1_forget_1 : decode cX1_forget 1 = .ok (.getfield 9, 3) := by decide +kernel
theorem dX1_forget_4 : decode cX1_forget 4 = .ok (.iconst 0, 1) := by decide +kernel
theorem dX1_forget_5 : decode cX1_forget 5 = .ok (.invokestatic 13, 3) := by decide +kernel
theorem dX1_forget_8 : decode cX1_forget 8 = .ok (.aload_n 0, 1) := by decide +kernel
theorem dX1_forget_9 : decode cX1_forget 9 = .ok (.iconst 0, 1) := by decide +kernel
theorem dX1_forget_10 : decode cX1_forget 10 = .ok (.iconst 0, 1) := by decide +kernel
theorem dX1_forget_11 : decode cX1_forget 11 = .ok (.iconst 0, 1) := by decide +kernel
theorem dX1_forget_12 : decode cX1_forget 12 = .ok (.invokestatic 19, 3) := by decide +kernel
theorem dX1_forget_15 : decode cX1_forget 15 = .ok (.putfield 25, 3) := by decide +kernel
theorem dX1_forget_18 : decode cX1_forget 18 = .ok (.return_, 1) := by decide +kernel
set_option maxRecDepth 20000 in
theorem ggX1_placeOf_X8_red : GoodIn wsX1_placeOf wsX8_red := goodIn_r _ [3] (by decide +kernel) (by decide +kernel)
set_option maxRecDepth 20000 in
theorem gX1_placeOf_X8_red_n29 : GoodIn wsX1_placeOf (wsX8_red) := ggX1_placeOf_X8_red
set_option maxRecDepth 20000 in
theorem ggX1_placeOf_X8_green : GoodIn wsX1_placeOf wsX8_green := goodIn_r _ [5] (by decide +kernel) (by decide +kernel)
set_option maxRecDepth 20000 in
theorem gX1_placeOf_X8_green_n33 : GoodIn wsX1_placeOf (wsX8_green) := ggX1_placeOf_X8_green
set_option maxRecDepth 20000 in
theorem ggX1_placeOf_X8_blue : GoodIn wsX1_placeOf wsX8_blue := goodIn_r _ [7] (by decide +kernel) (by decide +kernel)
set_option maxRecDepth 20000 in
theorem gX1_placeOf_X8_blue_n36 : GoodIn wsX1_placeOf (wsX8_blue) := ggX1_placeOf_X8_blue
set_option maxRecDepth 20000 in
theorem ggX1_placeOf_X8_alpha : GoodIn wsX1_placeOf wsX8_alpha := goodIn_r _ [9] (by decide +kernel) (by decide +kernel)
set_option maxRecDepth 20000 in
theorem gX1_placeOf_X8_alpha_n39 : GoodIn wsX1_placeOf (wsX8_alpha) := ggX1_placeOf_X8_alpha
theorem dX1_placeOf_0 : decode cX1_placeOf 0 = .ok (.iconst 3, 1) := by decide +kernel
theorem dX1_placeOf_1 : decode cX1_placeOf 1 = .ok (.iload_n 0, 1) := by decide +kernel
theorem dX1_placeOf_2 : decode cX1_placeOf 2 = .ok (.invokestatic 29, 3) := by decide +kernel
theorem dX1_placeOf_5 : decode cX1_placeOf 5 = .ok (.imul, 1) := by decide +kernel
theorem dX1_placeOf_6 : decode cX1_placeOf 6 = .ok (.iconst 5, 1) := by decide +kernel
theorem dX1_placeOf_7 : decode cX1_placeOf 7 = .ok (.iload_n 0, 1) := by decide +kernel
theorem dX1_placeOf_8 : decode cX1_placeOf 8 = .ok (.invokestatic 33, 3) := by decide +kernel
theorem dX1_placeOf_11 : decode cX1_placeOf 11 = .ok (.imul, 1) := by decide +kernel
theorem dX1_placeOf_12 : decode cX1_placeOf 12 = .ok (.iadd, 1) := by decide +kernel
theorem dX1_placeOf_13 : decode cX1_placeOf 13 = .ok (.bipush 7, 2) := by decide +kernel
theorem dX1_placeOf_15 : decode cX1_placeOf 15 = .ok (.iload_n 0, 1) := by decide +kernel
theorem dX1_placeOf_16 : decode cX1_placeOf 16 = .ok (.invokestatic 36, 3) := by decide +kernel
theorem dX1_placeOf_19 : decode cX1_placeOf 19 = .ok (.imul, 1) := by decide +kernel
theorem dX1_placeOf_20 : decode cX1_placeOf 20 = .ok (.iadd, 1) := by decide +kernel
theorem dX1_placeOf_21 : decode cX1_placeOf 21 = .ok (.bipush 11, 2) := by decide +kernel
theorem dX1_placeOf_23 : decode cX1_placeOf 23 = .ok (.iload_n 0, 1) := by decide +kernel
theorem dX1_placeOf_24 : decode cX1_placeOf 24 = .ok (.invokestatic 39, 3) := by decide +kernel
theorem dX1_placeOf_27 : decode cX1_placeOf 27 = .ok (.imul, 1) := by decide +kernel
theorem dX1_placeOf_28 : decode cX1_placeOf 28 = .ok (.iadd, 1) := by decide +kernel
theorem dX1_placeOf_29 : decode cX1_placeOf 29 = .ok (.bipush 64, 2) := by decide +kernel
theorem dX1_placeOf_31 : decode cX1_placeOf 31 = .ok (.irem, 1) := by decide +kernel
theorem dX1_placeOf_32 : decode cX1_placeOf 32 = .ok (.ireturn, 1) := by decide +kernel
set_option maxRecDepth 20000 in
theorem ggX1_isThatOf_X2_at : GoodIn wsX1_isThatOf wsX2_at := goodIn_r _ [5, 6, 7, 8, 9] (by decide +kernel) (by decide +kernel)
set_option maxRecDepth 20000 in
theorem gX1_isThatOf_X2_at : GoodIn wsX1_isThatOf (wsV RX1 42 RX2 yX2_at wsX2_at) := goodIn_app (goodIn_of _ (by decide +kernel)) ggX1_isThatOf_X2_at
theorem dX1_isThatOf_0 : decode cX1_isThatOf 0 = .ok (.aload_n 1, 1) := by decide +kernel
theorem dX1_isThatOf_1 : decode cX1_isThatOf 1 = .ok (.iconst 0, 1) := by decide +kernel
theorem dX1_isThatOf_2 : decode cX1_isThatOf 2 = .ok (.invokevirtual 42, 3) := by decide +kernel
theorem dX1_isThatOf_5 : decode cX1_isThatOf 5 = .ok (.bipush 113, 2) := by decide +kernel
theorem dX1_isThatOf_7 : decode cX1_isThatOf 7 = .ok (.if_icmp .ne 37, 3) := by decide +kernel
theorem dX1_isThatOf_10 : decode cX1_isThatOf 10 = .ok (.aload_n 1, 1) := by decide +kernel
theorem dX1_isThatOf_11 : decode cX1_isThatOf 11 = .ok (.iconst 1, 1) := by decide +kernel
theorem dX1_isThatOf_12 : decode cX1_isThatOf 12 = .ok (.invokevirtual 42, 3) := by decide +kernel
theorem dX1_isThatOf_15 : decode cX1_isThatOf 15 = .ok (.bipush 111, 2) := by decide +kernel
theorem dX1_isThatOf_17 : decode cX1_isThatOf 17 = .ok (.if_icmp .ne 27, 3) := by decide +kernel
theorem dX1_isThatOf_20 : decode cX1_isThatOf 20 = .ok (.aload_n 1, 1) := by decide +kernel
theorem dX1_isThatOf_21 : decode cX1_isThatOf 21 = .ok (.iconst 2, 1) := by decide +kernel
theorem dX1_isThatOf_22 : decode cX1_isThatOf 22 = .ok (.invokevirtual 42, 3) := by decide +kernel
theorem dX1_isThatOf_25 : decode cX1_isThatOf 25 = .ok (.bipush 105, 2) := by decide +kernel
theorem dX1_isThatOf_27 : decode cX1_isThatOf 27 = .ok (.if_icmp .ne 17, 3) := by decide +kernel
theorem dX1_isThatOf_30 : decode cX1_isThatOf 30 = .ok (.aload_n 1, 1) := by decide +kernel
theorem dX1_isThatOf_31 : decode cX1_isThatOf 31 = .ok (.iconst 3, 1) := by decide +kernel
theorem dX1_isThatOf_32 : decode cX1_isThatOf 32 = .ok (.invokevirtual 42, 3) := by decide +kernel
theorem dX1_isThatOf_35 : decode cX1_isThatOf 35 = .ok (.bipush 102, 2) := by decide +kernel
theorem dX1_isThatOf_37 : decode cX1_isThatOf 37 = .ok (.if_icmp .ne 7, 3) := by decide +kernel
theorem dX1_isThatOf_40 : decode cX1_isThatOf 40 = .ok (.iconst 1, 1) := by decide +kernel
theorem dX1_isThatOf_41 : decode cX1_isThatOf 41 = .ok (.goto 4, 3) := by decide +kernel
theorem dX1_isThatOf_44 : decode cX1_isThatOf 44 = .ok (.iconst 0, 1) := by decide +kernel
theorem dX1_isThatOf_45 : decode cX1_isThatOf 45 = .ok (.ireturn, 1) := by decide +kernel
theorem dX1_canHold_0 : decode cX1_canHold 0 = .ok (.iconst 1, 1) := by decide +kernel
theorem dX1_canHold_1 : decode cX1_canHold 1 = .ok (.ireturn, 1) := by decide +kernel
set_option maxRecDepth 20000 in
theorem ggX1_write_X2_append : GoodIn wsX1_write wsX2_append := goodIn_r _ [5, 6, 7, 79, 80] (by decide +kernel) (by decide +kernel)
set_option maxRecDepth 20000 in
theorem gX1_write_X2_append : GoodIn wsX1_write (wsV RX1 47 RX2 yX2_append wsX2_append) := goodIn_app (goodIn_of _ (by decide +kernel)) ggX1_write_X2_append
set_option maxRecDepth 20000 in
theorem ggX1_write_X2_appendBig : GoodIn wsX1_write wsX2_appendBig := goodIn_r _ [11, 12, 2, 3, 4, 5, 6, 7, 79, 80] (by decide +kernel) (by decide +kernel)
set_option maxRecDepth 20000 in
theorem gX1_write_X2_appendBig : GoodIn wsX1_write (wsV RX1 56 RX2 yX2_appendBig wsX2_appendBig) := goodIn_app (goodIn_of _ (by decide +kernel)) ggX1_write_X2_appendBig
set_option maxRecDepth 20000 in
theorem ggX1_write_X5_isOpaque : GoodIn wsX1_write wsX5_isOpaque := goodIn_r _ [17, 18, 19, 20, 21, 16, 22, 23, 24, 25, 26, 27, 76, 77, 78] (by decide +kernel) (by decide +kernel)
set_option maxRecDepth 20000 in
theorem gX1_write_X5_isOpaque : GoodIn wsX1_write (wsV RX1 63 RX5 yX5_isOpaque wsX5_isOpaque) := goodIn_app (goodIn_of _ (by decide +kernel)) ggX1_write_X5_isOpaque
set_option maxRecDepth 20000 in
theorem ggX1_write_X1_writeChunks : GoodIn wsX1_write wsX1_writeChunks := goodIn_r _ [32, 33, 34, 35, 36, 31, 37, 38, 39, 40, 41, 42, 43, 26, 44, 45, 46, 47, 48, 20, 21, 16, 22, 23, 24, 1, 2, 3, 4, 5, 6, 7, 49, 50, 51, 52, 53, 54, 55, 56, 57, 58, 59, 60, 61, 25, 27, 62, 63, 64, 65, 66, 67, 68, 69, 70, 71, 8, 9, 10, 11, 12, 76, 77, 78, 81, 82, 79, 80] (by decide +kernel) (by decide +kernel)
set_option maxRecDepth 20000 in
theorem gX1_write_X1_writeChunks : GoodIn wsX1_write (wsV RX1 67 RX1 yX1_writeChunks wsX1_writeChunks) := goodIn_app (goodIn_of _ (by decide +kernel)) ggX1_write_X1_writeChunks
set_option maxRecDepth 20000 in
theorem ggX1_write_X2_appendZeros : GoodIn wsX1_write wsX2_appendZeros := goodIn_r _ [75, 12, 2, 3, 4, 5, 6, 7, 79, 80] (by decide +kernel) (by decide +kernel)
set_option maxRecDepth 20000 in
theorem gX1_write_X2_appendZeros : GoodIn wsX1_write (wsV RX1 71 RX2 yX2_appendZeros wsX2_appendZeros) := goodIn_app (goodIn_of _ (by decide +kernel)) ggX1_write_X2_appendZeros
theorem dX1_write_0 : decode cX1_write 0 = .ok (.aload_n 3, 1) := by decide +kernel
theorem dX1_write_1 : decode cX1_write 1 = .ok (.bipush 113, 2) := by decide +kernel
theorem dX1_write_3 : decode cX1_write 3 = .ok (.invokevirtual 47, 3) := by decide +kernel
theorem dX1_write_6 : decode cX1_write 6 = .ok (.pop, 1) := by decide +kernel
theorem dX1_write_7 : decode cX1_write 7 = .ok (.aload_n 3, 1) := by decide +kernel
theorem dX1_write_8 : decode cX1_write 8 = .ok (.bipush 111, 2) := by decide +kernel
theorem dX1_write_10 : decode cX1_write 10 = .ok (.invokevirtual 47, 3) := by decide +kernel
theorem dX1_write_13 : decode cX1_write 13 = .ok (.pop, 1) := by decide +kernel
theorem dX1_write_14 : decode cX1_write 14 = .ok (.aload_n 3, 1) := by decide +kernel
theorem dX1_write_15 : decode cX1_write 15 = .ok (.bipush 105, 2) := by decide +kernel
theorem dX1_write_17 : decode cX1_write 17 = .ok (.invokevirtual 47, 3) := by decide +kernel
theorem dX1_write_20 : decode cX1_write 20 = .ok (.pop, 1) := by decide +kernel
theorem dX1_write_21 : decode cX1_write 21 = .ok (.aload_n 3, 1) := by decide +kernel
theorem dX1_write_22 : decode cX1_write 22 = .ok (.bipush 102, 2) := by decide +kernel
theorem dX1_write_24 : decode cX1_write 24 = .ok (.invokevirtual 47, 3) := by decide +kernel
theorem dX1_write_27 : decode cX1_write 27 = .ok (.pop, 1) := by decide +kernel
theorem dX1_write_28 : decode cX1_write 28 = .ok (.aload_n 3, 1) := by decide +kernel
theorem dX1_write_29 : decode cX1_write 29 = .ok (.iconst 4, 1) := by decide +kernel
theorem dX1_write_30 : decode cX1_write 30 = .ok (.aload_n 1, 1) := by decide +kernel
theorem dX1_write_31 : decode cX1_write 31 = .ok (.getfield 51, 3) := by decide +kernel
theorem dX1_write_34 : decode cX1_write 34 = .ok (.invokevirtual 56, 3) := by decide +kernel
theorem dX1_write_37 : decode cX1_write 37 = .ok (.aload_n 3, 1) := by decide +kernel
theorem dX1_write_38 : decode cX1_write 38 = .ok (.iconst 4, 1) := by decide +kernel
theorem dX1_write_39 : decode cX1_write 39 = .ok (.aload_n 1, 1) := by decide +kernel
theorem dX1_write_40 : decode cX1_write 40 = .ok (.getfield 60, 3) := by decide +kernel
theorem dX1_write_43 : decode cX1_write 43 = .ok (.invokevirtual 56, 3) := by decide +kernel
theorem dX1_write_46 : decode cX1_write 46 = .ok (.aload_n 3, 1) := by decide +kernel
theorem dX1_write_47 : decode cX1_write 47 = .ok (.aload_n 1, 1) := by decide +kernel
theorem dX1_write_48 : decode cX1_write 48 = .ok (.invokevirtual 63, 3) := by decide +kernel
theorem dX1_write_51 : decode cX1_write 51 = .ok (.ifCond .eq 7, 3) := by decide +kernel
theorem dX1_write_54 : decode cX1_write 54 = .ok (.iconst 3, 1) := by decide +kernel
theorem dX1_write_55 : decode cX1_write 55 = .ok (.goto 4, 3) := by decide +kernel
theorem dX1_write_58 : decode cX1_write 58 = .ok (.iconst 4, 1) := by decide +kernel
theorem dX1_write_59 : decode cX1_write 59 = .ok (.invokevirtual 47, 3) := by decide +kernel
theorem dX1_write_62 : decode cX1_write 62 = .ok (.pop, 1) := by decide +kernel
theorem dX1_write_63 : decode cX1_write 63 = .ok (.aload_n 3, 1) := by decide +kernel
theorem dX1_write_64 : decode cX1_write 64 = .ok (.iconst 0, 1) := by decide +kernel
theorem dX1_write_65 : decode cX1_write 65 = .ok (.invokevirtual 47, 3) := by decide +kernel
theorem dX1_write_68 : decode cX1_write 68 = .ok (.pop, 1) := by decide +kernel
theorem dX1_write_69 : decode cX1_write 69 = .ok (.aload_n 0, 1) := by decide +kernel
theorem dX1_write_70 : decode cX1_write 70 = .ok (.aload_n 1, 1) := by decide +kernel
theorem dX1_write_71 : decode cX1_write 71 = .ok (.aload_n 3, 1) := by decide +kernel
theorem dX1_write_72 : decode cX1_write 72 = .ok (.invokevirtual 67, 3) := by decide +kernel
theorem dX1_write_75 : decode cX1_write 75 = .ok (.aload_n 3, 1) := by decide +kernel
theorem dX1_write_76 : decode cX1_write 76 = .ok (.bipush 7, 2) := by decide +kernel
theorem dX1_write_78 : decode cX1_write 78 = .ok (.invokevirtual 71, 3) := by decide +kernel
theorem dX1_write_81 : decode cX1_write 81 = .ok (.aload_n 3, 1) := by decide +kernel
theorem dX1_write_82 : decode cX1_write 82 = .ok (.iconst 1, 1) := by decide +kernel
theorem dX1_write_83 : decode cX1_write 83 = .ok (.invokevirtual 47, 3) := by decide +kernel
theorem dX1_write_86 : decode cX1_write 86 = .ok (.pop, 1) := by decide +kernel
theorem dX1_write_87 : decode cX1_write 87 = .ok (.return_, 1) := by decide +kernel
set_option maxRecDepth 20000 in
theorem ggX1_writeChunks_X1_forget : GoodIn wsX1_writeChunks wsX1_forget := goodIn_r _ [6, 7, 1, 8, 9, 10, 11, 12, 13, 14, 15, 16, 17, 65, 66] (by decide +kernel) (by decide +kernel)
set_option maxRecDepth 20000 in
theorem gX1_writeChunks_X1_forget : GoodIn wsX1_writeChunks (wsV RX1 75 RX1 yX1_forget wsX1_forget) := goodIn_app (goodIn_of _ (by decide +kernel)) ggX1_writeChunks_X1_forget
set_option maxRecDepth 20000 in
theorem ggX1_writeChunks_X5_count : GoodIn wsX1_writeChunks wsX5_count := goodIn_r _ [22, 23, 24, 62, 63, 64] (by decide +kernel) (by decide +kernel)
set_option maxRecDepth 20000 in
theorem gX1_writeChunks_X5_count : GoodIn wsX1_writeChunks (wsV RX1 78 RX5 yX5_count wsX5_count) := goodIn_app (goodIn_of _ (by decide +kernel)) ggX1_writeChunks_X5_count
set_option maxRecDepth 20000 in
theorem ggX1_writeChunks_X2_append : GoodIn wsX1_writeChunks wsX2_append := goodIn_r _ [29, 30, 31, 67, 68] (by decide +kernel) (by decide +kernel)
set_option maxRecDepth 20000 in
theorem gX1_writeChunks_X2_append : GoodIn wsX1_writeChunks (wsV RX1 47 RX2 yX2_append wsX2_append) := goodIn_app (goodIn_of _ (by decide +kernel)) ggX1_writeChunks_X2_append
set_option maxRecDepth 20000 in
theorem ggX1_writeChunks_X1_writeOther : GoodIn wsX1_writeChunks wsX1_writeOther := goodIn_r _ [35, 7, 1, 36, 37, 5, 38, 39, 13, 40, 41, 42, 43, 44, 45, 46, 25, 26, 27, 28, 29, 30, 31, 47, 48, 49, 50, 51, 52, 53, 54, 55, 56, 57, 58, 59, 60, 61, 65, 66, 67, 68] (by decide +kernel) (by decide +kernel)
set_option maxRecDepth 20000 in
theorem gX1_writeChunks_X1_writeOther : GoodIn wsX1_writeChunks (wsV RX1 85 RX1 yX1_writeOther wsX1_writeOther) := goodIn_app (goodIn_of _ (by decide +kernel)) ggX1_writeChunks_X1_writeOther
theorem dX1_writeChunks_0 : decode cX1_writeChunks 0 = .ok (.aload_n 0, 1) := by decide +kernel
theorem dX1_writeChunks_1 : decode cX1_writeChunks 1 = .ok (.invokevirtual 75, 3) := by decide +kernel
theorem dX1_writeChunks_4 : decode cX1_writeChunks 4 = .ok (.iconst 0, 1) := by decide +kernel
theorem dX1_writeChunks_5 : decode cX1_writeChunks 5 = .ok (.istore_n 3, 1) := by decide +kernel
theorem dX1_writeChunks_6 : decode cX1_writeChunks 6 = .ok (.iconst 0, 1) := by decide +kernel
theorem dX1_writeChunks_7 : decode cX1_writeChunks 7 = .ok (.istore 4, 2) := by decide +kernel
theorem dX1_writeChunks_9 : decode cX1_writeChunks 9 = .ok (.iload 4, 2) := by decide +kernel
theorem dX1_writeChunks_11 : decode cX1_writeChunks 11 = .ok (.aload_n 1, 1) := by decide +kernel
theorem dX1_writeChunks_12 : decode cX1_writeChunks 12 = .ok (.invokevirtual 78, 3) := by decide +kernel
theorem dX1_writeChunks_15 : decode cX1_writeChunks 15 = .ok (.if_icmp .ge 83, 3) := by decide +kernel
theorem dX1_writeChunks_18 : decode cX1_writeChunks 18 = .ok (.aload_n 1, 1) := by decide +kernel
theorem dX1_writeChunks_19 : decode cX1_writeChunks 19 = .ok (.getfield 82, 3) := by decide +kernel
theorem dX1_writeChunks_22 : decode cX1_writeChunks 22 = .ok (.iload 4, 2) := by decide +kernel
theorem dX1_writeChunks_24 : decode cX1_writeChunks 24 = .ok (.iaload, 1) := by decide +kernel
theorem dX1_writeChunks_25 : decode cX1_writeChunks 25 = .ok (.istore 5, 2) := by decide +kernel
theorem dX1_writeChunks_27 : decode cX1_writeChunks 27 = .ok (.iload 5, 2) := by decide +kernel
theorem dX1_writeChunks_29 : decode cX1_writeChunks 29 = .ok (.aload_n 0, 1) := by decide +kernel
theorem dX1_writeChunks_30 : decode cX1_writeChunks 30 = .ok (.getfield 25, 3) := by decide +kernel
theorem dX1_writeChunks_33 : decode cX1_writeChunks 33 = .ok (.if_icmp .ne 6, 3) := by decide +kernel
theorem dX1_writeChunks_36 : decode cX1_writeChunks 36 = .ok (.iinc 3 1, 3) := by decide +kernel
theorem dX1_writeChunks_39 : decode cX1_writeChunks 39 = .ok (.iload_n 3, 1) := by decide +kernel
theorem dX1_writeChunks_40 : decode cX1_writeChunks 40 = .ok (.bipush 62, 2) := by decide +kernel
theorem dX1_writeChunks_42 : decode cX1_writeChunks 42 = .ok (.if_icmp .eq 16, 3) := by decide +kernel
theorem dX1_writeChunks_45 : decode cX1_writeChunks 45 = .ok (.iload_n 3, 1) := by decide +kernel
theorem dX1_writeChunks_46 : decode cX1_writeChunks 46 = .ok (.ifCond .le 24, 3) := by decide +kernel
theorem dX1_writeChunks_49 : decode cX1_writeChunks 49 = .ok (.iload 5, 2) := by decide +kernel
theorem dX1_writeChunks_51 : decode cX1_writeChunks 51 = .ok (.aload_n 0, 1) := by decide +kernel
theorem dX1_writeChunks_52 : decode cX1_writeChunks 52 = .ok (.getfield 25, 3) := by decide +kernel
theorem dX1_writeChunks_55 : decode cX1_writeChunks 55 = .ok (.if_icmp .eq 15, 3) := by decide +kernel
theorem dX1_writeChunks_58 : decode cX1_writeChunks 58 = .ok (.aload_n 2, 1) := by decide +kernel
theorem dX1_writeChunks_59 : decode cX1_writeChunks 59 = .ok (.sipush 191, 3) := by decide +kernel
theorem dX1_writeChunks_62 : decode cX1_writeChunks 62 = .ok (.iload_n 3, 1) := by decide +kernel
theorem dX1_writeChunks_63 : decode cX1_writeChunks 63 = .ok (.iadd, 1) := by decide +kernel
theorem dX1_writeChunks_64 : decode cX1_writeChunks 64 = .ok (.invokevirtual 47, 3) := by decide +kernel
theorem dX1_writeChunks_67 : decode cX1_writeChunks 67 = .ok (.pop, 1) := by decide +kernel
theorem dX1_writeChunks_68 : decode cX1_writeChunks 68 = .ok (.iconst 0, 1) := by decide +kernel
theorem dX1_writeChunks_69 : decode cX1_writeChunks 69 = .ok (.istore_n 3, 1) := by decide +kernel
theorem dX1_writeChunks_70 : decode cX1_writeChunks 70 = .ok (.iload 5, 2) := by decide +kernel
theorem dX1_writeChunks_72 : decode cX1_writeChunks 72 = .ok (.aload_n 0, 1) := by decide +kernel
theorem dX1_writeChunks_73 : decode cX1_writeChunks 73 = .ok (.getfield 25, 3) := by decide +kernel
theorem dX1_writeChunks_76 : decode cX1_writeChunks 76 = .ok (.if_icmp .eq 16, 3) := by decide +kernel
theorem dX1_writeChunks_79 : decode cX1_writeChunks 79 = .ok (.aload_n 0, 1) := by decide +kernel
theorem dX1_writeChunks_80 : decode cX1_writeChunks 80 = .ok (.iload 5, 2) := by decide +kernel
theorem dX1_writeChunks_82 : decode cX1_writeChunks 82 = .ok (.aload_n 2, 1) := by decide +kernel
theorem dX1_writeChunks_83 : decode cX1_writeChunks 83 = .ok (.invokevirtual 85, 3) := by decide +kernel
theorem dX1_writeChunks_86 : decode cX1_writeChunks 86 = .ok (.aload_n 0, 1) := by decide +kernel
theorem dX1_writeChunks_87 : decode cX1_writeChunks 87 = .ok (.iload 5, 2) := by decide +kernel
theorem dX1_writeChunks_89 : decode cX1_writeChunks 89 = .ok (.putfield 25, 3) := by decide +kernel
theorem dX1_writeChunks_92 : decode cX1_writeChunks 92 = .ok (.iinc 4 1, 3) := by decide +kernel
theorem dX1_writeChunks_95 : decode cX1_writeChunks 95 = .ok (.goto (-86), 3) := by decide +kernel
theorem dX1_writeChunks_98 : decode cX1_writeChunks 98 = .ok (.iload_n 3, 1) := by decide +kernel
theorem dX1_writeChunks_99 : decode cX1_writeChunks 99 = .ok (.ifCond .le 13, 3) := by decide +kernel
theorem dX1_writeChunks_102 : decode cX1_writeChunks 102 = .ok (.aload_n 2, 1) := by decide +kernel
theorem dX1_writeChunks_103 : decode cX1_writeChunks 103 = .ok (.sipush 191, 3) := by decide +kernel
theorem dX1_writeChunks_106 : decode cX1_writeChunks 106 = .ok (.iload_n 3, 1) := by decide +kernel
theorem dX1_writeChunks_107 : decode cX1_writeChunks 107 = .ok (.iadd, 1) := by decide +kernel
theorem dX1_writeChunks_108 : decode cX1_writeChunks 108 = .ok (.invokevirtual 47, 3) := by decide +kernel
theorem dX1_writeChunks_111 : decode cX1_writeChunks 111 = .ok (.pop, 1) := by decide +kernel
theorem dX1_writeChunks_112 : decode cX1_writeChunks 112 = .ok (.return_, 1) := by decide +kernel
set_option maxRecDepth 20000 in
theorem ggX1_writeOther_X1_placeOf : GoodIn wsX1_writeOther wsX1_placeOf := goodIn_r _ [6, 7, 8, 9, 10, 11, 12, 13, 14, 15] (by decide +kernel) (by decide +kernel)
set_option maxRecDepth 20000 in
theorem gX1_writeOther_X1_placeOf : GoodIn wsX1_writeOther (va_wsS RX1 89 yX1_placeOf wsX1_placeOf) := goodIn_app (goodIn_of _ (by decide +kernel)) ggX1_writeOther_X1_placeOf
set_option maxRecDepth 20000 in
theorem ggX1_writeOther_X2_append : GoodIn wsX1_writeOther wsX2_append := goodIn_r _ [20, 21, 22, 40, 41] (by decide +kernel) (by decide +kernel)
set_option maxRecDepth 20000 in
theorem gX1_writeOther_X2_append : GoodIn wsX1_writeOther (wsV RX1 47 RX2 yX2_append wsX2_append) := goodIn_app (goodIn_of _ (by decide +kernel)) ggX1_writeOther_X2_append
set_option maxRecDepth 20000 in
theorem ggX1_writeOther_X8_alpha : GoodIn wsX1_writeOther wsX8_alpha := goodIn_r _ [15] (by decide +kernel) (by decide +kernel)
set_option maxRecDepth 20000 in
theorem gX1_writeOther_X8_alpha_n39 : GoodIn wsX1_writeOther (wsX8_alpha) := ggX1_writeOther_X8_alpha
set_option maxRecDepth 20000 in
theorem ggX1_writeOther_X1_writeColours : GoodIn wsX1_writeOther wsX1_writeColours := goodIn_r _ [26, 2, 7, 8, 9, 27, 28, 5, 29, 10, 11, 12, 13, 30, 31, 32, 16, 17, 18, 19, 20, 21, 22, 33, 34, 35, 36, 37, 38, 39, 40, 41] (by decide +kernel) (by decide +kernel)
set_option maxRecDepth 20000 in
theorem gX1_writeOther_X1_writeColours : GoodIn wsX1_writeOther (wsV RX1 92 RX1 yX1_writeColours wsX1_writeColours) := goodIn_app (goodIn_of _ (by decide +kernel)) ggX1_writeOther_X1_writeColours
set_option maxRecDepth 20000 in
theorem ggX1_writeOther_X2_appendBig : GoodIn wsX1_writeOther wsX2_appendBig := goodIn_r _ [36, 37, 17, 18, 19, 20, 21, 22, 40, 41] (by decide +kernel) (by decide +kernel)
set_option maxRecDepth 20000 in
theorem gX1_writeOther_X2_appendBig : GoodIn wsX1_writeOther (wsV RX1 56 RX2 yX2_appendBig wsX2_appendBig) := goodIn_app (goodIn_of _ (by decide +kernel)) ggX1_writeOther_X2_appendBig
theorem dX1_writeOther_0 : decode cX1_writeOther 0 = .ok (.iload_n 1, 1) := by decide +kernel
theorem dX1_writeOther_1 : decode cX1_writeOther 1 = .ok (.invokestatic 89, 3) := by decide +kernel
theorem dX1_writeOther_4 : decode cX1_writeOther 4 = .ok (.istore_n 3, 1) := by decide +kernel
theorem dX1_writeOther_5 : decode cX1_writeOther 5 = .ok (.aload_n 0, 1) := by decide +kernel
theorem dX1_writeOther_6 : decode cX1_writeOther 6 = .ok (.getfield 9, 3) := by decide +kernel
theorem dX1_writeOther_9 : decode cX1_writeOther 9 = .ok (.iload_n 3, 1) := by decide +kernel
theorem dX1_writeOther_10 : decode cX1_writeOther 10 = .ok (.iaload, 1) := by decide +kernel
theorem dX1_writeOther_11 : decode cX1_writeOther 11 = .ok (.iload_n 1, 1) := by decide +kernel
theorem dX1_writeOther_12 : decode cX1_writeOther 12 = .ok (.if_icmp .ne 10, 3) := by decide +kernel
theorem dX1_writeOther_15 : decode cX1_writeOther 15 = .ok (.aload_n 2, 1) := by decide +kernel
theorem dX1_writeOther_16 : decode cX1_writeOther 16 = .ok (.iload_n 3, 1) := by decide +kernel
theorem dX1_writeOther_17 : decode cX1_writeOther 17 = .ok (.invokevirtual 47, 3) := by decide +kernel
theorem dX1_writeOther_20 : decode cX1_writeOther 20 = .ok (.pop, 1) := by decide +kernel
theorem dX1_writeOther_21 : decode cX1_writeOther 21 = .ok (.return_, 1) := by decide +kernel
theorem dX1_writeOther_22 : decode cX1_writeOther 22 = .ok (.aload_n 0, 1) := by decide +kernel
theorem dX1_writeOther_23 : decode cX1_writeOther 23 = .ok (.getfield 9, 3) := by decide +kernel
theorem dX1_writeOther_26 : decode cX1_writeOther 26 = .ok (.iload_n 3, 1) := by decide +kernel
theorem dX1_writeOther_27 : decode cX1_writeOther 27 = .ok (.iload_n 1, 1) := by decide +kernel
theorem dX1_writeOther_28 : decode cX1_writeOther 28 = .ok (.iastore, 1) := by decide +kernel
theorem dX1_writeOther_29 : decode cX1_writeOther 29 = .ok (.iload_n 1, 1) := by decide +kernel
theorem dX1_writeOther_30 : decode cX1_writeOther 30 = .ok (.invokestatic 39, 3) := by decide +kernel
theorem dX1_writeOther_33 : decode cX1_writeOther 33 = .ok (.aload_n 0, 1) := by decide +kernel
theorem dX1_writeOther_34 : decode cX1_writeOther 34 = .ok (.getfield 25, 3) := by decide +kernel
theorem dX1_writeOther_37 : decode cX1_writeOther 37 = .ok (.invokestatic 39, 3) := by decide +kernel
theorem dX1_writeOther_40 : decode cX1_writeOther 40 = .ok (.if_icmp .ne 12, 3) := by decide +kernel
theorem dX1_writeOther_43 : decode cX1_writeOther 43 = .ok (.aload_n 0, 1) := by decide +kernel
theorem dX1_writeOther_44 : decode cX1_writeOther 44 = .ok (.iload_n 1, 1) := by decide +kernel
theorem dX1_writeOther_45 : decode cX1_writeOther 45 = .ok (.aload_n 2, 1) := by decide +kernel
theorem dX1_writeOther_46 : decode cX1_writeOther 46 = .ok (.invokevirtual 92, 3) := by decide +kernel
theorem dX1_writeOther_49 : decode cX1_writeOther 49 = .ok (.goto 17, 3) := by decide +kernel
theorem dX1_writeOther_52 : decode cX1_writeOther 52 = .ok (.aload_n 2, 1) := by decide +kernel
theorem dX1_writeOther_53 : decode cX1_writeOther 53 = .ok (.sipush 255, 3) := by decide +kernel
theorem dX1_writeOther_56 : decode cX1_writeOther 56 = .ok (.invokevirtual 47, 3) := by decide +kernel
theorem dX1_writeOther_59 : decode cX1_writeOther 59 = .ok (.pop, 1) := by decide +kernel
theorem dX1_writeOther_60 : decode cX1_writeOther 60 = .ok (.aload_n 2, 1) := by decide +kernel
theorem dX1_writeOther_61 : decode cX1_writeOther 61 = .ok (.iconst 4, 1) := by decide +kernel
theorem dX1_writeOther_62 : decode cX1_writeOther 62 = .ok (.iload_n 1, 1) := by decide +kernel
theorem dX1_writeOther_63 : decode cX1_writeOther 63 = .ok (.invokevirtual 56, 3) := by decide +kernel
theorem dX1_writeOther_66 : decode cX1_writeOther 66 = .ok (.return_, 1) := by decide +kernel
set_option maxRecDepth 20000 in
theorem ggX1_writeColours_X8_red : GoodIn wsX1_writeColours wsX8_red := goodIn_r _ [4] (by decide +kernel) (by decide +kernel)
set_option maxRecDepth 20000 in
theorem gX1_writeColours_X8_red_n29 : GoodIn wsX1_writeColours (wsX8_red) := ggX1_writeColours_X8_red
set_option maxRecDepth 20000 in
theorem ggX1_writeColours_X1_signed : GoodIn wsX1_writeColours wsX1_signed := goodIn_r _ [8] (by decide +kernel) (by decide +kernel)
set_option maxRecDepth 20000 in
theorem gX1_writeColours_X1_signed : GoodIn wsX1_writeColours (va_wsS RX1 95 yX1_signed wsX1_signed) := goodIn_app (goodIn_of _ (by decide +kernel)) ggX1_writeColours_X1_signed
set_option maxRecDepth 20000 in
theorem ggX1_writeColours_X8_green : GoodIn wsX1_writeColours wsX8_green := goodIn_r _ [10] (by decide +kernel) (by decide +kernel)
set_option maxRecDepth 20000 in
theorem gX1_writeColours_X8_green_n33 : GoodIn wsX1_writeColours (wsX8_green) := ggX1_writeColours_X8_green
set_option maxRecDepth 20000 in
theorem ggX1_writeColours_X8_blue : GoodIn wsX1_writeColours wsX8_blue := goodIn_r _ [12] (by decide +kernel) (by decide +kernel)
set_option maxRecDepth 20000 in
theorem gX1_writeColours_X8_blue_n36 : GoodIn wsX1_writeColours (wsX8_blue) := ggX1_writeColours_X8_blue
set_option maxRecDepth 20000 in
theorem ggX1_writeColours_X1_isWithin : GoodIn wsX1_writeColours wsX1_isWithin := goodIn_r _ [15] (by decide +kernel) (by decide +kernel)
set_option maxRecDepth 20000 in
theorem gX1_writeColours_X1_isWithin : GoodIn wsX1_writeColours (va_wsS RX1 98 yX1_isWithin wsX1_isWithin) := goodIn_app (goodIn_of _ (by decide +kernel)) ggX1_writeColours_X1_isWithin
set_option maxRecDepth 20000 in
theorem ggX1_writeColours_X2_append : GoodIn wsX1_writeColours wsX2_append := goodIn_r _ [20, 21, 22, 30, 31] (by decide +kernel) (by decide +kernel)
set_option maxRecDepth 20000 in
theorem gX1_writeColours_X2_append : GoodIn wsX1_writeColours (wsV RX1 47 RX2 yX2_append wsX2_append) := goodIn_app (goodIn_of _ (by decide +kernel)) ggX1_writeColours_X2_append
set_option maxRecDepth 20000 in
theorem ggX1_writeColours_X2_appendBig : GoodIn wsX1_writeColours wsX2_appendBig := goodIn_r _ [26, 27, 17, 18, 19, 20, 21, 22, 30, 31] (by decide +kernel) (by decide +kernel)
set_option maxRecDepth 20000 in
theorem gX1_writeColours_X2_appendBig : GoodIn wsX1_writeColours (wsV RX1 56 RX2 yX2_appendBig wsX2_appendBig) := goodIn_app (goodIn_of _ (by decide +kernel)) ggX1_writeColours_X2_appendBig
theorem dX1_writeColours_0 : decode cX1_writeColours 0 = .ok (.iload_n 1, 1) := by decide +kernel
theorem dX1_writeColours_1 : decode cX1_writeColours 1 = .ok (.invokestatic 29, 3) := by decide +kernel
theorem dX1_writeColours_4 : decode cX1_writeColours 4 = .ok (.aload_n 0, 1) := by decide +kernel
theorem dX1_writeColours_5 : decode cX1_writeColours 5 = .ok (.getfield 25, 3) := by decide +kernel
theorem dX1_writeColours_8 : decode cX1_writeColours 8 = .ok (.invokestatic 29, 3) := by decide +kernel
theorem dX1_writeColours_11 : decode cX1_writeColours 11 = .ok (.isub, 1) := by decide +kernel
theorem dX1_writeColours_12 : decode cX1_writeColours 12 = .ok (.invokestatic 95, 3) := by decide +kernel
theorem dX1_writeColours_15 : decode cX1_writeColours 15 = .ok (.istore_n 3, 1) := by decide +kernel
theorem dX1_writeColours_16 : decode cX1_writeColours 16 = .ok (.iload_n 1, 1) := by decide +kernel
theorem dX1_writeColours_17 : decode cX1_writeColours 17 = .ok (.invokestatic 33, 3) := by decide +kernel
theorem dX1_writeColours_20 : decode cX1_writeColours 20 = .ok (.aload_n 0, 1) := by decide +kernel
theorem dX1_writeColours_21 : decode cX1_writeColours 21 = .ok (.getfield 25, 3) := by decide +kernel
theorem dX1_writeColours_24 : decode cX1_writeColours 24 = .ok (.invokestatic 33, 3) := by decide +kernel
theorem dX1_writeColours_27 : decode cX1_writeColours 27 = .ok (.isub, 1) := by decide +kernel
theorem dX1_writeColours_28 : decode cX1_writeColours 28 = .ok (.invokestatic 95, 3) := by decide +kernel
theorem dX1_writeColours_31 : decode cX1_writeColours 31 = .ok (.istore 4, 2) := by decide +kernel
theorem dX1_writeColours_33 : decode cX1_writeColours 33 = .ok (.iload_n 1, 1) := by decide +kernel
theorem dX1_writeColours_34 : decode cX1_writeColours 34 = .ok (.invokestatic 36, 3) := by decide +kernel
theorem dX1_writeColours_37 : decode cX1_writeColours 37 = .ok (.aload_n 0, 1) := by decide +kernel
theorem dX1_writeColours_38 : decode cX1_writeColours 38 = .ok (.getfield 25, 3) := by decide +kernel
theorem dX1_writeColours_41 : decode cX1_writeColours 41 = .ok (.invokestatic 36, 3) := by decide +kernel
theorem dX1_writeColours_44 : decode cX1_writeColours 44 = .ok (.isub, 1) := by decide +kernel
theorem dX1_writeColours_45 : decode cX1_writeColours 45 = .ok (.invokestatic 95, 3) := by decide +kernel
theorem dX1_writeColours_48 : decode cX1_writeColours 48 = .ok (.istore 5, 2) := by decide +kernel
theorem dX1_writeColours_50 : decode cX1_writeColours 50 = .ok (.iload_n 3, 1) := by decide +kernel
theorem dX1_writeColours_51 : decode cX1_writeColours 51 = .ok (.iload 4, 2) := by decide +kernel
theorem dX1_writeColours_53 : decode cX1_writeColours 53 = .ok (.isub, 1) := by decide +kernel
theorem dX1_writeColours_54 : decode cX1_writeColours 54 = .ok (.invokestatic 95, 3) := by decide +kernel
theorem dX1_writeColours_57 : decode cX1_writeColours 57 = .ok (.istore 6, 2) := by decide +kernel
theorem dX1_writeColours_59 : decode cX1_writeColours 59 = .ok (.iload 5, 2) := by decide +kernel
theorem dX1_writeColours_61 : decode cX1_writeColours 61 = .ok (.iload 4, 2) := by decide +kernel
theorem dX1_writeColours_63 : decode cX1_writeColours 63 = .ok (.isub, 1) := by decide +kernel
theorem dX1_writeColours_64 : decode cX1_writeColours 64 = .ok (.invokestatic 95, 3) := by decide +kernel
theorem dX1_writeColours_67 : decode cX1_writeColours 67 = .ok (.istore 7, 2) := by decide +kernel
theorem dX1_writeColours_69 : decode cX1_writeColours 69 = .ok (.iload_n 3, 1) := by decide +kernel
theorem dX1_writeColours_70 : decode cX1_writeColours 70 = .ok (.iconst 2, 1) := by decide +kernel
theorem dX1_writeColours_71 : decode cX1_writeColours 71 = .ok (.invokestatic 98, 3) := by decide +kernel
theorem dX1_writeColours_74 : decode cX1_writeColours 74 = .ok (.ifCond .eq 50, 3) := by decide +kernel
theorem dX1_writeColours_77 : decode cX1_writeColours 77 = .ok (.iload 4, 2) := by decide +kernel
theorem dX1_writeColours_79 : decode cX1_writeColours 79 = .ok (.iconst 2, 1) := by decide +kernel
theorem dX1_writeColours_80 : decode cX1_writeColours 80 = .ok (.invokestatic 98, 3) := by decide +kernel
theorem dX1_writeColours_83 : decode cX1_writeColours 83 = .ok (.ifCond .eq 41, 3) := by decide +kernel
theorem dX1_writeColours_86 : decode cX1_writeColours 86 = .ok (.iload 5, 2) := by decide +kernel
theorem dX1_writeColours_88 : decode cX1_writeColours 88 = .ok (.iconst 2, 1) := by decide +kernel
theorem dX1_writeColours_89 : decode cX1_writeColours 89 = .ok (.invokestatic 98, 3) := by decide +kernel
theorem dX1_writeColours_92 : decode cX1_writeColours 92 = .ok (.ifCond .eq 32, 3) := by decide +kernel
theorem dX1_writeColours_95 : decode cX1_writeColours 95 = .ok (.aload_n 2, 1) := by decide +kernel
theorem dX1_writeColours_96 : decode cX1_writeColours 96 = .ok (.bipush 64, 2) := by decide +kernel
theorem dX1_writeColours_98 : decode cX1_writeColours 98 = .ok (.iload_n 3, 1) := by decide +kernel
theorem dX1_writeColours_99 : decode cX1_writeColours 99 = .ok (.iconst 2, 1) := by decide +kernel
theorem dX1_writeColours_100 : decode cX1_writeColours 100 = .ok (.iadd, 1) := by decide +kernel
theorem dX1_writeColours_101 : decode cX1_writeColours 101 = .ok (.bipush 16, 2) := by decide +kernel
theorem dX1_writeColours_103 : decode cX1_writeColours 103 = .ok (.imul, 1) := by decide +kernel
theorem dX1_writeColours_104 : decode cX1_writeColours 104 = .ok (.iadd, 1) := by decide +kernel
theorem dX1_writeColours_105 : decode cX1_writeColours 105 = .ok (.iload 4, 2) := by decide +kernel
theorem dX1_writeColours_107 : decode cX1_writeColours 107 = .ok (.iconst 2, 1) := by decide +kernel
theorem dX1_writeColours_108 : decode cX1_writeColours 108 = .ok (.iadd, 1) := by decide +kernel
theorem dX1_writeColours_109 : decode cX1_writeColours 109 = .ok (.iconst 4, 1) := by decide +kernel
theorem dX1_writeColours_110 : decode cX1_writeColours 110 = .ok (.imul, 1) := by decide +kernel
theorem dX1_writeColours_111 : decode cX1_writeColours 111 = .ok (.iadd, 1) := by decide +kernel
theorem dX1_writeColours_112 : decode cX1_writeColours 112 = .ok (.iload 5, 2) := by decide +kernel
theorem dX1_writeColours_114 : decode cX1_writeColours 114 = .ok (.iadd, 1) := by decide +kernel
theorem dX1_writeColours_115 : decode cX1_writeColours 115 = .ok (.iconst 2, 1) := by decide +kernel
theorem dX1_writeColours_116 : decode cX1_writeColours 116 = .ok (.iadd, 1) := by decide +kernel
theorem dX1_writeColours_117 : decode cX1_writeColours 117 = .ok (.invokevirtual 47, 3) := by decide +kernel
theorem dX1_writeColours_120 : decode cX1_writeColours 120 = .ok (.pop, 1) := by decide +kernel
theorem dX1_writeColours_121 : decode cX1_writeColours 121 = .ok (.goto 83, 3) := by decide +kernel
theorem dX1_writeColours_124 : decode cX1_writeColours 124 = .ok (.iload 4, 2) := by decide +kernel
theorem dX1_writeColours_126 : decode cX1_writeColours 126 = .ok (.bipush 32, 2) := by decide +kernel
theorem dX1_writeColours_128 : decode cX1_writeColours 128 = .ok (.invokestatic 98, 3) := by decide +kernel
theorem dX1_writeColours_131 : decode cX1_writeColours 131 = .ok (.ifCond .eq 56, 3) := by decide +kernel
theorem dX1_writeColours_134 : decode cX1_writeColours 134 = .ok (.iload 6, 2) := by decide +kernel
theorem dX1_writeColours_136 : decode cX1_writeColours 136 = .ok (.bipush 8, 2) := by decide +kernel
theorem dX1_writeColours_138 : decode cX1_writeColours 138 = .ok (.invokestatic 98, 3) := by decide +kernel
theorem dX1_writeColours_141 : decode cX1_writeColours 141 = .ok (.ifCond .eq 46, 3) := by decide +kernel
theorem dX1_writeColours_144 : decode cX1_writeColours 144 = .ok (.iload 7, 2) := by decide +kernel
theorem dX1_writeColours_146 : decode cX1_writeColours 146 = .ok (.bipush 8, 2) := by decide +kernel
theorem dX1_writeColours_148 : decode cX1_writeColours 148 = .ok (.invokestatic 98, 3) := by decide +kernel
theorem dX1_writeColours_151 : decode cX1_writeColours 151 = .ok (.ifCond .eq 36, 3) := by decide +kernel
theorem dX1_writeColours_154 : decode cX1_writeColours 154 = .ok (.aload_n 2, 1) := by decide +kernel
theorem dX1_writeColours_155 : decode cX1_writeColours 155 = .ok (.sipush 160, 3) := by decide +kernel
theorem dX1_writeColours_158 : decode cX1_writeColours 158 = .ok (.iload 4, 2) := by decide +kernel
theorem dX1_writeColours_160 : decode cX1_writeColours 160 = .ok (.iadd, 1) := by decide +kernel
theorem dX1_writeColours_161 : decode cX1_writeColours 161 = .ok (.invokevirtual 47, 3) := by decide +kernel
theorem dX1_writeColours_164 : decode cX1_writeColours 164 = .ok (.pop, 1) := by decide +kernel
theorem dX1_writeColours_165 : decode cX1_writeColours 165 = .ok (.aload_n 2, 1) := by decide +kernel
theorem dX1_writeColours_166 : decode cX1_writeColours 166 = .ok (.iload 6, 2) := by decide +kernel
theorem dX1_writeColours_168 : decode cX1_writeColours 168 = .ok (.bipush 8, 2) := by decide +kernel
theorem dX1_writeColours_170 : decode cX1_writeColours 170 = .ok (.iadd, 1) := by decide +kernel
theorem dX1_writeColours_171 : decode cX1_writeColours 171 = .ok (.bipush 16, 2) := by decide +kernel
theorem dX1_writeColours_173 : decode cX1_writeColours 173 = .ok (.imul, 1) := by decide +kernel
theorem dX1_writeColours_174 : decode cX1_writeColours 174 = .ok (.iload 7, 2) := by decide +kernel
theorem dX1_writeColours_176 : decode cX1_writeColours 176 = .ok (.iadd, 1) := by decide +kernel
theorem dX1_writeColours_177 : decode cX1_writeColours 177 = .ok (.bipush 8, 2) := by decide +kernel
theorem dX1_writeColours_179 : decode cX1_writeColours 179 = .ok (.iadd, 1) := by decide +kernel
theorem dX1_writeColours_180 : decode cX1_writeColours 180 = .ok (.invokevirtual 47, 3) := by decide +kernel
theorem dX1_writeColours_183 : decode cX1_writeColours 183 = .ok (.pop, 1) := by decide +kernel
theorem dX1_writeColours_184 : decode cX1_writeColours 184 = .ok (.goto 20, 3) := by decide +kernel
theorem dX1_writeColours_187 : decode cX1_writeColours 187 = .ok (.aload_n 2, 1) := by decide +kernel
theorem dX1_writeColours_188 : decode cX1_writeColours 188 = .ok (.sipush 254, 3) := by decide +kernel
theorem dX1_writeColours_191 : decode cX1_writeColours 191 = .ok (.invokevirtual 47, 3) := by decide +kernel
theorem dX1_writeColours_194 : decode cX1_writeColours 194 = .ok (.pop, 1) := by decide +kernel
theorem dX1_writeColours_195 : decode cX1_writeColours 195 = .ok (.aload_n 2, 1) := by decide +kernel
theorem dX1_writeColours_196 : decode cX1_writeColours 196 = .ok (.iconst 3, 1) := by decide +kernel
theorem dX1_writeColours_197 : decode cX1_writeColours 197 = .ok (.iload_n 1, 1) := by decide +kernel
theorem dX1_writeColours_198 : decode cX1_writeColours 198 = .ok (.bipush 8, 2) := by decide +kernel
theorem dX1_writeColours_200 : decode cX1_writeColours 200 = .ok (.iushr, 1) := by decide +kernel
theorem dX1_writeColours_201 : decode cX1_writeColours 201 = .ok (.invokevirtual 56, 3) := by decide +kernel
theorem dX1_writeColours_204 : decode cX1_writeColours 204 = .ok (.return_, 1) := by decide +kernel
theorem dX1_signed_0 : decode cX1_signed 0 = .ok (.iload_n 0, 1) := by decide +kernel
theorem dX1_signed_1 : decode cX1_signed 1 = .ok (.sipush 128, 3) := by decide +kernel
theorem dX1_signed_4 : decode cX1_signed 4 = .ok (.iadd, 1) := by decide +kernel
theorem dX1_signed_5 : decode cX1_signed 5 = .ok (.sipush 255, 3) := by decide +kernel
theorem dX1_signed_8 : decode cX1_signed 8 = .ok (.iand, 1) := by decide +kernel
theorem dX1_signed_9 : decode cX1_signed 9 = .ok (.sipush 128, 3) := by decide +kernel
theorem dX1_signed_12 : decode cX1_signed 12 = .ok (.isub, 1) := by decide +kernel
theorem dX1_signed_13 : decode cX1_signed 13 = .ok (.ireturn, 1) := by decide +kernel
theorem dX1_isWithin_0 : decode cX1_isWithin 0 = .ok (.iload_n 0, 1) := by decide +kernel
theorem dX1_isWithin_1 : decode cX1_isWithin 1 = .ok (.iload_n 1, 1) := by decide +kernel
theorem dX1_isWithin_2 : decode cX1_isWithin 2 = .ok (.ineg, 1) := by decide +kernel
theorem dX1_isWithin_3 : decode cX1_isWithin 3 = .ok (.if_icmp .lt 12, 3) := by decide +kernel
theorem dX1_isWithin_6 : decode cX1_isWithin 6 = .ok (.iload_n 0, 1) := by decide +kernel
theorem dX1_isWithin_7 : decode cX1_isWithin 7 = .ok (.iload_n 1, 1) := by decide +kernel
theorem dX1_isWithin_8 : decode cX1_isWithin 8 = .ok (.if_icmp .ge 7, 3) := by decide +kernel
theorem dX1_isWithin_11 : decode cX1_isWithin 11 = .ok (.iconst 1, 1) := by decide +kernel
theorem dX1_isWithin_12 : decode cX1_isWithin 12 = .ok (.goto 4, 3) := by decide +kernel
theorem dX1_isWithin_15 : decode cX1_isWithin 15 = .ok (.iconst 0, 1) := by decide +kernel
theorem dX1_isWithin_16 : decode cX1_isWithin 16 = .ok (.ireturn, 1) := by decide +kernel
set_option maxRecDepth 20000 in
theorem ggX1_read_X7_pass : GoodIn wsX1_read wsX7_pass := goodIn_ca (goodIn_r _ [5, 6, 7, 8, 4, 9, 10, 11, 12, 13, 97, 98, 99, 100] (by decide +kernel) (by decide +kernel)) (goodIn_sub (fun _ h => List.mem_cons_of_mem _ (List.mem_append_left _ (List.mem_append_right _ h))) (by decide +kernel))
set_option maxRecDepth 20000 in
theorem gX1_read_X7_pass : GoodIn wsX1_read (wsV RX1 102 RX7 yX7_pass wsX7_pass) := goodIn_app (goodIn_of _ (by decide +kernel)) ggX1_read_X7_pass
set_option maxRecDepth 20000 in
theorem ggX1_read_X7_big : GoodIn wsX1_read wsX7_big := goodIn_ca (goodIn_r _ [17, 6, 7, 8, 4, 9, 10, 11, 12, 13, 97, 98, 99, 100] (by decide +kernel) (by decide +kernel)) (goodIn_sub (fun _ h => List.mem_cons_of_mem _ (List.mem_append_left _ (List.mem_append_right _ h))) (by decide +kernel))
set_option maxRecDepth 20000 in
theorem gX1_read_X7_big : GoodIn wsX1_read (wsV RX1 107 RX7 yX7_big wsX7_big) := goodIn_app (goodIn_of _ (by decide +kernel)) ggX1_read_X7_big
set_option maxRecDepth 20000 in
theorem ggX1_read_X7_needSide : GoodIn wsX1_read wsX7_needSide := goodIn_ca (goodIn_r _ [21, 22, 23, 24, 25, 26, 27, 4, 28, 29, 30] (by decide +kernel) (by decide +kernel)) (goodIn_sub (fun _ h => List.mem_cons_of_mem _ (List.mem_append_right _ h)) (by decide +kernel))
set_option maxRecDepth 20000 in
theorem gX1_read_X7_needSide : GoodIn wsX1_read (wsV RX1 110 RX7 yX7_needSide wsX7_needSide) := goodIn_app (goodIn_of _ (by decide +kernel)) ggX1_read_X7_needSide
set_option maxRecDepth 20000 in
theorem ggX1_read_X7_next : GoodIn wsX1_read wsX7_next := goodIn_ca (goodIn_r _ [9, 10, 11, 12, 13, 97, 98, 99, 100] (by decide +kernel) (by decide +kernel)) (goodIn_sub (fun _ h => List.mem_cons_of_mem _ (List.mem_append_left _ (List.mem_append_right _ h))) (by decide +kernel))
set_option maxRecDepth 20000 in
theorem gX1_read_X7_next : GoodIn wsX1_read (wsV RX1 113 RX7 yX7_next wsX7_next) := goodIn_app (goodIn_of _ (by decide +kernel)) ggX1_read_X7_next
set_option maxRecDepth 20000 in
theorem ggX1_read_X7_need : GoodIn wsX1_read wsX7_need := goodIn_ca (goodIn_r _ [28, 29, 30] (by decide +kernel) (by decide +kernel)) (goodIn_sub (fun _ h => List.mem_cons_of_mem _ (List.mem_append_right _ h)) (by decide +kernel))
set_option maxRecDepth 20000 in
theorem gX1_read_X7_need : GoodIn wsX1_read (wsV RX1 116 RX7 yX7_need wsX7_need) := goodIn_app (goodIn_of _ (by decide +kernel)) ggX1_read_X7_need
set_option maxRecDepth 20000 in
theorem ggX1_read_X5_begin : GoodIn wsX1_read wsX5_begin := goodIn_r _ [37, 38, 39, 40, 41, 42, 36, 43, 44, 45, 46, 47, 48, 101, 102, 103] (by decide +kernel) (by decide +kernel)
set_option maxRecDepth 20000 in
theorem gX1_read_X5_begin : GoodIn wsX1_read (wsV RX1 120 RX5 yX5_begin wsX5_begin) := goodIn_app (goodIn_of _ (by decide +kernel)) ggX1_read_X5_begin
set_option maxRecDepth 20000 in
theorem ggX1_read_X1_readChunks : GoodIn wsX1_read wsX1_readChunks := goodIn_ca (goodIn_ca (goodIn_r _ [53, 54, 55, 56, 57, 52, 58, 59, 60, 46, 47, 48, 61, 23, 62, 63, 64, 65, 66, 67, 68, 36, 69, 38, 39, 70, 71, 72, 73, 31, 7, 8, 4, 9, 10, 11, 12, 13, 32, 26, 27, 28, 29, 30, 74, 75, 76, 77, 14, 15, 16, 17, 6, 78, 79, 80, 81, 82, 83, 84, 85, 86, 87, 88, 89, 90, 91, 92, 101, 102, 103, 104, 105, 97, 98, 99, 100] (by decide +kernel) (by decide +kernel)) (goodIn_sub (fun _ h => List.mem_cons_of_mem _ (List.mem_append_left _ (List.mem_append_right _ h))) (by decide +kernel))) (goodIn_sub (fun _ h => List.mem_cons_of_mem _ (List.mem_append_right _ h)) (by decide +kernel))
set_option maxRecDepth 20000 in
theorem gX1_read_X1_readChunks : GoodIn wsX1_read (wsV RX1 123 RX1 yX1_readChunks wsX1_readChunks) := goodIn_app (goodIn_of _ (by decide +kernel)) ggX1_read_X1_readChunks
set_option maxRecDepth 20000 in
theorem ggX1_read_X7_isAtEnd : GoodIn wsX1_read wsX7_isAtEnd := goodIn_r _ [96, 12, 13, 97, 98, 99, 100] (by decide +kernel) (by decide +kernel)
set_option maxRecDepth 20000 in
theorem gX1_read_X7_isAtEnd : GoodIn wsX1_read (wsV RX1 127 RX7 yX7_isAtEnd wsX7_isAtEnd) := goodIn_app (goodIn_of _ (by decide +kernel)) ggX1_read_X7_isAtEnd
theorem dX1_read_0 : decode cX1_read 0 = .ok (.aload_n 1, 1) := by decide +kernel
theorem dX1_read_1 : decode cX1_read 1 = .ok (.iconst 4, 1) := by decide +kernel
theorem dX1_read_2 : decode cX1_read 2 = .ok (.invokevirtual 102, 3) := by decide +kernel
theorem dX1_read_5 : decode cX1_read 5 = .ok (.aload_n 1, 1) := by decide +kernel
theorem dX1_read_6 : decode cX1_read 6 = .ok (.aload_n 1, 1) := by decide +kernel
theorem dX1_read_7 : decode cX1_read 7 = .ok (.iconst 4, 1) := by decide +kernel
theorem dX1_read_8 : decode cX1_read 8 = .ok (.invokevirtual 107, 3) := by decide +kernel
theorem dX1_read_11 : decode cX1_read 11 = .ok (.invokevirtual 110, 3) := by decide +kernel
theorem dX1_read_14 : decode cX1_read 14 = .ok (.istore_n 3, 1) := by decide +kernel
theorem dX1_read_15 : decode cX1_read 15 = .ok (.aload_n 1, 1) := by decide +kernel
theorem dX1_read_16 : decode cX1_read 16 = .ok (.aload_n 1, 1) := by decide +kernel
theorem dX1_read_17 : decode cX1_read 17 = .ok (.iconst 4, 1) := by decide +kernel
theorem dX1_read_18 : decode cX1_read 18 = .ok (.invokevirtual 107, 3) := by decide +kernel
theorem dX1_read_21 : decode cX1_read 21 = .ok (.invokevirtual 110, 3) := by decide +kernel
theorem dX1_read_24 : decode cX1_read 24 = .ok (.istore 4, 2) := by decide +kernel
theorem dX1_read_26 : decode cX1_read 26 = .ok (.aload_n 1, 1) := by decide +kernel
theorem dX1_read_27 : decode cX1_read 27 = .ok (.invokevirtual 113, 3) := by decide +kernel
theorem dX1_read_30 : decode cX1_read 30 = .ok (.istore 5, 2) := by decide +kernel
theorem dX1_read_32 : decode cX1_read 32 = .ok (.aload_n 1, 1) := by decide +kernel
theorem dX1_read_33 : decode cX1_read 33 = .ok (.iload 5, 2) := by decide +kernel
theorem dX1_read_35 : decode cX1_read 35 = .ok (.iconst 3, 1) := by decide +kernel
theorem dX1_read_36 : decode cX1_read 36 = .ok (.if_icmp .eq 9, 3) := by decide +kernel
theorem dX1_read_39 : decode cX1_read 39 = .ok (.iload 5, 2) := by decide +kernel
theorem dX1_read_41 : decode cX1_read 41 = .ok (.iconst 4, 1) := by decide +kernel
theorem dX1_read_42 : decode cX1_read 42 = .ok (.if_icmp .ne 7, 3) := by decide +kernel
theorem dX1_read_45 : decode cX1_read 45 = .ok (.iconst 1, 1) := by decide +kernel
theorem dX1_read_46 : decode cX1_read 46 = .ok (.goto 4, 3) := by decide +kernel
theorem dX1_read_49 : decode cX1_read 49 = .ok (.iconst 0, 1) := by decide +kernel
theorem dX1_read_50 : decode cX1_read 50 = .ok (.invokevirtual 116, 3) := by decide +kernel
theorem dX1_read_53 : decode cX1_read 53 = .ok (.aload_n 1, 1) := by decide +kernel
theorem dX1_read_54 : decode cX1_read 54 = .ok (.aload_n 1, 1) := by decide +kernel
theorem dX1_read_55 : decode cX1_read 55 = .ok (.invokevirtual 113, 3) := by decide +kernel
theorem dX1_read_58 : decode cX1_read 58 = .ok (.iconst 1, 1) := by decide +kernel
theorem dX1_read_59 : decode cX1_read 59 = .ok (.if_icmp .gt 7, 3) := by decide +kernel
theorem dX1_read_62 : decode cX1_read 62 = .ok (.iconst 1, 1) := by decide +kernel
theorem dX1_read_63 : decode cX1_read 63 = .ok (.goto 4, 3) := by decide +kernel
theorem dX1_read_66 : decode cX1_read 66 = .ok (.iconst 0, 1) := by decide +kernel
theorem dX1_read_67 : decode cX1_read 67 = .ok (.invokevirtual 116, 3) := by decide +kernel
theorem dX1_read_70 : decode cX1_read 70 = .ok (.aload_n 2, 1) := by decide +kernel
theorem dX1_read_71 : decode cX1_read 71 = .ok (.iload_n 3, 1) := by decide +kernel
theorem dX1_read_72 : decode cX1_read 72 = .ok (.iload 4, 2) := by decide +kernel
theorem dX1_read_74 : decode cX1_read 74 = .ok (.invokevirtual 120, 3) := by decide +kernel
theorem dX1_read_77 : decode cX1_read 77 = .ok (.aload_n 0, 1) := by decide +kernel
theorem dX1_read_78 : decode cX1_read 78 = .ok (.aload_n 1, 1) := by decide +kernel
theorem dX1_read_79 : decode cX1_read 79 = .ok (.aload_n 2, 1) := by decide +kernel
theorem dX1_read_80 : decode cX1_read 80 = .ok (.invokevirtual 123, 3) := by decide +kernel
theorem dX1_read_83 : decode cX1_read 83 = .ok (.iconst 0, 1) := by decide +kernel
theorem dX1_read_84 : decode cX1_read 84 = .ok (.istore 6, 2) := by decide +kernel
theorem dX1_read_86 : decode cX1_read 86 = .ok (.iload 6, 2) := by decide +kernel
theorem dX1_read_88 : decode cX1_read 88 = .ok (.bipush 7, 2) := by decide +kernel
theorem dX1_read_90 : decode cX1_read 90 = .ok (.if_icmp .ge 25, 3) := by decide +kernel
theorem dX1_read_93 : decode cX1_read 93 = .ok (.aload_n 1, 1) := by decide +kernel
theorem dX1_read_94 : decode cX1_read 94 = .ok (.aload_n 1, 1) := by decide +kernel
theorem dX1_read_95 : decode cX1_read 95 = .ok (.invokevirtual 113, 3) := by decide +kernel
theorem dX1_read_98 : decode cX1_read 98 = .ok (.ifCond .ne 7, 3) := by decide +kernel
theorem dX1_read_101 : decode cX1_read 101 = .ok (.iconst 1, 1) := by decide +kernel
theorem dX1_read_102 : decode cX1_read 102 = .ok (.goto 4, 3) := by decide +kernel
theorem dX1_read_105 : decode cX1_read 105 = .ok (.iconst 0, 1) := by decide +kernel
theorem dX1_read_106 : decode cX1_read 106 = .ok (.invokevirtual 116, 3) := by decide +kernel
theorem dX1_read_109 : decode cX1_read 109 = .ok (.iinc 6 1, 3) := by decide +kernel
theorem dX1_read_112 : decode cX1_read 112 = .ok (.goto (-26), 3) := by decide +kernel
theorem dX1_read_115 : decode cX1_read 115 = .ok (.aload_n 1, 1) := by decide +kernel
theorem dX1_read_116 : decode cX1_read 116 = .ok (.aload_n 1, 1) := by decide +kernel
theorem dX1_read_117 : decode cX1_read 117 = .ok (.invokevirtual 113, 3) := by decide +kernel
theorem dX1_read_120 : decode cX1_read 120 = .ok (.iconst 1, 1) := by decide +kernel
theorem dX1_read_121 : decode cX1_read 121 = .ok (.if_icmp .ne 7, 3) := by decide +kernel
theorem dX1_read_124 : decode cX1_read 124 = .ok (.iconst 1, 1) := by decide +kernel
theorem dX1_read_125 : decode cX1_read 125 = .ok (.goto 4, 3) := by decide +kernel
theorem dX1_read_128 : decode cX1_read 128 = .ok (.iconst 0, 1) := by decide +kernel
theorem dX1_read_129 : decode cX1_read 129 = .ok (.invokevirtual 116, 3) := by decide +kernel
theorem dX1_read_132 : decode cX1_read 132 = .ok (.aload_n 1, 1) := by decide +kernel
theorem dX1_read_133 : decode cX1_read 133 = .ok (.aload_n 1, 1) := by decide +kernel
theorem dX1_read_134 : decode cX1_read 134 = .ok (.invokevirtual 127, 3) := by decide +kernel
theorem dX1_read_137 : decode cX1_read 137 = .ok (.invokevirtual 116, 3) := by decide +kernel
theorem dX1_read_140 : decode cX1_read 140 = .ok (.return_, 1) := by decide +kernel
set_option maxRecDepth 20000 in
theorem ggX1_readChunks_X1_forget : GoodIn wsX1_readChunks wsX1_forget := goodIn_r _ [6, 7, 1, 8, 9, 10, 11, 12, 13, 14, 15, 16, 17, 71, 72] (by decide +kernel) (by decide +kernel)
set_option maxRecDepth 20000 in
theorem gX1_readChunks_X1_forget : GoodIn wsX1_readChunks (wsV RX1 75 RX1 yX1_forget wsX1_forget) := goodIn_app (goodIn_of _ (by decide +kernel)) ggX1_readChunks_X1_forget
set_option maxRecDepth 20000 in
theorem ggX1_readChunks_X5_count : GoodIn wsX1_readChunks wsX5_count := goodIn_r _ [22, 23, 24, 68, 69, 70] (by decide +kernel) (by decide +kernel)
set_option maxRecDepth 20000 in
theorem gX1_readChunks_X5_count : GoodIn wsX1_readChunks (wsV RX1 78 RX5 yX5_count wsX5_count) := goodIn_app (goodIn_of _ (by decide +kernel)) ggX1_readChunks_X5_count
set_option maxRecDepth 20000 in
theorem ggX1_readChunks_X1_readChunk : GoodIn wsX1_readChunks wsX1_readChunk := goodIn_ca (goodIn_ca (goodIn_r _ [28, 1, 7, 29, 30, 31, 32, 33, 34, 35, 36, 37, 38, 39, 40, 41, 42, 43, 44, 45, 46, 5, 47, 48, 49, 50, 51, 52, 53, 13, 54, 55, 56, 57, 58, 59, 60, 61, 62, 63, 64, 16, 17, 65, 66, 67, 71, 72, 73, 74, 75, 76] (by decide +kernel) (by decide +kernel)) (goodIn_sub (fun _ h => List.mem_cons_of_mem _ (List.mem_append_left _ (List.mem_append_right _ h))) (by decide +kernel))) (goodIn_sub (fun _ h => List.mem_cons_of_mem _ (List.mem_append_right _ h)) (by decide +kernel))
set_option maxRecDepth 20000 in
theorem gX1_readChunks_X1_readChunk : GoodIn wsX1_readChunks (wsV RX1 130 RX1 yX1_readChunk wsX1_readChunk) := goodIn_app (goodIn_of _ (by decide +kernel)) ggX1_readChunks_X1_readChunk
theorem dX1_readChunks_0 : decode cX1_readChunks 0 = .ok (.aload_n 0, 1) := by decide +kernel
theorem dX1_readChunks_1 : decode cX1_readChunks 1 = .ok (.invokevirtual 75, 3) := by decide +kernel
theorem dX1_readChunks_4 : decode cX1_readChunks 4 = .ok (.iconst 0, 1) := by decide +kernel
theorem dX1_readChunks_5 : decode cX1_readChunks 5 = .ok (.istore_n 3, 1) := by decide +kernel
theorem dX1_readChunks_6 : decode cX1_readChunks 6 = .ok (.aload_n 2, 1) := by decide +kernel
theorem dX1_readChunks_7 : decode cX1_readChunks 7 = .ok (.invokevirtual 78, 3) := by decide +kernel
theorem dX1_readChunks_10 : decode cX1_readChunks 10 = .ok (.istore 4, 2) := by decide +kernel
theorem dX1_readChunks_12 : decode cX1_readChunks 12 = .ok (.iconst 0, 1) := by decide +kernel
theorem dX1_readChunks_13 : decode cX1_readChunks 13 = .ok (.istore 5, 2) := by decide +kernel
theorem dX1_readChunks_15 : decode cX1_readChunks 15 = .ok (.iload 5, 2) := by decide +kernel
theorem dX1_readChunks_17 : decode cX1_readChunks 17 = .ok (.iload 4, 2) := by decide +kernel
theorem dX1_readChunks_19 : decode cX1_readChunks 19 = .ok (.if_icmp .ge 41, 3) := by decide +kernel
theorem dX1_readChunks_22 : decode cX1_readChunks 22 = .ok (.iload_n 3, 1) := by decide +kernel
theorem dX1_readChunks_23 : decode cX1_readChunks 23 = .ok (.ifCond .le 9, 3) := by decide +kernel
theorem dX1_readChunks_26 : decode cX1_readChunks 26 = .ok (.iinc 3 (-1), 3) := by decide +kernel
theorem dX1_readChunks_29 : decode cX1_readChunks 29 = .ok (.goto 14, 3) := by decide +kernel
theorem dX1_readChunks_32 : decode cX1_readChunks 32 = .ok (.aload_n 0, 1) := by decide +kernel
theorem dX1_readChunks_33 : decode cX1_readChunks 33 = .ok (.aload_n 1, 1) := by decide +kernel
theorem dX1_readChunks_34 : decode cX1_readChunks 34 = .ok (.iload 4, 2) := by decide +kernel
theorem dX1_readChunks_36 : decode cX1_readChunks 36 = .ok (.iload 5, 2) := by decide +kernel
theorem dX1_readChunks_38 : decode cX1_readChunks 38 = .ok (.isub, 1) := by decide +kernel
theorem dX1_readChunks_39 : decode cX1_readChunks 39 = .ok (.invokevirtual 130, 3) := by decide +kernel
theorem dX1_readChunks_42 : decode cX1_readChunks 42 = .ok (.istore_n 3, 1) := by decide +kernel
theorem dX1_readChunks_43 : decode cX1_readChunks 43 = .ok (.aload_n 2, 1) := by decide +kernel
theorem dX1_readChunks_44 : decode cX1_readChunks 44 = .ok (.getfield 82, 3) := by decide +kernel
theorem dX1_readChunks_47 : decode cX1_readChunks 47 = .ok (.iload 5, 2) := by decide +kernel
theorem dX1_readChunks_49 : decode cX1_readChunks 49 = .ok (.aload_n 0, 1) := by decide +kernel
theorem dX1_readChunks_50 : decode cX1_readChunks 50 = .ok (.getfield 25, 3) := by decide +kernel
theorem dX1_readChunks_53 : decode cX1_readChunks 53 = .ok (.iastore, 1) := by decide +kernel
theorem dX1_readChunks_54 : decode cX1_readChunks 54 = .ok (.iinc 5 1, 3) := by decide +kernel
theorem dX1_readChunks_57 : decode cX1_readChunks 57 = .ok (.goto (-42), 3) := by decide +kernel
theorem dX1_readChunks_60 : decode cX1_readChunks 60 = .ok (.return_, 1) := by decide +kernel
set_option maxRecDepth 20000 in
theorem ggX1_readChunk_X7_next : GoodIn wsX1_readChunk wsX7_next := goodIn_ca (goodIn_r _ [7, 8, 9, 10, 11, 48, 49, 50, 51] (by decide +kernel) (by decide +kernel)) (goodIn_sub (fun _ h => List.mem_cons_of_mem _ (List.mem_append_left _ (List.mem_append_right _ h))) (by decide +kernel))
set_option maxRecDepth 20000 in
theorem gX1_readChunk_X7_next : GoodIn wsX1_readChunk (wsV RX1 113 RX7 yX7_next wsX7_next) := goodIn_app (goodIn_of _ (by decide +kernel)) ggX1_readChunk_X7_next
set_option maxRecDepth 20000 in
theorem ggX1_readChunk_X7_need : GoodIn wsX1_readChunk wsX7_need := goodIn_ca (goodIn_r _ [15, 16, 17] (by decide +kernel) (by decide +kernel)) (goodIn_sub (fun _ h => List.mem_cons_of_mem _ (List.mem_append_right _ h)) (by decide +kernel))
set_option maxRecDepth 20000 in
theorem gX1_readChunk_X7_need : GoodIn wsX1_readChunk (wsV RX1 116 RX7 yX7_need wsX7_need) := goodIn_app (goodIn_of _ (by decide +kernel)) ggX1_readChunk_X7_need
set_option maxRecDepth 20000 in
theorem ggX1_readChunk_X1_chunkPixel : GoodIn wsX1_readChunk wsX1_chunkPixel := goodIn_ca (goodIn_r _ [22, 1, 2, 23, 24, 25, 6, 26, 27, 4, 5, 7, 8, 9, 10, 11, 28, 29, 30, 31, 32, 33, 21, 34, 35, 36, 37, 38, 39, 40, 41, 42, 3, 46, 47, 48, 49, 50, 51] (by decide +kernel) (by decide +kernel)) (goodIn_sub (fun _ h => List.mem_cons_of_mem _ (List.mem_append_left _ (List.mem_append_right _ h))) (by decide +kernel))
set_option maxRecDepth 20000 in
theorem gX1_readChunk_X1_chunkPixel : GoodIn wsX1_readChunk (wsV RX1 134 RX1 yX1_chunkPixel wsX1_chunkPixel) := goodIn_app (goodIn_of _ (by decide +kernel)) ggX1_readChunk_X1_chunkPixel
set_option maxRecDepth 20000 in
theorem ggX1_readChunk_X1_placeOf : GoodIn wsX1_readChunk wsX1_placeOf := goodIn_r _ [45, 35, 29, 36, 37, 38, 39, 40, 28, 30] (by decide +kernel) (by decide +kernel)
set_option maxRecDepth 20000 in
theorem gX1_readChunk_X1_placeOf : GoodIn wsX1_readChunk (va_wsS RX1 89 yX1_placeOf wsX1_placeOf) := goodIn_app (goodIn_of _ (by decide +kernel)) ggX1_readChunk_X1_placeOf
theorem dX1_readChunk_0 : decode cX1_readChunk 0 = .ok (.aload_n 1, 1) := by decide +kernel
theorem dX1_readChunk_1 : decode cX1_readChunk 1 = .ok (.invokevirtual 113, 3) := by decide +kernel
theorem dX1_readChunk_4 : decode cX1_readChunk 4 = .ok (.istore_n 3, 1) := by decide +kernel
theorem dX1_readChunk_5 : decode cX1_readChunk 5 = .ok (.iload_n 3, 1) := by decide +kernel
theorem dX1_readChunk_6 : decode cX1_readChunk 6 = .ok (.sipush 191, 3) := by decide +kernel
theorem dX1_readChunk_9 : decode cX1_readChunk 9 = .ok (.if_icmp .le 36, 3) := by decide +kernel
theorem dX1_readChunk_12 : decode cX1_readChunk 12 = .ok (.iload_n 3, 1) := by decide +kernel
theorem dX1_readChunk_13 : decode cX1_readChunk 13 = .ok (.sipush 253, 3) := by decide +kernel
theorem dX1_readChunk_16 : decode cX1_readChunk 16 = .ok (.if_icmp .gt 29, 3) := by decide +kernel
theorem dX1_readChunk_19 : decode cX1_readChunk 19 = .ok (.aload_n 1, 1) := by decide +kernel
theorem dX1_readChunk_20 : decode cX1_readChunk 20 = .ok (.iload_n 3, 1) := by decide +kernel
theorem dX1_readChunk_21 : decode cX1_readChunk 21 = .ok (.sipush 191, 3) := by decide +kernel
theorem dX1_readChunk_24 : decode cX1_readChunk 24 = .ok (.isub, 1) := by decide +kernel
theorem dX1_readChunk_25 : decode cX1_readChunk 25 = .ok (.iload_n 2, 1) := by decide +kernel
theorem dX1_readChunk_26 : decode cX1_readChunk 26 = .ok (.if_icmp .gt 7, 3) := by decide +kernel
theorem dX1_readChunk_29 : decode cX1_readChunk 29 = .ok (.iconst 1, 1) := by decide +kernel
theorem dX1_readChunk_30 : decode cX1_readChunk 30 = .ok (.goto 4, 3) := by decide +kernel
theorem dX1_readChunk_33 : decode cX1_readChunk 33 = .ok (.iconst 0, 1) := by decide +kernel
theorem dX1_readChunk_34 : decode cX1_readChunk 34 = .ok (.invokevirtual 116, 3) := by decide +kernel
theorem dX1_readChunk_37 : decode cX1_readChunk 37 = .ok (.iload_n 3, 1) := by decide +kernel
theorem dX1_readChunk_38 : decode cX1_readChunk 38 = .ok (.sipush 191, 3) := by decide +kernel
theorem dX1_readChunk_41 : decode cX1_readChunk 41 = .ok (.isub, 1) := by decide +kernel
theorem dX1_readChunk_42 : decode cX1_readChunk 42 = .ok (.iconst 1, 1) := by decide +kernel
theorem dX1_readChunk_43 : decode cX1_readChunk 43 = .ok (.isub, 1) := by decide +kernel
theorem dX1_readChunk_44 : decode cX1_readChunk 44 = .ok (.ireturn, 1) := by decide +kernel
theorem dX1_readChunk_45 : decode cX1_readChunk 45 = .ok (.aload_n 0, 1) := by decide +kernel
theorem dX1_readChunk_46 : decode cX1_readChunk 46 = .ok (.aload_n 0, 1) := by decide +kernel
theorem dX1_readChunk_47 : decode cX1_readChunk 47 = .ok (.aload_n 1, 1) := by decide +kernel
theorem dX1_readChunk_48 : decode cX1_readChunk 48 = .ok (.iload_n 3, 1) := by decide +kernel
theorem dX1_readChunk_49 : decode cX1_readChunk 49 = .ok (.invokevirtual 134, 3) := by decide +kernel
theorem dX1_readChunk_52 : decode cX1_readChunk 52 = .ok (.putfield 25, 3) := by decide +kernel
theorem dX1_readChunk_55 : decode cX1_readChunk 55 = .ok (.aload_n 0, 1) := by decide +kernel
theorem dX1_readChunk_56 : decode cX1_readChunk 56 = .ok (.getfield 9, 3) := by decide +kernel
theorem dX1_readChunk_59 : decode cX1_readChunk 59 = .ok (.aload_n 0, 1) := by decide +kernel
theorem dX1_readChunk_60 : decode cX1_readChunk 60 = .ok (.getfield 25, 3) := by decide +kernel
theorem dX1_readChunk_63 : decode cX1_readChunk 63 = .ok (.invokestatic 89, 3) := by decide +kernel
theorem dX1_readChunk_66 : decode cX1_readChunk 66 = .ok (.aload_n 0, 1) := by decide +kernel
theorem dX1_readChunk_67 : decode cX1_readChunk 67 = .ok (.getfield 25, 3) := by decide +kernel
theorem dX1_readChunk_70 : decode cX1_readChunk 70 = .ok (.iastore, 1) := by decide +kernel
theorem dX1_readChunk_71 : decode cX1_readChunk 71 = .ok (.iconst 0, 1) := by decide +kernel
theorem dX1_readChunk_72 : decode cX1_readChunk 72 = .ok (.ireturn, 1) := by decide +kernel
set_option maxRecDepth 20000 in
theorem ggX1_chunkPixel_X7_big : GoodIn wsX1_chunkPixel wsX7_big := goodIn_ca (goodIn_r _ [7, 8, 9, 10, 6, 11, 12, 13, 14, 15, 35, 36, 37, 38] (by decide +kernel) (by decide +kernel)) (goodIn_sub (fun _ h => List.mem_cons_of_mem _ (List.mem_append_right _ h)) (by decide +kernel))
set_option maxRecDepth 20000 in
theorem gX1_chunkPixel_X7_big : GoodIn wsX1_chunkPixel (wsV RX1 107 RX7 yX7_big wsX7_big) := goodIn_app (goodIn_of _ (by decide +kernel)) ggX1_chunkPixel_X7_big
set_option maxRecDepth 20000 in
theorem ggX1_chunkPixel_X8_alpha : GoodIn wsX1_chunkPixel wsX8_alpha := goodIn_r _ [18] (by decide +kernel) (by decide +kernel)
set_option maxRecDepth 20000 in
theorem gX1_chunkPixel_X8_alpha_n39 : GoodIn wsX1_chunkPixel (wsX8_alpha) := ggX1_chunkPixel_X8_alpha
set_option maxRecDepth 20000 in
theorem ggX1_chunkPixel_X1_lastPlus : GoodIn wsX1_chunkPixel wsX1_lastPlus := goodIn_r _ [23, 1, 24, 17, 25, 26, 27, 28, 29, 16, 18, 30, 31, 33, 34] (by decide +kernel) (by decide +kernel)
set_option maxRecDepth 20000 in
theorem gX1_chunkPixel_X1_lastPlus : GoodIn wsX1_chunkPixel (wsV RX1 137 RX1 yX1_lastPlus wsX1_lastPlus) := goodIn_app (goodIn_of _ (by decide +kernel)) ggX1_chunkPixel_X1_lastPlus
set_option maxRecDepth 20000 in
theorem ggX1_chunkPixel_X7_next : GoodIn wsX1_chunkPixel wsX7_next := goodIn_ca (goodIn_r _ [11, 12, 13, 14, 15, 35, 36, 37, 38] (by decide +kernel) (by decide +kernel)) (goodIn_sub (fun _ h => List.mem_cons_of_mem _ (List.mem_append_right _ h)) (by decide +kernel))
set_option maxRecDepth 20000 in
theorem gX1_chunkPixel_X7_next : GoodIn wsX1_chunkPixel (wsV RX1 113 RX7 yX7_next wsX7_next) := goodIn_app (goodIn_of _ (by decide +kernel)) ggX1_chunkPixel_X7_next
theorem dX1_chunkPixel_0 : decode cX1_chunkPixel 0 = .ok (.iload_n 2, 1) := by decide +kernel
theorem dX1_chunkPixel_1 : decode cX1_chunkPixel 1 = .ok (.sipush 255, 3) := by decide +kernel
theorem dX1_chunkPixel_4 : decode cX1_chunkPixel 4 = .ok (.if_icmp .ne 9, 3) := by decide +kernel
theorem dX1_chunkPixel_7 : decode cX1_chunkPixel 7 = .ok (.aload_n 1, 1) := by decide +kernel
theorem dX1_chunkPixel_8 : decode cX1_chunkPixel 8 = .ok (.iconst 4, 1) := by decide +kernel
theorem dX1_chunkPixel_9 : decode cX1_chunkPixel 9 = .ok (.invokevirtual 107, 3) := by decide +kernel
theorem dX1_chunkPixel_12 : decode cX1_chunkPixel 12 = .ok (.ireturn, 1) := by decide +kernel
theorem dX1_chunkPixel_13 : decode cX1_chunkPixel 13 = .ok (.iload_n 2, 1) := by decide +kernel
theorem dX1_chunkPixel_14 : decode cX1_chunkPixel 14 = .ok (.sipush 254, 3) := by decide +kernel
theorem dX1_chunkPixel_17 : decode cX1_chunkPixel 17 = .ok (.if_icmp .ne 20, 3) := by decide +kernel
theorem dX1_chunkPixel_20 : decode cX1_chunkPixel 20 = .ok (.aload_n 1, 1) := by decide +kernel
theorem dX1_chunkPixel_21 : decode cX1_chunkPixel 21 = .ok (.iconst 3, 1) := by decide +kernel
theorem dX1_chunkPixel_22 : decode cX1_chunkPixel 22 = .ok (.invokevirtual 107, 3) := by decide +kernel
theorem dX1_chunkPixel_25 : decode cX1_chunkPixel 25 = .ok (.bipush 8, 2) := by decide +kernel
theorem dX1_chunkPixel_27 : decode cX1_chunkPixel 27 = .ok (.ishl, 1) := by decide +kernel
theorem dX1_chunkPixel_28 : decode cX1_chunkPixel 28 = .ok (.aload_n 0, 1) := by decide +kernel
theorem dX1_chunkPixel_29 : decode cX1_chunkPixel 29 = .ok (.getfield 25, 3) := by decide +kernel
theorem dX1_chunkPixel_32 : decode cX1_chunkPixel 32 = .ok (.invokestatic 39, 3) := by decide +kernel
theorem dX1_chunkPixel_35 : decode cX1_chunkPixel 35 = .ok (.ior, 1) := by decide +kernel
theorem dX1_chunkPixel_36 : decode cX1_chunkPixel 36 = .ok (.ireturn, 1) := by decide +kernel
theorem dX1_chunkPixel_37 : decode cX1_chunkPixel 37 = .ok (.iload_n 2, 1) := by decide +kernel
theorem dX1_chunkPixel_38 : decode cX1_chunkPixel 38 = .ok (.bipush 64, 2) := by decide +kernel
theorem dX1_chunkPixel_40 : decode cX1_chunkPixel 40 = .ok (.if_icmp .ge 10, 3) := by decide +kernel
theorem dX1_chunkPixel_43 : decode cX1_chunkPixel 43 = .ok (.aload_n 0, 1) := by decide +kernel
theorem dX1_chunkPixel_44 : decode cX1_chunkPixel 44 = .ok (.getfield 9, 3) := by decide +kernel
theorem dX1_chunkPixel_47 : decode cX1_chunkPixel 47 = .ok (.iload_n 2, 1) := by decide +kernel
theorem dX1_chunkPixel_48 : decode cX1_chunkPixel 48 = .ok (.iaload, 1) := by decide +kernel
theorem dX1_chunkPixel_49 : decode cX1_chunkPixel 49 = .ok (.ireturn, 1) := by decide +kernel
theorem dX1_chunkPixel_50 : decode cX1_chunkPixel 50 = .ok (.iload_n 2, 1) := by decide +kernel
theorem dX1_chunkPixel_51 : decode cX1_chunkPixel 51 = .ok (.sipush 128, 3) := by decide +kernel
theorem dX1_chunkPixel_54 : decode cX1_chunkPixel 54 = .ok (.if_icmp .ge 28, 3) := by decide +kernel
theorem dX1_chunkPixel_57 : decode cX1_chunkPixel 57 = .ok (.aload_n 0, 1) := by decide +kernel
theorem dX1_chunkPixel_58 : decode cX1_chunkPixel 58 = .ok (.iload_n 2, 1) := by decide +kernel
theorem dX1_chunkPixel_59 : decode cX1_chunkPixel 59 = .ok (.bipush 16, 2) := by decide +kernel
theorem dX1_chunkPixel_61 : decode cX1_chunkPixel 61 = .ok (.idiv, 1) := by decide +kernel
theorem dX1_chunkPixel_62 : decode cX1_chunkPixel 62 = .ok (.iconst 4, 1) := by decide +kernel
theorem dX1_chunkPixel_63 : decode cX1_chunkPixel 63 = .ok (.irem, 1) := by decide +kernel
theorem dX1_chunkPixel_64 : decode cX1_chunkPixel 64 = .ok (.iconst 2, 1) := by decide +kernel
theorem dX1_chunkPixel_65 : decode cX1_chunkPixel 65 = .ok (.isub, 1) := by decide +kernel
theorem dX1_chunkPixel_66 : decode cX1_chunkPixel 66 = .ok (.iload_n 2, 1) := by decide +kernel
theorem dX1_chunkPixel_67 : decode cX1_chunkPixel 67 = .ok (.iconst 4, 1) := by decide +kernel
theorem dX1_chunkPixel_68 : decode cX1_chunkPixel 68 = .ok (.idiv, 1) := by decide +kernel
theorem dX1_chunkPixel_69 : decode cX1_chunkPixel 69 = .ok (.iconst 4, 1) := by decide +kernel
theorem dX1_chunkPixel_70 : decode cX1_chunkPixel 70 = .ok (.irem, 1) := by decide +kernel
theorem dX1_chunkPixel_71 : decode cX1_chunkPixel 71 = .ok (.iconst 2, 1) := by decide +kernel
theorem dX1_chunkPixel_72 : decode cX1_chunkPixel 72 = .ok (.isub, 1) := by decide +kernel
theorem dX1_chunkPixel_73 : decode cX1_chunkPixel 73 = .ok (.iload_n 2, 1) := by decide +kernel
theorem dX1_chunkPixel_74 : decode cX1_chunkPixel 74 = .ok (.iconst 4, 1) := by decide +kernel
theorem dX1_chunkPixel_75 : decode cX1_chunkPixel 75 = .ok (.irem, 1) := by decide +kernel
theorem dX1_chunkPixel_76 : decode cX1_chunkPixel 76 = .ok (.iconst 2, 1) := by decide +kernel
theorem dX1_chunkPixel_77 : decode cX1_chunkPixel 77 = .ok (.isub, 1) := by decide +kernel
theorem dX1_chunkPixel_78 : decode cX1_chunkPixel 78 = .ok (.invokevirtual 137, 3) := by decide +kernel
theorem dX1_chunkPixel_81 : decode cX1_chunkPixel 81 = .ok (.ireturn, 1) := by decide +kernel
theorem dX1_chunkPixel_82 : decode cX1_chunkPixel 82 = .ok (.aload_n 1, 1) := by decide +kernel
theorem dX1_chunkPixel_83 : decode cX1_chunkPixel 83 = .ok (.invokevirtual 113, 3) := by decide +kernel
theorem dX1_chunkPixel_86 : decode cX1_chunkPixel 86 = .ok (.istore_n 3, 1) := by decide +kernel
theorem dX1_chunkPixel_87 : decode cX1_chunkPixel 87 = .ok (.iload_n 2, 1) := by decide +kernel
theorem dX1_chunkPixel_88 : decode cX1_chunkPixel 88 = .ok (.sipush 160, 3) := by decide +kernel
theorem dX1_chunkPixel_91 : decode cX1_chunkPixel 91 = .ok (.isub, 1) := by decide +kernel
theorem dX1_chunkPixel_92 : decode cX1_chunkPixel 92 = .ok (.istore 4, 2) := by decide +kernel
theorem dX1_chunkPixel_94 : decode cX1_chunkPixel 94 = .ok (.aload_n 0, 1) := by decide +kernel
theorem dX1_chunkPixel_95 : decode cX1_chunkPixel 95 = .ok (.iload 4, 2) := by decide +kernel
theorem dX1_chunkPixel_97 : decode cX1_chunkPixel 97 = .ok (.iload_n 3, 1) := by decide +kernel
theorem dX1_chunkPixel_98 : decode cX1_chunkPixel 98 = .ok (.bipush 16, 2) := by decide +kernel
theorem dX1_chunkPixel_100 : decode cX1_chunkPixel 100 = .ok (.idiv, 1) := by decide +kernel
theorem dX1_chunkPixel_101 : decode cX1_chunkPixel 101 = .ok (.iadd, 1) := by decide +kernel
theorem dX1_chunkPixel_102 : decode cX1_chunkPixel 102 = .ok (.bipush 8, 2) := by decide +kernel
theorem dX1_chunkPixel_104 : decode cX1_chunkPixel 104 = .ok (.isub, 1) := by decide +kernel
theorem dX1_chunkPixel_105 : decode cX1_chunkPixel 105 = .ok (.iload 4, 2) := by decide +kernel
theorem dX1_chunkPixel_107 : decode cX1_chunkPixel 107 = .ok (.iload 4, 2) := by decide +kernel
theorem dX1_chunkPixel_109 : decode cX1_chunkPixel 109 = .ok (.iload_n 3, 1) := by decide +kernel
theorem dX1_chunkPixel_110 : decode cX1_chunkPixel 110 = .ok (.bipush 16, 2) := by decide +kernel
theorem dX1_chunkPixel_112 : decode cX1_chunkPixel 112 = .ok (.irem, 1) := by decide +kernel
theorem dX1_chunkPixel_113 : decode cX1_chunkPixel 113 = .ok (.iadd, 1) := by decide +kernel
theorem dX1_chunkPixel_114 : decode cX1_chunkPixel 114 = .ok (.bipush 8, 2) := by decide +kernel
theorem dX1_chunkPixel_116 : decode cX1_chunkPixel 116 = .ok (.isub, 1) := by decide +kernel
theorem dX1_chunkPixel_117 : decode cX1_chunkPixel 117 = .ok (.invokevirtual 137, 3) := by decide +kernel
theorem dX1_chunkPixel_120 : decode cX1_chunkPixel 120 = .ok (.ireturn, 1) := by decide +kernel
set_option maxRecDepth 20000 in
theorem ggX1_lastPlus_X8_red : GoodIn wsX1_lastPlus wsX8_red := goodIn_r _ [4] (by decide +kernel) (by decide +kernel)
set_option maxRecDepth 20000 in
theorem gX1_lastPlus_X8_red_n29 : GoodIn wsX1_lastPlus (wsX8_red) := ggX1_lastPlus_X8_red
set_option maxRecDepth 20000 in
theorem ggX1_lastPlus_X8_green : GoodIn wsX1_lastPlus wsX8_green := goodIn_r _ [6] (by decide +kernel) (by decide +kernel)
set_option maxRecDepth 20000 in
theorem gX1_lastPlus_X8_green_n33 : GoodIn wsX1_lastPlus (wsX8_green) := ggX1_lastPlus_X8_green
set_option maxRecDepth 20000 in
theorem ggX1_lastPlus_X8_blue : GoodIn wsX1_lastPlus wsX8_blue := goodIn_r _ [8] (by decide +kernel) (by decide +kernel)
set_option maxRecDepth 20000 in
theorem gX1_lastPlus_X8_blue_n36 : GoodIn wsX1_lastPlus (wsX8_blue) := ggX1_lastPlus_X8_blue
set_option maxRecDepth 20000 in
theorem ggX1_lastPlus_X8_alpha : GoodIn wsX1_lastPlus wsX8_alpha := goodIn_r _ [10] (by decide +kernel) (by decide +kernel)
set_option maxRecDepth 20000 in
theorem gX1_lastPlus_X8_alpha_n39 : GoodIn wsX1_lastPlus (wsX8_alpha) := ggX1_lastPlus_X8_alpha
set_option maxRecDepth 20000 in
theorem ggX1_lastPlus_X8_colour : GoodIn wsX1_lastPlus wsX8_colour := goodIn_r _ [12] (by decide +kernel) (by decide +kernel)
set_option maxRecDepth 20000 in
theorem gX1_lastPlus_X8_colour_n140 : GoodIn wsX1_lastPlus (wsX8_colour) := ggX1_lastPlus_X8_colour
theorem dX1_lastPlus_0 : decode cX1_lastPlus 0 = .ok (.aload_n 0, 1) := by decide +kernel
theorem dX1_lastPlus_1 : decode cX1_lastPlus 1 = .ok (.getfield 25, 3) := by decide +kernel
theorem dX1_lastPlus_4 : decode cX1_lastPlus 4 = .ok (.invokestatic 29, 3) := by decide +kernel
theorem dX1_lastPlus_7 : decode cX1_lastPlus 7 = .ok (.iload_n 1, 1) := by decide +kernel
theorem dX1_lastPlus_8 : decode cX1_lastPlus 8 = .ok (.iadd, 1) := by decide +kernel
