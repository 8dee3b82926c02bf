theorem dX1_lastPlus_9 : decode cX1_lastPlus 9 = .ok (.sipush 255, 3) := by decide +kernel
theorem dX1_lastPlus_12 : decode cX1_lastPlus 12 = .ok (.iand, 1) := by decide +kernel
theorem dX1_lastPlus_13 : decode cX1_lastPlus 13 = .ok (.aload_n 0, 1) := by decide +kernel
theorem dX1_lastPlus_14 : decode cX1_lastPlus 14 = .ok (.getfield 25, 3) := by decide +kernel
theorem dX1_lastPlus_17 : decode cX1_lastPlus 17 = .ok (.invokestatic 33, 3) := by decide +kernel
theorem dX1_lastPlus_20 : decode cX1_lastPlus 20 = .ok (.iload_n 2, 1) := by decide +kernel
theorem dX1_lastPlus_21 : decode cX1_lastPlus 21 = .ok (.iadd, 1) := by decide +kernel
theorem dX1_lastPlus_22 : decode cX1_lastPlus 22 = .ok (.sipush 255, 3) := by decide +kernel
theorem dX1_lastPlus_25 : decode cX1_lastPlus 25 = .ok (.iand, 1) := by decide +kernel
theorem dX1_lastPlus_26 : decode cX1_lastPlus 26 = .ok (.aload_n 0, 1) := by decide +kernel
theorem dX1_lastPlus_27 : decode cX1_lastPlus 27 = .ok (.getfield 25, 3) := by decide +kernel
theorem dX1_lastPlus_30 : decode cX1_lastPlus 30 = .ok (.invokestatic 36, 3) := by decide +kernel
theorem dX1_lastPlus_33 : decode cX1_lastPlus 33 = .ok (.iload_n 3, 1) := by decide +kernel
theorem dX1_lastPlus_34 : decode cX1_lastPlus 34 = .ok (.iadd, 1) := by decide +kernel
theorem dX1_lastPlus_35 : decode cX1_lastPlus 35 = .ok (.sipush 255, 3) := by decide +kernel
theorem dX1_lastPlus_38 : decode cX1_lastPlus 38 = .ok (.iand, 1) := by decide +kernel
theorem dX1_lastPlus_39 : decode cX1_lastPlus 39 = .ok (.aload_n 0, 1) := by decide +kernel
theorem dX1_lastPlus_40 : decode cX1_lastPlus 40 = .ok (.getfield 25, 3) := by decide +kernel
theorem dX1_lastPlus_43 : decode cX1_lastPlus 43 = .ok (.invokestatic 39, 3) := by decide +kernel
theorem dX1_lastPlus_46 : decode cX1_lastPlus 46 = .ok (.invokestatic 140, 3) := by decide +kernel
theorem dX1_lastPlus_49 : decode cX1_lastPlus 49 = .ok (.ireturn, 1) := by decide +kernel
theorem dX2_init_0 : decode cX2_init 0 = .ok (.aload_n 0, 1) := by decide +kernel
theorem dX2_init_1 : decode cX2_init 1 = .ok (.invokespecial 3, 3) := by decide +kernel
theorem dX2_init_4 : decode cX2_init 4 = .ok (.aload_n 0, 1) := by decide +kernel
theorem dX2_init_5 : decode cX2_init 5 = .ok (.sipush 800, 3) := by decide +kernel
theorem dX2_init_8 : decode cX2_init 8 = .ok (.newarray .int, 2) := by decide +kernel
theorem dX2_init_10 : decode cX2_init 10 = .ok (.putfield 9, 3) := by decide +kernel
theorem dX2_init_13 : decode cX2_init 13 = .ok (.return_, 1) := by decide +kernel
theorem dX2_at_0 : decode cX2_at 0 = .ok (.iload_n 1, 1) := by decide +kernel
theorem dX2_at_1 : decode cX2_at 1 = .ok (.ifCond .lt 20, 3) := by decide +kernel
theorem dX2_at_4 : decode cX2_at 4 = .ok (.iload_n 1, 1) := by decide +kernel
theorem dX2_at_5 : decode cX2_at 5 = .ok (.aload_n 0, 1) := by decide +kernel
theorem dX2_at_6 : decode cX2_at 6 = .ok (.getfield 15, 3) := by decide +kernel
theorem dX2_at_9 : decode cX2_at 9 = .ok (.if_icmp .ge 12, 3) := by decide +kernel
theorem dX2_at_12 : decode cX2_at 12 = .ok (.aload_n 0, 1) := by decide +kernel
theorem dX2_at_13 : decode cX2_at 13 = .ok (.getfield 9, 3) := by decide +kernel
theorem dX2_at_16 : decode cX2_at 16 = .ok (.iload_n 1, 1) := by decide +kernel
theorem dX2_at_17 : decode cX2_at 17 = .ok (.iaload, 1) := by decide +kernel
theorem dX2_at_18 : decode cX2_at 18 = .ok (.goto 4, 3) := by decide +kernel
theorem dX2_at_21 : decode cX2_at 21 = .ok (.iconst (-1), 1) := by decide +kernel
theorem dX2_at_22 : decode cX2_at 22 = .ok (.ireturn, 1) := by decide +kernel
theorem dX2_append_0 : decode cX2_append 0 = .ok (.aload_n 0, 1) := by decide +kernel
theorem dX2_append_1 : decode cX2_append 1 = .ok (.getfield 15, 3) := by decide +kernel
theorem dX2_append_4 : decode cX2_append 4 = .ok (.sipush 800, 3) := by decide +kernel
theorem dX2_append_7 : decode cX2_append 7 = .ok (.if_icmp .lt 5, 3) := by decide +kernel
theorem dX2_append_10 : decode cX2_append 10 = .ok (.iconst 0, 1) := by decide +kernel
theorem dX2_append_11 : decode cX2_append 11 = .ok (.ireturn, 1) := by decide +kernel
theorem dX2_append_12 : decode cX2_append 12 = .ok (.aload_n 0, 1) := by decide +kernel
theorem dX2_append_13 : decode cX2_append 13 = .ok (.getfield 9, 3) := by decide +kernel
theorem dX2_append_16 : decode cX2_append 16 = .ok (.aload_n 0, 1) := by decide +kernel
theorem dX2_append_17 : decode cX2_append 17 = .ok (.getfield 15, 3) := by decide +kernel
theorem dX2_append_20 : decode cX2_append 20 = .ok (.iload_n 1, 1) := by decide +kernel
theorem dX2_append_21 : decode cX2_append 21 = .ok (.iastore, 1) := by decide +kernel
theorem dX2_append_22 : decode cX2_append 22 = .ok (.aload_n 0, 1) := by decide +kernel
theorem dX2_append_23 : decode cX2_append 23 = .ok (.dup, 1) := by decide +kernel
theorem dX2_append_24 : decode cX2_append 24 = .ok (.getfield 15, 3) := by decide +kernel
theorem dX2_append_27 : decode cX2_append 27 = .ok (.iconst 1, 1) := by decide +kernel
theorem dX2_append_28 : decode cX2_append 28 = .ok (.iadd, 1) := by decide +kernel
theorem dX2_append_29 : decode cX2_append 29 = .ok (.putfield 15, 3) := by decide +kernel
theorem dX2_append_32 : decode cX2_append 32 = .ok (.iconst 1, 1) := by decide +kernel
theorem dX2_append_33 : decode cX2_append 33 = .ok (.ireturn, 1) := by decide +kernel
set_option maxRecDepth 20000 in
theorem ggX2_appendZeros_X2_append : GoodIn wsX2_appendZeros wsX2_append := goodIn_r _ [5, 6, 7, 8, 9] (by decide +kernel) (by decide +kernel)
set_option maxRecDepth 20000 in
theorem gX2_appendZeros_X2_append : GoodIn wsX2_appendZeros (wsV RX2 19 RX2 yX2_append wsX2_append) := goodIn_app (goodIn_of _ (by decide +kernel)) ggX2_appendZeros_X2_append
theorem dX2_appendZeros_0 : decode cX2_appendZeros 0 = .ok (.iconst 0, 1) := by decide +kernel
theorem dX2_appendZeros_1 : decode cX2_appendZeros 1 = .ok (.istore_n 2, 1) := by decide +kernel
theorem dX2_appendZeros_2 : decode cX2_appendZeros 2 = .ok (.iload_n 2, 1) := by decide +kernel
theorem dX2_appendZeros_3 : decode cX2_appendZeros 3 = .ok (.iload_n 1, 1) := by decide +kernel
theorem dX2_appendZeros_4 : decode cX2_appendZeros 4 = .ok (.if_icmp .ge 15, 3) := by decide +kernel
theorem dX2_appendZeros_7 : decode cX2_appendZeros 7 = .ok (.aload_n 0, 1) := by decide +kernel
theorem dX2_appendZeros_8 : decode cX2_appendZeros 8 = .ok (.iconst 0, 1) := by decide +kernel
theorem dX2_appendZeros_9 : decode cX2_appendZeros 9 = .ok (.invokevirtual 19, 3) := by decide +kernel
theorem dX2_appendZeros_12 : decode cX2_appendZeros 12 = .ok (.pop, 1) := by decide +kernel
theorem dX2_appendZeros_13 : decode cX2_appendZeros 13 = .ok (.iinc 2 1, 3) := by decide +kernel
theorem dX2_appendZeros_16 : decode cX2_appendZeros 16 = .ok (.goto (-14), 3) := by decide +kernel
theorem dX2_appendZeros_19 : decode cX2_appendZeros 19 = .ok (.return_, 1) := by decide +kernel
set_option maxRecDepth 20000 in
theorem ggX2_appendLittle_X2_append : GoodIn wsX2_appendLittle wsX2_append := goodIn_r _ [5, 6, 7, 8, 9] (by decide +kernel) (by decide +kernel)
set_option maxRecDepth 20000 in
theorem gX2_appendLittle_X2_append : GoodIn wsX2_appendLittle (wsV RX2 19 RX2 yX2_append wsX2_append) := goodIn_app (goodIn_of _ (by decide +kernel)) ggX2_appendLittle_X2_append
theorem dX2_appendLittle_0 : decode cX2_appendLittle 0 = .ok (.iconst 0, 1) := by decide +kernel
theorem dX2_appendLittle_1 : decode cX2_appendLittle 1 = .ok (.istore_n 3, 1) := by decide +kernel
theorem dX2_appendLittle_2 : decode cX2_appendLittle 2 = .ok (.iload_n 3, 1) := by decide +kernel
theorem dX2_appendLittle_3 : decode cX2_appendLittle 3 = .ok (.iload_n 1, 1) := by decide +kernel
theorem dX2_appendLittle_4 : decode cX2_appendLittle 4 = .ok (.if_icmp .ge 24, 3) := by decide +kernel
theorem dX2_appendLittle_7 : decode cX2_appendLittle 7 = .ok (.aload_n 0, 1) := by decide +kernel
theorem dX2_appendLittle_8 : decode cX2_appendLittle 8 = .ok (.iload_n 2, 1) := by decide +kernel
theorem dX2_appendLittle_9 : decode cX2_appendLittle 9 = .ok (.bipush 8, 2) := by decide +kernel
theorem dX2_appendLittle_11 : decode cX2_appendLittle 11 = .ok (.iload_n 3, 1) := by decide +kernel
theorem dX2_appendLittle_12 : decode cX2_appendLittle 12 = .ok (.imul, 1) := by decide +kernel
theorem dX2_appendLittle_13 : decode cX2_appendLittle 13 = .ok (.iushr, 1) := by decide +kernel
theorem dX2_appendLittle_14 : decode cX2_appendLittle 14 = .ok (.sipush 255, 3) := by decide +kernel
theorem dX2_appendLittle_17 : decode cX2_appendLittle 17 = .ok (.iand, 1) := by decide +kernel
theorem dX2_appendLittle_18 : decode cX2_appendLittle 18 = .ok (.invokevirtual 19, 3) := by decide +kernel
theorem dX2_appendLittle_21 : decode cX2_appendLittle 21 = .ok (.pop, 1) := by decide +kernel
theorem dX2_appendLittle_22 : decode cX2_appendLittle 22 = .ok (.iinc 3 1, 3) := by decide +kernel
theorem dX2_appendLittle_25 : decode cX2_appendLittle 25 = .ok (.goto (-23), 3) := by decide +kernel
theorem dX2_appendLittle_28 : decode cX2_appendLittle 28 = .ok (.return_, 1) := by decide +kernel
set_option maxRecDepth 20000 in
theorem ggX2_appendBig_X2_append : GoodIn wsX2_appendBig wsX2_append := goodIn_r _ [5, 6, 7, 8, 9] (by decide +kernel) (by decide +kernel)
set_option maxRecDepth 20000 in
theorem gX2_appendBig_X2_append : GoodIn wsX2_appendBig (wsV RX2 19 RX2 yX2_append wsX2_append) := goodIn_app (goodIn_of _ (by decide +kernel)) ggX2_appendBig_X2_append
theorem dX2_appendBig_0 : decode cX2_appendBig 0 = .ok (.iload_n 1, 1) := by decide +kernel
theorem dX2_appendBig_1 : decode cX2_appendBig 1 = .ok (.iconst 1, 1) := by decide +kernel
theorem dX2_appendBig_2 : decode cX2_appendBig 2 = .ok (.isub, 1) := by decide +kernel
theorem dX2_appendBig_3 : decode cX2_appendBig 3 = .ok (.istore_n 3, 1) := by decide +kernel
theorem dX2_appendBig_4 : decode cX2_appendBig 4 = .ok (.iload_n 3, 1) := by decide +kernel
theorem dX2_appendBig_5 : decode cX2_appendBig 5 = .ok (.ifCond .lt 24, 3) := by decide +kernel
theorem dX2_appendBig_8 : decode cX2_appendBig 8 = .ok (.aload_n 0, 1) := by decide +kernel
theorem dX2_appendBig_9 : decode cX2_appendBig 9 = .ok (.iload_n 2, 1) := by decide +kernel
theorem dX2_appendBig_10 : decode cX2_appendBig 10 = .ok (.bipush 8, 2) := by decide +kernel
theorem dX2_appendBig_12 : decode cX2_appendBig 12 = .ok (.iload_n 3, 1) := by decide +kernel
theorem dX2_appendBig_13 : decode cX2_appendBig 13 = .ok (.imul, 1) := by decide +kernel
theorem dX2_appendBig_14 : decode cX2_appendBig 14 = .ok (.iushr, 1) := by decide +kernel
theorem dX2_appendBig_15 : decode cX2_appendBig 15 = .ok (.sipush 255, 3) := by decide +kernel
theorem dX2_appendBig_18 : decode cX2_appendBig 18 = .ok (.iand, 1) := by decide +kernel
theorem dX2_appendBig_19 : decode cX2_appendBig 19 = .ok (.invokevirtual 19, 3) := by decide +kernel
theorem dX2_appendBig_22 : decode cX2_appendBig 22 = .ok (.pop, 1) := by decide +kernel
theorem dX2_appendBig_23 : decode cX2_appendBig 23 = .ok (.iinc 3 (-1), 3) := by decide +kernel
theorem dX2_appendBig_26 : decode cX2_appendBig 26 = .ok (.goto (-22), 3) := by decide +kernel
theorem dX2_appendBig_29 : decode cX2_appendBig 29 = .ok (.return_, 1) := by decide +kernel
set_option maxRecDepth 20000 in
theorem ggX2_appendDigits_X2_append : GoodIn wsX2_appendDigits wsX2_append := goodIn_r _ [5, 6, 7, 8, 9] (by decide +kernel) (by decide +kernel)
set_option maxRecDepth 20000 in
theorem gX2_appendDigits_X2_append : GoodIn wsX2_appendDigits (wsV RX2 19 RX2 yX2_append wsX2_append) := goodIn_app (goodIn_of _ (by decide +kernel)) ggX2_appendDigits_X2_append
theorem dX2_appendDigits_0 : decode cX2_appendDigits 0 = .ok (.iload_n 1, 1) := by decide +kernel
theorem dX2_appendDigits_1 : decode cX2_appendDigits 1 = .ok (.bipush 100, 2) := by decide +kernel
theorem dX2_appendDigits_3 : decode cX2_appendDigits 3 = .ok (.if_icmp .lt 18, 3) := by decide +kernel
theorem dX2_appendDigits_6 : decode cX2_appendDigits 6 = .ok (.aload_n 0, 1) := by decide +kernel
theorem dX2_appendDigits_7 : decode cX2_appendDigits 7 = .ok (.bipush 48, 2) := by decide +kernel
theorem dX2_appendDigits_9 : decode cX2_appendDigits 9 = .ok (.iload_n 1, 1) := by decide +kernel
theorem dX2_appendDigits_10 : decode cX2_appendDigits 10 = .ok (.bipush 100, 2) := by decide +kernel
theorem dX2_appendDigits_12 : decode cX2_appendDigits 12 = .ok (.idiv, 1) := by decide +kernel
theorem dX2_appendDigits_13 : decode cX2_appendDigits 13 = .ok (.bipush 10, 2) := by decide +kernel
theorem dX2_appendDigits_15 : decode cX2_appendDigits 15 = .ok (.irem, 1) := by decide +kernel
theorem dX2_appendDigits_16 : decode cX2_appendDigits 16 = .ok (.iadd, 1) := by decide +kernel
theorem dX2_appendDigits_17 : decode cX2_appendDigits 17 = .ok (.invokevirtual 19, 3) := by decide +kernel
theorem dX2_appendDigits_20 : decode cX2_appendDigits 20 = .ok (.pop, 1) := by decide +kernel
theorem dX2_appendDigits_21 : decode cX2_appendDigits 21 = .ok (.iload_n 1, 1) := by decide +kernel
theorem dX2_appendDigits_22 : decode cX2_appendDigits 22 = .ok (.bipush 10, 2) := by decide +kernel
theorem dX2_appendDigits_24 : decode cX2_appendDigits 24 = .ok (.if_icmp .lt 18, 3) := by decide +kernel
theorem dX2_appendDigits_27 : decode cX2_appendDigits 27 = .ok (.aload_n 0, 1) := by decide +kernel
theorem dX2_appendDigits_28 : decode cX2_appendDigits 28 = .ok (.bipush 48, 2) := by decide +kernel
theorem dX2_appendDigits_30 : decode cX2_appendDigits 30 = .ok (.iload_n 1, 1) := by decide +kernel
theorem dX2_appendDigits_31 : decode cX2_appendDigits 31 = .ok (.bipush 10, 2) := by decide +kernel
theorem dX2_appendDigits_33 : decode cX2_appendDigits 33 = .ok (.idiv, 1) := by decide +kernel
theorem dX2_appendDigits_34 : decode cX2_appendDigits 34 = .ok (.bipush 10, 2) := by decide +kernel
theorem dX2_appendDigits_36 : decode cX2_appendDigits 36 = .ok (.irem, 1) := by decide +kernel
theorem dX2_appendDigits_37 : decode cX2_appendDigits 37 = .ok (.iadd, 1) := by decide +kernel
theorem dX2_appendDigits_38 : decode cX2_appendDigits 38 = .ok (.invokevirtual 19, 3) := by decide +kernel
theorem dX2_appendDigits_41 : decode cX2_appendDigits 41 = .ok (.pop, 1) := by decide +kernel
theorem dX2_appendDigits_42 : decode cX2_appendDigits 42 = .ok (.aload_n 0, 1) := by decide +kernel
theorem dX2_appendDigits_43 : decode cX2_appendDigits 43 = .ok (.bipush 48, 2) := by decide +kernel
theorem dX2_appendDigits_45 : decode cX2_appendDigits 45 = .ok (.iload_n 1, 1) := by decide +kernel
theorem dX2_appendDigits_46 : decode cX2_appendDigits 46 = .ok (.bipush 10, 2) := by decide +kernel
theorem dX2_appendDigits_48 : decode cX2_appendDigits 48 = .ok (.irem, 1) := by decide +kernel
theorem dX2_appendDigits_49 : decode cX2_appendDigits 49 = .ok (.iadd, 1) := by decide +kernel
theorem dX2_appendDigits_50 : decode cX2_appendDigits 50 = .ok (.invokevirtual 19, 3) := by decide +kernel
theorem dX2_appendDigits_53 : decode cX2_appendDigits 53 = .ok (.pop, 1) := by decide +kernel
theorem dX2_appendDigits_54 : decode cX2_appendDigits 54 = .ok (.return_, 1) := by decide +kernel
set_option maxRecDepth 20000 in
theorem ggX2_appendBlueGreenRed_X8_blue : GoodIn wsX2_appendBlueGreenRed wsX8_blue := goodIn_r _ [3] (by decide +kernel) (by decide +kernel)
set_option maxRecDepth 20000 in
theorem gX2_appendBlueGreenRed_X8_blue_n23 : GoodIn wsX2_appendBlueGreenRed (wsX8_blue) := ggX2_appendBlueGreenRed_X8_blue
set_option maxRecDepth 20000 in
theorem ggX2_appendBlueGreenRed_X2_append : GoodIn wsX2_appendBlueGreenRed wsX2_append := goodIn_r _ [8, 9, 10, 15, 16] (by decide +kernel) (by decide +kernel)
set_option maxRecDepth 20000 in
theorem gX2_appendBlueGreenRed_X2_append : GoodIn wsX2_appendBlueGreenRed (wsV RX2 19 RX2 yX2_append wsX2_append) := goodIn_app (goodIn_of _ (by decide +kernel)) ggX2_appendBlueGreenRed_X2_append
set_option maxRecDepth 20000 in
theorem ggX2_appendBlueGreenRed_X8_green : GoodIn wsX2_appendBlueGreenRed wsX8_green := goodIn_r _ [12] (by decide +kernel) (by decide +kernel)
set_option maxRecDepth 20000 in
theorem gX2_appendBlueGreenRed_X8_green_n27 : GoodIn wsX2_appendBlueGreenRed (wsX8_green) := ggX2_appendBlueGreenRed_X8_green
set_option maxRecDepth 20000 in
theorem ggX2_appendBlueGreenRed_X8_red : GoodIn wsX2_appendBlueGreenRed wsX8_red := goodIn_r _ [14] (by decide +kernel) (by decide +kernel)
set_option maxRecDepth 20000 in
theorem gX2_appendBlueGreenRed_X8_red_n30 : GoodIn wsX2_appendBlueGreenRed (wsX8_red) := ggX2_appendBlueGreenRed_X8_red
theorem dX2_appendBlueGreenRed_0 : decode cX2_appendBlueGreenRed 0 = .ok (.aload_n 0, 1) := by decide +kernel
theorem dX2_appendBlueGreenRed_1 : decode cX2_appendBlueGreenRed 1 = .ok (.iload_n 1, 1) := by decide +kernel
theorem dX2_appendBlueGreenRed_2 : decode cX2_appendBlueGreenRed 2 = .ok (.invokestatic 23, 3) := by decide +kernel
theorem dX2_appendBlueGreenRed_5 : decode cX2_appendBlueGreenRed 5 = .ok (.invokevirtual 19, 3) := by decide +kernel
theorem dX2_appendBlueGreenRed_8 : decode cX2_appendBlueGreenRed 8 = .ok (.pop, 1) := by decide +kernel
theorem dX2_appendBlueGreenRed_9 : decode cX2_appendBlueGreenRed 9 = .ok (.aload_n 0, 1) := by decide +kernel
theorem dX2_appendBlueGreenRed_10 : decode cX2_appendBlueGreenRed 10 = .ok (.iload_n 1, 1) := by decide +kernel
theorem dX2_appendBlueGreenRed_11 : decode cX2_appendBlueGreenRed 11 = .ok (.invokestatic 27, 3) := by decide +kernel
theorem dX2_appendBlueGreenRed_14 : decode cX2_appendBlueGreenRed 14 = .ok (.invokevirtual 19, 3) := by decide +kernel
theorem dX2_appendBlueGreenRed_17 : decode cX2_appendBlueGreenRed 17 = .ok (.pop, 1) := by decide +kernel
theorem dX2_appendBlueGreenRed_18 : decode cX2_appendBlueGreenRed 18 = .ok (.aload_n 0, 1) := by decide +kernel
theorem dX2_appendBlueGreenRed_19 : decode cX2_appendBlueGreenRed 19 = .ok (.iload_n 1, 1) := by decide +kernel
theorem dX2_appendBlueGreenRed_20 : decode cX2_appendBlueGreenRed 20 = .ok (.invokestatic 30, 3) := by decide +kernel
theorem dX2_appendBlueGreenRed_23 : decode cX2_appendBlueGreenRed 23 = .ok (.invokevirtual 19, 3) := by decide +kernel
theorem dX2_appendBlueGreenRed_26 : decode cX2_appendBlueGreenRed 26 = .ok (.pop, 1) := by decide +kernel
theorem dX2_appendBlueGreenRed_27 : decode cX2_appendBlueGreenRed 27 = .ok (.return_, 1) := by decide +kernel
theorem dX3_init_0 : decode cX3_init 0 = .ok (.aload_n 0, 1) := by decide +kernel
theorem dX3_init_1 : decode cX3_init 1 = .ok (.invokespecial 1, 3) := by decide +kernel
theorem dX3_init_4 : decode cX3_init 4 = .ok (.return_, 1) := by decide +kernel
set_option maxRecDepth 20000 in
theorem ggX4_init_X3_init : GoodIn wsX4_init wsX3_init := goodIn_r _ [3, 4, 5, 6] (by decide +kernel) (by decide +kernel)
set_option maxRecDepth 20000 in
theorem gX4_init_X3_init_n1 : GoodIn wsX4_init (wsX3_init) := ggX4_init_X3_init
theorem dX4_init_0 : decode cX4_init 0 = .ok (.aload_n 0, 1) := by decide +kernel
theorem dX4_init_1 : decode cX4_init 1 = .ok (.invokespecial 1, 3) := by decide +kernel
theorem dX4_init_4 : decode cX4_init 4 = .ok (.return_, 1) := by decide +kernel
set_option maxRecDepth 20000 in
theorem ggX4_isThatOf_X2_at : GoodIn wsX4_isThatOf wsX2_at := goodIn_r _ [5, 6, 7, 8, 9] (by decide +kernel) (by decide +kernel)
set_option maxRecDepth 20000 in
theorem gX4_isThatOf_X2_at : GoodIn wsX4_isThatOf (wsV RX4 15 RX2 yX2_at wsX2_at) := goodIn_app (goodIn_of _ (by decide +kernel)) ggX4_isThatOf_X2_at
theorem dX4_isThatOf_0 : decode cX4_isThatOf 0 = .ok (.aload_n 1, 1) := by decide +kernel
theorem dX4_isThatOf_1 : decode cX4_isThatOf 1 = .ok (.getfield 7, 3) := by decide +kernel
theorem dX4_isThatOf_4 : decode cX4_isThatOf 4 = .ok (.bipush 18, 2) := by decide +kernel
theorem dX4_isThatOf_6 : decode cX4_isThatOf 6 = .ok (.if_icmp .lt 11, 3) := by decide +kernel
theorem dX4_isThatOf_9 : decode cX4_isThatOf 9 = .ok (.aload_n 1, 1) := by decide +kernel
theorem dX4_isThatOf_10 : decode cX4_isThatOf 10 = .ok (.iconst 1, 1) := by decide +kernel
theorem dX4_isThatOf_11 : decode cX4_isThatOf 11 = .ok (.invokevirtual 15, 3) := by decide +kernel
theorem dX4_isThatOf_14 : decode cX4_isThatOf 14 = .ok (.ifCond .eq 5, 3) := by decide +kernel
theorem dX4_isThatOf_17 : decode cX4_isThatOf 17 = .ok (.iconst 0, 1) := by decide +kernel
theorem dX4_isThatOf_18 : decode cX4_isThatOf 18 = .ok (.ireturn, 1) := by decide +kernel
theorem dX4_isThatOf_19 : decode cX4_isThatOf 19 = .ok (.aload_n 1, 1) := by decide +kernel
theorem dX4_isThatOf_20 : decode cX4_isThatOf 20 = .ok (.iconst 2, 1) := by decide +kernel
theorem dX4_isThatOf_21 : decode cX4_isThatOf 21 = .ok (.invokevirtual 15, 3) := by decide +kernel
theorem dX4_isThatOf_24 : decode cX4_isThatOf 24 = .ok (.istore_n 2, 1) := by decide +kernel
theorem dX4_isThatOf_25 : decode cX4_isThatOf 25 = .ok (.aload_n 1, 1) := by decide +kernel
theorem dX4_isThatOf_26 : decode cX4_isThatOf 26 = .ok (.bipush 16, 2) := by decide +kernel
theorem dX4_isThatOf_28 : decode cX4_isThatOf 28 = .ok (.invokevirtual 15, 3) := by decide +kernel
theorem dX4_isThatOf_31 : decode cX4_isThatOf 31 = .ok (.istore_n 3, 1) := by decide +kernel
theorem dX4_isThatOf_32 : decode cX4_isThatOf 32 = .ok (.iload_n 2, 1) := by decide +kernel
theorem dX4_isThatOf_33 : decode cX4_isThatOf 33 = .ok (.iconst 2, 1) := by decide +kernel
theorem dX4_isThatOf_34 : decode cX4_isThatOf 34 = .ok (.if_icmp .eq 9, 3) := by decide +kernel
theorem dX4_isThatOf_37 : decode cX4_isThatOf 37 = .ok (.iload_n 2, 1) := by decide +kernel
theorem dX4_isThatOf_38 : decode cX4_isThatOf 38 = .ok (.bipush 10, 2) := by decide +kernel
theorem dX4_isThatOf_40 : decode cX4_isThatOf 40 = .ok (.if_icmp .ne 21, 3) := by decide +kernel
theorem dX4_isThatOf_43 : decode cX4_isThatOf 43 = .ok (.iload_n 3, 1) := by decide +kernel
theorem dX4_isThatOf_44 : decode cX4_isThatOf 44 = .ok (.bipush 24, 2) := by decide +kernel
theorem dX4_isThatOf_46 : decode cX4_isThatOf 46 = .ok (.if_icmp .eq 9, 3) := by decide +kernel
theorem dX4_isThatOf_49 : decode cX4_isThatOf 49 = .ok (.iload_n 3, 1) := by decide +kernel
theorem dX4_isThatOf_50 : decode cX4_isThatOf 50 = .ok (.bipush 32, 2) := by decide +kernel
theorem dX4_isThatOf_52 : decode cX4_isThatOf 52 = .ok (.if_icmp .ne 7, 3) := by decide +kernel
theorem dX4_isThatOf_55 : decode cX4_isThatOf 55 = .ok (.iconst 1, 1) := by decide +kernel
theorem dX4_isThatOf_56 : decode cX4_isThatOf 56 = .ok (.goto 4, 3) := by decide +kernel
theorem dX4_isThatOf_59 : decode cX4_isThatOf 59 = .ok (.iconst 0, 1) := by decide +kernel
theorem dX4_isThatOf_60 : decode cX4_isThatOf 60 = .ok (.ireturn, 1) := by decide +kernel
theorem dX4_isThatOf_61 : decode cX4_isThatOf 61 = .ok (.iload_n 2, 1) := by decide +kernel
theorem dX4_isThatOf_62 : decode cX4_isThatOf 62 = .ok (.iconst 3, 1) := by decide +kernel
theorem dX4_isThatOf_63 : decode cX4_isThatOf 63 = .ok (.if_icmp .eq 9, 3) := by decide +kernel
theorem dX4_isThatOf_66 : decode cX4_isThatOf 66 = .ok (.iload_n 2, 1) := by decide +kernel
theorem dX4_isThatOf_67 : decode cX4_isThatOf 67 = .ok (.bipush 11, 2) := by decide +kernel
theorem dX4_isThatOf_69 : decode cX4_isThatOf 69 = .ok (.if_icmp .ne 13, 3) := by decide +kernel
theorem dX4_isThatOf_72 : decode cX4_isThatOf 72 = .ok (.iload_n 3, 1) := by decide +kernel
theorem dX4_isThatOf_73 : decode cX4_isThatOf 73 = .ok (.bipush 8, 2) := by decide +kernel
theorem dX4_isThatOf_75 : decode cX4_isThatOf 75 = .ok (.if_icmp .ne 7, 3) := by decide +kernel
theorem dX4_isThatOf_78 : decode cX4_isThatOf 78 = .ok (.iconst 1, 1) := by decide +kernel
theorem dX4_isThatOf_79 : decode cX4_isThatOf 79 = .ok (.goto 4, 3) := by decide +kernel
theorem dX4_isThatOf_82 : decode cX4_isThatOf 82 = .ok (.iconst 0, 1) := by decide +kernel
theorem dX4_isThatOf_83 : decode cX4_isThatOf 83 = .ok (.ireturn, 1) := by decide +kernel
theorem dX4_canHold_0 : decode cX4_canHold 0 = .ok (.iconst 1, 1) := by decide +kernel
theorem dX4_canHold_1 : decode cX4_canHold 1 = .ok (.ireturn, 1) := by decide +kernel
set_option maxRecDepth 20000 in
theorem ggX4_write_X5_isGrey : GoodIn wsX4_write wsX5_isGrey := goodIn_r _ [6, 7, 8, 9, 10, 5, 11, 12, 13, 14, 15, 16, 17, 18, 19, 20, 21, 22, 23, 24, 25, 26, 79, 80, 81] (by decide +kernel) (by decide +kernel)
set_option maxRecDepth 20000 in
theorem gX4_write_X5_isGrey : GoodIn wsX4_write (wsV RX4 19 RX5 yX5_isGrey wsX5_isGrey) := goodIn_app (goodIn_of _ (by decide +kernel)) ggX4_write_X5_isGrey
set_option maxRecDepth 20000 in
theorem ggX4_write_X5_isOpaque : GoodIn wsX4_write wsX5_isOpaque := goodIn_r _ [24, 7, 8, 9, 10, 5, 11, 12, 13, 25, 15, 26, 79, 80, 81] (by decide +kernel) (by decide +kernel)
set_option maxRecDepth 20000 in
theorem gX4_write_X5_isOpaque : GoodIn wsX4_write (wsV RX4 25 RX5 yX5_isOpaque wsX5_isOpaque) := goodIn_app (goodIn_of _ (by decide +kernel)) ggX4_write_X5_isOpaque
set_option maxRecDepth 20000 in
theorem ggX4_write_X2_appendZeros : GoodIn wsX4_write wsX2_appendZeros := goodIn_r _ [32, 33, 34, 35, 31, 36, 37, 38, 82, 83] (by decide +kernel) (by decide +kernel)
set_option maxRecDepth 20000 in
theorem gX4_write_X2_appendZeros : GoodIn wsX4_write (wsV RX4 31 RX2 yX2_appendZeros wsX2_appendZeros) := goodIn_app (goodIn_of _ (by decide +kernel)) ggX4_write_X2_appendZeros
set_option maxRecDepth 20000 in
theorem ggX4_write_X2_append : GoodIn wsX4_write wsX2_append := goodIn_r _ [36, 37, 38, 82, 83] (by decide +kernel) (by decide +kernel)
set_option maxRecDepth 20000 in
theorem gX4_write_X2_append : GoodIn wsX4_write (wsV RX4 35 RX2 yX2_append wsX2_append) := goodIn_app (goodIn_of _ (by decide +kernel)) ggX4_write_X2_append
set_option maxRecDepth 20000 in
theorem ggX4_write_X2_appendLittle : GoodIn wsX4_write wsX2_appendLittle := goodIn_r _ [43, 33, 34, 35, 31, 36, 37, 38, 82, 83] (by decide +kernel) (by decide +kernel)
set_option maxRecDepth 20000 in
theorem gX4_write_X2_appendLittle : GoodIn wsX4_write (wsV RX4 42 RX2 yX2_appendLittle wsX2_appendLittle) := goodIn_app (goodIn_of _ (by decide +kernel)) ggX4_write_X2_appendLittle
set_option maxRecDepth 20000 in
theorem ggX4_write_X4_alphaBits : GoodIn wsX4_write wsX4_alphaBits := goodIn_r _ [48, 1, 75, 76, 77, 78] (by decide +kernel) (by decide +kernel)
set_option maxRecDepth 20000 in
theorem gX4_write_X4_alphaBits : GoodIn wsX4_write (wsV RX4 49 RX4 yX4_alphaBits wsX4_alphaBits) := goodIn_app (goodIn_of _ (by decide +kernel)) ggX4_write_X4_alphaBits
set_option maxRecDepth 20000 in
theorem ggX4_write_X4_writePixels : GoodIn wsX4_write wsX4_writePixels := goodIn_r _ [52, 1, 53, 54, 55, 5, 56, 7, 12, 14, 15, 16, 39, 34, 35, 31, 36, 37, 38, 57, 58, 59, 60, 19, 20, 33, 17, 18, 25, 26, 75, 76, 77, 78, 79, 80, 81, 82, 83] (by decide +kernel) (by decide +kernel)
set_option maxRecDepth 20000 in
theorem gX4_write_X4_writePixels : GoodIn wsX4_write (wsV RX4 53 RX4 yX4_writePixels wsX4_writePixels) := goodIn_app (goodIn_of _ (by decide +kernel)) ggX4_write_X4_writePixels
set_option maxRecDepth 20000 in
theorem ggX4_write_X4_writePackets : GoodIn wsX4_write wsX4_writePackets := goodIn_r _ [64, 65, 66, 47, 67, 68, 69, 70, 5, 71, 12, 13, 53, 54, 55, 56, 7, 72, 73, 74, 39, 34, 35, 31, 36, 37, 38, 49, 50, 51, 52, 1, 14, 15, 16, 57, 58, 59, 60, 19, 20, 33, 17, 18, 25, 26, 79, 80, 81, 82, 83, 75, 76, 77, 78] (by decide +kernel) (by decide +kernel)
set_option maxRecDepth 20000 in
theorem gX4_write_X4_writePackets : GoodIn wsX4_write (wsV RX4 57 RX4 yX4_writePackets wsX4_writePackets) := goodIn_app (goodIn_of _ (by decide +kernel)) ggX4_write_X4_writePackets
theorem dX4_write_0 : decode cX4_write 0 = .ok (.aload_n 1, 1) := by decide +kernel
theorem dX4_write_1 : decode cX4_write 1 = .ok (.invokevirtual 19, 3) := by decide +kernel
theorem dX4_write_4 : decode cX4_write 4 = .ok (.istore 4, 2) := by decide +kernel
theorem dX4_write_6 : decode cX4_write 6 = .ok (.aload_n 0, 1) := by decide +kernel
theorem dX4_write_7 : decode cX4_write 7 = .ok (.iload 4, 2) := by decide +kernel
theorem dX4_write_9 : decode cX4_write 9 = .ok (.ifCond .eq 8, 3) := by decide +kernel
theorem dX4_write_12 : decode cX4_write 12 = .ok (.bipush 8, 2) := by decide +kernel
theorem dX4_write_14 : decode cX4_write 14 = .ok (.goto 17, 3) := by decide +kernel
theorem dX4_write_17 : decode cX4_write 17 = .ok (.aload_n 1, 1) := by decide +kernel
theorem dX4_write_18 : decode cX4_write 18 = .ok (.invokevirtual 25, 3) := by decide +kernel
theorem dX4_write_21 : decode cX4_write 21 = .ok (.ifCond .eq 8, 3) := by decide +kernel
theorem dX4_write_24 : decode cX4_write 24 = .ok (.bipush 24, 2) := by decide +kernel
theorem dX4_write_26 : decode cX4_write 26 = .ok (.goto 5, 3) := by decide +kernel
theorem dX4_write_29 : decode cX4_write 29 = .ok (.bipush 32, 2) := by decide +kernel
theorem dX4_write_31 : decode cX4_write 31 = .ok (.putfield 28, 3) := by decide +kernel
theorem dX4_write_34 : decode cX4_write 34 = .ok (.aload_n 3, 1) := by decide +kernel
theorem dX4_write_35 : decode cX4_write 35 = .ok (.iconst 2, 1) := by decide +kernel
theorem dX4_write_36 : decode cX4_write 36 = .ok (.invokevirtual 31, 3) := by decide +kernel
theorem dX4_write_39 : decode cX4_write 39 = .ok (.aload_n 3, 1) := by decide +kernel
theorem dX4_write_40 : decode cX4_write 40 = .ok (.iload 4, 2) := by decide +kernel
theorem dX4_write_42 : decode cX4_write 42 = .ok (.ifCond .eq 7, 3) := by decide +kernel
theorem dX4_write_45 : decode cX4_write 45 = .ok (.iconst 3, 1) := by decide +kernel
theorem dX4_write_46 : decode cX4_write 46 = .ok (.goto 4, 3) := by decide +kernel
theorem dX4_write_49 : decode cX4_write 49 = .ok (.iconst 2, 1) := by decide +kernel
theorem dX4_write_50 : decode cX4_write 50 = .ok (.iload_n 2, 1) := by decide +kernel
theorem dX4_write_51 : decode cX4_write 51 = .ok (.ifCond .ne 7, 3) := by decide +kernel
theorem dX4_write_54 : decode cX4_write 54 = .ok (.iconst 0, 1) := by decide +kernel
theorem dX4_write_55 : decode cX4_write 55 = .ok (.goto 5, 3) := by decide +kernel
theorem dX4_write_58 : decode cX4_write 58 = .ok (.bipush 8, 2) := by decide +kernel
theorem dX4_write_60 : decode cX4_write 60 = .ok (.iadd, 1) := by decide +kernel
theorem dX4_write_61 : decode cX4_write 61 = .ok (.invokevirtual 35, 3) := by decide +kernel
theorem dX4_write_64 : decode cX4_write 64 = .ok (.pop, 1) := by decide +kernel
theorem dX4_write_65 : decode cX4_write 65 = .ok (.aload_n 3, 1) := by decide +kernel
theorem dX4_write_66 : decode cX4_write 66 = .ok (.bipush 9, 2) := by decide +kernel
theorem dX4_write_68 : decode cX4_write 68 = .ok (.invokevirtual 31, 3) := by decide +kernel
theorem dX4_write_71 : decode cX4_write 71 = .ok (.aload_n 3, 1) := by decide +kernel
theorem dX4_write_72 : decode cX4_write 72 = .ok (.iconst 2, 1) := by decide +kernel
theorem dX4_write_73 : decode cX4_write 73 = .ok (.aload_n 1, 1) := by decide +kernel
theorem dX4_write_74 : decode cX4_write 74 = .ok (.getfield 39, 3) := by decide +kernel
theorem dX4_write_77 : decode cX4_write 77 = .ok (.invokevirtual 42, 3) := by decide +kernel
theorem dX4_write_80 : decode cX4_write 80 = .ok (.aload_n 3, 1) := by decide +kernel
theorem dX4_write_81 : decode cX4_write 81 = .ok (.iconst 2, 1) := by decide +kernel
theorem dX4_write_82 : decode cX4_write 82 = .ok (.aload_n 1, 1) := by decide +kernel
theorem dX4_write_83 : decode cX4_write 83 = .ok (.getfield 46, 3) := by decide +kernel
theorem dX4_write_86 : decode cX4_write 86 = .ok (.invokevirtual 42, 3) := by decide +kernel
theorem dX4_write_89 : decode cX4_write 89 = .ok (.aload_n 3, 1) := by decide +kernel
theorem dX4_write_90 : decode cX4_write 90 = .ok (.aload_n 0, 1) := by decide +kernel
theorem dX4_write_91 : decode cX4_write 91 = .ok (.getfield 28, 3) := by decide +kernel
theorem dX4_write_94 : decode cX4_write 94 = .ok (.invokevirtual 35, 3) := by decide +kernel
theorem dX4_write_97 : decode cX4_write 97 = .ok (.pop, 1) := by decide +kernel
theorem dX4_write_98 : decode cX4_write 98 = .ok (.aload_n 3, 1) := by decide +kernel
theorem dX4_write_99 : decode cX4_write 99 = .ok (.bipush 32, 2) := by decide +kernel
theorem dX4_write_101 : decode cX4_write 101 = .ok (.aload_n 0, 1) := by decide +kernel
theorem dX4_write_102 : decode cX4_write 102 = .ok (.invokevirtual 49, 3) := by decide +kernel
theorem dX4_write_105 : decode cX4_write 105 = .ok (.iadd, 1) := by decide +kernel
theorem dX4_write_106 : decode cX4_write 106 = .ok (.invokevirtual 35, 3) := by decide +kernel
theorem dX4_write_109 : decode cX4_write 109 = .ok (.pop, 1) := by decide +kernel
theorem dX4_write_110 : decode cX4_write 110 = .ok (.iconst 0, 1) := by decide +kernel
theorem dX4_write_111 : decode cX4_write 111 = .ok (.istore 5, 2) := by decide +kernel
theorem dX4_write_113 : decode cX4_write 113 = .ok (.iload 5, 2) := by decide +kernel
theorem dX4_write_115 : decode cX4_write 115 = .ok (.aload_n 1, 1) := by decide +kernel
theorem dX4_write_116 : decode cX4_write 116 = .ok (.getfield 46, 3) := by decide +kernel
theorem dX4_write_119 : decode cX4_write 119 = .ok (.if_icmp .ge 37, 3) := by decide +kernel
theorem dX4_write_122 : decode cX4_write 122 = .ok (.iload_n 2, 1) := by decide +kernel
theorem dX4_write_123 : decode cX4_write 123 = .ok (.ifCond .ne 19, 3) := by decide +kernel
theorem dX4_write_126 : decode cX4_write 126 = .ok (.aload_n 0, 1) := by decide +kernel
theorem dX4_write_127 : decode cX4_write 127 = .ok (.aload_n 1, 1) := by decide +kernel
theorem dX4_write_128 : decode cX4_write 128 = .ok (.iload 5, 2) := by decide +kernel
theorem dX4_write_130 : decode cX4_write 130 = .ok (.iconst 0, 1) := by decide +kernel
theorem dX4_write_131 : decode cX4_write 131 = .ok (.aload_n 1, 1) := by decide +kernel
theorem dX4_write_132 : decode cX4_write 132 = .ok (.getfield 39, 3) := by decide +kernel
theorem dX4_write_135 : decode cX4_write 135 = .ok (.aload_n 3, 1) := by decide +kernel
theorem dX4_write_136 : decode cX4_write 136 = .ok (.invokevirtual 53, 3) := by decide +kernel
theorem dX4_write_139 : decode cX4_write 139 = .ok (.goto 11, 3) := by decide +kernel
theorem dX4_write_142 : decode cX4_write 142 = .ok (.aload_n 0, 1) := by decide +kernel
theorem dX4_write_143 : decode cX4_write 143 = .ok (.aload_n 1, 1) := by decide +kernel
theorem dX4_write_144 : decode cX4_write 144 = .ok (.iload 5, 2) := by decide +kernel
theorem dX4_write_146 : decode cX4_write 146 = .ok (.aload_n 3, 1) := by decide +kernel
theorem dX4_write_147 : decode cX4_write 147 = .ok (.invokevirtual 57, 3) := by decide +kernel
theorem dX4_write_150 : decode cX4_write 150 = .ok (.iinc 5 1, 3) := by decide +kernel
theorem dX4_write_153 : decode cX4_write 153 = .ok (.goto (-40), 3) := by decide +kernel
theorem dX4_write_156 : decode cX4_write 156 = .ok (.return_, 1) := by decide +kernel
theorem dX4_alphaBits_0 : decode cX4_alphaBits 0 = .ok (.aload_n 0, 1) := by decide +kernel
theorem dX4_alphaBits_1 : decode cX4_alphaBits 1 = .ok (.getfield 28, 3) := by decide +kernel
theorem dX4_alphaBits_4 : decode cX4_alphaBits 4 = .ok (.bipush 32, 2) := by decide +kernel
theorem dX4_alphaBits_6 : decode cX4_alphaBits 6 = .ok (.if_icmp .ne 8, 3) := by decide +kernel
theorem dX4_alphaBits_9 : decode cX4_alphaBits 9 = .ok (.bipush 8, 2) := by decide +kernel
theorem dX4_alphaBits_11 : decode cX4_alphaBits 11 = .ok (.goto 4, 3) := by decide +kernel
theorem dX4_alphaBits_14 : decode cX4_alphaBits 14 = .ok (.iconst 0, 1) := by decide +kernel
theorem dX4_alphaBits_15 : decode cX4_alphaBits 15 = .ok (.ireturn, 1) := by decide +kernel
set_option maxRecDepth 20000 in
theorem ggX4_writePixels_X5_at : GoodIn wsX4_writePixels wsX5_at := goodIn_r _ [6, 7, 8, 34, 35, 36] (by decide +kernel) (by decide +kernel)
set_option maxRecDepth 20000 in
theorem gX4_writePixels_X5_at : GoodIn wsX4_writePixels (wsV RX4 61 RX5 yX5_at wsX5_at) := goodIn_app (goodIn_of _ (by decide +kernel)) ggX4_writePixels_X5_at
set_option maxRecDepth 20000 in
theorem ggX4_writePixels_X8_red : GoodIn wsX4_writePixels wsX8_red := goodIn_r _ [11] (by decide +kernel) (by decide +kernel)
set_option maxRecDepth 20000 in
theorem gX4_writePixels_X8_red_n64 : GoodIn wsX4_writePixels (wsX8_red) := ggX4_writePixels_X8_red
set_option maxRecDepth 20000 in
theorem ggX4_writePixels_X2_append : GoodIn wsX4_writePixels wsX2_append := goodIn_r _ [16, 17, 18, 37, 38] (by decide +kernel) (by decide +kernel)
set_option maxRecDepth 20000 in
theorem gX4_writePixels_X2_append : GoodIn wsX4_writePixels (wsV RX4 35 RX2 yX2_append wsX2_append) := goodIn_app (goodIn_of _ (by decide +kernel)) ggX4_writePixels_X2_append
set_option maxRecDepth 20000 in
theorem ggX4_writePixels_X2_appendBlueGreenRed : GoodIn wsX4_writePixels wsX2_appendBlueGreenRed := goodIn_r _ [22, 23, 10, 24, 25, 13, 14, 15, 16, 17, 18, 26, 27, 9, 11, 37, 38] (by decide +kernel) (by decide +kernel)
set_option maxRecDepth 20000 in
theorem gX4_writePixels_X2_appendBlueGreenRed : GoodIn wsX4_writePixels (wsV RX4 69 RX2 yX2_appendBlueGreenRed wsX2_appendBlueGreenRed) := goodIn_app (goodIn_of _ (by decide +kernel)) ggX4_writePixels_X2_appendBlueGreenRed
set_option maxRecDepth 20000 in
theorem ggX4_writePixels_X8_alpha : GoodIn wsX4_writePixels wsX8_alpha := goodIn_r _ [29] (by decide +kernel) (by decide +kernel)
set_option maxRecDepth 20000 in
theorem gX4_writePixels_X8_alpha_n72 : GoodIn wsX4_writePixels (wsX8_alpha) := ggX4_writePixels_X8_alpha
theorem dX4_writePixels_0 : decode cX4_writePixels 0 = .ok (.iload_n 3, 1) := by decide +kernel
theorem dX4_writePixels_1 : decode cX4_writePixels 1 = .ok (.istore 6, 2) := by decide +kernel
theorem dX4_writePixels_3 : decode cX4_writePixels 3 = .ok (.iload 6, 2) := by decide +kernel
theorem dX4_writePixels_5 : decode cX4_writePixels 5 = .ok (.iload 4, 2) := by decide +kernel
theorem dX4_writePixels_7 : decode cX4_writePixels 7 = .ok (.if_icmp .ge 68, 3) := by decide +kernel
theorem dX4_writePixels_10 : decode cX4_writePixels 10 = .ok (.aload_n 1, 1) := by decide +kernel
theorem dX4_writePixels_11 : decode cX4_writePixels 11 = .ok (.iload 6, 2) := by decide +kernel
theorem dX4_writePixels_13 : decode cX4_writePixels 13 = .ok (.iload_n 2, 1) := by decide +kernel
theorem dX4_writePixels_14 : decode cX4_writePixels 14 = .ok (.invokevirtual 61, 3) := by decide +kernel
theorem dX4_writePixels_17 : decode cX4_writePixels 17 = .ok (.istore 7, 2) := by decide +kernel
theorem dX4_writePixels_19 : decode cX4_writePixels 19 = .ok (.aload_n 0, 1) := by decide +kernel
theorem dX4_writePixels_20 : decode cX4_writePixels 20 = .ok (.getfield 28, 3) := by decide +kernel
theorem dX4_writePixels_23 : decode cX4_writePixels 23 = .ok (.bipush 8, 2) := by decide +kernel
theorem dX4_writePixels_25 : decode cX4_writePixels 25 = .ok (.if_icmp .ne 17, 3) := by decide +kernel
theorem dX4_writePixels_28 : decode cX4_writePixels 28 = .ok (.aload 5, 2) := by decide +kernel
theorem dX4_writePixels_30 : decode cX4_writePixels 30 = .ok (.iload 7, 2) := by decide +kernel
theorem dX4_writePixels_32 : decode cX4_writePixels 32 = .ok (.invokestatic 64, 3) := by decide +kernel
theorem dX4_writePixels_35 : decode cX4_writePixels 35 = .ok (.invokevirtual 35, 3) := by decide +kernel
theorem dX4_writePixels_38 : decode cX4_writePixels 38 = .ok (.pop, 1) := by decide +kernel
theorem dX4_writePixels_39 : decode cX4_writePixels 39 = .ok (.goto 10, 3) := by decide +kernel
theorem dX4_writePixels_42 : decode cX4_writePixels 42 = .ok (.aload 5, 2) := by decide +kernel
theorem dX4_writePixels_44 : decode cX4_writePixels 44 = .ok (.iload 7, 2) := by decide +kernel
theorem dX4_writePixels_46 : decode cX4_writePixels 46 = .ok (.invokevirtual 69, 3) := by decide +kernel
theorem dX4_writePixels_49 : decode cX4_writePixels 49 = .ok (.aload_n 0, 1) := by decide +kernel
theorem dX4_writePixels_50 : decode cX4_writePixels 50 = .ok (.getfield 28, 3) := by decide +kernel
theorem dX4_writePixels_53 : decode cX4_writePixels 53 = .ok (.bipush 32, 2) := by decide +kernel
theorem dX4_writePixels_55 : decode cX4_writePixels 55 = .ok (.if_icmp .ne 14, 3) := by decide +kernel
theorem dX4_writePixels_58 : decode cX4_writePixels 58 = .ok (.aload 5, 2) := by decide +kernel
theorem dX4_writePixels_60 : decode cX4_writePixels 60 = .ok (.iload 7, 2) := by decide +kernel
theorem dX4_writePixels_62 : decode cX4_writePixels 62 = .ok (.invokestatic 72, 3) := by decide +kernel
theorem dX4_writePixels_65 : decode cX4_writePixels 65 = .ok (.invokevirtual 35, 3) := by decide +kernel
theorem dX4_writePixels_68 : decode cX4_writePixels 68 = .ok (.pop, 1) := by decide +kernel
theorem dX4_writePixels_69 : decode cX4_writePixels 69 = .ok (.iinc 6 1, 3) := by decide +kernel
theorem dX4_writePixels_72 : decode cX4_writePixels 72 = .ok (.goto (-69), 3) := by decide +kernel
theorem dX4_writePixels_75 : decode cX4_writePixels 75 = .ok (.return_, 1) := by decide +kernel
set_option maxRecDepth 20000 in
theorem ggX4_writePackets_X4_isSameAsNext : GoodIn wsX4_writePackets wsX4_isSameAsNext := goodIn_r _ [4, 5, 6, 7, 8, 9, 10, 11, 12, 13, 14, 15, 16, 46, 47, 48] (by decide +kernel) (by decide +kernel)
set_option maxRecDepth 20000 in
theorem gX4_writePackets_X4_isSameAsNext : GoodIn wsX4_writePackets (va_wsS RX4 75 yX4_isSameAsNext wsX4_isSameAsNext) := goodIn_app (goodIn_of _ (by decide +kernel)) ggX4_writePackets_X4_isSameAsNext
set_option maxRecDepth 20000 in
theorem ggX4_writePackets_X4_endsPacket : GoodIn wsX4_writePackets wsX4_endsPacket := goodIn_r _ [19, 1, 2, 3, 4, 5, 6, 7, 8, 9, 10, 11, 12, 13, 14, 15, 16, 46, 47, 48] (by decide +kernel) (by decide +kernel)
set_option maxRecDepth 20000 in
theorem gX4_writePackets_X4_endsPacket : GoodIn wsX4_writePackets (va_wsS RX4 79 yX4_endsPacket wsX4_endsPacket) := goodIn_app (goodIn_of _ (by decide +kernel)) ggX4_writePackets_X4_endsPacket
set_option maxRecDepth 20000 in
theorem ggX4_writePackets_X2_append : GoodIn wsX4_writePackets wsX2_append := goodIn_r _ [24, 25, 26, 49, 50] (by decide +kernel) (by decide +kernel)
set_option maxRecDepth 20000 in
theorem gX4_writePackets_X2_append : GoodIn wsX4_writePackets (wsV RX4 35 RX2 yX2_append wsX2_append) := goodIn_app (goodIn_of _ (by decide +kernel)) ggX4_writePackets_X2_append
set_option maxRecDepth 20000 in
theorem ggX4_writePackets_X4_writePixels : GoodIn wsX4_writePackets wsX4_writePixels := goodIn_r _ [30, 31, 12, 13, 14, 8, 15, 16, 10, 32, 33, 34, 20, 21, 22, 23, 24, 25, 26, 35, 36, 37, 38, 39, 40, 41, 42, 43, 44, 45, 51, 52, 53, 54, 46, 47, 48, 49, 50] (by decide +kernel) (by decide +kernel)
set_option maxRecDepth 20000 in
theorem gX4_writePackets_X4_writePixels : GoodIn wsX4_writePackets (wsV RX4 53 RX4 yX4_writePixels wsX4_writePixels) := goodIn_app (goodIn_of _ (by decide +kernel)) ggX4_writePackets_X4_writePixels
theorem dX4_writePackets_0 : decode cX4_writePackets 0 = .ok (.iconst 0, 1) := by decide +kernel
theorem dX4_writePackets_1 : decode cX4_writePackets 1 = .ok (.istore 4, 2) := by decide +kernel
theorem dX4_writePackets_3 : decode cX4_writePackets 3 = .ok (.iconst 0, 1) := by decide +kernel
theorem dX4_writePackets_4 : decode cX4_writePackets 4 = .ok (.istore 5, 2) := by decide +kernel
theorem dX4_writePackets_6 : decode cX4_writePackets 6 = .ok (.iload 5, 2) := by decide +kernel
theorem dX4_writePackets_8 : decode cX4_writePackets 8 = .ok (.aload_n 1, 1) := by decide +kernel
theorem dX4_writePackets_9 : decode cX4_writePackets 9 = .ok (.getfield 39, 3) := by decide +kernel
theorem dX4_writePackets_12 : decode cX4_writePackets 12 = .ok (.if_icmp .ge 103, 3) := by decide +kernel
theorem dX4_writePackets_15 : decode cX4_writePackets 15 = .ok (.aload_n 1, 1) := by decide +kernel
theorem dX4_writePackets_16 : decode cX4_writePackets 16 = .ok (.iload 4, 2) := by decide +kernel
theorem dX4_writePackets_18 : decode cX4_writePackets 18 = .ok (.iload_n 2, 1) := by decide +kernel
theorem dX4_writePackets_19 : decode cX4_writePackets 19 = .ok (.invokestatic 75, 3) := by decide +kernel
theorem dX4_writePackets_22 : decode cX4_writePackets 22 = .ok (.istore 6, 2) := by decide +kernel
theorem dX4_writePackets_24 : decode cX4_writePackets 24 = .ok (.iload 5, 2) := by decide +kernel
theorem dX4_writePackets_26 : decode cX4_writePackets 26 = .ok (.iconst 1, 1) := by decide +kernel
theorem dX4_writePackets_27 : decode cX4_writePackets 27 = .ok (.iadd, 1) := by decide +kernel
theorem dX4_writePackets_28 : decode cX4_writePackets 28 = .ok (.aload_n 1, 1) := by decide +kernel
theorem dX4_writePackets_29 : decode cX4_writePackets 29 = .ok (.getfield 39, 3) := by decide +kernel
theorem dX4_writePackets_32 : decode cX4_writePackets 32 = .ok (.if_icmp .eq 15, 3) := by decide +kernel
theorem dX4_writePackets_35 : decode cX4_writePackets 35 = .ok (.aload_n 1, 1) := by decide +kernel
theorem dX4_writePackets_36 : decode cX4_writePackets 36 = .ok (.iload 5, 2) := by decide +kernel
theorem dX4_writePackets_38 : decode cX4_writePackets 38 = .ok (.iload_n 2, 1) := by decide +kernel
theorem dX4_writePackets_39 : decode cX4_writePackets 39 = .ok (.iload 6, 2) := by decide +kernel
theorem dX4_writePackets_41 : decode cX4_writePackets 41 = .ok (.invokestatic 79, 3) := by decide +kernel
theorem dX4_writePackets_44 : decode cX4_writePackets 44 = .ok (.ifCond .eq 65, 3) := by decide +kernel
theorem dX4_writePackets_47 : decode cX4_writePackets 47 = .ok (.iload 5, 2) := by decide +kernel
theorem dX4_writePackets_49 : decode cX4_writePackets 49 = .ok (.iconst 1, 1) := by decide +kernel
theorem dX4_writePackets_50 : decode cX4_writePackets 50 = .ok (.iadd, 1) := by decide +kernel
theorem dX4_writePackets_51 : decode cX4_writePackets 51 = .ok (.iload 4, 2) := by decide +kernel
theorem dX4_writePackets_53 : decode cX4_writePackets 53 = .ok (.isub, 1) := by decide +kernel
theorem dX4_writePackets_54 : decode cX4_writePackets 54 = .ok (.istore 7, 2) := by decide +kernel
theorem dX4_writePackets_56 : decode cX4_writePackets 56 = .ok (.aload_n 3, 1) := by decide +kernel
theorem dX4_writePackets_57 : decode cX4_writePackets 57 = .ok (.iload 6, 2) := by decide +kernel
theorem dX4_writePackets_59 : decode cX4_writePackets 59 = .ok (.ifCond .eq 11, 3) := by decide +kernel
theorem dX4_writePackets_62 : decode cX4_writePackets 62 = .ok (.bipush 127, 2) := by decide +kernel
theorem dX4_writePackets_64 : decode cX4_writePackets 64 = .ok (.iload 7, 2) := by decide +kernel
theorem dX4_writePackets_66 : decode cX4_writePackets 66 = .ok (.iadd, 1) := by decide +kernel
theorem dX4_writePackets_67 : decode cX4_writePackets 67 = .ok (.goto 7, 3) := by decide +kernel
theorem dX4_writePackets_70 : decode cX4_writePackets 70 = .ok (.iload 7, 2) := by decide +kernel
theorem dX4_writePackets_72 : decode cX4_writePackets 72 = .ok (.iconst 1, 1) := by decide +kernel
theorem dX4_writePackets_73 : decode cX4_writePackets 73 = .ok (.isub, 1) := by decide +kernel
theorem dX4_writePackets_74 : decode cX4_writePackets 74 = .ok (.invokevirtual 35, 3) := by decide +kernel
theorem dX4_writePackets_77 : decode cX4_writePackets 77 = .ok (.pop, 1) := by decide +kernel
theorem dX4_writePackets_78 : decode cX4_writePackets 78 = .ok (.aload_n 0, 1) := by decide +kernel
theorem dX4_writePackets_79 : decode cX4_writePackets 79 = .ok (.aload_n 1, 1) := by decide +kernel
theorem dX4_writePackets_80 : decode cX4_writePackets 80 = .ok (.iload_n 2, 1) := by decide +kernel
theorem dX4_writePackets_81 : decode cX4_writePackets 81 = .ok (.iload 4, 2) := by decide +kernel
theorem dX4_writePackets_83 : decode cX4_writePackets 83 = .ok (.iload 6, 2) := by decide +kernel
theorem dX4_writePackets_85 : decode cX4_writePackets 85 = .ok (.ifCond .eq 10, 3) := by decide +kernel
theorem dX4_writePackets_88 : decode cX4_writePackets 88 = .ok (.iload 4, 2) := by decide +kernel
theorem dX4_writePackets_90 : decode cX4_writePackets 90 = .ok (.iconst 1, 1) := by decide +kernel
theorem dX4_writePackets_91 : decode cX4_writePackets 91 = .ok (.iadd, 1) := by decide +kernel
theorem dX4_writePackets_92 : decode cX4_writePackets 92 = .ok (.goto 7, 3) := by decide +kernel
theorem dX4_writePackets_95 : decode cX4_writePackets 95 = .ok (.iload 5, 2) := by decide +kernel
theorem dX4_writePackets_97 : decode cX4_writePackets 97 = .ok (.iconst 1, 1) := by decide +kernel
theorem dX4_writePackets_98 : decode cX4_writePackets 98 = .ok (.iadd, 1) := by decide +kernel
theorem dX4_writePackets_99 : decode cX4_writePackets 99 = .ok (.aload_n 3, 1) := by decide +kernel
theorem dX4_writePackets_100 : decode cX4_writePackets 100 = .ok (.invokevirtual 53, 3) := by decide +kernel
theorem dX4_writePackets_103 : decode cX4_writePackets 103 = .ok (.iload 5, 2) := by decide +kernel
theorem dX4_writePackets_105 : decode cX4_writePackets 105 = .ok (.iconst 1, 1) := by decide +kernel
theorem dX4_writePackets_106 : decode cX4_writePackets 106 = .ok (.iadd, 1) := by decide +kernel
theorem dX4_writePackets_107 : decode cX4_writePackets 107 = .ok (.istore 4, 2) := by decide +kernel
theorem dX4_writePackets_109 : decode cX4_writePackets 109 = .ok (.iinc 5 1, 3) := by decide +kernel
theorem dX4_writePackets_112 : decode cX4_writePackets 112 = .ok (.goto (-106), 3) := by decide +kernel
theorem dX4_writePackets_115 : decode cX4_writePackets 115 = .ok (.return_, 1) := by decide +kernel
set_option maxRecDepth 20000 in
theorem ggX4_endsPacket_X4_isSameAsNext : GoodIn wsX4_endsPacket wsX4_isSameAsNext := goodIn_r _ [4, 5, 6, 7, 8, 9, 10, 11, 12, 13, 14, 15, 16, 17, 18, 19] (by decide +kernel) (by decide +kernel)
set_option maxRecDepth 20000 in
theorem gX4_endsPacket_X4_isSameAsNext : GoodIn wsX4_endsPacket (va_wsS RX4 75 yX4_isSameAsNext wsX4_isSameAsNext) := goodIn_app (goodIn_of _ (by decide +kernel)) ggX4_endsPacket_X4_isSameAsNext
theorem dX4_endsPacket_0 : decode cX4_endsPacket 0 = .ok (.iload_n 3, 1) := by decide +kernel
theorem dX4_endsPacket_1 : decode cX4_endsPacket 1 = .ok (.ifCond .eq 20, 3) := by decide +kernel
theorem dX4_endsPacket_4 : decode cX4_endsPacket 4 = .ok (.aload_n 0, 1) := by decide +kernel
theorem dX4_endsPacket_5 : decode cX4_endsPacket 5 = .ok (.iload_n 1, 1) := by decide +kernel
theorem dX4_endsPacket_6 : decode cX4_endsPacket 6 = .ok (.iload_n 2, 1) := by decide +kernel
theorem dX4_endsPacket_7 : decode cX4_endsPacket 7 = .ok (.invokestatic 75, 3) := by decide +kernel
theorem dX4_endsPacket_10 : decode cX4_endsPacket 10 = .ok (.ifCond .ne 7, 3) := by decide +kernel
theorem dX4_endsPacket_13 : decode cX4_endsPacket 13 = .ok (.iconst 1, 1) := by decide +kernel
theorem dX4_endsPacket_14 : decode cX4_endsPacket 14 = .ok (.goto 15, 3) := by decide +kernel
theorem dX4_endsPacket_17 : decode cX4_endsPacket 17 = .ok (.iconst 0, 1) := by decide +kernel
theorem dX4_endsPacket_18 : decode cX4_endsPacket 18 = .ok (.goto 11, 3) := by decide +kernel
theorem dX4_endsPacket_21 : decode cX4_endsPacket 21 = .ok (.aload_n 0, 1) := by decide +kernel
theorem dX4_endsPacket_22 : decode cX4_endsPacket 22 = .ok (.iload_n 1, 1) := by decide +kernel
theorem dX4_endsPacket_23 : decode cX4_endsPacket 23 = .ok (.iconst 1, 1) := by decide +kernel
theorem dX4_endsPacket_24 : decode cX4_endsPacket 24 = .ok (.iadd, 1) := by decide +kernel
theorem dX4_endsPacket_25 : decode cX4_endsPacket 25 = .ok (.iload_n 2, 1) := by decide +kernel
theorem dX4_endsPacket_26 : decode cX4_endsPacket 26 = .ok (.invokestatic 75, 3) := by decide +kernel
theorem dX4_endsPacket_29 : decode cX4_endsPacket 29 = .ok (.ireturn, 1) := by decide +kernel
set_option maxRecDepth 20000 in
theorem ggX4_isSameAsNext_X5_has : GoodIn wsX4_isSameAsNext wsX5_has := goodIn_r _ [5, 6, 7, 13, 14, 15] (by decide +kernel) (by decide +kernel)
set_option maxRecDepth 20000 in
theorem gX4_isSameAsNext_X5_has : GoodIn wsX4_isSameAsNext (wsV RX4 83 RX5 yX5_has wsX5_has) := goodIn_app (goodIn_of _ (by decide +kernel)) ggX4_isSameAsNext_X5_has
set_option maxRecDepth 20000 in
theorem ggX4_isSameAsNext_X5_at : GoodIn wsX4_isSameAsNext wsX5_at := goodIn_r _ [11, 12, 6, 13, 14, 15] (by decide +kernel) (by decide +kernel)
set_option maxRecDepth 20000 in
theorem gX4_isSameAsNext_X5_at : GoodIn wsX4_isSameAsNext (wsV RX4 61 RX5 yX5_at wsX5_at) := goodIn_app (goodIn_of _ (by decide +kernel)) ggX4_isSameAsNext_X5_at
theorem dX4_isSameAsNext_0 : decode cX4_isSameAsNext 0 = .ok (.aload_n 0, 1) := by decide +kernel
theorem dX4_isSameAsNext_1 : decode cX4_isSameAsNext 1 = .ok (.iload_n 1, 1) := by decide +kernel
theorem dX4_isSameAsNext_2 : decode cX4_isSameAsNext 2 = .ok (.iconst 1, 1) := by decide +kernel
theorem dX4_isSameAsNext_3 : decode cX4_isSameAsNext 3 = .ok (.iadd, 1) := by decide +kernel
theorem dX4_isSameAsNext_4 : decode cX4_isSameAsNext 4 = .ok (.iload_n 2, 1) := by decide +kernel
theorem dX4_isSameAsNext_5 : decode cX4_isSameAsNext 5 = .ok (.invokevirtual 83, 3) := by decide +kernel
theorem dX4_isSameAsNext_8 : decode cX4_isSameAsNext 8 = .ok (.ifCond .eq 24, 3) := by decide +kernel
theorem dX4_isSameAsNext_11 : decode cX4_isSameAsNext 11 = .ok (.aload_n 0, 1) := by decide +kernel
theorem dX4_isSameAsNext_12 : decode cX4_isSameAsNext 12 = .ok (.iload_n 1, 1) := by decide +kernel
theorem dX4_isSameAsNext_13 : decode cX4_isSameAsNext 13 = .ok (.iload_n 2, 1) := by decide +kernel
theorem dX4_isSameAsNext_14 : decode cX4_isSameAsNext 14 = .ok (.invokevirtual 61, 3) := by decide +kernel
theorem dX4_isSameAsNext_17 : decode cX4_isSameAsNext 17 = .ok (.aload_n 0, 1) := by decide +kernel
theorem dX4_isSameAsNext_18 : decode cX4_isSameAsNext 18 = .ok (.iload_n 1, 1) := by decide +kernel
theorem dX4_isSameAsNext_19 : decode cX4_isSameAsNext 19 = .ok (.iconst 1, 1) := by decide +kernel
theorem dX4_isSameAsNext_20 : decode cX4_isSameAsNext 20 = .ok (.iadd, 1) := by decide +kernel
theorem dX4_isSameAsNext_21 : decode cX4_isSameAsNext 21 = .ok (.iload_n 2, 1) := by decide +kernel
theorem dX4_isSameAsNext_22 : decode cX4_isSameAsNext 22 = .ok (.invokevirtual 61, 3) := by decide +kernel
theorem dX4_isSameAsNext_25 : decode cX4_isSameAsNext 25 = .ok (.if_icmp .ne 7, 3) := by decide +kernel
theorem dX4_isSameAsNext_28 : decode cX4_isSameAsNext 28 = .ok (.iconst 1, 1) := by decide +kernel
theorem dX4_isSameAsNext_29 : decode cX4_isSameAsNext 29 = .ok (.goto 4, 3) := by decide +kernel
theorem dX4_isSameAsNext_32 : decode cX4_isSameAsNext 32 = .ok (.iconst 0, 1) := by decide +kernel
theorem dX4_isSameAsNext_33 : decode cX4_isSameAsNext 33 = .ok (.ireturn, 1) := by decide +kernel
set_option maxRecDepth 20000 in
theorem ggX4_read_X7_next : GoodIn wsX4_read wsX7_next := goodIn_ca (goodIn_r _ [8, 9, 10, 11, 12, 95, 96, 97, 98] (by decide +kernel) (by decide +kernel)) (goodIn_sub (fun _ h => List.mem_cons_of_mem _ (List.mem_append_left _ (List.mem_append_right _ h))) (by decide +kernel))
set_option maxRecDepth 20000 in
theorem gX4_read_X7_next : GoodIn wsX4_read (wsV RX4 87 RX7 yX7_next wsX7_next) := goodIn_app (goodIn_of _ (by decide +kernel)) ggX4_read_X7_next
set_option maxRecDepth 20000 in
theorem ggX4_read_X7_pass : GoodIn wsX4_read wsX7_pass := goodIn_ca (goodIn_r _ [16, 17, 5, 6, 7, 8, 9, 10, 11, 12, 95, 96, 97, 98] (by decide +kernel) (by decide +kernel)) (goodIn_sub (fun _ h => List.mem_cons_of_mem _ (List.mem_append_left _ (List.mem_append_right _ h))) (by decide +kernel))
set_option maxRecDepth 20000 in
theorem gX4_read_X7_pass : GoodIn wsX4_read (wsV RX4 92 RX7 yX7_pass wsX7_pass) := goodIn_app (goodIn_of _ (by decide +kernel)) ggX4_read_X7_pass
set_option maxRecDepth 20000 in
theorem ggX4_read_X7_little : GoodIn wsX4_read wsX7_little := goodIn_ca (goodIn_r _ [21, 17, 5, 6, 7, 8, 9, 10, 11, 12, 95, 96, 97, 98] (by decide +kernel) (by decide +kernel)) (goodIn_sub (fun _ h => List.mem_cons_of_mem _ (List.mem_append_left _ (List.mem_append_right _ h))) (by decide +kernel))
set_option maxRecDepth 20000 in
theorem gX4_read_X7_little : GoodIn wsX4_read (wsV RX4 95 RX7 yX7_little wsX7_little) := goodIn_app (goodIn_of _ (by decide +kernel)) ggX4_read_X7_little
set_option maxRecDepth 20000 in
theorem ggX4_read_X7_needSide : GoodIn wsX4_read wsX7_needSide := goodIn_ca (goodIn_r _ [25, 26, 27, 28, 29, 30, 31, 7, 32, 33, 34] (by decide +kernel) (by decide +kernel)) (goodIn_sub (fun _ h => List.mem_cons_of_mem _ (List.mem_append_right _ h)) (by decide +kernel))
set_option maxRecDepth 20000 in
theorem gX4_read_X7_needSide : GoodIn wsX4_read (wsV RX4 98 RX7 yX7_needSide wsX7_needSide) := goodIn_app (goodIn_of _ (by decide +kernel)) ggX4_read_X7_needSide
set_option maxRecDepth 20000 in
theorem ggX4_read_X4_alphaBits : GoodIn wsX4_read wsX4_alphaBits := goodIn_r _ [39, 1, 91, 92, 93, 94] (by decide +kernel) (by decide +kernel)
set_option maxRecDepth 20000 in
theorem gX4_read_X4_alphaBits : GoodIn wsX4_read (wsV RX4 49 RX4 yX4_alphaBits wsX4_alphaBits) := goodIn_app (goodIn_of _ (by decide +kernel)) ggX4_read_X4_alphaBits
set_option maxRecDepth 20000 in
theorem ggX4_read_X7_need : GoodIn wsX4_read wsX7_need := goodIn_ca (goodIn_r _ [32, 33, 34] (by decide +kernel) (by decide +kernel)) (goodIn_sub (fun _ h => List.mem_cons_of_mem _ (List.mem_append_right _ h)) (by decide +kernel))
set_option maxRecDepth 20000 in
theorem gX4_read_X7_need : GoodIn wsX4_read (wsV RX4 101 RX7 yX7_need wsX7_need) := goodIn_app (goodIn_of _ (by decide +kernel)) ggX4_read_X7_need
set_option maxRecDepth 20000 in
theorem ggX4_read_X5_begin : GoodIn wsX4_read wsX5_begin := goodIn_r _ [45, 46, 47, 48, 49, 50, 44, 51, 52, 53, 54, 55, 56, 99, 100, 101] (by decide +kernel) (by decide +kernel)
set_option maxRecDepth 20000 in
theorem gX4_read_X5_begin : GoodIn wsX4_read (wsV RX4 105 RX5 yX5_begin wsX5_begin) := goodIn_app (goodIn_of _ (by decide +kernel)) ggX4_read_X5_begin
set_option maxRecDepth 20000 in
theorem ggX4_read_X5_count : GoodIn wsX4_read wsX5_count := goodIn_r _ [60, 46, 47, 99, 100, 101] (by decide +kernel) (by decide +kernel)
set_option maxRecDepth 20000 in
theorem gX4_read_X5_count : GoodIn wsX4_read (wsV RX4 112 RX5 yX5_count wsX5_count) := goodIn_app (goodIn_of _ (by decide +kernel)) ggX4_read_X5_count
set_option maxRecDepth 20000 in
theorem ggX4_read_X4_readPixels : GoodIn wsX4_read wsX4_readPixels := goodIn_ca (goodIn_ca (goodIn_r _ [64, 57, 58, 59, 44, 60, 46, 47, 65, 66, 67, 38, 68, 3, 2, 69, 70, 71, 72, 73, 4, 5, 6, 7, 8, 9, 10, 11, 12, 40, 30, 31, 32, 33, 34, 74, 75, 76, 77, 1, 78, 27, 79, 80, 81, 82, 83, 84, 85, 86, 17, 87, 88, 89, 90, 52, 99, 100, 101, 91, 92, 93, 94, 95, 96, 97, 98] (by decide +kernel) (by decide +kernel)) (goodIn_sub (fun _ h => List.mem_cons_of_mem _ (List.mem_append_left _ (List.mem_append_right _ h))) (by decide +kernel))) (goodIn_sub (fun _ h => List.mem_cons_of_mem _ (List.mem_append_right _ h)) (by decide +kernel))
set_option maxRecDepth 20000 in
theorem gX4_read_X4_readPixels : GoodIn wsX4_read (wsV RX4 118 RX4 yX4_readPixels wsX4_readPixels) := goodIn_app (goodIn_of _ (by decide +kernel)) ggX4_read_X4_readPixels
theorem dX4_read_0 : decode cX4_read 0 = .ok (.aload_n 1, 1) := by decide +kernel
theorem dX4_read_1 : decode cX4_read 1 = .ok (.invokevirtual 87, 3) := by decide +kernel
theorem dX4_read_4 : decode cX4_read 4 = .ok (.istore_n 3, 1) := by decide +kernel
theorem dX4_read_5 : decode cX4_read 5 = .ok (.aload_n 1, 1) := by decide +kernel
theorem dX4_read_6 : decode cX4_read 6 = .ok (.iconst 1, 1) := by decide +kernel
theorem dX4_read_7 : decode cX4_read 7 = .ok (.invokevirtual 92, 3) := by decide +kernel
theorem dX4_read_10 : decode cX4_read 10 = .ok (.aload_n 1, 1) := by decide +kernel
theorem dX4_read_11 : decode cX4_read 11 = .ok (.invokevirtual 87, 3) := by decide +kernel
theorem dX4_read_14 : decode cX4_read 14 = .ok (.istore 4, 2) := by decide +kernel
theorem dX4_read_16 : decode cX4_read 16 = .ok (.aload_n 1, 1) := by decide +kernel
theorem dX4_read_17 : decode cX4_read 17 = .ok (.bipush 9, 2) := by decide +kernel
theorem dX4_read_19 : decode cX4_read 19 = .ok (.invokevirtual 92, 3) := by decide +kernel
theorem dX4_read_22 : decode cX4_read 22 = .ok (.aload_n 1, 1) := by decide +kernel
theorem dX4_read_23 : decode cX4_read 23 = .ok (.aload_n 1, 1) := by decide +kernel
theorem dX4_read_24 : decode cX4_read 24 = .ok (.iconst 2, 1) := by decide +kernel
theorem dX4_read_25 : decode cX4_read 25 = .ok (.invokevirtual 95, 3) := by decide +kernel
theorem dX4_read_28 : decode cX4_read 28 = .ok (.invokevirtual 98, 3) := by decide +kernel
theorem dX4_read_31 : decode cX4_read 31 = .ok (.istore 5, 2) := by decide +kernel
theorem dX4_read_33 : decode cX4_read 33 = .ok (.aload_n 1, 1) := by decide +kernel
theorem dX4_read_34 : decode cX4_read 34 = .ok (.aload_n 1, 1) := by decide +kernel
theorem dX4_read_35 : decode cX4_read 35 = .ok (.iconst 2, 1) := by decide +kernel
theorem dX4_read_36 : decode cX4_read 36 = .ok (.invokevirtual 95, 3) := by decide +kernel
theorem dX4_read_39 : decode cX4_read 39 = .ok (.invokevirtual 98, 3) := by decide +kernel
theorem dX4_read_42 : decode cX4_read 42 = .ok (.istore 6, 2) := by decide +kernel
theorem dX4_read_44 : decode cX4_read 44 = .ok (.aload_n 0, 1) := by decide +kernel
theorem dX4_read_45 : decode cX4_read 45 = .ok (.aload_n 1, 1) := by decide +kernel
theorem dX4_read_46 : decode cX4_read 46 = .ok (.invokevirtual 87, 3) := by decide +kernel
theorem dX4_read_49 : decode cX4_read 49 = .ok (.putfield 28, 3) := by decide +kernel
theorem dX4_read_52 : decode cX4_read 52 = .ok (.aload_n 1, 1) := by decide +kernel
theorem dX4_read_53 : decode cX4_read 53 = .ok (.invokevirtual 87, 3) := by decide +kernel
theorem dX4_read_56 : decode cX4_read 56 = .ok (.istore 7, 2) := by decide +kernel
theorem dX4_read_58 : decode cX4_read 58 = .ok (.aload_n 1, 1) := by decide +kernel
theorem dX4_read_59 : decode cX4_read 59 = .ok (.iload 7, 2) := by decide +kernel
theorem dX4_read_61 : decode cX4_read 61 = .ok (.bipush 15, 2) := by decide +kernel
theorem dX4_read_63 : decode cX4_read 63 = .ok (.iand, 1) := by decide +kernel
theorem dX4_read_64 : decode cX4_read 64 = .ok (.aload_n 0, 1) := by decide +kernel
theorem dX4_read_65 : decode cX4_read 65 = .ok (.invokevirtual 49, 3) := by decide +kernel
theorem dX4_read_68 : decode cX4_read 68 = .ok (.if_icmp .ne 14, 3) := by decide +kernel
theorem dX4_read_71 : decode cX4_read 71 = .ok (.iload 7, 2) := by decide +kernel
theorem dX4_read_73 : decode cX4_read 73 = .ok (.bipush 64, 2) := by decide +kernel
theorem dX4_read_75 : decode cX4_read 75 = .ok (.if_icmp .ge 7, 3) := by decide +kernel
theorem dX4_read_78 : decode cX4_read 78 = .ok (.iconst 1, 1) := by decide +kernel
theorem dX4_read_79 : decode cX4_read 79 = .ok (.goto 4, 3) := by decide +kernel
theorem dX4_read_82 : decode cX4_read 82 = .ok (.iconst 0, 1) := by decide +kernel
theorem dX4_read_83 : decode cX4_read 83 = .ok (.invokevirtual 101, 3) := by decide +kernel
theorem dX4_read_86 : decode cX4_read 86 = .ok (.aload_n 1, 1) := by decide +kernel
theorem dX4_read_87 : decode cX4_read 87 = .ok (.iload_n 3, 1) := by decide +kernel
theorem dX4_read_88 : decode cX4_read 88 = .ok (.invokevirtual 92, 3) := by decide +kernel
theorem dX4_read_91 : decode cX4_read 91 = .ok (.aload_n 2, 1) := by decide +kernel
theorem dX4_read_92 : decode cX4_read 92 = .ok (.iload 5, 2) := by decide +kernel
theorem dX4_read_94 : decode cX4_read 94 = .ok (.iload 6, 2) := by decide +kernel
theorem dX4_read_96 : decode cX4_read 96 = .ok (.invokevirtual 105, 3) := by decide +kernel
theorem dX4_read_99 : decode cX4_read 99 = .ok (.aload_n 0, 1) := by decide +kernel
theorem dX4_read_100 : decode cX4_read 100 = .ok (.iconst 0, 1) := by decide +kernel
theorem dX4_read_101 : decode cX4_read 101 = .ok (.putfield 108, 3) := by decide +kernel
theorem dX4_read_104 : decode cX4_read 104 = .ok (.aload_n 0, 1) := by decide +kernel
theorem dX4_read_105 : decode cX4_read 105 = .ok (.iload 4, 2) := by decide +kernel
theorem dX4_read_107 : decode cX4_read 107 = .ok (.iconst 2, 1) := by decide +kernel
theorem dX4_read_108 : decode cX4_read 108 = .ok (.if_icmp .eq 9, 3) := by decide +kernel
theorem dX4_read_111 : decode cX4_read 111 = .ok (.iload 4, 2) := by decide +kernel
theorem dX4_read_113 : decode cX4_read 113 = .ok (.iconst 3, 1) := by decide +kernel
theorem dX4_read_114 : decode cX4_read 114 = .ok (.if_icmp .ne 10, 3) := by decide +kernel
theorem dX4_read_117 : decode cX4_read 117 = .ok (.aload_n 2, 1) := by decide +kernel
theorem dX4_read_118 : decode cX4_read 118 = .ok (.invokevirtual 112, 3) := by decide +kernel
theorem dX4_read_121 : decode cX4_read 121 = .ok (.goto 4, 3) := by decide +kernel
theorem dX4_read_124 : decode cX4_read 124 = .ok (.iconst 0, 1) := by decide +kernel
theorem dX4_read_125 : decode cX4_read 125 = .ok (.putfield 115, 3) := by decide +kernel
theorem dX4_read_128 : decode cX4_read 128 = .ok (.aload_n 0, 1) := by decide +kernel
theorem dX4_read_129 : decode cX4_read 129 = .ok (.aload_n 1, 1) := by decide +kernel
theorem dX4_read_130 : decode cX4_read 130 = .ok (.iload 7, 2) := by decide +kernel
theorem dX4_read_132 : decode cX4_read 132 = .ok (.aload_n 2, 1) := by decide +kernel
theorem dX4_read_133 : decode cX4_read 133 = .ok (.invokevirtual 118, 3) := by decide +kernel
theorem dX4_read_136 : decode cX4_read 136 = .ok (.return_, 1) := by decide +kernel
set_option maxRecDepth 20000 in
theorem ggX4_readPixels_X5_count : GoodIn wsX4_readPixels wsX5_count := goodIn_r _ [5, 6, 7, 56, 57, 58] (by decide +kernel) (by decide +kernel)
set_option maxRecDepth 20000 in
theorem gX4_readPixels_X5_count : GoodIn wsX4_readPixels (wsV RX4 112 RX5 yX5_count wsX5_count) := goodIn_app (goodIn_of _ (by decide +kernel)) ggX4_readPixels_X5_count
set_option maxRecDepth 20000 in
theorem ggX4_readPixels_X4_nextPixel : GoodIn wsX4_readPixels wsX4_nextPixel := goodIn_ca (goodIn_ca (goodIn_r _ [12, 13, 14, 15, 16, 17, 18, 11, 19, 20, 21, 22, 23, 24, 25, 26, 27, 28, 29, 30, 31, 32, 33, 34, 35, 36, 37, 38, 39, 40, 41, 42, 43, 44, 45, 46, 47, 48, 49, 50, 59, 60, 61, 62, 63, 64, 65, 66] (by decide +kernel) (by decide +kernel)) (goodIn_sub (fun _ h => List.mem_cons_of_mem _ (List.mem_append_left _ (List.mem_append_right _ h))) (by decide +kernel))) (goodIn_sub (fun _ h => List.mem_cons_of_mem _ (List.mem_append_right _ h)) (by decide +kernel))
set_option maxRecDepth 20000 in
theorem gX4_readPixels_X4_nextPixel : GoodIn wsX4_readPixels (wsV RX4 122 RX4 yX4_nextPixel wsX4_nextPixel) := goodIn_app (goodIn_of _ (by decide +kernel)) ggX4_readPixels_X4_nextPixel
set_option maxRecDepth 20000 in
theorem ggX4_readPixels_X5_set : GoodIn wsX4_readPixels wsX5_set := goodIn_r _ [54, 55, 6, 56, 57, 58] (by decide +kernel) (by decide +kernel)
set_option maxRecDepth 20000 in
theorem gX4_readPixels_X5_set : GoodIn wsX4_readPixels (wsV RX4 126 RX5 yX5_set wsX5_set) := goodIn_app (goodIn_of _ (by decide +kernel)) ggX4_readPixels_X5_set
theorem dX4_readPixels_0 : decode cX4_readPixels 0 = .ok (.iload_n 2, 1) := by decide +kernel
theorem dX4_readPixels_1 : decode cX4_readPixels 1 = .ok (.bipush 16, 2) := by decide +kernel
theorem dX4_readPixels_3 : decode cX4_readPixels 3 = .ok (.iand, 1) := by decide +kernel
theorem dX4_readPixels_4 : decode cX4_readPixels 4 = .ok (.ifCond .eq 7, 3) := by decide +kernel
theorem dX4_readPixels_7 : decode cX4_readPixels 7 = .ok (.iconst 1, 1) := by decide +kernel
theorem dX4_readPixels_8 : decode cX4_readPixels 8 = .ok (.goto 4, 3) := by decide +kernel
theorem dX4_readPixels_11 : decode cX4_readPixels 11 = .ok (.iconst 0, 1) := by decide +kernel
theorem dX4_readPixels_12 : decode cX4_readPixels 12 = .ok (.istore 4, 2) := by decide +kernel
theorem dX4_readPixels_14 : decode cX4_readPixels 14 = .ok (.iload_n 2, 1) := by decide +kernel
theorem dX4_readPixels_15 : decode cX4_readPixels 15 = .ok (.bipush 32, 2) := by decide +kernel
theorem dX4_readPixels_17 : decode cX4_readPixels 17 = .ok (.iand, 1) := by decide +kernel
theorem dX4_readPixels_18 : decode cX4_readPixels 18 = .ok (.ifCond .eq 7, 3) := by decide +kernel
theorem dX4_readPixels_21 : decode cX4_readPixels 21 = .ok (.iconst 1, 1) := by decide +kernel
theorem dX4_readPixels_22 : decode cX4_readPixels 22 = .ok (.goto 4, 3) := by decide +kernel
theorem dX4_readPixels_25 : decode cX4_readPixels 25 = .ok (.iconst 0, 1) := by decide +kernel
theorem dX4_readPixels_26 : decode cX4_readPixels 26 = .ok (.istore 5, 2) := by decide +kernel
theorem dX4_readPixels_28 : decode cX4_readPixels 28 = .ok (.aload_n 3, 1) := by decide +kernel
theorem dX4_readPixels_29 : decode cX4_readPixels 29 = .ok (.invokevirtual 112, 3) := by decide +kernel
theorem dX4_readPixels_32 : decode cX4_readPixels 32 = .ok (.istore 6, 2) := by decide +kernel
theorem dX4_readPixels_34 : decode cX4_readPixels 34 = .ok (.iconst 0, 1) := by decide +kernel
theorem dX4_readPixels_35 : decode cX4_readPixels 35 = .ok (.istore 7, 2) := by decide +kernel
theorem dX4_readPixels_37 : decode cX4_readPixels 37 = .ok (.iload 7, 2) := by decide +kernel
theorem dX4_readPixels_39 : decode cX4_readPixels 39 = .ok (.aload_n 3, 1) := by decide +kernel
theorem dX4_readPixels_40 : decode cX4_readPixels 40 = .ok (.getfield 46, 3) := by decide +kernel
theorem dX4_readPixels_43 : decode cX4_readPixels 43 = .ok (.if_icmp .ge 87, 3) := by decide +kernel
theorem dX4_readPixels_46 : decode cX4_readPixels 46 = .ok (.iload 5, 2) := by decide +kernel
theorem dX4_readPixels_48 : decode cX4_readPixels 48 = .ok (.ifCond .eq 8, 3) := by decide +kernel
theorem dX4_readPixels_51 : decode cX4_readPixels 51 = .ok (.iload 7, 2) := by decide +kernel
theorem dX4_readPixels_53 : decode cX4_readPixels 53 = .ok (.goto 12, 3) := by decide +kernel
theorem dX4_readPixels_56 : decode cX4_readPixels 56 = .ok (.aload_n 3, 1) := by decide +kernel
theorem dX4_readPixels_57 : decode cX4_readPixels 57 = .ok (.getfield 46, 3) := by decide +kernel
theorem dX4_readPixels_60 : decode cX4_readPixels 60 = .ok (.iconst 1, 1) := by decide +kernel
theorem dX4_readPixels_61 : decode cX4_readPixels 61 = .ok (.isub, 1) := by decide +kernel
theorem dX4_readPixels_62 : decode cX4_readPixels 62 = .ok (.iload 7, 2) := by decide +kernel
theorem dX4_readPixels_64 : decode cX4_readPixels 64 = .ok (.isub, 1) := by decide +kernel
theorem dX4_readPixels_65 : decode cX4_readPixels 65 = .ok (.istore 8, 2) := by decide +kernel
theorem dX4_readPixels_67 : decode cX4_readPixels 67 = .ok (.iconst 0, 1) := by decide +kernel
theorem dX4_readPixels_68 : decode cX4_readPixels 68 = .ok (.istore 9, 2) := by decide +kernel
theorem dX4_readPixels_70 : decode cX4_readPixels 70 = .ok (.iload 9, 2) := by decide +kernel
theorem dX4_readPixels_72 : decode cX4_readPixels 72 = .ok (.aload_n 3, 1) := by decide +kernel
theorem dX4_readPixels_73 : decode cX4_readPixels 73 = .ok (.getfield 39, 3) := by decide +kernel
theorem dX4_readPixels_76 : decode cX4_readPixels 76 = .ok (.if_icmp .ge 48, 3) := by decide +kernel
theorem dX4_readPixels_79 : decode cX4_readPixels 79 = .ok (.iload 4, 2) := by decide +kernel
theorem dX4_readPixels_81 : decode cX4_readPixels 81 = .ok (.ifCond .eq 15, 3) := by decide +kernel
theorem dX4_readPixels_84 : decode cX4_readPixels 84 = .ok (.aload_n 3, 1) := by decide +kernel
theorem dX4_readPixels_85 : decode cX4_readPixels 85 = .ok (.getfield 39, 3) := by decide +kernel
theorem dX4_readPixels_88 : decode cX4_readPixels 88 = .ok (.iconst 1, 1) := by decide +kernel
theorem dX4_readPixels_89 : decode cX4_readPixels 89 = .ok (.isub, 1) := by decide +kernel
theorem dX4_readPixels_90 : decode cX4_readPixels 90 = .ok (.iload 9, 2) := by decide +kernel
theorem dX4_readPixels_92 : decode cX4_readPixels 92 = .ok (.isub, 1) := by decide +kernel
theorem dX4_readPixels_93 : decode cX4_readPixels 93 = .ok (.goto 5, 3) := by decide +kernel
theorem dX4_readPixels_96 : decode cX4_readPixels 96 = .ok (.iload 9, 2) := by decide +kernel
theorem dX4_readPixels_98 : decode cX4_readPixels 98 = .ok (.istore 10, 2) := by decide +kernel
theorem dX4_readPixels_100 : decode cX4_readPixels 100 = .ok (.aload_n 3, 1) := by decide +kernel
theorem dX4_readPixels_101 : decode cX4_readPixels 101 = .ok (.iload 10, 2) := by decide +kernel
theorem dX4_readPixels_103 : decode cX4_readPixels 103 = .ok (.iload 8, 2) := by decide +kernel
theorem dX4_readPixels_105 : decode cX4_readPixels 105 = .ok (.aload_n 0, 1) := by decide +kernel
theorem dX4_readPixels_106 : decode cX4_readPixels 106 = .ok (.aload_n 1, 1) := by decide +kernel
theorem dX4_readPixels_107 : decode cX4_readPixels 107 = .ok (.iload 6, 2) := by decide +kernel
theorem dX4_readPixels_109 : decode cX4_readPixels 109 = .ok (.invokevirtual 122, 3) := by decide +kernel
theorem dX4_readPixels_112 : decode cX4_readPixels 112 = .ok (.invokevirtual 126, 3) := by decide +kernel
theorem dX4_readPixels_115 : decode cX4_readPixels 115 = .ok (.iinc 6 (-1), 3) := by decide +kernel
theorem dX4_readPixels_118 : decode cX4_readPixels 118 = .ok (.iinc 9 1, 3) := by decide +kernel
theorem dX4_readPixels_121 : decode cX4_readPixels 121 = .ok (.goto (-51), 3) := by decide +kernel
theorem dX4_readPixels_124 : decode cX4_readPixels 124 = .ok (.iinc 7 1, 3) := by decide +kernel
theorem dX4_readPixels_127 : decode cX4_readPixels 127 = .ok (.goto (-90), 3) := by decide +kernel
theorem dX4_readPixels_130 : decode cX4_readPixels 130 = .ok (.return_, 1) := by decide +kernel
set_option maxRecDepth 20000 in
theorem ggX4_nextPixel_X4_openPacket : GoodIn wsX4_nextPixel wsX4_openPacket := goodIn_ca (goodIn_ca (goodIn_r _ [8, 2, 1, 9, 10, 11, 12, 13, 14, 15, 16, 17, 18, 19, 20, 21, 22, 23, 40, 41, 42, 43, 44, 45, 46, 47] (by decide +kernel) (by decide +kernel)) (goodIn_sub (fun _ h => List.mem_cons_of_mem _ (List.mem_append_left _ (List.mem_append_right _ h))) (by decide +kernel))) (goodIn_sub (fun _ h => List.mem_cons_of_mem _ (List.mem_append_right _ h)) (by decide +kernel))
set_option maxRecDepth 20000 in
theorem gX4_nextPixel_X4_openPacket : GoodIn wsX4_nextPixel (wsV RX4 130 RX4 yX4_openPacket wsX4_openPacket) := goodIn_app (goodIn_of _ (by decide +kernel)) ggX4_nextPixel_X4_openPacket
set_option maxRecDepth 20000 in
theorem ggX4_nextPixel_X4_readPixel : GoodIn wsX4_nextPixel wsX4_readPixel := goodIn_ca (goodIn_r _ [27, 28, 9, 10, 11, 12, 13, 14, 15, 16, 17, 29, 30, 31, 32, 33, 34, 35, 36, 37, 38, 39, 40, 41, 42, 43, 44, 45, 46, 47] (by decide +kernel) (by decide +kernel)) (goodIn_sub (fun _ h => List.mem_cons_of_mem _ (List.mem_append_left _ (List.mem_append_right _ h))) (by decide +kernel))
set_option maxRecDepth 20000 in
theorem gX4_nextPixel_X4_readPixel : GoodIn wsX4_nextPixel (wsV RX4 134 RX4 yX4_readPixel wsX4_readPixel) := goodIn_app (goodIn_of _ (by decide +kernel)) ggX4_nextPixel_X4_readPixel
theorem dX4_nextPixel_0 : decode cX4_nextPixel 0 = .ok (.aload_n 0, 1) := by decide +kernel
theorem dX4_nextPixel_1 : decode cX4_nextPixel 1 = .ok (.getfield 115, 3) := by decide +kernel
theorem dX4_nextPixel_4 : decode cX4_nextPixel 4 = .ok (.ifCond .ne 7, 3) := by decide +kernel
theorem dX4_nextPixel_7 : decode cX4_nextPixel 7 = .ok (.iconst 1, 1) := by decide +kernel
theorem dX4_nextPixel_8 : decode cX4_nextPixel 8 = .ok (.goto 4, 3) := by decide +kernel
theorem dX4_nextPixel_11 : decode cX4_nextPixel 11 = .ok (.iconst 0, 1) := by decide +kernel
theorem dX4_nextPixel_12 : decode cX4_nextPixel 12 = .ok (.istore_n 3, 1) := by decide +kernel
theorem dX4_nextPixel_13 : decode cX4_nextPixel 13 = .ok (.iload_n 3, 1) := by decide +kernel
theorem dX4_nextPixel_14 : decode cX4_nextPixel 14 = .ok (.ifCond .eq 9, 3) := by decide +kernel
theorem dX4_nextPixel_17 : decode cX4_nextPixel 17 = .ok (.aload_n 0, 1) := by decide +kernel
theorem dX4_nextPixel_18 : decode cX4_nextPixel 18 = .ok (.aload_n 1, 1) := by decide +kernel
theorem dX4_nextPixel_19 : decode cX4_nextPixel 19 = .ok (.iload_n 2, 1) := by decide +kernel
theorem dX4_nextPixel_20 : decode cX4_nextPixel 20 = .ok (.invokevirtual 130, 3) := by decide +kernel
theorem dX4_nextPixel_23 : decode cX4_nextPixel 23 = .ok (.aload_n 0, 1) := by decide +kernel
theorem dX4_nextPixel_24 : decode cX4_nextPixel 24 = .ok (.dup, 1) := by decide +kernel
theorem dX4_nextPixel_25 : decode cX4_nextPixel 25 = .ok (.getfield 115, 3) := by decide +kernel
theorem dX4_nextPixel_28 : decode cX4_nextPixel 28 = .ok (.iconst 1, 1) := by decide +kernel
theorem dX4_nextPixel_29 : decode cX4_nextPixel 29 = .ok (.isub, 1) := by decide +kernel
theorem dX4_nextPixel_30 : decode cX4_nextPixel 30 = .ok (.putfield 115, 3) := by decide +kernel
theorem dX4_nextPixel_33 : decode cX4_nextPixel 33 = .ok (.iload_n 3, 1) := by decide +kernel
theorem dX4_nextPixel_34 : decode cX4_nextPixel 34 = .ok (.ifCond .ne 10, 3) := by decide +kernel
theorem dX4_nextPixel_37 : decode cX4_nextPixel 37 = .ok (.aload_n 0, 1) := by decide +kernel
theorem dX4_nextPixel_38 : decode cX4_nextPixel 38 = .ok (.getfield 108, 3) := by decide +kernel
theorem dX4_nextPixel_41 : decode cX4_nextPixel 41 = .ok (.ifCond .ne 12, 3) := by decide +kernel
theorem dX4_nextPixel_44 : decode cX4_nextPixel 44 = .ok (.aload_n 0, 1) := by decide +kernel
theorem dX4_nextPixel_45 : decode cX4_nextPixel 45 = .ok (.aload_n 0, 1) := by decide +kernel
theorem dX4_nextPixel_46 : decode cX4_nextPixel 46 = .ok (.aload_n 1, 1) := by decide +kernel
theorem dX4_nextPixel_47 : decode cX4_nextPixel 47 = .ok (.invokevirtual 134, 3) := by decide +kernel
theorem dX4_nextPixel_50 : decode cX4_nextPixel 50 = .ok (.putfield 138, 3) := by decide +kernel
theorem dX4_nextPixel_53 : decode cX4_nextPixel 53 = .ok (.aload_n 0, 1) := by decide +kernel
theorem dX4_nextPixel_54 : decode cX4_nextPixel 54 = .ok (.getfield 138, 3) := by decide +kernel
theorem dX4_nextPixel_57 : decode cX4_nextPixel 57 = .ok (.ireturn, 1) := by decide +kernel
set_option maxRecDepth 20000 in
theorem ggX4_openPacket_X7_next : GoodIn wsX4_openPacket wsX7_next := goodIn_ca (goodIn_r _ [7, 8, 9, 10, 11, 22, 23, 24, 25] (by decide +kernel) (by decide +kernel)) (goodIn_sub (fun _ h => List.mem_cons_of_mem _ (List.mem_append_left _ (List.mem_append_right _ h))) (by decide +kernel))
set_option maxRecDepth 20000 in
theorem gX4_openPacket_X7_next : GoodIn wsX4_openPacket (wsV RX4 87 RX7 yX7_next wsX7_next) := goodIn_app (goodIn_of _ (by decide +kernel)) ggX4_openPacket_X7_next
set_option maxRecDepth 20000 in
theorem ggX4_openPacket_X7_need : GoodIn wsX4_openPacket wsX7_need := goodIn_ca (goodIn_r _ [15, 16, 17] (by decide +kernel) (by decide +kernel)) (goodIn_sub (fun _ h => List.mem_cons_of_mem _ (List.mem_append_right _ h)) (by decide +kernel))
set_option maxRecDepth 20000 in
theorem gX4_openPacket_X7_need : GoodIn wsX4_openPacket (wsV RX4 101 RX7 yX7_need wsX7_need) := goodIn_app (goodIn_of _ (by decide +kernel)) ggX4_openPacket_X7_need
theorem dX4_openPacket_0 : decode cX4_openPacket 0 = .ok (.aload_n 1, 1) := by decide +kernel
theorem dX4_openPacket_1 : decode cX4_openPacket 1 = .ok (.invokevirtual 87, 3) := by decide +kernel
theorem dX4_openPacket_4 : decode cX4_openPacket 4 = .ok (.istore_n 3, 1) := by decide +kernel
theorem dX4_openPacket_5 : decode cX4_openPacket 5 = .ok (.aload_n 0, 1) := by decide +kernel
theorem dX4_openPacket_6 : decode cX4_openPacket 6 = .ok (.iload_n 3, 1) := by decide +kernel
theorem dX4_openPacket_7 : decode cX4_openPacket 7 = .ok (.bipush 127, 2) := by decide +kernel
theorem dX4_openPacket_9 : decode cX4_openPacket 9 = .ok (.if_icmp .le 7, 3) := by decide +kernel
theorem dX4_openPacket_12 : decode cX4_openPacket 12 = .ok (.iconst 1, 1) := by decide +kernel
theorem dX4_openPacket_13 : decode cX4_openPacket 13 = .ok (.goto 4, 3) := by decide +kernel
theorem dX4_openPacket_16 : decode cX4_openPacket 16 = .ok (.iconst 0, 1) := by decide +kernel
theorem dX4_openPacket_17 : decode cX4_openPacket 17 = .ok (.putfield 108, 3) := by decide +kernel
theorem dX4_openPacket_20 : decode cX4_openPacket 20 = .ok (.aload_n 0, 1) := by decide +kernel
theorem dX4_openPacket_21 : decode cX4_openPacket 21 = .ok (.aload_n 0, 1) := by decide +kernel
theorem dX4_openPacket_22 : decode cX4_openPacket 22 = .ok (.getfield 108, 3) := by decide +kernel
theorem dX4_openPacket_25 : decode cX4_openPacket 25 = .ok (.ifCond .eq 10, 3) := by decide +kernel
theorem dX4_openPacket_28 : decode cX4_openPacket 28 = .ok (.iload_n 3, 1) := by decide +kernel
theorem dX4_openPacket_29 : decode cX4_openPacket 29 = .ok (.bipush 127, 2) := by decide +kernel
theorem dX4_openPacket_31 : decode cX4_openPacket 31 = .ok (.isub, 1) := by decide +kernel
theorem dX4_openPacket_32 : decode cX4_openPacket 32 = .ok (.goto 6, 3) := by decide +kernel
theorem dX4_openPacket_35 : decode cX4_openPacket 35 = .ok (.iload_n 3, 1) := by decide +kernel
theorem dX4_openPacket_36 : decode cX4_openPacket 36 = .ok (.iconst 1, 1) := by decide +kernel
theorem dX4_openPacket_37 : decode cX4_openPacket 37 = .ok (.iadd, 1) := by decide +kernel
theorem dX4_openPacket_38 : decode cX4_openPacket 38 = .ok (.putfield 115, 3) := by decide +kernel
theorem dX4_openPacket_41 : decode cX4_openPacket 41 = .ok (.aload_n 1, 1) := by decide +kernel
theorem dX4_openPacket_42 : decode cX4_openPacket 42 = .ok (.aload_n 0, 1) := by decide +kernel
theorem dX4_openPacket_43 : decode cX4_openPacket 43 = .ok (.getfield 115, 3) := by decide +kernel
theorem dX4_openPacket_46 : decode cX4_openPacket 46 = .ok (.iload_n 2, 1) := by decide +kernel
theorem dX4_openPacket_47 : decode cX4_openPacket 47 = .ok (.if_icmp .gt 7, 3) := by decide +kernel
theorem dX4_openPacket_50 : decode cX4_openPacket 50 = .ok (.iconst 1, 1) := by decide +kernel
theorem dX4_openPacket_51 : decode cX4_openPacket 51 = .ok (.goto 4, 3) := by decide +kernel
theorem dX4_openPacket_54 : decode cX4_openPacket 54 = .ok (.iconst 0, 1) := by decide +kernel
theorem dX4_openPacket_55 : decode cX4_openPacket 55 = .ok (.invokevirtual 101, 3) := by decide +kernel
theorem dX4_openPacket_58 : decode cX4_openPacket 58 = .ok (.return_, 1) := by decide +kernel
set_option maxRecDepth 20000 in
theorem ggX4_readPixel_X7_next : GoodIn wsX4_readPixel wsX7_next := goodIn_ca (goodIn_r _ [6, 7, 8, 9, 10, 26, 27, 28, 29] (by decide +kernel) (by decide +kernel)) (goodIn_sub (fun _ h => List.mem_cons_of_mem _ (List.mem_append_right _ h)) (by decide +kernel))
set_option maxRecDepth 20000 in
theorem gX4_readPixel_X7_next : GoodIn wsX4_readPixel (wsV RX4 87 RX7 yX7_next wsX7_next) := goodIn_app (goodIn_of _ (by decide +kernel)) ggX4_readPixel_X7_next
set_option maxRecDepth 20000 in
theorem ggX4_readPixel_X8_opaque : GoodIn wsX4_readPixel wsX8_opaque := goodIn_r _ [13, 14, 15, 12, 16] (by decide +kernel) (by decide +kernel)
set_option maxRecDepth 20000 in
theorem gX4_readPixel_X8_opaque_n141 : GoodIn wsX4_readPixel (wsX8_opaque) := ggX4_readPixel_X8_opaque
set_option maxRecDepth 20000 in
theorem ggX4_readPixel_X7_blueGreenRed : GoodIn wsX4_readPixel wsX7_blueGreenRed := goodIn_ca (goodIn_r _ [20, 21, 3, 4, 5, 6, 7, 8, 9, 10, 15, 12, 16, 26, 27, 28, 29] (by decide +kernel) (by decide +kernel)) (goodIn_sub (fun _ h => List.mem_cons_of_mem _ (List.mem_append_right _ h)) (by decide +kernel))
set_option maxRecDepth 20000 in
theorem gX4_readPixel_X7_blueGreenRed : GoodIn wsX4_readPixel (wsV RX4 145 RX7 yX7_blueGreenRed wsX7_blueGreenRed) := goodIn_app (goodIn_of _ (by decide +kernel)) ggX4_readPixel_X7_blueGreenRed
theorem dX4_readPixel_0 : decode cX4_readPixel 0 = .ok (.aload_n 0, 1) := by decide +kernel
theorem dX4_readPixel_1 : decode cX4_readPixel 1 = .ok (.getfield 28, 3) := by decide +kernel
theorem dX4_readPixel_4 : decode cX4_readPixel 4 = .ok (.bipush 8, 2) := by decide +kernel
theorem dX4_readPixel_6 : decode cX4_readPixel 6 = .ok (.if_icmp .ne 15, 3) := by decide +kernel
theorem dX4_readPixel_9 : decode cX4_readPixel 9 = .ok (.aload_n 1, 1) := by decide +kernel
theorem dX4_readPixel_10 : decode cX4_readPixel 10 = .ok (.invokevirtual 87, 3) := by decide +kernel
theorem dX4_readPixel_13 : decode cX4_readPixel 13 = .ok (.istore_n 2, 1) := by decide +kernel
theorem dX4_readPixel_14 : decode cX4_readPixel 14 = .ok (.iload_n 2, 1) := by decide +kernel
theorem dX4_readPixel_15 : decode cX4_readPixel 15 = .ok (.iload_n 2, 1) := by decide +kernel
theorem dX4_readPixel_16 : decode cX4_readPixel 16 = .ok (.iload_n 2, 1) := by decide +kernel
theorem dX4_readPixel_17 : decode cX4_readPixel 17 = .ok (.invokestatic 141, 3) := by decide +kernel
theorem dX4_readPixel_20 : decode cX4_readPixel 20 = .ok (.ireturn, 1) := by decide +kernel
theorem dX4_readPixel_21 : decode cX4_readPixel 21 = .ok (.aload_n 1, 1) := by decide +kernel
theorem dX4_readPixel_22 : decode cX4_readPixel 22 = .ok (.invokevirtual 145, 3) := by decide +kernel
theorem dX4_readPixel_25 : decode cX4_readPixel 25 = .ok (.istore_n 2, 1) := by decide +kernel
theorem dX4_readPixel_26 : decode cX4_readPixel 26 = .ok (.aload_n 0, 1) := by decide +kernel
theorem dX4_readPixel_27 : decode cX4_readPixel 27 = .ok (.getfield 28, 3) := by decide +kernel
theorem dX4_readPixel_30 : decode cX4_readPixel 30 = .ok (.bipush 32, 2) := by decide +kernel
theorem dX4_readPixel_32 : decode cX4_readPixel 32 = .ok (.if_icmp .ne 16, 3) := by decide +kernel
theorem dX4_readPixel_35 : decode cX4_readPixel 35 = .ok (.iload_n 2, 1) := by decide +kernel
theorem dX4_readPixel_36 : decode cX4_readPixel 36 = .ok (.sipush (-256), 3) := by decide +kernel
theorem dX4_readPixel_39 : decode cX4_readPixel 39 = .ok (.iand, 1) := by decide +kernel
theorem dX4_readPixel_40 : decode cX4_readPixel 40 = .ok (.aload_n 1, 1) := by decide +kernel
theorem dX4_readPixel_41 : decode cX4_readPixel 41 = .ok (.invokevirtual 87, 3) := by decide +kernel
theorem dX4_readPixel_44 : decode cX4_readPixel 44 = .ok (.ior, 1) := by decide +kernel
theorem dX4_readPixel_45 : decode cX4_readPixel 45 = .ok (.goto 4, 3) := by decide +kernel
theorem dX4_readPixel_48 : decode cX4_readPixel 48 = .ok (.iload_n 2, 1) := by decide +kernel
theorem dX4_readPixel_49 : decode cX4_readPixel 49 = .ok (.ireturn, 1) := by decide +kernel
theorem dX5_init_0 : decode cX5_init 0 = .ok (.aload_n 0, 1) := by decide +kernel
theorem dX5_init_1 : decode cX5_init 1 = .ok (.invokespecial 3, 3) := by decide +kernel
theorem dX5_init_4 : decode cX5_init 4 = .ok (.aload_n 0, 1) := by decide +kernel
theorem dX5_init_5 : decode cX5_init 5 = .ok (.bipush 64, 2) := by decide +kernel
theorem dX5_init_7 : decode cX5_init 7 = .ok (.newarray .int, 2) := by decide +kernel
theorem dX5_init_9 : decode cX5_init 9 = .ok (.putfield 9, 3) := by decide +kernel
theorem dX5_init_12 : decode cX5_init 12 = .ok (.aload_n 0, 1) := by decide +kernel
theorem dX5_init_13 : decode cX5_init 13 = .ok (.iconst 1, 1) := by decide +kernel
theorem dX5_init_14 : decode cX5_init 14 = .ok (.putfield 15, 3) := by decide +kernel
theorem dX5_init_17 : decode cX5_init 17 = .ok (.aload_n 0, 1) := by decide +kernel
theorem dX5_init_18 : decode cX5_init 18 = .ok (.iconst 1, 1) := by decide +kernel
theorem dX5_init_19 : decode cX5_init 19 = .ok (.putfield 19, 3) := by decide +kernel
theorem dX5_init_22 : decode cX5_init 22 = .ok (.aload_n 0, 1) := by decide +kernel
theorem dX5_init_23 : decode cX5_init 23 = .ok (.getfield 9, 3) := by decide +kernel
theorem dX5_init_26 : decode cX5_init 26 = .ok (.iconst 0, 1) := by decide +kernel
theorem dX5_init_27 : decode cX5_init 27 = .ok (.sipush 255, 3) := by decide +kernel
theorem dX5_init_30 : decode cX5_init 30 = .ok (.iastore, 1) := by decide +kernel
theorem dX5_init_31 : decode cX5_init 31 = .ok (.return_, 1) := by decide +kernel
set_option maxRecDepth 20000 in
theorem ggX5_begin_X5_fill : GoodIn wsX5_begin wsX5_fill := goodIn_r _ [7, 8, 9, 10, 11, 12, 13, 14, 15] (by decide +kernel) (by decide +kernel)
set_option maxRecDepth 20000 in
theorem gX5_begin_X5_fill : GoodIn wsX5_begin (wsV RX5 22 RX5 yX5_fill wsX5_fill) := goodIn_app (goodIn_of _ (by decide +kernel)) ggX5_begin_X5_fill
theorem dX5_begin_0 : decode cX5_begin 0 = .ok (.aload_n 0, 1) := by decide +kernel
theorem dX5_begin_1 : decode cX5_begin 1 = .ok (.iload_n 1, 1) := by decide +kernel
theorem dX5_begin_2 : decode cX5_begin 2 = .ok (.putfield 15, 3) := by decide +kernel
theorem dX5_begin_5 : decode cX5_begin 5 = .ok (.aload_n 0, 1) := by decide +kernel
theorem dX5_begin_6 : decode cX5_begin 6 = .ok (.iload_n 2, 1) := by decide +kernel
theorem dX5_begin_7 : decode cX5_begin 7 = .ok (.putfield 19, 3) := by decide +kernel
theorem dX5_begin_10 : decode cX5_begin 10 = .ok (.aload_n 0, 1) := by decide +kernel
theorem dX5_begin_11 : decode cX5_begin 11 = .ok (.sipush 255, 3) := by decide +kernel
theorem dX5_begin_14 : decode cX5_begin 14 = .ok (.invokevirtual 22, 3) := by decide +kernel
theorem dX5_begin_17 : decode cX5_begin 17 = .ok (.return_, 1) := by decide +kernel
set_option maxRecDepth 20000 in
theorem ggX5_fill_J7_fill_53178 : GoodIn wsX5_fill wsJ7_fill_53178 := goodIn_r _ [5] (by decide +kernel) (by decide +kernel)
set_option maxRecDepth 20000 in
theorem gX5_fill_J7_fill_53178 : GoodIn wsX5_fill (va_wsS RX5 26 yJ7_fill_53178 wsJ7_fill_53178) := goodIn_app (goodIn_of _ (by decide +kernel)) ggX5_fill_J7_fill_53178
theorem dX5_fill_0 : decode cX5_fill 0 = .ok (.aload_n 0, 1) := by decide +kernel
theorem dX5_fill_1 : decode cX5_fill 1 = .ok (.getfield 9, 3) := by decide +kernel
theorem dX5_fill_4 : decode cX5_fill 4 = .ok (.iload_n 1, 1) := by decide +kernel
theorem dX5_fill_5 : decode cX5_fill 5 = .ok (.invokestatic 26, 3) := by decide +kernel
theorem dX5_fill_8 : decode cX5_fill 8 = .ok (.return_, 1) := by decide +kernel
theorem dX5_has_0 : decode cX5_has 0 = .ok (.iload_n 1, 1) := by decide +kernel
theorem dX5_has_1 : decode cX5_has 1 = .ok (.ifCond .lt 27, 3) := by decide +kernel
theorem dX5_has_4 : decode cX5_has 4 = .ok (.iload_n 1, 1) := by decide +kernel
theorem dX5_has_5 : decode cX5_has 5 = .ok (.aload_n 0, 1) := by decide +kernel
theorem dX5_has_6 : decode cX5_has 6 = .ok (.getfield 15, 3) := by decide +kernel
theorem dX5_has_9 : decode cX5_has 9 = .ok (.if_icmp .ge 19, 3) := by decide +kernel
theorem dX5_has_12 : decode cX5_has 12 = .ok (.iload_n 2, 1) := by decide +kernel
theorem dX5_has_13 : decode cX5_has 13 = .ok (.ifCond .lt 15, 3) := by decide +kernel
theorem dX5_has_16 : decode cX5_has 16 = .ok (.iload_n 2, 1) := by decide +kernel
theorem dX5_has_17 : decode cX5_has 17 = .ok (.aload_n 0, 1) := by decide +kernel
theorem dX5_has_18 : decode cX5_has 18 = .ok (.getfield 19, 3) := by decide +kernel
theorem dX5_has_21 : decode cX5_has 21 = .ok (.if_icmp .ge 7, 3) := by decide +kernel
theorem dX5_has_24 : decode cX5_has 24 = .ok (.iconst 1, 1) := by decide +kernel
theorem dX5_has_25 : decode cX5_has 25 = .ok (.goto 4, 3) := by decide +kernel
theorem dX5_has_28 : decode cX5_has 28 = .ok (.iconst 0, 1) := by decide +kernel
theorem dX5_has_29 : decode cX5_has 29 = .ok (.ireturn, 1) := by decide +kernel
theorem dX5_at_0 : decode cX5_at 0 = .ok (.aload_n 0, 1) := by decide +kernel
theorem dX5_at_1 : decode cX5_at 1 = .ok (.getfield 9, 3) := by decide +kernel
theorem dX5_at_4 : decode cX5_at 4 = .ok (.iload_n 2, 1) := by decide +kernel
theorem dX5_at_5 : decode cX5_at 5 = .ok (.aload_n 0, 1) := by decide +kernel
theorem dX5_at_6 : decode cX5_at 6 = .ok (.getfield 15, 3) := by decide +kernel
theorem dX5_at_9 : decode cX5_at 9 = .ok (.imul, 1) := by decide +kernel
theorem dX5_at_10 : decode cX5_at 10 = .ok (.iload_n 1, 1) := by decide +kernel
theorem dX5_at_11 : decode cX5_at 11 = .ok (.iadd, 1) := by decide +kernel
theorem dX5_at_12 : decode cX5_at 12 = .ok (.iaload, 1) := by decide +kernel
theorem dX5_at_13 : decode cX5_at 13 = .ok (.ireturn, 1) := by decide +kernel
theorem dX5_set_0 : decode cX5_set 0 = .ok (.aload_n 0, 1) := by decide +kernel
theorem dX5_set_1 : decode cX5_set 1 = .ok (.getfield 9, 3) := by decide +kernel
theorem dX5_set_4 : decode cX5_set 4 = .ok (.iload_n 2, 1) := by decide +kernel
theorem dX5_set_5 : decode cX5_set 5 = .ok (.aload_n 0, 1) := by decide +kernel
theorem dX5_set_6 : decode cX5_set 6 = .ok (.getfield 15, 3) := by decide +kernel
theorem dX5_set_9 : decode cX5_set 9 = .ok (.imul, 1) := by decide +kernel
theorem dX5_set_10 : decode cX5_set 10 = .ok (.iload_n 1, 1) := by decide +kernel
theorem dX5_set_11 : decode cX5_set 11 = .ok (.iadd, 1) := by decide +kernel
theorem dX5_set_12 : decode cX5_set 12 = .ok (.iload_n 3, 1) := by decide +kernel
theorem dX5_set_13 : decode cX5_set 13 = .ok (.iastore, 1) := by decide +kernel
theorem dX5_set_14 : decode cX5_set 14 = .ok (.return_, 1) := by decide +kernel
theorem dX5_count_0 : decode cX5_count 0 = .ok (.aload_n 0, 1) := by decide +kernel
theorem dX5_count_1 : decode cX5_count 1 = .ok (.getfield 15, 3) := by decide +kernel
theorem dX5_count_4 : decode cX5_count 4 = .ok (.aload_n 0, 1) := by decide +kernel
theorem dX5_count_5 : decode cX5_count 5 = .ok (.getfield 19, 3) := by decide +kernel
theorem dX5_count_8 : decode cX5_count 8 = .ok (.imul, 1) := by decide +kernel
theorem dX5_count_9 : decode cX5_count 9 = .ok (.ireturn, 1) := by decide +kernel
theorem dX5_become_0 : decode cX5_become 0 = .ok (.aload_n 0, 1) := by decide +kernel
theorem dX5_become_1 : decode cX5_become 1 = .ok (.aload_n 1, 1) := by decide +kernel
theorem dX5_become_2 : decode cX5_become 2 = .ok (.getfield 15, 3) := by decide +kernel
theorem dX5_become_5 : decode cX5_become 5 = .ok (.putfield 15, 3) := by decide +kernel
theorem dX5_become_8 : decode cX5_become 8 = .ok (.aload_n 0, 1) := by decide +kernel
theorem dX5_become_9 : decode cX5_become 9 = .ok (.aload_n 1, 1) := by decide +kernel
theorem dX5_become_10 : decode cX5_become 10 = .ok (.getfield 19, 3) := by decide +kernel
theorem dX5_become_13 : decode cX5_become 13 = .ok (.putfield 19, 3) := by decide +kernel
theorem dX5_become_16 : decode cX5_become 16 = .ok (.aload_n 1, 1) := by decide +kernel
theorem dX5_become_17 : decode cX5_become 17 = .ok (.getfield 9, 3) := by decide +kernel
theorem dX5_become_20 : decode cX5_become 20 = .ok (.iconst 0, 1) := by decide +kernel
theorem dX5_become_21 : decode cX5_become 21 = .ok (.aload_n 0, 1) := by decide +kernel
theorem dX5_become_22 : decode cX5_become 22 = .ok (.getfield 9, 3) := by decide +kernel
theorem dX5_become_25 : decode cX5_become 25 = .ok (.iconst 0, 1) := by decide +kernel
theorem dX5_become_26 : decode cX5_become 26 = .ok (.bipush 64, 2) := by decide +kernel
theorem dX5_become_28 : decode cX5_become 28 = .ok (.invokestatic 31, 3) := by decide +kernel
theorem dX5_become_31 : decode cX5_become 31 = .ok (.return_, 1) := by decide +kernel
set_option maxRecDepth 20000 in
theorem ggX5_becomeTurned_X5_begin : GoodIn wsX5_becomeTurned wsX5_begin := goodIn_r _ [7, 2, 1, 8, 9, 10, 6, 11, 12, 13, 14, 15, 16, 25, 26, 27] (by decide +kernel) (by decide +kernel)
set_option maxRecDepth 20000 in
theorem gX5_becomeTurned_X5_begin : GoodIn wsX5_becomeTurned (wsV RX5 37 RX5 yX5_begin wsX5_begin) := goodIn_app (goodIn_of _ (by decide +kernel)) ggX5_becomeTurned_X5_begin
set_option maxRecDepth 20000 in
theorem ggX5_becomeTurned_X5_at : GoodIn wsX5_becomeTurned wsX5_at := goodIn_r _ [20, 12, 2, 25, 26, 27] (by decide +kernel) (by decide +kernel)
set_option maxRecDepth 20000 in
theorem gX5_becomeTurned_X5_at : GoodIn wsX5_becomeTurned (wsV RX5 41 RX5 yX5_at wsX5_at) := goodIn_app (goodIn_of _ (by decide +kernel)) ggX5_becomeTurned_X5_at
set_option maxRecDepth 20000 in
theorem ggX5_becomeTurned_X5_set : GoodIn wsX5_becomeTurned wsX5_set := goodIn_r _ [24, 12, 2, 25, 26, 27] (by decide +kernel) (by decide +kernel)
set_option maxRecDepth 20000 in
theorem gX5_becomeTurned_X5_set : GoodIn wsX5_becomeTurned (wsV RX5 45 RX5 yX5_set wsX5_set) := goodIn_app (goodIn_of _ (by decide +kernel)) ggX5_becomeTurned_X5_set
theorem dX5_becomeTurned_0 : decode cX5_becomeTurned 0 = .ok (.aload_n 0, 1) := by decide +kernel
theorem dX5_becomeTurned_1 : decode cX5_becomeTurned 1 = .ok (.aload_n 1, 1) := by decide +kernel
theorem dX5_becomeTurned_2 : decode cX5_becomeTurned 2 = .ok (.getfield 19, 3) := by decide +kernel
theorem dX5_becomeTurned_5 : decode cX5_becomeTurned 5 = .ok (.aload_n 1, 1) := by decide +kernel
theorem dX5_becomeTurned_6 : decode cX5_becomeTurned 6 = .ok (.getfield 15, 3) := by decide +kernel
theorem dX5_becomeTurned_9 : decode cX5_becomeTurned 9 = .ok (.invokevirtual 37, 3) := by decide +kernel
theorem dX5_becomeTurned_12 : decode cX5_becomeTurned 12 = .ok (.iconst 0, 1) := by decide +kernel
theorem dX5_becomeTurned_13 : decode cX5_becomeTurned 13 = .ok (.istore_n 2, 1) := by decide +kernel
theorem dX5_becomeTurned_14 : decode cX5_becomeTurned 14 = .ok (.iload_n 2, 1) := by decide +kernel
theorem dX5_becomeTurned_15 : decode cX5_becomeTurned 15 = .ok (.aload_n 0, 1) := by decide +kernel
theorem dX5_becomeTurned_16 : decode cX5_becomeTurned 16 = .ok (.getfield 19, 3) := by decide +kernel
theorem dX5_becomeTurned_19 : decode cX5_becomeTurned 19 = .ok (.if_icmp .ge 37, 3) := by decide +kernel
theorem dX5_becomeTurned_22 : decode cX5_becomeTurned 22 = .ok (.iconst 0, 1) := by decide +kernel
theorem dX5_becomeTurned_23 : decode cX5_becomeTurned 23 = .ok (.istore_n 3, 1) := by decide +kernel
theorem dX5_becomeTurned_24 : decode cX5_becomeTurned 24 = .ok (.iload_n 3, 1) := by decide +kernel
theorem dX5_becomeTurned_25 : decode cX5_becomeTurned 25 = .ok (.aload_n 0, 1) := by decide +kernel
theorem dX5_becomeTurned_26 : decode cX5_becomeTurned 26 = .ok (.getfield 15, 3) := by decide +kernel
theorem dX5_becomeTurned_29 : decode cX5_becomeTurned 29 = .ok (.if_icmp .ge 21, 3) := by decide +kernel
theorem dX5_becomeTurned_32 : decode cX5_becomeTurned 32 = .ok (.aload_n 0, 1) := by decide +kernel
theorem dX5_becomeTurned_33 : decode cX5_becomeTurned 33 = .ok (.iload_n 3, 1) := by decide +kernel
theorem dX5_becomeTurned_34 : decode cX5_becomeTurned 34 = .ok (.iload_n 2, 1) := by decide +kernel
theorem dX5_becomeTurned_35 : decode cX5_becomeTurned 35 = .ok (.aload_n 1, 1) := by decide +kernel
theorem dX5_becomeTurned_36 : decode cX5_becomeTurned 36 = .ok (.iload_n 2, 1) := by decide +kernel
theorem dX5_becomeTurned_37 : decode cX5_becomeTurned 37 = .ok (.iload_n 3, 1) := by decide +kernel
theorem dX5_becomeTurned_38 : decode cX5_becomeTurned 38 = .ok (.invokevirtual 41, 3) := by decide +kernel
theorem dX5_becomeTurned_41 : decode cX5_becomeTurned 41 = .ok (.invokevirtual 45, 3) := by decide +kernel
theorem dX5_becomeTurned_44 : decode cX5_becomeTurned 44 = .ok (.iinc 3 1, 3) := by decide +kernel
theorem dX5_becomeTurned_47 : decode cX5_becomeTurned 47 = .ok (.goto (-23), 3) := by decide +kernel
theorem dX5_becomeTurned_50 : decode cX5_becomeTurned 50 = .ok (.iinc 2 1, 3) := by decide +kernel
theorem dX5_becomeTurned_53 : decode cX5_becomeTurned 53 = .ok (.goto (-39), 3) := by decide +kernel
theorem dX5_becomeTurned_56 : decode cX5_becomeTurned 56 = .ok (.return_, 1) := by decide +kernel
set_option maxRecDepth 20000 in
theorem ggX5_exchangeColumns_X5_exchange : GoodIn wsX5_exchangeColumns wsX5_exchange := goodIn_r _ [7, 8, 9, 10, 11] (by decide +kernel) (by decide +kernel)
set_option maxRecDepth 20000 in
theorem gX5_exchangeColumns_X5_exchange : GoodIn wsX5_exchangeColumns (wsV RX5 49 RX5 yX5_exchange wsX5_exchange) := goodIn_app (goodIn_of _ (by decide +kernel)) ggX5_exchangeColumns_X5_exchange
theorem dX5_exchangeColumns_0 : decode cX5_exchangeColumns 0 = .ok (.iconst 0, 1) := by decide +kernel
theorem dX5_exchangeColumns_1 : decode cX5_exchangeColumns 1 = .ok (.istore_n 1, 1) := by decide +kernel
theorem dX5_exchangeColumns_2 : decode cX5_exchangeColumns 2 = .ok (.iload_n 1, 1) := by decide +kernel
theorem dX5_exchangeColumns_3 : decode cX5_exchangeColumns 3 = .ok (.aload_n 0, 1) := by decide +kernel
theorem dX5_exchangeColumns_4 : decode cX5_exchangeColumns 4 = .ok (.getfield 19, 3) := by decide +kernel
theorem dX5_exchangeColumns_7 : decode cX5_exchangeColumns 7 = .ok (.if_icmp .ge 54, 3) := by decide +kernel
theorem dX5_exchangeColumns_10 : decode cX5_exchangeColumns 10 = .ok (.iconst 0, 1) := by decide +kernel
theorem dX5_exchangeColumns_11 : decode cX5_exchangeColumns 11 = .ok (.istore_n 2, 1) := by decide +kernel
theorem dX5_exchangeColumns_12 : decode cX5_exchangeColumns 12 = .ok (.iload_n 2, 1) := by decide +kernel
theorem dX5_exchangeColumns_13 : decode cX5_exchangeColumns 13 = .ok (.aload_n 0, 1) := by decide +kernel
theorem dX5_exchangeColumns_14 : decode cX5_exchangeColumns 14 = .ok (.getfield 15, 3) := by decide +kernel
theorem dX5_exchangeColumns_17 : decode cX5_exchangeColumns 17 = .ok (.iconst 2, 1) := by decide +kernel
theorem dX5_exchangeColumns_18 : decode cX5_exchangeColumns 18 = .ok (.idiv, 1) := by decide +kernel
theorem dX5_exchangeColumns_19 : decode cX5_exchangeColumns 19 = .ok (.if_icmp .ge 36, 3) := by decide +kernel
theorem dX5_exchangeColumns_22 : decode cX5_exchangeColumns 22 = .ok (.aload_n 0, 1) := by decide +kernel
theorem dX5_exchangeColumns_23 : decode cX5_exchangeColumns 23 = .ok (.iload_n 1, 1) := by decide +kernel
theorem dX5_exchangeColumns_24 : decode cX5_exchangeColumns 24 = .ok (.aload_n 0, 1) := by decide +kernel
theorem dX5_exchangeColumns_25 : decode cX5_exchangeColumns 25 = .ok (.getfield 15, 3) := by decide +kernel
theorem dX5_exchangeColumns_28 : decode cX5_exchangeColumns 28 = .ok (.imul, 1) := by decide +kernel
theorem dX5_exchangeColumns_29 : decode cX5_exchangeColumns 29 = .ok (.iload_n 2, 1) := by decide +kernel
theorem dX5_exchangeColumns_30 : decode cX5_exchangeColumns 30 = .ok (.iadd, 1) := by decide +kernel
theorem dX5_exchangeColumns_31 : decode cX5_exchangeColumns 31 = .ok (.iload_n 1, 1) := by decide +kernel
theorem dX5_exchangeColumns_32 : decode cX5_exchangeColumns 32 = .ok (.aload_n 0, 1) := by decide +kernel
theorem dX5_exchangeColumns_33 : decode cX5_exchangeColumns 33 = .ok (.getfield 15, 3) := by decide +kernel
theorem dX5_exchangeColumns_36 : decode cX5_exchangeColumns 36 = .ok (.imul, 1) := by decide +kernel
theorem dX5_exchangeColumns_37 : decode cX5_exchangeColumns 37 = .ok (.aload_n 0, 1) := by decide +kernel
theorem dX5_exchangeColumns_38 : decode cX5_exchangeColumns 38 = .ok (.getfield 15, 3) := by decide +kernel
theorem dX5_exchangeColumns_41 : decode cX5_exchangeColumns 41 = .ok (.iadd, 1) := by decide +kernel
theorem dX5_exchangeColumns_42 : decode cX5_exchangeColumns 42 = .ok (.iconst 1, 1) := by decide +kernel
theorem dX5_exchangeColumns_43 : decode cX5_exchangeColumns 43 = .ok (.isub, 1) := by decide +kernel
theorem dX5_exchangeColumns_44 : decode cX5_exchangeColumns 44 = .ok (.iload_n 2, 1) := by decide +kernel
theorem dX5_exchangeColumns_45 : decode cX5_exchangeColumns 45 = .ok (.isub, 1) := by decide +kernel
theorem dX5_exchangeColumns_46 : decode cX5_exchangeColumns 46 = .ok (.invokevirtual 49, 3) := by decide +kernel
theorem dX5_exchangeColumns_49 : decode cX5_exchangeColumns 49 = .ok (.iinc 2 1, 3) := by decide +kernel
theorem dX5_exchangeColumns_52 : decode cX5_exchangeColumns 52 = .ok (.goto (-40), 3) := by decide +kernel
theorem dX5_exchangeColumns_55 : decode cX5_exchangeColumns 55 = .ok (.iinc 1 1, 3) := by decide +kernel
theorem dX5_exchangeColumns_58 : decode cX5_exchangeColumns 58 = .ok (.goto (-56), 3) := by decide +kernel
theorem dX5_exchangeColumns_61 : decode cX5_exchangeColumns 61 = .ok (.return_, 1) := by decide +kernel
set_option maxRecDepth 20000 in
theorem ggX5_exchangeRows_X5_exchange : GoodIn wsX5_exchangeRows wsX5_exchange := goodIn_r _ [7, 8, 9, 10, 11] (by decide +kernel) (by decide +kernel)
set_option maxRecDepth 20000 in
theorem gX5_exchangeRows_X5_exchange : GoodIn wsX5_exchangeRows (wsV RX5 49 RX5 yX5_exchange wsX5_exchange) := goodIn_app (goodIn_of _ (by decide +kernel)) ggX5_exchangeRows_X5_exchange
theorem dX5_exchangeRows_0 : decode cX5_exchangeRows 0 = .ok (.iconst 0, 1) := by decide +kernel
theorem dX5_exchangeRows_1 : decode cX5_exchangeRows 1 = .ok (.istore_n 1, 1) := by decide +kernel
theorem dX5_exchangeRows_2 : decode cX5_exchangeRows 2 = .ok (.iload_n 1, 1) := by decide +kernel
theorem dX5_exchangeRows_3 : decode cX5_exchangeRows 3 = .ok (.aload_n 0, 1) := by decide +kernel
theorem dX5_exchangeRows_4 : decode cX5_exchangeRows 4 = .ok (.getfield 19, 3) := by decide +kernel
theorem dX5_exchangeRows_7 : decode cX5_exchangeRows 7 = .ok (.iconst 2, 1) := by decide +kernel
theorem dX5_exchangeRows_8 : decode cX5_exchangeRows 8 = .ok (.idiv, 1) := by decide +kernel
theorem dX5_exchangeRows_9 : decode cX5_exchangeRows 9 = .ok (.if_icmp .ge 52, 3) := by decide +kernel
theorem dX5_exchangeRows_12 : decode cX5_exchangeRows 12 = .ok (.iconst 0, 1) := by decide +kernel
theorem dX5_exchangeRows_13 : decode cX5_exchangeRows 13 = .ok (.istore_n 2, 1) := by decide +kernel
theorem dX5_exchangeRows_14 : decode cX5_exchangeRows 14 = .ok (.iload_n 2, 1) := by decide +kernel
theorem dX5_exchangeRows_15 : decode cX5_exchangeRows 15 = .ok (.aload_n 0, 1) := by decide +kernel
theorem dX5_exchangeRows_16 : decode cX5_exchangeRows 16 = .ok (.getfield 15, 3) := by decide +kernel
theorem dX5_exchangeRows_19 : decode cX5_exchangeRows 19 = .ok (.if_icmp .ge 36, 3) := by decide +kernel
theorem dX5_exchangeRows_22 : decode cX5_exchangeRows 22 = .ok (.aload_n 0, 1) := by decide +kernel
theorem dX5_exchangeRows_23 : decode cX5_exchangeRows 23 = .ok (.iload_n 1, 1) := by decide +kernel
theorem dX5_exchangeRows_24 : decode cX5_exchangeRows 24 = .ok (.aload_n 0, 1) := by decide +kernel
theorem dX5_exchangeRows_25 : decode cX5_exchangeRows 25 = .ok (.getfield 15, 3) := by decide +kernel
theorem dX5_exchangeRows_28 : decode cX5_exchangeRows 28 = .ok (.imul, 1) := by decide +kernel
theorem dX5_exchangeRows_29 : decode cX5_exchangeRows 29 = .ok (.iload_n 2, 1) := by decide +kernel
theorem dX5_exchangeRows_30 : decode cX5_exchangeRows 30 = .ok (.iadd, 1) := by decide +kernel
theorem dX5_exchangeRows_31 : decode cX5_exchangeRows 31 = .ok (.aload_n 0, 1) := by decide +kernel
theorem dX5_exchangeRows_32 : decode cX5_exchangeRows 32 = .ok (.getfield 19, 3) := by decide +kernel
theorem dX5_exchangeRows_35 : decode cX5_exchangeRows 35 = .ok (.iconst 1, 1) := by decide +kernel
theorem dX5_exchangeRows_36 : decode cX5_exchangeRows 36 = .ok (.isub, 1) := by decide +kernel
theorem dX5_exchangeRows_37 : decode cX5_exchangeRows 37 = .ok (.iload_n 1, 1) := by decide +kernel
theorem dX5_exchangeRows_38 : decode cX5_exchangeRows 38 = .ok (.isub, 1) := by decide +kernel
theorem dX5_exchangeRows_39 : decode cX5_exchangeRows 39 = .ok (.aload_n 0, 1) := by decide +kernel
theorem dX5_exchangeRows_40 : decode cX5_exchangeRows 40 = .ok (.getfield 15, 3) := by decide +kernel
theorem dX5_exchangeRows_43 : decode cX5_exchangeRows 43 = .ok (.imul, 1) := by decide +kernel
theorem dX5_exchangeRows_44 : decode cX5_exchangeRows 44 = .ok (.iload_n 2, 1) := by decide +kernel
theorem dX5_exchangeRows_45 : decode cX5_exchangeRows 45 = .ok (.iadd, 1) := by decide +kernel
theorem dX5_exchangeRows_46 : decode cX5_exchangeRows 46 = .ok (.invokevirtual 49, 3) := by decide +kernel
theorem dX5_exchangeRows_49 : decode cX5_exchangeRows 49 = .ok (.iinc 2 1, 3) := by decide +kernel
theorem dX5_exchangeRows_52 : decode cX5_exchangeRows 52 = .ok (.goto (-38), 3) := by decide +kernel
theorem dX5_exchangeRows_55 : decode cX5_exchangeRows 55 = .ok (.iinc 1 1, 3) := by decide +kernel
theorem dX5_exchangeRows_58 : decode cX5_exchangeRows 58 = .ok (.goto (-56), 3) := by decide +kernel
theorem dX5_exchangeRows_61 : decode cX5_exchangeRows 61 = .ok (.return_, 1) := by decide +kernel
theorem dX5_exchange_0 : decode cX5_exchange 0 = .ok (.aload_n 0, 1) := by decide +kernel
theorem dX5_exchange_1 : decode cX5_exchange 1 = .ok (.getfield 9, 3) := by decide +kernel
theorem dX5_exchange_4 : decode cX5_exchange 4 = .ok (.iload_n 1, 1) := by decide +kernel
theorem dX5_exchange_5 : decode cX5_exchange 5 = .ok (.iaload, 1) := by decide +kernel
theorem dX5_exchange_6 : decode cX5_exchange 6 = .ok (.istore_n 3, 1) := by decide +kernel
theorem dX5_exchange_7 : decode cX5_exchange 7 = .ok (.aload_n 0, 1) := by decide +kernel
theorem dX5_exchange_8 : decode cX5_exchange 8 = .ok (.getfield 9, 3) := by decide +kernel
theorem dX5_exchange_11 : decode cX5_exchange 11 = .ok (.iload_n 1, 1) := by decide +kernel
theorem dX5_exchange_12 : decode cX5_exchange 12 = .ok (.aload_n 0, 1) := by decide +kernel
theorem dX5_exchange_13 : decode cX5_exchange 13 = .ok (.getfield 9, 3) := by decide +kernel
theorem dX5_exchange_16 : decode cX5_exchange 16 = .ok (.iload_n 2, 1) := by decide +kernel
theorem dX5_exchange_17 : decode cX5_exchange 17 = .ok (.iaload, 1) := by decide +kernel
theorem dX5_exchange_18 : decode cX5_exchange 18 = .ok (.iastore, 1) := by decide +kernel
theorem dX5_exchange_19 : decode cX5_exchange 19 = .ok (.aload_n 0, 1) := by decide +kernel
theorem dX5_exchange_20 : decode cX5_exchange 20 = .ok (.getfield 9, 3) := by decide +kernel
theorem dX5_exchange_23 : decode cX5_exchange 23 = .ok (.iload_n 2, 1) := by decide +kernel
theorem dX5_exchange_24 : decode cX5_exchange 24 = .ok (.iload_n 3, 1) := by decide +kernel
theorem dX5_exchange_25 : decode cX5_exchange 25 = .ok (.iastore, 1) := by decide +kernel
theorem dX5_exchange_26 : decode cX5_exchange 26 = .ok (.return_, 1) := by decide +kernel
set_option maxRecDepth 20000 in
theorem ggX5_loseColour_X5_count : GoodIn wsX5_loseColour wsX5_count := goodIn_r _ [6, 7, 8, 20, 21, 22] (by decide +kernel) (by decide +kernel)
set_option maxRecDepth 20000 in
theorem gX5_loseColour_X5_count : GoodIn wsX5_loseColour (wsV RX5 52 RX5 yX5_count wsX5_count) := goodIn_app (goodIn_of _ (by decide +kernel)) ggX5_loseColour_X5_count
set_option maxRecDepth 20000 in
theorem ggX5_loseColour_X8_red : GoodIn wsX5_loseColour wsX8_red := goodIn_r _ [11] (by decide +kernel) (by decide +kernel)
set_option maxRecDepth 20000 in
theorem gX5_loseColour_X8_red_n56 : GoodIn wsX5_loseColour (wsX8_red) := ggX5_loseColour_X8_red
set_option maxRecDepth 20000 in
theorem ggX5_loseColour_X8_green : GoodIn wsX5_loseColour wsX8_green := goodIn_r _ [13] (by decide +kernel) (by decide +kernel)
set_option maxRecDepth 20000 in
theorem gX5_loseColour_X8_green_n60 : GoodIn wsX5_loseColour (wsX8_green) := ggX5_loseColour_X8_green
set_option maxRecDepth 20000 in
theorem ggX5_loseColour_X8_blue : GoodIn wsX5_loseColour wsX8_blue := goodIn_r _ [15] (by decide +kernel) (by decide +kernel)
set_option maxRecDepth 20000 in
theorem gX5_loseColour_X8_blue_n63 : GoodIn wsX5_loseColour (wsX8_blue) := ggX5_loseColour_X8_blue
set_option maxRecDepth 20000 in
theorem ggX5_loseColour_X8_alpha : GoodIn wsX5_loseColour wsX8_alpha := goodIn_r _ [17] (by decide +kernel) (by decide +kernel)
set_option maxRecDepth 20000 in
theorem gX5_loseColour_X8_alpha_n66 : GoodIn wsX5_loseColour (wsX8_alpha) := ggX5_loseColour_X8_alpha
set_option maxRecDepth 20000 in
theorem ggX5_loseColour_X8_colour : GoodIn wsX5_loseColour wsX8_colour := goodIn_r _ [19] (by decide +kernel) (by decide +kernel)
set_option maxRecDepth 20000 in
theorem gX5_loseColour_X8_colour_n69 : GoodIn wsX5_loseColour (wsX8_colour) := ggX5_loseColour_X8_colour
theorem dX5_loseColour_0 : decode cX5_loseColour 0 = .ok (.iconst 0, 1) := by decide +kernel
theorem dX5_loseColour_1 : decode cX5_loseColour 1 = .ok (.istore_n 1, 1) := by decide +kernel
theorem dX5_loseColour_2 : decode cX5_loseColour 2 = .ok (.iload_n 1, 1) := by decide +kernel
theorem dX5_loseColour_3 : decode cX5_loseColour 3 = .ok (.aload_n 0, 1) := by decide +kernel
theorem dX5_loseColour_4 : decode cX5_loseColour 4 = .ok (.invokevirtual 52, 3) := by decide +kernel
theorem dX5_loseColour_7 : decode cX5_loseColour 7 = .ok (.if_icmp .ge 61, 3) := by decide +kernel
theorem dX5_loseColour_10 : decode cX5_loseColour 10 = .ok (.aload_n 0, 1) := by decide +kernel
theorem dX5_loseColour_11 : decode cX5_loseColour 11 = .ok (.getfield 9, 3) := by decide +kernel
theorem dX5_loseColour_14 : decode cX5_loseColour 14 = .ok (.iload_n 1, 1) := by decide +kernel
theorem dX5_loseColour_15 : decode cX5_loseColour 15 = .ok (.iaload, 1) := by decide +kernel
theorem dX5_loseColour_16 : decode cX5_loseColour 16 = .ok (.istore_n 2, 1) := by decide +kernel
theorem dX5_loseColour_17 : decode cX5_loseColour 17 = .ok (.bipush 77, 2) := by decide +kernel
theorem dX5_loseColour_19 : decode cX5_loseColour 19 = .ok (.iload_n 2, 1) := by decide +kernel
theorem dX5_loseColour_20 : decode cX5_loseColour 20 = .ok (.invokestatic 56, 3) := by decide +kernel
theorem dX5_loseColour_23 : decode cX5_loseColour 23 = .ok (.imul, 1) := by decide +kernel
theorem dX5_loseColour_24 : decode cX5_loseColour 24 = .ok (.sipush 150, 3) := by decide +kernel
theorem dX5_loseColour_27 : decode cX5_loseColour 27 = .ok (.iload_n 2, 1) := by decide +kernel
theorem dX5_loseColour_28 : decode cX5_loseColour 28 = .ok (.invokestatic 60, 3) := by decide +kernel
theorem dX5_loseColour_31 : decode cX5_loseColour 31 = .ok (.imul, 1) := by decide +kernel
theorem dX5_loseColour_32 : decode cX5_loseColour 32 = .ok (.iadd, 1) := by decide +kernel
theorem dX5_loseColour_33 : decode cX5_loseColour 33 = .ok (.bipush 29, 2) := by decide +kernel
theorem dX5_loseColour_35 : decode cX5_loseColour 35 = .ok (.iload_n 2, 1) := by decide +kernel
theorem dX5_loseColour_36 : decode cX5_loseColour 36 = .ok (.invokestatic 63, 3) := by decide +kernel
theorem dX5_loseColour_39 : decode cX5_loseColour 39 = .ok (.imul, 1) := by decide +kernel
theorem dX5_loseColour_40 : decode cX5_loseColour 40 = .ok (.iadd, 1) := by decide +kernel
theorem dX5_loseColour_41 : decode cX5_loseColour 41 = .ok (.sipush 256, 3) := by decide +kernel
theorem dX5_loseColour_44 : decode cX5_loseColour 44 = .ok (.idiv, 1) := by decide +kernel
theorem dX5_loseColour_45 : decode cX5_loseColour 45 = .ok (.istore_n 3, 1) := by decide +kernel
theorem dX5_loseColour_46 : decode cX5_loseColour 46 = .ok (.aload_n 0, 1) := by decide +kernel
theorem dX5_loseColour_47 : decode cX5_loseColour 47 = .ok (.getfield 9, 3) := by decide +kernel
theorem dX5_loseColour_50 : decode cX5_loseColour 50 = .ok (.iload_n 1, 1) := by decide +kernel
theorem dX5_loseColour_51 : decode cX5_loseColour 51 = .ok (.iload_n 3, 1) := by decide +kernel
theorem dX5_loseColour_52 : decode cX5_loseColour 52 = .ok (.iload_n 3, 1) := by decide +kernel
theorem dX5_loseColour_53 : decode cX5_loseColour 53 = .ok (.iload_n 3, 1) := by decide +kernel
theorem dX5_loseColour_54 : decode cX5_loseColour 54 = .ok (.iload_n 2, 1) := by decide +kernel
theorem dX5_loseColour_55 : decode cX5_loseColour 55 = .ok (.invokestatic 66, 3) := by decide +kernel
theorem dX5_loseColour_58 : decode cX5_loseColour 58 = .ok (.invokestatic 69, 3) := by decide +kernel
theorem dX5_loseColour_61 : decode cX5_loseColour 61 = .ok (.iastore, 1) := by decide +kernel
theorem dX5_loseColour_62 : decode cX5_loseColour 62 = .ok (.iinc 1 1, 3) := by decide +kernel
theorem dX5_loseColour_65 : decode cX5_loseColour 65 = .ok (.goto (-63), 3) := by decide +kernel
theorem dX5_loseColour_68 : decode cX5_loseColour 68 = .ok (.return_, 1) := by decide +kernel
set_option maxRecDepth 20000 in
theorem ggX5_becomeOpaque_X5_count : GoodIn wsX5_becomeOpaque wsX5_count := goodIn_r _ [6, 7, 8, 9, 10, 11] (by decide +kernel) (by decide +kernel)
set_option maxRecDepth 20000 in
theorem gX5_becomeOpaque_X5_count : GoodIn wsX5_becomeOpaque (wsV RX5 52 RX5 yX5_count wsX5_count) := goodIn_app (goodIn_of _ (by decide +kernel)) ggX5_becomeOpaque_X5_count
theorem dX5_becomeOpaque_0 : decode cX5_becomeOpaque 0 = .ok (.iconst 0, 1) := by decide +kernel
theorem dX5_becomeOpaque_1 : decode cX5_becomeOpaque 1 = .ok (.istore_n 1, 1) := by decide +kernel
theorem dX5_becomeOpaque_2 : decode cX5_becomeOpaque 2 = .ok (.iload_n 1, 1) := by decide +kernel
theorem dX5_becomeOpaque_3 : decode cX5_becomeOpaque 3 = .ok (.aload_n 0, 1) := by decide +kernel
theorem dX5_becomeOpaque_4 : decode cX5_becomeOpaque 4 = .ok (.invokevirtual 52, 3) := by decide +kernel
theorem dX5_becomeOpaque_7 : decode cX5_becomeOpaque 7 = .ok (.if_icmp .ge 25, 3) := by decide +kernel
theorem dX5_becomeOpaque_10 : decode cX5_becomeOpaque 10 = .ok (.aload_n 0, 1) := by decide +kernel
theorem dX5_becomeOpaque_11 : decode cX5_becomeOpaque 11 = .ok (.getfield 9, 3) := by decide +kernel
theorem dX5_becomeOpaque_14 : decode cX5_becomeOpaque 14 = .ok (.iload_n 1, 1) := by decide +kernel
theorem dX5_becomeOpaque_15 : decode cX5_becomeOpaque 15 = .ok (.aload_n 0, 1) := by decide +kernel
theorem dX5_becomeOpaque_16 : decode cX5_becomeOpaque 16 = .ok (.getfield 9, 3) := by decide +kernel
theorem dX5_becomeOpaque_19 : decode cX5_becomeOpaque 19 = .ok (.iload_n 1, 1) := by decide +kernel
theorem dX5_becomeOpaque_20 : decode cX5_becomeOpaque 20 = .ok (.iaload, 1) := by decide +kernel
theorem dX5_becomeOpaque_21 : decode cX5_becomeOpaque 21 = .ok (.sipush 255, 3) := by decide +kernel
theorem dX5_becomeOpaque_24 : decode cX5_becomeOpaque 24 = .ok (.ior, 1) := by decide +kernel
theorem dX5_becomeOpaque_25 : decode cX5_becomeOpaque 25 = .ok (.iastore, 1) := by decide +kernel
theorem dX5_becomeOpaque_26 : decode cX5_becomeOpaque 26 = .ok (.iinc 1 1, 3) := by decide +kernel
theorem dX5_becomeOpaque_29 : decode cX5_becomeOpaque 29 = .ok (.goto (-27), 3) := by decide +kernel
theorem dX5_becomeOpaque_32 : decode cX5_becomeOpaque 32 = .ok (.return_, 1) := by decide +kernel
set_option maxRecDepth 20000 in
theorem ggX5_isOpaque_X5_count : GoodIn wsX5_isOpaque wsX5_count := goodIn_r _ [6, 7, 8, 12, 13, 14] (by decide +kernel) (by decide +kernel)
set_option maxRecDepth 20000 in
theorem gX5_isOpaque_X5_count : GoodIn wsX5_isOpaque (wsV RX5 52 RX5 yX5_count wsX5_count) := goodIn_app (goodIn_of _ (by decide +kernel)) ggX5_isOpaque_X5_count
set_option maxRecDepth 20000 in
theorem ggX5_isOpaque_X8_alpha : GoodIn wsX5_isOpaque wsX8_alpha := goodIn_r _ [11] (by decide +kernel) (by decide +kernel)
set_option maxRecDepth 20000 in
theorem gX5_isOpaque_X8_alpha_n66 : GoodIn wsX5_isOpaque (wsX8_alpha) := ggX5_isOpaque_X8_alpha
theorem dX5_isOpaque_0 : decode cX5_isOpaque 0 = .ok (.iconst 0, 1) := by decide +kernel
theorem dX5_isOpaque_1 : decode cX5_isOpaque 1 = .ok (.istore_n 1, 1) := by decide +kernel
theorem dX5_isOpaque_2 : decode cX5_isOpaque 2 = .ok (.iload_n 1, 1) := by decide +kernel
theorem dX5_isOpaque_3 : decode cX5_isOpaque 3 = .ok (.aload_n 0, 1) := by decide +kernel
theorem dX5_isOpaque_4 : decode cX5_isOpaque 4 = .ok (.invokevirtual 52, 3) := by decide +kernel
theorem dX5_isOpaque_7 : decode cX5_isOpaque 7 = .ok (.if_icmp .ge 26, 3) := by decide +kernel
theorem dX5_isOpaque_10 : decode cX5_isOpaque 10 = .ok (.aload_n 0, 1) := by decide +kernel
theorem dX5_isOpaque_11 : decode cX5_isOpaque 11 = .ok (.getfield 9, 3) := by decide +kernel
theorem dX5_isOpaque_14 : decode cX5_isOpaque 14 = .ok (.iload_n 1, 1) := by decide +kernel
theorem dX5_isOpaque_15 : decode cX5_isOpaque 15 = .ok (.iaload, 1) := by decide +kernel
theorem dX5_isOpaque_16 : decode cX5_isOpaque 16 = .ok (.invokestatic 66, 3) := by decide +kernel
theorem dX5_isOpaque_19 : decode cX5_isOpaque 19 = .ok (.sipush 255, 3) := by decide +kernel
theorem dX5_isOpaque_22 : decode cX5_isOpaque 22 = .ok (.if_icmp .eq 5, 3) := by decide +kernel
theorem dX5_isOpaque_25 : decode cX5_isOpaque 25 = .ok (.iconst 0, 1) := by decide +kernel
theorem dX5_isOpaque_26 : decode cX5_isOpaque 26 = .ok (.ireturn, 1) := by decide +kernel
theorem dX5_isOpaque_27 : decode cX5_isOpaque 27 = .ok (.iinc 1 1, 3) := by decide +kernel
theorem dX5_isOpaque_30 : decode cX5_isOpaque 30 = .ok (.goto (-28), 3) := by decide +kernel
theorem dX5_isOpaque_33 : decode cX5_isOpaque 33 = .ok (.iconst 1, 1) := by decide +kernel
theorem dX5_isOpaque_34 : decode cX5_isOpaque 34 = .ok (.ireturn, 1) := by decide +kernel
set_option maxRecDepth 20000 in
theorem ggX5_isGrey_X5_count : GoodIn wsX5_isGrey wsX5_count := goodIn_r _ [6, 7, 8, 22, 23, 24] (by decide +kernel) (by decide +kernel)
set_option maxRecDepth 20000 in
theorem gX5_isGrey_X5_count : GoodIn wsX5_isGrey (wsV RX5 52 RX5 yX5_count wsX5_count) := goodIn_app (goodIn_of _ (by decide +kernel)) ggX5_isGrey_X5_count
set_option maxRecDepth 20000 in
theorem ggX5_isGrey_X8_red : GoodIn wsX5_isGrey wsX8_red := goodIn_r _ [11] (by decide +kernel) (by decide +kernel)
set_option maxRecDepth 20000 in
theorem gX5_isGrey_X8_red_n56 : GoodIn wsX5_isGrey (wsX8_red) := ggX5_isGrey_X8_red
set_option maxRecDepth 20000 in
theorem ggX5_isGrey_X8_green : GoodIn wsX5_isGrey wsX8_green := goodIn_r _ [13] (by decide +kernel) (by decide +kernel)
set_option maxRecDepth 20000 in
theorem gX5_isGrey_X8_green_n60 : GoodIn wsX5_isGrey (wsX8_green) := ggX5_isGrey_X8_green
set_option maxRecDepth 20000 in
theorem ggX5_isGrey_X8_blue : GoodIn wsX5_isGrey wsX8_blue := goodIn_r _ [15] (by decide +kernel) (by decide +kernel)
set_option maxRecDepth 20000 in
theorem gX5_isGrey_X8_blue_n63 : GoodIn wsX5_isGrey (wsX8_blue) := ggX5_isGrey_X8_blue
set_option maxRecDepth 20000 in
theorem ggX5_isGrey_X5_isOpaque : GoodIn wsX5_isGrey wsX5_isOpaque := goodIn_r _ [19, 1, 2, 3, 4, 5, 6, 7, 8, 20, 10, 21, 22, 23, 24] (by decide +kernel) (by decide +kernel)
set_option maxRecDepth 20000 in
theorem gX5_isGrey_X5_isOpaque : GoodIn wsX5_isGrey (wsV RX5 73 RX5 yX5_isOpaque wsX5_isOpaque) := goodIn_app (goodIn_of _ (by decide +kernel)) ggX5_isGrey_X5_isOpaque
theorem dX5_isGrey_0 : decode cX5_isGrey 0 = .ok (.iconst 0, 1) := by decide +kernel
theorem dX5_isGrey_1 : decode cX5_isGrey 1 = .ok (.istore_n 1, 1) := by decide +kernel
theorem dX5_isGrey_2 : decode cX5_isGrey 2 = .ok (.iload_n 1, 1) := by decide +kernel
theorem dX5_isGrey_3 : decode cX5_isGrey 3 = .ok (.aload_n 0, 1) := by decide +kernel
theorem dX5_isGrey_4 : decode cX5_isGrey 4 = .ok (.invokevirtual 52, 3) := by decide +kernel
theorem dX5_isGrey_7 : decode cX5_isGrey 7 = .ok (.if_icmp .ge 40, 3) := by decide +kernel
theorem dX5_isGrey_10 : decode cX5_isGrey 10 = .ok (.aload_n 0, 1) := by decide +kernel
theorem dX5_isGrey_11 : decode cX5_isGrey 11 = .ok (.getfield 9, 3) := by decide +kernel
theorem dX5_isGrey_14 : decode cX5_isGrey 14 = .ok (.iload_n 1, 1) := by decide +kernel
theorem dX5_isGrey_15 : decode cX5_isGrey 15 = .ok (.iaload, 1) := by decide +kernel
theorem dX5_isGrey_16 : decode cX5_isGrey 16 = .ok (.istore_n 2, 1) := by decide +kernel
theorem dX5_isGrey_17 : decode cX5_isGrey 17 = .ok (.iload_n 2, 1) := by decide +kernel
theorem dX5_isGrey_18 : decode cX5_isGrey 18 = .ok (.invokestatic 56, 3) := by decide +kernel
theorem dX5_isGrey_21 : decode cX5_isGrey 21 = .ok (.iload_n 2, 1) := by decide +kernel
theorem dX5_isGrey_22 : decode cX5_isGrey 22 = .ok (.invokestatic 60, 3) := by decide +kernel
theorem dX5_isGrey_25 : decode cX5_isGrey 25 = .ok (.if_icmp .ne 14, 3) := by decide +kernel
theorem dX5_isGrey_28 : decode cX5_isGrey 28 = .ok (.iload_n 2, 1) := by decide +kernel
theorem dX5_isGrey_29 : decode cX5_isGrey 29 = .ok (.invokestatic 60, 3) := by decide +kernel
theorem dX5_isGrey_32 : decode cX5_isGrey 32 = .ok (.iload_n 2, 1) := by decide +kernel
theorem dX5_isGrey_33 : decode cX5_isGrey 33 = .ok (.invokestatic 63, 3) := by decide +kernel
theorem dX5_isGrey_36 : decode cX5_isGrey 36 = .ok (.if_icmp .eq 5, 3) := by decide +kernel
theorem dX5_isGrey_39 : decode cX5_isGrey 39 = .ok (.iconst 0, 1) := by decide +kernel
theorem dX5_isGrey_40 : decode cX5_isGrey 40 = .ok (.ireturn, 1) := by decide +kernel
theorem dX5_isGrey_41 : decode cX5_isGrey 41 = .ok (.iinc 1 1, 3) := by decide +kernel
theorem dX5_isGrey_44 : decode cX5_isGrey 44 = .ok (.goto (-42), 3) := by decide +kernel
theorem dX5_isGrey_47 : decode cX5_isGrey 47 = .ok (.aload_n 0, 1) := by decide +kernel
theorem dX5_isGrey_48 : decode cX5_isGrey 48 = .ok (.invokevirtual 73, 3) := by decide +kernel
theorem dX5_isGrey_51 : decode cX5_isGrey 51 = .ok (.ireturn, 1) := by decide +kernel
set_option maxRecDepth 20000 in
theorem ggX6_init_X3_init : GoodIn wsX6_init wsX3_init := goodIn_r _ [3, 4, 5, 6] (by decide +kernel) (by decide +kernel)
set_option maxRecDepth 20000 in
theorem gX6_init_X3_init_n3 : GoodIn wsX6_init (wsX3_init) := ggX6_init_X3_init
theorem dX6_init_0 : decode cX6_init 0 = .ok (.aload_n 0, 1) := by decide +kernel
theorem dX6_init_1 : decode cX6_init 1 = .ok (.invokespecial 3, 3) := by decide +kernel
theorem dX6_init_4 : decode cX6_init 4 = .ok (.return_, 1) := by decide +kernel
set_option maxRecDepth 20000 in
theorem ggX6_isThatOf_X2_at : GoodIn wsX6_isThatOf wsX2_at := goodIn_r _ [5, 6, 7, 8, 9] (by decide +kernel) (by decide +kernel)
set_option maxRecDepth 20000 in
theorem gX6_isThatOf_X2_at : GoodIn wsX6_isThatOf (wsV RX6 9 RX2 yX2_at wsX2_at) := goodIn_app (goodIn_of _ (by decide +kernel)) ggX6_isThatOf_X2_at
theorem dX6_isThatOf_0 : decode cX6_isThatOf 0 = .ok (.aload_n 1, 1) := by decide +kernel
theorem dX6_isThatOf_1 : decode cX6_isThatOf 1 = .ok (.iconst 1, 1) := by decide +kernel
theorem dX6_isThatOf_2 : decode cX6_isThatOf 2 = .ok (.invokevirtual 9, 3) := by decide +kernel
theorem dX6_isThatOf_5 : decode cX6_isThatOf 5 = .ok (.istore_n 2, 1) := by decide +kernel
theorem dX6_isThatOf_6 : decode cX6_isThatOf 6 = .ok (.aload_n 1, 1) := by decide +kernel
theorem dX6_isThatOf_7 : decode cX6_isThatOf 7 = .ok (.iconst 0, 1) := by decide +kernel
theorem dX6_isThatOf_8 : decode cX6_isThatOf 8 = .ok (.invokevirtual 9, 3) := by decide +kernel
theorem dX6_isThatOf_11 : decode cX6_isThatOf 11 = .ok (.bipush 80, 2) := by decide +kernel
theorem dX6_isThatOf_13 : decode cX6_isThatOf 13 = .ok (.if_icmp .ne 31, 3) := by decide +kernel
theorem dX6_isThatOf_16 : decode cX6_isThatOf 16 = .ok (.iload_n 2, 1) := by decide +kernel
theorem dX6_isThatOf_17 : decode cX6_isThatOf 17 = .ok (.bipush 50, 2) := by decide +kernel
theorem dX6_isThatOf_19 : decode cX6_isThatOf 19 = .ok (.if_icmp .eq 21, 3) := by decide +kernel
theorem dX6_isThatOf_22 : decode cX6_isThatOf 22 = .ok (.iload_n 2, 1) := by decide +kernel
theorem dX6_isThatOf_23 : decode cX6_isThatOf 23 = .ok (.bipush 51, 2) := by decide +kernel
theorem dX6_isThatOf_25 : decode cX6_isThatOf 25 = .ok (.if_icmp .eq 15, 3) := by decide +kernel
theorem dX6_isThatOf_28 : decode cX6_isThatOf 28 = .ok (.iload_n 2, 1) := by decide +kernel
theorem dX6_isThatOf_29 : decode cX6_isThatOf 29 = .ok (.bipush 53, 2) := by decide +kernel
theorem dX6_isThatOf_31 : decode cX6_isThatOf 31 = .ok (.if_icmp .eq 9, 3) := by decide +kernel
theorem dX6_isThatOf_34 : decode cX6_isThatOf 34 = .ok (.iload_n 2, 1) := by decide +kernel
theorem dX6_isThatOf_35 : decode cX6_isThatOf 35 = .ok (.bipush 54, 2) := by decide +kernel
theorem dX6_isThatOf_37 : decode cX6_isThatOf 37 = .ok (.if_icmp .ne 7, 3) := by decide +kernel
theorem dX6_isThatOf_40 : decode cX6_isThatOf 40 = .ok (.iconst 1, 1) := by decide +kernel
theorem dX6_isThatOf_41 : decode cX6_isThatOf 41 = .ok (.goto 4, 3) := by decide +kernel
theorem dX6_isThatOf_44 : decode cX6_isThatOf 44 = .ok (.iconst 0, 1) := by decide +kernel
theorem dX6_isThatOf_45 : decode cX6_isThatOf 45 = .ok (.ireturn, 1) := by decide +kernel
set_option maxRecDepth 20000 in
theorem ggX6_canHold_X5_isOpaque : GoodIn wsX6_canHold wsX5_isOpaque := goodIn_r _ [5, 6, 7, 8, 9, 4, 10, 11, 12, 13, 14, 15, 16, 17, 18] (by decide +kernel) (by decide +kernel)
set_option maxRecDepth 20000 in
theorem gX6_canHold_X5_isOpaque : GoodIn wsX6_canHold (wsV RX6 15 RX5 yX5_isOpaque wsX5_isOpaque) := goodIn_app (goodIn_of _ (by decide +kernel)) ggX6_canHold_X5_isOpaque
theorem dX6_canHold_0 : decode cX6_canHold 0 = .ok (.aload_n 1, 1) := by decide +kernel
theorem dX6_canHold_1 : decode cX6_canHold 1 = .ok (.invokevirtual 15, 3) := by decide +kernel
theorem dX6_canHold_4 : decode cX6_canHold 4 = .ok (.ireturn, 1) := by decide +kernel
set_option maxRecDepth 20000 in
theorem ggX6_write_X5_isGrey : GoodIn wsX6_write wsX5_isGrey := goodIn_r _ [5, 6, 7, 8, 9, 4, 10, 11, 12, 13, 14, 15, 16, 17, 18, 19, 20, 21, 22, 23, 24, 25, 49, 50, 51] (by decide +kernel) (by decide +kernel)
set_option maxRecDepth 20000 in
theorem gX6_write_X5_isGrey : GoodIn wsX6_write (wsV RX6 21 RX5 yX5_isGrey wsX5_isGrey) := goodIn_app (goodIn_of _ (by decide +kernel)) ggX6_write_X5_isGrey
set_option maxRecDepth 20000 in
theorem ggX6_write_X2_append : GoodIn wsX6_write wsX2_append := goodIn_r _ [30, 31, 32, 52, 53] (by decide +kernel) (by decide +kernel)
set_option maxRecDepth 20000 in
theorem gX6_write_X2_append : GoodIn wsX6_write (wsV RX6 24 RX2 yX2_append wsX2_append) := goodIn_app (goodIn_of _ (by decide +kernel)) ggX6_write_X2_append
set_option maxRecDepth 20000 in
theorem ggX6_write_X2_appendDigits : GoodIn wsX6_write wsX2_appendDigits := goodIn_r _ [36, 37, 27, 28, 29, 30, 31, 32, 52, 53] (by decide +kernel) (by decide +kernel)
set_option maxRecDepth 20000 in
theorem gX6_write_X2_appendDigits : GoodIn wsX6_write (wsV RX6 34 RX2 yX2_appendDigits wsX2_appendDigits) := goodIn_app (goodIn_of _ (by decide +kernel)) ggX6_write_X2_appendDigits
set_option maxRecDepth 20000 in
theorem ggX6_write_X5_at : GoodIn wsX6_write wsX5_at := goodIn_r _ [41, 6, 11, 49, 50, 51] (by decide +kernel) (by decide +kernel)
set_option maxRecDepth 20000 in
theorem gX6_write_X5_at : GoodIn wsX6_write (wsV RX6 41 RX5 yX5_at wsX5_at) := goodIn_app (goodIn_of _ (by decide +kernel)) ggX6_write_X5_at
set_option maxRecDepth 20000 in
theorem ggX6_write_X6_writePixel : GoodIn wsX6_write wsX6_writePixel := goodIn_r _ [45, 13, 14, 15, 46, 47, 44, 48, 26, 27, 28, 29, 30, 31, 32, 33, 34, 35, 36, 37, 16, 17, 18, 19, 52, 53] (by decide +kernel) (by decide +kernel)
set_option maxRecDepth 20000 in
theorem gX6_write_X6_writePixel : GoodIn wsX6_write (va_wsS RX6 44 yX6_writePixel wsX6_writePixel) := goodIn_app (goodIn_of _ (by decide +kernel)) ggX6_write_X6_writePixel
theorem dX6_write_0 : decode cX6_write 0 = .ok (.aload_n 1, 1) := by decide +kernel
theorem dX6_write_1 : decode cX6_write 1 = .ok (.invokevirtual 21, 3) := by decide +kernel
theorem dX6_write_4 : decode cX6_write 4 = .ok (.ifCond .ne 7, 3) := by decide +kernel
theorem dX6_write_7 : decode cX6_write 7 = .ok (.iconst 1, 1) := by decide +kernel
theorem dX6_write_8 : decode cX6_write 8 = .ok (.goto 4, 3) := by decide +kernel
theorem dX6_write_11 : decode cX6_write 11 = .ok (.iconst 0, 1) := by decide +kernel
theorem dX6_write_12 : decode cX6_write 12 = .ok (.istore 4, 2) := by decide +kernel
theorem dX6_write_14 : decode cX6_write 14 = .ok (.aload_n 3, 1) := by decide +kernel
theorem dX6_write_15 : decode cX6_write 15 = .ok (.bipush 80, 2) := by decide +kernel
theorem dX6_write_17 : decode cX6_write 17 = .ok (.invokevirtual 24, 3) := by decide +kernel
theorem dX6_write_20 : decode cX6_write 20 = .ok (.pop, 1) := by decide +kernel
theorem dX6_write_21 : decode cX6_write 21 = .ok (.aload_n 3, 1) := by decide +kernel
theorem dX6_write_22 : decode cX6_write 22 = .ok (.iload_n 2, 1) := by decide +kernel
theorem dX6_write_23 : decode cX6_write 23 = .ok (.ifCond .ne 8, 3) := by decide +kernel
theorem dX6_write_26 : decode cX6_write 26 = .ok (.bipush 53, 2) := by decide +kernel
theorem dX6_write_28 : decode cX6_write 28 = .ok (.goto 5, 3) := by decide +kernel
theorem dX6_write_31 : decode cX6_write 31 = .ok (.bipush 50, 2) := by decide +kernel
theorem dX6_write_33 : decode cX6_write 33 = .ok (.iload 4, 2) := by decide +kernel
theorem dX6_write_35 : decode cX6_write 35 = .ok (.ifCond .eq 7, 3) := by decide +kernel
theorem dX6_write_38 : decode cX6_write 38 = .ok (.iconst 1, 1) := by decide +kernel
theorem dX6_write_39 : decode cX6_write 39 = .ok (.goto 4, 3) := by decide +kernel
theorem dX6_write_42 : decode cX6_write 42 = .ok (.iconst 0, 1) := by decide +kernel
theorem dX6_write_43 : decode cX6_write 43 = .ok (.iadd, 1) := by decide +kernel
theorem dX6_write_44 : decode cX6_write 44 = .ok (.invokevirtual 24, 3) := by decide +kernel
theorem dX6_write_47 : decode cX6_write 47 = .ok (.pop, 1) := by decide +kernel
theorem dX6_write_48 : decode cX6_write 48 = .ok (.aload_n 3, 1) := by decide +kernel
theorem dX6_write_49 : decode cX6_write 49 = .ok (.bipush 10, 2) := by decide +kernel
theorem dX6_write_51 : decode cX6_write 51 = .ok (.invokevirtual 24, 3) := by decide +kernel
theorem dX6_write_54 : decode cX6_write 54 = .ok (.pop, 1) := by decide +kernel
theorem dX6_write_55 : decode cX6_write 55 = .ok (.aload_n 3, 1) := by decide +kernel
theorem dX6_write_56 : decode cX6_write 56 = .ok (.aload_n 1, 1) := by decide +kernel
theorem dX6_write_57 : decode cX6_write 57 = .ok (.getfield 30, 3) := by decide +kernel
theorem dX6_write_60 : decode cX6_write 60 = .ok (.invokevirtual 34, 3) := by decide +kernel
theorem dX6_write_63 : decode cX6_write 63 = .ok (.aload_n 3, 1) := by decide +kernel
theorem dX6_write_64 : decode cX6_write 64 = .ok (.bipush 32, 2) := by decide +kernel
theorem dX6_write_66 : decode cX6_write 66 = .ok (.invokevirtual 24, 3) := by decide +kernel
theorem dX6_write_69 : decode cX6_write 69 = .ok (.pop, 1) := by decide +kernel
theorem dX6_write_70 : decode cX6_write 70 = .ok (.aload_n 3, 1) := by decide +kernel
theorem dX6_write_71 : decode cX6_write 71 = .ok (.aload_n 1, 1) := by decide +kernel
theorem dX6_write_72 : decode cX6_write 72 = .ok (.getfield 38, 3) := by decide +kernel
theorem dX6_write_75 : decode cX6_write 75 = .ok (.invokevirtual 34, 3) := by decide +kernel
theorem dX6_write_78 : decode cX6_write 78 = .ok (.aload_n 3, 1) := by decide +kernel
theorem dX6_write_79 : decode cX6_write 79 = .ok (.bipush 10, 2) := by decide +kernel
theorem dX6_write_81 : decode cX6_write 81 = .ok (.invokevirtual 24, 3) := by decide +kernel
theorem dX6_write_84 : decode cX6_write 84 = .ok (.pop, 1) := by decide +kernel
theorem dX6_write_85 : decode cX6_write 85 = .ok (.aload_n 3, 1) := by decide +kernel
theorem dX6_write_86 : decode cX6_write 86 = .ok (.sipush 255, 3) := by decide +kernel
theorem dX6_write_89 : decode cX6_write 89 = .ok (.invokevirtual 34, 3) := by decide +kernel
theorem dX6_write_92 : decode cX6_write 92 = .ok (.aload_n 3, 1) := by decide +kernel
theorem dX6_write_93 : decode cX6_write 93 = .ok (.bipush 10, 2) := by decide +kernel
theorem dX6_write_95 : decode cX6_write 95 = .ok (.invokevirtual 24, 3) := by decide +kernel
theorem dX6_write_98 : decode cX6_write 98 = .ok (.pop, 1) := by decide +kernel
theorem dX6_write_99 : decode cX6_write 99 = .ok (.iconst 0, 1) := by decide +kernel
theorem dX6_write_100 : decode cX6_write 100 = .ok (.istore 5, 2) := by decide +kernel
theorem dX6_write_102 : decode cX6_write 102 = .ok (.iload 5, 2) := by decide +kernel
theorem dX6_write_104 : decode cX6_write 104 = .ok (.aload_n 1, 1) := by decide +kernel
theorem dX6_write_105 : decode cX6_write 105 = .ok (.getfield 38, 3) := by decide +kernel
theorem dX6_write_108 : decode cX6_write 108 = .ok (.if_icmp .ge 64, 3) := by decide +kernel
theorem dX6_write_111 : decode cX6_write 111 = .ok (.iconst 0, 1) := by decide +kernel
theorem dX6_write_112 : decode cX6_write 112 = .ok (.istore 6, 2) := by decide +kernel
theorem dX6_write_114 : decode cX6_write 114 = .ok (.iload 6, 2) := by decide +kernel
theorem dX6_write_116 : decode cX6_write 116 = .ok (.aload_n 1, 1) := by decide +kernel
theorem dX6_write_117 : decode cX6_write 117 = .ok (.getfield 30, 3) := by decide +kernel
theorem dX6_write_120 : decode cX6_write 120 = .ok (.if_icmp .ge 46, 3) := by decide +kernel
theorem dX6_write_123 : decode cX6_write 123 = .ok (.iload 6, 2) := by decide +kernel
theorem dX6_write_125 : decode cX6_write 125 = .ok (.iconst 1, 1) := by decide +kernel
theorem dX6_write_126 : decode cX6_write 126 = .ok (.iadd, 1) := by decide +kernel
theorem dX6_write_127 : decode cX6_write 127 = .ok (.aload_n 1, 1) := by decide +kernel
theorem dX6_write_128 : decode cX6_write 128 = .ok (.getfield 30, 3) := by decide +kernel
theorem dX6_write_131 : decode cX6_write 131 = .ok (.if_icmp .ne 8, 3) := by decide +kernel
theorem dX6_write_134 : decode cX6_write 134 = .ok (.bipush 10, 2) := by decide +kernel
theorem dX6_write_136 : decode cX6_write 136 = .ok (.goto 5, 3) := by decide +kernel
theorem dX6_write_139 : decode cX6_write 139 = .ok (.bipush 32, 2) := by decide +kernel
theorem dX6_write_141 : decode cX6_write 141 = .ok (.istore 7, 2) := by decide +kernel
theorem dX6_write_143 : decode cX6_write 143 = .ok (.aload_n 1, 1) := by decide +kernel
theorem dX6_write_144 : decode cX6_write 144 = .ok (.iload 6, 2) := by decide +kernel
theorem dX6_write_146 : decode cX6_write 146 = .ok (.iload 5, 2) := by decide +kernel
theorem dX6_write_148 : decode cX6_write 148 = .ok (.invokevirtual 41, 3) := by decide +kernel
theorem dX6_write_151 : decode cX6_write 151 = .ok (.iload 4, 2) := by decide +kernel
theorem dX6_write_153 : decode cX6_write 153 = .ok (.iload_n 2, 1) := by decide +kernel
theorem dX6_write_154 : decode cX6_write 154 = .ok (.iload 7, 2) := by decide +kernel
theorem dX6_write_156 : decode cX6_write 156 = .ok (.aload_n 3, 1) := by decide +kernel
theorem dX6_write_157 : decode cX6_write 157 = .ok (.invokestatic 44, 3) := by decide +kernel
theorem dX6_write_160 : decode cX6_write 160 = .ok (.iinc 6 1, 3) := by decide +kernel
theorem dX6_write_163 : decode cX6_write 163 = .ok (.goto (-49), 3) := by decide +kernel
theorem dX6_write_166 : decode cX6_write 166 = .ok (.iinc 5 1, 3) := by decide +kernel
theorem dX6_write_169 : decode cX6_write 169 = .ok (.goto (-67), 3) := by decide +kernel
theorem dX6_write_172 : decode cX6_write 172 = .ok (.return_, 1) := by decide +kernel
set_option maxRecDepth 20000 in
theorem ggX6_writePixel_X8_red : GoodIn wsX6_writePixel wsX8_red := goodIn_r _ [3] (by decide +kernel) (by decide +kernel)
set_option maxRecDepth 20000 in
theorem gX6_writePixel_X8_red_n48 : GoodIn wsX6_writePixel (wsX8_red) := ggX6_writePixel_X8_red
set_option maxRecDepth 20000 in
theorem ggX6_writePixel_X6_writeSample : GoodIn wsX6_writePixel wsX6_writeSample := goodIn_r _ [7, 8, 9, 10, 11, 12, 13, 14, 15, 16, 17, 18, 19, 24, 25] (by decide +kernel) (by decide +kernel)
set_option maxRecDepth 20000 in
theorem gX6_writePixel_X6_writeSample : GoodIn wsX6_writePixel (va_wsS RX6 51 yX6_writeSample wsX6_writeSample) := goodIn_app (goodIn_of _ (by decide +kernel)) ggX6_writePixel_X6_writeSample
set_option maxRecDepth 20000 in
theorem ggX6_writePixel_X8_green : GoodIn wsX6_writePixel wsX8_green := goodIn_r _ [21] (by decide +kernel) (by decide +kernel)
set_option maxRecDepth 20000 in
theorem gX6_writePixel_X8_green_n55 : GoodIn wsX6_writePixel (wsX8_green) := ggX6_writePixel_X8_green
set_option maxRecDepth 20000 in
theorem ggX6_writePixel_X8_blue : GoodIn wsX6_writePixel wsX8_blue := goodIn_r _ [23] (by decide +kernel) (by decide +kernel)
set_option maxRecDepth 20000 in
theorem gX6_writePixel_X8_blue_n58 : GoodIn wsX6_writePixel (wsX8_blue) := ggX6_writePixel_X8_blue
theorem dX6_writePixel_0 : decode cX6_writePixel 0 = .ok (.iload_n 1, 1) := by decide +kernel
theorem dX6_writePixel_1 : decode cX6_writePixel 1 = .ok (.ifCond .eq 27, 3) := by decide +kernel
theorem dX6_writePixel_4 : decode cX6_writePixel 4 = .ok (.iload_n 0, 1) := by decide +kernel
theorem dX6_writePixel_5 : decode cX6_writePixel 5 = .ok (.invokestatic 48, 3) := by decide +kernel
theorem dX6_writePixel_8 : decode cX6_writePixel 8 = .ok (.iload_n 2, 1) := by decide +kernel
theorem dX6_writePixel_9 : decode cX6_writePixel 9 = .ok (.bipush 32, 2) := by decide +kernel
theorem dX6_writePixel_11 : decode cX6_writePixel 11 = .ok (.aload 4, 2) := by decide +kernel
theorem dX6_writePixel_13 : decode cX6_writePixel 13 = .ok (.invokestatic 51, 3) := by decide +kernel
theorem dX6_writePixel_16 : decode cX6_writePixel 16 = .ok (.iload_n 0, 1) := by decide +kernel
theorem dX6_writePixel_17 : decode cX6_writePixel 17 = .ok (.invokestatic 55, 3) := by decide +kernel
theorem dX6_writePixel_20 : decode cX6_writePixel 20 = .ok (.iload_n 2, 1) := by decide +kernel
theorem dX6_writePixel_21 : decode cX6_writePixel 21 = .ok (.bipush 32, 2) := by decide +kernel
theorem dX6_writePixel_23 : decode cX6_writePixel 23 = .ok (.aload 4, 2) := by decide +kernel
theorem dX6_writePixel_25 : decode cX6_writePixel 25 = .ok (.invokestatic 51, 3) := by decide +kernel
theorem dX6_writePixel_28 : decode cX6_writePixel 28 = .ok (.iload_n 0, 1) := by decide +kernel
theorem dX6_writePixel_29 : decode cX6_writePixel 29 = .ok (.invokestatic 58, 3) := by decide +kernel
theorem dX6_writePixel_32 : decode cX6_writePixel 32 = .ok (.iload_n 2, 1) := by decide +kernel
theorem dX6_writePixel_33 : decode cX6_writePixel 33 = .ok (.iload_n 3, 1) := by decide +kernel
theorem dX6_writePixel_34 : decode cX6_writePixel 34 = .ok (.aload 4, 2) := by decide +kernel
theorem dX6_writePixel_36 : decode cX6_writePixel 36 = .ok (.invokestatic 51, 3) := by decide +kernel
theorem dX6_writePixel_39 : decode cX6_writePixel 39 = .ok (.return_, 1) := by decide +kernel
set_option maxRecDepth 20000 in
theorem ggX6_writeSample_X2_append : GoodIn wsX6_writeSample wsX2_append := goodIn_r _ [5, 6, 7, 13, 14] (by decide +kernel) (by decide +kernel)
set_option maxRecDepth 20000 in
theorem gX6_writeSample_X2_append : GoodIn wsX6_writeSample (wsV RX6 24 RX2 yX2_append wsX2_append) := goodIn_app (goodIn_of _ (by decide +kernel)) ggX6_writeSample_X2_append
set_option maxRecDepth 20000 in
theorem ggX6_writeSample_X2_appendDigits : GoodIn wsX6_writeSample wsX2_appendDigits := goodIn_r _ [11, 12, 2, 3, 4, 5, 6, 7, 13, 14] (by decide +kernel) (by decide +kernel)
set_option maxRecDepth 20000 in
theorem gX6_writeSample_X2_appendDigits : GoodIn wsX6_writeSample (wsV RX6 34 RX2 yX2_appendDigits wsX2_appendDigits) := goodIn_app (goodIn_of _ (by decide +kernel)) ggX6_writeSample_X2_appendDigits
theorem dX6_writeSample_0 : decode cX6_writeSample 0 = .ok (.iload_n 1, 1) := by decide +kernel
theorem dX6_writeSample_1 : decode cX6_writeSample 1 = .ok (.ifCond .ne 12, 3) := by decide +kernel
theorem dX6_writeSample_4 : decode cX6_writeSample 4 = .ok (.aload_n 3, 1) := by decide +kernel
theorem dX6_writeSample_5 : decode cX6_writeSample 5 = .ok (.iload_n 0, 1) := by decide +kernel
theorem dX6_writeSample_6 : decode cX6_writeSample 6 = .ok (.invokevirtual 24, 3) := by decide +kernel
theorem dX6_writeSample_9 : decode cX6_writeSample 9 = .ok (.pop, 1) := by decide +kernel
theorem dX6_writeSample_10 : decode cX6_writeSample 10 = .ok (.goto 14, 3) := by decide +kernel
theorem dX6_writeSample_13 : decode cX6_writeSample 13 = .ok (.aload_n 3, 1) := by decide +kernel
theorem dX6_writeSample_14 : decode cX6_writeSample 14 = .ok (.iload_n 0, 1) := by decide +kernel
theorem dX6_writeSample_15 : decode cX6_writeSample 15 = .ok (.invokevirtual 34, 3) := by decide +kernel
theorem dX6_writeSample_18 : decode cX6_writeSample 18 = .ok (.aload_n 3, 1) := by decide +kernel
theorem dX6_writeSample_19 : decode cX6_writeSample 19 = .ok (.iload_n 2, 1) := by decide +kernel
theorem dX6_writeSample_20 : decode cX6_writeSample 20 = .ok (.invokevirtual 24, 3) := by decide +kernel
theorem dX6_writeSample_23 : decode cX6_writeSample 23 = .ok (.pop, 1) := by decide +kernel
theorem dX6_writeSample_24 : decode cX6_writeSample 24 = .ok (.return_, 1) := by decide +kernel
set_option maxRecDepth 20000 in
theorem ggX6_read_X7_pass : GoodIn wsX6_read wsX7_pass := goodIn_ca (goodIn_r _ [7, 8, 9, 10, 6, 11, 12, 13, 14, 15, 87, 88, 89, 90] (by decide +kernel) (by decide +kernel)) (goodIn_sub (fun _ h => List.mem_cons_of_mem _ (List.mem_append_left _ (List.mem_append_right _ h))) (by decide +kernel))
set_option maxRecDepth 20000 in
theorem gX6_read_X7_pass : GoodIn wsX6_read (wsV RX6 61 RX7 yX7_pass wsX7_pass) := goodIn_app (goodIn_of _ (by decide +kernel)) ggX6_read_X7_pass
set_option maxRecDepth 20000 in
theorem ggX6_read_X7_next : GoodIn wsX6_read wsX7_next := goodIn_ca (goodIn_r _ [11, 12, 13, 14, 15, 87, 88, 89, 90] (by decide +kernel) (by decide +kernel)) (goodIn_sub (fun _ h => List.mem_cons_of_mem _ (List.mem_append_left _ (List.mem_append_right _ h))) (by decide +kernel))
set_option maxRecDepth 20000 in
theorem gX6_read_X7_next : GoodIn wsX6_read (wsV RX6 66 RX7 yX7_next wsX7_next) := goodIn_app (goodIn_of _ (by decide +kernel)) ggX6_read_X7_next
set_option maxRecDepth 20000 in
theorem ggX6_read_X6_number : GoodIn wsX6_read wsX6_number := goodIn_ca (goodIn_ca (goodIn_r _ [20, 21, 22, 19, 23, 24, 25, 26, 6, 27, 14, 15, 28, 29, 30, 16, 9, 10, 11, 12, 13, 31, 32, 33, 34, 35, 36, 37, 38, 39, 87, 88, 89, 90] (by decide +kernel) (by decide +kernel)) (goodIn_sub (fun _ h => List.mem_cons_of_mem _ (List.mem_append_left _ (List.mem_append_right _ h))) (by decide +kernel))) (goodIn_sub (fun _ h => List.mem_cons_of_mem _ (List.mem_append_right _ h)) (by decide +kernel))
set_option maxRecDepth 20000 in
theorem gX6_read_X6_number : GoodIn wsX6_read (va_wsS RX6 74 yX6_number wsX6_number) := goodIn_app (goodIn_of _ (by decide +kernel)) ggX6_read_X6_number
set_option maxRecDepth 20000 in
theorem ggX6_read_X7_needSide : GoodIn wsX6_read wsX7_needSide := goodIn_ca (goodIn_r _ [43, 44, 45, 46, 47, 35, 36, 6, 37, 38, 39] (by decide +kernel) (by decide +kernel)) (goodIn_sub (fun _ h => List.mem_cons_of_mem _ (List.mem_append_right _ h)) (by decide +kernel))
set_option maxRecDepth 20000 in
theorem gX6_read_X7_needSide : GoodIn wsX6_read (wsV RX6 78 RX7 yX7_needSide wsX7_needSide) := goodIn_app (goodIn_of _ (by decide +kernel)) ggX6_read_X7_needSide
set_option maxRecDepth 20000 in
theorem ggX6_read_X7_need : GoodIn wsX6_read wsX7_need := goodIn_ca (goodIn_r _ [37, 38, 39] (by decide +kernel) (by decide +kernel)) (goodIn_sub (fun _ h => List.mem_cons_of_mem _ (List.mem_append_right _ h)) (by decide +kernel))
set_option maxRecDepth 20000 in
theorem gX6_read_X7_need : GoodIn wsX6_read (wsV RX6 84 RX7 yX7_need wsX7_need) := goodIn_app (goodIn_of _ (by decide +kernel)) ggX6_read_X7_need
set_option maxRecDepth 20000 in
theorem ggX6_read_X6_isSpace : GoodIn wsX6_read wsX6_isSpace := goodIn_r _ [30] (by decide +kernel) (by decide +kernel)
set_option maxRecDepth 20000 in
theorem gX6_read_X6_isSpace : GoodIn wsX6_read (va_wsS RX6 88 yX6_isSpace wsX6_isSpace) := goodIn_app (goodIn_of _ (by decide +kernel)) ggX6_read_X6_isSpace
set_option maxRecDepth 20000 in
theorem ggX6_read_X5_begin : GoodIn wsX6_read wsX5_begin := goodIn_r _ [52, 53, 54, 55, 56, 57, 51, 58, 59, 60, 61, 62, 63, 91, 92, 93] (by decide +kernel) (by decide +kernel)
set_option maxRecDepth 20000 in
theorem gX6_read_X5_begin : GoodIn wsX6_read (wsV RX6 91 RX5 yX5_begin wsX5_begin) := goodIn_app (goodIn_of _ (by decide +kernel)) ggX6_read_X5_begin
set_option maxRecDepth 20000 in
theorem ggX6_read_X6_readSamples : GoodIn wsX6_read wsX6_readSamples := goodIn_ca (goodIn_ca (goodIn_r _ [67, 68, 69, 70, 51, 71, 53, 54, 72, 73, 74, 19, 75, 1, 2, 17, 18, 20, 21, 22, 23, 24, 25, 26, 6, 27, 14, 15, 28, 29, 30, 16, 9, 10, 11, 12, 13, 31, 32, 33, 34, 35, 36, 37, 38, 39, 76, 45, 77, 78, 79, 80, 91, 92, 93, 85, 86, 87, 88, 89, 90] (by decide +kernel) (by decide +kernel)) (goodIn_sub (fun _ h => List.mem_cons_of_mem _ (List.mem_append_left _ (List.mem_append_right _ h))) (by decide +kernel))) (goodIn_sub (fun _ h => List.mem_cons_of_mem _ (List.mem_append_right _ h)) (by decide +kernel))
set_option maxRecDepth 20000 in
theorem gX6_read_X6_readSamples : GoodIn wsX6_read (wsV RX6 95 RX6 yX6_readSamples wsX6_readSamples) := goodIn_app (goodIn_of _ (by decide +kernel)) ggX6_read_X6_readSamples
set_option maxRecDepth 20000 in
theorem ggX6_read_X6_passBlanks : GoodIn wsX6_read wsX6_passBlanks := goodIn_ca (goodIn_r _ [23, 24, 25, 26, 6, 27, 14, 15, 28, 29, 19, 30, 16, 9, 10, 11, 12, 13, 87, 88, 89, 90] (by decide +kernel) (by decide +kernel)) (goodIn_sub (fun _ h => List.mem_cons_of_mem _ (List.mem_append_left _ (List.mem_append_right _ h))) (by decide +kernel))
set_option maxRecDepth 20000 in
theorem gX6_read_X6_passBlanks : GoodIn wsX6_read (va_wsS RX6 99 yX6_passBlanks wsX6_passBlanks) := goodIn_app (goodIn_of _ (by decide +kernel)) ggX6_read_X6_passBlanks
set_option maxRecDepth 20000 in
theorem ggX6_read_X7_isAtEnd : GoodIn wsX6_read wsX7_isAtEnd := goodIn_r _ [84, 14, 15, 87, 88, 89, 90] (by decide +kernel) (by decide +kernel)
set_option maxRecDepth 20000 in
theorem gX6_read_X7_isAtEnd : GoodIn wsX6_read (wsV RX6 103 RX7 yX7_isAtEnd wsX7_isAtEnd) := goodIn_app (goodIn_of _ (by decide +kernel)) ggX6_read_X7_isAtEnd
theorem dX6_read_0 : decode cX6_read 0 = .ok (.aload_n 1, 1) := by decide +kernel
theorem dX6_read_1 : decode cX6_read 1 = .ok (.iconst 1, 1) := by decide +kernel
theorem dX6_read_2 : decode cX6_read 2 = .ok (.invokevirtual 61, 3) := by decide +kernel
theorem dX6_read_5 : decode cX6_read 5 = .ok (.aload_n 1, 1) := by decide +kernel
theorem dX6_read_6 : decode cX6_read 6 = .ok (.invokevirtual 66, 3) := by decide +kernel
theorem dX6_read_9 : decode cX6_read 9 = .ok (.istore_n 3, 1) := by decide +kernel
theorem dX6_read_10 : decode cX6_read 10 = .ok (.aload_n 0, 1) := by decide +kernel
theorem dX6_read_11 : decode cX6_read 11 = .ok (.iload_n 3, 1) := by decide +kernel
theorem dX6_read_12 : decode cX6_read 12 = .ok (.bipush 50, 2) := by decide +kernel
theorem dX6_read_14 : decode cX6_read 14 = .ok (.if_icmp .eq 9, 3) := by decide +kernel
theorem dX6_read_17 : decode cX6_read 17 = .ok (.iload_n 3, 1) := by decide +kernel
theorem dX6_read_18 : decode cX6_read 18 = .ok (.bipush 51, 2) := by decide +kernel
theorem dX6_read_20 : decode cX6_read 20 = .ok (.if_icmp .ne 7, 3) := by decide +kernel
theorem dX6_read_23 : decode cX6_read 23 = .ok (.iconst 1, 1) := by decide +kernel
theorem dX6_read_24 : decode cX6_read 24 = .ok (.goto 4, 3) := by decide +kernel
theorem dX6_read_27 : decode cX6_read 27 = .ok (.iconst 0, 1) := by decide +kernel
theorem dX6_read_28 : decode cX6_read 28 = .ok (.putfield 70, 3) := by decide +kernel
theorem dX6_read_31 : decode cX6_read 31 = .ok (.aload_n 1, 1) := by decide +kernel
theorem dX6_read_32 : decode cX6_read 32 = .ok (.aload_n 1, 1) := by decide +kernel
theorem dX6_read_33 : decode cX6_read 33 = .ok (.invokestatic 74, 3) := by decide +kernel
theorem dX6_read_36 : decode cX6_read 36 = .ok (.invokevirtual 78, 3) := by decide +kernel
theorem dX6_read_39 : decode cX6_read 39 = .ok (.istore 4, 2) := by decide +kernel
theorem dX6_read_41 : decode cX6_read 41 = .ok (.aload_n 1, 1) := by decide +kernel
theorem dX6_read_42 : decode cX6_read 42 = .ok (.aload_n 1, 1) := by decide +kernel
theorem dX6_read_43 : decode cX6_read 43 = .ok (.invokestatic 74, 3) := by decide +kernel
theorem dX6_read_46 : decode cX6_read 46 = .ok (.invokevirtual 78, 3) := by decide +kernel
theorem dX6_read_49 : decode cX6_read 49 = .ok (.istore 5, 2) := by decide +kernel
theorem dX6_read_51 : decode cX6_read 51 = .ok (.aload_n 0, 1) := by decide +kernel
theorem dX6_read_52 : decode cX6_read 52 = .ok (.aload_n 1, 1) := by decide +kernel
theorem dX6_read_53 : decode cX6_read 53 = .ok (.invokestatic 74, 3) := by decide +kernel
theorem dX6_read_56 : decode cX6_read 56 = .ok (.putfield 81, 3) := by decide +kernel
theorem dX6_read_59 : decode cX6_read 59 = .ok (.aload_n 1, 1) := by decide +kernel
theorem dX6_read_60 : decode cX6_read 60 = .ok (.aload_n 0, 1) := by decide +kernel
theorem dX6_read_61 : decode cX6_read 61 = .ok (.getfield 81, 3) := by decide +kernel
theorem dX6_read_64 : decode cX6_read 64 = .ok (.iconst 1, 1) := by decide +kernel
theorem dX6_read_65 : decode cX6_read 65 = .ok (.if_icmp .lt 17, 3) := by decide +kernel
theorem dX6_read_68 : decode cX6_read 68 = .ok (.aload_n 0, 1) := by decide +kernel
theorem dX6_read_69 : decode cX6_read 69 = .ok (.getfield 81, 3) := by decide +kernel
theorem dX6_read_72 : decode cX6_read 72 = .ok (.sipush 255, 3) := by decide +kernel
theorem dX6_read_75 : decode cX6_read 75 = .ok (.if_icmp .gt 7, 3) := by decide +kernel
theorem dX6_read_78 : decode cX6_read 78 = .ok (.iconst 1, 1) := by decide +kernel
theorem dX6_read_79 : decode cX6_read 79 = .ok (.goto 4, 3) := by decide +kernel
theorem dX6_read_82 : decode cX6_read 82 = .ok (.iconst 0, 1) := by decide +kernel
theorem dX6_read_83 : decode cX6_read 83 = .ok (.invokevirtual 84, 3) := by decide +kernel
theorem dX6_read_86 : decode cX6_read 86 = .ok (.aload_n 0, 1) := by decide +kernel
theorem dX6_read_87 : decode cX6_read 87 = .ok (.getfield 70, 3) := by decide +kernel
theorem dX6_read_90 : decode cX6_read 90 = .ok (.ifCond .ne 14, 3) := by decide +kernel
theorem dX6_read_93 : decode cX6_read 93 = .ok (.aload_n 1, 1) := by decide +kernel
theorem dX6_read_94 : decode cX6_read 94 = .ok (.aload_n 1, 1) := by decide +kernel
theorem dX6_read_95 : decode cX6_read 95 = .ok (.invokevirtual 66, 3) := by decide +kernel
theorem dX6_read_98 : decode cX6_read 98 = .ok (.invokestatic 88, 3) := by decide +kernel
theorem dX6_read_101 : decode cX6_read 101 = .ok (.invokevirtual 84, 3) := by decide +kernel
theorem dX6_read_104 : decode cX6_read 104 = .ok (.aload_n 2, 1) := by decide +kernel
theorem dX6_read_105 : decode cX6_read 105 = .ok (.iload 4, 2) := by decide +kernel
theorem dX6_read_107 : decode cX6_read 107 = .ok (.iload 5, 2) := by decide +kernel
theorem dX6_read_109 : decode cX6_read 109 = .ok (.invokevirtual 91, 3) := by decide +kernel
theorem dX6_read_112 : decode cX6_read 112 = .ok (.aload_n 0, 1) := by decide +kernel
theorem dX6_read_113 : decode cX6_read 113 = .ok (.aload_n 1, 1) := by decide +kernel
theorem dX6_read_114 : decode cX6_read 114 = .ok (.iload_n 3, 1) := by decide +kernel
theorem dX6_read_115 : decode cX6_read 115 = .ok (.bipush 51, 2) := by decide +kernel
theorem dX6_read_117 : decode cX6_read 117 = .ok (.if_icmp .eq 9, 3) := by decide +kernel
theorem dX6_read_120 : decode cX6_read 120 = .ok (.iload_n 3, 1) := by decide +kernel
theorem dX6_read_121 : decode cX6_read 121 = .ok (.bipush 54, 2) := by decide +kernel
theorem dX6_read_123 : decode cX6_read 123 = .ok (.if_icmp .ne 7, 3) := by decide +kernel
theorem dX6_read_126 : decode cX6_read 126 = .ok (.iconst 1, 1) := by decide +kernel
theorem dX6_read_127 : decode cX6_read 127 = .ok (.goto 4, 3) := by decide +kernel
theorem dX6_read_130 : decode cX6_read 130 = .ok (.iconst 0, 1) := by decide +kernel
theorem dX6_read_131 : decode cX6_read 131 = .ok (.aload_n 2, 1) := by decide +kernel
theorem dX6_read_132 : decode cX6_read 132 = .ok (.invokevirtual 95, 3) := by decide +kernel
theorem dX6_read_135 : decode cX6_read 135 = .ok (.aload_n 0, 1) := by decide +kernel
theorem dX6_read_136 : decode cX6_read 136 = .ok (.getfield 70, 3) := by decide +kernel
theorem dX6_read_139 : decode cX6_read 139 = .ok (.ifCond .eq 8, 3) := by decide +kernel
theorem dX6_read_142 : decode cX6_read 142 = .ok (.aload_n 1, 1) := by decide +kernel
theorem dX6_read_143 : decode cX6_read 143 = .ok (.invokestatic 99, 3) := by decide +kernel
theorem dX6_read_146 : decode cX6_read 146 = .ok (.pop, 1) := by decide +kernel
theorem dX6_read_147 : decode cX6_read 147 = .ok (.aload_n 1, 1) := by decide +kernel
theorem dX6_read_148 : decode cX6_read 148 = .ok (.aload_n 1, 1) := by decide +kernel
theorem dX6_read_149 : decode cX6_read 149 = .ok (.invokevirtual 103, 3) := by decide +kernel
theorem dX6_read_152 : decode cX6_read 152 = .ok (.invokevirtual 84, 3) := by decide +kernel
theorem dX6_read_155 : decode cX6_read 155 = .ok (.return_, 1) := by decide +kernel
set_option maxRecDepth 20000 in
theorem ggX6_readSamples_X5_count : GoodIn wsX6_readSamples wsX5_count := goodIn_r _ [5, 6, 7, 52, 53, 54] (by decide +kernel) (by decide +kernel)
set_option maxRecDepth 20000 in
theorem gX6_readSamples_X5_count : GoodIn wsX6_readSamples (wsV RX6 106 RX5 yX5_count wsX5_count) := goodIn_app (goodIn_of _ (by decide +kernel)) ggX6_readSamples_X5_count
set_option maxRecDepth 20000 in
theorem ggX6_readSamples_X6_sample : GoodIn wsX6_readSamples wsX6_sample := goodIn_ca (goodIn_ca (goodIn_r _ [12, 13, 14, 15, 16, 11, 17, 18, 19, 20, 21, 22, 23, 24, 25, 26, 27, 28, 29, 30, 31, 32, 33, 34, 35, 36, 37, 38, 39, 40, 41, 42, 43, 44, 45, 55, 56, 57, 58, 59, 60] (by decide +kernel) (by decide +kernel)) (goodIn_sub (fun _ h => List.mem_cons_of_mem _ (List.mem_append_left _ (List.mem_append_right _ h))) (by decide +kernel))) (goodIn_sub (fun _ h => List.mem_cons_of_mem _ (List.mem_append_right _ h)) (by decide +kernel))
set_option maxRecDepth 20000 in
theorem gX6_readSamples_X6_sample : GoodIn wsX6_readSamples (wsV RX6 109 RX6 yX6_sample wsX6_sample) := goodIn_app (goodIn_of _ (by decide +kernel)) ggX6_readSamples_X6_sample
set_option maxRecDepth 20000 in
theorem ggX6_readSamples_X8_opaque : GoodIn wsX6_readSamples wsX8_opaque := goodIn_r _ [48, 49, 50, 47, 51] (by decide +kernel) (by decide +kernel)
set_option maxRecDepth 20000 in
theorem gX6_readSamples_X8_opaque_n116 : GoodIn wsX6_readSamples (wsX8_opaque) := ggX6_readSamples_X8_opaque
theorem dX6_readSamples_0 : decode cX6_readSamples 0 = .ok (.iconst 0, 1) := by decide +kernel
theorem dX6_readSamples_1 : decode cX6_readSamples 1 = .ok (.istore 4, 2) := by decide +kernel
theorem dX6_readSamples_3 : decode cX6_readSamples 3 = .ok (.iload 4, 2) := by decide +kernel
theorem dX6_readSamples_5 : decode cX6_readSamples 5 = .ok (.aload_n 3, 1) := by decide +kernel
theorem dX6_readSamples_6 : decode cX6_readSamples 6 = .ok (.invokevirtual 106, 3) := by decide +kernel
theorem dX6_readSamples_9 : decode cX6_readSamples 9 = .ok (.if_icmp .ge 64, 3) := by decide +kernel
theorem dX6_readSamples_12 : decode cX6_readSamples 12 = .ok (.aload_n 0, 1) := by decide +kernel
theorem dX6_readSamples_13 : decode cX6_readSamples 13 = .ok (.aload_n 1, 1) := by decide +kernel
theorem dX6_readSamples_14 : decode cX6_readSamples 14 = .ok (.invokevirtual 109, 3) := by decide +kernel
theorem dX6_readSamples_17 : decode cX6_readSamples 17 = .ok (.istore 5, 2) := by decide +kernel
theorem dX6_readSamples_19 : decode cX6_readSamples 19 = .ok (.iload_n 2, 1) := by decide +kernel
theorem dX6_readSamples_20 : decode cX6_readSamples 20 = .ok (.ifCond .eq 11, 3) := by decide +kernel
theorem dX6_readSamples_23 : decode cX6_readSamples 23 = .ok (.aload_n 0, 1) := by decide +kernel
theorem dX6_readSamples_24 : decode cX6_readSamples 24 = .ok (.aload_n 1, 1) := by decide +kernel
theorem dX6_readSamples_25 : decode cX6_readSamples 25 = .ok (.invokevirtual 109, 3) := by decide +kernel
theorem dX6_readSamples_28 : decode cX6_readSamples 28 = .ok (.goto 5, 3) := by decide +kernel
theorem dX6_readSamples_31 : decode cX6_readSamples 31 = .ok (.iload 5, 2) := by decide +kernel
theorem dX6_readSamples_33 : decode cX6_readSamples 33 = .ok (.istore 6, 2) := by decide +kernel
theorem dX6_readSamples_35 : decode cX6_readSamples 35 = .ok (.iload_n 2, 1) := by decide +kernel
theorem dX6_readSamples_36 : decode cX6_readSamples 36 = .ok (.ifCond .eq 11, 3) := by decide +kernel
theorem dX6_readSamples_39 : decode cX6_readSamples 39 = .ok (.aload_n 0, 1) := by decide +kernel
theorem dX6_readSamples_40 : decode cX6_readSamples 40 = .ok (.aload_n 1, 1) := by decide +kernel
theorem dX6_readSamples_41 : decode cX6_readSamples 41 = .ok (.invokevirtual 109, 3) := by decide +kernel
theorem dX6_readSamples_44 : decode cX6_readSamples 44 = .ok (.goto 5, 3) := by decide +kernel
theorem dX6_readSamples_47 : decode cX6_readSamples 47 = .ok (.iload 5, 2) := by decide +kernel
theorem dX6_readSamples_49 : decode cX6_readSamples 49 = .ok (.istore 7, 2) := by decide +kernel
theorem dX6_readSamples_51 : decode cX6_readSamples 51 = .ok (.aload_n 3, 1) := by decide +kernel
theorem dX6_readSamples_52 : decode cX6_readSamples 52 = .ok (.getfield 112, 3) := by decide +kernel
theorem dX6_readSamples_55 : decode cX6_readSamples 55 = .ok (.iload 4, 2) := by decide +kernel
theorem dX6_readSamples_57 : decode cX6_readSamples 57 = .ok (.iload 5, 2) := by decide +kernel
theorem dX6_readSamples_59 : decode cX6_readSamples 59 = .ok (.iload 6, 2) := by decide +kernel
theorem dX6_readSamples_61 : decode cX6_readSamples 61 = .ok (.iload 7, 2) := by decide +kernel
theorem dX6_readSamples_63 : decode cX6_readSamples 63 = .ok (.invokestatic 116, 3) := by decide +kernel
theorem dX6_readSamples_66 : decode cX6_readSamples 66 = .ok (.iastore, 1) := by decide +kernel
theorem dX6_readSamples_67 : decode cX6_readSamples 67 = .ok (.iinc 4 1, 3) := by decide +kernel
theorem dX6_readSamples_70 : decode cX6_readSamples 70 = .ok (.goto (-67), 3) := by decide +kernel
theorem dX6_readSamples_73 : decode cX6_readSamples 73 = .ok (.return_, 1) := by decide +kernel
set_option maxRecDepth 20000 in
theorem ggX6_sample_X6_number : GoodIn wsX6_sample wsX6_number := goodIn_ca (goodIn_ca (goodIn_r _ [6, 7, 8, 5, 9, 10, 11, 12, 13, 14, 15, 16, 17, 18, 19, 20, 21, 22, 23, 24, 25, 26, 27, 28, 29, 30, 31, 32, 33, 34, 37, 38, 39, 40] (by decide +kernel) (by decide +kernel)) (goodIn_sub (fun _ h => List.mem_cons_of_mem _ (List.mem_append_left _ (List.mem_append_right _ h))) (by decide +kernel))) (goodIn_sub (fun _ h => List.mem_cons_of_mem _ (List.mem_append_right _ h)) (by decide +kernel))
set_option maxRecDepth 20000 in
theorem gX6_sample_X6_number : GoodIn wsX6_sample (va_wsS RX6 74 yX6_number wsX6_number) := goodIn_app (goodIn_of _ (by decide +kernel)) ggX6_sample_X6_number
set_option maxRecDepth 20000 in
theorem ggX6_sample_X7_next : GoodIn wsX6_sample wsX7_next := goodIn_ca (goodIn_r _ [23, 24, 25, 15, 16, 37, 38, 39, 40] (by decide +kernel) (by decide +kernel)) (goodIn_sub (fun _ h => List.mem_cons_of_mem _ (List.mem_append_left _ (List.mem_append_right _ h))) (by decide +kernel))
set_option maxRecDepth 20000 in
theorem gX6_sample_X7_next : GoodIn wsX6_sample (wsV RX6 66 RX7 yX7_next wsX7_next) := goodIn_app (goodIn_of _ (by decide +kernel)) ggX6_sample_X7_next
set_option maxRecDepth 20000 in
theorem ggX6_sample_X7_need : GoodIn wsX6_sample wsX7_need := goodIn_ca (goodIn_r _ [32, 33, 34] (by decide +kernel) (by decide +kernel)) (goodIn_sub (fun _ h => List.mem_cons_of_mem _ (List.mem_append_right _ h)) (by decide +kernel))
set_option maxRecDepth 20000 in
theorem gX6_sample_X7_need : GoodIn wsX6_sample (wsV RX6 84 RX7 yX7_need wsX7_need) := goodIn_app (goodIn_of _ (by decide +kernel)) ggX6_sample_X7_need
theorem dX6_sample_0 : decode cX6_sample 0 = .ok (.aload_n 0, 1) := by decide +kernel
theorem dX6_sample_1 : decode cX6_sample 1 = .ok (.getfield 70, 3) := by decide +kernel
theorem dX6_sample_4 : decode cX6_sample 4 = .ok (.ifCond .eq 10, 3) := by decide +kernel
theorem dX6_sample_7 : decode cX6_sample 7 = .ok (.aload_n 1, 1) := by decide +kernel
theorem dX6_sample_8 : decode cX6_sample 8 = .ok (.invokestatic 74, 3) := by decide +kernel
theorem dX6_sample_11 : decode cX6_sample 11 = .ok (.goto 7, 3) := by decide +kernel
theorem dX6_sample_14 : decode cX6_sample 14 = .ok (.aload_n 1, 1) := by decide +kernel
theorem dX6_sample_15 : decode cX6_sample 15 = .ok (.invokevirtual 66, 3) := by decide +kernel
theorem dX6_sample_18 : decode cX6_sample 18 = .ok (.istore_n 2, 1) := by decide +kernel
theorem dX6_sample_19 : decode cX6_sample 19 = .ok (.aload_n 1, 1) := by decide +kernel
theorem dX6_sample_20 : decode cX6_sample 20 = .ok (.iload_n 2, 1) := by decide +kernel
theorem dX6_sample_21 : decode cX6_sample 21 = .ok (.aload_n 0, 1) := by decide +kernel
theorem dX6_sample_22 : decode cX6_sample 22 = .ok (.getfield 81, 3) := by decide +kernel
theorem dX6_sample_25 : decode cX6_sample 25 = .ok (.if_icmp .gt 7, 3) := by decide +kernel
theorem dX6_sample_28 : decode cX6_sample 28 = .ok (.iconst 1, 1) := by decide +kernel
theorem dX6_sample_29 : decode cX6_sample 29 = .ok (.goto 4, 3) := by decide +kernel
theorem dX6_sample_32 : decode cX6_sample 32 = .ok (.iconst 0, 1) := by decide +kernel
theorem dX6_sample_33 : decode cX6_sample 33 = .ok (.invokevirtual 84, 3) := by decide +kernel
theorem dX6_sample_36 : decode cX6_sample 36 = .ok (.iload_n 2, 1) := by decide +kernel
theorem dX6_sample_37 : decode cX6_sample 37 = .ok (.sipush 255, 3) := by decide +kernel
theorem dX6_sample_40 : decode cX6_sample 40 = .ok (.imul, 1) := by decide +kernel
theorem dX6_sample_41 : decode cX6_sample 41 = .ok (.aload_n 0, 1) := by decide +kernel
theorem dX6_sample_42 : decode cX6_sample 42 = .ok (.getfield 81, 3) := by decide +kernel
