theorem dX6_sample_45 : decode cX6_sample 45 = .ok (.iconst 2, 1) := by decide +kernel
theorem dX6_sample_46 : decode cX6_sample 46 = .ok (.idiv, 1) := by decide +kernel
theorem dX6_sample_47 : decode cX6_sample 47 = .ok (.iadd, 1) := by decide +kernel
theorem dX6_sample_48 : decode cX6_sample 48 = .ok (.aload_n 0, 1) := by decide +kernel
theorem dX6_sample_49 : decode cX6_sample 49 = .ok (.getfield 81, 3) := by decide +kernel
theorem dX6_sample_52 : decode cX6_sample 52 = .ok (.idiv, 1) := by decide +kernel
theorem dX6_sample_53 : decode cX6_sample 53 = .ok (.ireturn, 1) := by decide +kernel
set_option maxRecDepth 20000 in
theorem ggX6_number_X6_passBlanks : GoodIn wsX6_number wsX6_passBlanks := goodIn_ca (goodIn_r _ [4, 5, 6, 7, 8, 9, 10, 11, 12, 13, 3, 14, 15, 16, 17, 18, 19, 20, 30, 31, 32, 33] (by decide +kernel) (by decide +kernel)) (goodIn_sub (fun _ h => List.mem_cons_of_mem _ (List.mem_append_left _ (List.mem_append_right _ h))) (by decide +kernel))
set_option maxRecDepth 20000 in
theorem gX6_number_X6_passBlanks : GoodIn wsX6_number (va_wsS RX6 99 yX6_passBlanks wsX6_passBlanks) := goodIn_app (goodIn_of _ (by decide +kernel)) ggX6_number_X6_passBlanks
set_option maxRecDepth 20000 in
theorem ggX6_number_X7_next : GoodIn wsX6_number wsX7_next := goodIn_ca (goodIn_r _ [18, 19, 20, 10, 11, 30, 31, 32, 33] (by decide +kernel) (by decide +kernel)) (goodIn_sub (fun _ h => List.mem_cons_of_mem _ (List.mem_append_left _ (List.mem_append_right _ h))) (by decide +kernel))
set_option maxRecDepth 20000 in
theorem gX6_number_X7_next : GoodIn wsX6_number (wsV RX6 66 RX7 yX7_next wsX7_next) := goodIn_app (goodIn_of _ (by decide +kernel)) ggX6_number_X7_next
set_option maxRecDepth 20000 in
theorem ggX6_number_X6_isDigit : GoodIn wsX6_number wsX6_isDigit := goodIn_r _ [23] (by decide +kernel) (by decide +kernel)
set_option maxRecDepth 20000 in
theorem gX6_number_X6_isDigit : GoodIn wsX6_number (va_wsS RX6 120 yX6_isDigit wsX6_isDigit) := goodIn_app (goodIn_of _ (by decide +kernel)) ggX6_number_X6_isDigit
set_option maxRecDepth 20000 in
theorem ggX6_number_X7_need : GoodIn wsX6_number wsX7_need := goodIn_ca (goodIn_r _ [27, 28, 29] (by decide +kernel) (by decide +kernel)) (goodIn_sub (fun _ h => List.mem_cons_of_mem _ (List.mem_append_right _ h)) (by decide +kernel))
set_option maxRecDepth 20000 in
theorem gX6_number_X7_need : GoodIn wsX6_number (wsV RX6 84 RX7 yX7_need wsX7_need) := goodIn_app (goodIn_of _ (by decide +kernel)) ggX6_number_X7_need
set_option maxRecDepth 20000 in
theorem ggX6_number_X7_peek : GoodIn wsX6_number wsX7_peek := goodIn_r _ [9, 10, 11, 30, 31, 32, 33] (by decide +kernel) (by decide +kernel)
set_option maxRecDepth 20000 in
theorem gX6_number_X7_peek : GoodIn wsX6_number (wsV RX6 123 RX7 yX7_peek wsX7_peek) := goodIn_app (goodIn_of _ (by decide +kernel)) ggX6_number_X7_peek
theorem dX6_number_0 : decode cX6_number 0 = .ok (.aload_n 0, 1) := by decide +kernel
theorem dX6_number_1 : decode cX6_number 1 = .ok (.invokestatic 99, 3) := by decide +kernel
theorem dX6_number_4 : decode cX6_number 4 = .ok (.istore_n 1, 1) := by decide +kernel
theorem dX6_number_5 : decode cX6_number 5 = .ok (.aload_n 0, 1) := by decide +kernel
theorem dX6_number_6 : decode cX6_number 6 = .ok (.invokevirtual 66, 3) := by decide +kernel
theorem dX6_number_9 : decode cX6_number 9 = .ok (.istore_n 2, 1) := by decide +kernel
theorem dX6_number_10 : decode cX6_number 10 = .ok (.aload_n 0, 1) := by decide +kernel
theorem dX6_number_11 : decode cX6_number 11 = .ok (.iload_n 1, 1) := by decide +kernel
theorem dX6_number_12 : decode cX6_number 12 = .ok (.ifCond .eq 14, 3) := by decide +kernel
theorem dX6_number_15 : decode cX6_number 15 = .ok (.iload_n 2, 1) := by decide +kernel
theorem dX6_number_16 : decode cX6_number 16 = .ok (.invokestatic 120, 3) := by decide +kernel
theorem dX6_number_19 : decode cX6_number 19 = .ok (.ifCond .eq 7, 3) := by decide +kernel
theorem dX6_number_22 : decode cX6_number 22 = .ok (.iconst 1, 1) := by decide +kernel
theorem dX6_number_23 : decode cX6_number 23 = .ok (.goto 4, 3) := by decide +kernel
theorem dX6_number_26 : decode cX6_number 26 = .ok (.iconst 0, 1) := by decide +kernel
theorem dX6_number_27 : decode cX6_number 27 = .ok (.invokevirtual 84, 3) := by decide +kernel
theorem dX6_number_30 : decode cX6_number 30 = .ok (.iload_n 2, 1) := by decide +kernel
theorem dX6_number_31 : decode cX6_number 31 = .ok (.bipush 48, 2) := by decide +kernel
theorem dX6_number_33 : decode cX6_number 33 = .ok (.isub, 1) := by decide +kernel
theorem dX6_number_34 : decode cX6_number 34 = .ok (.istore_n 3, 1) := by decide +kernel
theorem dX6_number_35 : decode cX6_number 35 = .ok (.iconst 1, 1) := by decide +kernel
theorem dX6_number_36 : decode cX6_number 36 = .ok (.istore 4, 2) := by decide +kernel
theorem dX6_number_38 : decode cX6_number 38 = .ok (.iload 4, 2) := by decide +kernel
theorem dX6_number_40 : decode cX6_number 40 = .ok (.iconst 4, 1) := by decide +kernel
theorem dX6_number_41 : decode cX6_number 41 = .ok (.if_icmp .ge 32, 3) := by decide +kernel
theorem dX6_number_44 : decode cX6_number 44 = .ok (.aload_n 0, 1) := by decide +kernel
theorem dX6_number_45 : decode cX6_number 45 = .ok (.invokevirtual 123, 3) := by decide +kernel
theorem dX6_number_48 : decode cX6_number 48 = .ok (.invokestatic 120, 3) := by decide +kernel
theorem dX6_number_51 : decode cX6_number 51 = .ok (.ifCond .eq 22, 3) := by decide +kernel
theorem dX6_number_54 : decode cX6_number 54 = .ok (.iload_n 3, 1) := by decide +kernel
theorem dX6_number_55 : decode cX6_number 55 = .ok (.bipush 10, 2) := by decide +kernel
theorem dX6_number_57 : decode cX6_number 57 = .ok (.imul, 1) := by decide +kernel
theorem dX6_number_58 : decode cX6_number 58 = .ok (.aload_n 0, 1) := by decide +kernel
theorem dX6_number_59 : decode cX6_number 59 = .ok (.invokevirtual 66, 3) := by decide +kernel
theorem dX6_number_62 : decode cX6_number 62 = .ok (.iadd, 1) := by decide +kernel
theorem dX6_number_63 : decode cX6_number 63 = .ok (.bipush 48, 2) := by decide +kernel
theorem dX6_number_65 : decode cX6_number 65 = .ok (.isub, 1) := by decide +kernel
theorem dX6_number_66 : decode cX6_number 66 = .ok (.istore_n 3, 1) := by decide +kernel
theorem dX6_number_67 : decode cX6_number 67 = .ok (.iinc 4 1, 3) := by decide +kernel
theorem dX6_number_70 : decode cX6_number 70 = .ok (.goto (-32), 3) := by decide +kernel
theorem dX6_number_73 : decode cX6_number 73 = .ok (.aload_n 0, 1) := by decide +kernel
theorem dX6_number_74 : decode cX6_number 74 = .ok (.aload_n 0, 1) := by decide +kernel
theorem dX6_number_75 : decode cX6_number 75 = .ok (.invokevirtual 123, 3) := by decide +kernel
theorem dX6_number_78 : decode cX6_number 78 = .ok (.invokestatic 120, 3) := by decide +kernel
theorem dX6_number_81 : decode cX6_number 81 = .ok (.ifCond .ne 7, 3) := by decide +kernel
theorem dX6_number_84 : decode cX6_number 84 = .ok (.iconst 1, 1) := by decide +kernel
theorem dX6_number_85 : decode cX6_number 85 = .ok (.goto 4, 3) := by decide +kernel
theorem dX6_number_88 : decode cX6_number 88 = .ok (.iconst 0, 1) := by decide +kernel
theorem dX6_number_89 : decode cX6_number 89 = .ok (.invokevirtual 84, 3) := by decide +kernel
theorem dX6_number_92 : decode cX6_number 92 = .ok (.iload_n 3, 1) := by decide +kernel
theorem dX6_number_93 : decode cX6_number 93 = .ok (.ireturn, 1) := by decide +kernel
set_option maxRecDepth 20000 in
theorem ggX6_passBlanks_X7_peek : GoodIn wsX6_passBlanks wsX7_peek := goodIn_r _ [5, 6, 7, 18, 19, 20, 21] (by decide +kernel) (by decide +kernel)
set_option maxRecDepth 20000 in
theorem gX6_passBlanks_X7_peek : GoodIn wsX6_passBlanks (wsV RX6 123 RX7 yX7_peek wsX7_peek) := goodIn_app (goodIn_of _ (by decide +kernel)) ggX6_passBlanks_X7_peek
set_option maxRecDepth 20000 in
theorem ggX6_passBlanks_X6_isSpace : GoodIn wsX6_passBlanks wsX6_isSpace := goodIn_r _ [11] (by decide +kernel) (by decide +kernel)
set_option maxRecDepth 20000 in
theorem gX6_passBlanks_X6_isSpace : GoodIn wsX6_passBlanks (va_wsS RX6 88 yX6_isSpace wsX6_isSpace) := goodIn_app (goodIn_of _ (by decide +kernel)) ggX6_passBlanks_X6_isSpace
set_option maxRecDepth 20000 in
theorem ggX6_passBlanks_X7_next : GoodIn wsX6_passBlanks wsX7_next := goodIn_ca (goodIn_r _ [15, 16, 17, 6, 7, 18, 19, 20, 21] (by decide +kernel) (by decide +kernel)) (goodIn_sub (fun _ h => List.mem_cons_of_mem _ (List.mem_append_right _ h)) (by decide +kernel))
set_option maxRecDepth 20000 in
theorem gX6_passBlanks_X7_next : GoodIn wsX6_passBlanks (wsV RX6 66 RX7 yX7_next wsX7_next) := goodIn_app (goodIn_of _ (by decide +kernel)) ggX6_passBlanks_X7_next
theorem dX6_passBlanks_0 : decode cX6_passBlanks 0 = .ok (.aload_n 0, 1) := by decide +kernel
theorem dX6_passBlanks_1 : decode cX6_passBlanks 1 = .ok (.getfield 126, 3) := by decide +kernel
theorem dX6_passBlanks_4 : decode cX6_passBlanks 4 = .ok (.istore_n 1, 1) := by decide +kernel
theorem dX6_passBlanks_5 : decode cX6_passBlanks 5 = .ok (.iconst 0, 1) := by decide +kernel
theorem dX6_passBlanks_6 : decode cX6_passBlanks 6 = .ok (.istore_n 2, 1) := by decide +kernel
theorem dX6_passBlanks_7 : decode cX6_passBlanks 7 = .ok (.iconst 0, 1) := by decide +kernel
theorem dX6_passBlanks_8 : decode cX6_passBlanks 8 = .ok (.istore_n 3, 1) := by decide +kernel
theorem dX6_passBlanks_9 : decode cX6_passBlanks 9 = .ok (.iload_n 3, 1) := by decide +kernel
theorem dX6_passBlanks_10 : decode cX6_passBlanks 10 = .ok (.sipush 800, 3) := by decide +kernel
theorem dX6_passBlanks_13 : decode cX6_passBlanks 13 = .ok (.if_icmp .ge 74, 3) := by decide +kernel
theorem dX6_passBlanks_16 : decode cX6_passBlanks 16 = .ok (.aload_n 0, 1) := by decide +kernel
theorem dX6_passBlanks_17 : decode cX6_passBlanks 17 = .ok (.invokevirtual 123, 3) := by decide +kernel
theorem dX6_passBlanks_20 : decode cX6_passBlanks 20 = .ok (.istore 4, 2) := by decide +kernel
theorem dX6_passBlanks_22 : decode cX6_passBlanks 22 = .ok (.iload_n 2, 1) := by decide +kernel
theorem dX6_passBlanks_23 : decode cX6_passBlanks 23 = .ok (.ifCond .ne 21, 3) := by decide +kernel
theorem dX6_passBlanks_26 : decode cX6_passBlanks 26 = .ok (.iload 4, 2) := by decide +kernel
theorem dX6_passBlanks_28 : decode cX6_passBlanks 28 = .ok (.bipush 35, 2) := by decide +kernel
theorem dX6_passBlanks_30 : decode cX6_passBlanks 30 = .ok (.if_icmp .eq 14, 3) := by decide +kernel
theorem dX6_passBlanks_33 : decode cX6_passBlanks 33 = .ok (.iload 4, 2) := by decide +kernel
theorem dX6_passBlanks_35 : decode cX6_passBlanks 35 = .ok (.invokestatic 88, 3) := by decide +kernel
theorem dX6_passBlanks_38 : decode cX6_passBlanks 38 = .ok (.ifCond .ne 6, 3) := by decide +kernel
theorem dX6_passBlanks_41 : decode cX6_passBlanks 41 = .ok (.goto 46, 3) := by decide +kernel
theorem dX6_passBlanks_44 : decode cX6_passBlanks 44 = .ok (.aload_n 0, 1) := by decide +kernel
theorem dX6_passBlanks_45 : decode cX6_passBlanks 45 = .ok (.invokevirtual 66, 3) := by decide +kernel
theorem dX6_passBlanks_48 : decode cX6_passBlanks 48 = .ok (.pop, 1) := by decide +kernel
theorem dX6_passBlanks_49 : decode cX6_passBlanks 49 = .ok (.iload_n 2, 1) := by decide +kernel
theorem dX6_passBlanks_50 : decode cX6_passBlanks 50 = .ok (.ifCond .eq 18, 3) := by decide +kernel
theorem dX6_passBlanks_53 : decode cX6_passBlanks 53 = .ok (.iload 4, 2) := by decide +kernel
theorem dX6_passBlanks_55 : decode cX6_passBlanks 55 = .ok (.bipush 10, 2) := by decide +kernel
theorem dX6_passBlanks_57 : decode cX6_passBlanks 57 = .ok (.if_icmp .eq 7, 3) := by decide +kernel
theorem dX6_passBlanks_60 : decode cX6_passBlanks 60 = .ok (.iconst 1, 1) := by decide +kernel
theorem dX6_passBlanks_61 : decode cX6_passBlanks 61 = .ok (.goto 19, 3) := by decide +kernel
theorem dX6_passBlanks_64 : decode cX6_passBlanks 64 = .ok (.iconst 0, 1) := by decide +kernel
theorem dX6_passBlanks_65 : decode cX6_passBlanks 65 = .ok (.goto 15, 3) := by decide +kernel
theorem dX6_passBlanks_68 : decode cX6_passBlanks 68 = .ok (.iload 4, 2) := by decide +kernel
theorem dX6_passBlanks_70 : decode cX6_passBlanks 70 = .ok (.bipush 35, 2) := by decide +kernel
theorem dX6_passBlanks_72 : decode cX6_passBlanks 72 = .ok (.if_icmp .ne 7, 3) := by decide +kernel
theorem dX6_passBlanks_75 : decode cX6_passBlanks 75 = .ok (.iconst 1, 1) := by decide +kernel
theorem dX6_passBlanks_76 : decode cX6_passBlanks 76 = .ok (.goto 4, 3) := by decide +kernel
theorem dX6_passBlanks_79 : decode cX6_passBlanks 79 = .ok (.iconst 0, 1) := by decide +kernel
theorem dX6_passBlanks_80 : decode cX6_passBlanks 80 = .ok (.istore_n 2, 1) := by decide +kernel
theorem dX6_passBlanks_81 : decode cX6_passBlanks 81 = .ok (.iinc 3 1, 3) := by decide +kernel
theorem dX6_passBlanks_84 : decode cX6_passBlanks 84 = .ok (.goto (-75), 3) := by decide +kernel
theorem dX6_passBlanks_87 : decode cX6_passBlanks 87 = .ok (.aload_n 0, 1) := by decide +kernel
theorem dX6_passBlanks_88 : decode cX6_passBlanks 88 = .ok (.getfield 126, 3) := by decide +kernel
theorem dX6_passBlanks_91 : decode cX6_passBlanks 91 = .ok (.iload_n 1, 1) := by decide +kernel
theorem dX6_passBlanks_92 : decode cX6_passBlanks 92 = .ok (.if_icmp .le 7, 3) := by decide +kernel
theorem dX6_passBlanks_95 : decode cX6_passBlanks 95 = .ok (.iconst 1, 1) := by decide +kernel
theorem dX6_passBlanks_96 : decode cX6_passBlanks 96 = .ok (.goto 4, 3) := by decide +kernel
theorem dX6_passBlanks_99 : decode cX6_passBlanks 99 = .ok (.iconst 0, 1) := by decide +kernel
theorem dX6_passBlanks_100 : decode cX6_passBlanks 100 = .ok (.ireturn, 1) := by decide +kernel
theorem dX6_isSpace_0 : decode cX6_isSpace 0 = .ok (.iload_n 0, 1) := by decide +kernel
theorem dX6_isSpace_1 : decode cX6_isSpace 1 = .ok (.bipush 9, 2) := by decide +kernel
theorem dX6_isSpace_3 : decode cX6_isSpace 3 = .ok (.if_icmp .eq 21, 3) := by decide +kernel
theorem dX6_isSpace_6 : decode cX6_isSpace 6 = .ok (.iload_n 0, 1) := by decide +kernel
theorem dX6_isSpace_7 : decode cX6_isSpace 7 = .ok (.bipush 10, 2) := by decide +kernel
theorem dX6_isSpace_9 : decode cX6_isSpace 9 = .ok (.if_icmp .eq 15, 3) := by decide +kernel
theorem dX6_isSpace_12 : decode cX6_isSpace 12 = .ok (.iload_n 0, 1) := by decide +kernel
theorem dX6_isSpace_13 : decode cX6_isSpace 13 = .ok (.bipush 13, 2) := by decide +kernel
theorem dX6_isSpace_15 : decode cX6_isSpace 15 = .ok (.if_icmp .eq 9, 3) := by decide +kernel
theorem dX6_isSpace_18 : decode cX6_isSpace 18 = .ok (.iload_n 0, 1) := by decide +kernel
theorem dX6_isSpace_19 : decode cX6_isSpace 19 = .ok (.bipush 32, 2) := by decide +kernel
theorem dX6_isSpace_21 : decode cX6_isSpace 21 = .ok (.if_icmp .ne 7, 3) := by decide +kernel
theorem dX6_isSpace_24 : decode cX6_isSpace 24 = .ok (.iconst 1, 1) := by decide +kernel
theorem dX6_isSpace_25 : decode cX6_isSpace 25 = .ok (.goto 4, 3) := by decide +kernel
theorem dX6_isSpace_28 : decode cX6_isSpace 28 = .ok (.iconst 0, 1) := by decide +kernel
theorem dX6_isSpace_29 : decode cX6_isSpace 29 = .ok (.ireturn, 1) := by decide +kernel
theorem dX6_isDigit_0 : decode cX6_isDigit 0 = .ok (.iload_n 0, 1) := by decide +kernel
theorem dX6_isDigit_1 : decode cX6_isDigit 1 = .ok (.bipush 48, 2) := by decide +kernel
theorem dX6_isDigit_3 : decode cX6_isDigit 3 = .ok (.if_icmp .lt 13, 3) := by decide +kernel
theorem dX6_isDigit_6 : decode cX6_isDigit 6 = .ok (.iload_n 0, 1) := by decide +kernel
theorem dX6_isDigit_7 : decode cX6_isDigit 7 = .ok (.bipush 57, 2) := by decide +kernel
theorem dX6_isDigit_9 : decode cX6_isDigit 9 = .ok (.if_icmp .gt 7, 3) := by decide +kernel
theorem dX6_isDigit_12 : decode cX6_isDigit 12 = .ok (.iconst 1, 1) := by decide +kernel
theorem dX6_isDigit_13 : decode cX6_isDigit 13 = .ok (.goto 4, 3) := by decide +kernel
theorem dX6_isDigit_16 : decode cX6_isDigit 16 = .ok (.iconst 0, 1) := by decide +kernel
theorem dX6_isDigit_17 : decode cX6_isDigit 17 = .ok (.ireturn, 1) := by decide +kernel
theorem dX7_init_0 : decode cX7_init 0 = .ok (.aload_n 0, 1) := by decide +kernel
theorem dX7_init_1 : decode cX7_init 1 = .ok (.invokespecial 1, 3) := by decide +kernel
theorem dX7_init_4 : decode cX7_init 4 = .ok (.aload_n 0, 1) := by decide +kernel
theorem dX7_init_5 : decode cX7_init 5 = .ok (.aload_n 1, 1) := by decide +kernel
theorem dX7_init_6 : decode cX7_init 6 = .ok (.putfield 7, 3) := by decide +kernel
theorem dX7_init_9 : decode cX7_init 9 = .ok (.return_, 1) := by decide +kernel
theorem dX7_next_0 : decode cX7_next 0 = .ok (.aload_n 0, 1) := by decide +kernel
theorem dX7_next_1 : decode cX7_next 1 = .ok (.getfield 13, 3) := by decide +kernel
theorem dX7_next_4 : decode cX7_next 4 = .ok (.aload_n 0, 1) := by decide +kernel
theorem dX7_next_5 : decode cX7_next 5 = .ok (.getfield 7, 3) := by decide +kernel
theorem dX7_next_8 : decode cX7_next 8 = .ok (.getfield 17, 3) := by decide +kernel
theorem dX7_next_11 : decode cX7_next 11 = .ok (.if_icmp .lt 13, 3) := by decide +kernel
theorem dX7_next_14 : decode cX7_next 14 = .ok (.new 22, 3) := by decide +kernel
theorem dX7_next_17 : decode cX7_next 17 = .ok (.dup, 1) := by decide +kernel
theorem dX7_next_18 : decode cX7_next 18 = .ok (.ldc 24, 2) := by decide +kernel
theorem dX7_next_20 : decode cX7_next 20 = .ok (.invokespecial 26, 3) := by decide +kernel
theorem dX7_next_23 : decode cX7_next 23 = .ok (.athrow, 1) := by decide +kernel
theorem dX7_next_24 : decode cX7_next 24 = .ok (.aload_n 0, 1) := by decide +kernel
theorem dX7_next_25 : decode cX7_next 25 = .ok (.getfield 7, 3) := by decide +kernel
theorem dX7_next_28 : decode cX7_next 28 = .ok (.getfield 29, 3) := by decide +kernel
theorem dX7_next_31 : decode cX7_next 31 = .ok (.aload_n 0, 1) := by decide +kernel
theorem dX7_next_32 : decode cX7_next 32 = .ok (.getfield 13, 3) := by decide +kernel
theorem dX7_next_35 : decode cX7_next 35 = .ok (.iaload, 1) := by decide +kernel
theorem dX7_next_36 : decode cX7_next 36 = .ok (.istore_n 1, 1) := by decide +kernel
theorem dX7_next_37 : decode cX7_next 37 = .ok (.aload_n 0, 1) := by decide +kernel
theorem dX7_next_38 : decode cX7_next 38 = .ok (.dup, 1) := by decide +kernel
theorem dX7_next_39 : decode cX7_next 39 = .ok (.getfield 13, 3) := by decide +kernel
theorem dX7_next_42 : decode cX7_next 42 = .ok (.iconst 1, 1) := by decide +kernel
theorem dX7_next_43 : decode cX7_next 43 = .ok (.iadd, 1) := by decide +kernel
theorem dX7_next_44 : decode cX7_next 44 = .ok (.putfield 13, 3) := by decide +kernel
theorem dX7_next_47 : decode cX7_next 47 = .ok (.iload_n 1, 1) := by decide +kernel
theorem dX7_next_48 : decode cX7_next 48 = .ok (.ireturn, 1) := by decide +kernel
theorem dX7_peek_0 : decode cX7_peek 0 = .ok (.aload_n 0, 1) := by decide +kernel
theorem dX7_peek_1 : decode cX7_peek 1 = .ok (.getfield 13, 3) := by decide +kernel
theorem dX7_peek_4 : decode cX7_peek 4 = .ok (.aload_n 0, 1) := by decide +kernel
theorem dX7_peek_5 : decode cX7_peek 5 = .ok (.getfield 7, 3) := by decide +kernel
theorem dX7_peek_8 : decode cX7_peek 8 = .ok (.getfield 17, 3) := by decide +kernel
theorem dX7_peek_11 : decode cX7_peek 11 = .ok (.if_icmp .ge 18, 3) := by decide +kernel
theorem dX7_peek_14 : decode cX7_peek 14 = .ok (.aload_n 0, 1) := by decide +kernel
theorem dX7_peek_15 : decode cX7_peek 15 = .ok (.getfield 7, 3) := by decide +kernel
theorem dX7_peek_18 : decode cX7_peek 18 = .ok (.getfield 29, 3) := by decide +kernel
theorem dX7_peek_21 : decode cX7_peek 21 = .ok (.aload_n 0, 1) := by decide +kernel
theorem dX7_peek_22 : decode cX7_peek 22 = .ok (.getfield 13, 3) := by decide +kernel
theorem dX7_peek_25 : decode cX7_peek 25 = .ok (.iaload, 1) := by decide +kernel
theorem dX7_peek_26 : decode cX7_peek 26 = .ok (.goto 4, 3) := by decide +kernel
theorem dX7_peek_29 : decode cX7_peek 29 = .ok (.iconst (-1), 1) := by decide +kernel
theorem dX7_peek_30 : decode cX7_peek 30 = .ok (.ireturn, 1) := by decide +kernel
theorem dX7_isAtEnd_0 : decode cX7_isAtEnd 0 = .ok (.aload_n 0, 1) := by decide +kernel
theorem dX7_isAtEnd_1 : decode cX7_isAtEnd 1 = .ok (.getfield 13, 3) := by decide +kernel
theorem dX7_isAtEnd_4 : decode cX7_isAtEnd 4 = .ok (.aload_n 0, 1) := by decide +kernel
theorem dX7_isAtEnd_5 : decode cX7_isAtEnd 5 = .ok (.getfield 7, 3) := by decide +kernel
theorem dX7_isAtEnd_8 : decode cX7_isAtEnd 8 = .ok (.getfield 17, 3) := by decide +kernel
theorem dX7_isAtEnd_11 : decode cX7_isAtEnd 11 = .ok (.if_icmp .lt 7, 3) := by decide +kernel
theorem dX7_isAtEnd_14 : decode cX7_isAtEnd 14 = .ok (.iconst 1, 1) := by decide +kernel
theorem dX7_isAtEnd_15 : decode cX7_isAtEnd 15 = .ok (.goto 4, 3) := by decide +kernel
theorem dX7_isAtEnd_18 : decode cX7_isAtEnd 18 = .ok (.iconst 0, 1) := by decide +kernel
theorem dX7_isAtEnd_19 : decode cX7_isAtEnd 19 = .ok (.ireturn, 1) := by decide +kernel
theorem dX7_need_0 : decode cX7_need 0 = .ok (.iload_n 1, 1) := by decide +kernel
theorem dX7_need_1 : decode cX7_need 1 = .ok (.ifCond .ne 13, 3) := by decide +kernel
theorem dX7_need_4 : decode cX7_need 4 = .ok (.new 33, 3) := by decide +kernel
theorem dX7_need_7 : decode cX7_need 7 = .ok (.dup, 1) := by decide +kernel
theorem dX7_need_8 : decode cX7_need 8 = .ok (.ldc 35, 2) := by decide +kernel
theorem dX7_need_10 : decode cX7_need 10 = .ok (.invokespecial 37, 3) := by decide +kernel
theorem dX7_need_13 : decode cX7_need 13 = .ok (.athrow, 1) := by decide +kernel
theorem dX7_need_14 : decode cX7_need 14 = .ok (.return_, 1) := by decide +kernel
set_option maxRecDepth 20000 in
theorem ggX7_needSide_X8_isSide : GoodIn wsX7_needSide wsX8_isSide := goodIn_r _ [3] (by decide +kernel) (by decide +kernel)
set_option maxRecDepth 20000 in
theorem gX7_needSide_X8_isSide_n38 : GoodIn wsX7_needSide (wsX8_isSide) := ggX7_needSide_X8_isSide
set_option maxRecDepth 20000 in
theorem ggX7_needSide_X7_need : GoodIn wsX7_needSide wsX7_need := goodIn_ca (goodIn_r _ [8, 9, 10] (by decide +kernel) (by decide +kernel)) (goodIn_sub (fun _ h => List.mem_cons_of_mem _ (List.mem_append_right _ h)) (by decide +kernel))
set_option maxRecDepth 20000 in
theorem gX7_needSide_X7_need : GoodIn wsX7_needSide (wsV RX7 44 RX7 yX7_need wsX7_need) := goodIn_app (goodIn_of _ (by decide +kernel)) ggX7_needSide_X7_need
theorem dX7_needSide_0 : decode cX7_needSide 0 = .ok (.aload_n 0, 1) := by decide +kernel
theorem dX7_needSide_1 : decode cX7_needSide 1 = .ok (.iload_n 1, 1) := by decide +kernel
theorem dX7_needSide_2 : decode cX7_needSide 2 = .ok (.invokestatic 38, 3) := by decide +kernel
theorem dX7_needSide_5 : decode cX7_needSide 5 = .ok (.invokevirtual 44, 3) := by decide +kernel
theorem dX7_needSide_8 : decode cX7_needSide 8 = .ok (.iload_n 1, 1) := by decide +kernel
theorem dX7_needSide_9 : decode cX7_needSide 9 = .ok (.ireturn, 1) := by decide +kernel
set_option maxRecDepth 20000 in
theorem ggX7_pass_X7_next : GoodIn wsX7_pass wsX7_next := goodIn_ca (goodIn_r _ [5, 6, 7, 8, 9, 10, 11, 12, 13] (by decide +kernel) (by decide +kernel)) (goodIn_sub (fun _ h => List.mem_cons_of_mem _ (List.mem_append_right _ h)) (by decide +kernel))
set_option maxRecDepth 20000 in
theorem gX7_pass_X7_next : GoodIn wsX7_pass (wsV RX7 48 RX7 yX7_next wsX7_next) := goodIn_app (goodIn_of _ (by decide +kernel)) ggX7_pass_X7_next
theorem dX7_pass_0 : decode cX7_pass 0 = .ok (.iconst 0, 1) := by decide +kernel
theorem dX7_pass_1 : decode cX7_pass 1 = .ok (.istore_n 2, 1) := by decide +kernel
theorem dX7_pass_2 : decode cX7_pass 2 = .ok (.iload_n 2, 1) := by decide +kernel
theorem dX7_pass_3 : decode cX7_pass 3 = .ok (.iload_n 1, 1) := by decide +kernel
theorem dX7_pass_4 : decode cX7_pass 4 = .ok (.if_icmp .ge 14, 3) := by decide +kernel
theorem dX7_pass_7 : decode cX7_pass 7 = .ok (.aload_n 0, 1) := by decide +kernel
theorem dX7_pass_8 : decode cX7_pass 8 = .ok (.invokevirtual 48, 3) := by decide +kernel
theorem dX7_pass_11 : decode cX7_pass 11 = .ok (.pop, 1) := by decide +kernel
theorem dX7_pass_12 : decode cX7_pass 12 = .ok (.iinc 2 1, 3) := by decide +kernel
theorem dX7_pass_15 : decode cX7_pass 15 = .ok (.goto (-13), 3) := by decide +kernel
theorem dX7_pass_18 : decode cX7_pass 18 = .ok (.return_, 1) := by decide +kernel
set_option maxRecDepth 20000 in
theorem ggX7_little_X7_next : GoodIn wsX7_little wsX7_next := goodIn_ca (goodIn_r _ [5, 6, 7, 8, 9, 10, 11, 12, 13] (by decide +kernel) (by decide +kernel)) (goodIn_sub (fun _ h => List.mem_cons_of_mem _ (List.mem_append_right _ h)) (by decide +kernel))
set_option maxRecDepth 20000 in
theorem gX7_little_X7_next : GoodIn wsX7_little (wsV RX7 48 RX7 yX7_next wsX7_next) := goodIn_app (goodIn_of _ (by decide +kernel)) ggX7_little_X7_next
theorem dX7_little_0 : decode cX7_little 0 = .ok (.iconst 0, 1) := by decide +kernel
theorem dX7_little_1 : decode cX7_little 1 = .ok (.istore_n 2, 1) := by decide +kernel
theorem dX7_little_2 : decode cX7_little 2 = .ok (.iconst 0, 1) := by decide +kernel
theorem dX7_little_3 : decode cX7_little 3 = .ok (.istore_n 3, 1) := by decide +kernel
theorem dX7_little_4 : decode cX7_little 4 = .ok (.iload_n 3, 1) := by decide +kernel
theorem dX7_little_5 : decode cX7_little 5 = .ok (.iload_n 1, 1) := by decide +kernel
theorem dX7_little_6 : decode cX7_little 6 = .ok (.if_icmp .ge 21, 3) := by decide +kernel
theorem dX7_little_9 : decode cX7_little 9 = .ok (.iload_n 2, 1) := by decide +kernel
theorem dX7_little_10 : decode cX7_little 10 = .ok (.aload_n 0, 1) := by decide +kernel
theorem dX7_little_11 : decode cX7_little 11 = .ok (.invokevirtual 48, 3) := by decide +kernel
theorem dX7_little_14 : decode cX7_little 14 = .ok (.bipush 8, 2) := by decide +kernel
theorem dX7_little_16 : decode cX7_little 16 = .ok (.iload_n 3, 1) := by decide +kernel
theorem dX7_little_17 : decode cX7_little 17 = .ok (.imul, 1) := by decide +kernel
theorem dX7_little_18 : decode cX7_little 18 = .ok (.ishl, 1) := by decide +kernel
theorem dX7_little_19 : decode cX7_little 19 = .ok (.ior, 1) := by decide +kernel
theorem dX7_little_20 : decode cX7_little 20 = .ok (.istore_n 2, 1) := by decide +kernel
theorem dX7_little_21 : decode cX7_little 21 = .ok (.iinc 3 1, 3) := by decide +kernel
theorem dX7_little_24 : decode cX7_little 24 = .ok (.goto (-20), 3) := by decide +kernel
theorem dX7_little_27 : decode cX7_little 27 = .ok (.iload_n 2, 1) := by decide +kernel
theorem dX7_little_28 : decode cX7_little 28 = .ok (.ireturn, 1) := by decide +kernel
set_option maxRecDepth 20000 in
theorem ggX7_big_X7_next : GoodIn wsX7_big wsX7_next := goodIn_ca (goodIn_r _ [5, 6, 7, 8, 9, 10, 11, 12, 13] (by decide +kernel) (by decide +kernel)) (goodIn_sub (fun _ h => List.mem_cons_of_mem _ (List.mem_append_right _ h)) (by decide +kernel))
set_option maxRecDepth 20000 in
theorem gX7_big_X7_next : GoodIn wsX7_big (wsV RX7 48 RX7 yX7_next wsX7_next) := goodIn_app (goodIn_of _ (by decide +kernel)) ggX7_big_X7_next
theorem dX7_big_0 : decode cX7_big 0 = .ok (.iconst 0, 1) := by decide +kernel
theorem dX7_big_1 : decode cX7_big 1 = .ok (.istore_n 2, 1) := by decide +kernel
theorem dX7_big_2 : decode cX7_big 2 = .ok (.iconst 0, 1) := by decide +kernel
theorem dX7_big_3 : decode cX7_big 3 = .ok (.istore_n 3, 1) := by decide +kernel
theorem dX7_big_4 : decode cX7_big 4 = .ok (.iload_n 3, 1) := by decide +kernel
theorem dX7_big_5 : decode cX7_big 5 = .ok (.iload_n 1, 1) := by decide +kernel
theorem dX7_big_6 : decode cX7_big 6 = .ok (.if_icmp .ge 19, 3) := by decide +kernel
theorem dX7_big_9 : decode cX7_big 9 = .ok (.iload_n 2, 1) := by decide +kernel
theorem dX7_big_10 : decode cX7_big 10 = .ok (.bipush 8, 2) := by decide +kernel
theorem dX7_big_12 : decode cX7_big 12 = .ok (.ishl, 1) := by decide +kernel
theorem dX7_big_13 : decode cX7_big 13 = .ok (.aload_n 0, 1) := by decide +kernel
theorem dX7_big_14 : decode cX7_big 14 = .ok (.invokevirtual 48, 3) := by decide +kernel
theorem dX7_big_17 : decode cX7_big 17 = .ok (.ior, 1) := by decide +kernel
theorem dX7_big_18 : decode cX7_big 18 = .ok (.istore_n 2, 1) := by decide +kernel
theorem dX7_big_19 : decode cX7_big 19 = .ok (.iinc 3 1, 3) := by decide +kernel
theorem dX7_big_22 : decode cX7_big 22 = .ok (.goto (-18), 3) := by decide +kernel
theorem dX7_big_25 : decode cX7_big 25 = .ok (.iload_n 2, 1) := by decide +kernel
theorem dX7_big_26 : decode cX7_big 26 = .ok (.ireturn, 1) := by decide +kernel
set_option maxRecDepth 20000 in
theorem ggX7_blueGreenRed_X7_next : GoodIn wsX7_blueGreenRed wsX7_next := goodIn_ca (goodIn_r _ [5, 6, 7, 8, 9, 13, 14, 15, 16] (by decide +kernel) (by decide +kernel)) (goodIn_sub (fun _ h => List.mem_cons_of_mem _ (List.mem_append_right _ h)) (by decide +kernel))
set_option maxRecDepth 20000 in
theorem gX7_blueGreenRed_X7_next : GoodIn wsX7_blueGreenRed (wsV RX7 48 RX7 yX7_next wsX7_next) := goodIn_app (goodIn_of _ (by decide +kernel)) ggX7_blueGreenRed_X7_next
set_option maxRecDepth 20000 in
theorem ggX7_blueGreenRed_X8_colour : GoodIn wsX7_blueGreenRed wsX8_colour := goodIn_r _ [12] (by decide +kernel) (by decide +kernel)
set_option maxRecDepth 20000 in
theorem gX7_blueGreenRed_X8_colour_n52 : GoodIn wsX7_blueGreenRed (wsX8_colour) := ggX7_blueGreenRed_X8_colour
theorem dX7_blueGreenRed_0 : decode cX7_blueGreenRed 0 = .ok (.aload_n 0, 1) := by decide +kernel
theorem dX7_blueGreenRed_1 : decode cX7_blueGreenRed 1 = .ok (.invokevirtual 48, 3) := by decide +kernel
theorem dX7_blueGreenRed_4 : decode cX7_blueGreenRed 4 = .ok (.istore_n 1, 1) := by decide +kernel
theorem dX7_blueGreenRed_5 : decode cX7_blueGreenRed 5 = .ok (.aload_n 0, 1) := by decide +kernel
theorem dX7_blueGreenRed_6 : decode cX7_blueGreenRed 6 = .ok (.invokevirtual 48, 3) := by decide +kernel
theorem dX7_blueGreenRed_9 : decode cX7_blueGreenRed 9 = .ok (.istore_n 2, 1) := by decide +kernel
theorem dX7_blueGreenRed_10 : decode cX7_blueGreenRed 10 = .ok (.aload_n 0, 1) := by decide +kernel
theorem dX7_blueGreenRed_11 : decode cX7_blueGreenRed 11 = .ok (.invokevirtual 48, 3) := by decide +kernel
theorem dX7_blueGreenRed_14 : decode cX7_blueGreenRed 14 = .ok (.iload_n 2, 1) := by decide +kernel
theorem dX7_blueGreenRed_15 : decode cX7_blueGreenRed 15 = .ok (.iload_n 1, 1) := by decide +kernel
theorem dX7_blueGreenRed_16 : decode cX7_blueGreenRed 16 = .ok (.sipush 255, 3) := by decide +kernel
theorem dX7_blueGreenRed_19 : decode cX7_blueGreenRed 19 = .ok (.invokestatic 52, 3) := by decide +kernel
theorem dX7_blueGreenRed_22 : decode cX7_blueGreenRed 22 = .ok (.ireturn, 1) := by decide +kernel
set_option maxRecDepth 20000 in
theorem ggX8_init_X5_init : GoodIn wsX8_init wsX5_init := goodIn_r _ [32, 33, 2, 3, 34, 35, 36, 37, 60, 61, 62] (by decide +kernel) (by decide +kernel)
set_option maxRecDepth 20000 in
theorem gX8_init_X5_init_n9 : GoodIn wsX8_init (wsX5_init) := ggX8_init_X5_init
set_option maxRecDepth 20000 in
theorem ggX8_init_X2_init : GoodIn wsX8_init wsX2_init := goodIn_r _ [39, 40, 2, 3, 34, 41, 68, 69] (by decide +kernel) (by decide +kernel)
set_option maxRecDepth 20000 in
theorem gX8_init_X2_init_n21 : GoodIn wsX8_init (wsX2_init) := ggX8_init_X2_init
set_option maxRecDepth 20000 in
theorem ggX8_init_X7_init : GoodIn wsX8_init wsX7_init := goodIn_r _ [43, 44, 2, 3, 45, 70, 71] (by decide +kernel) (by decide +kernel)
set_option maxRecDepth 20000 in
theorem gX8_init_X7_init_n28 : GoodIn wsX8_init (wsX7_init) := ggX8_init_X7_init
set_option maxRecDepth 20000 in
theorem ggX8_init_X1_init : GoodIn wsX8_init wsX1_init := goodIn_r _ [47, 34, 48, 49, 50, 51, 52, 2, 3, 72, 73] (by decide +kernel) (by decide +kernel)
set_option maxRecDepth 20000 in
theorem gX8_init_X1_init_n43 : GoodIn wsX8_init (wsX1_init) := ggX8_init_X1_init
set_option maxRecDepth 20000 in
theorem ggX8_init_X6_init : GoodIn wsX8_init wsX6_init := goodIn_r _ [54, 49, 50, 51, 52, 2, 3] (by decide +kernel) (by decide +kernel)
set_option maxRecDepth 20000 in
theorem gX8_init_X6_init_n46 : GoodIn wsX8_init (wsX6_init) := ggX8_init_X6_init
set_option maxRecDepth 20000 in
theorem ggX8_init_X0_init : GoodIn wsX8_init wsX0_init := goodIn_r _ [56, 34, 57, 49, 50, 51, 52, 2, 3, 76, 77, 78, 79, 80, 81, 82] (by decide +kernel) (by decide +kernel)
set_option maxRecDepth 20000 in
theorem gX8_init_X0_init_n49 : GoodIn wsX8_init (wsX0_init) := ggX8_init_X0_init
set_option maxRecDepth 20000 in
theorem ggX8_init_X4_init : GoodIn wsX8_init wsX4_init := goodIn_r _ [59, 49, 50, 51, 52, 2, 3] (by decide +kernel) (by decide +kernel)
set_option maxRecDepth 20000 in
theorem gX8_init_X4_init_n52 : GoodIn wsX8_init (wsX4_init) := ggX8_init_X4_init
theorem dX8_init_0 : decode cX8_init 0 = .ok (.aload_n 0, 1) := by decide +kernel
theorem dX8_init_1 : decode cX8_init 1 = .ok (.invokespecial 1, 3) := by decide +kernel
theorem dX8_init_4 : decode cX8_init 4 = .ok (.aload_n 0, 1) := by decide +kernel
theorem dX8_init_5 : decode cX8_init 5 = .ok (.new 7, 3) := by decide +kernel
theorem dX8_init_8 : decode cX8_init 8 = .ok (.dup, 1) := by decide +kernel
theorem dX8_init_9 : decode cX8_init 9 = .ok (.invokespecial 9, 3) := by decide +kernel
theorem dX8_init_12 : decode cX8_init 12 = .ok (.putfield 10, 3) := by decide +kernel
theorem dX8_init_15 : decode cX8_init 15 = .ok (.aload_n 0, 1) := by decide +kernel
theorem dX8_init_16 : decode cX8_init 16 = .ok (.new 7, 3) := by decide +kernel
theorem dX8_init_19 : decode cX8_init 19 = .ok (.dup, 1) := by decide +kernel
theorem dX8_init_20 : decode cX8_init 20 = .ok (.invokespecial 9, 3) := by decide +kernel
theorem dX8_init_23 : decode cX8_init 23 = .ok (.putfield 16, 3) := by decide +kernel
theorem dX8_init_26 : decode cX8_init 26 = .ok (.aload_n 0, 1) := by decide +kernel
theorem dX8_init_27 : decode cX8_init 27 = .ok (.new 19, 3) := by decide +kernel
theorem dX8_init_30 : decode cX8_init 30 = .ok (.dup, 1) := by decide +kernel
theorem dX8_init_31 : decode cX8_init 31 = .ok (.invokespecial 21, 3) := by decide +kernel
theorem dX8_init_34 : decode cX8_init 34 = .ok (.putfield 22, 3) := by decide +kernel
theorem dX8_init_37 : decode cX8_init 37 = .ok (.aload_n 0, 1) := by decide +kernel
theorem dX8_init_38 : decode cX8_init 38 = .ok (.new 26, 3) := by decide +kernel
theorem dX8_init_41 : decode cX8_init 41 = .ok (.dup, 1) := by decide +kernel
theorem dX8_init_42 : decode cX8_init 42 = .ok (.aload_n 0, 1) := by decide +kernel
theorem dX8_init_43 : decode cX8_init 43 = .ok (.getfield 22, 3) := by decide +kernel
theorem dX8_init_46 : decode cX8_init 46 = .ok (.invokespecial 28, 3) := by decide +kernel
theorem dX8_init_49 : decode cX8_init 49 = .ok (.putfield 31, 3) := by decide +kernel
theorem dX8_init_52 : decode cX8_init 52 = .ok (.aload_n 0, 1) := by decide +kernel
theorem dX8_init_53 : decode cX8_init 53 = .ok (.iconst 4, 1) := by decide +kernel
theorem dX8_init_54 : decode cX8_init 54 = .ok (.anewarray 35, 3) := by decide +kernel
theorem dX8_init_57 : decode cX8_init 57 = .ok (.putfield 37, 3) := by decide +kernel
theorem dX8_init_60 : decode cX8_init 60 = .ok (.aload_n 0, 1) := by decide +kernel
theorem dX8_init_61 : decode cX8_init 61 = .ok (.getfield 37, 3) := by decide +kernel
theorem dX8_init_64 : decode cX8_init 64 = .ok (.iconst 0, 1) := by decide +kernel
theorem dX8_init_65 : decode cX8_init 65 = .ok (.new 41, 3) := by decide +kernel
theorem dX8_init_68 : decode cX8_init 68 = .ok (.dup, 1) := by decide +kernel
theorem dX8_init_69 : decode cX8_init 69 = .ok (.invokespecial 43, 3) := by decide +kernel
theorem dX8_init_72 : decode cX8_init 72 = .ok (.aastore, 1) := by decide +kernel
theorem dX8_init_73 : decode cX8_init 73 = .ok (.aload_n 0, 1) := by decide +kernel
theorem dX8_init_74 : decode cX8_init 74 = .ok (.getfield 37, 3) := by decide +kernel
theorem dX8_init_77 : decode cX8_init 77 = .ok (.iconst 1, 1) := by decide +kernel
theorem dX8_init_78 : decode cX8_init 78 = .ok (.new 44, 3) := by decide +kernel
theorem dX8_init_81 : decode cX8_init 81 = .ok (.dup, 1) := by decide +kernel
theorem dX8_init_82 : decode cX8_init 82 = .ok (.invokespecial 46, 3) := by decide +kernel
theorem dX8_init_85 : decode cX8_init 85 = .ok (.aastore, 1) := by decide +kernel
theorem dX8_init_86 : decode cX8_init 86 = .ok (.aload_n 0, 1) := by decide +kernel
theorem dX8_init_87 : decode cX8_init 87 = .ok (.getfield 37, 3) := by decide +kernel
theorem dX8_init_90 : decode cX8_init 90 = .ok (.iconst 2, 1) := by decide +kernel
theorem dX8_init_91 : decode cX8_init 91 = .ok (.new 47, 3) := by decide +kernel
theorem dX8_init_94 : decode cX8_init 94 = .ok (.dup, 1) := by decide +kernel
theorem dX8_init_95 : decode cX8_init 95 = .ok (.invokespecial 49, 3) := by decide +kernel
theorem dX8_init_98 : decode cX8_init 98 = .ok (.aastore, 1) := by decide +kernel
theorem dX8_init_99 : decode cX8_init 99 = .ok (.aload_n 0, 1) := by decide +kernel
theorem dX8_init_100 : decode cX8_init 100 = .ok (.getfield 37, 3) := by decide +kernel
theorem dX8_init_103 : decode cX8_init 103 = .ok (.iconst 3, 1) := by decide +kernel
theorem dX8_init_104 : decode cX8_init 104 = .ok (.new 50, 3) := by decide +kernel
theorem dX8_init_107 : decode cX8_init 107 = .ok (.dup, 1) := by decide +kernel
theorem dX8_init_108 : decode cX8_init 108 = .ok (.invokespecial 52, 3) := by decide +kernel
theorem dX8_init_111 : decode cX8_init 111 = .ok (.aastore, 1) := by decide +kernel
theorem dX8_init_112 : decode cX8_init 112 = .ok (.return_, 1) := by decide +kernel
set_option maxRecDepth 20000 in
theorem ggX8_make_X8_isSide : GoodIn wsX8_make wsX8_isSide := goodIn_r _ [5] (by decide +kernel) (by decide +kernel)
set_option maxRecDepth 20000 in
theorem gX8_make_X8_isSide : GoodIn wsX8_make (va_wsS RX8 53 yX8_isSide wsX8_isSide) := goodIn_app (goodIn_of _ (by decide +kernel)) ggX8_make_X8_isSide
set_option maxRecDepth 20000 in
theorem ggX8_make_X5_begin : GoodIn wsX8_make wsX5_begin := goodIn_r _ [10, 11, 12, 13, 14, 15, 9, 16, 17, 18, 19, 20, 21, 27, 28, 29] (by decide +kernel) (by decide +kernel)
set_option maxRecDepth 20000 in
theorem gX8_make_X5_begin : GoodIn wsX8_make (wsV RX8 57 RX5 yX5_begin wsX5_begin) := goodIn_app (goodIn_of _ (by decide +kernel)) ggX8_make_X5_begin
theorem dX8_make_0 : decode cX8_make 0 = .ok (.iload_n 1, 1) := by decide +kernel
theorem dX8_make_1 : decode cX8_make 1 = .ok (.invokestatic 53, 3) := by decide +kernel
theorem dX8_make_4 : decode cX8_make 4 = .ok (.ifCond .eq 10, 3) := by decide +kernel
theorem dX8_make_7 : decode cX8_make 7 = .ok (.iload_n 2, 1) := by decide +kernel
theorem dX8_make_8 : decode cX8_make 8 = .ok (.invokestatic 53, 3) := by decide +kernel
theorem dX8_make_11 : decode cX8_make 11 = .ok (.ifCond .ne 5, 3) := by decide +kernel
theorem dX8_make_14 : decode cX8_make 14 = .ok (.iconst 0, 1) := by decide +kernel
theorem dX8_make_15 : decode cX8_make 15 = .ok (.ireturn, 1) := by decide +kernel
theorem dX8_make_16 : decode cX8_make 16 = .ok (.aload_n 0, 1) := by decide +kernel
theorem dX8_make_17 : decode cX8_make 17 = .ok (.getfield 10, 3) := by decide +kernel
theorem dX8_make_20 : decode cX8_make 20 = .ok (.iload_n 1, 1) := by decide +kernel
theorem dX8_make_21 : decode cX8_make 21 = .ok (.iload_n 2, 1) := by decide +kernel
theorem dX8_make_22 : decode cX8_make 22 = .ok (.invokevirtual 57, 3) := by decide +kernel
theorem dX8_make_25 : decode cX8_make 25 = .ok (.iconst 1, 1) := by decide +kernel
theorem dX8_make_26 : decode cX8_make 26 = .ok (.ireturn, 1) := by decide +kernel
set_option maxRecDepth 20000 in
theorem ggX8_put_X5_has : GoodIn wsX8_put wsX5_has := goodIn_r _ [6, 7, 8, 19, 20, 21] (by decide +kernel) (by decide +kernel)
set_option maxRecDepth 20000 in
theorem gX8_put_X5_has : GoodIn wsX8_put (wsV RX8 61 RX5 yX5_has wsX5_has) := goodIn_app (goodIn_of _ (by decide +kernel)) ggX8_put_X5_has
set_option maxRecDepth 20000 in
theorem ggX8_put_X5_set : GoodIn wsX8_put wsX5_set := goodIn_r _ [12, 13, 7, 19, 20, 21] (by decide +kernel) (by decide +kernel)
set_option maxRecDepth 20000 in
theorem gX8_put_X5_set : GoodIn wsX8_put (wsV RX8 65 RX5 yX5_set wsX5_set) := goodIn_app (goodIn_of _ (by decide +kernel)) ggX8_put_X5_set
theorem dX8_put_0 : decode cX8_put 0 = .ok (.aload_n 0, 1) := by decide +kernel
theorem dX8_put_1 : decode cX8_put 1 = .ok (.getfield 10, 3) := by decide +kernel
theorem dX8_put_4 : decode cX8_put 4 = .ok (.iload_n 1, 1) := by decide +kernel
theorem dX8_put_5 : decode cX8_put 5 = .ok (.iload_n 2, 1) := by decide +kernel
theorem dX8_put_6 : decode cX8_put 6 = .ok (.invokevirtual 61, 3) := by decide +kernel
theorem dX8_put_9 : decode cX8_put 9 = .ok (.ifCond .ne 5, 3) := by decide +kernel
theorem dX8_put_12 : decode cX8_put 12 = .ok (.iconst 0, 1) := by decide +kernel
theorem dX8_put_13 : decode cX8_put 13 = .ok (.ireturn, 1) := by decide +kernel
theorem dX8_put_14 : decode cX8_put 14 = .ok (.aload_n 0, 1) := by decide +kernel
theorem dX8_put_15 : decode cX8_put 15 = .ok (.getfield 10, 3) := by decide +kernel
theorem dX8_put_18 : decode cX8_put 18 = .ok (.iload_n 1, 1) := by decide +kernel
theorem dX8_put_19 : decode cX8_put 19 = .ok (.iload_n 2, 1) := by decide +kernel
theorem dX8_put_20 : decode cX8_put 20 = .ok (.iload_n 3, 1) := by decide +kernel
theorem dX8_put_21 : decode cX8_put 21 = .ok (.invokevirtual 65, 3) := by decide +kernel
theorem dX8_put_24 : decode cX8_put 24 = .ok (.iconst 1, 1) := by decide +kernel
theorem dX8_put_25 : decode cX8_put 25 = .ok (.ireturn, 1) := by decide +kernel
set_option maxRecDepth 20000 in
theorem ggX8_pixel_X5_has : GoodIn wsX8_pixel wsX5_has := goodIn_r _ [6, 7, 8, 19, 20, 21] (by decide +kernel) (by decide +kernel)
set_option maxRecDepth 20000 in
theorem gX8_pixel_X5_has : GoodIn wsX8_pixel (wsV RX8 61 RX5 yX5_has wsX5_has) := goodIn_app (goodIn_of _ (by decide +kernel)) ggX8_pixel_X5_has
set_option maxRecDepth 20000 in
theorem ggX8_pixel_X5_at : GoodIn wsX8_pixel wsX5_at := goodIn_r _ [12, 13, 7, 19, 20, 21] (by decide +kernel) (by decide +kernel)
set_option maxRecDepth 20000 in
theorem gX8_pixel_X5_at : GoodIn wsX8_pixel (wsV RX8 69 RX5 yX5_at wsX5_at) := goodIn_app (goodIn_of _ (by decide +kernel)) ggX8_pixel_X5_at
theorem dX8_pixel_0 : decode cX8_pixel 0 = .ok (.aload_n 0, 1) := by decide +kernel
theorem dX8_pixel_1 : decode cX8_pixel 1 = .ok (.getfield 10, 3) := by decide +kernel
theorem dX8_pixel_4 : decode cX8_pixel 4 = .ok (.iload_n 1, 1) := by decide +kernel
theorem dX8_pixel_5 : decode cX8_pixel 5 = .ok (.iload_n 2, 1) := by decide +kernel
theorem dX8_pixel_6 : decode cX8_pixel 6 = .ok (.invokevirtual 61, 3) := by decide +kernel
theorem dX8_pixel_9 : decode cX8_pixel 9 = .ok (.ifCond .eq 15, 3) := by decide +kernel
theorem dX8_pixel_12 : decode cX8_pixel 12 = .ok (.aload_n 0, 1) := by decide +kernel
theorem dX8_pixel_13 : decode cX8_pixel 13 = .ok (.getfield 10, 3) := by decide +kernel
theorem dX8_pixel_16 : decode cX8_pixel 16 = .ok (.iload_n 1, 1) := by decide +kernel
theorem dX8_pixel_17 : decode cX8_pixel 17 = .ok (.iload_n 2, 1) := by decide +kernel
theorem dX8_pixel_18 : decode cX8_pixel 18 = .ok (.invokevirtual 69, 3) := by decide +kernel
theorem dX8_pixel_21 : decode cX8_pixel 21 = .ok (.goto 4, 3) := by decide +kernel
theorem dX8_pixel_24 : decode cX8_pixel 24 = .ok (.iconst 0, 1) := by decide +kernel
theorem dX8_pixel_25 : decode cX8_pixel 25 = .ok (.ireturn, 1) := by decide +kernel
theorem dX8_width_0 : decode cX8_width 0 = .ok (.aload_n 0, 1) := by decide +kernel
theorem dX8_width_1 : decode cX8_width 1 = .ok (.getfield 10, 3) := by decide +kernel
theorem dX8_width_4 : decode cX8_width 4 = .ok (.getfield 73, 3) := by decide +kernel
theorem dX8_width_7 : decode cX8_width 7 = .ok (.ireturn, 1) := by decide +kernel
theorem dX8_height_0 : decode cX8_height 0 = .ok (.aload_n 0, 1) := by decide +kernel
theorem dX8_height_1 : decode cX8_height 1 = .ok (.getfield 10, 3) := by decide +kernel
theorem dX8_height_4 : decode cX8_height 4 = .ok (.getfield 77, 3) := by decide +kernel
theorem dX8_height_7 : decode cX8_height 7 = .ok (.ireturn, 1) := by decide +kernel
set_option maxRecDepth 20000 in
theorem ggX8_change_X5_exchangeColumns : GoodIn wsX8_change wsX5_exchangeColumns := goodIn_r _ [7, 8, 9, 10, 11, 12, 6, 13, 14, 79, 80, 81] (by decide +kernel) (by decide +kernel)
set_option maxRecDepth 20000 in
theorem gX8_change_X5_exchangeColumns : GoodIn wsX8_change (wsV RX8 80 RX5 yX5_exchangeColumns wsX5_exchangeColumns) := goodIn_app (goodIn_of _ (by decide +kernel)) ggX8_change_X5_exchangeColumns
set_option maxRecDepth 20000 in
theorem ggX8_change_X5_exchangeRows : GoodIn wsX8_change wsX5_exchangeRows := goodIn_r _ [18, 8, 9, 10, 11, 12, 6, 13, 14, 79, 80, 81] (by decide +kernel) (by decide +kernel)
set_option maxRecDepth 20000 in
theorem gX8_change_X5_exchangeRows : GoodIn wsX8_change (wsV RX8 83 RX5 yX5_exchangeRows wsX5_exchangeRows) := goodIn_app (goodIn_of _ (by decide +kernel)) ggX8_change_X5_exchangeRows
set_option maxRecDepth 20000 in
theorem ggX8_change_X5_becomeTurned : GoodIn wsX8_change wsX5_becomeTurned := goodIn_r _ [22, 8, 9, 23, 24, 25, 6, 26, 27, 28, 29, 30, 14, 31, 32, 33, 34, 35, 36, 37, 38, 39, 40, 41, 42, 79, 80, 81] (by decide +kernel) (by decide +kernel)
set_option maxRecDepth 20000 in
theorem gX8_change_X5_becomeTurned : GoodIn wsX8_change (wsV RX8 86 RX5 yX5_becomeTurned wsX5_becomeTurned) := goodIn_app (goodIn_of _ (by decide +kernel)) ggX8_change_X5_becomeTurned
set_option maxRecDepth 20000 in
theorem ggX8_change_X5_become : GoodIn wsX8_change wsX5_become := goodIn_r _ [46, 9, 8, 14, 47, 48, 49, 50, 79, 80, 81] (by decide +kernel) (by decide +kernel)
set_option maxRecDepth 20000 in
theorem gX8_change_X5_become : GoodIn wsX8_change (wsV RX8 90 RX5 yX5_become wsX5_become) := goodIn_app (goodIn_of _ (by decide +kernel)) ggX8_change_X5_become
set_option maxRecDepth 20000 in
theorem ggX8_change_X5_loseColour : GoodIn wsX8_change wsX5_loseColour := goodIn_r _ [54, 14, 55, 56, 57, 6, 58, 9, 8, 59, 60, 61, 62, 63, 64, 65, 66, 67, 68, 69, 79, 80, 81] (by decide +kernel) (by decide +kernel)
set_option maxRecDepth 20000 in
theorem gX8_change_X5_loseColour : GoodIn wsX8_change (wsV RX8 93 RX5 yX5_loseColour wsX5_loseColour) := goodIn_app (goodIn_of _ (by decide +kernel)) ggX8_change_X5_loseColour
set_option maxRecDepth 20000 in
theorem ggX8_change_X5_becomeOpaque : GoodIn wsX8_change wsX5_becomeOpaque := goodIn_r _ [73, 14, 55, 56, 57, 6, 58, 9, 8, 79, 80, 81] (by decide +kernel) (by decide +kernel)
set_option maxRecDepth 20000 in
theorem gX8_change_X5_becomeOpaque : GoodIn wsX8_change (wsV RX8 96 RX5 yX5_becomeOpaque wsX5_becomeOpaque) := goodIn_app (goodIn_of _ (by decide +kernel)) ggX8_change_X5_becomeOpaque
theorem dX8_change_0 : decode cX8_change 0 = .ok (.iload_n 1, 1) := by decide +kernel
theorem dX8_change_1 : decode cX8_change 1 = .ok (.tableswitch 95 0 4 #[35, 44, 53, 77, 86], 35) := by decide +kernel
theorem dX8_change_36 : decode cX8_change 36 = .ok (.aload_n 0, 1) := by decide +kernel
theorem dX8_change_37 : decode cX8_change 37 = .ok (.getfield 10, 3) := by decide +kernel
theorem dX8_change_40 : decode cX8_change 40 = .ok (.invokevirtual 80, 3) := by decide +kernel
theorem dX8_change_43 : decode cX8_change 43 = .ok (.iconst 1, 1) := by decide +kernel
theorem dX8_change_44 : decode cX8_change 44 = .ok (.ireturn, 1) := by decide +kernel
theorem dX8_change_45 : decode cX8_change 45 = .ok (.aload_n 0, 1) := by decide +kernel
theorem dX8_change_46 : decode cX8_change 46 = .ok (.getfield 10, 3) := by decide +kernel
theorem dX8_change_49 : decode cX8_change 49 = .ok (.invokevirtual 83, 3) := by decide +kernel
theorem dX8_change_52 : decode cX8_change 52 = .ok (.iconst 1, 1) := by decide +kernel
theorem dX8_change_53 : decode cX8_change 53 = .ok (.ireturn, 1) := by decide +kernel
theorem dX8_change_54 : decode cX8_change 54 = .ok (.aload_n 0, 1) := by decide +kernel
theorem dX8_change_55 : decode cX8_change 55 = .ok (.getfield 16, 3) := by decide +kernel
theorem dX8_change_58 : decode cX8_change 58 = .ok (.aload_n 0, 1) := by decide +kernel
theorem dX8_change_59 : decode cX8_change 59 = .ok (.getfield 10, 3) := by decide +kernel
theorem dX8_change_62 : decode cX8_change 62 = .ok (.invokevirtual 86, 3) := by decide +kernel
theorem dX8_change_65 : decode cX8_change 65 = .ok (.aload_n 0, 1) := by decide +kernel
theorem dX8_change_66 : decode cX8_change 66 = .ok (.getfield 10, 3) := by decide +kernel
theorem dX8_change_69 : decode cX8_change 69 = .ok (.aload_n 0, 1) := by decide +kernel
theorem dX8_change_70 : decode cX8_change 70 = .ok (.getfield 16, 3) := by decide +kernel
theorem dX8_change_73 : decode cX8_change 73 = .ok (.invokevirtual 90, 3) := by decide +kernel
theorem dX8_change_76 : decode cX8_change 76 = .ok (.iconst 1, 1) := by decide +kernel
theorem dX8_change_77 : decode cX8_change 77 = .ok (.ireturn, 1) := by decide +kernel
theorem dX8_change_78 : decode cX8_change 78 = .ok (.aload_n 0, 1) := by decide +kernel
theorem dX8_change_79 : decode cX8_change 79 = .ok (.getfield 10, 3) := by decide +kernel
theorem dX8_change_82 : decode cX8_change 82 = .ok (.invokevirtual 93, 3) := by decide +kernel
theorem dX8_change_85 : decode cX8_change 85 = .ok (.iconst 1, 1) := by decide +kernel
theorem dX8_change_86 : decode cX8_change 86 = .ok (.ireturn, 1) := by decide +kernel
theorem dX8_change_87 : decode cX8_change 87 = .ok (.aload_n 0, 1) := by decide +kernel
theorem dX8_change_88 : decode cX8_change 88 = .ok (.getfield 10, 3) := by decide +kernel
theorem dX8_change_91 : decode cX8_change 91 = .ok (.invokevirtual 96, 3) := by decide +kernel
theorem dX8_change_94 : decode cX8_change 94 = .ok (.iconst 1, 1) := by decide +kernel
theorem dX8_change_95 : decode cX8_change 95 = .ok (.ireturn, 1) := by decide +kernel
theorem dX8_change_96 : decode cX8_change 96 = .ok (.iconst 0, 1) := by decide +kernel
theorem dX8_change_97 : decode cX8_change 97 = .ok (.ireturn, 1) := by decide +kernel
set_option maxRecDepth 20000 in
theorem ggX8_feed_X8_isByte : GoodIn wsX8_feed wsX8_isByte := goodIn_r _ [5] (by decide +kernel) (by decide +kernel)
set_option maxRecDepth 20000 in
theorem gX8_feed_X8_isByte : GoodIn wsX8_feed (va_wsS RX8 99 yX8_isByte wsX8_isByte) := goodIn_app (goodIn_of _ (by decide +kernel)) ggX8_feed_X8_isByte
set_option maxRecDepth 20000 in
theorem ggX8_feed_X2_append : GoodIn wsX8_feed wsX2_append := goodIn_r _ [10, 11, 12, 18, 19] (by decide +kernel) (by decide +kernel)
set_option maxRecDepth 20000 in
theorem gX8_feed_X2_append : GoodIn wsX8_feed (wsV RX8 102 RX2 yX2_append wsX2_append) := goodIn_app (goodIn_of _ (by decide +kernel)) ggX8_feed_X2_append
theorem dX8_feed_0 : decode cX8_feed 0 = .ok (.iload_n 1, 1) := by decide +kernel
theorem dX8_feed_1 : decode cX8_feed 1 = .ok (.invokestatic 99, 3) := by decide +kernel
theorem dX8_feed_4 : decode cX8_feed 4 = .ok (.ifCond .eq 18, 3) := by decide +kernel
theorem dX8_feed_7 : decode cX8_feed 7 = .ok (.aload_n 0, 1) := by decide +kernel
theorem dX8_feed_8 : decode cX8_feed 8 = .ok (.getfield 22, 3) := by decide +kernel
theorem dX8_feed_11 : decode cX8_feed 11 = .ok (.iload_n 1, 1) := by decide +kernel
theorem dX8_feed_12 : decode cX8_feed 12 = .ok (.invokevirtual 102, 3) := by decide +kernel
theorem dX8_feed_15 : decode cX8_feed 15 = .ok (.ifCond .eq 7, 3) := by decide +kernel
theorem dX8_feed_18 : decode cX8_feed 18 = .ok (.iconst 1, 1) := by decide +kernel
theorem dX8_feed_19 : decode cX8_feed 19 = .ok (.goto 4, 3) := by decide +kernel
theorem dX8_feed_22 : decode cX8_feed 22 = .ok (.iconst 0, 1) := by decide +kernel
theorem dX8_feed_23 : decode cX8_feed 23 = .ok (.ireturn, 1) := by decide +kernel
theorem dX8_cut_0 : decode cX8_cut 0 = .ok (.iload_n 1, 1) := by decide +kernel
theorem dX8_cut_1 : decode cX8_cut 1 = .ok (.ifCond .lt 14, 3) := by decide +kernel
theorem dX8_cut_4 : decode cX8_cut 4 = .ok (.iload_n 1, 1) := by decide +kernel
theorem dX8_cut_5 : decode cX8_cut 5 = .ok (.aload_n 0, 1) := by decide +kernel
theorem dX8_cut_6 : decode cX8_cut 6 = .ok (.getfield 22, 3) := by decide +kernel
theorem dX8_cut_9 : decode cX8_cut 9 = .ok (.getfield 105, 3) := by decide +kernel
theorem dX8_cut_12 : decode cX8_cut 12 = .ok (.if_icmp .le 5, 3) := by decide +kernel
theorem dX8_cut_15 : decode cX8_cut 15 = .ok (.iconst 0, 1) := by decide +kernel
theorem dX8_cut_16 : decode cX8_cut 16 = .ok (.ireturn, 1) := by decide +kernel
theorem dX8_cut_17 : decode cX8_cut 17 = .ok (.aload_n 0, 1) := by decide +kernel
theorem dX8_cut_18 : decode cX8_cut 18 = .ok (.getfield 22, 3) := by decide +kernel
theorem dX8_cut_21 : decode cX8_cut 21 = .ok (.iload_n 1, 1) := by decide +kernel
theorem dX8_cut_22 : decode cX8_cut 22 = .ok (.putfield 105, 3) := by decide +kernel
theorem dX8_cut_25 : decode cX8_cut 25 = .ok (.iconst 1, 1) := by decide +kernel
theorem dX8_cut_26 : decode cX8_cut 26 = .ok (.ireturn, 1) := by decide +kernel
set_option maxRecDepth 20000 in
theorem ggX8_alter_X8_isByte : GoodIn wsX8_alter wsX8_isByte := goodIn_r _ [5] (by decide +kernel) (by decide +kernel)
set_option maxRecDepth 20000 in
theorem gX8_alter_X8_isByte : GoodIn wsX8_alter (va_wsS RX8 99 yX8_isByte wsX8_isByte) := goodIn_app (goodIn_of _ (by decide +kernel)) ggX8_alter_X8_isByte
theorem dX8_alter_0 : decode cX8_alter 0 = .ok (.iload_n 2, 1) := by decide +kernel
theorem dX8_alter_1 : decode cX8_alter 1 = .ok (.invokestatic 99, 3) := by decide +kernel
theorem dX8_alter_4 : decode cX8_alter 4 = .ok (.ifCond .eq 18, 3) := by decide +kernel
theorem dX8_alter_7 : decode cX8_alter 7 = .ok (.iload_n 1, 1) := by decide +kernel
theorem dX8_alter_8 : decode cX8_alter 8 = .ok (.ifCond .lt 14, 3) := by decide +kernel
theorem dX8_alter_11 : decode cX8_alter 11 = .ok (.iload_n 1, 1) := by decide +kernel
theorem dX8_alter_12 : decode cX8_alter 12 = .ok (.aload_n 0, 1) := by decide +kernel
theorem dX8_alter_13 : decode cX8_alter 13 = .ok (.getfield 22, 3) := by decide +kernel
theorem dX8_alter_16 : decode cX8_alter 16 = .ok (.getfield 105, 3) := by decide +kernel
theorem dX8_alter_19 : decode cX8_alter 19 = .ok (.if_icmp .lt 5, 3) := by decide +kernel
theorem dX8_alter_22 : decode cX8_alter 22 = .ok (.iconst 0, 1) := by decide +kernel
theorem dX8_alter_23 : decode cX8_alter 23 = .ok (.ireturn, 1) := by decide +kernel
theorem dX8_alter_24 : decode cX8_alter 24 = .ok (.aload_n 0, 1) := by decide +kernel
theorem dX8_alter_25 : decode cX8_alter 25 = .ok (.getfield 22, 3) := by decide +kernel
theorem dX8_alter_28 : decode cX8_alter 28 = .ok (.getfield 108, 3) := by decide +kernel
theorem dX8_alter_31 : decode cX8_alter 31 = .ok (.iload_n 1, 1) := by decide +kernel
theorem dX8_alter_32 : decode cX8_alter 32 = .ok (.iload_n 2, 1) := by decide +kernel
theorem dX8_alter_33 : decode cX8_alter 33 = .ok (.iastore, 1) := by decide +kernel
theorem dX8_alter_34 : decode cX8_alter 34 = .ok (.iconst 1, 1) := by decide +kernel
theorem dX8_alter_35 : decode cX8_alter 35 = .ok (.ireturn, 1) := by decide +kernel
theorem dX8_length_0 : decode cX8_length 0 = .ok (.aload_n 0, 1) := by decide +kernel
theorem dX8_length_1 : decode cX8_length 1 = .ok (.getfield 22, 3) := by decide +kernel
theorem dX8_length_4 : decode cX8_length 4 = .ok (.getfield 105, 3) := by decide +kernel
theorem dX8_length_7 : decode cX8_length 7 = .ok (.ireturn, 1) := by decide +kernel
set_option maxRecDepth 20000 in
theorem ggX8_byteAt_X2_at : GoodIn wsX8_byteAt wsX2_at := goodIn_r _ [6, 7, 8, 14, 15] (by decide +kernel) (by decide +kernel)
set_option maxRecDepth 20000 in
theorem gX8_byteAt_X2_at : GoodIn wsX8_byteAt (wsV RX8 112 RX2 yX2_at wsX2_at) := goodIn_app (goodIn_of _ (by decide +kernel)) ggX8_byteAt_X2_at
theorem dX8_byteAt_0 : decode cX8_byteAt 0 = .ok (.aload_n 0, 1) := by decide +kernel
theorem dX8_byteAt_1 : decode cX8_byteAt 1 = .ok (.getfield 22, 3) := by decide +kernel
theorem dX8_byteAt_4 : decode cX8_byteAt 4 = .ok (.iload_n 1, 1) := by decide +kernel
theorem dX8_byteAt_5 : decode cX8_byteAt 5 = .ok (.invokevirtual 112, 3) := by decide +kernel
theorem dX8_byteAt_8 : decode cX8_byteAt 8 = .ok (.ireturn, 1) := by decide +kernel
set_option maxRecDepth 20000 in
theorem ggX8_sniff_X0_isThatOf : GoodIn wsX8_sniff wsX0_isThatOf := goodIn_r _ [8, 9, 10, 11, 12, 13, 14, 15, 36, 37] (by decide +kernel) (by decide +kernel)
set_option maxRecDepth 20000 in
theorem gX8_sniff_X0_isThatOf_u115X0 : GoodIn wsX8_sniff (va_wsU RX8 115 RX0 "FourPictureFiles$Format" ⟨"FourPictureFiles$Format", "isThatOf", "(LFourPictureFiles$FileRow;)Z"⟩ yX0_isThatOf wsX0_isThatOf) := goodIn_app (goodIn_of _ (by decide +kernel)) ggX8_sniff_X0_isThatOf
set_option maxRecDepth 20000 in
theorem ggX8_sniff_X1_isThatOf : GoodIn wsX8_sniff wsX1_isThatOf := goodIn_r _ [19, 20, 10, 11, 12, 13, 14, 15, 36, 37] (by decide +kernel) (by decide +kernel)
set_option maxRecDepth 20000 in
theorem gX8_sniff_X1_isThatOf_u115X1 : GoodIn wsX8_sniff (va_wsU RX8 115 RX1 "FourPictureFiles$Format" ⟨"FourPictureFiles$Format", "isThatOf", "(LFourPictureFiles$FileRow;)Z"⟩ yX1_isThatOf wsX1_isThatOf) := goodIn_app (goodIn_of _ (by decide +kernel)) ggX8_sniff_X1_isThatOf
set_option maxRecDepth 20000 in
theorem ggX8_sniff_X4_isThatOf : GoodIn wsX8_sniff wsX4_isThatOf := goodIn_r _ [24, 25, 10, 11, 12, 13, 14, 15, 36, 37] (by decide +kernel) (by decide +kernel)
set_option maxRecDepth 20000 in
theorem gX8_sniff_X4_isThatOf_u115X4 : GoodIn wsX8_sniff (va_wsU RX8 115 RX4 "FourPictureFiles$Format" ⟨"FourPictureFiles$Format", "isThatOf", "(LFourPictureFiles$FileRow;)Z"⟩ yX4_isThatOf wsX4_isThatOf) := goodIn_app (goodIn_of _ (by decide +kernel)) ggX8_sniff_X4_isThatOf
set_option maxRecDepth 20000 in
theorem ggX8_sniff_X6_isThatOf : GoodIn wsX8_sniff wsX6_isThatOf := goodIn_r _ [29, 30, 10, 11, 12, 13, 14, 15, 36, 37] (by decide +kernel) (by decide +kernel)
set_option maxRecDepth 20000 in
theorem gX8_sniff_X6_isThatOf_u115X6 : GoodIn wsX8_sniff (va_wsU RX8 115 RX6 "FourPictureFiles$Format" ⟨"FourPictureFiles$Format", "isThatOf", "(LFourPictureFiles$FileRow;)Z"⟩ yX6_isThatOf wsX6_isThatOf) := goodIn_app (goodIn_of _ (by decide +kernel)) ggX8_sniff_X6_isThatOf
theorem dX8_sniff_0 : decode cX8_sniff 0 = .ok (.iconst 0, 1) := by decide +kernel
theorem dX8_sniff_1 : decode cX8_sniff 1 = .ok (.istore_n 1, 1) := by decide +kernel
theorem dX8_sniff_2 : decode cX8_sniff 2 = .ok (.iload_n 1, 1) := by decide +kernel
theorem dX8_sniff_3 : decode cX8_sniff 3 = .ok (.iconst 4, 1) := by decide +kernel
theorem dX8_sniff_4 : decode cX8_sniff 4 = .ok (.if_icmp .ge 27, 3) := by decide +kernel
theorem dX8_sniff_7 : decode cX8_sniff 7 = .ok (.aload_n 0, 1) := by decide +kernel
theorem dX8_sniff_8 : decode cX8_sniff 8 = .ok (.getfield 37, 3) := by decide +kernel
theorem dX8_sniff_11 : decode cX8_sniff 11 = .ok (.iload_n 1, 1) := by decide +kernel
theorem dX8_sniff_12 : decode cX8_sniff 12 = .ok (.aaload, 1) := by decide +kernel
theorem dX8_sniff_13 : decode cX8_sniff 13 = .ok (.aload_n 0, 1) := by decide +kernel
theorem dX8_sniff_14 : decode cX8_sniff 14 = .ok (.getfield 22, 3) := by decide +kernel
theorem dX8_sniff_17 : decode cX8_sniff 17 = .ok (.invokevirtual 115, 3) := by decide +kernel
theorem dX8_sniff_20 : decode cX8_sniff 20 = .ok (.ifCond .eq 5, 3) := by decide +kernel
theorem dX8_sniff_23 : decode cX8_sniff 23 = .ok (.iload_n 1, 1) := by decide +kernel
theorem dX8_sniff_24 : decode cX8_sniff 24 = .ok (.ireturn, 1) := by decide +kernel
theorem dX8_sniff_25 : decode cX8_sniff 25 = .ok (.iinc 1 1, 3) := by decide +kernel
theorem dX8_sniff_28 : decode cX8_sniff 28 = .ok (.goto (-26), 3) := by decide +kernel
theorem dX8_sniff_31 : decode cX8_sniff 31 = .ok (.iconst (-1), 1) := by decide +kernel
theorem dX8_sniff_32 : decode cX8_sniff 32 = .ok (.ireturn, 1) := by decide +kernel
set_option maxRecDepth 20000 in
theorem ggX8_encode_X0_canHold : GoodIn wsX8_encode wsX0_canHold := goodIn_r _ [9, 10, 11, 12, 13, 14, 15, 16, 17, 18, 19, 20, 21, 22, 23, 24, 208, 209, 210] (by decide +kernel) (by decide +kernel)
set_option maxRecDepth 20000 in
theorem gX8_encode_X0_canHold_u119X0 : GoodIn wsX8_encode (va_wsU RX8 119 RX0 "FourPictureFiles$Format" ⟨"FourPictureFiles$Format", "canHold", "(LFourPictureFiles$Picture;)Z"⟩ yX0_canHold wsX0_canHold) := goodIn_app (goodIn_of _ (by decide +kernel)) ggX8_encode_X0_canHold
set_option maxRecDepth 20000 in
theorem ggX8_encode_X1_canHold : GoodIn wsX8_encode wsX1_canHold := goodIn_r _ [28] (by decide +kernel) (by decide +kernel)
set_option maxRecDepth 20000 in
theorem gX8_encode_X1_canHold_u119X1 : GoodIn wsX8_encode (va_wsU RX8 119 RX1 "FourPictureFiles$Format" ⟨"FourPictureFiles$Format", "canHold", "(LFourPictureFiles$Picture;)Z"⟩ yX1_canHold wsX1_canHold) := goodIn_app (goodIn_of _ (by decide +kernel)) ggX8_encode_X1_canHold
set_option maxRecDepth 20000 in
theorem ggX8_encode_X4_canHold : GoodIn wsX8_encode wsX4_canHold := goodIn_r _ [32] (by decide +kernel) (by decide +kernel)
set_option maxRecDepth 20000 in
theorem gX8_encode_X4_canHold_u119X4 : GoodIn wsX8_encode (va_wsU RX8 119 RX4 "FourPictureFiles$Format" ⟨"FourPictureFiles$Format", "canHold", "(LFourPictureFiles$Picture;)Z"⟩ yX4_canHold wsX4_canHold) := goodIn_app (goodIn_of _ (by decide +kernel)) ggX8_encode_X4_canHold
set_option maxRecDepth 20000 in
theorem ggX8_encode_X6_canHold : GoodIn wsX8_encode wsX6_canHold := goodIn_r _ [36, 37, 11, 12, 13, 14, 15, 16, 17, 18, 19, 20, 21, 22, 23, 24, 208, 209, 210] (by decide +kernel) (by decide +kernel)
set_option maxRecDepth 20000 in
theorem gX8_encode_X6_canHold_u119X6 : GoodIn wsX8_encode (va_wsU RX8 119 RX6 "FourPictureFiles$Format" ⟨"FourPictureFiles$Format", "canHold", "(LFourPictureFiles$Picture;)Z"⟩ yX6_canHold wsX6_canHold) := goodIn_app (goodIn_of _ (by decide +kernel)) ggX8_encode_X6_canHold
set_option maxRecDepth 20000 in
theorem ggX8_encode_X0_write : GoodIn wsX8_encode wsX0_write := goodIn_r _ [42, 43, 44, 45, 46, 47, 8, 48, 49, 17, 18, 13, 19, 20, 21, 50, 51, 52, 53, 54, 55, 56, 57, 58, 59, 60, 61, 62, 63, 64, 65, 66, 67, 68, 69, 70, 71, 72, 73, 74, 75, 76, 77, 78, 23, 79, 80, 81, 82, 83, 84, 85, 86, 87, 88, 89, 90, 15, 91, 92, 93, 94, 95, 96, 97, 98, 99, 100, 211, 212, 213, 214, 215, 216, 217, 208, 209, 210, 206, 207] (by decide +kernel) (by decide +kernel)
set_option maxRecDepth 20000 in
theorem gX8_encode_X0_write_u123X0 : GoodIn wsX8_encode (va_wsU RX8 123 RX0 "FourPictureFiles$Format" ⟨"FourPictureFiles$Format", "write", "(LFourPictureFiles$Picture;ILFourPictureFiles$FileRow;)V"⟩ yX0_write wsX0_write) := goodIn_app (goodIn_of _ (by decide +kernel)) ggX8_encode_X0_write
set_option maxRecDepth 20000 in
theorem ggX8_encode_X1_write : GoodIn wsX8_encode wsX1_write := goodIn_r _ [103, 104, 59, 60, 61, 62, 63, 64, 105, 106, 107, 108, 69, 109, 11, 12, 13, 14, 15, 16, 17, 18, 19, 20, 21, 22, 23, 24, 110, 111, 112, 27, 113, 114, 115, 116, 117, 118, 119, 120, 121, 122, 123, 124, 125, 126, 127, 128, 129, 130, 131, 132, 133, 134, 135, 136, 82, 83, 80, 81, 78, 79, 137, 138, 139, 140, 141, 142, 143, 144, 145, 146, 147, 66, 67, 68, 208, 209, 210, 206, 207, 218, 219] (by decide +kernel) (by decide +kernel)
set_option maxRecDepth 20000 in
theorem gX8_encode_X1_write_u123X1 : GoodIn wsX8_encode (va_wsU RX8 123 RX1 "FourPictureFiles$Format" ⟨"FourPictureFiles$Format", "write", "(LFourPictureFiles$Picture;ILFourPictureFiles$FileRow;)V"⟩ yX1_write wsX1_write) := goodIn_app (goodIn_of _ (by decide +kernel)) ggX8_encode_X1_write
set_option maxRecDepth 20000 in
theorem ggX8_encode_X4_write : GoodIn wsX8_encode wsX4_write := goodIn_r _ [150, 151, 152, 153, 154, 13, 155, 15, 16, 17, 18, 19, 20, 21, 82, 23, 83, 80, 81, 78, 79, 156, 11, 12, 14, 22, 24, 157, 158, 66, 67, 61, 68, 69, 59, 60, 62, 63, 64, 159, 160, 71, 72, 73, 161, 162, 163, 31, 164, 165, 166, 167, 168, 169, 88, 89, 90, 170, 75, 76, 77, 171, 172, 173, 174, 175, 176, 177, 178, 179, 180, 181, 182, 183, 184, 220, 221, 222, 223, 208, 209, 210, 206, 207] (by decide +kernel) (by decide +kernel)
set_option maxRecDepth 20000 in
theorem gX8_encode_X4_write_u123X4 : GoodIn wsX8_encode (va_wsU RX8 123 RX4 "FourPictureFiles$Format" ⟨"FourPictureFiles$Format", "write", "(LFourPictureFiles$Picture;ILFourPictureFiles$FileRow;)V"⟩ yX4_write wsX4_write) := goodIn_app (goodIn_of _ (by decide +kernel)) ggX8_encode_X4_write
set_option maxRecDepth 20000 in
theorem ggX8_encode_X6_write : GoodIn wsX8_encode wsX6_write := goodIn_r _ [187, 188, 153, 154, 13, 155, 15, 16, 17, 18, 19, 20, 21, 82, 23, 83, 80, 81, 78, 79, 156, 11, 12, 14, 22, 24, 189, 59, 60, 61, 62, 63, 64, 190, 191, 192, 193, 69, 194, 88, 89, 90, 195, 196, 35, 197, 198, 199, 200, 208, 209, 210, 206, 207] (by decide +kernel) (by decide +kernel)
set_option maxRecDepth 20000 in
theorem gX8_encode_X6_write_u123X6 : GoodIn wsX8_encode (va_wsU RX8 123 RX6 "FourPictureFiles$Format" ⟨"FourPictureFiles$Format", "write", "(LFourPictureFiles$Picture;ILFourPictureFiles$FileRow;)V"⟩ yX6_write wsX6_write) := goodIn_app (goodIn_of _ (by decide +kernel)) ggX8_encode_X6_write
theorem dX8_encode_0 : decode cX8_encode 0 = .ok (.iload_n 1, 1) := by decide +kernel
theorem dX8_encode_1 : decode cX8_encode 1 = .ok (.ifCond .lt 17, 3) := by decide +kernel
theorem dX8_encode_4 : decode cX8_encode 4 = .ok (.iload_n 1, 1) := by decide +kernel
theorem dX8_encode_5 : decode cX8_encode 5 = .ok (.iconst 4, 1) := by decide +kernel
theorem dX8_encode_6 : decode cX8_encode 6 = .ok (.if_icmp .ge 12, 3) := by decide +kernel
theorem dX8_encode_9 : decode cX8_encode 9 = .ok (.iload_n 2, 1) := by decide +kernel
theorem dX8_encode_10 : decode cX8_encode 10 = .ok (.ifCond .lt 8, 3) := by decide +kernel
theorem dX8_encode_13 : decode cX8_encode 13 = .ok (.iload_n 2, 1) := by decide +kernel
theorem dX8_encode_14 : decode cX8_encode 14 = .ok (.iconst 1, 1) := by decide +kernel
theorem dX8_encode_15 : decode cX8_encode 15 = .ok (.if_icmp .le 5, 3) := by decide +kernel
theorem dX8_encode_18 : decode cX8_encode 18 = .ok (.iconst (-1), 1) := by decide +kernel
theorem dX8_encode_19 : decode cX8_encode 19 = .ok (.ireturn, 1) := by decide +kernel
theorem dX8_encode_20 : decode cX8_encode 20 = .ok (.aload_n 0, 1) := by decide +kernel
theorem dX8_encode_21 : decode cX8_encode 21 = .ok (.getfield 37, 3) := by decide +kernel
theorem dX8_encode_24 : decode cX8_encode 24 = .ok (.iload_n 1, 1) := by decide +kernel
theorem dX8_encode_25 : decode cX8_encode 25 = .ok (.aaload, 1) := by decide +kernel
theorem dX8_encode_26 : decode cX8_encode 26 = .ok (.aload_n 0, 1) := by decide +kernel
theorem dX8_encode_27 : decode cX8_encode 27 = .ok (.getfield 10, 3) := by decide +kernel
theorem dX8_encode_30 : decode cX8_encode 30 = .ok (.invokevirtual 119, 3) := by decide +kernel
theorem dX8_encode_33 : decode cX8_encode 33 = .ok (.ifCond .ne 5, 3) := by decide +kernel
theorem dX8_encode_36 : decode cX8_encode 36 = .ok (.iconst (-1), 1) := by decide +kernel
theorem dX8_encode_37 : decode cX8_encode 37 = .ok (.ireturn, 1) := by decide +kernel
theorem dX8_encode_38 : decode cX8_encode 38 = .ok (.aload_n 0, 1) := by decide +kernel
theorem dX8_encode_39 : decode cX8_encode 39 = .ok (.getfield 22, 3) := by decide +kernel
theorem dX8_encode_42 : decode cX8_encode 42 = .ok (.iconst 0, 1) := by decide +kernel
theorem dX8_encode_43 : decode cX8_encode 43 = .ok (.putfield 105, 3) := by decide +kernel
theorem dX8_encode_46 : decode cX8_encode 46 = .ok (.aload_n 0, 1) := by decide +kernel
theorem dX8_encode_47 : decode cX8_encode 47 = .ok (.getfield 37, 3) := by decide +kernel
theorem dX8_encode_50 : decode cX8_encode 50 = .ok (.iload_n 1, 1) := by decide +kernel
theorem dX8_encode_51 : decode cX8_encode 51 = .ok (.aaload, 1) := by decide +kernel
theorem dX8_encode_52 : decode cX8_encode 52 = .ok (.aload_n 0, 1) := by decide +kernel
theorem dX8_encode_53 : decode cX8_encode 53 = .ok (.getfield 10, 3) := by decide +kernel
theorem dX8_encode_56 : decode cX8_encode 56 = .ok (.iload_n 2, 1) := by decide +kernel
theorem dX8_encode_57 : decode cX8_encode 57 = .ok (.aload_n 0, 1) := by decide +kernel
theorem dX8_encode_58 : decode cX8_encode 58 = .ok (.getfield 22, 3) := by decide +kernel
theorem dX8_encode_61 : decode cX8_encode 61 = .ok (.invokevirtual 123, 3) := by decide +kernel
theorem dX8_encode_64 : decode cX8_encode 64 = .ok (.aload_n 0, 1) := by decide +kernel
theorem dX8_encode_65 : decode cX8_encode 65 = .ok (.getfield 22, 3) := by decide +kernel
theorem dX8_encode_68 : decode cX8_encode 68 = .ok (.getfield 105, 3) := by decide +kernel
theorem dX8_encode_71 : decode cX8_encode 71 = .ok (.ireturn, 1) := by decide +kernel
set_option maxRecDepth 20000 in
theorem ggX8_decode_X8_sniff : GoodIn wsX8_decode wsX8_sniff := goodIn_r _ [11, 4, 12, 13, 14, 15, 16, 17, 18, 19, 20, 21, 22, 23, 24, 25, 26, 27, 28, 29, 30, 31, 32, 33, 34, 35, 36, 37, 38, 39, 40, 283, 284, 285, 286, 287, 290, 291] (by decide +kernel) (by decide +kernel)
set_option maxRecDepth 20000 in
theorem gX8_decode_X8_sniff : GoodIn wsX8_decode (wsV RX8 127 RX8 yX8_sniff wsX8_sniff) := goodIn_app (goodIn_of _ (by decide +kernel)) ggX8_decode_X8_sniff
set_option maxRecDepth 20000 in
theorem ggX8_decode_X0_read : GoodIn wsX8_decode wsX0_read := goodIn_ca (goodIn_ca (goodIn_r _ [45, 46, 47, 48, 49, 50, 51, 52, 53, 54, 55, 56, 57, 58, 59, 60, 61, 62, 63, 64, 65, 66, 67, 68, 17, 69, 70, 71, 72, 73, 74, 75, 76, 77, 78, 79, 80, 81, 82, 10, 83, 84, 85, 86, 87, 88, 89, 90, 91, 92, 93, 94, 95, 96, 97, 98, 99, 100, 101, 102, 103, 104, 105, 106, 107, 108, 109, 110, 111, 112, 113, 114, 115, 116, 117, 118, 119, 120, 121, 122, 123, 124, 125, 126, 127, 128, 129, 130, 131, 132, 133, 134, 135, 136, 137, 138, 139, 140, 141, 142, 143, 144, 145, 292, 293, 294, 295, 296, 297, 298, 288, 289, 290, 291, 299, 300, 301] (by decide +kernel) (by decide +kernel)) (goodIn_sub (fun _ h => List.mem_cons_of_mem _ (List.mem_append_left _ (List.mem_append_right _ h))) (by decide +kernel))) (goodIn_sub (fun _ h => List.mem_cons_of_mem _ (List.mem_append_right _ h)) (by decide +kernel))
set_option maxRecDepth 20000 in
theorem gX8_decode_X0_read_u134X0 : GoodIn wsX8_decode (va_wsU RX8 134 RX0 "FourPictureFiles$Format" ⟨"FourPictureFiles$Format", "read", "(LFourPictureFiles$Source;LFourPictureFiles$Picture;)V"⟩ yX0_read wsX0_read) := goodIn_app (goodIn_of _ (by decide +kernel)) ggX8_decode_X0_read
set_option maxRecDepth 20000 in
theorem ggX8_decode_X1_read : GoodIn wsX8_decode wsX1_read := goodIn_ca (goodIn_ca (goodIn_r _ [148, 149, 50, 51, 52, 53, 54, 55, 56, 57, 58, 59, 60, 61, 150, 151, 152, 153, 154, 79, 80, 81, 82, 10, 83, 84, 73, 74, 75, 76, 77, 155, 156, 157, 86, 87, 88, 89, 90, 91, 92, 93, 94, 95, 96, 97, 98, 99, 100, 158, 159, 160, 28, 161, 162, 163, 164, 165, 166, 167, 168, 169, 170, 171, 105, 106, 172, 173, 174, 175, 176, 177, 178, 179, 180, 181, 182, 183, 184, 185, 186, 187, 188, 189, 190, 191, 192, 193, 194, 195, 196, 197, 198, 199, 200, 201, 202, 288, 289, 290, 291, 299, 300, 301, 302, 303] (by decide +kernel) (by decide +kernel)) (goodIn_sub (fun _ h => List.mem_cons_of_mem _ (List.mem_append_left _ (List.mem_append_right _ h))) (by decide +kernel))) (goodIn_sub (fun _ h => List.mem_cons_of_mem _ (List.mem_append_right _ h)) (by decide +kernel))
set_option maxRecDepth 20000 in
theorem gX8_decode_X1_read_u134X1 : GoodIn wsX8_decode (va_wsU RX8 134 RX1 "FourPictureFiles$Format" ⟨"FourPictureFiles$Format", "read", "(LFourPictureFiles$Source;LFourPictureFiles$Picture;)V"⟩ yX1_read wsX1_read) := goodIn_app (goodIn_of _ (by decide +kernel)) ggX8_decode_X1_read
set_option maxRecDepth 20000 in
theorem ggX8_decode_X4_read : GoodIn wsX8_decode wsX4_read := goodIn_ca (goodIn_ca (goodIn_r _ [205, 206, 207, 208, 209, 55, 56, 52, 57, 58, 59, 60, 61, 210, 50, 51, 53, 54, 211, 63, 64, 65, 212, 79, 80, 81, 82, 10, 83, 84, 73, 74, 75, 76, 77, 213, 214, 215, 33, 216, 217, 218, 86, 87, 88, 89, 90, 91, 92, 93, 94, 95, 96, 97, 98, 99, 100, 219, 173, 174, 175, 220, 221, 222, 223, 224, 225, 226, 227, 228, 229, 230, 231, 232, 233, 234, 235, 236, 169, 170, 171, 105, 106, 237, 102, 103, 104, 238, 136, 137, 138, 304, 305, 306, 307, 288, 289, 290, 291, 299, 300, 301] (by decide +kernel) (by decide +kernel)) (goodIn_sub (fun _ h => List.mem_cons_of_mem _ (List.mem_append_left _ (List.mem_append_right _ h))) (by decide +kernel))) (goodIn_sub (fun _ h => List.mem_cons_of_mem _ (List.mem_append_right _ h)) (by decide +kernel))
set_option maxRecDepth 20000 in
theorem gX8_decode_X4_read_u134X4 : GoodIn wsX8_decode (va_wsU RX8 134 RX4 "FourPictureFiles$Format" ⟨"FourPictureFiles$Format", "read", "(LFourPictureFiles$Source;LFourPictureFiles$Picture;)V"⟩ yX4_read wsX4_read) := goodIn_app (goodIn_of _ (by decide +kernel)) ggX8_decode_X4_read
set_option maxRecDepth 20000 in
theorem ggX8_decode_X6_read : GoodIn wsX8_decode wsX6_read := goodIn_ca (goodIn_ca (goodIn_r _ [241, 242, 243, 244, 50, 51, 52, 53, 54, 55, 56, 57, 58, 59, 60, 61, 245, 246, 247, 38, 248, 249, 250, 251, 252, 253, 254, 255, 256, 257, 258, 259, 260, 261, 262, 73, 74, 75, 76, 77, 263, 79, 80, 81, 82, 10, 83, 84, 264, 86, 87, 88, 89, 90, 91, 92, 93, 94, 95, 96, 97, 98, 99, 100, 265, 266, 267, 268, 269, 173, 174, 175, 270, 271, 272, 273, 169, 170, 171, 105, 106, 274, 200, 201, 202, 308, 309, 288, 289, 290, 291, 299, 300, 301] (by decide +kernel) (by decide +kernel)) (goodIn_sub (fun _ h => List.mem_cons_of_mem _ (List.mem_append_left _ (List.mem_append_right _ h))) (by decide +kernel))) (goodIn_sub (fun _ h => List.mem_cons_of_mem _ (List.mem_append_right _ h)) (by decide +kernel))
set_option maxRecDepth 20000 in
theorem gX8_decode_X6_read_u134X6 : GoodIn wsX8_decode (va_wsU RX8 134 RX6 "FourPictureFiles$Format" ⟨"FourPictureFiles$Format", "read", "(LFourPictureFiles$Source;LFourPictureFiles$Picture;)V"⟩ yX6_read wsX6_read) := goodIn_app (goodIn_of _ (by decide +kernel)) ggX8_decode_X6_read
set_option maxRecDepth 20000 in
theorem ggX8_decode_X5_become : GoodIn wsX8_decode wsX5_become := goodIn_r _ [278, 90, 91, 96, 279, 280, 281, 282, 299, 300, 301] (by decide +kernel) (by decide +kernel)
set_option maxRecDepth 20000 in
theorem gX8_decode_X5_become : GoodIn wsX8_decode (wsV RX8 90 RX5 yX5_become wsX5_become) := goodIn_app (goodIn_of _ (by decide +kernel)) ggX8_decode_X5_become
theorem dX8_decode_0 : decode cX8_decode 0 = .ok (.aload_n 0, 1) := by decide +kernel
theorem dX8_decode_1 : decode cX8_decode 1 = .ok (.invokevirtual 127, 3) := by decide +kernel
theorem dX8_decode_4 : decode cX8_decode 4 = .ok (.istore_n 1, 1) := by decide +kernel
theorem dX8_decode_5 : decode cX8_decode 5 = .ok (.iload_n 1, 1) := by decide +kernel
theorem dX8_decode_6 : decode cX8_decode 6 = .ok (.iconst (-1), 1) := by decide +kernel
theorem dX8_decode_7 : decode cX8_decode 7 = .ok (.if_icmp .ne 5, 3) := by decide +kernel
theorem dX8_decode_10 : decode cX8_decode 10 = .ok (.iconst (-1), 1) := by decide +kernel
theorem dX8_decode_11 : decode cX8_decode 11 = .ok (.ireturn, 1) := by decide +kernel
theorem dX8_decode_12 : decode cX8_decode 12 = .ok (.aload_n 0, 1) := by decide +kernel
theorem dX8_decode_13 : decode cX8_decode 13 = .ok (.getfield 31, 3) := by decide +kernel
theorem dX8_decode_16 : decode cX8_decode 16 = .ok (.iconst 0, 1) := by decide +kernel
theorem dX8_decode_17 : decode cX8_decode 17 = .ok (.putfield 131, 3) := by decide +kernel
theorem dX8_decode_20 : decode cX8_decode 20 = .ok (.aload_n 0, 1) := by decide +kernel
theorem dX8_decode_21 : decode cX8_decode 21 = .ok (.getfield 37, 3) := by decide +kernel
theorem dX8_decode_24 : decode cX8_decode 24 = .ok (.iload_n 1, 1) := by decide +kernel
theorem dX8_decode_25 : decode cX8_decode 25 = .ok (.aaload, 1) := by decide +kernel
theorem dX8_decode_26 : decode cX8_decode 26 = .ok (.aload_n 0, 1) := by decide +kernel
theorem dX8_decode_27 : decode cX8_decode 27 = .ok (.getfield 31, 3) := by decide +kernel
theorem dX8_decode_30 : decode cX8_decode 30 = .ok (.aload_n 0, 1) := by decide +kernel
theorem dX8_decode_31 : decode cX8_decode 31 = .ok (.getfield 16, 3) := by decide +kernel
theorem dX8_decode_34 : decode cX8_decode 34 = .ok (.invokevirtual 134, 3) := by decide +kernel
theorem dX8_decode_37 : decode cX8_decode 37 = .ok (.goto 11, 3) := by decide +kernel
theorem dX8_decode_40 : decode cX8_decode 40 = .ok (.astore_n 2, 1) := by decide +kernel
theorem dX8_decode_41 : decode cX8_decode 41 = .ok (.bipush (-2), 2) := by decide +kernel
theorem dX8_decode_43 : decode cX8_decode 43 = .ok (.ireturn, 1) := by decide +kernel
theorem dX8_decode_44 : decode cX8_decode 44 = .ok (.astore_n 2, 1) := by decide +kernel
theorem dX8_decode_45 : decode cX8_decode 45 = .ok (.bipush (-3), 2) := by decide +kernel
theorem dX8_decode_47 : decode cX8_decode 47 = .ok (.ireturn, 1) := by decide +kernel
theorem dX8_decode_48 : decode cX8_decode 48 = .ok (.aload_n 0, 1) := by decide +kernel
theorem dX8_decode_49 : decode cX8_decode 49 = .ok (.getfield 10, 3) := by decide +kernel
theorem dX8_decode_52 : decode cX8_decode 52 = .ok (.aload_n 0, 1) := by decide +kernel
theorem dX8_decode_53 : decode cX8_decode 53 = .ok (.getfield 16, 3) := by decide +kernel
theorem dX8_decode_56 : decode cX8_decode 56 = .ok (.invokevirtual 90, 3) := by decide +kernel
theorem dX8_decode_59 : decode cX8_decode 59 = .ok (.iload_n 1, 1) := by decide +kernel
theorem dX8_decode_60 : decode cX8_decode 60 = .ok (.ireturn, 1) := by decide +kernel
theorem dX8_isSide_0 : decode cX8_isSide 0 = .ok (.iload_n 0, 1) := by decide +kernel
theorem dX8_isSide_1 : decode cX8_isSide 1 = .ok (.iconst 1, 1) := by decide +kernel
theorem dX8_isSide_2 : decode cX8_isSide 2 = .ok (.if_icmp .lt 13, 3) := by decide +kernel
theorem dX8_isSide_5 : decode cX8_isSide 5 = .ok (.iload_n 0, 1) := by decide +kernel
theorem dX8_isSide_6 : decode cX8_isSide 6 = .ok (.bipush 8, 2) := by decide +kernel
theorem dX8_isSide_8 : decode cX8_isSide 8 = .ok (.if_icmp .gt 7, 3) := by decide +kernel
theorem dX8_isSide_11 : decode cX8_isSide 11 = .ok (.iconst 1, 1) := by decide +kernel
theorem dX8_isSide_12 : decode cX8_isSide 12 = .ok (.goto 4, 3) := by decide +kernel
theorem dX8_isSide_15 : decode cX8_isSide 15 = .ok (.iconst 0, 1) := by decide +kernel
theorem dX8_isSide_16 : decode cX8_isSide 16 = .ok (.ireturn, 1) := by decide +kernel
theorem dX8_isByte_0 : decode cX8_isByte 0 = .ok (.iload_n 0, 1) := by decide +kernel
theorem dX8_isByte_1 : decode cX8_isByte 1 = .ok (.ifCond .lt 14, 3) := by decide +kernel
theorem dX8_isByte_4 : decode cX8_isByte 4 = .ok (.iload_n 0, 1) := by decide +kernel
theorem dX8_isByte_5 : decode cX8_isByte 5 = .ok (.sipush 255, 3) := by decide +kernel
theorem dX8_isByte_8 : decode cX8_isByte 8 = .ok (.if_icmp .gt 7, 3) := by decide +kernel
theorem dX8_isByte_11 : decode cX8_isByte 11 = .ok (.iconst 1, 1) := by decide +kernel
theorem dX8_isByte_12 : decode cX8_isByte 12 = .ok (.goto 4, 3) := by decide +kernel
theorem dX8_isByte_15 : decode cX8_isByte 15 = .ok (.iconst 0, 1) := by decide +kernel
theorem dX8_isByte_16 : decode cX8_isByte 16 = .ok (.ireturn, 1) := by decide +kernel
theorem dX8_red_0 : decode cX8_red 0 = .ok (.iload_n 0, 1) := by decide +kernel
theorem dX8_red_1 : decode cX8_red 1 = .ok (.bipush 24, 2) := by decide +kernel
theorem dX8_red_3 : decode cX8_red 3 = .ok (.iushr, 1) := by decide +kernel
theorem dX8_red_4 : decode cX8_red 4 = .ok (.ireturn, 1) := by decide +kernel
theorem dX8_green_0 : decode cX8_green 0 = .ok (.iload_n 0, 1) := by decide +kernel
theorem dX8_green_1 : decode cX8_green 1 = .ok (.bipush 16, 2) := by decide +kernel
theorem dX8_green_3 : decode cX8_green 3 = .ok (.iushr, 1) := by decide +kernel
theorem dX8_green_4 : decode cX8_green 4 = .ok (.sipush 255, 3) := by decide +kernel
theorem dX8_green_7 : decode cX8_green 7 = .ok (.iand, 1) := by decide +kernel
theorem dX8_green_8 : decode cX8_green 8 = .ok (.ireturn, 1) := by decide +kernel
theorem dX8_blue_0 : decode cX8_blue 0 = .ok (.iload_n 0, 1) := by decide +kernel
theorem dX8_blue_1 : decode cX8_blue 1 = .ok (.bipush 8, 2) := by decide +kernel
theorem dX8_blue_3 : decode cX8_blue 3 = .ok (.iushr, 1) := by decide +kernel
theorem dX8_blue_4 : decode cX8_blue 4 = .ok (.sipush 255, 3) := by decide +kernel
theorem dX8_blue_7 : decode cX8_blue 7 = .ok (.iand, 1) := by decide +kernel
theorem dX8_blue_8 : decode cX8_blue 8 = .ok (.ireturn, 1) := by decide +kernel
theorem dX8_alpha_0 : decode cX8_alpha 0 = .ok (.iload_n 0, 1) := by decide +kernel
theorem dX8_alpha_1 : decode cX8_alpha 1 = .ok (.sipush 255, 3) := by decide +kernel
theorem dX8_alpha_4 : decode cX8_alpha 4 = .ok (.iand, 1) := by decide +kernel
theorem dX8_alpha_5 : decode cX8_alpha 5 = .ok (.ireturn, 1) := by decide +kernel
theorem dX8_colour_0 : decode cX8_colour 0 = .ok (.iload_n 0, 1) := by decide +kernel
theorem dX8_colour_1 : decode cX8_colour 1 = .ok (.bipush 24, 2) := by decide +kernel
theorem dX8_colour_3 : decode cX8_colour 3 = .ok (.ishl, 1) := by decide +kernel
theorem dX8_colour_4 : decode cX8_colour 4 = .ok (.iload_n 1, 1) := by decide +kernel
theorem dX8_colour_5 : decode cX8_colour 5 = .ok (.bipush 16, 2) := by decide +kernel
theorem dX8_colour_7 : decode cX8_colour 7 = .ok (.ishl, 1) := by decide +kernel
theorem dX8_colour_8 : decode cX8_colour 8 = .ok (.ior, 1) := by decide +kernel
theorem dX8_colour_9 : decode cX8_colour 9 = .ok (.iload_n 2, 1) := by decide +kernel
theorem dX8_colour_10 : decode cX8_colour 10 = .ok (.bipush 8, 2) := by decide +kernel
theorem dX8_colour_12 : decode cX8_colour 12 = .ok (.ishl, 1) := by decide +kernel
theorem dX8_colour_13 : decode cX8_colour 13 = .ok (.ior, 1) := by decide +kernel
theorem dX8_colour_14 : decode cX8_colour 14 = .ok (.iload_n 3, 1) := by decide +kernel
theorem dX8_colour_15 : decode cX8_colour 15 = .ok (.ior, 1) := by decide +kernel
theorem dX8_colour_16 : decode cX8_colour 16 = .ok (.ireturn, 1) := by decide +kernel
set_option maxRecDepth 20000 in
theorem ggX8_opaque_X8_colour : GoodIn wsX8_opaque wsX8_colour := goodIn_r _ [4] (by decide +kernel) (by decide +kernel)
set_option maxRecDepth 20000 in
theorem gX8_opaque_X8_colour : GoodIn wsX8_opaque (va_wsS RX8 142 yX8_colour wsX8_colour) := goodIn_app (goodIn_of _ (by decide +kernel)) ggX8_opaque_X8_colour
theorem dX8_opaque_0 : decode cX8_opaque 0 = .ok (.iload_n 0, 1) := by decide +kernel
theorem dX8_opaque_1 : decode cX8_opaque 1 = .ok (.iload_n 1, 1) := by decide +kernel
theorem dX8_opaque_2 : decode cX8_opaque 2 = .ok (.iload_n 2, 1) := by decide +kernel
theorem dX8_opaque_3 : decode cX8_opaque 3 = .ok (.sipush 255, 3) := by decide +kernel
theorem dX8_opaque_6 : decode cX8_opaque 6 = .ok (.invokestatic 142, 3) := by decide +kernel
theorem dX8_opaque_9 : decode cX8_opaque 9 = .ok (.ireturn, 1) := by decide +kernel
theorem dX9_init_0 : decode cX9_init 0 = .ok (.aload_n 0, 1) := by decide +kernel
theorem dX9_init_1 : decode cX9_init 1 = .ok (.invokespecial 1, 3) := by decide +kernel
theorem dX9_init_4 : decode cX9_init 4 = .ok (.aload_n 0, 1) := by decide +kernel
theorem dX9_init_5 : decode cX9_init 5 = .ok (.iconst 1, 1) := by decide +kernel
theorem dX9_init_6 : decode cX9_init 6 = .ok (.putfield 7, 3) := by decide +kernel
theorem dX9_init_9 : decode cX9_init 9 = .ok (.aload_n 0, 1) := by decide +kernel
theorem dX9_init_10 : decode cX9_init 10 = .ok (.iconst 1, 1) := by decide +kernel
theorem dX9_init_11 : decode cX9_init 11 = .ok (.putfield 13, 3) := by decide +kernel
theorem dX9_init_14 : decode cX9_init 14 = .ok (.aload_n 0, 1) := by decide +kernel
theorem dX9_init_15 : decode cX9_init 15 = .ok (.sipush 256, 3) := by decide +kernel
theorem dX9_init_18 : decode cX9_init 18 = .ok (.newarray .int, 2) := by decide +kernel
theorem dX9_init_20 : decode cX9_init 20 = .ok (.putfield 16, 3) := by decide +kernel
theorem dX9_init_23 : decode cX9_init 23 = .ok (.aload_n 0, 1) := by decide +kernel
theorem dX9_init_24 : decode cX9_init 24 = .ok (.sipush 800, 3) := by decide +kernel
theorem dX9_init_27 : decode cX9_init 27 = .ok (.newarray .int, 2) := by decide +kernel
theorem dX9_init_29 : decode cX9_init 29 = .ok (.putfield 20, 3) := by decide +kernel
theorem dX9_init_32 : decode cX9_init 32 = .ok (.aload_n 0, 1) := by decide +kernel
theorem dX9_init_33 : decode cX9_init 33 = .ok (.sipush 256, 3) := by decide +kernel
theorem dX9_init_36 : decode cX9_init 36 = .ok (.newarray .int, 2) := by decide +kernel
theorem dX9_init_38 : decode cX9_init 38 = .ok (.putfield 23, 3) := by decide +kernel
theorem dX9_init_41 : decode cX9_init 41 = .ok (.aload_n 0, 1) := by decide +kernel
theorem dX9_init_42 : decode cX9_init 42 = .ok (.sipush 256, 3) := by decide +kernel
theorem dX9_init_45 : decode cX9_init 45 = .ok (.newarray .int, 2) := by decide +kernel
theorem dX9_init_47 : decode cX9_init 47 = .ok (.putfield 26, 3) := by decide +kernel
theorem dX9_init_50 : decode cX9_init 50 = .ok (.aload_n 0, 1) := by decide +kernel
theorem dX9_init_51 : decode cX9_init 51 = .ok (.sipush 256, 3) := by decide +kernel
theorem dX9_init_54 : decode cX9_init 54 = .ok (.newarray .int, 2) := by decide +kernel
theorem dX9_init_56 : decode cX9_init 56 = .ok (.putfield 29, 3) := by decide +kernel
theorem dX9_init_59 : decode cX9_init 59 = .ok (.aload_n 0, 1) := by decide +kernel
theorem dX9_init_60 : decode cX9_init 60 = .ok (.iconst 4, 1) := by decide +kernel
theorem dX9_init_61 : decode cX9_init 61 = .ok (.newarray .int, 2) := by decide +kernel
theorem dX9_init_63 : decode cX9_init 63 = .ok (.putfield 32, 3) := by decide +kernel
theorem dX9_init_66 : decode cX9_init 66 = .ok (.aload_n 0, 1) := by decide +kernel
theorem dX9_init_67 : decode cX9_init 67 = .ok (.iconst 4, 1) := by decide +kernel
theorem dX9_init_68 : decode cX9_init 68 = .ok (.newarray .int, 2) := by decide +kernel
theorem dX9_init_70 : decode cX9_init 70 = .ok (.putfield 35, 3) := by decide +kernel
theorem dX9_init_73 : decode cX9_init 73 = .ok (.aload_n 0, 1) := by decide +kernel
theorem dX9_init_74 : decode cX9_init 74 = .ok (.getfield 16, 3) := by decide +kernel
theorem dX9_init_77 : decode cX9_init 77 = .ok (.iconst 3, 1) := by decide +kernel
theorem dX9_init_78 : decode cX9_init 78 = .ok (.sipush 255, 3) := by decide +kernel
theorem dX9_init_81 : decode cX9_init 81 = .ok (.iastore, 1) := by decide +kernel
theorem dX9_init_82 : decode cX9_init 82 = .ok (.return_, 1) := by decide +kernel
theorem dX9_inside_0 : decode cX9_inside 0 = .ok (.iload_n 1, 1) := by decide +kernel
theorem dX9_inside_1 : decode cX9_inside 1 = .ok (.ifCond .lt 27, 3) := by decide +kernel
theorem dX9_inside_4 : decode cX9_inside 4 = .ok (.iload_n 1, 1) := by decide +kernel
theorem dX9_inside_5 : decode cX9_inside 5 = .ok (.aload_n 0, 1) := by decide +kernel
theorem dX9_inside_6 : decode cX9_inside 6 = .ok (.getfield 7, 3) := by decide +kernel
theorem dX9_inside_9 : decode cX9_inside 9 = .ok (.if_icmp .ge 19, 3) := by decide +kernel
theorem dX9_inside_12 : decode cX9_inside 12 = .ok (.iload_n 2, 1) := by decide +kernel
theorem dX9_inside_13 : decode cX9_inside 13 = .ok (.ifCond .lt 15, 3) := by decide +kernel
theorem dX9_inside_16 : decode cX9_inside 16 = .ok (.iload_n 2, 1) := by decide +kernel
theorem dX9_inside_17 : decode cX9_inside 17 = .ok (.aload_n 0, 1) := by decide +kernel
theorem dX9_inside_18 : decode cX9_inside 18 = .ok (.getfield 13, 3) := by decide +kernel
theorem dX9_inside_21 : decode cX9_inside 21 = .ok (.if_icmp .ge 7, 3) := by decide +kernel
theorem dX9_inside_24 : decode cX9_inside 24 = .ok (.iconst 1, 1) := by decide +kernel
theorem dX9_inside_25 : decode cX9_inside 25 = .ok (.goto 4, 3) := by decide +kernel
theorem dX9_inside_28 : decode cX9_inside 28 = .ok (.iconst 0, 1) := by decide +kernel
theorem dX9_inside_29 : decode cX9_inside 29 = .ok (.ireturn, 1) := by decide +kernel
theorem dX9_side_0 : decode cX9_side 0 = .ok (.iload_n 0, 1) := by decide +kernel
theorem dX9_side_1 : decode cX9_side 1 = .ok (.iconst 1, 1) := by decide +kernel
theorem dX9_side_2 : decode cX9_side 2 = .ok (.if_icmp .lt 13, 3) := by decide +kernel
theorem dX9_side_5 : decode cX9_side 5 = .ok (.iload_n 0, 1) := by decide +kernel
theorem dX9_side_6 : decode cX9_side 6 = .ok (.bipush 8, 2) := by decide +kernel
theorem dX9_side_8 : decode cX9_side 8 = .ok (.if_icmp .gt 7, 3) := by decide +kernel
theorem dX9_side_11 : decode cX9_side 11 = .ok (.iconst 1, 1) := by decide +kernel
theorem dX9_side_12 : decode cX9_side 12 = .ok (.goto 4, 3) := by decide +kernel
theorem dX9_side_15 : decode cX9_side 15 = .ok (.iconst 0, 1) := by decide +kernel
theorem dX9_side_16 : decode cX9_side 16 = .ok (.ireturn, 1) := by decide +kernel
set_option maxRecDepth 20000 in
theorem ggX9_make_X9_side : GoodIn wsX9_make wsX9_side := goodIn_r _ [7] (by decide +kernel) (by decide +kernel)
set_option maxRecDepth 20000 in
theorem gX9_make_X9_side : GoodIn wsX9_make (va_wsS RX9 38 yX9_side wsX9_side) := goodIn_app (goodIn_of _ (by decide +kernel)) ggX9_make_X9_side
theorem dX9_make_0 : decode cX9_make 0 = .ok (.iload_n 1, 1) := by decide +kernel
theorem dX9_make_1 : decode cX9_make 1 = .ok (.invokestatic 38, 3) := by decide +kernel
theorem dX9_make_4 : decode cX9_make 4 = .ok (.ifCond .eq 10, 3) := by decide +kernel
theorem dX9_make_7 : decode cX9_make 7 = .ok (.iload_n 2, 1) := by decide +kernel
theorem dX9_make_8 : decode cX9_make 8 = .ok (.invokestatic 38, 3) := by decide +kernel
theorem dX9_make_11 : decode cX9_make 11 = .ok (.ifCond .ne 5, 3) := by decide +kernel
theorem dX9_make_14 : decode cX9_make 14 = .ok (.iconst 0, 1) := by decide +kernel
theorem dX9_make_15 : decode cX9_make 15 = .ok (.ireturn, 1) := by decide +kernel
theorem dX9_make_16 : decode cX9_make 16 = .ok (.aload_n 0, 1) := by decide +kernel
theorem dX9_make_17 : decode cX9_make 17 = .ok (.iload_n 1, 1) := by decide +kernel
theorem dX9_make_18 : decode cX9_make 18 = .ok (.putfield 7, 3) := by decide +kernel
theorem dX9_make_21 : decode cX9_make 21 = .ok (.aload_n 0, 1) := by decide +kernel
theorem dX9_make_22 : decode cX9_make 22 = .ok (.iload_n 2, 1) := by decide +kernel
theorem dX9_make_23 : decode cX9_make 23 = .ok (.putfield 13, 3) := by decide +kernel
theorem dX9_make_26 : decode cX9_make 26 = .ok (.iconst 0, 1) := by decide +kernel
theorem dX9_make_27 : decode cX9_make 27 = .ok (.istore_n 3, 1) := by decide +kernel
theorem dX9_make_28 : decode cX9_make 28 = .ok (.iload_n 3, 1) := by decide +kernel
theorem dX9_make_29 : decode cX9_make 29 = .ok (.sipush 256, 3) := by decide +kernel
theorem dX9_make_32 : decode cX9_make 32 = .ok (.if_icmp .ge 29, 3) := by decide +kernel
theorem dX9_make_35 : decode cX9_make 35 = .ok (.aload_n 0, 1) := by decide +kernel
theorem dX9_make_36 : decode cX9_make 36 = .ok (.getfield 16, 3) := by decide +kernel
theorem dX9_make_39 : decode cX9_make 39 = .ok (.iload_n 3, 1) := by decide +kernel
theorem dX9_make_40 : decode cX9_make 40 = .ok (.iload_n 3, 1) := by decide +kernel
theorem dX9_make_41 : decode cX9_make 41 = .ok (.iconst 4, 1) := by decide +kernel
theorem dX9_make_42 : decode cX9_make 42 = .ok (.irem, 1) := by decide +kernel
theorem dX9_make_43 : decode cX9_make 43 = .ok (.iconst 3, 1) := by decide +kernel
theorem dX9_make_44 : decode cX9_make 44 = .ok (.if_icmp .ne 9, 3) := by decide +kernel
theorem dX9_make_47 : decode cX9_make 47 = .ok (.sipush 255, 3) := by decide +kernel
theorem dX9_make_50 : decode cX9_make 50 = .ok (.goto 4, 3) := by decide +kernel
theorem dX9_make_53 : decode cX9_make 53 = .ok (.iconst 0, 1) := by decide +kernel
theorem dX9_make_54 : decode cX9_make 54 = .ok (.iastore, 1) := by decide +kernel
theorem dX9_make_55 : decode cX9_make 55 = .ok (.iinc 3 1, 3) := by decide +kernel
theorem dX9_make_58 : decode cX9_make 58 = .ok (.goto (-30), 3) := by decide +kernel
theorem dX9_make_61 : decode cX9_make 61 = .ok (.iconst 1, 1) := by decide +kernel
theorem dX9_make_62 : decode cX9_make 62 = .ok (.ireturn, 1) := by decide +kernel
set_option maxRecDepth 20000 in
theorem ggX9_put_X9_inside : GoodIn wsX9_put wsX9_inside := goodIn_r _ [6, 7, 8, 9, 10, 11, 12, 13, 14, 15, 16, 17, 18, 19, 20, 21, 22, 23] (by decide +kernel) (by decide +kernel)
set_option maxRecDepth 20000 in
theorem gX9_put_X9_inside : GoodIn wsX9_put (wsV RX9 42 RX9 yX9_inside wsX9_inside) := goodIn_app (goodIn_of _ (by decide +kernel)) ggX9_put_X9_inside
theorem dX9_put_0 : decode cX9_put 0 = .ok (.aload_n 0, 1) := by decide +kernel
theorem dX9_put_1 : decode cX9_put 1 = .ok (.iload_n 1, 1) := by decide +kernel
theorem dX9_put_2 : decode cX9_put 2 = .ok (.iload_n 2, 1) := by decide +kernel
theorem dX9_put_3 : decode cX9_put 3 = .ok (.invokevirtual 42, 3) := by decide +kernel
theorem dX9_put_6 : decode cX9_put 6 = .ok (.ifCond .ne 5, 3) := by decide +kernel
theorem dX9_put_9 : decode cX9_put 9 = .ok (.iconst 0, 1) := by decide +kernel
theorem dX9_put_10 : decode cX9_put 10 = .ok (.ireturn, 1) := by decide +kernel
theorem dX9_put_11 : decode cX9_put 11 = .ok (.iconst 0, 1) := by decide +kernel
theorem dX9_put_12 : decode cX9_put 12 = .ok (.istore 4, 2) := by decide +kernel
theorem dX9_put_14 : decode cX9_put 14 = .ok (.iload 4, 2) := by decide +kernel
theorem dX9_put_16 : decode cX9_put 16 = .ok (.iconst 4, 1) := by decide +kernel
theorem dX9_put_17 : decode cX9_put 17 = .ok (.if_icmp .ge 39, 3) := by decide +kernel
theorem dX9_put_20 : decode cX9_put 20 = .ok (.aload_n 0, 1) := by decide +kernel
theorem dX9_put_21 : decode cX9_put 21 = .ok (.getfield 16, 3) := by decide +kernel
theorem dX9_put_24 : decode cX9_put 24 = .ok (.iconst 4, 1) := by decide +kernel
theorem dX9_put_25 : decode cX9_put 25 = .ok (.bipush 8, 2) := by decide +kernel
theorem dX9_put_27 : decode cX9_put 27 = .ok (.iload_n 2, 1) := by decide +kernel
theorem dX9_put_28 : decode cX9_put 28 = .ok (.imul, 1) := by decide +kernel
theorem dX9_put_29 : decode cX9_put 29 = .ok (.iload_n 1, 1) := by decide +kernel
theorem dX9_put_30 : decode cX9_put 30 = .ok (.iadd, 1) := by decide +kernel
theorem dX9_put_31 : decode cX9_put 31 = .ok (.imul, 1) := by decide +kernel
theorem dX9_put_32 : decode cX9_put 32 = .ok (.iload 4, 2) := by decide +kernel
theorem dX9_put_34 : decode cX9_put 34 = .ok (.iadd, 1) := by decide +kernel
theorem dX9_put_35 : decode cX9_put 35 = .ok (.iload_n 3, 1) := by decide +kernel
theorem dX9_put_36 : decode cX9_put 36 = .ok (.bipush 24, 2) := by decide +kernel
theorem dX9_put_38 : decode cX9_put 38 = .ok (.bipush 8, 2) := by decide +kernel
theorem dX9_put_40 : decode cX9_put 40 = .ok (.iload 4, 2) := by decide +kernel
theorem dX9_put_42 : decode cX9_put 42 = .ok (.imul, 1) := by decide +kernel
theorem dX9_put_43 : decode cX9_put 43 = .ok (.isub, 1) := by decide +kernel
theorem dX9_put_44 : decode cX9_put 44 = .ok (.iushr, 1) := by decide +kernel
theorem dX9_put_45 : decode cX9_put 45 = .ok (.sipush 255, 3) := by decide +kernel
theorem dX9_put_48 : decode cX9_put 48 = .ok (.iand, 1) := by decide +kernel
theorem dX9_put_49 : decode cX9_put 49 = .ok (.iastore, 1) := by decide +kernel
theorem dX9_put_50 : decode cX9_put 50 = .ok (.iinc 4 1, 3) := by decide +kernel
theorem dX9_put_53 : decode cX9_put 53 = .ok (.goto (-39), 3) := by decide +kernel
theorem dX9_put_56 : decode cX9_put 56 = .ok (.iconst 1, 1) := by decide +kernel
theorem dX9_put_57 : decode cX9_put 57 = .ok (.ireturn, 1) := by decide +kernel
set_option maxRecDepth 20000 in
theorem ggX9_pixel_X9_inside : GoodIn wsX9_pixel wsX9_inside := goodIn_r _ [6, 7, 8, 9, 10, 11, 12, 13, 14, 15, 16, 17, 18, 19, 20, 21, 22, 23] (by decide +kernel) (by decide +kernel)
set_option maxRecDepth 20000 in
theorem gX9_pixel_X9_inside : GoodIn wsX9_pixel (wsV RX9 42 RX9 yX9_inside wsX9_inside) := goodIn_app (goodIn_of _ (by decide +kernel)) ggX9_pixel_X9_inside
theorem dX9_pixel_0 : decode cX9_pixel 0 = .ok (.iconst 0, 1) := by decide +kernel
theorem dX9_pixel_1 : decode cX9_pixel 1 = .ok (.istore_n 3, 1) := by decide +kernel
theorem dX9_pixel_2 : decode cX9_pixel 2 = .ok (.iconst 0, 1) := by decide +kernel
theorem dX9_pixel_3 : decode cX9_pixel 3 = .ok (.istore 4, 2) := by decide +kernel
theorem dX9_pixel_5 : decode cX9_pixel 5 = .ok (.iload 4, 2) := by decide +kernel
theorem dX9_pixel_7 : decode cX9_pixel 7 = .ok (.iconst 4, 1) := by decide +kernel
theorem dX9_pixel_8 : decode cX9_pixel 8 = .ok (.if_icmp .ge 41, 3) := by decide +kernel
theorem dX9_pixel_11 : decode cX9_pixel 11 = .ok (.aload_n 0, 1) := by decide +kernel
theorem dX9_pixel_12 : decode cX9_pixel 12 = .ok (.iload_n 1, 1) := by decide +kernel
theorem dX9_pixel_13 : decode cX9_pixel 13 = .ok (.iload_n 2, 1) := by decide +kernel
theorem dX9_pixel_14 : decode cX9_pixel 14 = .ok (.invokevirtual 42, 3) := by decide +kernel
theorem dX9_pixel_17 : decode cX9_pixel 17 = .ok (.ifCond .eq 32, 3) := by decide +kernel
theorem dX9_pixel_20 : decode cX9_pixel 20 = .ok (.sipush 256, 3) := by decide +kernel
theorem dX9_pixel_23 : decode cX9_pixel 23 = .ok (.iload_n 3, 1) := by decide +kernel
theorem dX9_pixel_24 : decode cX9_pixel 24 = .ok (.imul, 1) := by decide +kernel
theorem dX9_pixel_25 : decode cX9_pixel 25 = .ok (.aload_n 0, 1) := by decide +kernel
theorem dX9_pixel_26 : decode cX9_pixel 26 = .ok (.getfield 16, 3) := by decide +kernel
theorem dX9_pixel_29 : decode cX9_pixel 29 = .ok (.iconst 4, 1) := by decide +kernel
theorem dX9_pixel_30 : decode cX9_pixel 30 = .ok (.bipush 8, 2) := by decide +kernel
theorem dX9_pixel_32 : decode cX9_pixel 32 = .ok (.iload_n 2, 1) := by decide +kernel
theorem dX9_pixel_33 : decode cX9_pixel 33 = .ok (.imul, 1) := by decide +kernel
theorem dX9_pixel_34 : decode cX9_pixel 34 = .ok (.iload_n 1, 1) := by decide +kernel
theorem dX9_pixel_35 : decode cX9_pixel 35 = .ok (.iadd, 1) := by decide +kernel
theorem dX9_pixel_36 : decode cX9_pixel 36 = .ok (.imul, 1) := by decide +kernel
theorem dX9_pixel_37 : decode cX9_pixel 37 = .ok (.iload 4, 2) := by decide +kernel
theorem dX9_pixel_39 : decode cX9_pixel 39 = .ok (.iadd, 1) := by decide +kernel
theorem dX9_pixel_40 : decode cX9_pixel 40 = .ok (.iaload, 1) := by decide +kernel
theorem dX9_pixel_41 : decode cX9_pixel 41 = .ok (.iadd, 1) := by decide +kernel
theorem dX9_pixel_42 : decode cX9_pixel 42 = .ok (.istore_n 3, 1) := by decide +kernel
theorem dX9_pixel_43 : decode cX9_pixel 43 = .ok (.iinc 4 1, 3) := by decide +kernel
theorem dX9_pixel_46 : decode cX9_pixel 46 = .ok (.goto (-41), 3) := by decide +kernel
theorem dX9_pixel_49 : decode cX9_pixel 49 = .ok (.iload_n 3, 1) := by decide +kernel
theorem dX9_pixel_50 : decode cX9_pixel 50 = .ok (.ireturn, 1) := by decide +kernel
theorem dX9_width_0 : decode cX9_width 0 = .ok (.aload_n 0, 1) := by decide +kernel
theorem dX9_width_1 : decode cX9_width 1 = .ok (.getfield 7, 3) := by decide +kernel
theorem dX9_width_4 : decode cX9_width 4 = .ok (.ireturn, 1) := by decide +kernel
theorem dX9_height_0 : decode cX9_height 0 = .ok (.aload_n 0, 1) := by decide +kernel
theorem dX9_height_1 : decode cX9_height 1 = .ok (.getfield 13, 3) := by decide +kernel
theorem dX9_height_4 : decode cX9_height 4 = .ok (.ireturn, 1) := by decide +kernel
theorem dX9_copyBack_0 : decode cX9_copyBack 0 = .ok (.iconst 0, 1) := by decide +kernel
theorem dX9_copyBack_1 : decode cX9_copyBack 1 = .ok (.istore_n 1, 1) := by decide +kernel
theorem dX9_copyBack_2 : decode cX9_copyBack 2 = .ok (.iload_n 1, 1) := by decide +kernel
theorem dX9_copyBack_3 : decode cX9_copyBack 3 = .ok (.sipush 256, 3) := by decide +kernel
theorem dX9_copyBack_6 : decode cX9_copyBack 6 = .ok (.if_icmp .ge 21, 3) := by decide +kernel
theorem dX9_copyBack_9 : decode cX9_copyBack 9 = .ok (.aload_n 0, 1) := by decide +kernel
theorem dX9_copyBack_10 : decode cX9_copyBack 10 = .ok (.getfield 16, 3) := by decide +kernel
theorem dX9_copyBack_13 : decode cX9_copyBack 13 = .ok (.iload_n 1, 1) := by decide +kernel
theorem dX9_copyBack_14 : decode cX9_copyBack 14 = .ok (.aload_n 0, 1) := by decide +kernel
theorem dX9_copyBack_15 : decode cX9_copyBack 15 = .ok (.getfield 23, 3) := by decide +kernel
theorem dX9_copyBack_18 : decode cX9_copyBack 18 = .ok (.iload_n 1, 1) := by decide +kernel
theorem dX9_copyBack_19 : decode cX9_copyBack 19 = .ok (.iaload, 1) := by decide +kernel
theorem dX9_copyBack_20 : decode cX9_copyBack 20 = .ok (.iastore, 1) := by decide +kernel
theorem dX9_copyBack_21 : decode cX9_copyBack 21 = .ok (.iinc 1 1, 3) := by decide +kernel
theorem dX9_copyBack_24 : decode cX9_copyBack 24 = .ok (.goto (-22), 3) := by decide +kernel
theorem dX9_copyBack_27 : decode cX9_copyBack 27 = .ok (.return_, 1) := by decide +kernel
set_option maxRecDepth 20000 in
theorem ggX9_change_X9_copyBack : GoodIn wsX9_change wsX9_copyBack := goodIn_r _ [9, 3, 4, 10, 11, 12, 13, 14, 15, 16, 17, 18, 19, 20, 21, 22, 23, 24] (by decide +kernel) (by decide +kernel)
set_option maxRecDepth 20000 in
theorem gX9_change_X9_copyBack : GoodIn wsX9_change (wsV RX9 46 RX9 yX9_copyBack wsX9_copyBack) := goodIn_app (goodIn_of _ (by decide +kernel)) ggX9_change_X9_copyBack
theorem dX9_change_0 : decode cX9_change 0 = .ok (.iload_n 1, 1) := by decide +kernel
theorem dX9_change_1 : decode cX9_change 1 = .ok (.ifCond .lt 8, 3) := by decide +kernel
theorem dX9_change_4 : decode cX9_change 4 = .ok (.iload_n 1, 1) := by decide +kernel
theorem dX9_change_5 : decode cX9_change 5 = .ok (.iconst 4, 1) := by decide +kernel
theorem dX9_change_6 : decode cX9_change 6 = .ok (.if_icmp .le 5, 3) := by decide +kernel
theorem dX9_change_9 : decode cX9_change 9 = .ok (.iconst 0, 1) := by decide +kernel
theorem dX9_change_10 : decode cX9_change 10 = .ok (.ireturn, 1) := by decide +kernel
theorem dX9_change_11 : decode cX9_change 11 = .ok (.iconst 0, 1) := by decide +kernel
theorem dX9_change_12 : decode cX9_change 12 = .ok (.istore_n 2, 1) := by decide +kernel
theorem dX9_change_13 : decode cX9_change 13 = .ok (.iload_n 2, 1) := by decide +kernel
theorem dX9_change_14 : decode cX9_change 14 = .ok (.aload_n 0, 1) := by decide +kernel
theorem dX9_change_15 : decode cX9_change 15 = .ok (.getfield 13, 3) := by decide +kernel
theorem dX9_change_18 : decode cX9_change 18 = .ok (.if_icmp .ge 215, 3) := by decide +kernel
theorem dX9_change_21 : decode cX9_change 21 = .ok (.iconst 0, 1) := by decide +kernel
theorem dX9_change_22 : decode cX9_change 22 = .ok (.istore_n 3, 1) := by decide +kernel
theorem dX9_change_23 : decode cX9_change 23 = .ok (.iload_n 3, 1) := by decide +kernel
theorem dX9_change_24 : decode cX9_change 24 = .ok (.aload_n 0, 1) := by decide +kernel
theorem dX9_change_25 : decode cX9_change 25 = .ok (.getfield 7, 3) := by decide +kernel
theorem dX9_change_28 : decode cX9_change 28 = .ok (.if_icmp .ge 199, 3) := by decide +kernel
theorem dX9_change_31 : decode cX9_change 31 = .ok (.iload_n 1, 1) := by decide +kernel
theorem dX9_change_32 : decode cX9_change 32 = .ok (.ifCond .ne 19, 3) := by decide +kernel
theorem dX9_change_35 : decode cX9_change 35 = .ok (.bipush 8, 2) := by decide +kernel
theorem dX9_change_37 : decode cX9_change 37 = .ok (.iload_n 2, 1) := by decide +kernel
theorem dX9_change_38 : decode cX9_change 38 = .ok (.imul, 1) := by decide +kernel
theorem dX9_change_39 : decode cX9_change 39 = .ok (.aload_n 0, 1) := by decide +kernel
theorem dX9_change_40 : decode cX9_change 40 = .ok (.getfield 7, 3) := by decide +kernel
theorem dX9_change_43 : decode cX9_change 43 = .ok (.iadd, 1) := by decide +kernel
theorem dX9_change_44 : decode cX9_change 44 = .ok (.iconst 1, 1) := by decide +kernel
theorem dX9_change_45 : decode cX9_change 45 = .ok (.isub, 1) := by decide +kernel
theorem dX9_change_46 : decode cX9_change 46 = .ok (.iload_n 3, 1) := by decide +kernel
theorem dX9_change_47 : decode cX9_change 47 = .ok (.isub, 1) := by decide +kernel
theorem dX9_change_48 : decode cX9_change 48 = .ok (.goto 44, 3) := by decide +kernel
theorem dX9_change_51 : decode cX9_change 51 = .ok (.iload_n 1, 1) := by decide +kernel
theorem dX9_change_52 : decode cX9_change 52 = .ok (.iconst 1, 1) := by decide +kernel
theorem dX9_change_53 : decode cX9_change 53 = .ok (.if_icmp .ne 19, 3) := by decide +kernel
theorem dX9_change_56 : decode cX9_change 56 = .ok (.bipush 8, 2) := by decide +kernel
theorem dX9_change_58 : decode cX9_change 58 = .ok (.aload_n 0, 1) := by decide +kernel
theorem dX9_change_59 : decode cX9_change 59 = .ok (.getfield 13, 3) := by decide +kernel
theorem dX9_change_62 : decode cX9_change 62 = .ok (.iconst 1, 1) := by decide +kernel
theorem dX9_change_63 : decode cX9_change 63 = .ok (.isub, 1) := by decide +kernel
theorem dX9_change_64 : decode cX9_change 64 = .ok (.iload_n 2, 1) := by decide +kernel
theorem dX9_change_65 : decode cX9_change 65 = .ok (.isub, 1) := by decide +kernel
theorem dX9_change_66 : decode cX9_change 66 = .ok (.imul, 1) := by decide +kernel
theorem dX9_change_67 : decode cX9_change 67 = .ok (.iload_n 3, 1) := by decide +kernel
theorem dX9_change_68 : decode cX9_change 68 = .ok (.iadd, 1) := by decide +kernel
theorem dX9_change_69 : decode cX9_change 69 = .ok (.goto 23, 3) := by decide +kernel
theorem dX9_change_72 : decode cX9_change 72 = .ok (.iload_n 1, 1) := by decide +kernel
theorem dX9_change_73 : decode cX9_change 73 = .ok (.iconst 2, 1) := by decide +kernel
theorem dX9_change_74 : decode cX9_change 74 = .ok (.if_icmp .ne 12, 3) := by decide +kernel
theorem dX9_change_77 : decode cX9_change 77 = .ok (.bipush 8, 2) := by decide +kernel
theorem dX9_change_79 : decode cX9_change 79 = .ok (.iload_n 3, 1) := by decide +kernel
theorem dX9_change_80 : decode cX9_change 80 = .ok (.imul, 1) := by decide +kernel
theorem dX9_change_81 : decode cX9_change 81 = .ok (.iload_n 2, 1) := by decide +kernel
theorem dX9_change_82 : decode cX9_change 82 = .ok (.iadd, 1) := by decide +kernel
theorem dX9_change_83 : decode cX9_change 83 = .ok (.goto 9, 3) := by decide +kernel
theorem dX9_change_86 : decode cX9_change 86 = .ok (.bipush 8, 2) := by decide +kernel
theorem dX9_change_88 : decode cX9_change 88 = .ok (.iload_n 2, 1) := by decide +kernel
theorem dX9_change_89 : decode cX9_change 89 = .ok (.imul, 1) := by decide +kernel
theorem dX9_change_90 : decode cX9_change 90 = .ok (.iload_n 3, 1) := by decide +kernel
theorem dX9_change_91 : decode cX9_change 91 = .ok (.iadd, 1) := by decide +kernel
theorem dX9_change_92 : decode cX9_change 92 = .ok (.istore 4, 2) := by decide +kernel
theorem dX9_change_94 : decode cX9_change 94 = .ok (.iconst 4, 1) := by decide +kernel
theorem dX9_change_95 : decode cX9_change 95 = .ok (.bipush 8, 2) := by decide +kernel
theorem dX9_change_97 : decode cX9_change 97 = .ok (.iload_n 2, 1) := by decide +kernel
theorem dX9_change_98 : decode cX9_change 98 = .ok (.imul, 1) := by decide +kernel
theorem dX9_change_99 : decode cX9_change 99 = .ok (.iload_n 3, 1) := by decide +kernel
theorem dX9_change_100 : decode cX9_change 100 = .ok (.iadd, 1) := by decide +kernel
theorem dX9_change_101 : decode cX9_change 101 = .ok (.imul, 1) := by decide +kernel
theorem dX9_change_102 : decode cX9_change 102 = .ok (.istore 5, 2) := by decide +kernel
theorem dX9_change_104 : decode cX9_change 104 = .ok (.bipush 77, 2) := by decide +kernel
theorem dX9_change_106 : decode cX9_change 106 = .ok (.aload_n 0, 1) := by decide +kernel
theorem dX9_change_107 : decode cX9_change 107 = .ok (.getfield 16, 3) := by decide +kernel
theorem dX9_change_110 : decode cX9_change 110 = .ok (.iload 5, 2) := by decide +kernel
theorem dX9_change_112 : decode cX9_change 112 = .ok (.iaload, 1) := by decide +kernel
theorem dX9_change_113 : decode cX9_change 113 = .ok (.imul, 1) := by decide +kernel
theorem dX9_change_114 : decode cX9_change 114 = .ok (.sipush 150, 3) := by decide +kernel
theorem dX9_change_117 : decode cX9_change 117 = .ok (.aload_n 0, 1) := by decide +kernel
theorem dX9_change_118 : decode cX9_change 118 = .ok (.getfield 16, 3) := by decide +kernel
theorem dX9_change_121 : decode cX9_change 121 = .ok (.iload 5, 2) := by decide +kernel
theorem dX9_change_123 : decode cX9_change 123 = .ok (.iconst 1, 1) := by decide +kernel
theorem dX9_change_124 : decode cX9_change 124 = .ok (.iadd, 1) := by decide +kernel
theorem dX9_change_125 : decode cX9_change 125 = .ok (.iaload, 1) := by decide +kernel
theorem dX9_change_126 : decode cX9_change 126 = .ok (.imul, 1) := by decide +kernel
theorem dX9_change_127 : decode cX9_change 127 = .ok (.iadd, 1) := by decide +kernel
theorem dX9_change_128 : decode cX9_change 128 = .ok (.bipush 29, 2) := by decide +kernel
theorem dX9_change_130 : decode cX9_change 130 = .ok (.aload_n 0, 1) := by decide +kernel
theorem dX9_change_131 : decode cX9_change 131 = .ok (.getfield 16, 3) := by decide +kernel
theorem dX9_change_134 : decode cX9_change 134 = .ok (.iload 5, 2) := by decide +kernel
theorem dX9_change_136 : decode cX9_change 136 = .ok (.iconst 2, 1) := by decide +kernel
theorem dX9_change_137 : decode cX9_change 137 = .ok (.iadd, 1) := by decide +kernel
theorem dX9_change_138 : decode cX9_change 138 = .ok (.iaload, 1) := by decide +kernel
theorem dX9_change_139 : decode cX9_change 139 = .ok (.imul, 1) := by decide +kernel
theorem dX9_change_140 : decode cX9_change 140 = .ok (.iadd, 1) := by decide +kernel
theorem dX9_change_141 : decode cX9_change 141 = .ok (.sipush 256, 3) := by decide +kernel
theorem dX9_change_144 : decode cX9_change 144 = .ok (.idiv, 1) := by decide +kernel
theorem dX9_change_145 : decode cX9_change 145 = .ok (.istore 6, 2) := by decide +kernel
theorem dX9_change_147 : decode cX9_change 147 = .ok (.iconst 0, 1) := by decide +kernel
theorem dX9_change_148 : decode cX9_change 148 = .ok (.istore 7, 2) := by decide +kernel
theorem dX9_change_150 : decode cX9_change 150 = .ok (.iload 7, 2) := by decide +kernel
theorem dX9_change_152 : decode cX9_change 152 = .ok (.iconst 4, 1) := by decide +kernel
theorem dX9_change_153 : decode cX9_change 153 = .ok (.if_icmp .ge 68, 3) := by decide +kernel
theorem dX9_change_156 : decode cX9_change 156 = .ok (.aload_n 0, 1) := by decide +kernel
theorem dX9_change_157 : decode cX9_change 157 = .ok (.getfield 16, 3) := by decide +kernel
theorem dX9_change_160 : decode cX9_change 160 = .ok (.iload 5, 2) := by decide +kernel
theorem dX9_change_162 : decode cX9_change 162 = .ok (.iload 7, 2) := by decide +kernel
theorem dX9_change_164 : decode cX9_change 164 = .ok (.iadd, 1) := by decide +kernel
theorem dX9_change_165 : decode cX9_change 165 = .ok (.iaload, 1) := by decide +kernel
theorem dX9_change_166 : decode cX9_change 166 = .ok (.istore 8, 2) := by decide +kernel
theorem dX9_change_168 : decode cX9_change 168 = .ok (.aload_n 0, 1) := by decide +kernel
theorem dX9_change_169 : decode cX9_change 169 = .ok (.getfield 23, 3) := by decide +kernel
theorem dX9_change_172 : decode cX9_change 172 = .ok (.iconst 4, 1) := by decide +kernel
theorem dX9_change_173 : decode cX9_change 173 = .ok (.iload 4, 2) := by decide +kernel
theorem dX9_change_175 : decode cX9_change 175 = .ok (.imul, 1) := by decide +kernel
theorem dX9_change_176 : decode cX9_change 176 = .ok (.iload 7, 2) := by decide +kernel
theorem dX9_change_178 : decode cX9_change 178 = .ok (.iadd, 1) := by decide +kernel
theorem dX9_change_179 : decode cX9_change 179 = .ok (.iload_n 1, 1) := by decide +kernel
theorem dX9_change_180 : decode cX9_change 180 = .ok (.iconst 3, 1) := by decide +kernel
theorem dX9_change_181 : decode cX9_change 181 = .ok (.if_icmp .ne 14, 3) := by decide +kernel
theorem dX9_change_184 : decode cX9_change 184 = .ok (.iload 7, 2) := by decide +kernel
theorem dX9_change_186 : decode cX9_change 186 = .ok (.iconst 3, 1) := by decide +kernel
theorem dX9_change_187 : decode cX9_change 187 = .ok (.if_icmp .ge 8, 3) := by decide +kernel
theorem dX9_change_190 : decode cX9_change 190 = .ok (.iload 6, 2) := by decide +kernel
theorem dX9_change_192 : decode cX9_change 192 = .ok (.goto 22, 3) := by decide +kernel
theorem dX9_change_195 : decode cX9_change 195 = .ok (.iload_n 1, 1) := by decide +kernel
theorem dX9_change_196 : decode cX9_change 196 = .ok (.iconst 4, 1) := by decide +kernel
theorem dX9_change_197 : decode cX9_change 197 = .ok (.if_icmp .ne 15, 3) := by decide +kernel
theorem dX9_change_200 : decode cX9_change 200 = .ok (.iload 7, 2) := by decide +kernel
theorem dX9_change_202 : decode cX9_change 202 = .ok (.iconst 3, 1) := by decide +kernel
theorem dX9_change_203 : decode cX9_change 203 = .ok (.if_icmp .ne 9, 3) := by decide +kernel
theorem dX9_change_206 : decode cX9_change 206 = .ok (.sipush 255, 3) := by decide +kernel
theorem dX9_change_209 : decode cX9_change 209 = .ok (.goto 5, 3) := by decide +kernel
theorem dX9_change_212 : decode cX9_change 212 = .ok (.iload 8, 2) := by decide +kernel
theorem dX9_change_214 : decode cX9_change 214 = .ok (.iastore, 1) := by decide +kernel
theorem dX9_change_215 : decode cX9_change 215 = .ok (.iinc 7 1, 3) := by decide +kernel
theorem dX9_change_218 : decode cX9_change 218 = .ok (.goto (-68), 3) := by decide +kernel
theorem dX9_change_221 : decode cX9_change 221 = .ok (.iinc 3 1, 3) := by decide +kernel
theorem dX9_change_224 : decode cX9_change 224 = .ok (.goto (-201), 3) := by decide +kernel
theorem dX9_change_227 : decode cX9_change 227 = .ok (.iinc 2 1, 3) := by decide +kernel
theorem dX9_change_230 : decode cX9_change 230 = .ok (.goto (-217), 3) := by decide +kernel
theorem dX9_change_233 : decode cX9_change 233 = .ok (.aload_n 0, 1) := by decide +kernel
theorem dX9_change_234 : decode cX9_change 234 = .ok (.invokevirtual 46, 3) := by decide +kernel
theorem dX9_change_237 : decode cX9_change 237 = .ok (.iload_n 1, 1) := by decide +kernel
theorem dX9_change_238 : decode cX9_change 238 = .ok (.iconst 2, 1) := by decide +kernel
theorem dX9_change_239 : decode cX9_change 239 = .ok (.if_icmp .ne 21, 3) := by decide +kernel
theorem dX9_change_242 : decode cX9_change 242 = .ok (.aload_n 0, 1) := by decide +kernel
theorem dX9_change_243 : decode cX9_change 243 = .ok (.getfield 7, 3) := by decide +kernel
theorem dX9_change_246 : decode cX9_change 246 = .ok (.istore_n 2, 1) := by decide +kernel
theorem dX9_change_247 : decode cX9_change 247 = .ok (.aload_n 0, 1) := by decide +kernel
theorem dX9_change_248 : decode cX9_change 248 = .ok (.aload_n 0, 1) := by decide +kernel
theorem dX9_change_249 : decode cX9_change 249 = .ok (.getfield 13, 3) := by decide +kernel
theorem dX9_change_252 : decode cX9_change 252 = .ok (.putfield 7, 3) := by decide +kernel
theorem dX9_change_255 : decode cX9_change 255 = .ok (.aload_n 0, 1) := by decide +kernel
theorem dX9_change_256 : decode cX9_change 256 = .ok (.iload_n 2, 1) := by decide +kernel
theorem dX9_change_257 : decode cX9_change 257 = .ok (.putfield 13, 3) := by decide +kernel
theorem dX9_change_260 : decode cX9_change 260 = .ok (.iconst 1, 1) := by decide +kernel
theorem dX9_change_261 : decode cX9_change 261 = .ok (.ireturn, 1) := by decide +kernel
set_option maxRecDepth 20000 in
theorem ggX9_opaque_X9_channel : GoodIn wsX9_opaque wsX9_channel := goodIn_r _ [7, 8, 1, 9, 10, 11, 12, 13, 14, 15, 16, 17, 18, 19, 20, 21, 22, 23] (by decide +kernel) (by decide +kernel)
set_option maxRecDepth 20000 in
theorem gX9_opaque_X9_channel : GoodIn wsX9_opaque (wsV RX9 49 RX9 yX9_channel wsX9_channel) := goodIn_app (goodIn_of _ (by decide +kernel)) ggX9_opaque_X9_channel
theorem dX9_opaque_0 : decode cX9_opaque 0 = .ok (.iconst 1, 1) := by decide +kernel
theorem dX9_opaque_1 : decode cX9_opaque 1 = .ok (.istore_n 1, 1) := by decide +kernel
theorem dX9_opaque_2 : decode cX9_opaque 2 = .ok (.iconst 0, 1) := by decide +kernel
theorem dX9_opaque_3 : decode cX9_opaque 3 = .ok (.istore_n 2, 1) := by decide +kernel
theorem dX9_opaque_4 : decode cX9_opaque 4 = .ok (.iload_n 2, 1) := by decide +kernel
theorem dX9_opaque_5 : decode cX9_opaque 5 = .ok (.aload_n 0, 1) := by decide +kernel
theorem dX9_opaque_6 : decode cX9_opaque 6 = .ok (.getfield 7, 3) := by decide +kernel
theorem dX9_opaque_9 : decode cX9_opaque 9 = .ok (.aload_n 0, 1) := by decide +kernel
theorem dX9_opaque_10 : decode cX9_opaque 10 = .ok (.getfield 13, 3) := by decide +kernel
theorem dX9_opaque_13 : decode cX9_opaque 13 = .ok (.imul, 1) := by decide +kernel
theorem dX9_opaque_14 : decode cX9_opaque 14 = .ok (.if_icmp .ge 31, 3) := by decide +kernel
theorem dX9_opaque_17 : decode cX9_opaque 17 = .ok (.iload_n 1, 1) := by decide +kernel
theorem dX9_opaque_18 : decode cX9_opaque 18 = .ok (.ifCond .eq 19, 3) := by decide +kernel
theorem dX9_opaque_21 : decode cX9_opaque 21 = .ok (.aload_n 0, 1) := by decide +kernel
theorem dX9_opaque_22 : decode cX9_opaque 22 = .ok (.iload_n 2, 1) := by decide +kernel
theorem dX9_opaque_23 : decode cX9_opaque 23 = .ok (.iconst 3, 1) := by decide +kernel
theorem dX9_opaque_24 : decode cX9_opaque 24 = .ok (.invokevirtual 49, 3) := by decide +kernel
theorem dX9_opaque_27 : decode cX9_opaque 27 = .ok (.sipush 255, 3) := by decide +kernel
theorem dX9_opaque_30 : decode cX9_opaque 30 = .ok (.if_icmp .ne 7, 3) := by decide +kernel
theorem dX9_opaque_33 : decode cX9_opaque 33 = .ok (.iconst 1, 1) := by decide +kernel
theorem dX9_opaque_34 : decode cX9_opaque 34 = .ok (.goto 4, 3) := by decide +kernel
theorem dX9_opaque_37 : decode cX9_opaque 37 = .ok (.iconst 0, 1) := by decide +kernel
theorem dX9_opaque_38 : decode cX9_opaque 38 = .ok (.istore_n 1, 1) := by decide +kernel
theorem dX9_opaque_39 : decode cX9_opaque 39 = .ok (.iinc 2 1, 3) := by decide +kernel
theorem dX9_opaque_42 : decode cX9_opaque 42 = .ok (.goto (-38), 3) := by decide +kernel
theorem dX9_opaque_45 : decode cX9_opaque 45 = .ok (.iload_n 1, 1) := by decide +kernel
theorem dX9_opaque_46 : decode cX9_opaque 46 = .ok (.ireturn, 1) := by decide +kernel
set_option maxRecDepth 20000 in
theorem ggX9_grey_X9_opaque : GoodIn wsX9_grey wsX9_opaque := goodIn_r _ [7, 1, 2, 8, 9, 10, 6, 11, 12, 13, 14, 15, 16, 17, 18, 19, 20, 21, 22, 23, 24, 25, 26, 27] (by decide +kernel) (by decide +kernel)
set_option maxRecDepth 20000 in
theorem gX9_grey_X9_opaque : GoodIn wsX9_grey (wsV RX9 53 RX9 yX9_opaque wsX9_opaque) := goodIn_app (goodIn_of _ (by decide +kernel)) ggX9_grey_X9_opaque
set_option maxRecDepth 20000 in
theorem ggX9_grey_X9_channel : GoodIn wsX9_grey wsX9_channel := goodIn_r _ [11, 12, 1, 13, 14, 15, 16, 17, 18, 19, 20, 21, 22, 23, 24, 25, 26, 27] (by decide +kernel) (by decide +kernel)
set_option maxRecDepth 20000 in
theorem gX9_grey_X9_channel : GoodIn wsX9_grey (wsV RX9 49 RX9 yX9_channel wsX9_channel) := goodIn_app (goodIn_of _ (by decide +kernel)) ggX9_grey_X9_channel
theorem dX9_grey_0 : decode cX9_grey 0 = .ok (.aload_n 0, 1) := by decide +kernel
theorem dX9_grey_1 : decode cX9_grey 1 = .ok (.invokevirtual 53, 3) := by decide +kernel
theorem dX9_grey_4 : decode cX9_grey 4 = .ok (.istore_n 1, 1) := by decide +kernel
theorem dX9_grey_5 : decode cX9_grey 5 = .ok (.iconst 0, 1) := by decide +kernel
theorem dX9_grey_6 : decode cX9_grey 6 = .ok (.istore_n 2, 1) := by decide +kernel
theorem dX9_grey_7 : decode cX9_grey 7 = .ok (.iload_n 2, 1) := by decide +kernel
theorem dX9_grey_8 : decode cX9_grey 8 = .ok (.aload_n 0, 1) := by decide +kernel
theorem dX9_grey_9 : decode cX9_grey 9 = .ok (.getfield 7, 3) := by decide +kernel
theorem dX9_grey_12 : decode cX9_grey 12 = .ok (.aload_n 0, 1) := by decide +kernel
theorem dX9_grey_13 : decode cX9_grey 13 = .ok (.getfield 13, 3) := by decide +kernel
theorem dX9_grey_16 : decode cX9_grey 16 = .ok (.imul, 1) := by decide +kernel
theorem dX9_grey_17 : decode cX9_grey 17 = .ok (.if_icmp .ge 49, 3) := by decide +kernel
theorem dX9_grey_20 : decode cX9_grey 20 = .ok (.iload_n 1, 1) := by decide +kernel
theorem dX9_grey_21 : decode cX9_grey 21 = .ok (.ifCond .eq 37, 3) := by decide +kernel
theorem dX9_grey_24 : decode cX9_grey 24 = .ok (.aload_n 0, 1) := by decide +kernel
theorem dX9_grey_25 : decode cX9_grey 25 = .ok (.iload_n 2, 1) := by decide +kernel
theorem dX9_grey_26 : decode cX9_grey 26 = .ok (.iconst 0, 1) := by decide +kernel
theorem dX9_grey_27 : decode cX9_grey 27 = .ok (.invokevirtual 49, 3) := by decide +kernel
theorem dX9_grey_30 : decode cX9_grey 30 = .ok (.aload_n 0, 1) := by decide +kernel
theorem dX9_grey_31 : decode cX9_grey 31 = .ok (.iload_n 2, 1) := by decide +kernel
theorem dX9_grey_32 : decode cX9_grey 32 = .ok (.iconst 1, 1) := by decide +kernel
theorem dX9_grey_33 : decode cX9_grey 33 = .ok (.invokevirtual 49, 3) := by decide +kernel
theorem dX9_grey_36 : decode cX9_grey 36 = .ok (.if_icmp .ne 22, 3) := by decide +kernel
theorem dX9_grey_39 : decode cX9_grey 39 = .ok (.aload_n 0, 1) := by decide +kernel
theorem dX9_grey_40 : decode cX9_grey 40 = .ok (.iload_n 2, 1) := by decide +kernel
theorem dX9_grey_41 : decode cX9_grey 41 = .ok (.iconst 1, 1) := by decide +kernel
theorem dX9_grey_42 : decode cX9_grey 42 = .ok (.invokevirtual 49, 3) := by decide +kernel
theorem dX9_grey_45 : decode cX9_grey 45 = .ok (.aload_n 0, 1) := by decide +kernel
theorem dX9_grey_46 : decode cX9_grey 46 = .ok (.iload_n 2, 1) := by decide +kernel
theorem dX9_grey_47 : decode cX9_grey 47 = .ok (.iconst 2, 1) := by decide +kernel
theorem dX9_grey_48 : decode cX9_grey 48 = .ok (.invokevirtual 49, 3) := by decide +kernel
theorem dX9_grey_51 : decode cX9_grey 51 = .ok (.if_icmp .ne 7, 3) := by decide +kernel
theorem dX9_grey_54 : decode cX9_grey 54 = .ok (.iconst 1, 1) := by decide +kernel
theorem dX9_grey_55 : decode cX9_grey 55 = .ok (.goto 4, 3) := by decide +kernel
theorem dX9_grey_58 : decode cX9_grey 58 = .ok (.iconst 0, 1) := by decide +kernel
theorem dX9_grey_59 : decode cX9_grey 59 = .ok (.istore_n 1, 1) := by decide +kernel
theorem dX9_grey_60 : decode cX9_grey 60 = .ok (.iinc 2 1, 3) := by decide +kernel
theorem dX9_grey_63 : decode cX9_grey 63 = .ok (.goto (-56), 3) := by decide +kernel
theorem dX9_grey_66 : decode cX9_grey 66 = .ok (.iload_n 1, 1) := by decide +kernel
theorem dX9_grey_67 : decode cX9_grey 67 = .ok (.ireturn, 1) := by decide +kernel
theorem dX9_channel_0 : decode cX9_channel 0 = .ok (.aload_n 0, 1) := by decide +kernel
theorem dX9_channel_1 : decode cX9_channel 1 = .ok (.getfield 16, 3) := by decide +kernel
theorem dX9_channel_4 : decode cX9_channel 4 = .ok (.iconst 4, 1) := by decide +kernel
theorem dX9_channel_5 : decode cX9_channel 5 = .ok (.bipush 8, 2) := by decide +kernel
theorem dX9_channel_7 : decode cX9_channel 7 = .ok (.iload_n 1, 1) := by decide +kernel
theorem dX9_channel_8 : decode cX9_channel 8 = .ok (.aload_n 0, 1) := by decide +kernel
theorem dX9_channel_9 : decode cX9_channel 9 = .ok (.getfield 7, 3) := by decide +kernel
theorem dX9_channel_12 : decode cX9_channel 12 = .ok (.idiv, 1) := by decide +kernel
theorem dX9_channel_13 : decode cX9_channel 13 = .ok (.imul, 1) := by decide +kernel
theorem dX9_channel_14 : decode cX9_channel 14 = .ok (.iload_n 1, 1) := by decide +kernel
theorem dX9_channel_15 : decode cX9_channel 15 = .ok (.aload_n 0, 1) := by decide +kernel
theorem dX9_channel_16 : decode cX9_channel 16 = .ok (.getfield 7, 3) := by decide +kernel
theorem dX9_channel_19 : decode cX9_channel 19 = .ok (.irem, 1) := by decide +kernel
theorem dX9_channel_20 : decode cX9_channel 20 = .ok (.iadd, 1) := by decide +kernel
theorem dX9_channel_21 : decode cX9_channel 21 = .ok (.imul, 1) := by decide +kernel
theorem dX9_channel_22 : decode cX9_channel 22 = .ok (.iload_n 2, 1) := by decide +kernel
theorem dX9_channel_23 : decode cX9_channel 23 = .ok (.iadd, 1) := by decide +kernel
theorem dX9_channel_24 : decode cX9_channel 24 = .ok (.iaload, 1) := by decide +kernel
theorem dX9_channel_25 : decode cX9_channel 25 = .ok (.ireturn, 1) := by decide +kernel
set_option maxRecDepth 20000 in
theorem ggX9_alike_X9_channel : GoodIn wsX9_alike wsX9_channel := goodIn_r _ [5, 6, 7, 8, 9, 10, 11, 12, 13, 14, 15, 16, 17, 18, 19, 20, 21, 22] (by decide +kernel) (by decide +kernel)
set_option maxRecDepth 20000 in
theorem gX9_alike_X9_channel : GoodIn wsX9_alike (wsV RX9 49 RX9 yX9_channel wsX9_channel) := goodIn_app (goodIn_of _ (by decide +kernel)) ggX9_alike_X9_channel
theorem dX9_alike_0 : decode cX9_alike 0 = .ok (.iconst 1, 1) := by decide +kernel
theorem dX9_alike_1 : decode cX9_alike 1 = .ok (.istore_n 3, 1) := by decide +kernel
theorem dX9_alike_2 : decode cX9_alike 2 = .ok (.iconst 0, 1) := by decide +kernel
theorem dX9_alike_3 : decode cX9_alike 3 = .ok (.istore 4, 2) := by decide +kernel
theorem dX9_alike_5 : decode cX9_alike 5 = .ok (.iload 4, 2) := by decide +kernel
theorem dX9_alike_7 : decode cX9_alike 7 = .ok (.iconst 4, 1) := by decide +kernel
theorem dX9_alike_8 : decode cX9_alike 8 = .ok (.if_icmp .ge 36, 3) := by decide +kernel
theorem dX9_alike_11 : decode cX9_alike 11 = .ok (.iload_n 3, 1) := by decide +kernel
theorem dX9_alike_12 : decode cX9_alike 12 = .ok (.ifCond .eq 24, 3) := by decide +kernel
theorem dX9_alike_15 : decode cX9_alike 15 = .ok (.aload_n 0, 1) := by decide +kernel
theorem dX9_alike_16 : decode cX9_alike 16 = .ok (.iload_n 1, 1) := by decide +kernel
theorem dX9_alike_17 : decode cX9_alike 17 = .ok (.iload 4, 2) := by decide +kernel
theorem dX9_alike_19 : decode cX9_alike 19 = .ok (.invokevirtual 49, 3) := by decide +kernel
theorem dX9_alike_22 : decode cX9_alike 22 = .ok (.aload_n 0, 1) := by decide +kernel
theorem dX9_alike_23 : decode cX9_alike 23 = .ok (.iload_n 2, 1) := by decide +kernel
theorem dX9_alike_24 : decode cX9_alike 24 = .ok (.iload 4, 2) := by decide +kernel
theorem dX9_alike_26 : decode cX9_alike 26 = .ok (.invokevirtual 49, 3) := by decide +kernel
theorem dX9_alike_29 : decode cX9_alike 29 = .ok (.if_icmp .ne 7, 3) := by decide +kernel
theorem dX9_alike_32 : decode cX9_alike 32 = .ok (.iconst 1, 1) := by decide +kernel
theorem dX9_alike_33 : decode cX9_alike 33 = .ok (.goto 4, 3) := by decide +kernel
theorem dX9_alike_36 : decode cX9_alike 36 = .ok (.iconst 0, 1) := by decide +kernel
theorem dX9_alike_37 : decode cX9_alike 37 = .ok (.istore_n 3, 1) := by decide +kernel
theorem dX9_alike_38 : decode cX9_alike 38 = .ok (.iinc 4 1, 3) := by decide +kernel
theorem dX9_alike_41 : decode cX9_alike 41 = .ok (.goto (-36), 3) := by decide +kernel
theorem dX9_alike_44 : decode cX9_alike 44 = .ok (.iload_n 3, 1) := by decide +kernel
theorem dX9_alike_45 : decode cX9_alike 45 = .ok (.ireturn, 1) := by decide +kernel
theorem dX9_feed_0 : decode cX9_feed 0 = .ok (.iload_n 1, 1) := by decide +kernel
theorem dX9_feed_1 : decode cX9_feed 1 = .ok (.ifCond .lt 20, 3) := by decide +kernel
theorem dX9_feed_4 : decode cX9_feed 4 = .ok (.iload_n 1, 1) := by decide +kernel
theorem dX9_feed_5 : decode cX9_feed 5 = .ok (.sipush 255, 3) := by decide +kernel
theorem dX9_feed_8 : decode cX9_feed 8 = .ok (.if_icmp .gt 13, 3) := by decide +kernel
theorem dX9_feed_11 : decode cX9_feed 11 = .ok (.aload_n 0, 1) := by decide +kernel
theorem dX9_feed_12 : decode cX9_feed 12 = .ok (.getfield 57, 3) := by decide +kernel
theorem dX9_feed_15 : decode cX9_feed 15 = .ok (.sipush 800, 3) := by decide +kernel
theorem dX9_feed_18 : decode cX9_feed 18 = .ok (.if_icmp .ne 5, 3) := by decide +kernel
theorem dX9_feed_21 : decode cX9_feed 21 = .ok (.iconst 0, 1) := by decide +kernel
theorem dX9_feed_22 : decode cX9_feed 22 = .ok (.ireturn, 1) := by decide +kernel
theorem dX9_feed_23 : decode cX9_feed 23 = .ok (.aload_n 0, 1) := by decide +kernel
theorem dX9_feed_24 : decode cX9_feed 24 = .ok (.getfield 20, 3) := by decide +kernel
theorem dX9_feed_27 : decode cX9_feed 27 = .ok (.aload_n 0, 1) := by decide +kernel
theorem dX9_feed_28 : decode cX9_feed 28 = .ok (.getfield 57, 3) := by decide +kernel
theorem dX9_feed_31 : decode cX9_feed 31 = .ok (.iload_n 1, 1) := by decide +kernel
theorem dX9_feed_32 : decode cX9_feed 32 = .ok (.iastore, 1) := by decide +kernel
theorem dX9_feed_33 : decode cX9_feed 33 = .ok (.aload_n 0, 1) := by decide +kernel
theorem dX9_feed_34 : decode cX9_feed 34 = .ok (.dup, 1) := by decide +kernel
theorem dX9_feed_35 : decode cX9_feed 35 = .ok (.getfield 57, 3) := by decide +kernel
theorem dX9_feed_38 : decode cX9_feed 38 = .ok (.iconst 1, 1) := by decide +kernel
theorem dX9_feed_39 : decode cX9_feed 39 = .ok (.iadd, 1) := by decide +kernel
theorem dX9_feed_40 : decode cX9_feed 40 = .ok (.putfield 57, 3) := by decide +kernel
theorem dX9_feed_43 : decode cX9_feed 43 = .ok (.iconst 1, 1) := by decide +kernel
theorem dX9_feed_44 : decode cX9_feed 44 = .ok (.ireturn, 1) := by decide +kernel
theorem dX9_cut_0 : decode cX9_cut 0 = .ok (.iload_n 1, 1) := by decide +kernel
theorem dX9_cut_1 : decode cX9_cut 1 = .ok (.ifCond .lt 11, 3) := by decide +kernel
theorem dX9_cut_4 : decode cX9_cut 4 = .ok (.iload_n 1, 1) := by decide +kernel
theorem dX9_cut_5 : decode cX9_cut 5 = .ok (.aload_n 0, 1) := by decide +kernel
theorem dX9_cut_6 : decode cX9_cut 6 = .ok (.getfield 57, 3) := by decide +kernel
theorem dX9_cut_9 : decode cX9_cut 9 = .ok (.if_icmp .le 5, 3) := by decide +kernel
theorem dX9_cut_12 : decode cX9_cut 12 = .ok (.iconst 0, 1) := by decide +kernel
theorem dX9_cut_13 : decode cX9_cut 13 = .ok (.ireturn, 1) := by decide +kernel
theorem dX9_cut_14 : decode cX9_cut 14 = .ok (.aload_n 0, 1) := by decide +kernel
theorem dX9_cut_15 : decode cX9_cut 15 = .ok (.iload_n 1, 1) := by decide +kernel
theorem dX9_cut_16 : decode cX9_cut 16 = .ok (.putfield 57, 3) := by decide +kernel
theorem dX9_cut_19 : decode cX9_cut 19 = .ok (.iconst 1, 1) := by decide +kernel
theorem dX9_cut_20 : decode cX9_cut 20 = .ok (.ireturn, 1) := by decide +kernel
theorem dX9_alter_0 : decode cX9_alter 0 = .ok (.iload_n 1, 1) := by decide +kernel
theorem dX9_alter_1 : decode cX9_alter 1 = .ok (.ifCond .lt 22, 3) := by decide +kernel
theorem dX9_alter_4 : decode cX9_alter 4 = .ok (.iload_n 1, 1) := by decide +kernel
theorem dX9_alter_5 : decode cX9_alter 5 = .ok (.aload_n 0, 1) := by decide +kernel
theorem dX9_alter_6 : decode cX9_alter 6 = .ok (.getfield 57, 3) := by decide +kernel
theorem dX9_alter_9 : decode cX9_alter 9 = .ok (.if_icmp .ge 14, 3) := by decide +kernel
theorem dX9_alter_12 : decode cX9_alter 12 = .ok (.iload_n 2, 1) := by decide +kernel
theorem dX9_alter_13 : decode cX9_alter 13 = .ok (.ifCond .lt 10, 3) := by decide +kernel
theorem dX9_alter_16 : decode cX9_alter 16 = .ok (.iload_n 2, 1) := by decide +kernel
theorem dX9_alter_17 : decode cX9_alter 17 = .ok (.sipush 255, 3) := by decide +kernel
theorem dX9_alter_20 : decode cX9_alter 20 = .ok (.if_icmp .le 5, 3) := by decide +kernel
theorem dX9_alter_23 : decode cX9_alter 23 = .ok (.iconst 0, 1) := by decide +kernel
theorem dX9_alter_24 : decode cX9_alter 24 = .ok (.ireturn, 1) := by decide +kernel
theorem dX9_alter_25 : decode cX9_alter 25 = .ok (.aload_n 0, 1) := by decide +kernel
theorem dX9_alter_26 : decode cX9_alter 26 = .ok (.getfield 20, 3) := by decide +kernel
theorem dX9_alter_29 : decode cX9_alter 29 = .ok (.iload_n 1, 1) := by decide +kernel
theorem dX9_alter_30 : decode cX9_alter 30 = .ok (.iload_n 2, 1) := by decide +kernel
theorem dX9_alter_31 : decode cX9_alter 31 = .ok (.iastore, 1) := by decide +kernel
theorem dX9_alter_32 : decode cX9_alter 32 = .ok (.iconst 1, 1) := by decide +kernel
theorem dX9_alter_33 : decode cX9_alter 33 = .ok (.ireturn, 1) := by decide +kernel
theorem dX9_length_0 : decode cX9_length 0 = .ok (.aload_n 0, 1) := by decide +kernel
theorem dX9_length_1 : decode cX9_length 1 = .ok (.getfield 57, 3) := by decide +kernel
theorem dX9_length_4 : decode cX9_length 4 = .ok (.ireturn, 1) := by decide +kernel
theorem dX9_byteAt_0 : decode cX9_byteAt 0 = .ok (.iload_n 1, 1) := by decide +kernel
theorem dX9_byteAt_1 : decode cX9_byteAt 1 = .ok (.ifCond .lt 11, 3) := by decide +kernel
theorem dX9_byteAt_4 : decode cX9_byteAt 4 = .ok (.iload_n 1, 1) := by decide +kernel
theorem dX9_byteAt_5 : decode cX9_byteAt 5 = .ok (.aload_n 0, 1) := by decide +kernel
theorem dX9_byteAt_6 : decode cX9_byteAt 6 = .ok (.getfield 57, 3) := by decide +kernel
theorem dX9_byteAt_9 : decode cX9_byteAt 9 = .ok (.if_icmp .lt 7, 3) := by decide +kernel
theorem dX9_byteAt_12 : decode cX9_byteAt 12 = .ok (.iconst (-1), 1) := by decide +kernel
theorem dX9_byteAt_13 : decode cX9_byteAt 13 = .ok (.goto 9, 3) := by decide +kernel
theorem dX9_byteAt_16 : decode cX9_byteAt 16 = .ok (.aload_n 0, 1) := by decide +kernel
theorem dX9_byteAt_17 : decode cX9_byteAt 17 = .ok (.getfield 20, 3) := by decide +kernel
theorem dX9_byteAt_20 : decode cX9_byteAt 20 = .ok (.iload_n 1, 1) := by decide +kernel
theorem dX9_byteAt_21 : decode cX9_byteAt 21 = .ok (.iaload, 1) := by decide +kernel
theorem dX9_byteAt_22 : decode cX9_byteAt 22 = .ok (.ireturn, 1) := by decide +kernel
theorem dX9_begins_0 : decode cX9_begins 0 = .ok (.aload_n 0, 1) := by decide +kernel
theorem dX9_begins_1 : decode cX9_begins 1 = .ok (.getfield 57, 3) := by decide +kernel
theorem dX9_begins_4 : decode cX9_begins 4 = .ok (.iconst 1, 1) := by decide +kernel
theorem dX9_begins_5 : decode cX9_begins 5 = .ok (.if_icmp .le 27, 3) := by decide +kernel
theorem dX9_begins_8 : decode cX9_begins 8 = .ok (.aload_n 0, 1) := by decide +kernel
theorem dX9_begins_9 : decode cX9_begins 9 = .ok (.getfield 20, 3) := by decide +kernel
theorem dX9_begins_12 : decode cX9_begins 12 = .ok (.iconst 0, 1) := by decide +kernel
theorem dX9_begins_13 : decode cX9_begins 13 = .ok (.iaload, 1) := by decide +kernel
theorem dX9_begins_14 : decode cX9_begins 14 = .ok (.iload_n 1, 1) := by decide +kernel
theorem dX9_begins_15 : decode cX9_begins 15 = .ok (.if_icmp .ne 17, 3) := by decide +kernel
theorem dX9_begins_18 : decode cX9_begins 18 = .ok (.aload_n 0, 1) := by decide +kernel
theorem dX9_begins_19 : decode cX9_begins 19 = .ok (.getfield 20, 3) := by decide +kernel
theorem dX9_begins_22 : decode cX9_begins 22 = .ok (.iconst 1, 1) := by decide +kernel
theorem dX9_begins_23 : decode cX9_begins 23 = .ok (.iaload, 1) := by decide +kernel
theorem dX9_begins_24 : decode cX9_begins 24 = .ok (.iload_n 2, 1) := by decide +kernel
theorem dX9_begins_25 : decode cX9_begins 25 = .ok (.if_icmp .ne 7, 3) := by decide +kernel
theorem dX9_begins_28 : decode cX9_begins 28 = .ok (.iconst 1, 1) := by decide +kernel
theorem dX9_begins_29 : decode cX9_begins 29 = .ok (.goto 4, 3) := by decide +kernel
theorem dX9_begins_32 : decode cX9_begins 32 = .ok (.iconst 0, 1) := by decide +kernel
theorem dX9_begins_33 : decode cX9_begins 33 = .ok (.ireturn, 1) := by decide +kernel
set_option maxRecDepth 20000 in
theorem ggX9_sniff_X9_begins : GoodIn wsX9_sniff wsX9_begins := goodIn_r _ [7, 1, 2, 8, 9, 10, 11, 12, 13, 14, 15, 16, 17, 18, 19, 20, 21, 22] (by decide +kernel) (by decide +kernel)
set_option maxRecDepth 20000 in
theorem gX9_sniff_X9_begins : GoodIn wsX9_sniff (wsV RX9 60 RX9 yX9_begins wsX9_begins) := goodIn_app (goodIn_of _ (by decide +kernel)) ggX9_sniff_X9_begins
theorem dX9_sniff_0 : decode cX9_sniff 0 = .ok (.aload_n 0, 1) := by decide +kernel
theorem dX9_sniff_1 : decode cX9_sniff 1 = .ok (.getfield 57, 3) := by decide +kernel
theorem dX9_sniff_4 : decode cX9_sniff 4 = .ok (.iconst 3, 1) := by decide +kernel
theorem dX9_sniff_5 : decode cX9_sniff 5 = .ok (.if_icmp .le 38, 3) := by decide +kernel
theorem dX9_sniff_8 : decode cX9_sniff 8 = .ok (.aload_n 0, 1) := by decide +kernel
theorem dX9_sniff_9 : decode cX9_sniff 9 = .ok (.bipush 113, 2) := by decide +kernel
theorem dX9_sniff_11 : decode cX9_sniff 11 = .ok (.bipush 111, 2) := by decide +kernel
theorem dX9_sniff_13 : decode cX9_sniff 13 = .ok (.invokevirtual 60, 3) := by decide +kernel
theorem dX9_sniff_16 : decode cX9_sniff 16 = .ok (.ifCond .eq 27, 3) := by decide +kernel
theorem dX9_sniff_19 : decode cX9_sniff 19 = .ok (.aload_n 0, 1) := by decide +kernel
theorem dX9_sniff_20 : decode cX9_sniff 20 = .ok (.getfield 20, 3) := by decide +kernel
theorem dX9_sniff_23 : decode cX9_sniff 23 = .ok (.iconst 2, 1) := by decide +kernel
theorem dX9_sniff_24 : decode cX9_sniff 24 = .ok (.iaload, 1) := by decide +kernel
theorem dX9_sniff_25 : decode cX9_sniff 25 = .ok (.bipush 105, 2) := by decide +kernel
theorem dX9_sniff_27 : decode cX9_sniff 27 = .ok (.if_icmp .ne 16, 3) := by decide +kernel
theorem dX9_sniff_30 : decode cX9_sniff 30 = .ok (.aload_n 0, 1) := by decide +kernel
theorem dX9_sniff_31 : decode cX9_sniff 31 = .ok (.getfield 20, 3) := by decide +kernel
theorem dX9_sniff_34 : decode cX9_sniff 34 = .ok (.iconst 3, 1) := by decide +kernel
theorem dX9_sniff_35 : decode cX9_sniff 35 = .ok (.iaload, 1) := by decide +kernel
theorem dX9_sniff_36 : decode cX9_sniff 36 = .ok (.bipush 102, 2) := by decide +kernel
theorem dX9_sniff_38 : decode cX9_sniff 38 = .ok (.if_icmp .ne 5, 3) := by decide +kernel
theorem dX9_sniff_41 : decode cX9_sniff 41 = .ok (.iconst 0, 1) := by decide +kernel
theorem dX9_sniff_42 : decode cX9_sniff 42 = .ok (.ireturn, 1) := by decide +kernel
theorem dX9_sniff_43 : decode cX9_sniff 43 = .ok (.aload_n 0, 1) := by decide +kernel
theorem dX9_sniff_44 : decode cX9_sniff 44 = .ok (.bipush 80, 2) := by decide +kernel
theorem dX9_sniff_46 : decode cX9_sniff 46 = .ok (.bipush 50, 2) := by decide +kernel
theorem dX9_sniff_48 : decode cX9_sniff 48 = .ok (.invokevirtual 60, 3) := by decide +kernel
theorem dX9_sniff_51 : decode cX9_sniff 51 = .ok (.ifCond .ne 36, 3) := by decide +kernel
theorem dX9_sniff_54 : decode cX9_sniff 54 = .ok (.aload_n 0, 1) := by decide +kernel
theorem dX9_sniff_55 : decode cX9_sniff 55 = .ok (.bipush 80, 2) := by decide +kernel
theorem dX9_sniff_57 : decode cX9_sniff 57 = .ok (.bipush 51, 2) := by decide +kernel
theorem dX9_sniff_59 : decode cX9_sniff 59 = .ok (.invokevirtual 60, 3) := by decide +kernel
theorem dX9_sniff_62 : decode cX9_sniff 62 = .ok (.ifCond .ne 25, 3) := by decide +kernel
theorem dX9_sniff_65 : decode cX9_sniff 65 = .ok (.aload_n 0, 1) := by decide +kernel
theorem dX9_sniff_66 : decode cX9_sniff 66 = .ok (.bipush 80, 2) := by decide +kernel
theorem dX9_sniff_68 : decode cX9_sniff 68 = .ok (.bipush 53, 2) := by decide +kernel
theorem dX9_sniff_70 : decode cX9_sniff 70 = .ok (.invokevirtual 60, 3) := by decide +kernel
theorem dX9_sniff_73 : decode cX9_sniff 73 = .ok (.ifCond .ne 14, 3) := by decide +kernel
theorem dX9_sniff_76 : decode cX9_sniff 76 = .ok (.aload_n 0, 1) := by decide +kernel
theorem dX9_sniff_77 : decode cX9_sniff 77 = .ok (.bipush 80, 2) := by decide +kernel
theorem dX9_sniff_79 : decode cX9_sniff 79 = .ok (.bipush 54, 2) := by decide +kernel
theorem dX9_sniff_81 : decode cX9_sniff 81 = .ok (.invokevirtual 60, 3) := by decide +kernel
theorem dX9_sniff_84 : decode cX9_sniff 84 = .ok (.ifCond .eq 5, 3) := by decide +kernel
theorem dX9_sniff_87 : decode cX9_sniff 87 = .ok (.iconst 1, 1) := by decide +kernel
theorem dX9_sniff_88 : decode cX9_sniff 88 = .ok (.ireturn, 1) := by decide +kernel
theorem dX9_sniff_89 : decode cX9_sniff 89 = .ok (.aload_n 0, 1) := by decide +kernel
theorem dX9_sniff_90 : decode cX9_sniff 90 = .ok (.bipush 66, 2) := by decide +kernel
theorem dX9_sniff_92 : decode cX9_sniff 92 = .ok (.bipush 77, 2) := by decide +kernel
theorem dX9_sniff_94 : decode cX9_sniff 94 = .ok (.invokevirtual 60, 3) := by decide +kernel
theorem dX9_sniff_97 : decode cX9_sniff 97 = .ok (.ifCond .eq 5, 3) := by decide +kernel
theorem dX9_sniff_100 : decode cX9_sniff 100 = .ok (.iconst 2, 1) := by decide +kernel
theorem dX9_sniff_101 : decode cX9_sniff 101 = .ok (.ireturn, 1) := by decide +kernel
theorem dX9_sniff_102 : decode cX9_sniff 102 = .ok (.aload_n 0, 1) := by decide +kernel
theorem dX9_sniff_103 : decode cX9_sniff 103 = .ok (.getfield 57, 3) := by decide +kernel
theorem dX9_sniff_106 : decode cX9_sniff 106 = .ok (.bipush 18, 2) := by decide +kernel
theorem dX9_sniff_108 : decode cX9_sniff 108 = .ok (.if_icmp .lt 12, 3) := by decide +kernel
theorem dX9_sniff_111 : decode cX9_sniff 111 = .ok (.aload_n 0, 1) := by decide +kernel
theorem dX9_sniff_112 : decode cX9_sniff 112 = .ok (.getfield 20, 3) := by decide +kernel
theorem dX9_sniff_115 : decode cX9_sniff 115 = .ok (.iconst 1, 1) := by decide +kernel
theorem dX9_sniff_116 : decode cX9_sniff 116 = .ok (.iaload, 1) := by decide +kernel
theorem dX9_sniff_117 : decode cX9_sniff 117 = .ok (.ifCond .eq 5, 3) := by decide +kernel
theorem dX9_sniff_120 : decode cX9_sniff 120 = .ok (.iconst (-1), 1) := by decide +kernel
theorem dX9_sniff_121 : decode cX9_sniff 121 = .ok (.ireturn, 1) := by decide +kernel
theorem dX9_sniff_122 : decode cX9_sniff 122 = .ok (.aload_n 0, 1) := by decide +kernel
theorem dX9_sniff_123 : decode cX9_sniff 123 = .ok (.getfield 20, 3) := by decide +kernel
theorem dX9_sniff_126 : decode cX9_sniff 126 = .ok (.iconst 2, 1) := by decide +kernel
theorem dX9_sniff_127 : decode cX9_sniff 127 = .ok (.iaload, 1) := by decide +kernel
theorem dX9_sniff_128 : decode cX9_sniff 128 = .ok (.iconst 2, 1) := by decide +kernel
theorem dX9_sniff_129 : decode cX9_sniff 129 = .ok (.if_icmp .eq 14, 3) := by decide +kernel
theorem dX9_sniff_132 : decode cX9_sniff 132 = .ok (.aload_n 0, 1) := by decide +kernel
theorem dX9_sniff_133 : decode cX9_sniff 133 = .ok (.getfield 20, 3) := by decide +kernel
theorem dX9_sniff_136 : decode cX9_sniff 136 = .ok (.iconst 2, 1) := by decide +kernel
theorem dX9_sniff_137 : decode cX9_sniff 137 = .ok (.iaload, 1) := by decide +kernel
theorem dX9_sniff_138 : decode cX9_sniff 138 = .ok (.bipush 10, 2) := by decide +kernel
theorem dX9_sniff_140 : decode cX9_sniff 140 = .ok (.if_icmp .ne 31, 3) := by decide +kernel
theorem dX9_sniff_143 : decode cX9_sniff 143 = .ok (.aload_n 0, 1) := by decide +kernel
theorem dX9_sniff_144 : decode cX9_sniff 144 = .ok (.getfield 20, 3) := by decide +kernel
theorem dX9_sniff_147 : decode cX9_sniff 147 = .ok (.bipush 16, 2) := by decide +kernel
theorem dX9_sniff_149 : decode cX9_sniff 149 = .ok (.iaload, 1) := by decide +kernel
theorem dX9_sniff_150 : decode cX9_sniff 150 = .ok (.bipush 24, 2) := by decide +kernel
theorem dX9_sniff_152 : decode cX9_sniff 152 = .ok (.if_icmp .eq 15, 3) := by decide +kernel
theorem dX9_sniff_155 : decode cX9_sniff 155 = .ok (.aload_n 0, 1) := by decide +kernel
theorem dX9_sniff_156 : decode cX9_sniff 156 = .ok (.getfield 20, 3) := by decide +kernel
theorem dX9_sniff_159 : decode cX9_sniff 159 = .ok (.bipush 16, 2) := by decide +kernel
theorem dX9_sniff_161 : decode cX9_sniff 161 = .ok (.iaload, 1) := by decide +kernel
theorem dX9_sniff_162 : decode cX9_sniff 162 = .ok (.bipush 32, 2) := by decide +kernel
theorem dX9_sniff_164 : decode cX9_sniff 164 = .ok (.if_icmp .ne 7, 3) := by decide +kernel
theorem dX9_sniff_167 : decode cX9_sniff 167 = .ok (.iconst 1, 1) := by decide +kernel
theorem dX9_sniff_168 : decode cX9_sniff 168 = .ok (.goto 4, 3) := by decide +kernel
theorem dX9_sniff_171 : decode cX9_sniff 171 = .ok (.iconst 0, 1) := by decide +kernel
theorem dX9_sniff_172 : decode cX9_sniff 172 = .ok (.istore_n 1, 1) := by decide +kernel
theorem dX9_sniff_173 : decode cX9_sniff 173 = .ok (.aload_n 0, 1) := by decide +kernel
theorem dX9_sniff_174 : decode cX9_sniff 174 = .ok (.getfield 20, 3) := by decide +kernel
theorem dX9_sniff_177 : decode cX9_sniff 177 = .ok (.iconst 2, 1) := by decide +kernel
theorem dX9_sniff_178 : decode cX9_sniff 178 = .ok (.iaload, 1) := by decide +kernel
theorem dX9_sniff_179 : decode cX9_sniff 179 = .ok (.iconst 3, 1) := by decide +kernel
theorem dX9_sniff_180 : decode cX9_sniff 180 = .ok (.if_icmp .eq 14, 3) := by decide +kernel
theorem dX9_sniff_183 : decode cX9_sniff 183 = .ok (.aload_n 0, 1) := by decide +kernel
theorem dX9_sniff_184 : decode cX9_sniff 184 = .ok (.getfield 20, 3) := by decide +kernel
theorem dX9_sniff_187 : decode cX9_sniff 187 = .ok (.iconst 2, 1) := by decide +kernel
theorem dX9_sniff_188 : decode cX9_sniff 188 = .ok (.iaload, 1) := by decide +kernel
theorem dX9_sniff_189 : decode cX9_sniff 189 = .ok (.bipush 11, 2) := by decide +kernel
theorem dX9_sniff_191 : decode cX9_sniff 191 = .ok (.if_icmp .ne 19, 3) := by decide +kernel
theorem dX9_sniff_194 : decode cX9_sniff 194 = .ok (.aload_n 0, 1) := by decide +kernel
theorem dX9_sniff_195 : decode cX9_sniff 195 = .ok (.getfield 20, 3) := by decide +kernel
theorem dX9_sniff_198 : decode cX9_sniff 198 = .ok (.bipush 16, 2) := by decide +kernel
theorem dX9_sniff_200 : decode cX9_sniff 200 = .ok (.iaload, 1) := by decide +kernel
theorem dX9_sniff_201 : decode cX9_sniff 201 = .ok (.bipush 8, 2) := by decide +kernel
theorem dX9_sniff_203 : decode cX9_sniff 203 = .ok (.if_icmp .ne 7, 3) := by decide +kernel
theorem dX9_sniff_206 : decode cX9_sniff 206 = .ok (.iconst 1, 1) := by decide +kernel
theorem dX9_sniff_207 : decode cX9_sniff 207 = .ok (.goto 4, 3) := by decide +kernel
theorem dX9_sniff_210 : decode cX9_sniff 210 = .ok (.iconst 0, 1) := by decide +kernel
theorem dX9_sniff_211 : decode cX9_sniff 211 = .ok (.istore_n 2, 1) := by decide +kernel
theorem dX9_sniff_212 : decode cX9_sniff 212 = .ok (.iload_n 1, 1) := by decide +kernel
theorem dX9_sniff_213 : decode cX9_sniff 213 = .ok (.ifCond .ne 7, 3) := by decide +kernel
theorem dX9_sniff_216 : decode cX9_sniff 216 = .ok (.iload_n 2, 1) := by decide +kernel
theorem dX9_sniff_217 : decode cX9_sniff 217 = .ok (.ifCond .eq 7, 3) := by decide +kernel
theorem dX9_sniff_220 : decode cX9_sniff 220 = .ok (.iconst 3, 1) := by decide +kernel
theorem dX9_sniff_221 : decode cX9_sniff 221 = .ok (.goto 4, 3) := by decide +kernel
theorem dX9_sniff_224 : decode cX9_sniff 224 = .ok (.iconst (-1), 1) := by decide +kernel
theorem dX9_sniff_225 : decode cX9_sniff 225 = .ok (.ireturn, 1) := by decide +kernel
theorem dX9_add_0 : decode cX9_add 0 = .ok (.aload_n 0, 1) := by decide +kernel
theorem dX9_add_1 : decode cX9_add 1 = .ok (.getfield 20, 3) := by decide +kernel
theorem dX9_add_4 : decode cX9_add 4 = .ok (.aload_n 0, 1) := by decide +kernel
theorem dX9_add_5 : decode cX9_add 5 = .ok (.getfield 57, 3) := by decide +kernel
theorem dX9_add_8 : decode cX9_add 8 = .ok (.iload_n 1, 1) := by decide +kernel
theorem dX9_add_9 : decode cX9_add 9 = .ok (.sipush 255, 3) := by decide +kernel
theorem dX9_add_12 : decode cX9_add 12 = .ok (.iand, 1) := by decide +kernel
theorem dX9_add_13 : decode cX9_add 13 = .ok (.iastore, 1) := by decide +kernel
theorem dX9_add_14 : decode cX9_add 14 = .ok (.aload_n 0, 1) := by decide +kernel
theorem dX9_add_15 : decode cX9_add 15 = .ok (.dup, 1) := by decide +kernel
theorem dX9_add_16 : decode cX9_add 16 = .ok (.getfield 57, 3) := by decide +kernel
theorem dX9_add_19 : decode cX9_add 19 = .ok (.iconst 1, 1) := by decide +kernel
theorem dX9_add_20 : decode cX9_add 20 = .ok (.iadd, 1) := by decide +kernel
theorem dX9_add_21 : decode cX9_add 21 = .ok (.putfield 57, 3) := by decide +kernel
theorem dX9_add_24 : decode cX9_add 24 = .ok (.return_, 1) := by decide +kernel
set_option maxRecDepth 20000 in
theorem ggX9_addTwo_X9_add : GoodIn wsX9_addTwo wsX9_add := goodIn_r _ [5, 6, 7, 8, 9, 10, 11, 12, 13, 14, 15, 16, 17, 18, 19, 20, 21, 22] (by decide +kernel) (by decide +kernel)
set_option maxRecDepth 20000 in
theorem gX9_addTwo_X9_add : GoodIn wsX9_addTwo (wsV RX9 63 RX9 yX9_add wsX9_add) := goodIn_app (goodIn_of _ (by decide +kernel)) ggX9_addTwo_X9_add
theorem dX9_addTwo_0 : decode cX9_addTwo 0 = .ok (.aload_n 0, 1) := by decide +kernel
theorem dX9_addTwo_1 : decode cX9_addTwo 1 = .ok (.iload_n 1, 1) := by decide +kernel
theorem dX9_addTwo_2 : decode cX9_addTwo 2 = .ok (.invokevirtual 63, 3) := by decide +kernel
theorem dX9_addTwo_5 : decode cX9_addTwo 5 = .ok (.aload_n 0, 1) := by decide +kernel
theorem dX9_addTwo_6 : decode cX9_addTwo 6 = .ok (.iload_n 2, 1) := by decide +kernel
theorem dX9_addTwo_7 : decode cX9_addTwo 7 = .ok (.invokevirtual 63, 3) := by decide +kernel
theorem dX9_addTwo_10 : decode cX9_addTwo 10 = .ok (.return_, 1) := by decide +kernel
set_option maxRecDepth 20000 in
theorem ggX9_little_X9_add : GoodIn wsX9_little wsX9_add := goodIn_r _ [5, 6, 7, 8, 9, 10, 11, 12, 13, 14, 15, 16, 17, 18, 19, 20, 21, 22] (by decide +kernel) (by decide +kernel)
set_option maxRecDepth 20000 in
theorem gX9_little_X9_add : GoodIn wsX9_little (wsV RX9 63 RX9 yX9_add wsX9_add) := goodIn_app (goodIn_of _ (by decide +kernel)) ggX9_little_X9_add
theorem dX9_little_0 : decode cX9_little 0 = .ok (.iconst 0, 1) := by decide +kernel
theorem dX9_little_1 : decode cX9_little 1 = .ok (.istore_n 3, 1) := by decide +kernel
theorem dX9_little_2 : decode cX9_little 2 = .ok (.iload_n 3, 1) := by decide +kernel
theorem dX9_little_3 : decode cX9_little 3 = .ok (.iload_n 2, 1) := by decide +kernel
theorem dX9_little_4 : decode cX9_little 4 = .ok (.if_icmp .ge 19, 3) := by decide +kernel
theorem dX9_little_7 : decode cX9_little 7 = .ok (.aload_n 0, 1) := by decide +kernel
theorem dX9_little_8 : decode cX9_little 8 = .ok (.iload_n 1, 1) := by decide +kernel
theorem dX9_little_9 : decode cX9_little 9 = .ok (.bipush 8, 2) := by decide +kernel
theorem dX9_little_11 : decode cX9_little 11 = .ok (.iload_n 3, 1) := by decide +kernel
theorem dX9_little_12 : decode cX9_little 12 = .ok (.imul, 1) := by decide +kernel
theorem dX9_little_13 : decode cX9_little 13 = .ok (.ishr, 1) := by decide +kernel
theorem dX9_little_14 : decode cX9_little 14 = .ok (.invokevirtual 63, 3) := by decide +kernel
theorem dX9_little_17 : decode cX9_little 17 = .ok (.iinc 3 1, 3) := by decide +kernel
theorem dX9_little_20 : decode cX9_little 20 = .ok (.goto (-18), 3) := by decide +kernel
theorem dX9_little_23 : decode cX9_little 23 = .ok (.return_, 1) := by decide +kernel
set_option maxRecDepth 20000 in
theorem ggX9_big_X9_add : GoodIn wsX9_big wsX9_add := goodIn_r _ [5, 6, 7, 8, 9, 10, 11, 12, 13, 14, 15, 16, 17, 18, 19, 20, 21, 22] (by decide +kernel) (by decide +kernel)
set_option maxRecDepth 20000 in
theorem gX9_big_X9_add : GoodIn wsX9_big (wsV RX9 63 RX9 yX9_add wsX9_add) := goodIn_app (goodIn_of _ (by decide +kernel)) ggX9_big_X9_add
theorem dX9_big_0 : decode cX9_big 0 = .ok (.iconst 3, 1) := by decide +kernel
theorem dX9_big_1 : decode cX9_big 1 = .ok (.istore_n 2, 1) := by decide +kernel
theorem dX9_big_2 : decode cX9_big 2 = .ok (.iload_n 2, 1) := by decide +kernel
theorem dX9_big_3 : decode cX9_big 3 = .ok (.ifCond .lt 19, 3) := by decide +kernel
theorem dX9_big_6 : decode cX9_big 6 = .ok (.aload_n 0, 1) := by decide +kernel
theorem dX9_big_7 : decode cX9_big 7 = .ok (.iload_n 1, 1) := by decide +kernel
theorem dX9_big_8 : decode cX9_big 8 = .ok (.bipush 8, 2) := by decide +kernel
theorem dX9_big_10 : decode cX9_big 10 = .ok (.iload_n 2, 1) := by decide +kernel
theorem dX9_big_11 : decode cX9_big 11 = .ok (.imul, 1) := by decide +kernel
theorem dX9_big_12 : decode cX9_big 12 = .ok (.ishr, 1) := by decide +kernel
theorem dX9_big_13 : decode cX9_big 13 = .ok (.invokevirtual 63, 3) := by decide +kernel
theorem dX9_big_16 : decode cX9_big 16 = .ok (.iinc 2 (-1), 3) := by decide +kernel
theorem dX9_big_19 : decode cX9_big 19 = .ok (.goto (-17), 3) := by decide +kernel
theorem dX9_big_22 : decode cX9_big 22 = .ok (.return_, 1) := by decide +kernel
set_option maxRecDepth 20000 in
theorem ggX9_backwards_X9_channel : GoodIn wsX9_backwards wsX9_channel := goodIn_r _ [5, 6, 7, 14, 15, 16, 17, 18, 19, 20, 21, 22, 23, 24, 25, 26, 27, 28] (by decide +kernel) (by decide +kernel)
set_option maxRecDepth 20000 in
theorem gX9_backwards_X9_channel : GoodIn wsX9_backwards (wsV RX9 49 RX9 yX9_channel wsX9_channel) := goodIn_app (goodIn_of _ (by decide +kernel)) ggX9_backwards_X9_channel
set_option maxRecDepth 20000 in
theorem ggX9_backwards_X9_add : GoodIn wsX9_backwards wsX9_add := goodIn_r _ [11, 12, 13, 14, 15, 16, 17, 18, 19, 20, 21, 22, 23, 24, 25, 26, 27, 28] (by decide +kernel) (by decide +kernel)
set_option maxRecDepth 20000 in
theorem gX9_backwards_X9_add : GoodIn wsX9_backwards (wsV RX9 63 RX9 yX9_add wsX9_add) := goodIn_app (goodIn_of _ (by decide +kernel)) ggX9_backwards_X9_add
theorem dX9_backwards_0 : decode cX9_backwards 0 = .ok (.aload_n 0, 1) := by decide +kernel
theorem dX9_backwards_1 : decode cX9_backwards 1 = .ok (.aload_n 0, 1) := by decide +kernel
theorem dX9_backwards_2 : decode cX9_backwards 2 = .ok (.iload_n 1, 1) := by decide +kernel
theorem dX9_backwards_3 : decode cX9_backwards 3 = .ok (.iconst 2, 1) := by decide +kernel
theorem dX9_backwards_4 : decode cX9_backwards 4 = .ok (.invokevirtual 49, 3) := by decide +kernel
theorem dX9_backwards_7 : decode cX9_backwards 7 = .ok (.invokevirtual 63, 3) := by decide +kernel
