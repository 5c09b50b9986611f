theorem dX7_init_0 : decode cX7_init 0 = .ok (.aload_n 0, 1) := by decide +kernel
theorem dX7_init_1 : decode cX7_init 1 = .ok (.invokespecial 1, 3) := by decide +kernel
theorem dX7_init_4 : decode cX7_init 4 = .ok (.aload_n 0, 1) := by decide +kernel
theorem dX7_init_5 : decode cX7_init 5 = .ok (.bipush 48, 2) := by decide +kernel
theorem dX7_init_7 : decode cX7_init 7 = .ok (.newarray .int, 2) := by decide +kernel
theorem dX7_init_9 : decode cX7_init 9 = .ok (.putfield 7, 3) := by decide +kernel
theorem dX7_init_12 : decode cX7_init 12 = .ok (.aload_n 0, 1) := by decide +kernel
theorem dX7_init_13 : decode cX7_init 13 = .ok (.bipush 36, 2) := by decide +kernel
theorem dX7_init_15 : decode cX7_init 15 = .ok (.newarray .int, 2) := by decide +kernel
theorem dX7_init_17 : decode cX7_init 17 = .ok (.putfield 13, 3) := by decide +kernel
theorem dX7_init_20 : decode cX7_init 20 = .ok (.aload_n 0, 1) := by decide +kernel
theorem dX7_init_21 : decode cX7_init 21 = .ok (.sipush 200, 3) := by decide +kernel
theorem dX7_init_24 : decode cX7_init 24 = .ok (.newarray .int, 2) := by decide +kernel
theorem dX7_init_26 : decode cX7_init 26 = .ok (.putfield 16, 3) := by decide +kernel
theorem dX7_init_29 : decode cX7_init 29 = .ok (.aload_n 0, 1) := by decide +kernel
theorem dX7_init_30 : decode cX7_init 30 = .ok (.bipush 48, 2) := by decide +kernel
theorem dX7_init_32 : decode cX7_init 32 = .ok (.newarray .int, 2) := by decide +kernel
theorem dX7_init_34 : decode cX7_init 34 = .ok (.putfield 19, 3) := by decide +kernel
theorem dX7_init_37 : decode cX7_init 37 = .ok (.aload_n 0, 1) := by decide +kernel
theorem dX7_init_38 : decode cX7_init 38 = .ok (.sipush 4320, 3) := by decide +kernel
theorem dX7_init_41 : decode cX7_init 41 = .ok (.newarray .int, 2) := by decide +kernel
theorem dX7_init_43 : decode cX7_init 43 = .ok (.putfield 22, 3) := by decide +kernel
theorem dX7_init_46 : decode cX7_init 46 = .ok (.aload_n 0, 1) := by decide +kernel
theorem dX7_init_47 : decode cX7_init 47 = .ok (.sipush 720, 3) := by decide +kernel
theorem dX7_init_50 : decode cX7_init 50 = .ok (.newarray .int, 2) := by decide +kernel
theorem dX7_init_52 : decode cX7_init 52 = .ok (.putfield 25, 3) := by decide +kernel
theorem dX7_init_55 : decode cX7_init 55 = .ok (.aload_n 0, 1) := by decide +kernel
theorem dX7_init_56 : decode cX7_init 56 = .ok (.sipush 180, 3) := by decide +kernel
theorem dX7_init_59 : decode cX7_init 59 = .ok (.newarray .int, 2) := by decide +kernel
theorem dX7_init_61 : decode cX7_init 61 = .ok (.putfield 28, 3) := by decide +kernel
theorem dX7_init_64 : decode cX7_init 64 = .ok (.aload_n 0, 1) := by decide +kernel
theorem dX7_init_65 : decode cX7_init 65 = .ok (.iconst 2, 1) := by decide +kernel
theorem dX7_init_66 : decode cX7_init 66 = .ok (.newarray .boolean, 2) := by decide +kernel
theorem dX7_init_68 : decode cX7_init 68 = .ok (.putfield 31, 3) := by decide +kernel
theorem dX7_init_71 : decode cX7_init 71 = .ok (.aload_n 0, 1) := by decide +kernel
theorem dX7_init_72 : decode cX7_init 72 = .ok (.bipush 6, 2) := by decide +kernel
theorem dX7_init_74 : decode cX7_init 74 = .ok (.newarray .int, 2) := by decide +kernel
theorem dX7_init_76 : decode cX7_init 76 = .ok (.putfield 35, 3) := by decide +kernel
theorem dX7_init_79 : decode cX7_init 79 = .ok (.aload_n 0, 1) := by decide +kernel
theorem dX7_init_80 : decode cX7_init 80 = .ok (.bipush 6, 2) := by decide +kernel
theorem dX7_init_82 : decode cX7_init 82 = .ok (.newarray .int, 2) := by decide +kernel
theorem dX7_init_84 : decode cX7_init 84 = .ok (.putfield 38, 3) := by decide +kernel
theorem dX7_init_87 : decode cX7_init 87 = .ok (.return_, 1) := by decide +kernel
theorem dX7_in_0 : decode cX7_in 0 = .ok (.iload_n 0, 1) := by decide +kernel
theorem dX7_in_1 : decode cX7_in 1 = .ok (.iload_n 1, 1) := by decide +kernel
theorem dX7_in_2 : decode cX7_in 2 = .ok (.if_icmp .lt 12, 3) := by decide +kernel
theorem dX7_in_5 : decode cX7_in 5 = .ok (.iload_n 0, 1) := by decide +kernel
theorem dX7_in_6 : decode cX7_in 6 = .ok (.iload_n 2, 1) := by decide +kernel
theorem dX7_in_7 : decode cX7_in 7 = .ok (.if_icmp .gt 7, 3) := by decide +kernel
theorem dX7_in_10 : decode cX7_in 10 = .ok (.iconst 1, 1) := by decide +kernel
theorem dX7_in_11 : decode cX7_in 11 = .ok (.goto 4, 3) := by decide +kernel
theorem dX7_in_14 : decode cX7_in 14 = .ok (.iconst 0, 1) := by decide +kernel
theorem dX7_in_15 : decode cX7_in 15 = .ok (.ireturn, 1) := by decide +kernel
theorem dX7_has_0 : decode cX7_has 0 = .ok (.iload_n 0, 1) := by decide +kernel
theorem dX7_has_1 : decode cX7_has 1 = .ok (.iload_n 1, 1) := by decide +kernel
theorem dX7_has_2 : decode cX7_has 2 = .ok (.ishr, 1) := by decide +kernel
theorem dX7_has_3 : decode cX7_has 3 = .ok (.iconst 1, 1) := by decide +kernel
theorem dX7_has_4 : decode cX7_has 4 = .ok (.iand, 1) := by decide +kernel
theorem dX7_has_5 : decode cX7_has 5 = .ok (.iconst 1, 1) := by decide +kernel
theorem dX7_has_6 : decode cX7_has 6 = .ok (.if_icmp .ne 7, 3) := by decide +kernel
theorem dX7_has_9 : decode cX7_has 9 = .ok (.iconst 1, 1) := by decide +kernel
theorem dX7_has_10 : decode cX7_has 10 = .ok (.goto 4, 3) := by decide +kernel
theorem dX7_has_13 : decode cX7_has 13 = .ok (.iconst 0, 1) := by decide +kernel
theorem dX7_has_14 : decode cX7_has 14 = .ok (.ireturn, 1) := by decide +kernel
theorem dX7_bits_0 : decode cX7_bits 0 = .ok (.iconst 0, 1) := by decide +kernel
theorem dX7_bits_1 : decode cX7_bits 1 = .ok (.istore_n 1, 1) := by decide +kernel
theorem dX7_bits_2 : decode cX7_bits 2 = .ok (.iconst 0, 1) := by decide +kernel
theorem dX7_bits_3 : decode cX7_bits 3 = .ok (.istore_n 2, 1) := by decide +kernel
theorem dX7_bits_4 : decode cX7_bits 4 = .ok (.iload_n 2, 1) := by decide +kernel
theorem dX7_bits_5 : decode cX7_bits 5 = .ok (.bipush 8, 2) := by decide +kernel
theorem dX7_bits_7 : decode cX7_bits 7 = .ok (.if_icmp .ge 17, 3) := by decide +kernel
theorem dX7_bits_10 : decode cX7_bits 10 = .ok (.iload_n 1, 1) := by decide +kernel
theorem dX7_bits_11 : decode cX7_bits 11 = .ok (.iload_n 0, 1) := by decide +kernel
theorem dX7_bits_12 : decode cX7_bits 12 = .ok (.iload_n 2, 1) := by decide +kernel
theorem dX7_bits_13 : decode cX7_bits 13 = .ok (.ishr, 1) := by decide +kernel
theorem dX7_bits_14 : decode cX7_bits 14 = .ok (.iconst 1, 1) := by decide +kernel
theorem dX7_bits_15 : decode cX7_bits 15 = .ok (.iand, 1) := by decide +kernel
theorem dX7_bits_16 : decode cX7_bits 16 = .ok (.iadd, 1) := by decide +kernel
theorem dX7_bits_17 : decode cX7_bits 17 = .ok (.istore_n 1, 1) := by decide +kernel
theorem dX7_bits_18 : decode cX7_bits 18 = .ok (.iinc 2 1, 3) := by decide +kernel
theorem dX7_bits_21 : decode cX7_bits 21 = .ok (.goto (-17), 3) := by decide +kernel
theorem dX7_bits_24 : decode cX7_bits 24 = .ok (.iload_n 1, 1) := by decide +kernel
theorem dX7_bits_25 : decode cX7_bits 25 = .ok (.ireturn, 1) := by decide +kernel
set_option maxRecDepth 20000 in
theorem ggX7_isClock_X7_in : GoodIn wsX7_isClock wsX7_in := goodIn_r _ [5] (by decide +kernel) (by decide +kernel)
set_option maxRecDepth 20000 in
theorem gX7_isClock_X7_in : GoodIn wsX7_isClock (va_wsS RX7 41 yX7_in wsX7_in) := goodIn_app (goodIn_of _ (by decide +kernel)) ggX7_isClock_X7_in
set_option maxRecDepth 20000 in
theorem ggX7_isClock_X7_has : GoodIn wsX7_isClock wsX7_has := goodIn_r _ [8] (by decide +kernel) (by decide +kernel)
set_option maxRecDepth 20000 in
theorem gX7_isClock_X7_has : GoodIn wsX7_isClock (va_wsS RX7 49 yX7_has wsX7_has) := goodIn_app (goodIn_of _ (by decide +kernel)) ggX7_isClock_X7_has
theorem dX7_isClock_0 : decode cX7_isClock 0 = .ok (.iload_n 1, 1) := by decide +kernel
theorem dX7_isClock_1 : decode cX7_isClock 1 = .ok (.iconst 0, 1) := by decide +kernel
theorem dX7_isClock_2 : decode cX7_isClock 2 = .ok (.bipush 7, 2) := by decide +kernel
theorem dX7_isClock_4 : decode cX7_isClock 4 = .ok (.invokestatic 41, 3) := by decide +kernel
theorem dX7_isClock_7 : decode cX7_isClock 7 = .ok (.ifCond .eq 18, 3) := by decide +kernel
theorem dX7_isClock_10 : decode cX7_isClock 10 = .ok (.aload_n 0, 1) := by decide +kernel
theorem dX7_isClock_11 : decode cX7_isClock 11 = .ok (.getfield 45, 3) := by decide +kernel
theorem dX7_isClock_14 : decode cX7_isClock 14 = .ok (.iload_n 1, 1) := by decide +kernel
theorem dX7_isClock_15 : decode cX7_isClock 15 = .ok (.invokestatic 49, 3) := by decide +kernel
theorem dX7_isClock_18 : decode cX7_isClock 18 = .ok (.ifCond .eq 7, 3) := by decide +kernel
theorem dX7_isClock_21 : decode cX7_isClock 21 = .ok (.iconst 1, 1) := by decide +kernel
theorem dX7_isClock_22 : decode cX7_isClock 22 = .ok (.goto 4, 3) := by decide +kernel
theorem dX7_isClock_25 : decode cX7_isClock 25 = .ok (.iconst 0, 1) := by decide +kernel
theorem dX7_isClock_26 : decode cX7_isClock 26 = .ok (.ireturn, 1) := by decide +kernel
set_option maxRecDepth 20000 in
theorem ggX7_write_X7_in : GoodIn wsX7_write wsX7_in := goodIn_r _ [7] (by decide +kernel) (by decide +kernel)
set_option maxRecDepth 20000 in
theorem gX7_write_X7_in : GoodIn wsX7_write (va_wsS RX7 41 yX7_in wsX7_in) := goodIn_app (goodIn_of _ (by decide +kernel)) ggX7_write_X7_in
theorem dX7_write_0 : decode cX7_write 0 = .ok (.iload_n 3, 1) := by decide +kernel
theorem dX7_write_1 : decode cX7_write 1 = .ok (.iconst 1, 1) := by decide +kernel
theorem dX7_write_2 : decode cX7_write 2 = .ok (.bipush 8, 2) := by decide +kernel
theorem dX7_write_4 : decode cX7_write 4 = .ok (.invokestatic 41, 3) := by decide +kernel
theorem dX7_write_7 : decode cX7_write 7 = .ok (.ifCond .ne 6, 3) := by decide +kernel
theorem dX7_write_10 : decode cX7_write 10 = .ok (.bipush (-3), 2) := by decide +kernel
theorem dX7_write_12 : decode cX7_write 12 = .ok (.ireturn, 1) := by decide +kernel
theorem dX7_write_13 : decode cX7_write 13 = .ok (.aload_n 0, 1) := by decide +kernel
theorem dX7_write_14 : decode cX7_write 14 = .ok (.getfield 53, 3) := by decide +kernel
theorem dX7_write_17 : decode cX7_write 17 = .ok (.iload_n 3, 1) := by decide +kernel
theorem dX7_write_18 : decode cX7_write 18 = .ok (.iadd, 1) := by decide +kernel
theorem dX7_write_19 : decode cX7_write 19 = .ok (.sipush 200, 3) := by decide +kernel
theorem dX7_write_22 : decode cX7_write 22 = .ok (.if_icmp .le 6, 3) := by decide +kernel
theorem dX7_write_25 : decode cX7_write 25 = .ok (.bipush (-5), 2) := by decide +kernel
theorem dX7_write_27 : decode cX7_write 27 = .ok (.ireturn, 1) := by decide +kernel
theorem dX7_write_28 : decode cX7_write 28 = .ok (.iconst 0, 1) := by decide +kernel
theorem dX7_write_29 : decode cX7_write 29 = .ok (.istore 4, 2) := by decide +kernel
theorem dX7_write_31 : decode cX7_write 31 = .ok (.iload 4, 2) := by decide +kernel
theorem dX7_write_33 : decode cX7_write 33 = .ok (.iload_n 3, 1) := by decide +kernel
theorem dX7_write_34 : decode cX7_write 34 = .ok (.if_icmp .ge 33, 3) := by decide +kernel
theorem dX7_write_37 : decode cX7_write 37 = .ok (.aload_n 0, 1) := by decide +kernel
theorem dX7_write_38 : decode cX7_write 38 = .ok (.getfield 16, 3) := by decide +kernel
theorem dX7_write_41 : decode cX7_write 41 = .ok (.aload_n 0, 1) := by decide +kernel
theorem dX7_write_42 : decode cX7_write 42 = .ok (.getfield 53, 3) := by decide +kernel
theorem dX7_write_45 : decode cX7_write 45 = .ok (.iload 4, 2) := by decide +kernel
theorem dX7_write_47 : decode cX7_write 47 = .ok (.iadd, 1) := by decide +kernel
theorem dX7_write_48 : decode cX7_write 48 = .ok (.lload_n 1, 1) := by decide +kernel
theorem dX7_write_49 : decode cX7_write 49 = .ok (.bipush 8, 2) := by decide +kernel
theorem dX7_write_51 : decode cX7_write 51 = .ok (.iload 4, 2) := by decide +kernel
theorem dX7_write_53 : decode cX7_write 53 = .ok (.imul, 1) := by decide +kernel
theorem dX7_write_54 : decode cX7_write 54 = .ok (.lshr, 1) := by decide +kernel
theorem dX7_write_55 : decode cX7_write 55 = .ok (.ldc2_w 56, 3) := by decide +kernel
theorem dX7_write_58 : decode cX7_write 58 = .ok (.land, 1) := by decide +kernel
theorem dX7_write_59 : decode cX7_write 59 = .ok (.l2i, 1) := by decide +kernel
theorem dX7_write_60 : decode cX7_write 60 = .ok (.iastore, 1) := by decide +kernel
theorem dX7_write_61 : decode cX7_write 61 = .ok (.iinc 4 1, 3) := by decide +kernel
theorem dX7_write_64 : decode cX7_write 64 = .ok (.goto (-33), 3) := by decide +kernel
theorem dX7_write_67 : decode cX7_write 67 = .ok (.aload_n 0, 1) := by decide +kernel
theorem dX7_write_68 : decode cX7_write 68 = .ok (.dup, 1) := by decide +kernel
theorem dX7_write_69 : decode cX7_write 69 = .ok (.getfield 53, 3) := by decide +kernel
theorem dX7_write_72 : decode cX7_write 72 = .ok (.iload_n 3, 1) := by decide +kernel
theorem dX7_write_73 : decode cX7_write 73 = .ok (.iadd, 1) := by decide +kernel
theorem dX7_write_74 : decode cX7_write 74 = .ok (.putfield 53, 3) := by decide +kernel
theorem dX7_write_77 : decode cX7_write 77 = .ok (.aload_n 0, 1) := by decide +kernel
theorem dX7_write_78 : decode cX7_write 78 = .ok (.getfield 53, 3) := by decide +kernel
theorem dX7_write_81 : decode cX7_write 81 = .ok (.ireturn, 1) := by decide +kernel
theorem dX7_erase_0 : decode cX7_erase 0 = .ok (.aload_n 0, 1) := by decide +kernel
theorem dX7_erase_1 : decode cX7_erase 1 = .ok (.getfield 53, 3) := by decide +kernel
theorem dX7_erase_4 : decode cX7_erase 4 = .ok (.istore_n 1, 1) := by decide +kernel
theorem dX7_erase_5 : decode cX7_erase 5 = .ok (.aload_n 0, 1) := by decide +kernel
theorem dX7_erase_6 : decode cX7_erase 6 = .ok (.iconst 0, 1) := by decide +kernel
theorem dX7_erase_7 : decode cX7_erase 7 = .ok (.putfield 53, 3) := by decide +kernel
theorem dX7_erase_10 : decode cX7_erase 10 = .ok (.iload_n 1, 1) := by decide +kernel
theorem dX7_erase_11 : decode cX7_erase 11 = .ok (.ireturn, 1) := by decide +kernel
set_option maxRecDepth 20000 in
theorem ggX7_nextToken_X7_in : GoodIn wsX7_nextToken wsX7_in := goodIn_r _ [17] (by decide +kernel) (by decide +kernel)
set_option maxRecDepth 20000 in
theorem gX7_nextToken_X7_in : GoodIn wsX7_nextToken (va_wsS RX7 41 yX7_in wsX7_in) := goodIn_app (goodIn_of _ (by decide +kernel)) ggX7_nextToken_X7_in
theorem dX7_nextToken_0 : decode cX7_nextToken 0 = .ok (.aload_n 0, 1) := by decide +kernel
theorem dX7_nextToken_1 : decode cX7_nextToken 1 = .ok (.getfield 58, 3) := by decide +kernel
theorem dX7_nextToken_4 : decode cX7_nextToken 4 = .ok (.aload_n 0, 1) := by decide +kernel
theorem dX7_nextToken_5 : decode cX7_nextToken 5 = .ok (.getfield 53, 3) := by decide +kernel
theorem dX7_nextToken_8 : decode cX7_nextToken 8 = .ok (.if_icmp .ge 30, 3) := by decide +kernel
theorem dX7_nextToken_11 : decode cX7_nextToken 11 = .ok (.aload_n 0, 1) := by decide +kernel
theorem dX7_nextToken_12 : decode cX7_nextToken 12 = .ok (.getfield 16, 3) := by decide +kernel
theorem dX7_nextToken_15 : decode cX7_nextToken 15 = .ok (.aload_n 0, 1) := by decide +kernel
theorem dX7_nextToken_16 : decode cX7_nextToken 16 = .ok (.getfield 58, 3) := by decide +kernel
theorem dX7_nextToken_19 : decode cX7_nextToken 19 = .ok (.iaload, 1) := by decide +kernel
theorem dX7_nextToken_20 : decode cX7_nextToken 20 = .ok (.bipush 32, 2) := by decide +kernel
theorem dX7_nextToken_22 : decode cX7_nextToken 22 = .ok (.if_icmp .ne 16, 3) := by decide +kernel
theorem dX7_nextToken_25 : decode cX7_nextToken 25 = .ok (.aload_n 0, 1) := by decide +kernel
theorem dX7_nextToken_26 : decode cX7_nextToken 26 = .ok (.dup, 1) := by decide +kernel
theorem dX7_nextToken_27 : decode cX7_nextToken 27 = .ok (.getfield 58, 3) := by decide +kernel
theorem dX7_nextToken_30 : decode cX7_nextToken 30 = .ok (.iconst 1, 1) := by decide +kernel
theorem dX7_nextToken_31 : decode cX7_nextToken 31 = .ok (.iadd, 1) := by decide +kernel
theorem dX7_nextToken_32 : decode cX7_nextToken 32 = .ok (.putfield 58, 3) := by decide +kernel
theorem dX7_nextToken_35 : decode cX7_nextToken 35 = .ok (.goto (-35), 3) := by decide +kernel
theorem dX7_nextToken_38 : decode cX7_nextToken 38 = .ok (.aload_n 0, 1) := by decide +kernel
theorem dX7_nextToken_39 : decode cX7_nextToken 39 = .ok (.aload_n 0, 1) := by decide +kernel
theorem dX7_nextToken_40 : decode cX7_nextToken 40 = .ok (.getfield 58, 3) := by decide +kernel
theorem dX7_nextToken_43 : decode cX7_nextToken 43 = .ok (.putfield 61, 3) := by decide +kernel
theorem dX7_nextToken_46 : decode cX7_nextToken 46 = .ok (.aload_n 0, 1) := by decide +kernel
theorem dX7_nextToken_47 : decode cX7_nextToken 47 = .ok (.iconst 0, 1) := by decide +kernel
theorem dX7_nextToken_48 : decode cX7_nextToken 48 = .ok (.putfield 64, 3) := by decide +kernel
theorem dX7_nextToken_51 : decode cX7_nextToken 51 = .ok (.aload_n 0, 1) := by decide +kernel
theorem dX7_nextToken_52 : decode cX7_nextToken 52 = .ok (.iconst 0, 1) := by decide +kernel
theorem dX7_nextToken_53 : decode cX7_nextToken 53 = .ok (.putfield 67, 3) := by decide +kernel
theorem dX7_nextToken_56 : decode cX7_nextToken 56 = .ok (.aload_n 0, 1) := by decide +kernel
theorem dX7_nextToken_57 : decode cX7_nextToken 57 = .ok (.getfield 58, 3) := by decide +kernel
theorem dX7_nextToken_60 : decode cX7_nextToken 60 = .ok (.aload_n 0, 1) := by decide +kernel
theorem dX7_nextToken_61 : decode cX7_nextToken 61 = .ok (.getfield 53, 3) := by decide +kernel
theorem dX7_nextToken_64 : decode cX7_nextToken 64 = .ok (.if_icmp .ne 13, 3) := by decide +kernel
theorem dX7_nextToken_67 : decode cX7_nextToken 67 = .ok (.aload_n 0, 1) := by decide +kernel
theorem dX7_nextToken_68 : decode cX7_nextToken 68 = .ok (.ldc2_w 70, 3) := by decide +kernel
theorem dX7_nextToken_71 : decode cX7_nextToken 71 = .ok (.putfield 72, 3) := by decide +kernel
theorem dX7_nextToken_74 : decode cX7_nextToken 74 = .ok (.goto 320, 3) := by decide +kernel
theorem dX7_nextToken_77 : decode cX7_nextToken 77 = .ok (.aload_n 0, 1) := by decide +kernel
theorem dX7_nextToken_78 : decode cX7_nextToken 78 = .ok (.getfield 16, 3) := by decide +kernel
theorem dX7_nextToken_81 : decode cX7_nextToken 81 = .ok (.aload_n 0, 1) := by decide +kernel
theorem dX7_nextToken_82 : decode cX7_nextToken 82 = .ok (.getfield 58, 3) := by decide +kernel
theorem dX7_nextToken_85 : decode cX7_nextToken 85 = .ok (.iaload, 1) := by decide +kernel
theorem dX7_nextToken_86 : decode cX7_nextToken 86 = .ok (.bipush 97, 2) := by decide +kernel
theorem dX7_nextToken_88 : decode cX7_nextToken 88 = .ok (.bipush 122, 2) := by decide +kernel
theorem dX7_nextToken_90 : decode cX7_nextToken 90 = .ok (.invokestatic 41, 3) := by decide +kernel
theorem dX7_nextToken_93 : decode cX7_nextToken 93 = .ok (.ifCond .eq 129, 3) := by decide +kernel
theorem dX7_nextToken_96 : decode cX7_nextToken 96 = .ok (.aload_n 0, 1) := by decide +kernel
theorem dX7_nextToken_97 : decode cX7_nextToken 97 = .ok (.lconst 0, 1) := by decide +kernel
theorem dX7_nextToken_98 : decode cX7_nextToken 98 = .ok (.putfield 72, 3) := by decide +kernel
theorem dX7_nextToken_101 : decode cX7_nextToken 101 = .ok (.aload_n 0, 1) := by decide +kernel
theorem dX7_nextToken_102 : decode cX7_nextToken 102 = .ok (.getfield 58, 3) := by decide +kernel
theorem dX7_nextToken_105 : decode cX7_nextToken 105 = .ok (.aload_n 0, 1) := by decide +kernel
theorem dX7_nextToken_106 : decode cX7_nextToken 106 = .ok (.getfield 53, 3) := by decide +kernel
theorem dX7_nextToken_109 : decode cX7_nextToken 109 = .ok (.if_icmp .ge 82, 3) := by decide +kernel
theorem dX7_nextToken_112 : decode cX7_nextToken 112 = .ok (.aload_n 0, 1) := by decide +kernel
theorem dX7_nextToken_113 : decode cX7_nextToken 113 = .ok (.getfield 16, 3) := by decide +kernel
theorem dX7_nextToken_116 : decode cX7_nextToken 116 = .ok (.aload_n 0, 1) := by decide +kernel
theorem dX7_nextToken_117 : decode cX7_nextToken 117 = .ok (.getfield 58, 3) := by decide +kernel
theorem dX7_nextToken_120 : decode cX7_nextToken 120 = .ok (.iaload, 1) := by decide +kernel
theorem dX7_nextToken_121 : decode cX7_nextToken 121 = .ok (.bipush 97, 2) := by decide +kernel
theorem dX7_nextToken_123 : decode cX7_nextToken 123 = .ok (.bipush 122, 2) := by decide +kernel
theorem dX7_nextToken_125 : decode cX7_nextToken 125 = .ok (.invokestatic 41, 3) := by decide +kernel
theorem dX7_nextToken_128 : decode cX7_nextToken 128 = .ok (.ifCond .eq 63, 3) := by decide +kernel
theorem dX7_nextToken_131 : decode cX7_nextToken 131 = .ok (.aload_n 0, 1) := by decide +kernel
theorem dX7_nextToken_132 : decode cX7_nextToken 132 = .ok (.aload_n 0, 1) := by decide +kernel
theorem dX7_nextToken_133 : decode cX7_nextToken 133 = .ok (.getfield 58, 3) := by decide +kernel
theorem dX7_nextToken_136 : decode cX7_nextToken 136 = .ok (.aload_n 0, 1) := by decide +kernel
theorem dX7_nextToken_137 : decode cX7_nextToken 137 = .ok (.getfield 61, 3) := by decide +kernel
theorem dX7_nextToken_140 : decode cX7_nextToken 140 = .ok (.isub, 1) := by decide +kernel
theorem dX7_nextToken_141 : decode cX7_nextToken 141 = .ok (.bipush 9, 2) := by decide +kernel
theorem dX7_nextToken_143 : decode cX7_nextToken 143 = .ok (.if_icmp .ge 29, 3) := by decide +kernel
theorem dX7_nextToken_146 : decode cX7_nextToken 146 = .ok (.ldc2_w 76, 3) := by decide +kernel
theorem dX7_nextToken_149 : decode cX7_nextToken 149 = .ok (.aload_n 0, 1) := by decide +kernel
theorem dX7_nextToken_150 : decode cX7_nextToken 150 = .ok (.getfield 72, 3) := by decide +kernel
theorem dX7_nextToken_153 : decode cX7_nextToken 153 = .ok (.lmul, 1) := by decide +kernel
theorem dX7_nextToken_154 : decode cX7_nextToken 154 = .ok (.aload_n 0, 1) := by decide +kernel
theorem dX7_nextToken_155 : decode cX7_nextToken 155 = .ok (.getfield 16, 3) := by decide +kernel
theorem dX7_nextToken_158 : decode cX7_nextToken 158 = .ok (.aload_n 0, 1) := by decide +kernel
theorem dX7_nextToken_159 : decode cX7_nextToken 159 = .ok (.getfield 58, 3) := by decide +kernel
theorem dX7_nextToken_162 : decode cX7_nextToken 162 = .ok (.iaload, 1) := by decide +kernel
theorem dX7_nextToken_163 : decode cX7_nextToken 163 = .ok (.i2l, 1) := by decide +kernel
theorem dX7_nextToken_164 : decode cX7_nextToken 164 = .ok (.ladd, 1) := by decide +kernel
theorem dX7_nextToken_165 : decode cX7_nextToken 165 = .ok (.ldc2_w 78, 3) := by decide +kernel
theorem dX7_nextToken_168 : decode cX7_nextToken 168 = .ok (.lsub, 1) := by decide +kernel
theorem dX7_nextToken_169 : decode cX7_nextToken 169 = .ok (.goto 6, 3) := by decide +kernel
theorem dX7_nextToken_172 : decode cX7_nextToken 172 = .ok (.ldc2_w 80, 3) := by decide +kernel
theorem dX7_nextToken_175 : decode cX7_nextToken 175 = .ok (.putfield 72, 3) := by decide +kernel
theorem dX7_nextToken_178 : decode cX7_nextToken 178 = .ok (.aload_n 0, 1) := by decide +kernel
theorem dX7_nextToken_179 : decode cX7_nextToken 179 = .ok (.dup, 1) := by decide +kernel
theorem dX7_nextToken_180 : decode cX7_nextToken 180 = .ok (.getfield 58, 3) := by decide +kernel
theorem dX7_nextToken_183 : decode cX7_nextToken 183 = .ok (.iconst 1, 1) := by decide +kernel
theorem dX7_nextToken_184 : decode cX7_nextToken 184 = .ok (.iadd, 1) := by decide +kernel
theorem dX7_nextToken_185 : decode cX7_nextToken 185 = .ok (.putfield 58, 3) := by decide +kernel
theorem dX7_nextToken_188 : decode cX7_nextToken 188 = .ok (.goto (-87), 3) := by decide +kernel
theorem dX7_nextToken_191 : decode cX7_nextToken 191 = .ok (.aload_n 0, 1) := by decide +kernel
theorem dX7_nextToken_192 : decode cX7_nextToken 192 = .ok (.aload_n 0, 1) := by decide +kernel
theorem dX7_nextToken_193 : decode cX7_nextToken 193 = .ok (.getfield 58, 3) := by decide +kernel
theorem dX7_nextToken_196 : decode cX7_nextToken 196 = .ok (.aload_n 0, 1) := by decide +kernel
theorem dX7_nextToken_197 : decode cX7_nextToken 197 = .ok (.getfield 61, 3) := by decide +kernel
theorem dX7_nextToken_200 : decode cX7_nextToken 200 = .ok (.isub, 1) := by decide +kernel
theorem dX7_nextToken_201 : decode cX7_nextToken 201 = .ok (.bipush 9, 2) := by decide +kernel
theorem dX7_nextToken_203 : decode cX7_nextToken 203 = .ok (.if_icmp .le 9, 3) := by decide +kernel
theorem dX7_nextToken_206 : decode cX7_nextToken 206 = .ok (.ldc2_w 80, 3) := by decide +kernel
theorem dX7_nextToken_209 : decode cX7_nextToken 209 = .ok (.goto 7, 3) := by decide +kernel
theorem dX7_nextToken_212 : decode cX7_nextToken 212 = .ok (.aload_n 0, 1) := by decide +kernel
theorem dX7_nextToken_213 : decode cX7_nextToken 213 = .ok (.getfield 72, 3) := by decide +kernel
theorem dX7_nextToken_216 : decode cX7_nextToken 216 = .ok (.putfield 72, 3) := by decide +kernel
theorem dX7_nextToken_219 : decode cX7_nextToken 219 = .ok (.goto 175, 3) := by decide +kernel
theorem dX7_nextToken_222 : decode cX7_nextToken 222 = .ok (.aload_n 0, 1) := by decide +kernel
theorem dX7_nextToken_223 : decode cX7_nextToken 223 = .ok (.getfield 16, 3) := by decide +kernel
theorem dX7_nextToken_226 : decode cX7_nextToken 226 = .ok (.aload_n 0, 1) := by decide +kernel
theorem dX7_nextToken_227 : decode cX7_nextToken 227 = .ok (.getfield 58, 3) := by decide +kernel
theorem dX7_nextToken_230 : decode cX7_nextToken 230 = .ok (.iaload, 1) := by decide +kernel
theorem dX7_nextToken_231 : decode cX7_nextToken 231 = .ok (.bipush 48, 2) := by decide +kernel
theorem dX7_nextToken_233 : decode cX7_nextToken 233 = .ok (.bipush 57, 2) := by decide +kernel
theorem dX7_nextToken_235 : decode cX7_nextToken 235 = .ok (.invokestatic 41, 3) := by decide +kernel
theorem dX7_nextToken_238 : decode cX7_nextToken 238 = .ok (.ifCond .eq 119, 3) := by decide +kernel
theorem dX7_nextToken_241 : decode cX7_nextToken 241 = .ok (.aload_n 0, 1) := by decide +kernel
theorem dX7_nextToken_242 : decode cX7_nextToken 242 = .ok (.getfield 58, 3) := by decide +kernel
theorem dX7_nextToken_245 : decode cX7_nextToken 245 = .ok (.aload_n 0, 1) := by decide +kernel
theorem dX7_nextToken_246 : decode cX7_nextToken 246 = .ok (.getfield 53, 3) := by decide +kernel
theorem dX7_nextToken_249 : decode cX7_nextToken 249 = .ok (.if_icmp .ge 84, 3) := by decide +kernel
theorem dX7_nextToken_252 : decode cX7_nextToken 252 = .ok (.aload_n 0, 1) := by decide +kernel
theorem dX7_nextToken_253 : decode cX7_nextToken 253 = .ok (.getfield 16, 3) := by decide +kernel
theorem dX7_nextToken_256 : decode cX7_nextToken 256 = .ok (.aload_n 0, 1) := by decide +kernel
theorem dX7_nextToken_257 : decode cX7_nextToken 257 = .ok (.getfield 58, 3) := by decide +kernel
theorem dX7_nextToken_260 : decode cX7_nextToken 260 = .ok (.iaload, 1) := by decide +kernel
theorem dX7_nextToken_261 : decode cX7_nextToken 261 = .ok (.bipush 48, 2) := by decide +kernel
theorem dX7_nextToken_263 : decode cX7_nextToken 263 = .ok (.bipush 57, 2) := by decide +kernel
theorem dX7_nextToken_265 : decode cX7_nextToken 265 = .ok (.invokestatic 41, 3) := by decide +kernel
theorem dX7_nextToken_268 : decode cX7_nextToken 268 = .ok (.ifCond .eq 65, 3) := by decide +kernel
theorem dX7_nextToken_271 : decode cX7_nextToken 271 = .ok (.aload_n 0, 1) := by decide +kernel
theorem dX7_nextToken_272 : decode cX7_nextToken 272 = .ok (.aload_n 0, 1) := by decide +kernel
theorem dX7_nextToken_273 : decode cX7_nextToken 273 = .ok (.getfield 64, 3) := by decide +kernel
theorem dX7_nextToken_276 : decode cX7_nextToken 276 = .ok (.iconst 4, 1) := by decide +kernel
theorem dX7_nextToken_277 : decode cX7_nextToken 277 = .ok (.if_icmp .ge 26, 3) := by decide +kernel
theorem dX7_nextToken_280 : decode cX7_nextToken 280 = .ok (.bipush 10, 2) := by decide +kernel
theorem dX7_nextToken_282 : decode cX7_nextToken 282 = .ok (.aload_n 0, 1) := by decide +kernel
theorem dX7_nextToken_283 : decode cX7_nextToken 283 = .ok (.getfield 67, 3) := by decide +kernel
theorem dX7_nextToken_286 : decode cX7_nextToken 286 = .ok (.imul, 1) := by decide +kernel
theorem dX7_nextToken_287 : decode cX7_nextToken 287 = .ok (.aload_n 0, 1) := by decide +kernel
theorem dX7_nextToken_288 : decode cX7_nextToken 288 = .ok (.getfield 16, 3) := by decide +kernel
theorem dX7_nextToken_291 : decode cX7_nextToken 291 = .ok (.aload_n 0, 1) := by decide +kernel
theorem dX7_nextToken_292 : decode cX7_nextToken 292 = .ok (.getfield 58, 3) := by decide +kernel
theorem dX7_nextToken_295 : decode cX7_nextToken 295 = .ok (.iaload, 1) := by decide +kernel
theorem dX7_nextToken_296 : decode cX7_nextToken 296 = .ok (.iadd, 1) := by decide +kernel
theorem dX7_nextToken_297 : decode cX7_nextToken 297 = .ok (.bipush 48, 2) := by decide +kernel
theorem dX7_nextToken_299 : decode cX7_nextToken 299 = .ok (.isub, 1) := by decide +kernel
theorem dX7_nextToken_300 : decode cX7_nextToken 300 = .ok (.goto 7, 3) := by decide +kernel
theorem dX7_nextToken_303 : decode cX7_nextToken 303 = .ok (.aload_n 0, 1) := by decide +kernel
theorem dX7_nextToken_304 : decode cX7_nextToken 304 = .ok (.getfield 67, 3) := by decide +kernel
theorem dX7_nextToken_307 : decode cX7_nextToken 307 = .ok (.putfield 67, 3) := by decide +kernel
theorem dX7_nextToken_310 : decode cX7_nextToken 310 = .ok (.aload_n 0, 1) := by decide +kernel
theorem dX7_nextToken_311 : decode cX7_nextToken 311 = .ok (.dup, 1) := by decide +kernel
theorem dX7_nextToken_312 : decode cX7_nextToken 312 = .ok (.getfield 64, 3) := by decide +kernel
theorem dX7_nextToken_315 : decode cX7_nextToken 315 = .ok (.iconst 1, 1) := by decide +kernel
theorem dX7_nextToken_316 : decode cX7_nextToken 316 = .ok (.iadd, 1) := by decide +kernel
theorem dX7_nextToken_317 : decode cX7_nextToken 317 = .ok (.putfield 64, 3) := by decide +kernel
theorem dX7_nextToken_320 : decode cX7_nextToken 320 = .ok (.aload_n 0, 1) := by decide +kernel
theorem dX7_nextToken_321 : decode cX7_nextToken 321 = .ok (.dup, 1) := by decide +kernel
theorem dX7_nextToken_322 : decode cX7_nextToken 322 = .ok (.getfield 58, 3) := by decide +kernel
theorem dX7_nextToken_325 : decode cX7_nextToken 325 = .ok (.iconst 1, 1) := by decide +kernel
theorem dX7_nextToken_326 : decode cX7_nextToken 326 = .ok (.iadd, 1) := by decide +kernel
theorem dX7_nextToken_327 : decode cX7_nextToken 327 = .ok (.putfield 58, 3) := by decide +kernel
theorem dX7_nextToken_330 : decode cX7_nextToken 330 = .ok (.goto (-89), 3) := by decide +kernel
theorem dX7_nextToken_333 : decode cX7_nextToken 333 = .ok (.aload_n 0, 1) := by decide +kernel
theorem dX7_nextToken_334 : decode cX7_nextToken 334 = .ok (.aload_n 0, 1) := by decide +kernel
theorem dX7_nextToken_335 : decode cX7_nextToken 335 = .ok (.getfield 64, 3) := by decide +kernel
theorem dX7_nextToken_338 : decode cX7_nextToken 338 = .ok (.iconst 4, 1) := by decide +kernel
theorem dX7_nextToken_339 : decode cX7_nextToken 339 = .ok (.if_icmp .le 9, 3) := by decide +kernel
theorem dX7_nextToken_342 : decode cX7_nextToken 342 = .ok (.ldc2_w 80, 3) := by decide +kernel
theorem dX7_nextToken_345 : decode cX7_nextToken 345 = .ok (.goto 6, 3) := by decide +kernel
theorem dX7_nextToken_348 : decode cX7_nextToken 348 = .ok (.ldc2_w 82, 3) := by decide +kernel
theorem dX7_nextToken_351 : decode cX7_nextToken 351 = .ok (.putfield 72, 3) := by decide +kernel
theorem dX7_nextToken_354 : decode cX7_nextToken 354 = .ok (.goto 40, 3) := by decide +kernel
theorem dX7_nextToken_357 : decode cX7_nextToken 357 = .ok (.aload_n 0, 1) := by decide +kernel
theorem dX7_nextToken_358 : decode cX7_nextToken 358 = .ok (.aload_n 0, 1) := by decide +kernel
theorem dX7_nextToken_359 : decode cX7_nextToken 359 = .ok (.getfield 16, 3) := by decide +kernel
theorem dX7_nextToken_362 : decode cX7_nextToken 362 = .ok (.aload_n 0, 1) := by decide +kernel
theorem dX7_nextToken_363 : decode cX7_nextToken 363 = .ok (.getfield 58, 3) := by decide +kernel
theorem dX7_nextToken_366 : decode cX7_nextToken 366 = .ok (.iaload, 1) := by decide +kernel
theorem dX7_nextToken_367 : decode cX7_nextToken 367 = .ok (.bipush 59, 2) := by decide +kernel
theorem dX7_nextToken_369 : decode cX7_nextToken 369 = .ok (.if_icmp .ne 9, 3) := by decide +kernel
theorem dX7_nextToken_372 : decode cX7_nextToken 372 = .ok (.ldc2_w 84, 3) := by decide +kernel
theorem dX7_nextToken_375 : decode cX7_nextToken 375 = .ok (.goto 6, 3) := by decide +kernel
theorem dX7_nextToken_378 : decode cX7_nextToken 378 = .ok (.ldc2_w 80, 3) := by decide +kernel
theorem dX7_nextToken_381 : decode cX7_nextToken 381 = .ok (.putfield 72, 3) := by decide +kernel
theorem dX7_nextToken_384 : decode cX7_nextToken 384 = .ok (.aload_n 0, 1) := by decide +kernel
theorem dX7_nextToken_385 : decode cX7_nextToken 385 = .ok (.dup, 1) := by decide +kernel
theorem dX7_nextToken_386 : decode cX7_nextToken 386 = .ok (.getfield 58, 3) := by decide +kernel
theorem dX7_nextToken_389 : decode cX7_nextToken 389 = .ok (.iconst 1, 1) := by decide +kernel
theorem dX7_nextToken_390 : decode cX7_nextToken 390 = .ok (.iadd, 1) := by decide +kernel
theorem dX7_nextToken_391 : decode cX7_nextToken 391 = .ok (.putfield 58, 3) := by decide +kernel
theorem dX7_nextToken_394 : decode cX7_nextToken 394 = .ok (.return_, 1) := by decide +kernel
theorem dX7_fails_0 : decode cX7_fails 0 = .ok (.aload_n 0, 1) := by decide +kernel
theorem dX7_fails_1 : decode cX7_fails 1 = .ok (.aload_n 0, 1) := by decide +kernel
theorem dX7_fails_2 : decode cX7_fails 2 = .ok (.getfield 61, 3) := by decide +kernel
theorem dX7_fails_5 : decode cX7_fails 5 = .ok (.putfield 86, 3) := by decide +kernel
theorem dX7_fails_8 : decode cX7_fails 8 = .ok (.iconst 0, 1) := by decide +kernel
theorem dX7_fails_9 : decode cX7_fails 9 = .ok (.ireturn, 1) := by decide +kernel
set_option maxRecDepth 20000 in
theorem ggX7_isNumber_X7_nextToken : GoodIn wsX7_isNumber wsX7_nextToken := goodIn_r _ [9, 10, 11, 12, 13, 14, 3, 15, 1, 16, 17, 18, 2, 19, 20, 21, 8, 22, 28, 29, 30, 31, 32, 33, 34, 35, 36, 37, 38, 39, 40, 41, 42, 43, 44, 45, 46, 47, 48, 49, 50, 51, 52, 53] (by decide +kernel) (by decide +kernel)
set_option maxRecDepth 20000 in
theorem gX7_isNumber_X7_nextToken : GoodIn wsX7_isNumber (wsV RX7 89 RX7 yX7_nextToken wsX7_nextToken) := goodIn_app (goodIn_of _ (by decide +kernel)) ggX7_isNumber_X7_nextToken
set_option maxRecDepth 20000 in
theorem ggX7_isNumber_X7_in : GoodIn wsX7_isNumber wsX7_in := goodIn_r _ [22] (by decide +kernel) (by decide +kernel)
set_option maxRecDepth 20000 in
theorem gX7_isNumber_X7_in : GoodIn wsX7_isNumber (va_wsS RX7 41 yX7_in wsX7_in) := goodIn_app (goodIn_of _ (by decide +kernel)) ggX7_isNumber_X7_in
set_option maxRecDepth 20000 in
theorem ggX7_isNumber_X7_fails : GoodIn wsX7_isNumber wsX7_fails := goodIn_r _ [26, 13, 27, 28, 29, 30, 31, 32, 33, 34, 35, 36, 37, 38, 39, 40, 41, 42, 43, 44, 45, 46, 47, 48, 49, 50, 51, 52, 53] (by decide +kernel) (by decide +kernel)
set_option maxRecDepth 20000 in
theorem gX7_isNumber_X7_fails : GoodIn wsX7_isNumber (wsV RX7 92 RX7 yX7_fails wsX7_fails) := goodIn_app (goodIn_of _ (by decide +kernel)) ggX7_isNumber_X7_fails
theorem dX7_isNumber_0 : decode cX7_isNumber 0 = .ok (.aload_n 0, 1) := by decide +kernel
theorem dX7_isNumber_1 : decode cX7_isNumber 1 = .ok (.invokevirtual 89, 3) := by decide +kernel
theorem dX7_isNumber_4 : decode cX7_isNumber 4 = .ok (.aload_n 0, 1) := by decide +kernel
theorem dX7_isNumber_5 : decode cX7_isNumber 5 = .ok (.getfield 72, 3) := by decide +kernel
theorem dX7_isNumber_8 : decode cX7_isNumber 8 = .ok (.ldc2_w 82, 3) := by decide +kernel
theorem dX7_isNumber_11 : decode cX7_isNumber 11 = .ok (.lcmp, 1) := by decide +kernel
theorem dX7_isNumber_12 : decode cX7_isNumber 12 = .ok (.ifCond .ne 15, 3) := by decide +kernel
theorem dX7_isNumber_15 : decode cX7_isNumber 15 = .ok (.aload_n 0, 1) := by decide +kernel
theorem dX7_isNumber_16 : decode cX7_isNumber 16 = .ok (.getfield 67, 3) := by decide +kernel
theorem dX7_isNumber_19 : decode cX7_isNumber 19 = .ok (.iload_n 2, 1) := by decide +kernel
theorem dX7_isNumber_20 : decode cX7_isNumber 20 = .ok (.iload_n 3, 1) := by decide +kernel
theorem dX7_isNumber_21 : decode cX7_isNumber 21 = .ok (.invokestatic 41, 3) := by decide +kernel
theorem dX7_isNumber_24 : decode cX7_isNumber 24 = .ok (.ifCond .ne 8, 3) := by decide +kernel
theorem dX7_isNumber_27 : decode cX7_isNumber 27 = .ok (.aload_n 0, 1) := by decide +kernel
theorem dX7_isNumber_28 : decode cX7_isNumber 28 = .ok (.invokevirtual 92, 3) := by decide +kernel
theorem dX7_isNumber_31 : decode cX7_isNumber 31 = .ok (.ireturn, 1) := by decide +kernel
theorem dX7_isNumber_32 : decode cX7_isNumber 32 = .ok (.aload_n 0, 1) := by decide +kernel
theorem dX7_isNumber_33 : decode cX7_isNumber 33 = .ok (.getfield 19, 3) := by decide +kernel
theorem dX7_isNumber_36 : decode cX7_isNumber 36 = .ok (.iload_n 1, 1) := by decide +kernel
theorem dX7_isNumber_37 : decode cX7_isNumber 37 = .ok (.aload_n 0, 1) := by decide +kernel
theorem dX7_isNumber_38 : decode cX7_isNumber 38 = .ok (.getfield 67, 3) := by decide +kernel
theorem dX7_isNumber_41 : decode cX7_isNumber 41 = .ok (.iastore, 1) := by decide +kernel
theorem dX7_isNumber_42 : decode cX7_isNumber 42 = .ok (.iconst 1, 1) := by decide +kernel
theorem dX7_isNumber_43 : decode cX7_isNumber 43 = .ok (.ireturn, 1) := by decide +kernel
set_option maxRecDepth 20000 in
theorem ggX7_isGoing_X7_isNumber : GoodIn wsX7_isGoing wsX7_isNumber := goodIn_r _ [7, 8, 9, 10, 1, 11, 12, 13, 6, 14, 15, 16, 17, 18, 19, 20, 21, 22, 23, 24, 25, 26, 27, 28, 29, 30, 31, 32, 33, 34, 35, 36, 37, 38, 39, 40, 41, 42, 43, 44, 45, 46, 47, 48, 49, 50, 51, 52, 53, 54, 55, 56, 57, 58] (by decide +kernel) (by decide +kernel)
set_option maxRecDepth 20000 in
theorem gX7_isGoing_X7_isNumber : GoodIn wsX7_isGoing (wsV RX7 96 RX7 yX7_isNumber wsX7_isNumber) := goodIn_app (goodIn_of _ (by decide +kernel)) ggX7_isGoing_X7_isNumber
theorem dX7_isGoing_0 : decode cX7_isGoing 0 = .ok (.aload_n 0, 1) := by decide +kernel
theorem dX7_isGoing_1 : decode cX7_isGoing 1 = .ok (.iload_n 1, 1) := by decide +kernel
theorem dX7_isGoing_2 : decode cX7_isGoing 2 = .ok (.iconst 1, 1) := by decide +kernel
theorem dX7_isGoing_3 : decode cX7_isGoing 3 = .ok (.iadd, 1) := by decide +kernel
theorem dX7_isGoing_4 : decode cX7_isGoing 4 = .ok (.iconst 0, 1) := by decide +kernel
theorem dX7_isGoing_5 : decode cX7_isGoing 5 = .ok (.bipush 7, 2) := by decide +kernel
theorem dX7_isGoing_7 : decode cX7_isGoing 7 = .ok (.invokevirtual 96, 3) := by decide +kernel
theorem dX7_isGoing_10 : decode cX7_isGoing 10 = .ok (.ifCond .eq 70, 3) := by decide +kernel
theorem dX7_isGoing_13 : decode cX7_isGoing 13 = .ok (.aload_n 0, 1) := by decide +kernel
theorem dX7_isGoing_14 : decode cX7_isGoing 14 = .ok (.iload_n 1, 1) := by decide +kernel
theorem dX7_isGoing_15 : decode cX7_isGoing 15 = .ok (.iconst 2, 1) := by decide +kernel
theorem dX7_isGoing_16 : decode cX7_isGoing 16 = .ok (.iadd, 1) := by decide +kernel
theorem dX7_isGoing_17 : decode cX7_isGoing 17 = .ok (.iconst 0, 1) := by decide +kernel
theorem dX7_isGoing_18 : decode cX7_isGoing 18 = .ok (.sipush 4319, 3) := by decide +kernel
theorem dX7_isGoing_21 : decode cX7_isGoing 21 = .ok (.invokevirtual 96, 3) := by decide +kernel
theorem dX7_isGoing_24 : decode cX7_isGoing 24 = .ok (.ifCond .eq 56, 3) := by decide +kernel
theorem dX7_isGoing_27 : decode cX7_isGoing 27 = .ok (.aload_n 0, 1) := by decide +kernel
theorem dX7_isGoing_28 : decode cX7_isGoing 28 = .ok (.iload_n 1, 1) := by decide +kernel
theorem dX7_isGoing_29 : decode cX7_isGoing 29 = .ok (.iconst 3, 1) := by decide +kernel
theorem dX7_isGoing_30 : decode cX7_isGoing 30 = .ok (.iadd, 1) := by decide +kernel
theorem dX7_isGoing_31 : decode cX7_isGoing 31 = .ok (.iconst 0, 1) := by decide +kernel
theorem dX7_isGoing_32 : decode cX7_isGoing 32 = .ok (.sipush 719, 3) := by decide +kernel
theorem dX7_isGoing_35 : decode cX7_isGoing 35 = .ok (.invokevirtual 96, 3) := by decide +kernel
theorem dX7_isGoing_38 : decode cX7_isGoing 38 = .ok (.ifCond .eq 42, 3) := by decide +kernel
theorem dX7_isGoing_41 : decode cX7_isGoing 41 = .ok (.aload_n 0, 1) := by decide +kernel
theorem dX7_isGoing_42 : decode cX7_isGoing 42 = .ok (.iload_n 1, 1) := by decide +kernel
theorem dX7_isGoing_43 : decode cX7_isGoing 43 = .ok (.iconst 4, 1) := by decide +kernel
theorem dX7_isGoing_44 : decode cX7_isGoing 44 = .ok (.iadd, 1) := by decide +kernel
theorem dX7_isGoing_45 : decode cX7_isGoing 45 = .ok (.iconst 0, 1) := by decide +kernel
theorem dX7_isGoing_46 : decode cX7_isGoing 46 = .ok (.sipush 240, 3) := by decide +kernel
theorem dX7_isGoing_49 : decode cX7_isGoing 49 = .ok (.invokevirtual 96, 3) := by decide +kernel
theorem dX7_isGoing_52 : decode cX7_isGoing 52 = .ok (.ifCond .eq 28, 3) := by decide +kernel
theorem dX7_isGoing_55 : decode cX7_isGoing 55 = .ok (.aload_n 0, 1) := by decide +kernel
theorem dX7_isGoing_56 : decode cX7_isGoing 56 = .ok (.iload_n 1, 1) := by decide +kernel
theorem dX7_isGoing_57 : decode cX7_isGoing 57 = .ok (.iconst 5, 1) := by decide +kernel
theorem dX7_isGoing_58 : decode cX7_isGoing 58 = .ok (.iadd, 1) := by decide +kernel
theorem dX7_isGoing_59 : decode cX7_isGoing 59 = .ok (.aload_n 0, 1) := by decide +kernel
theorem dX7_isGoing_60 : decode cX7_isGoing 60 = .ok (.getfield 19, 3) := by decide +kernel
theorem dX7_isGoing_63 : decode cX7_isGoing 63 = .ok (.iload_n 1, 1) := by decide +kernel
theorem dX7_isGoing_64 : decode cX7_isGoing 64 = .ok (.iconst 4, 1) := by decide +kernel
theorem dX7_isGoing_65 : decode cX7_isGoing 65 = .ok (.iadd, 1) := by decide +kernel
theorem dX7_isGoing_66 : decode cX7_isGoing 66 = .ok (.iaload, 1) := by decide +kernel
theorem dX7_isGoing_67 : decode cX7_isGoing 67 = .ok (.sipush 240, 3) := by decide +kernel
theorem dX7_isGoing_70 : decode cX7_isGoing 70 = .ok (.invokevirtual 96, 3) := by decide +kernel
theorem dX7_isGoing_73 : decode cX7_isGoing 73 = .ok (.ifCond .eq 7, 3) := by decide +kernel
theorem dX7_isGoing_76 : decode cX7_isGoing 76 = .ok (.iconst 1, 1) := by decide +kernel
theorem dX7_isGoing_77 : decode cX7_isGoing 77 = .ok (.goto 4, 3) := by decide +kernel
theorem dX7_isGoing_80 : decode cX7_isGoing 80 = .ok (.iconst 0, 1) := by decide +kernel
theorem dX7_isGoing_81 : decode cX7_isGoing 81 = .ok (.istore_n 2, 1) := by decide +kernel
theorem dX7_isGoing_82 : decode cX7_isGoing 82 = .ok (.aload_n 0, 1) := by decide +kernel
theorem dX7_isGoing_83 : decode cX7_isGoing 83 = .ok (.iload_n 2, 1) := by decide +kernel
theorem dX7_isGoing_84 : decode cX7_isGoing 84 = .ok (.ifCond .eq 21, 3) := by decide +kernel
theorem dX7_isGoing_87 : decode cX7_isGoing 87 = .ok (.aload_n 0, 1) := by decide +kernel
theorem dX7_isGoing_88 : decode cX7_isGoing 88 = .ok (.getfield 99, 3) := by decide +kernel
theorem dX7_isGoing_91 : decode cX7_isGoing 91 = .ok (.iconst 1, 1) := by decide +kernel
theorem dX7_isGoing_92 : decode cX7_isGoing 92 = .ok (.aload_n 0, 1) := by decide +kernel
theorem dX7_isGoing_93 : decode cX7_isGoing 93 = .ok (.getfield 19, 3) := by decide +kernel
theorem dX7_isGoing_96 : decode cX7_isGoing 96 = .ok (.iload_n 1, 1) := by decide +kernel
theorem dX7_isGoing_97 : decode cX7_isGoing 97 = .ok (.iconst 1, 1) := by decide +kernel
theorem dX7_isGoing_98 : decode cX7_isGoing 98 = .ok (.iadd, 1) := by decide +kernel
theorem dX7_isGoing_99 : decode cX7_isGoing 99 = .ok (.iaload, 1) := by decide +kernel
theorem dX7_isGoing_100 : decode cX7_isGoing 100 = .ok (.ishl, 1) := by decide +kernel
theorem dX7_isGoing_101 : decode cX7_isGoing 101 = .ok (.ior, 1) := by decide +kernel
theorem dX7_isGoing_102 : decode cX7_isGoing 102 = .ok (.goto 7, 3) := by decide +kernel
theorem dX7_isGoing_105 : decode cX7_isGoing 105 = .ok (.aload_n 0, 1) := by decide +kernel
theorem dX7_isGoing_106 : decode cX7_isGoing 106 = .ok (.getfield 99, 3) := by decide +kernel
theorem dX7_isGoing_109 : decode cX7_isGoing 109 = .ok (.putfield 99, 3) := by decide +kernel
theorem dX7_isGoing_112 : decode cX7_isGoing 112 = .ok (.iload_n 2, 1) := by decide +kernel
theorem dX7_isGoing_113 : decode cX7_isGoing 113 = .ok (.ireturn, 1) := by decide +kernel
set_option maxRecDepth 20000 in
theorem ggX7_isStopped_X7_isNumber : GoodIn wsX7_isStopped wsX7_isNumber := goodIn_r _ [7, 8, 9, 10, 2, 11, 12, 13, 6, 14, 15, 16, 17, 18, 19, 20, 21, 22, 23, 24, 25, 26, 27, 28, 29, 30, 31, 32, 33, 34, 35, 36, 37, 38, 39, 40, 41, 42, 43, 44, 45, 46, 47, 48, 49, 50, 51, 52, 53, 54, 55, 56, 57, 58] (by decide +kernel) (by decide +kernel)
set_option maxRecDepth 20000 in
theorem gX7_isStopped_X7_isNumber : GoodIn wsX7_isStopped (wsV RX7 96 RX7 yX7_isNumber wsX7_isNumber) := goodIn_app (goodIn_of _ (by decide +kernel)) ggX7_isStopped_X7_isNumber
theorem dX7_isStopped_0 : decode cX7_isStopped 0 = .ok (.aload_n 0, 1) := by decide +kernel
theorem dX7_isStopped_1 : decode cX7_isStopped 1 = .ok (.iload_n 1, 1) := by decide +kernel
theorem dX7_isStopped_2 : decode cX7_isStopped 2 = .ok (.iconst 1, 1) := by decide +kernel
theorem dX7_isStopped_3 : decode cX7_isStopped 3 = .ok (.iadd, 1) := by decide +kernel
theorem dX7_isStopped_4 : decode cX7_isStopped 4 = .ok (.iconst 0, 1) := by decide +kernel
theorem dX7_isStopped_5 : decode cX7_isStopped 5 = .ok (.bipush 7, 2) := by decide +kernel
theorem dX7_isStopped_7 : decode cX7_isStopped 7 = .ok (.invokevirtual 96, 3) := by decide +kernel
theorem dX7_isStopped_10 : decode cX7_isStopped 10 = .ok (.ifCond .eq 21, 3) := by decide +kernel
theorem dX7_isStopped_13 : decode cX7_isStopped 13 = .ok (.aload_n 0, 1) := by decide +kernel
theorem dX7_isStopped_14 : decode cX7_isStopped 14 = .ok (.iload_n 1, 1) := by decide +kernel
theorem dX7_isStopped_15 : decode cX7_isStopped 15 = .ok (.iconst 3, 1) := by decide +kernel
theorem dX7_isStopped_16 : decode cX7_isStopped 16 = .ok (.iadd, 1) := by decide +kernel
theorem dX7_isStopped_17 : decode cX7_isStopped 17 = .ok (.iconst 0, 1) := by decide +kernel
theorem dX7_isStopped_18 : decode cX7_isStopped 18 = .ok (.sipush 719, 3) := by decide +kernel
theorem dX7_isStopped_21 : decode cX7_isStopped 21 = .ok (.invokevirtual 96, 3) := by decide +kernel
theorem dX7_isStopped_24 : decode cX7_isStopped 24 = .ok (.ifCond .eq 7, 3) := by decide +kernel
theorem dX7_isStopped_27 : decode cX7_isStopped 27 = .ok (.iconst 1, 1) := by decide +kernel
theorem dX7_isStopped_28 : decode cX7_isStopped 28 = .ok (.goto 4, 3) := by decide +kernel
theorem dX7_isStopped_31 : decode cX7_isStopped 31 = .ok (.iconst 0, 1) := by decide +kernel
theorem dX7_isStopped_32 : decode cX7_isStopped 32 = .ok (.istore_n 2, 1) := by decide +kernel
theorem dX7_isStopped_33 : decode cX7_isStopped 33 = .ok (.aload_n 0, 1) := by decide +kernel
theorem dX7_isStopped_34 : decode cX7_isStopped 34 = .ok (.iload_n 2, 1) := by decide +kernel
theorem dX7_isStopped_35 : decode cX7_isStopped 35 = .ok (.ifCond .eq 21, 3) := by decide +kernel
theorem dX7_isStopped_38 : decode cX7_isStopped 38 = .ok (.aload_n 0, 1) := by decide +kernel
theorem dX7_isStopped_39 : decode cX7_isStopped 39 = .ok (.getfield 99, 3) := by decide +kernel
theorem dX7_isStopped_42 : decode cX7_isStopped 42 = .ok (.iconst 1, 1) := by decide +kernel
theorem dX7_isStopped_43 : decode cX7_isStopped 43 = .ok (.aload_n 0, 1) := by decide +kernel
theorem dX7_isStopped_44 : decode cX7_isStopped 44 = .ok (.getfield 19, 3) := by decide +kernel
theorem dX7_isStopped_47 : decode cX7_isStopped 47 = .ok (.iload_n 1, 1) := by decide +kernel
theorem dX7_isStopped_48 : decode cX7_isStopped 48 = .ok (.iconst 1, 1) := by decide +kernel
theorem dX7_isStopped_49 : decode cX7_isStopped 49 = .ok (.iadd, 1) := by decide +kernel
theorem dX7_isStopped_50 : decode cX7_isStopped 50 = .ok (.iaload, 1) := by decide +kernel
theorem dX7_isStopped_51 : decode cX7_isStopped 51 = .ok (.ishl, 1) := by decide +kernel
theorem dX7_isStopped_52 : decode cX7_isStopped 52 = .ok (.ior, 1) := by decide +kernel
theorem dX7_isStopped_53 : decode cX7_isStopped 53 = .ok (.goto 7, 3) := by decide +kernel
theorem dX7_isStopped_56 : decode cX7_isStopped 56 = .ok (.aload_n 0, 1) := by decide +kernel
theorem dX7_isStopped_57 : decode cX7_isStopped 57 = .ok (.getfield 99, 3) := by decide +kernel
theorem dX7_isStopped_60 : decode cX7_isStopped 60 = .ok (.putfield 99, 3) := by decide +kernel
theorem dX7_isStopped_63 : decode cX7_isStopped 63 = .ok (.iload_n 2, 1) := by decide +kernel
theorem dX7_isStopped_64 : decode cX7_isStopped 64 = .ok (.ireturn, 1) := by decide +kernel
set_option maxRecDepth 20000 in
theorem ggX7_isNow_X7_isNumber : GoodIn wsX7_isNow wsX7_isNumber := goodIn_r _ [7, 8, 9, 10, 2, 11, 12, 13, 6, 14, 15, 16, 17, 18, 19, 20, 21, 22, 23, 24, 25, 26, 27, 28, 29, 30, 31, 32, 36, 37, 38, 39, 40, 41, 42, 43, 44, 45, 46, 47, 48, 49, 50, 51, 52, 53, 54, 55, 56, 57, 58, 59, 60, 61] (by decide +kernel) (by decide +kernel)
set_option maxRecDepth 20000 in
theorem gX7_isNow_X7_isNumber : GoodIn wsX7_isNow (wsV RX7 96 RX7 yX7_isNumber wsX7_isNumber) := goodIn_app (goodIn_of _ (by decide +kernel)) ggX7_isNow_X7_isNumber
set_option maxRecDepth 20000 in
theorem ggX7_isNow_X7_has : GoodIn wsX7_isNow wsX7_has := goodIn_r _ [35] (by decide +kernel) (by decide +kernel)
set_option maxRecDepth 20000 in
theorem gX7_isNow_X7_has : GoodIn wsX7_isNow (va_wsS RX7 49 yX7_has wsX7_has) := goodIn_app (goodIn_of _ (by decide +kernel)) ggX7_isNow_X7_has
set_option maxRecDepth 20000 in
theorem ggX7_isNow_X7_fails : GoodIn wsX7_isNow wsX7_fails := goodIn_r _ [31, 18, 32, 36, 37, 38, 39, 40, 41, 42, 43, 44, 45, 46, 47, 48, 49, 50, 51, 52, 53, 54, 55, 56, 57, 58, 59, 60, 61] (by decide +kernel) (by decide +kernel)
set_option maxRecDepth 20000 in
theorem gX7_isNow_X7_fails : GoodIn wsX7_isNow (wsV RX7 92 RX7 yX7_fails wsX7_fails) := goodIn_app (goodIn_of _ (by decide +kernel)) ggX7_isNow_X7_fails
theorem dX7_isNow_0 : decode cX7_isNow 0 = .ok (.aload_n 0, 1) := by decide +kernel
theorem dX7_isNow_1 : decode cX7_isNow 1 = .ok (.iload_n 1, 1) := by decide +kernel
theorem dX7_isNow_2 : decode cX7_isNow 2 = .ok (.iconst 1, 1) := by decide +kernel
theorem dX7_isNow_3 : decode cX7_isNow 3 = .ok (.iadd, 1) := by decide +kernel
theorem dX7_isNow_4 : decode cX7_isNow 4 = .ok (.iconst 0, 1) := by decide +kernel
theorem dX7_isNow_5 : decode cX7_isNow 5 = .ok (.bipush 7, 2) := by decide +kernel
theorem dX7_isNow_7 : decode cX7_isNow 7 = .ok (.invokevirtual 96, 3) := by decide +kernel
theorem dX7_isNow_10 : decode cX7_isNow 10 = .ok (.ifCond .ne 5, 3) := by decide +kernel
theorem dX7_isNow_13 : decode cX7_isNow 13 = .ok (.iconst 0, 1) := by decide +kernel
theorem dX7_isNow_14 : decode cX7_isNow 14 = .ok (.ireturn, 1) := by decide +kernel
theorem dX7_isNow_15 : decode cX7_isNow 15 = .ok (.aload_n 0, 1) := by decide +kernel
theorem dX7_isNow_16 : decode cX7_isNow 16 = .ok (.getfield 99, 3) := by decide +kernel
theorem dX7_isNow_19 : decode cX7_isNow 19 = .ok (.aload_n 0, 1) := by decide +kernel
theorem dX7_isNow_20 : decode cX7_isNow 20 = .ok (.getfield 19, 3) := by decide +kernel
theorem dX7_isNow_23 : decode cX7_isNow 23 = .ok (.iload_n 1, 1) := by decide +kernel
theorem dX7_isNow_24 : decode cX7_isNow 24 = .ok (.iconst 1, 1) := by decide +kernel
theorem dX7_isNow_25 : decode cX7_isNow 25 = .ok (.iadd, 1) := by decide +kernel
theorem dX7_isNow_26 : decode cX7_isNow 26 = .ok (.iaload, 1) := by decide +kernel
theorem dX7_isNow_27 : decode cX7_isNow 27 = .ok (.invokestatic 49, 3) := by decide +kernel
theorem dX7_isNow_30 : decode cX7_isNow 30 = .ok (.ifCond .eq 17, 3) := by decide +kernel
theorem dX7_isNow_33 : decode cX7_isNow 33 = .ok (.aload_n 0, 1) := by decide +kernel
theorem dX7_isNow_34 : decode cX7_isNow 34 = .ok (.iload_n 1, 1) := by decide +kernel
theorem dX7_isNow_35 : decode cX7_isNow 35 = .ok (.iconst 2, 1) := by decide +kernel
theorem dX7_isNow_36 : decode cX7_isNow 36 = .ok (.iadd, 1) := by decide +kernel
theorem dX7_isNow_37 : decode cX7_isNow 37 = .ok (.iconst 0, 1) := by decide +kernel
theorem dX7_isNow_38 : decode cX7_isNow 38 = .ok (.sipush 719, 3) := by decide +kernel
theorem dX7_isNow_41 : decode cX7_isNow 41 = .ok (.invokevirtual 96, 3) := by decide +kernel
theorem dX7_isNow_44 : decode cX7_isNow 44 = .ok (.goto 7, 3) := by decide +kernel
theorem dX7_isNow_47 : decode cX7_isNow 47 = .ok (.aload_n 0, 1) := by decide +kernel
theorem dX7_isNow_48 : decode cX7_isNow 48 = .ok (.invokevirtual 92, 3) := by decide +kernel
theorem dX7_isNow_51 : decode cX7_isNow 51 = .ok (.ireturn, 1) := by decide +kernel
set_option maxRecDepth 20000 in
theorem ggX7_isGone_X7_isNumber : GoodIn wsX7_isGone wsX7_isNumber := goodIn_r _ [7, 8, 9, 10, 2, 11, 12, 13, 6, 14, 15, 16, 17, 18, 19, 20, 21, 22, 23, 24, 25, 26, 27, 28, 29, 30, 31, 32, 33, 34, 35, 36, 37, 38, 39, 40, 41, 42, 43, 44, 45, 46, 47, 48, 49, 50, 51, 52, 53, 54, 55, 56, 57, 58] (by decide +kernel) (by decide +kernel)
set_option maxRecDepth 20000 in
theorem gX7_isGone_X7_isNumber : GoodIn wsX7_isGone (wsV RX7 96 RX7 yX7_isNumber wsX7_isNumber) := goodIn_app (goodIn_of _ (by decide +kernel)) ggX7_isGone_X7_isNumber
theorem dX7_isGone_0 : decode cX7_isGone 0 = .ok (.aload_n 0, 1) := by decide +kernel
theorem dX7_isGone_1 : decode cX7_isGone 1 = .ok (.iload_n 1, 1) := by decide +kernel
theorem dX7_isGone_2 : decode cX7_isGone 2 = .ok (.iconst 1, 1) := by decide +kernel
theorem dX7_isGone_3 : decode cX7_isGone 3 = .ok (.iadd, 1) := by decide +kernel
theorem dX7_isGone_4 : decode cX7_isGone 4 = .ok (.iconst 0, 1) := by decide +kernel
theorem dX7_isGone_5 : decode cX7_isGone 5 = .ok (.bipush 7, 2) := by decide +kernel
theorem dX7_isGone_7 : decode cX7_isGone 7 = .ok (.invokevirtual 96, 3) := by decide +kernel
theorem dX7_isGone_10 : decode cX7_isGone 10 = .ok (.istore_n 2, 1) := by decide +kernel
theorem dX7_isGone_11 : decode cX7_isGone 11 = .ok (.aload_n 0, 1) := by decide +kernel
theorem dX7_isGone_12 : decode cX7_isGone 12 = .ok (.iload_n 2, 1) := by decide +kernel
theorem dX7_isGone_13 : decode cX7_isGone 13 = .ok (.ifCond .eq 23, 3) := by decide +kernel
theorem dX7_isGone_16 : decode cX7_isGone 16 = .ok (.aload_n 0, 1) := by decide +kernel
theorem dX7_isGone_17 : decode cX7_isGone 17 = .ok (.getfield 99, 3) := by decide +kernel
theorem dX7_isGone_20 : decode cX7_isGone 20 = .ok (.iconst 1, 1) := by decide +kernel
theorem dX7_isGone_21 : decode cX7_isGone 21 = .ok (.aload_n 0, 1) := by decide +kernel
theorem dX7_isGone_22 : decode cX7_isGone 22 = .ok (.getfield 19, 3) := by decide +kernel
theorem dX7_isGone_25 : decode cX7_isGone 25 = .ok (.iload_n 1, 1) := by decide +kernel
theorem dX7_isGone_26 : decode cX7_isGone 26 = .ok (.iconst 1, 1) := by decide +kernel
theorem dX7_isGone_27 : decode cX7_isGone 27 = .ok (.iadd, 1) := by decide +kernel
theorem dX7_isGone_28 : decode cX7_isGone 28 = .ok (.iaload, 1) := by decide +kernel
theorem dX7_isGone_29 : decode cX7_isGone 29 = .ok (.ishl, 1) := by decide +kernel
theorem dX7_isGone_30 : decode cX7_isGone 30 = .ok (.iconst (-1), 1) := by decide +kernel
theorem dX7_isGone_31 : decode cX7_isGone 31 = .ok (.ixor, 1) := by decide +kernel
theorem dX7_isGone_32 : decode cX7_isGone 32 = .ok (.iand, 1) := by decide +kernel
theorem dX7_isGone_33 : decode cX7_isGone 33 = .ok (.goto 7, 3) := by decide +kernel
theorem dX7_isGone_36 : decode cX7_isGone 36 = .ok (.aload_n 0, 1) := by decide +kernel
theorem dX7_isGone_37 : decode cX7_isGone 37 = .ok (.getfield 99, 3) := by decide +kernel
theorem dX7_isGone_40 : decode cX7_isGone 40 = .ok (.putfield 99, 3) := by decide +kernel
theorem dX7_isGone_43 : decode cX7_isGone 43 = .ok (.iload_n 2, 1) := by decide +kernel
theorem dX7_isGone_44 : decode cX7_isGone 44 = .ok (.ireturn, 1) := by decide +kernel
set_option maxRecDepth 20000 in
theorem ggX7_isLine_X7_nextToken : GoodIn wsX7_isLine wsX7_nextToken := goodIn_r _ [13, 14, 15, 16, 17, 18, 19, 20, 2, 21, 22, 23, 24, 25, 26, 27, 12, 28, 58, 59, 60, 61, 62, 63, 64, 65, 66, 67, 68, 69, 70, 71, 72, 73, 74, 75, 76, 77, 78, 79, 80, 81, 82, 83] (by decide +kernel) (by decide +kernel)
set_option maxRecDepth 20000 in
theorem gX7_isLine_X7_nextToken : GoodIn wsX7_isLine (wsV RX7 89 RX7 yX7_nextToken wsX7_nextToken) := goodIn_app (goodIn_of _ (by decide +kernel)) ggX7_isLine_X7_nextToken
set_option maxRecDepth 20000 in
theorem ggX7_isLine_X7_isGoing : GoodIn wsX7_isLine wsX7_isGoing := goodIn_r _ [32, 1, 33, 34, 35, 36, 12, 37, 2, 24, 19, 9, 10, 11, 13, 14, 15, 16, 17, 18, 20, 21, 22, 23, 25, 26, 27, 28, 38, 39, 40, 41, 42, 58, 59, 60, 61, 62, 63, 64, 65, 66, 67, 68, 69, 70, 71, 72, 73, 74, 75, 76, 77, 78, 79, 80, 81, 82, 83] (by decide +kernel) (by decide +kernel)
set_option maxRecDepth 20000 in
theorem gX7_isLine_X7_isGoing : GoodIn wsX7_isLine (wsV RX7 114 RX7 yX7_isGoing wsX7_isGoing) := goodIn_app (goodIn_of _ (by decide +kernel)) ggX7_isLine_X7_isGoing
set_option maxRecDepth 20000 in
theorem ggX7_isLine_X7_isStopped : GoodIn wsX7_isLine wsX7_isStopped := goodIn_r _ [46, 33, 1, 34, 35, 36, 12, 37, 2, 24, 19, 9, 10, 11, 13, 14, 15, 16, 17, 18, 20, 21, 22, 23, 25, 26, 27, 28, 38, 39, 40, 41, 42, 58, 59, 60, 61, 62, 63, 64, 65, 66, 67, 68, 69, 70, 71, 72, 73, 74, 75, 76, 77, 78, 79, 80, 81, 82, 83] (by decide +kernel) (by decide +kernel)
set_option maxRecDepth 20000 in
theorem gX7_isLine_X7_isStopped : GoodIn wsX7_isLine (wsV RX7 118 RX7 yX7_isStopped wsX7_isStopped) := goodIn_app (goodIn_of _ (by decide +kernel)) ggX7_isLine_X7_isStopped
set_option maxRecDepth 20000 in
theorem ggX7_isLine_X7_isGone : GoodIn wsX7_isLine wsX7_isGone := goodIn_r _ [50, 33, 1, 34, 35, 36, 12, 37, 2, 24, 19, 9, 10, 11, 13, 14, 15, 16, 17, 18, 20, 21, 22, 23, 25, 26, 27, 28, 38, 39, 40, 41, 42, 58, 59, 60, 61, 62, 63, 64, 65, 66, 67, 68, 69, 70, 71, 72, 73, 74, 75, 76, 77, 78, 79, 80, 81, 82, 83] (by decide +kernel) (by decide +kernel)
set_option maxRecDepth 20000 in
theorem gX7_isLine_X7_isGone : GoodIn wsX7_isLine (wsV RX7 121 RX7 yX7_isGone wsX7_isGone) := goodIn_app (goodIn_of _ (by decide +kernel)) ggX7_isLine_X7_isGone
set_option maxRecDepth 20000 in
theorem ggX7_isLine_X7_isNow : GoodIn wsX7_isLine wsX7_isNow := goodIn_r _ [54, 33, 1, 34, 35, 36, 12, 37, 2, 24, 19, 9, 10, 11, 13, 14, 15, 16, 17, 18, 20, 21, 22, 23, 25, 26, 27, 28, 38, 39, 40, 41, 42, 55, 56, 57, 58, 59, 60, 61, 62, 63, 64, 65, 66, 67, 68, 69, 70, 71, 72, 73, 74, 75, 76, 77, 78, 79, 80, 81, 82, 83] (by decide +kernel) (by decide +kernel)
set_option maxRecDepth 20000 in
theorem gX7_isLine_X7_isNow : GoodIn wsX7_isLine (wsV RX7 124 RX7 yX7_isNow wsX7_isNow) := goodIn_app (goodIn_of _ (by decide +kernel)) ggX7_isLine_X7_isNow
set_option maxRecDepth 20000 in
theorem ggX7_isLine_X7_fails : GoodIn wsX7_isLine wsX7_fails := goodIn_r _ [41, 17, 42, 58, 59, 60, 61, 62, 63, 64, 65, 66, 67, 68, 69, 70, 71, 72, 73, 74, 75, 76, 77, 78, 79, 80, 81, 82, 83] (by decide +kernel) (by decide +kernel)
set_option maxRecDepth 20000 in
theorem gX7_isLine_X7_fails : GoodIn wsX7_isLine (wsV RX7 92 RX7 yX7_fails wsX7_fails) := goodIn_app (goodIn_of _ (by decide +kernel)) ggX7_isLine_X7_fails
theorem dX7_isLine_0 : decode cX7_isLine 0 = .ok (.aload_n 0, 1) := by decide +kernel
theorem dX7_isLine_1 : decode cX7_isLine 1 = .ok (.invokevirtual 89, 3) := by decide +kernel
theorem dX7_isLine_4 : decode cX7_isLine 4 = .ok (.aload_n 0, 1) := by decide +kernel
theorem dX7_isLine_5 : decode cX7_isLine 5 = .ok (.getfield 19, 3) := by decide +kernel
theorem dX7_isLine_8 : decode cX7_isLine 8 = .ok (.iload_n 1, 1) := by decide +kernel
theorem dX7_isLine_9 : decode cX7_isLine 9 = .ok (.aload_n 0, 1) := by decide +kernel
theorem dX7_isLine_10 : decode cX7_isLine 10 = .ok (.getfield 72, 3) := by decide +kernel
theorem dX7_isLine_13 : decode cX7_isLine 13 = .ok (.ldc2_w 102, 3) := by decide +kernel
theorem dX7_isLine_16 : decode cX7_isLine 16 = .ok (.lcmp, 1) := by decide +kernel
theorem dX7_isLine_17 : decode cX7_isLine 17 = .ok (.ifCond .ne 7, 3) := by decide +kernel
theorem dX7_isLine_20 : decode cX7_isLine 20 = .ok (.iconst 0, 1) := by decide +kernel
theorem dX7_isLine_21 : decode cX7_isLine 21 = .ok (.goto 79, 3) := by decide +kernel
theorem dX7_isLine_24 : decode cX7_isLine 24 = .ok (.aload_n 0, 1) := by decide +kernel
theorem dX7_isLine_25 : decode cX7_isLine 25 = .ok (.getfield 72, 3) := by decide +kernel
theorem dX7_isLine_28 : decode cX7_isLine 28 = .ok (.ldc2_w 104, 3) := by decide +kernel
theorem dX7_isLine_31 : decode cX7_isLine 31 = .ok (.lcmp, 1) := by decide +kernel
theorem dX7_isLine_32 : decode cX7_isLine 32 = .ok (.ifCond .ne 7, 3) := by decide +kernel
theorem dX7_isLine_35 : decode cX7_isLine 35 = .ok (.iconst 1, 1) := by decide +kernel
theorem dX7_isLine_36 : decode cX7_isLine 36 = .ok (.goto 64, 3) := by decide +kernel
theorem dX7_isLine_39 : decode cX7_isLine 39 = .ok (.aload_n 0, 1) := by decide +kernel
theorem dX7_isLine_40 : decode cX7_isLine 40 = .ok (.getfield 72, 3) := by decide +kernel
theorem dX7_isLine_43 : decode cX7_isLine 43 = .ok (.ldc2_w 106, 3) := by decide +kernel
theorem dX7_isLine_46 : decode cX7_isLine 46 = .ok (.lcmp, 1) := by decide +kernel
theorem dX7_isLine_47 : decode cX7_isLine 47 = .ok (.ifCond .ne 7, 3) := by decide +kernel
theorem dX7_isLine_50 : decode cX7_isLine 50 = .ok (.iconst 2, 1) := by decide +kernel
theorem dX7_isLine_51 : decode cX7_isLine 51 = .ok (.goto 49, 3) := by decide +kernel
theorem dX7_isLine_54 : decode cX7_isLine 54 = .ok (.aload_n 0, 1) := by decide +kernel
theorem dX7_isLine_55 : decode cX7_isLine 55 = .ok (.getfield 72, 3) := by decide +kernel
theorem dX7_isLine_58 : decode cX7_isLine 58 = .ok (.ldc2_w 108, 3) := by decide +kernel
theorem dX7_isLine_61 : decode cX7_isLine 61 = .ok (.lcmp, 1) := by decide +kernel
theorem dX7_isLine_62 : decode cX7_isLine 62 = .ok (.ifCond .ne 7, 3) := by decide +kernel
theorem dX7_isLine_65 : decode cX7_isLine 65 = .ok (.iconst 3, 1) := by decide +kernel
theorem dX7_isLine_66 : decode cX7_isLine 66 = .ok (.goto 34, 3) := by decide +kernel
theorem dX7_isLine_69 : decode cX7_isLine 69 = .ok (.aload_n 0, 1) := by decide +kernel
theorem dX7_isLine_70 : decode cX7_isLine 70 = .ok (.getfield 72, 3) := by decide +kernel
theorem dX7_isLine_73 : decode cX7_isLine 73 = .ok (.ldc2_w 110, 3) := by decide +kernel
theorem dX7_isLine_76 : decode cX7_isLine 76 = .ok (.lcmp, 1) := by decide +kernel
theorem dX7_isLine_77 : decode cX7_isLine 77 = .ok (.ifCond .ne 7, 3) := by decide +kernel
theorem dX7_isLine_80 : decode cX7_isLine 80 = .ok (.iconst 4, 1) := by decide +kernel
theorem dX7_isLine_81 : decode cX7_isLine 81 = .ok (.goto 19, 3) := by decide +kernel
theorem dX7_isLine_84 : decode cX7_isLine 84 = .ok (.aload_n 0, 1) := by decide +kernel
theorem dX7_isLine_85 : decode cX7_isLine 85 = .ok (.getfield 72, 3) := by decide +kernel
theorem dX7_isLine_88 : decode cX7_isLine 88 = .ok (.ldc2_w 112, 3) := by decide +kernel
theorem dX7_isLine_91 : decode cX7_isLine 91 = .ok (.lcmp, 1) := by decide +kernel
theorem dX7_isLine_92 : decode cX7_isLine 92 = .ok (.ifCond .ne 7, 3) := by decide +kernel
theorem dX7_isLine_95 : decode cX7_isLine 95 = .ok (.iconst 5, 1) := by decide +kernel
theorem dX7_isLine_96 : decode cX7_isLine 96 = .ok (.goto 4, 3) := by decide +kernel
theorem dX7_isLine_99 : decode cX7_isLine 99 = .ok (.iconst (-1), 1) := by decide +kernel
theorem dX7_isLine_100 : decode cX7_isLine 100 = .ok (.iastore, 1) := by decide +kernel
theorem dX7_isLine_101 : decode cX7_isLine 101 = .ok (.aload_n 0, 1) := by decide +kernel
theorem dX7_isLine_102 : decode cX7_isLine 102 = .ok (.getfield 19, 3) := by decide +kernel
theorem dX7_isLine_105 : decode cX7_isLine 105 = .ok (.iload_n 1, 1) := by decide +kernel
theorem dX7_isLine_106 : decode cX7_isLine 106 = .ok (.iaload, 1) := by decide +kernel
theorem dX7_isLine_107 : decode cX7_isLine 107 = .ok (.tableswitch 63 0 5 #[37, 37, 43, 49, 55, 61], 37) := by decide +kernel
theorem dX7_isLine_144 : decode cX7_isLine 144 = .ok (.aload_n 0, 1) := by decide +kernel
theorem dX7_isLine_145 : decode cX7_isLine 145 = .ok (.iload_n 1, 1) := by decide +kernel
theorem dX7_isLine_146 : decode cX7_isLine 146 = .ok (.invokevirtual 114, 3) := by decide +kernel
theorem dX7_isLine_149 : decode cX7_isLine 149 = .ok (.ireturn, 1) := by decide +kernel
theorem dX7_isLine_150 : decode cX7_isLine 150 = .ok (.aload_n 0, 1) := by decide +kernel
theorem dX7_isLine_151 : decode cX7_isLine 151 = .ok (.iload_n 1, 1) := by decide +kernel
theorem dX7_isLine_152 : decode cX7_isLine 152 = .ok (.invokevirtual 118, 3) := by decide +kernel
theorem dX7_isLine_155 : decode cX7_isLine 155 = .ok (.ireturn, 1) := by decide +kernel
theorem dX7_isLine_156 : decode cX7_isLine 156 = .ok (.aload_n 0, 1) := by decide +kernel
theorem dX7_isLine_157 : decode cX7_isLine 157 = .ok (.iload_n 1, 1) := by decide +kernel
theorem dX7_isLine_158 : decode cX7_isLine 158 = .ok (.invokevirtual 121, 3) := by decide +kernel
theorem dX7_isLine_161 : decode cX7_isLine 161 = .ok (.ireturn, 1) := by decide +kernel
theorem dX7_isLine_162 : decode cX7_isLine 162 = .ok (.aload_n 0, 1) := by decide +kernel
theorem dX7_isLine_163 : decode cX7_isLine 163 = .ok (.iload_n 1, 1) := by decide +kernel
theorem dX7_isLine_164 : decode cX7_isLine 164 = .ok (.invokevirtual 124, 3) := by decide +kernel
theorem dX7_isLine_167 : decode cX7_isLine 167 = .ok (.ireturn, 1) := by decide +kernel
theorem dX7_isLine_168 : decode cX7_isLine 168 = .ok (.iconst 1, 1) := by decide +kernel
theorem dX7_isLine_169 : decode cX7_isLine 169 = .ok (.ireturn, 1) := by decide +kernel
theorem dX7_isLine_170 : decode cX7_isLine 170 = .ok (.aload_n 0, 1) := by decide +kernel
theorem dX7_isLine_171 : decode cX7_isLine 171 = .ok (.invokevirtual 92, 3) := by decide +kernel
theorem dX7_isLine_174 : decode cX7_isLine 174 = .ok (.ireturn, 1) := by decide +kernel
set_option maxRecDepth 20000 in
theorem ggX7_isText_X7_isLine : GoodIn wsX7_isText wsX7_isLine := goodIn_r _ [12, 13, 5, 14, 15, 16, 17, 18, 19, 20, 21, 22, 11, 23, 1, 24, 25, 26, 27, 28, 7, 29, 30, 31, 32, 6, 33, 34, 35, 36, 37, 38, 39, 4, 40, 41, 42, 43, 44, 45, 46, 47, 48, 49, 50, 51, 52, 53, 54, 55, 56, 57, 58, 59, 60, 61, 62, 63, 64, 65, 66, 67, 68, 69, 70, 71, 72, 73, 74, 75, 76, 77, 78, 79, 80, 81, 82, 83, 84, 85, 86, 87, 88, 89] (by decide +kernel) (by decide +kernel)
set_option maxRecDepth 20000 in
theorem gX7_isText_X7_isLine : GoodIn wsX7_isText (wsV RX7 130 RX7 yX7_isLine wsX7_isLine) := goodIn_app (goodIn_of _ (by decide +kernel)) ggX7_isText_X7_isLine
set_option maxRecDepth 20000 in
theorem ggX7_isText_X7_nextToken : GoodIn wsX7_isText wsX7_nextToken := goodIn_r _ [23, 1, 24, 25, 26, 27, 28, 7, 5, 29, 30, 31, 32, 6, 33, 34, 11, 35, 64, 65, 66, 67, 68, 69, 70, 71, 72, 73, 74, 75, 76, 77, 78, 79, 80, 81, 82, 83, 84, 85, 86, 87, 88, 89] (by decide +kernel) (by decide +kernel)
set_option maxRecDepth 20000 in
theorem gX7_isText_X7_nextToken : GoodIn wsX7_isText (wsV RX7 89 RX7 yX7_nextToken wsX7_nextToken) := goodIn_app (goodIn_of _ (by decide +kernel)) ggX7_isText_X7_nextToken
set_option maxRecDepth 20000 in
theorem ggX7_isText_X7_fails : GoodIn wsX7_isText wsX7_fails := goodIn_r _ [47, 26, 48, 64, 65, 66, 67, 68, 69, 70, 71, 72, 73, 74, 75, 76, 77, 78, 79, 80, 81, 82, 83, 84, 85, 86, 87, 88, 89] (by decide +kernel) (by decide +kernel)
set_option maxRecDepth 20000 in
theorem gX7_isText_X7_fails : GoodIn wsX7_isText (wsV RX7 92 RX7 yX7_fails wsX7_fails) := goodIn_app (goodIn_of _ (by decide +kernel)) ggX7_isText_X7_fails
theorem dX7_isText_0 : decode cX7_isText 0 = .ok (.aload_n 0, 1) := by decide +kernel
theorem dX7_isText_1 : decode cX7_isText 1 = .ok (.iconst 0, 1) := by decide +kernel
theorem dX7_isText_2 : decode cX7_isText 2 = .ok (.putfield 58, 3) := by decide +kernel
theorem dX7_isText_5 : decode cX7_isText 5 = .ok (.aload_n 0, 1) := by decide +kernel
theorem dX7_isText_6 : decode cX7_isText 6 = .ok (.iconst 0, 1) := by decide +kernel
theorem dX7_isText_7 : decode cX7_isText 7 = .ok (.putfield 127, 3) := by decide +kernel
theorem dX7_isText_10 : decode cX7_isText 10 = .ok (.aload_n 0, 1) := by decide +kernel
theorem dX7_isText_11 : decode cX7_isText 11 = .ok (.aload_n 0, 1) := by decide +kernel
theorem dX7_isText_12 : decode cX7_isText 12 = .ok (.getfield 45, 3) := by decide +kernel
theorem dX7_isText_15 : decode cX7_isText 15 = .ok (.putfield 99, 3) := by decide +kernel
theorem dX7_isText_18 : decode cX7_isText 18 = .ok (.iconst 1, 1) := by decide +kernel
theorem dX7_isText_19 : decode cX7_isText 19 = .ok (.istore_n 1, 1) := by decide +kernel
theorem dX7_isText_20 : decode cX7_isText 20 = .ok (.iload_n 1, 1) := by decide +kernel
theorem dX7_isText_21 : decode cX7_isText 21 = .ok (.ifCond .eq 62, 3) := by decide +kernel
theorem dX7_isText_24 : decode cX7_isText 24 = .ok (.aload_n 0, 1) := by decide +kernel
theorem dX7_isText_25 : decode cX7_isText 25 = .ok (.bipush 6, 2) := by decide +kernel
theorem dX7_isText_27 : decode cX7_isText 27 = .ok (.aload_n 0, 1) := by decide +kernel
theorem dX7_isText_28 : decode cX7_isText 28 = .ok (.getfield 127, 3) := by decide +kernel
theorem dX7_isText_31 : decode cX7_isText 31 = .ok (.imul, 1) := by decide +kernel
theorem dX7_isText_32 : decode cX7_isText 32 = .ok (.invokevirtual 130, 3) := by decide +kernel
theorem dX7_isText_35 : decode cX7_isText 35 = .ok (.ifCond .ne 5, 3) := by decide +kernel
theorem dX7_isText_38 : decode cX7_isText 38 = .ok (.iconst 0, 1) := by decide +kernel
theorem dX7_isText_39 : decode cX7_isText 39 = .ok (.ireturn, 1) := by decide +kernel
theorem dX7_isText_40 : decode cX7_isText 40 = .ok (.aload_n 0, 1) := by decide +kernel
theorem dX7_isText_41 : decode cX7_isText 41 = .ok (.dup, 1) := by decide +kernel
theorem dX7_isText_42 : decode cX7_isText 42 = .ok (.getfield 127, 3) := by decide +kernel
theorem dX7_isText_45 : decode cX7_isText 45 = .ok (.iconst 1, 1) := by decide +kernel
theorem dX7_isText_46 : decode cX7_isText 46 = .ok (.iadd, 1) := by decide +kernel
theorem dX7_isText_47 : decode cX7_isText 47 = .ok (.putfield 127, 3) := by decide +kernel
theorem dX7_isText_50 : decode cX7_isText 50 = .ok (.aload_n 0, 1) := by decide +kernel
theorem dX7_isText_51 : decode cX7_isText 51 = .ok (.invokevirtual 89, 3) := by decide +kernel
theorem dX7_isText_54 : decode cX7_isText 54 = .ok (.aload_n 0, 1) := by decide +kernel
theorem dX7_isText_55 : decode cX7_isText 55 = .ok (.getfield 72, 3) := by decide +kernel
theorem dX7_isText_58 : decode cX7_isText 58 = .ok (.ldc2_w 84, 3) := by decide +kernel
theorem dX7_isText_61 : decode cX7_isText 61 = .ok (.lcmp, 1) := by decide +kernel
theorem dX7_isText_62 : decode cX7_isText 62 = .ok (.ifCond .ne 16, 3) := by decide +kernel
theorem dX7_isText_65 : decode cX7_isText 65 = .ok (.aload_n 0, 1) := by decide +kernel
theorem dX7_isText_66 : decode cX7_isText 66 = .ok (.getfield 127, 3) := by decide +kernel
theorem dX7_isText_69 : decode cX7_isText 69 = .ok (.bipush 8, 2) := by decide +kernel
theorem dX7_isText_71 : decode cX7_isText 71 = .ok (.if_icmp .ge 7, 3) := by decide +kernel
theorem dX7_isText_74 : decode cX7_isText 74 = .ok (.iconst 1, 1) := by decide +kernel
theorem dX7_isText_75 : decode cX7_isText 75 = .ok (.goto 4, 3) := by decide +kernel
theorem dX7_isText_78 : decode cX7_isText 78 = .ok (.iconst 0, 1) := by decide +kernel
theorem dX7_isText_79 : decode cX7_isText 79 = .ok (.istore_n 1, 1) := by decide +kernel
theorem dX7_isText_80 : decode cX7_isText 80 = .ok (.goto (-60), 3) := by decide +kernel
theorem dX7_isText_83 : decode cX7_isText 83 = .ok (.aload_n 0, 1) := by decide +kernel
theorem dX7_isText_84 : decode cX7_isText 84 = .ok (.getfield 72, 3) := by decide +kernel
theorem dX7_isText_87 : decode cX7_isText 87 = .ok (.ldc2_w 70, 3) := by decide +kernel
theorem dX7_isText_90 : decode cX7_isText 90 = .ok (.lcmp, 1) := by decide +kernel
theorem dX7_isText_91 : decode cX7_isText 91 = .ok (.ifCond .eq 10, 3) := by decide +kernel
theorem dX7_isText_94 : decode cX7_isText 94 = .ok (.aload_n 0, 1) := by decide +kernel
theorem dX7_isText_95 : decode cX7_isText 95 = .ok (.invokevirtual 92, 3) := by decide +kernel
theorem dX7_isText_98 : decode cX7_isText 98 = .ok (.ifCond .eq 7, 3) := by decide +kernel
theorem dX7_isText_101 : decode cX7_isText 101 = .ok (.iconst 1, 1) := by decide +kernel
theorem dX7_isText_102 : decode cX7_isText 102 = .ok (.goto 4, 3) := by decide +kernel
theorem dX7_isText_105 : decode cX7_isText 105 = .ok (.iconst 0, 1) := by decide +kernel
theorem dX7_isText_106 : decode cX7_isText 106 = .ok (.ireturn, 1) := by decide +kernel
set_option maxRecDepth 20000 in
theorem ggX7_fault_X7_isText : GoodIn wsX7_fault wsX7_isText := goodIn_r _ [6, 7, 8, 9, 10, 11, 12, 13, 14, 15, 16, 5, 17, 18, 19, 20, 21, 22, 23, 24, 25, 26, 27, 28, 29, 30, 31, 32, 33, 34, 35, 36, 37, 38, 39, 40, 41, 42, 43, 44, 45, 46, 47, 48, 49, 50, 51, 52, 1, 53, 54, 55, 56, 57, 58, 59, 60, 61, 62, 63, 64, 65, 66, 67, 68, 69, 70, 71, 72, 73, 74, 75, 76, 77, 78, 79, 80, 81, 82, 83, 84, 85, 86, 87, 88, 89, 90, 91, 92, 93] (by decide +kernel) (by decide +kernel)
set_option maxRecDepth 20000 in
theorem gX7_fault_X7_isText : GoodIn wsX7_fault (wsV RX7 133 RX7 yX7_isText wsX7_isText) := goodIn_app (goodIn_of _ (by decide +kernel)) ggX7_fault_X7_isText
theorem dX7_fault_0 : decode cX7_fault 0 = .ok (.aload_n 0, 1) := by decide +kernel
theorem dX7_fault_1 : decode cX7_fault 1 = .ok (.invokevirtual 133, 3) := by decide +kernel
theorem dX7_fault_4 : decode cX7_fault 4 = .ok (.ifCond .eq 7, 3) := by decide +kernel
theorem dX7_fault_7 : decode cX7_fault 7 = .ok (.iconst (-1), 1) := by decide +kernel
theorem dX7_fault_8 : decode cX7_fault 8 = .ok (.goto 7, 3) := by decide +kernel
theorem dX7_fault_11 : decode cX7_fault 11 = .ok (.aload_n 0, 1) := by decide +kernel
theorem dX7_fault_12 : decode cX7_fault 12 = .ok (.getfield 86, 3) := by decide +kernel
theorem dX7_fault_15 : decode cX7_fault 15 = .ok (.ireturn, 1) := by decide +kernel
theorem dX7_doLine_0 : decode cX7_doLine 0 = .ok (.aload_n 0, 1) := by decide +kernel
theorem dX7_doLine_1 : decode cX7_doLine 1 = .ok (.getfield 19, 3) := by decide +kernel
theorem dX7_doLine_4 : decode cX7_doLine 4 = .ok (.iload_n 1, 1) := by decide +kernel
theorem dX7_doLine_5 : decode cX7_doLine 5 = .ok (.iconst 1, 1) := by decide +kernel
theorem dX7_doLine_6 : decode cX7_doLine 6 = .ok (.iadd, 1) := by decide +kernel
theorem dX7_doLine_7 : decode cX7_doLine 7 = .ok (.iaload, 1) := by decide +kernel
theorem dX7_doLine_8 : decode cX7_doLine 8 = .ok (.istore_n 2, 1) := by decide +kernel
theorem dX7_doLine_9 : decode cX7_doLine 9 = .ok (.aload_n 0, 1) := by decide +kernel
theorem dX7_doLine_10 : decode cX7_doLine 10 = .ok (.getfield 19, 3) := by decide +kernel
theorem dX7_doLine_13 : decode cX7_doLine 13 = .ok (.iload_n 1, 1) := by decide +kernel
theorem dX7_doLine_14 : decode cX7_doLine 14 = .ok (.iaload, 1) := by decide +kernel
theorem dX7_doLine_15 : decode cX7_doLine 15 = .ok (.tableswitch 98 3 5 #[25, 56, 90], 25) := by decide +kernel
theorem dX7_doLine_40 : decode cX7_doLine 40 = .ok (.aload_n 0, 1) := by decide +kernel
theorem dX7_doLine_41 : decode cX7_doLine 41 = .ok (.aload_n 0, 1) := by decide +kernel
theorem dX7_doLine_42 : decode cX7_doLine 42 = .ok (.getfield 45, 3) := by decide +kernel
theorem dX7_doLine_45 : decode cX7_doLine 45 = .ok (.iconst 1, 1) := by decide +kernel
theorem dX7_doLine_46 : decode cX7_doLine 46 = .ok (.iload_n 2, 1) := by decide +kernel
theorem dX7_doLine_47 : decode cX7_doLine 47 = .ok (.ishl, 1) := by decide +kernel
theorem dX7_doLine_48 : decode cX7_doLine 48 = .ok (.iconst (-1), 1) := by decide +kernel
theorem dX7_doLine_49 : decode cX7_doLine 49 = .ok (.ixor, 1) := by decide +kernel
theorem dX7_doLine_50 : decode cX7_doLine 50 = .ok (.iand, 1) := by decide +kernel
theorem dX7_doLine_51 : decode cX7_doLine 51 = .ok (.putfield 45, 3) := by decide +kernel
theorem dX7_doLine_54 : decode cX7_doLine 54 = .ok (.aload_n 0, 1) := by decide +kernel
theorem dX7_doLine_55 : decode cX7_doLine 55 = .ok (.aload_n 0, 1) := by decide +kernel
theorem dX7_doLine_56 : decode cX7_doLine 56 = .ok (.getfield 136, 3) := by decide +kernel
theorem dX7_doLine_59 : decode cX7_doLine 59 = .ok (.iconst 1, 1) := by decide +kernel
theorem dX7_doLine_60 : decode cX7_doLine 60 = .ok (.iload_n 2, 1) := by decide +kernel
theorem dX7_doLine_61 : decode cX7_doLine 61 = .ok (.ishl, 1) := by decide +kernel
theorem dX7_doLine_62 : decode cX7_doLine 62 = .ok (.iconst (-1), 1) := by decide +kernel
theorem dX7_doLine_63 : decode cX7_doLine 63 = .ok (.ixor, 1) := by decide +kernel
theorem dX7_doLine_64 : decode cX7_doLine 64 = .ok (.iand, 1) := by decide +kernel
theorem dX7_doLine_65 : decode cX7_doLine 65 = .ok (.putfield 136, 3) := by decide +kernel
theorem dX7_doLine_68 : decode cX7_doLine 68 = .ok (.goto 200, 3) := by decide +kernel
theorem dX7_doLine_71 : decode cX7_doLine 71 = .ok (.aload_n 0, 1) := by decide +kernel
theorem dX7_doLine_72 : decode cX7_doLine 72 = .ok (.aload_n 0, 1) := by decide +kernel
theorem dX7_doLine_73 : decode cX7_doLine 73 = .ok (.getfield 136, 3) := by decide +kernel
theorem dX7_doLine_76 : decode cX7_doLine 76 = .ok (.iconst 1, 1) := by decide +kernel
theorem dX7_doLine_77 : decode cX7_doLine 77 = .ok (.iload_n 2, 1) := by decide +kernel
theorem dX7_doLine_78 : decode cX7_doLine 78 = .ok (.ishl, 1) := by decide +kernel
theorem dX7_doLine_79 : decode cX7_doLine 79 = .ok (.ior, 1) := by decide +kernel
theorem dX7_doLine_80 : decode cX7_doLine 80 = .ok (.putfield 136, 3) := by decide +kernel
theorem dX7_doLine_83 : decode cX7_doLine 83 = .ok (.aload_n 0, 1) := by decide +kernel
theorem dX7_doLine_84 : decode cX7_doLine 84 = .ok (.getfield 7, 3) := by decide +kernel
theorem dX7_doLine_87 : decode cX7_doLine 87 = .ok (.bipush 6, 2) := by decide +kernel
theorem dX7_doLine_89 : decode cX7_doLine 89 = .ok (.iload_n 2, 1) := by decide +kernel
theorem dX7_doLine_90 : decode cX7_doLine 90 = .ok (.imul, 1) := by decide +kernel
theorem dX7_doLine_91 : decode cX7_doLine 91 = .ok (.iconst 5, 1) := by decide +kernel
theorem dX7_doLine_92 : decode cX7_doLine 92 = .ok (.iadd, 1) := by decide +kernel
theorem dX7_doLine_93 : decode cX7_doLine 93 = .ok (.aload_n 0, 1) := by decide +kernel
theorem dX7_doLine_94 : decode cX7_doLine 94 = .ok (.getfield 19, 3) := by decide +kernel
theorem dX7_doLine_97 : decode cX7_doLine 97 = .ok (.iload_n 1, 1) := by decide +kernel
theorem dX7_doLine_98 : decode cX7_doLine 98 = .ok (.iconst 2, 1) := by decide +kernel
theorem dX7_doLine_99 : decode cX7_doLine 99 = .ok (.iadd, 1) := by decide +kernel
theorem dX7_doLine_100 : decode cX7_doLine 100 = .ok (.iaload, 1) := by decide +kernel
theorem dX7_doLine_101 : decode cX7_doLine 101 = .ok (.iastore, 1) := by decide +kernel
theorem dX7_doLine_102 : decode cX7_doLine 102 = .ok (.goto 166, 3) := by decide +kernel
theorem dX7_doLine_105 : decode cX7_doLine 105 = .ok (.aload_n 0, 1) := by decide +kernel
theorem dX7_doLine_106 : decode cX7_doLine 106 = .ok (.iconst 0, 1) := by decide +kernel
theorem dX7_doLine_107 : decode cX7_doLine 107 = .ok (.putfield 136, 3) := by decide +kernel
theorem dX7_doLine_110 : decode cX7_doLine 110 = .ok (.goto 158, 3) := by decide +kernel
theorem dX7_doLine_113 : decode cX7_doLine 113 = .ok (.aload_n 0, 1) := by decide +kernel
theorem dX7_doLine_114 : decode cX7_doLine 114 = .ok (.aload_n 0, 1) := by decide +kernel
theorem dX7_doLine_115 : decode cX7_doLine 115 = .ok (.getfield 45, 3) := by decide +kernel
theorem dX7_doLine_118 : decode cX7_doLine 118 = .ok (.iconst 1, 1) := by decide +kernel
theorem dX7_doLine_119 : decode cX7_doLine 119 = .ok (.iload_n 2, 1) := by decide +kernel
theorem dX7_doLine_120 : decode cX7_doLine 120 = .ok (.ishl, 1) := by decide +kernel
theorem dX7_doLine_121 : decode cX7_doLine 121 = .ok (.ior, 1) := by decide +kernel
theorem dX7_doLine_122 : decode cX7_doLine 122 = .ok (.putfield 45, 3) := by decide +kernel
theorem dX7_doLine_125 : decode cX7_doLine 125 = .ok (.aload_n 0, 1) := by decide +kernel
theorem dX7_doLine_126 : decode cX7_doLine 126 = .ok (.aload_n 0, 1) := by decide +kernel
theorem dX7_doLine_127 : decode cX7_doLine 127 = .ok (.getfield 136, 3) := by decide +kernel
theorem dX7_doLine_130 : decode cX7_doLine 130 = .ok (.iconst 1, 1) := by decide +kernel
theorem dX7_doLine_131 : decode cX7_doLine 131 = .ok (.iload_n 2, 1) := by decide +kernel
theorem dX7_doLine_132 : decode cX7_doLine 132 = .ok (.ishl, 1) := by decide +kernel
theorem dX7_doLine_133 : decode cX7_doLine 133 = .ok (.iconst (-1), 1) := by decide +kernel
theorem dX7_doLine_134 : decode cX7_doLine 134 = .ok (.ixor, 1) := by decide +kernel
theorem dX7_doLine_135 : decode cX7_doLine 135 = .ok (.iand, 1) := by decide +kernel
theorem dX7_doLine_136 : decode cX7_doLine 136 = .ok (.putfield 136, 3) := by decide +kernel
theorem dX7_doLine_139 : decode cX7_doLine 139 = .ok (.aload_n 0, 1) := by decide +kernel
theorem dX7_doLine_140 : decode cX7_doLine 140 = .ok (.getfield 7, 3) := by decide +kernel
theorem dX7_doLine_143 : decode cX7_doLine 143 = .ok (.bipush 6, 2) := by decide +kernel
theorem dX7_doLine_145 : decode cX7_doLine 145 = .ok (.iload_n 2, 1) := by decide +kernel
theorem dX7_doLine_146 : decode cX7_doLine 146 = .ok (.imul, 1) := by decide +kernel
theorem dX7_doLine_147 : decode cX7_doLine 147 = .ok (.aload_n 0, 1) := by decide +kernel
theorem dX7_doLine_148 : decode cX7_doLine 148 = .ok (.getfield 19, 3) := by decide +kernel
theorem dX7_doLine_151 : decode cX7_doLine 151 = .ok (.iload_n 1, 1) := by decide +kernel
theorem dX7_doLine_152 : decode cX7_doLine 152 = .ok (.iaload, 1) := by decide +kernel
theorem dX7_doLine_153 : decode cX7_doLine 153 = .ok (.iastore, 1) := by decide +kernel
theorem dX7_doLine_154 : decode cX7_doLine 154 = .ok (.aload_n 0, 1) := by decide +kernel
theorem dX7_doLine_155 : decode cX7_doLine 155 = .ok (.getfield 7, 3) := by decide +kernel
theorem dX7_doLine_158 : decode cX7_doLine 158 = .ok (.bipush 6, 2) := by decide +kernel
theorem dX7_doLine_160 : decode cX7_doLine 160 = .ok (.iload_n 2, 1) := by decide +kernel
theorem dX7_doLine_161 : decode cX7_doLine 161 = .ok (.imul, 1) := by decide +kernel
theorem dX7_doLine_162 : decode cX7_doLine 162 = .ok (.iconst 1, 1) := by decide +kernel
theorem dX7_doLine_163 : decode cX7_doLine 163 = .ok (.iadd, 1) := by decide +kernel
theorem dX7_doLine_164 : decode cX7_doLine 164 = .ok (.aload_n 0, 1) := by decide +kernel
theorem dX7_doLine_165 : decode cX7_doLine 165 = .ok (.getfield 19, 3) := by decide +kernel
theorem dX7_doLine_168 : decode cX7_doLine 168 = .ok (.iload_n 1, 1) := by decide +kernel
theorem dX7_doLine_169 : decode cX7_doLine 169 = .ok (.iconst 2, 1) := by decide +kernel
theorem dX7_doLine_170 : decode cX7_doLine 170 = .ok (.iadd, 1) := by decide +kernel
theorem dX7_doLine_171 : decode cX7_doLine 171 = .ok (.iaload, 1) := by decide +kernel
theorem dX7_doLine_172 : decode cX7_doLine 172 = .ok (.iastore, 1) := by decide +kernel
theorem dX7_doLine_173 : decode cX7_doLine 173 = .ok (.aload_n 0, 1) := by decide +kernel
theorem dX7_doLine_174 : decode cX7_doLine 174 = .ok (.getfield 7, 3) := by decide +kernel
theorem dX7_doLine_177 : decode cX7_doLine 177 = .ok (.bipush 6, 2) := by decide +kernel
theorem dX7_doLine_179 : decode cX7_doLine 179 = .ok (.iload_n 2, 1) := by decide +kernel
theorem dX7_doLine_180 : decode cX7_doLine 180 = .ok (.imul, 1) := by decide +kernel
theorem dX7_doLine_181 : decode cX7_doLine 181 = .ok (.iconst 2, 1) := by decide +kernel
theorem dX7_doLine_182 : decode cX7_doLine 182 = .ok (.iadd, 1) := by decide +kernel
theorem dX7_doLine_183 : decode cX7_doLine 183 = .ok (.aload_n 0, 1) := by decide +kernel
theorem dX7_doLine_184 : decode cX7_doLine 184 = .ok (.getfield 19, 3) := by decide +kernel
theorem dX7_doLine_187 : decode cX7_doLine 187 = .ok (.iload_n 1, 1) := by decide +kernel
theorem dX7_doLine_188 : decode cX7_doLine 188 = .ok (.iconst 3, 1) := by decide +kernel
theorem dX7_doLine_189 : decode cX7_doLine 189 = .ok (.iadd, 1) := by decide +kernel
theorem dX7_doLine_190 : decode cX7_doLine 190 = .ok (.iaload, 1) := by decide +kernel
theorem dX7_doLine_191 : decode cX7_doLine 191 = .ok (.iastore, 1) := by decide +kernel
theorem dX7_doLine_192 : decode cX7_doLine 192 = .ok (.aload_n 0, 1) := by decide +kernel
theorem dX7_doLine_193 : decode cX7_doLine 193 = .ok (.getfield 7, 3) := by decide +kernel
theorem dX7_doLine_196 : decode cX7_doLine 196 = .ok (.bipush 6, 2) := by decide +kernel
theorem dX7_doLine_198 : decode cX7_doLine 198 = .ok (.iload_n 2, 1) := by decide +kernel
theorem dX7_doLine_199 : decode cX7_doLine 199 = .ok (.imul, 1) := by decide +kernel
theorem dX7_doLine_200 : decode cX7_doLine 200 = .ok (.iconst 3, 1) := by decide +kernel
theorem dX7_doLine_201 : decode cX7_doLine 201 = .ok (.iadd, 1) := by decide +kernel
theorem dX7_doLine_202 : decode cX7_doLine 202 = .ok (.aload_n 0, 1) := by decide +kernel
theorem dX7_doLine_203 : decode cX7_doLine 203 = .ok (.getfield 19, 3) := by decide +kernel
theorem dX7_doLine_206 : decode cX7_doLine 206 = .ok (.iload_n 1, 1) := by decide +kernel
theorem dX7_doLine_207 : decode cX7_doLine 207 = .ok (.iaload, 1) := by decide +kernel
theorem dX7_doLine_208 : decode cX7_doLine 208 = .ok (.iconst 2, 1) := by decide +kernel
theorem dX7_doLine_209 : decode cX7_doLine 209 = .ok (.if_icmp .ne 9, 3) := by decide +kernel
theorem dX7_doLine_212 : decode cX7_doLine 212 = .ok (.sipush (-1440), 3) := by decide +kernel
theorem dX7_doLine_215 : decode cX7_doLine 215 = .ok (.goto 14, 3) := by decide +kernel
theorem dX7_doLine_218 : decode cX7_doLine 218 = .ok (.aload_n 0, 1) := by decide +kernel
theorem dX7_doLine_219 : decode cX7_doLine 219 = .ok (.getfield 19, 3) := by decide +kernel
theorem dX7_doLine_222 : decode cX7_doLine 222 = .ok (.iload_n 1, 1) := by decide +kernel
theorem dX7_doLine_223 : decode cX7_doLine 223 = .ok (.iconst 4, 1) := by decide +kernel
theorem dX7_doLine_224 : decode cX7_doLine 224 = .ok (.iadd, 1) := by decide +kernel
theorem dX7_doLine_225 : decode cX7_doLine 225 = .ok (.iaload, 1) := by decide +kernel
theorem dX7_doLine_226 : decode cX7_doLine 226 = .ok (.bipush 120, 2) := by decide +kernel
theorem dX7_doLine_228 : decode cX7_doLine 228 = .ok (.isub, 1) := by decide +kernel
theorem dX7_doLine_229 : decode cX7_doLine 229 = .ok (.iastore, 1) := by decide +kernel
theorem dX7_doLine_230 : decode cX7_doLine 230 = .ok (.aload_n 0, 1) := by decide +kernel
theorem dX7_doLine_231 : decode cX7_doLine 231 = .ok (.getfield 7, 3) := by decide +kernel
theorem dX7_doLine_234 : decode cX7_doLine 234 = .ok (.bipush 6, 2) := by decide +kernel
theorem dX7_doLine_236 : decode cX7_doLine 236 = .ok (.iload_n 2, 1) := by decide +kernel
theorem dX7_doLine_237 : decode cX7_doLine 237 = .ok (.imul, 1) := by decide +kernel
theorem dX7_doLine_238 : decode cX7_doLine 238 = .ok (.iconst 4, 1) := by decide +kernel
theorem dX7_doLine_239 : decode cX7_doLine 239 = .ok (.iadd, 1) := by decide +kernel
theorem dX7_doLine_240 : decode cX7_doLine 240 = .ok (.aload_n 0, 1) := by decide +kernel
theorem dX7_doLine_241 : decode cX7_doLine 241 = .ok (.getfield 19, 3) := by decide +kernel
theorem dX7_doLine_244 : decode cX7_doLine 244 = .ok (.iload_n 1, 1) := by decide +kernel
theorem dX7_doLine_245 : decode cX7_doLine 245 = .ok (.iaload, 1) := by decide +kernel
theorem dX7_doLine_246 : decode cX7_doLine 246 = .ok (.iconst 2, 1) := by decide +kernel
theorem dX7_doLine_247 : decode cX7_doLine 247 = .ok (.if_icmp .ne 9, 3) := by decide +kernel
theorem dX7_doLine_250 : decode cX7_doLine 250 = .ok (.sipush (-1440), 3) := by decide +kernel
theorem dX7_doLine_253 : decode cX7_doLine 253 = .ok (.goto 14, 3) := by decide +kernel
theorem dX7_doLine_256 : decode cX7_doLine 256 = .ok (.aload_n 0, 1) := by decide +kernel
theorem dX7_doLine_257 : decode cX7_doLine 257 = .ok (.getfield 19, 3) := by decide +kernel
theorem dX7_doLine_260 : decode cX7_doLine 260 = .ok (.iload_n 1, 1) := by decide +kernel
theorem dX7_doLine_261 : decode cX7_doLine 261 = .ok (.iconst 5, 1) := by decide +kernel
theorem dX7_doLine_262 : decode cX7_doLine 262 = .ok (.iadd, 1) := by decide +kernel
theorem dX7_doLine_263 : decode cX7_doLine 263 = .ok (.iaload, 1) := by decide +kernel
theorem dX7_doLine_264 : decode cX7_doLine 264 = .ok (.bipush 120, 2) := by decide +kernel
theorem dX7_doLine_266 : decode cX7_doLine 266 = .ok (.isub, 1) := by decide +kernel
theorem dX7_doLine_267 : decode cX7_doLine 267 = .ok (.iastore, 1) := by decide +kernel
theorem dX7_doLine_268 : decode cX7_doLine 268 = .ok (.return_, 1) := by decide +kernel
set_option maxRecDepth 20000 in
theorem ggX7_house_X7_isText : GoodIn wsX7_house wsX7_isText := goodIn_r _ [7, 8, 1, 9, 10, 11, 12, 13, 14, 15, 16, 6, 17, 18, 19, 20, 21, 22, 23, 24, 25, 26, 27, 28, 2, 29, 30, 31, 32, 33, 34, 35, 36, 37, 38, 39, 40, 41, 42, 43, 44, 45, 46, 47, 48, 49, 50, 51, 52, 53, 54, 55, 56, 57, 58, 59, 60, 61, 62, 63, 64, 65, 66, 67, 74, 75, 76, 77, 78, 79, 80, 81, 82, 83, 84, 85, 86, 87, 88, 89, 90, 91, 92, 93, 94, 95, 96, 97, 98, 99] (by decide +kernel) (by decide +kernel)
set_option maxRecDepth 20000 in
theorem gX7_house_X7_isText : GoodIn wsX7_house (wsV RX7 133 RX7 yX7_isText wsX7_isText) := goodIn_app (goodIn_of _ (by decide +kernel)) ggX7_house_X7_isText
set_option maxRecDepth 20000 in
theorem ggX7_house_X7_doLine : GoodIn wsX7_house wsX7_doLine := goodIn_r _ [71, 18, 9, 72, 73, 74, 75, 76, 77, 78, 79, 80, 81, 82, 83, 84, 85, 86, 87, 88, 89, 90, 91, 92, 93, 94, 95, 96, 97, 98, 99] (by decide +kernel) (by decide +kernel)
set_option maxRecDepth 20000 in
theorem gX7_house_X7_doLine : GoodIn wsX7_house (wsV RX7 139 RX7 yX7_doLine wsX7_doLine) := goodIn_app (goodIn_of _ (by decide +kernel)) ggX7_house_X7_doLine
theorem dX7_house_0 : decode cX7_house 0 = .ok (.aload_n 0, 1) := by decide +kernel
theorem dX7_house_1 : decode cX7_house 1 = .ok (.invokevirtual 133, 3) := by decide +kernel
theorem dX7_house_4 : decode cX7_house 4 = .ok (.ifCond .ne 6, 3) := by decide +kernel
theorem dX7_house_7 : decode cX7_house 7 = .ok (.bipush (-4), 2) := by decide +kernel
theorem dX7_house_9 : decode cX7_house 9 = .ok (.ireturn, 1) := by decide +kernel
theorem dX7_house_10 : decode cX7_house 10 = .ok (.iconst 0, 1) := by decide +kernel
theorem dX7_house_11 : decode cX7_house 11 = .ok (.istore_n 1, 1) := by decide +kernel
theorem dX7_house_12 : decode cX7_house 12 = .ok (.iload_n 1, 1) := by decide +kernel
theorem dX7_house_13 : decode cX7_house 13 = .ok (.aload_n 0, 1) := by decide +kernel
theorem dX7_house_14 : decode cX7_house 14 = .ok (.getfield 127, 3) := by decide +kernel
theorem dX7_house_17 : decode cX7_house 17 = .ok (.if_icmp .ge 17, 3) := by decide +kernel
theorem dX7_house_20 : decode cX7_house 20 = .ok (.aload_n 0, 1) := by decide +kernel
theorem dX7_house_21 : decode cX7_house 21 = .ok (.bipush 6, 2) := by decide +kernel
theorem dX7_house_23 : decode cX7_house 23 = .ok (.iload_n 1, 1) := by decide +kernel
theorem dX7_house_24 : decode cX7_house 24 = .ok (.imul, 1) := by decide +kernel
theorem dX7_house_25 : decode cX7_house 25 = .ok (.invokevirtual 139, 3) := by decide +kernel
theorem dX7_house_28 : decode cX7_house 28 = .ok (.iinc 1 1, 3) := by decide +kernel
theorem dX7_house_31 : decode cX7_house 31 = .ok (.goto (-19), 3) := by decide +kernel
theorem dX7_house_34 : decode cX7_house 34 = .ok (.aload_n 0, 1) := by decide +kernel
theorem dX7_house_35 : decode cX7_house 35 = .ok (.iconst 0, 1) := by decide +kernel
theorem dX7_house_36 : decode cX7_house 36 = .ok (.putfield 53, 3) := by decide +kernel
theorem dX7_house_39 : decode cX7_house 39 = .ok (.aload_n 0, 1) := by decide +kernel
theorem dX7_house_40 : decode cX7_house 40 = .ok (.getfield 127, 3) := by decide +kernel
theorem dX7_house_43 : decode cX7_house 43 = .ok (.ireturn, 1) := by decide +kernel
set_option maxRecDepth 20000 in
theorem ggX7_clock_X7_isClock : GoodIn wsX7_clock wsX7_isClock := goodIn_r _ [7, 8, 9, 10, 6, 11, 12, 13, 14, 15, 16, 17, 18, 19, 20, 21, 22, 23, 24, 25, 26, 27, 28, 29, 30, 31, 32, 33, 34, 35, 36, 37, 38, 39, 40] (by decide +kernel) (by decide +kernel)
set_option maxRecDepth 20000 in
theorem gX7_clock_X7_isClock : GoodIn wsX7_clock (wsV RX7 143 RX7 yX7_isClock wsX7_isClock) := goodIn_app (goodIn_of _ (by decide +kernel)) ggX7_clock_X7_isClock
set_option maxRecDepth 20000 in
theorem ggX7_clock_X7_has : GoodIn wsX7_clock wsX7_has := goodIn_r _ [14] (by decide +kernel) (by decide +kernel)
set_option maxRecDepth 20000 in
theorem gX7_clock_X7_has : GoodIn wsX7_clock (va_wsS RX7 49 yX7_has wsX7_has) := goodIn_app (goodIn_of _ (by decide +kernel)) ggX7_clock_X7_has
theorem dX7_clock_0 : decode cX7_clock 0 = .ok (.aload_n 0, 1) := by decide +kernel
theorem dX7_clock_1 : decode cX7_clock 1 = .ok (.iload_n 1, 1) := by decide +kernel
theorem dX7_clock_2 : decode cX7_clock 2 = .ok (.invokevirtual 143, 3) := by decide +kernel
theorem dX7_clock_5 : decode cX7_clock 5 = .ok (.ifCond .ne 6, 3) := by decide +kernel
theorem dX7_clock_8 : decode cX7_clock 8 = .ok (.bipush (-2), 2) := by decide +kernel
theorem dX7_clock_10 : decode cX7_clock 10 = .ok (.ireturn, 1) := by decide +kernel
theorem dX7_clock_11 : decode cX7_clock 11 = .ok (.aload_n 0, 1) := by decide +kernel
theorem dX7_clock_12 : decode cX7_clock 12 = .ok (.getfield 7, 3) := by decide +kernel
theorem dX7_clock_15 : decode cX7_clock 15 = .ok (.bipush 6, 2) := by decide +kernel
theorem dX7_clock_17 : decode cX7_clock 17 = .ok (.iload_n 1, 1) := by decide +kernel
theorem dX7_clock_18 : decode cX7_clock 18 = .ok (.imul, 1) := by decide +kernel
theorem dX7_clock_19 : decode cX7_clock 19 = .ok (.iaload, 1) := by decide +kernel
theorem dX7_clock_20 : decode cX7_clock 20 = .ok (.iconst 2, 1) := by decide +kernel
theorem dX7_clock_21 : decode cX7_clock 21 = .ok (.if_icmp .ne 7, 3) := by decide +kernel
theorem dX7_clock_24 : decode cX7_clock 24 = .ok (.iconst 1, 1) := by decide +kernel
theorem dX7_clock_25 : decode cX7_clock 25 = .ok (.goto 4, 3) := by decide +kernel
theorem dX7_clock_28 : decode cX7_clock 28 = .ok (.iconst 0, 1) := by decide +kernel
theorem dX7_clock_29 : decode cX7_clock 29 = .ok (.istore_n 3, 1) := by decide +kernel
theorem dX7_clock_30 : decode cX7_clock 30 = .ok (.iload_n 2, 1) := by decide +kernel
theorem dX7_clock_31 : decode cX7_clock 31 = .ok (.tableswitch 119 0 5 #[37, 49, 37, 69, 69, 92], 37) := by decide +kernel
theorem dX7_clock_68 : decode cX7_clock 68 = .ok (.aload_n 0, 1) := by decide +kernel
theorem dX7_clock_69 : decode cX7_clock 69 = .ok (.getfield 7, 3) := by decide +kernel
theorem dX7_clock_72 : decode cX7_clock 72 = .ok (.bipush 6, 2) := by decide +kernel
theorem dX7_clock_74 : decode cX7_clock 74 = .ok (.iload_n 1, 1) := by decide +kernel
theorem dX7_clock_75 : decode cX7_clock 75 = .ok (.imul, 1) := by decide +kernel
theorem dX7_clock_76 : decode cX7_clock 76 = .ok (.iload_n 2, 1) := by decide +kernel
theorem dX7_clock_77 : decode cX7_clock 77 = .ok (.iadd, 1) := by decide +kernel
theorem dX7_clock_78 : decode cX7_clock 78 = .ok (.iaload, 1) := by decide +kernel
theorem dX7_clock_79 : decode cX7_clock 79 = .ok (.ireturn, 1) := by decide +kernel
theorem dX7_clock_80 : decode cX7_clock 80 = .ok (.iload_n 3, 1) := by decide +kernel
theorem dX7_clock_81 : decode cX7_clock 81 = .ok (.ifCond .eq 7, 3) := by decide +kernel
theorem dX7_clock_84 : decode cX7_clock 84 = .ok (.iconst (-1), 1) := by decide +kernel
theorem dX7_clock_85 : decode cX7_clock 85 = .ok (.goto 14, 3) := by decide +kernel
theorem dX7_clock_88 : decode cX7_clock 88 = .ok (.aload_n 0, 1) := by decide +kernel
theorem dX7_clock_89 : decode cX7_clock 89 = .ok (.getfield 7, 3) := by decide +kernel
theorem dX7_clock_92 : decode cX7_clock 92 = .ok (.bipush 6, 2) := by decide +kernel
theorem dX7_clock_94 : decode cX7_clock 94 = .ok (.iload_n 1, 1) := by decide +kernel
theorem dX7_clock_95 : decode cX7_clock 95 = .ok (.imul, 1) := by decide +kernel
theorem dX7_clock_96 : decode cX7_clock 96 = .ok (.iconst 1, 1) := by decide +kernel
theorem dX7_clock_97 : decode cX7_clock 97 = .ok (.iadd, 1) := by decide +kernel
theorem dX7_clock_98 : decode cX7_clock 98 = .ok (.iaload, 1) := by decide +kernel
theorem dX7_clock_99 : decode cX7_clock 99 = .ok (.ireturn, 1) := by decide +kernel
theorem dX7_clock_100 : decode cX7_clock 100 = .ok (.iload_n 3, 1) := by decide +kernel
theorem dX7_clock_101 : decode cX7_clock 101 = .ok (.ifCond .eq 7, 3) := by decide +kernel
theorem dX7_clock_104 : decode cX7_clock 104 = .ok (.iconst (-1), 1) := by decide +kernel
theorem dX7_clock_105 : decode cX7_clock 105 = .ok (.goto 17, 3) := by decide +kernel
theorem dX7_clock_108 : decode cX7_clock 108 = .ok (.aload_n 0, 1) := by decide +kernel
theorem dX7_clock_109 : decode cX7_clock 109 = .ok (.getfield 7, 3) := by decide +kernel
theorem dX7_clock_112 : decode cX7_clock 112 = .ok (.bipush 6, 2) := by decide +kernel
theorem dX7_clock_114 : decode cX7_clock 114 = .ok (.iload_n 1, 1) := by decide +kernel
theorem dX7_clock_115 : decode cX7_clock 115 = .ok (.imul, 1) := by decide +kernel
theorem dX7_clock_116 : decode cX7_clock 116 = .ok (.iload_n 2, 1) := by decide +kernel
theorem dX7_clock_117 : decode cX7_clock 117 = .ok (.iadd, 1) := by decide +kernel
theorem dX7_clock_118 : decode cX7_clock 118 = .ok (.iaload, 1) := by decide +kernel
theorem dX7_clock_119 : decode cX7_clock 119 = .ok (.bipush 120, 2) := by decide +kernel
theorem dX7_clock_121 : decode cX7_clock 121 = .ok (.iadd, 1) := by decide +kernel
theorem dX7_clock_122 : decode cX7_clock 122 = .ok (.ireturn, 1) := by decide +kernel
theorem dX7_clock_123 : decode cX7_clock 123 = .ok (.aload_n 0, 1) := by decide +kernel
theorem dX7_clock_124 : decode cX7_clock 124 = .ok (.getfield 136, 3) := by decide +kernel
theorem dX7_clock_127 : decode cX7_clock 127 = .ok (.iload_n 1, 1) := by decide +kernel
theorem dX7_clock_128 : decode cX7_clock 128 = .ok (.invokestatic 49, 3) := by decide +kernel
theorem dX7_clock_131 : decode cX7_clock 131 = .ok (.ifCond .eq 17, 3) := by decide +kernel
theorem dX7_clock_134 : decode cX7_clock 134 = .ok (.aload_n 0, 1) := by decide +kernel
theorem dX7_clock_135 : decode cX7_clock 135 = .ok (.getfield 7, 3) := by decide +kernel
theorem dX7_clock_138 : decode cX7_clock 138 = .ok (.bipush 6, 2) := by decide +kernel
theorem dX7_clock_140 : decode cX7_clock 140 = .ok (.iload_n 1, 1) := by decide +kernel
theorem dX7_clock_141 : decode cX7_clock 141 = .ok (.imul, 1) := by decide +kernel
theorem dX7_clock_142 : decode cX7_clock 142 = .ok (.iconst 5, 1) := by decide +kernel
theorem dX7_clock_143 : decode cX7_clock 143 = .ok (.iadd, 1) := by decide +kernel
theorem dX7_clock_144 : decode cX7_clock 144 = .ok (.iaload, 1) := by decide +kernel
theorem dX7_clock_145 : decode cX7_clock 145 = .ok (.goto 4, 3) := by decide +kernel
theorem dX7_clock_148 : decode cX7_clock 148 = .ok (.iconst (-1), 1) := by decide +kernel
theorem dX7_clock_149 : decode cX7_clock 149 = .ok (.ireturn, 1) := by decide +kernel
theorem dX7_clock_150 : decode cX7_clock 150 = .ok (.bipush (-3), 2) := by decide +kernel
theorem dX7_clock_152 : decode cX7_clock 152 = .ok (.ireturn, 1) := by decide +kernel
theorem dX7_rest_0 : decode cX7_rest 0 = .ok (.iload_n 0, 1) := by decide +kernel
theorem dX7_rest_1 : decode cX7_rest 1 = .ok (.iload_n 1, 1) := by decide +kernel
theorem dX7_rest_2 : decode cX7_rest 2 = .ok (.irem, 1) := by decide +kernel
theorem dX7_rest_3 : decode cX7_rest 3 = .ok (.istore_n 2, 1) := by decide +kernel
theorem dX7_rest_4 : decode cX7_rest 4 = .ok (.iload_n 2, 1) := by decide +kernel
theorem dX7_rest_5 : decode cX7_rest 5 = .ok (.ifCond .ge 9, 3) := by decide +kernel
theorem dX7_rest_8 : decode cX7_rest 8 = .ok (.iload_n 2, 1) := by decide +kernel
theorem dX7_rest_9 : decode cX7_rest 9 = .ok (.iload_n 1, 1) := by decide +kernel
theorem dX7_rest_10 : decode cX7_rest 10 = .ok (.iadd, 1) := by decide +kernel
theorem dX7_rest_11 : decode cX7_rest 11 = .ok (.goto 4, 3) := by decide +kernel
theorem dX7_rest_14 : decode cX7_rest 14 = .ok (.iload_n 2, 1) := by decide +kernel
theorem dX7_rest_15 : decode cX7_rest 15 = .ok (.ireturn, 1) := by decide +kernel
set_option maxRecDepth 20000 in
theorem ggX7_down_X7_rest : GoodIn wsX7_down wsX7_rest := goodIn_r _ [4] (by decide +kernel) (by decide +kernel)
set_option maxRecDepth 20000 in
theorem gX7_down_X7_rest : GoodIn wsX7_down (va_wsS RX7 146 yX7_rest wsX7_rest) := goodIn_app (goodIn_of _ (by decide +kernel)) ggX7_down_X7_rest
theorem dX7_down_0 : decode cX7_down 0 = .ok (.iload_n 0, 1) := by decide +kernel
theorem dX7_down_1 : decode cX7_down 1 = .ok (.iload_n 0, 1) := by decide +kernel
theorem dX7_down_2 : decode cX7_down 2 = .ok (.iload_n 1, 1) := by decide +kernel
theorem dX7_down_3 : decode cX7_down 3 = .ok (.invokestatic 146, 3) := by decide +kernel
theorem dX7_down_6 : decode cX7_down 6 = .ok (.isub, 1) := by decide +kernel
theorem dX7_down_7 : decode cX7_down 7 = .ok (.iload_n 1, 1) := by decide +kernel
theorem dX7_down_8 : decode cX7_down 8 = .ok (.idiv, 1) := by decide +kernel
theorem dX7_down_9 : decode cX7_down 9 = .ok (.ireturn, 1) := by decide +kernel
theorem dX7_hand_0 : decode cX7_hand 0 = .ok (.iload_n 2, 1) := by decide +kernel
theorem dX7_hand_1 : decode cX7_hand 1 = .ok (.aload_n 0, 1) := by decide +kernel
theorem dX7_hand_2 : decode cX7_hand 2 = .ok (.getfield 7, 3) := by decide +kernel
theorem dX7_hand_5 : decode cX7_hand 5 = .ok (.bipush 6, 2) := by decide +kernel
theorem dX7_hand_7 : decode cX7_hand 7 = .ok (.iload_n 1, 1) := by decide +kernel
theorem dX7_hand_8 : decode cX7_hand 8 = .ok (.imul, 1) := by decide +kernel
theorem dX7_hand_9 : decode cX7_hand 9 = .ok (.iconst 1, 1) := by decide +kernel
theorem dX7_hand_10 : decode cX7_hand 10 = .ok (.iadd, 1) := by decide +kernel
theorem dX7_hand_11 : decode cX7_hand 11 = .ok (.iaload, 1) := by decide +kernel
theorem dX7_hand_12 : decode cX7_hand 12 = .ok (.isub, 1) := by decide +kernel
theorem dX7_hand_13 : decode cX7_hand 13 = .ok (.sipush 1440, 3) := by decide +kernel
theorem dX7_hand_16 : decode cX7_hand 16 = .ok (.iload_n 3, 1) := by decide +kernel
theorem dX7_hand_17 : decode cX7_hand 17 = .ok (.iadd, 1) := by decide +kernel
theorem dX7_hand_18 : decode cX7_hand 18 = .ok (.imul, 1) := by decide +kernel
theorem dX7_hand_19 : decode cX7_hand 19 = .ok (.istore 4, 2) := by decide +kernel
theorem dX7_hand_21 : decode cX7_hand 21 = .ok (.sipush 1440, 3) := by decide +kernel
theorem dX7_hand_24 : decode cX7_hand 24 = .ok (.aload_n 0, 1) := by decide +kernel
theorem dX7_hand_25 : decode cX7_hand 25 = .ok (.getfield 7, 3) := by decide +kernel
theorem dX7_hand_28 : decode cX7_hand 28 = .ok (.bipush 6, 2) := by decide +kernel
theorem dX7_hand_30 : decode cX7_hand 30 = .ok (.iload_n 1, 1) := by decide +kernel
theorem dX7_hand_31 : decode cX7_hand 31 = .ok (.imul, 1) := by decide +kernel
theorem dX7_hand_32 : decode cX7_hand 32 = .ok (.iconst 2, 1) := by decide +kernel
theorem dX7_hand_33 : decode cX7_hand 33 = .ok (.iadd, 1) := by decide +kernel
theorem dX7_hand_34 : decode cX7_hand 34 = .ok (.iaload, 1) := by decide +kernel
theorem dX7_hand_35 : decode cX7_hand 35 = .ok (.imul, 1) := by decide +kernel
theorem dX7_hand_36 : decode cX7_hand 36 = .ok (.aload_n 0, 1) := by decide +kernel
theorem dX7_hand_37 : decode cX7_hand 37 = .ok (.getfield 7, 3) := by decide +kernel
theorem dX7_hand_40 : decode cX7_hand 40 = .ok (.bipush 6, 2) := by decide +kernel
theorem dX7_hand_42 : decode cX7_hand 42 = .ok (.iload_n 1, 1) := by decide +kernel
theorem dX7_hand_43 : decode cX7_hand 43 = .ok (.imul, 1) := by decide +kernel
theorem dX7_hand_44 : decode cX7_hand 44 = .ok (.iaload, 1) := by decide +kernel
theorem dX7_hand_45 : decode cX7_hand 45 = .ok (.iconst 1, 1) := by decide +kernel
theorem dX7_hand_46 : decode cX7_hand 46 = .ok (.if_icmp .ne 9, 3) := by decide +kernel
theorem dX7_hand_49 : decode cX7_hand 49 = .ok (.iload 4, 2) := by decide +kernel
theorem dX7_hand_51 : decode cX7_hand 51 = .ok (.ineg, 1) := by decide +kernel
theorem dX7_hand_52 : decode cX7_hand 52 = .ok (.goto 5, 3) := by decide +kernel
theorem dX7_hand_55 : decode cX7_hand 55 = .ok (.iload 4, 2) := by decide +kernel
theorem dX7_hand_57 : decode cX7_hand 57 = .ok (.iadd, 1) := by decide +kernel
theorem dX7_hand_58 : decode cX7_hand 58 = .ok (.ireturn, 1) := by decide +kernel
set_option maxRecDepth 20000 in
theorem ggX7_isMinute_X7_in : GoodIn wsX7_isMinute wsX7_in := goodIn_r _ [4] (by decide +kernel) (by decide +kernel)
set_option maxRecDepth 20000 in
theorem gX7_isMinute_X7_in : GoodIn wsX7_isMinute (va_wsS RX7 41 yX7_in wsX7_in) := goodIn_app (goodIn_of _ (by decide +kernel)) ggX7_isMinute_X7_in
theorem dX7_isMinute_0 : decode cX7_isMinute 0 = .ok (.iload_n 0, 1) := by decide +kernel
theorem dX7_isMinute_1 : decode cX7_isMinute 1 = .ok (.iconst 0, 1) := by decide +kernel
theorem dX7_isMinute_2 : decode cX7_isMinute 2 = .ok (.sipush 4319, 3) := by decide +kernel
theorem dX7_isMinute_5 : decode cX7_isMinute 5 = .ok (.invokestatic 41, 3) := by decide +kernel
theorem dX7_isMinute_8 : decode cX7_isMinute 8 = .ok (.ireturn, 1) := by decide +kernel
set_option maxRecDepth 20000 in
theorem ggX7_shows_X7_isClock : GoodIn wsX7_shows wsX7_isClock := goodIn_r _ [6, 7, 8, 9, 5, 10, 11, 12, 13, 27, 28, 29, 30, 31, 32, 33, 34, 35, 36, 37, 38, 39, 40, 41, 42, 43, 44, 45, 46, 47, 48, 49, 50, 51, 52] (by decide +kernel) (by decide +kernel)
set_option maxRecDepth 20000 in
theorem gX7_shows_X7_isClock : GoodIn wsX7_shows (wsV RX7 143 RX7 yX7_isClock wsX7_isClock) := goodIn_app (goodIn_of _ (by decide +kernel)) ggX7_shows_X7_isClock
set_option maxRecDepth 20000 in
theorem ggX7_shows_X7_isMinute : GoodIn wsX7_shows wsX7_isMinute := goodIn_r _ [16, 8, 9, 5, 10] (by decide +kernel) (by decide +kernel)
set_option maxRecDepth 20000 in
theorem gX7_shows_X7_isMinute : GoodIn wsX7_shows (va_wsS RX7 150 yX7_isMinute wsX7_isMinute) := goodIn_app (goodIn_of _ (by decide +kernel)) ggX7_shows_X7_isMinute
set_option maxRecDepth 20000 in
theorem ggX7_shows_X7_in : GoodIn wsX7_shows wsX7_in := goodIn_r _ [10] (by decide +kernel) (by decide +kernel)
set_option maxRecDepth 20000 in
theorem gX7_shows_X7_in : GoodIn wsX7_shows (va_wsS RX7 41 yX7_in wsX7_in) := goodIn_app (goodIn_of _ (by decide +kernel)) ggX7_shows_X7_in
set_option maxRecDepth 20000 in
theorem ggX7_shows_X7_hand : GoodIn wsX7_shows wsX7_hand := goodIn_r _ [20, 1, 27, 28, 29, 30, 31, 32, 33, 34, 35, 36, 37, 38, 39, 40, 41, 42, 43, 44, 45, 46, 47, 48, 49, 50, 51, 52] (by decide +kernel) (by decide +kernel)
set_option maxRecDepth 20000 in
theorem gX7_shows_X7_hand : GoodIn wsX7_shows (wsV RX7 153 RX7 yX7_hand wsX7_hand) := goodIn_app (goodIn_of _ (by decide +kernel)) ggX7_shows_X7_hand
set_option maxRecDepth 20000 in
theorem ggX7_shows_X7_down : GoodIn wsX7_shows wsX7_down := goodIn_r _ [23, 24, 25, 5, 26] (by decide +kernel) (by decide +kernel)
set_option maxRecDepth 20000 in
theorem gX7_shows_X7_down : GoodIn wsX7_shows (va_wsS RX7 157 yX7_down wsX7_down) := goodIn_app (goodIn_of _ (by decide +kernel)) ggX7_shows_X7_down
set_option maxRecDepth 20000 in
theorem ggX7_shows_X7_rest : GoodIn wsX7_shows wsX7_rest := goodIn_r _ [26] (by decide +kernel) (by decide +kernel)
set_option maxRecDepth 20000 in
theorem gX7_shows_X7_rest : GoodIn wsX7_shows (va_wsS RX7 146 yX7_rest wsX7_rest) := goodIn_app (goodIn_of _ (by decide +kernel)) ggX7_shows_X7_rest
theorem dX7_shows_0 : decode cX7_shows 0 = .ok (.aload_n 0, 1) := by decide +kernel
theorem dX7_shows_1 : decode cX7_shows 1 = .ok (.iload_n 1, 1) := by decide +kernel
theorem dX7_shows_2 : decode cX7_shows 2 = .ok (.invokevirtual 143, 3) := by decide +kernel
theorem dX7_shows_5 : decode cX7_shows 5 = .ok (.ifCond .ne 6, 3) := by decide +kernel
theorem dX7_shows_8 : decode cX7_shows 8 = .ok (.bipush (-2), 2) := by decide +kernel
theorem dX7_shows_10 : decode cX7_shows 10 = .ok (.ireturn, 1) := by decide +kernel
theorem dX7_shows_11 : decode cX7_shows 11 = .ok (.iload_n 2, 1) := by decide +kernel
theorem dX7_shows_12 : decode cX7_shows 12 = .ok (.invokestatic 150, 3) := by decide +kernel
theorem dX7_shows_15 : decode cX7_shows 15 = .ok (.ifCond .eq 12, 3) := by decide +kernel
theorem dX7_shows_18 : decode cX7_shows 18 = .ok (.iload_n 3, 1) := by decide +kernel
theorem dX7_shows_19 : decode cX7_shows 19 = .ok (.iconst 0, 1) := by decide +kernel
theorem dX7_shows_20 : decode cX7_shows 20 = .ok (.iconst 1, 1) := by decide +kernel
theorem dX7_shows_21 : decode cX7_shows 21 = .ok (.invokestatic 41, 3) := by decide +kernel
theorem dX7_shows_24 : decode cX7_shows 24 = .ok (.ifCond .ne 6, 3) := by decide +kernel
theorem dX7_shows_27 : decode cX7_shows 27 = .ok (.bipush (-3), 2) := by decide +kernel
theorem dX7_shows_29 : decode cX7_shows 29 = .ok (.ireturn, 1) := by decide +kernel
theorem dX7_shows_30 : decode cX7_shows 30 = .ok (.aload_n 0, 1) := by decide +kernel
theorem dX7_shows_31 : decode cX7_shows 31 = .ok (.iload_n 1, 1) := by decide +kernel
theorem dX7_shows_32 : decode cX7_shows 32 = .ok (.iload_n 2, 1) := by decide +kernel
theorem dX7_shows_33 : decode cX7_shows 33 = .ok (.aload_n 0, 1) := by decide +kernel
theorem dX7_shows_34 : decode cX7_shows 34 = .ok (.getfield 7, 3) := by decide +kernel
theorem dX7_shows_37 : decode cX7_shows 37 = .ok (.bipush 6, 2) := by decide +kernel
theorem dX7_shows_39 : decode cX7_shows 39 = .ok (.iload_n 1, 1) := by decide +kernel
theorem dX7_shows_40 : decode cX7_shows 40 = .ok (.imul, 1) := by decide +kernel
theorem dX7_shows_41 : decode cX7_shows 41 = .ok (.iconst 3, 1) := by decide +kernel
theorem dX7_shows_42 : decode cX7_shows 42 = .ok (.iadd, 1) := by decide +kernel
theorem dX7_shows_43 : decode cX7_shows 43 = .ok (.iload_n 3, 1) := by decide +kernel
theorem dX7_shows_44 : decode cX7_shows 44 = .ok (.iadd, 1) := by decide +kernel
theorem dX7_shows_45 : decode cX7_shows 45 = .ok (.iaload, 1) := by decide +kernel
theorem dX7_shows_46 : decode cX7_shows 46 = .ok (.invokevirtual 153, 3) := by decide +kernel
theorem dX7_shows_49 : decode cX7_shows 49 = .ok (.sipush 1440, 3) := by decide +kernel
theorem dX7_shows_52 : decode cX7_shows 52 = .ok (.invokestatic 157, 3) := by decide +kernel
theorem dX7_shows_55 : decode cX7_shows 55 = .ok (.sipush 720, 3) := by decide +kernel
theorem dX7_shows_58 : decode cX7_shows 58 = .ok (.invokestatic 146, 3) := by decide +kernel
theorem dX7_shows_61 : decode cX7_shows 61 = .ok (.ireturn, 1) := by decide +kernel
set_option maxRecDepth 20000 in
theorem ggX7_isBetween_X7_down : GoodIn wsX7_isBetween wsX7_down := goodIn_r _ [4, 5, 6, 3, 7] (by decide +kernel) (by decide +kernel)
set_option maxRecDepth 20000 in
theorem gX7_isBetween_X7_down : GoodIn wsX7_isBetween (va_wsS RX7 157 yX7_down wsX7_down) := goodIn_app (goodIn_of _ (by decide +kernel)) ggX7_isBetween_X7_down
set_option maxRecDepth 20000 in
theorem ggX7_isBetween_X7_rest : GoodIn wsX7_isBetween wsX7_rest := goodIn_r _ [7] (by decide +kernel) (by decide +kernel)
set_option maxRecDepth 20000 in
theorem gX7_isBetween_X7_rest : GoodIn wsX7_isBetween (va_wsS RX7 146 yX7_rest wsX7_rest) := goodIn_app (goodIn_of _ (by decide +kernel)) ggX7_isBetween_X7_rest
theorem dX7_isBetween_0 : decode cX7_isBetween 0 = .ok (.iload_n 0, 1) := by decide +kernel
theorem dX7_isBetween_1 : decode cX7_isBetween 1 = .ok (.iload_n 1, 1) := by decide +kernel
theorem dX7_isBetween_2 : decode cX7_isBetween 2 = .ok (.if_icmp .ge 7, 3) := by decide +kernel
theorem dX7_isBetween_5 : decode cX7_isBetween 5 = .ok (.iload_n 0, 1) := by decide +kernel
theorem dX7_isBetween_6 : decode cX7_isBetween 6 = .ok (.goto 4, 3) := by decide +kernel
theorem dX7_isBetween_9 : decode cX7_isBetween 9 = .ok (.iload_n 1, 1) := by decide +kernel
theorem dX7_isBetween_10 : decode cX7_isBetween 10 = .ok (.sipush 1440, 3) := by decide +kernel
theorem dX7_isBetween_13 : decode cX7_isBetween 13 = .ok (.invokestatic 157, 3) := by decide +kernel
theorem dX7_isBetween_16 : decode cX7_isBetween 16 = .ok (.istore_n 3, 1) := by decide +kernel
theorem dX7_isBetween_17 : decode cX7_isBetween 17 = .ok (.iload_n 0, 1) := by decide +kernel
theorem dX7_isBetween_18 : decode cX7_isBetween 18 = .ok (.iload_n 1, 1) := by decide +kernel
theorem dX7_isBetween_19 : decode cX7_isBetween 19 = .ok (.if_icmp .ge 7, 3) := by decide +kernel
theorem dX7_isBetween_22 : decode cX7_isBetween 22 = .ok (.iload_n 1, 1) := by decide +kernel
theorem dX7_isBetween_23 : decode cX7_isBetween 23 = .ok (.goto 4, 3) := by decide +kernel
theorem dX7_isBetween_26 : decode cX7_isBetween 26 = .ok (.iload_n 0, 1) := by decide +kernel
theorem dX7_isBetween_27 : decode cX7_isBetween 27 = .ok (.sipush 1440, 3) := by decide +kernel
theorem dX7_isBetween_30 : decode cX7_isBetween 30 = .ok (.invokestatic 157, 3) := by decide +kernel
theorem dX7_isBetween_33 : decode cX7_isBetween 33 = .ok (.istore 4, 2) := by decide +kernel
theorem dX7_isBetween_35 : decode cX7_isBetween 35 = .ok (.iload_n 2, 1) := by decide +kernel
theorem dX7_isBetween_36 : decode cX7_isBetween 36 = .ok (.iload_n 3, 1) := by decide +kernel
theorem dX7_isBetween_37 : decode cX7_isBetween 37 = .ok (.isub, 1) := by decide +kernel
theorem dX7_isBetween_38 : decode cX7_isBetween 38 = .ok (.sipush 720, 3) := by decide +kernel
theorem dX7_isBetween_41 : decode cX7_isBetween 41 = .ok (.invokestatic 146, 3) := by decide +kernel
theorem dX7_isBetween_44 : decode cX7_isBetween 44 = .ok (.iload 4, 2) := by decide +kernel
theorem dX7_isBetween_46 : decode cX7_isBetween 46 = .ok (.iload_n 3, 1) := by decide +kernel
theorem dX7_isBetween_47 : decode cX7_isBetween 47 = .ok (.isub, 1) := by decide +kernel
theorem dX7_isBetween_48 : decode cX7_isBetween 48 = .ok (.if_icmp .gt 7, 3) := by decide +kernel
theorem dX7_isBetween_51 : decode cX7_isBetween 51 = .ok (.iconst 1, 1) := by decide +kernel
theorem dX7_isBetween_52 : decode cX7_isBetween 52 = .ok (.goto 4, 3) := by decide +kernel
theorem dX7_isBetween_55 : decode cX7_isBetween 55 = .ok (.iconst 0, 1) := by decide +kernel
theorem dX7_isBetween_56 : decode cX7_isBetween 56 = .ok (.ireturn, 1) := by decide +kernel
set_option maxRecDepth 20000 in
theorem ggX7_canShow_X7_hand : GoodIn wsX7_canShow wsX7_hand := goodIn_r _ [6, 1, 16, 17, 18, 19, 20, 21, 22, 23, 24, 25, 26, 27, 28, 29, 30, 31, 32, 33, 34, 35, 36, 37, 38, 39, 40, 41] (by decide +kernel) (by decide +kernel)
set_option maxRecDepth 20000 in
theorem gX7_canShow_X7_hand : GoodIn wsX7_canShow (wsV RX7 153 RX7 yX7_hand wsX7_hand) := goodIn_app (goodIn_of _ (by decide +kernel)) ggX7_canShow_X7_hand
set_option maxRecDepth 20000 in
theorem ggX7_canShow_X7_isBetween : GoodIn wsX7_canShow wsX7_isBetween := goodIn_r _ [9, 10, 11, 5, 12, 13, 14, 15] (by decide +kernel) (by decide +kernel)
set_option maxRecDepth 20000 in
theorem gX7_canShow_X7_isBetween : GoodIn wsX7_canShow (va_wsS RX7 160 yX7_isBetween wsX7_isBetween) := goodIn_app (goodIn_of _ (by decide +kernel)) ggX7_canShow_X7_isBetween
theorem dX7_canShow_0 : decode cX7_canShow 0 = .ok (.aload_n 0, 1) := by decide +kernel
theorem dX7_canShow_1 : decode cX7_canShow 1 = .ok (.iload_n 1, 1) := by decide +kernel
theorem dX7_canShow_2 : decode cX7_canShow 2 = .ok (.iload_n 2, 1) := by decide +kernel
theorem dX7_canShow_3 : decode cX7_canShow 3 = .ok (.aload_n 0, 1) := by decide +kernel
theorem dX7_canShow_4 : decode cX7_canShow 4 = .ok (.getfield 7, 3) := by decide +kernel
theorem dX7_canShow_7 : decode cX7_canShow 7 = .ok (.bipush 6, 2) := by decide +kernel
theorem dX7_canShow_9 : decode cX7_canShow 9 = .ok (.iload_n 1, 1) := by decide +kernel
theorem dX7_canShow_10 : decode cX7_canShow 10 = .ok (.imul, 1) := by decide +kernel
theorem dX7_canShow_11 : decode cX7_canShow 11 = .ok (.iconst 3, 1) := by decide +kernel
theorem dX7_canShow_12 : decode cX7_canShow 12 = .ok (.iadd, 1) := by decide +kernel
theorem dX7_canShow_13 : decode cX7_canShow 13 = .ok (.iaload, 1) := by decide +kernel
theorem dX7_canShow_14 : decode cX7_canShow 14 = .ok (.invokevirtual 153, 3) := by decide +kernel
theorem dX7_canShow_17 : decode cX7_canShow 17 = .ok (.aload_n 0, 1) := by decide +kernel
theorem dX7_canShow_18 : decode cX7_canShow 18 = .ok (.iload_n 1, 1) := by decide +kernel
theorem dX7_canShow_19 : decode cX7_canShow 19 = .ok (.iload_n 2, 1) := by decide +kernel
theorem dX7_canShow_20 : decode cX7_canShow 20 = .ok (.aload_n 0, 1) := by decide +kernel
theorem dX7_canShow_21 : decode cX7_canShow 21 = .ok (.getfield 7, 3) := by decide +kernel
theorem dX7_canShow_24 : decode cX7_canShow 24 = .ok (.bipush 6, 2) := by decide +kernel
theorem dX7_canShow_26 : decode cX7_canShow 26 = .ok (.iload_n 1, 1) := by decide +kernel
theorem dX7_canShow_27 : decode cX7_canShow 27 = .ok (.imul, 1) := by decide +kernel
theorem dX7_canShow_28 : decode cX7_canShow 28 = .ok (.iconst 4, 1) := by decide +kernel
theorem dX7_canShow_29 : decode cX7_canShow 29 = .ok (.iadd, 1) := by decide +kernel
theorem dX7_canShow_30 : decode cX7_canShow 30 = .ok (.iaload, 1) := by decide +kernel
theorem dX7_canShow_31 : decode cX7_canShow 31 = .ok (.invokevirtual 153, 3) := by decide +kernel
theorem dX7_canShow_34 : decode cX7_canShow 34 = .ok (.iload_n 3, 1) := by decide +kernel
theorem dX7_canShow_35 : decode cX7_canShow 35 = .ok (.invokestatic 160, 3) := by decide +kernel
theorem dX7_canShow_38 : decode cX7_canShow 38 = .ok (.ireturn, 1) := by decide +kernel
set_option maxRecDepth 20000 in
theorem ggX7_can_X7_isClock : GoodIn wsX7_can wsX7_isClock := goodIn_r _ [5, 6, 7, 8, 4, 9, 10, 11, 12, 34, 35, 36, 37, 38, 39, 40, 41, 42, 43, 44, 45, 46, 47, 48, 49, 50, 51, 52, 53, 54, 55, 56, 57, 58, 59] (by decide +kernel) (by decide +kernel)
set_option maxRecDepth 20000 in
theorem gX7_can_X7_isClock : GoodIn wsX7_can (wsV RX7 143 RX7 yX7_isClock wsX7_isClock) := goodIn_app (goodIn_of _ (by decide +kernel)) ggX7_can_X7_isClock
set_option maxRecDepth 20000 in
theorem ggX7_can_X7_isMinute : GoodIn wsX7_can wsX7_isMinute := goodIn_r _ [15, 7, 8, 4, 9] (by decide +kernel) (by decide +kernel)
set_option maxRecDepth 20000 in
theorem gX7_can_X7_isMinute : GoodIn wsX7_can (va_wsS RX7 150 yX7_isMinute wsX7_isMinute) := goodIn_app (goodIn_of _ (by decide +kernel)) ggX7_can_X7_isMinute
set_option maxRecDepth 20000 in
theorem ggX7_can_X7_in : GoodIn wsX7_can wsX7_in := goodIn_r _ [9] (by decide +kernel) (by decide +kernel)
set_option maxRecDepth 20000 in
theorem gX7_can_X7_in : GoodIn wsX7_can (va_wsS RX7 41 yX7_in wsX7_in) := goodIn_app (goodIn_of _ (by decide +kernel)) ggX7_can_X7_in
set_option maxRecDepth 20000 in
theorem ggX7_can_X7_canShow : GoodIn wsX7_can wsX7_canShow := goodIn_r _ [19, 20, 21, 22, 23, 4, 24, 25, 26, 27, 28, 29, 30, 31, 32, 33, 34, 35, 36, 37, 38, 39, 40, 41, 42, 43, 44, 45, 46, 47, 48, 49, 50, 51, 52, 53, 54, 55, 56, 57, 58, 59] (by decide +kernel) (by decide +kernel)
set_option maxRecDepth 20000 in
theorem gX7_can_X7_canShow : GoodIn wsX7_can (wsV RX7 163 RX7 yX7_canShow wsX7_canShow) := goodIn_app (goodIn_of _ (by decide +kernel)) ggX7_can_X7_canShow
theorem dX7_can_0 : decode cX7_can 0 = .ok (.aload_n 0, 1) := by decide +kernel
theorem dX7_can_1 : decode cX7_can 1 = .ok (.iload_n 1, 1) := by decide +kernel
theorem dX7_can_2 : decode cX7_can 2 = .ok (.invokevirtual 143, 3) := by decide +kernel
theorem dX7_can_5 : decode cX7_can 5 = .ok (.ifCond .ne 6, 3) := by decide +kernel
theorem dX7_can_8 : decode cX7_can 8 = .ok (.bipush (-2), 2) := by decide +kernel
theorem dX7_can_10 : decode cX7_can 10 = .ok (.ireturn, 1) := by decide +kernel
theorem dX7_can_11 : decode cX7_can 11 = .ok (.iload_n 2, 1) := by decide +kernel
theorem dX7_can_12 : decode cX7_can 12 = .ok (.invokestatic 150, 3) := by decide +kernel
theorem dX7_can_15 : decode cX7_can 15 = .ok (.ifCond .eq 14, 3) := by decide +kernel
theorem dX7_can_18 : decode cX7_can 18 = .ok (.iload_n 3, 1) := by decide +kernel
theorem dX7_can_19 : decode cX7_can 19 = .ok (.iconst 0, 1) := by decide +kernel
theorem dX7_can_20 : decode cX7_can 20 = .ok (.sipush 719, 3) := by decide +kernel
theorem dX7_can_23 : decode cX7_can 23 = .ok (.invokestatic 41, 3) := by decide +kernel
theorem dX7_can_26 : decode cX7_can 26 = .ok (.ifCond .ne 6, 3) := by decide +kernel
theorem dX7_can_29 : decode cX7_can 29 = .ok (.bipush (-3), 2) := by decide +kernel
theorem dX7_can_31 : decode cX7_can 31 = .ok (.ireturn, 1) := by decide +kernel
theorem dX7_can_32 : decode cX7_can 32 = .ok (.aload_n 0, 1) := by decide +kernel
theorem dX7_can_33 : decode cX7_can 33 = .ok (.iload_n 1, 1) := by decide +kernel
theorem dX7_can_34 : decode cX7_can 34 = .ok (.iload_n 2, 1) := by decide +kernel
theorem dX7_can_35 : decode cX7_can 35 = .ok (.iload_n 3, 1) := by decide +kernel
theorem dX7_can_36 : decode cX7_can 36 = .ok (.invokevirtual 163, 3) := by decide +kernel
theorem dX7_can_39 : decode cX7_can 39 = .ok (.ifCond .eq 7, 3) := by decide +kernel
theorem dX7_can_42 : decode cX7_can 42 = .ok (.iconst 1, 1) := by decide +kernel
theorem dX7_can_43 : decode cX7_can 43 = .ok (.goto 4, 3) := by decide +kernel
theorem dX7_can_46 : decode cX7_can 46 = .ok (.iconst 0, 1) := by decide +kernel
theorem dX7_can_47 : decode cX7_can 47 = .ok (.ireturn, 1) := by decide +kernel
set_option maxRecDepth 20000 in
theorem ggX7_fitAt_X7_has : GoodIn wsX7_fitAt wsX7_has := goodIn_r _ [6] (by decide +kernel) (by decide +kernel)
set_option maxRecDepth 20000 in
theorem gX7_fitAt_X7_has : GoodIn wsX7_fitAt (va_wsS RX7 49 yX7_has wsX7_has) := goodIn_app (goodIn_of _ (by decide +kernel)) ggX7_fitAt_X7_has
set_option maxRecDepth 20000 in
theorem ggX7_fitAt_X7_canShow : GoodIn wsX7_fitAt wsX7_canShow := goodIn_r _ [10, 2, 11, 12, 13, 5, 14, 15, 16, 17, 18, 19, 20, 21, 22, 23, 24, 25, 26, 27, 28, 29, 30, 31, 32, 33, 34, 35, 36, 37, 38, 39, 40, 41, 42, 43, 44, 45, 46, 47, 48, 49] (by decide +kernel) (by decide +kernel)
set_option maxRecDepth 20000 in
theorem gX7_fitAt_X7_canShow : GoodIn wsX7_fitAt (wsV RX7 163 RX7 yX7_canShow wsX7_canShow) := goodIn_app (goodIn_of _ (by decide +kernel)) ggX7_fitAt_X7_canShow
theorem dX7_fitAt_0 : decode cX7_fitAt 0 = .ok (.iconst 0, 1) := by decide +kernel
theorem dX7_fitAt_1 : decode cX7_fitAt 1 = .ok (.istore_n 2, 1) := by decide +kernel
theorem dX7_fitAt_2 : decode cX7_fitAt 2 = .ok (.iconst 0, 1) := by decide +kernel
theorem dX7_fitAt_3 : decode cX7_fitAt 3 = .ok (.istore_n 3, 1) := by decide +kernel
theorem dX7_fitAt_4 : decode cX7_fitAt 4 = .ok (.iload_n 3, 1) := by decide +kernel
theorem dX7_fitAt_5 : decode cX7_fitAt 5 = .ok (.bipush 8, 2) := by decide +kernel
theorem dX7_fitAt_7 : decode cX7_fitAt 7 = .ok (.if_icmp .ge 50, 3) := by decide +kernel
theorem dX7_fitAt_10 : decode cX7_fitAt 10 = .ok (.iload_n 2, 1) := by decide +kernel
theorem dX7_fitAt_11 : decode cX7_fitAt 11 = .ok (.aload_n 0, 1) := by decide +kernel
theorem dX7_fitAt_12 : decode cX7_fitAt 12 = .ok (.getfield 136, 3) := by decide +kernel
theorem dX7_fitAt_15 : decode cX7_fitAt 15 = .ok (.iload_n 3, 1) := by decide +kernel
theorem dX7_fitAt_16 : decode cX7_fitAt 16 = .ok (.invokestatic 49, 3) := by decide +kernel
theorem dX7_fitAt_19 : decode cX7_fitAt 19 = .ok (.ifCond .eq 29, 3) := by decide +kernel
theorem dX7_fitAt_22 : decode cX7_fitAt 22 = .ok (.aload_n 0, 1) := by decide +kernel
theorem dX7_fitAt_23 : decode cX7_fitAt 23 = .ok (.iload_n 3, 1) := by decide +kernel
theorem dX7_fitAt_24 : decode cX7_fitAt 24 = .ok (.iload_n 1, 1) := by decide +kernel
theorem dX7_fitAt_25 : decode cX7_fitAt 25 = .ok (.aload_n 0, 1) := by decide +kernel
theorem dX7_fitAt_26 : decode cX7_fitAt 26 = .ok (.getfield 7, 3) := by decide +kernel
theorem dX7_fitAt_29 : decode cX7_fitAt 29 = .ok (.bipush 6, 2) := by decide +kernel
theorem dX7_fitAt_31 : decode cX7_fitAt 31 = .ok (.iload_n 3, 1) := by decide +kernel
theorem dX7_fitAt_32 : decode cX7_fitAt 32 = .ok (.imul, 1) := by decide +kernel
theorem dX7_fitAt_33 : decode cX7_fitAt 33 = .ok (.iconst 5, 1) := by decide +kernel
theorem dX7_fitAt_34 : decode cX7_fitAt 34 = .ok (.iadd, 1) := by decide +kernel
theorem dX7_fitAt_35 : decode cX7_fitAt 35 = .ok (.iaload, 1) := by decide +kernel
theorem dX7_fitAt_36 : decode cX7_fitAt 36 = .ok (.invokevirtual 163, 3) := by decide +kernel
theorem dX7_fitAt_39 : decode cX7_fitAt 39 = .ok (.ifCond .eq 9, 3) := by decide +kernel
theorem dX7_fitAt_42 : decode cX7_fitAt 42 = .ok (.iconst 1, 1) := by decide +kernel
theorem dX7_fitAt_43 : decode cX7_fitAt 43 = .ok (.iload_n 3, 1) := by decide +kernel
theorem dX7_fitAt_44 : decode cX7_fitAt 44 = .ok (.ishl, 1) := by decide +kernel
theorem dX7_fitAt_45 : decode cX7_fitAt 45 = .ok (.goto 4, 3) := by decide +kernel
theorem dX7_fitAt_48 : decode cX7_fitAt 48 = .ok (.iconst 0, 1) := by decide +kernel
theorem dX7_fitAt_49 : decode cX7_fitAt 49 = .ok (.ior, 1) := by decide +kernel
theorem dX7_fitAt_50 : decode cX7_fitAt 50 = .ok (.istore_n 2, 1) := by decide +kernel
theorem dX7_fitAt_51 : decode cX7_fitAt 51 = .ok (.iinc 3 1, 3) := by decide +kernel
theorem dX7_fitAt_54 : decode cX7_fitAt 54 = .ok (.goto (-50), 3) := by decide +kernel
theorem dX7_fitAt_57 : decode cX7_fitAt 57 = .ok (.iload_n 2, 1) := by decide +kernel
theorem dX7_fitAt_58 : decode cX7_fitAt 58 = .ok (.ireturn, 1) := by decide +kernel
set_option maxRecDepth 20000 in
theorem ggX7_fits_X7_isMinute : GoodIn wsX7_fits wsX7_isMinute := goodIn_r _ [4, 5, 6, 3, 7] (by decide +kernel) (by decide +kernel)
set_option maxRecDepth 20000 in
theorem gX7_fits_X7_isMinute : GoodIn wsX7_fits (va_wsS RX7 150 yX7_isMinute wsX7_isMinute) := goodIn_app (goodIn_of _ (by decide +kernel)) ggX7_fits_X7_isMinute
set_option maxRecDepth 20000 in
theorem ggX7_fits_X7_fitAt : GoodIn wsX7_fits wsX7_fitAt := goodIn_r _ [11, 12, 13, 14, 15, 3, 16, 17, 18, 19, 20, 21, 22, 23, 24, 25, 26, 27, 28, 29, 30, 31, 32, 33, 34, 35, 36, 37, 38, 39, 40, 41, 42, 43, 44, 45, 46, 47, 48, 49, 50, 51, 52, 53, 54, 55, 56, 57, 58, 59] (by decide +kernel) (by decide +kernel)
set_option maxRecDepth 20000 in
theorem gX7_fits_X7_fitAt : GoodIn wsX7_fits (wsV RX7 166 RX7 yX7_fitAt wsX7_fitAt) := goodIn_app (goodIn_of _ (by decide +kernel)) ggX7_fits_X7_fitAt
theorem dX7_fits_0 : decode cX7_fits 0 = .ok (.iload_n 1, 1) := by decide +kernel
theorem dX7_fits_1 : decode cX7_fits 1 = .ok (.invokestatic 150, 3) := by decide +kernel
theorem dX7_fits_4 : decode cX7_fits 4 = .ok (.ifCond .eq 11, 3) := by decide +kernel
theorem dX7_fits_7 : decode cX7_fits 7 = .ok (.aload_n 0, 1) := by decide +kernel
theorem dX7_fits_8 : decode cX7_fits 8 = .ok (.iload_n 1, 1) := by decide +kernel
theorem dX7_fits_9 : decode cX7_fits 9 = .ok (.invokevirtual 166, 3) := by decide +kernel
theorem dX7_fits_12 : decode cX7_fits 12 = .ok (.goto 5, 3) := by decide +kernel
theorem dX7_fits_15 : decode cX7_fits 15 = .ok (.bipush (-3), 2) := by decide +kernel
theorem dX7_fits_17 : decode cX7_fits 17 = .ok (.ireturn, 1) := by decide +kernel
set_option maxRecDepth 20000 in
theorem ggX7_layFits_X7_fitAt : GoodIn wsX7_layFits wsX7_fitAt := goodIn_r _ [6, 7, 8, 9, 10, 5, 11, 12, 13, 14, 15, 16, 17, 18, 19, 20, 21, 22, 23, 24, 25, 26, 27, 28, 29, 30, 31, 32, 33, 34, 35, 36, 37, 38, 39, 40, 41, 42, 43, 44, 45, 46, 47, 48, 49, 50, 51, 52, 53, 54] (by decide +kernel) (by decide +kernel)
set_option maxRecDepth 20000 in
theorem gX7_layFits_X7_fitAt : GoodIn wsX7_layFits (wsV RX7 166 RX7 yX7_fitAt wsX7_fitAt) := goodIn_app (goodIn_of _ (by decide +kernel)) ggX7_layFits_X7_fitAt
theorem dX7_layFits_0 : decode cX7_layFits 0 = .ok (.iconst 0, 1) := by decide +kernel
theorem dX7_layFits_1 : decode cX7_layFits 1 = .ok (.istore_n 1, 1) := by decide +kernel
theorem dX7_layFits_2 : decode cX7_layFits 2 = .ok (.iload_n 1, 1) := by decide +kernel
theorem dX7_layFits_3 : decode cX7_layFits 3 = .ok (.sipush 4320, 3) := by decide +kernel
theorem dX7_layFits_6 : decode cX7_layFits 6 = .ok (.if_icmp .ge 20, 3) := by decide +kernel
theorem dX7_layFits_9 : decode cX7_layFits 9 = .ok (.aload_n 0, 1) := by decide +kernel
theorem dX7_layFits_10 : decode cX7_layFits 10 = .ok (.getfield 22, 3) := by decide +kernel
theorem dX7_layFits_13 : decode cX7_layFits 13 = .ok (.iload_n 1, 1) := by decide +kernel
theorem dX7_layFits_14 : decode cX7_layFits 14 = .ok (.aload_n 0, 1) := by decide +kernel
theorem dX7_layFits_15 : decode cX7_layFits 15 = .ok (.iload_n 1, 1) := by decide +kernel
theorem dX7_layFits_16 : decode cX7_layFits 16 = .ok (.invokevirtual 166, 3) := by decide +kernel
theorem dX7_layFits_19 : decode cX7_layFits 19 = .ok (.iastore, 1) := by decide +kernel
theorem dX7_layFits_20 : decode cX7_layFits 20 = .ok (.iinc 1 1, 3) := by decide +kernel
theorem dX7_layFits_23 : decode cX7_layFits 23 = .ok (.goto (-21), 3) := by decide +kernel
theorem dX7_layFits_26 : decode cX7_layFits 26 = .ok (.return_, 1) := by decide +kernel
set_option maxRecDepth 20000 in
theorem ggX7_times_X7_in : GoodIn wsX7_times wsX7_in := goodIn_r _ [6] (by decide +kernel) (by decide +kernel)
set_option maxRecDepth 20000 in
theorem gX7_times_X7_in : GoodIn wsX7_times (va_wsS RX7 41 yX7_in wsX7_in) := goodIn_app (goodIn_of _ (by decide +kernel)) ggX7_times_X7_in
set_option maxRecDepth 20000 in
theorem ggX7_times_X7_layFits : GoodIn wsX7_times wsX7_layFits := goodIn_r _ [10, 1, 11, 12, 13, 5, 14, 2, 15, 16, 17, 18, 19, 20, 21, 22, 23, 24, 25, 26, 27, 28, 29, 30, 31, 32, 33, 34, 35, 36, 37, 38, 39, 40, 41, 42, 43, 44, 45, 46, 47, 48, 49, 50, 51, 52, 53, 54, 55, 56, 57, 58, 59, 60, 61] (by decide +kernel) (by decide +kernel)
set_option maxRecDepth 20000 in
theorem gX7_times_X7_layFits : GoodIn wsX7_times (wsV RX7 170 RX7 yX7_layFits wsX7_layFits) := goodIn_app (goodIn_of _ (by decide +kernel)) ggX7_times_X7_layFits
theorem dX7_times_0 : decode cX7_times 0 = .ok (.iload_n 1, 1) := by decide +kernel
theorem dX7_times_1 : decode cX7_times 1 = .ok (.iconst 0, 1) := by decide +kernel
theorem dX7_times_2 : decode cX7_times 2 = .ok (.iconst 3, 1) := by decide +kernel
theorem dX7_times_3 : decode cX7_times 3 = .ok (.invokestatic 41, 3) := by decide +kernel
theorem dX7_times_6 : decode cX7_times 6 = .ok (.ifCond .ne 6, 3) := by decide +kernel
theorem dX7_times_9 : decode cX7_times 9 = .ok (.bipush (-3), 2) := by decide +kernel
theorem dX7_times_11 : decode cX7_times 11 = .ok (.ireturn, 1) := by decide +kernel
theorem dX7_times_12 : decode cX7_times 12 = .ok (.aload_n 0, 1) := by decide +kernel
theorem dX7_times_13 : decode cX7_times 13 = .ok (.invokevirtual 170, 3) := by decide +kernel
theorem dX7_times_16 : decode cX7_times 16 = .ok (.iconst 0, 1) := by decide +kernel
theorem dX7_times_17 : decode cX7_times 17 = .ok (.istore_n 2, 1) := by decide +kernel
theorem dX7_times_18 : decode cX7_times 18 = .ok (.iconst (-1), 1) := by decide +kernel
theorem dX7_times_19 : decode cX7_times 19 = .ok (.istore_n 3, 1) := by decide +kernel
theorem dX7_times_20 : decode cX7_times 20 = .ok (.iconst (-1), 1) := by decide +kernel
theorem dX7_times_21 : decode cX7_times 21 = .ok (.istore 4, 2) := by decide +kernel
theorem dX7_times_23 : decode cX7_times 23 = .ok (.iconst 0, 1) := by decide +kernel
theorem dX7_times_24 : decode cX7_times 24 = .ok (.istore 5, 2) := by decide +kernel
theorem dX7_times_26 : decode cX7_times 26 = .ok (.iconst 0, 1) := by decide +kernel
theorem dX7_times_27 : decode cX7_times 27 = .ok (.istore 6, 2) := by decide +kernel
theorem dX7_times_29 : decode cX7_times 29 = .ok (.iload 6, 2) := by decide +kernel
theorem dX7_times_31 : decode cX7_times 31 = .ok (.sipush 4320, 3) := by decide +kernel
theorem dX7_times_34 : decode cX7_times 34 = .ok (.if_icmp .ge 64, 3) := by decide +kernel
theorem dX7_times_37 : decode cX7_times 37 = .ok (.aload_n 0, 1) := by decide +kernel
theorem dX7_times_38 : decode cX7_times 38 = .ok (.getfield 22, 3) := by decide +kernel
theorem dX7_times_41 : decode cX7_times 41 = .ok (.iload 6, 2) := by decide +kernel
theorem dX7_times_43 : decode cX7_times 43 = .ok (.iaload, 1) := by decide +kernel
theorem dX7_times_44 : decode cX7_times 44 = .ok (.aload_n 0, 1) := by decide +kernel
theorem dX7_times_45 : decode cX7_times 45 = .ok (.getfield 136, 3) := by decide +kernel
theorem dX7_times_48 : decode cX7_times 48 = .ok (.if_icmp .ne 44, 3) := by decide +kernel
theorem dX7_times_51 : decode cX7_times 51 = .ok (.iload 5, 2) := by decide +kernel
theorem dX7_times_53 : decode cX7_times 53 = .ok (.iload 4, 2) := by decide +kernel
theorem dX7_times_55 : decode cX7_times 55 = .ok (.iload 6, 2) := by decide +kernel
theorem dX7_times_57 : decode cX7_times 57 = .ok (.iconst 1, 1) := by decide +kernel
theorem dX7_times_58 : decode cX7_times 58 = .ok (.isub, 1) := by decide +kernel
theorem dX7_times_59 : decode cX7_times 59 = .ok (.if_icmp .ne 11, 3) := by decide +kernel
theorem dX7_times_62 : decode cX7_times 62 = .ok (.iload_n 2, 1) := by decide +kernel
theorem dX7_times_63 : decode cX7_times 63 = .ok (.ifCond .le 7, 3) := by decide +kernel
theorem dX7_times_66 : decode cX7_times 66 = .ok (.iconst 0, 1) := by decide +kernel
theorem dX7_times_67 : decode cX7_times 67 = .ok (.goto 4, 3) := by decide +kernel
theorem dX7_times_70 : decode cX7_times 70 = .ok (.iconst 1, 1) := by decide +kernel
theorem dX7_times_71 : decode cX7_times 71 = .ok (.iadd, 1) := by decide +kernel
theorem dX7_times_72 : decode cX7_times 72 = .ok (.istore 5, 2) := by decide +kernel
theorem dX7_times_74 : decode cX7_times 74 = .ok (.iload_n 2, 1) := by decide +kernel
theorem dX7_times_75 : decode cX7_times 75 = .ok (.ifCond .ne 8, 3) := by decide +kernel
theorem dX7_times_78 : decode cX7_times 78 = .ok (.iload 6, 2) := by decide +kernel
theorem dX7_times_80 : decode cX7_times 80 = .ok (.goto 4, 3) := by decide +kernel
theorem dX7_times_83 : decode cX7_times 83 = .ok (.iload_n 3, 1) := by decide +kernel
theorem dX7_times_84 : decode cX7_times 84 = .ok (.istore_n 3, 1) := by decide +kernel
theorem dX7_times_85 : decode cX7_times 85 = .ok (.iload 6, 2) := by decide +kernel
theorem dX7_times_87 : decode cX7_times 87 = .ok (.istore 4, 2) := by decide +kernel
theorem dX7_times_89 : decode cX7_times 89 = .ok (.iinc 2 1, 3) := by decide +kernel
theorem dX7_times_92 : decode cX7_times 92 = .ok (.iinc 6 1, 3) := by decide +kernel
theorem dX7_times_95 : decode cX7_times 95 = .ok (.goto (-66), 3) := by decide +kernel
theorem dX7_times_98 : decode cX7_times 98 = .ok (.iload_n 1, 1) := by decide +kernel
theorem dX7_times_99 : decode cX7_times 99 = .ok (.ifCond .ne 7, 3) := by decide +kernel
theorem dX7_times_102 : decode cX7_times 102 = .ok (.iload_n 2, 1) := by decide +kernel
theorem dX7_times_103 : decode cX7_times 103 = .ok (.goto 24, 3) := by decide +kernel
theorem dX7_times_106 : decode cX7_times 106 = .ok (.iload_n 1, 1) := by decide +kernel
theorem dX7_times_107 : decode cX7_times 107 = .ok (.iconst 1, 1) := by decide +kernel
theorem dX7_times_108 : decode cX7_times 108 = .ok (.if_icmp .ne 7, 3) := by decide +kernel
theorem dX7_times_111 : decode cX7_times 111 = .ok (.iload_n 3, 1) := by decide +kernel
theorem dX7_times_112 : decode cX7_times 112 = .ok (.goto 15, 3) := by decide +kernel
theorem dX7_times_115 : decode cX7_times 115 = .ok (.iload_n 1, 1) := by decide +kernel
theorem dX7_times_116 : decode cX7_times 116 = .ok (.iconst 2, 1) := by decide +kernel
theorem dX7_times_117 : decode cX7_times 117 = .ok (.if_icmp .ne 8, 3) := by decide +kernel
theorem dX7_times_120 : decode cX7_times 120 = .ok (.iload 4, 2) := by decide +kernel
theorem dX7_times_122 : decode cX7_times 122 = .ok (.goto 5, 3) := by decide +kernel
theorem dX7_times_125 : decode cX7_times 125 = .ok (.iload 5, 2) := by decide +kernel
theorem dX7_times_127 : decode cX7_times 127 = .ok (.ireturn, 1) := by decide +kernel
set_option maxRecDepth 20000 in
theorem ggX7_liars_X7_in : GoodIn wsX7_liars wsX7_in := goodIn_r _ [6] (by decide +kernel) (by decide +kernel)
set_option maxRecDepth 20000 in
theorem gX7_liars_X7_in : GoodIn wsX7_liars (va_wsS RX7 41 yX7_in wsX7_in) := goodIn_app (goodIn_of _ (by decide +kernel)) ggX7_liars_X7_in
set_option maxRecDepth 20000 in
theorem ggX7_liars_X7_layFits : GoodIn wsX7_liars wsX7_layFits := goodIn_r _ [10, 2, 11, 12, 13, 5, 14, 1, 15, 16, 17, 18, 19, 20, 21, 22, 23, 24, 25, 26, 27, 28, 29, 30, 31, 32, 33, 34, 35, 39, 40, 41, 42, 43, 44, 45, 46, 47, 48, 49, 50, 51, 52, 53, 54, 55, 56, 57, 58, 59, 60, 61, 62, 63, 64] (by decide +kernel) (by decide +kernel)
set_option maxRecDepth 20000 in
theorem gX7_liars_X7_layFits : GoodIn wsX7_liars (wsV RX7 170 RX7 yX7_layFits wsX7_layFits) := goodIn_app (goodIn_of _ (by decide +kernel)) ggX7_liars_X7_layFits
set_option maxRecDepth 20000 in
theorem ggX7_liars_X7_bits : GoodIn wsX7_liars wsX7_bits := goodIn_r _ [38] (by decide +kernel) (by decide +kernel)
set_option maxRecDepth 20000 in
theorem gX7_liars_X7_bits : GoodIn wsX7_liars (va_wsS RX7 173 yX7_bits wsX7_bits) := goodIn_app (goodIn_of _ (by decide +kernel)) ggX7_liars_X7_bits
theorem dX7_liars_0 : decode cX7_liars 0 = .ok (.iload_n 1, 1) := by decide +kernel
theorem dX7_liars_1 : decode cX7_liars 1 = .ok (.iconst 0, 1) := by decide +kernel
theorem dX7_liars_2 : decode cX7_liars 2 = .ok (.iconst 2, 1) := by decide +kernel
theorem dX7_liars_3 : decode cX7_liars 3 = .ok (.invokestatic 41, 3) := by decide +kernel
theorem dX7_liars_6 : decode cX7_liars 6 = .ok (.ifCond .ne 6, 3) := by decide +kernel
theorem dX7_liars_9 : decode cX7_liars 9 = .ok (.bipush (-3), 2) := by decide +kernel
theorem dX7_liars_11 : decode cX7_liars 11 = .ok (.ireturn, 1) := by decide +kernel
theorem dX7_liars_12 : decode cX7_liars 12 = .ok (.aload_n 0, 1) := by decide +kernel
theorem dX7_liars_13 : decode cX7_liars 13 = .ok (.invokevirtual 170, 3) := by decide +kernel
theorem dX7_liars_16 : decode cX7_liars 16 = .ok (.aload_n 0, 1) := by decide +kernel
theorem dX7_liars_17 : decode cX7_liars 17 = .ok (.getfield 136, 3) := by decide +kernel
theorem dX7_liars_20 : decode cX7_liars 20 = .ok (.aload_n 0, 1) := by decide +kernel
theorem dX7_liars_21 : decode cX7_liars 21 = .ok (.getfield 22, 3) := by decide +kernel
theorem dX7_liars_24 : decode cX7_liars 24 = .ok (.iconst 0, 1) := by decide +kernel
theorem dX7_liars_25 : decode cX7_liars 25 = .ok (.iaload, 1) := by decide +kernel
theorem dX7_liars_26 : decode cX7_liars 26 = .ok (.iconst (-1), 1) := by decide +kernel
theorem dX7_liars_27 : decode cX7_liars 27 = .ok (.ixor, 1) := by decide +kernel
theorem dX7_liars_28 : decode cX7_liars 28 = .ok (.iand, 1) := by decide +kernel
theorem dX7_liars_29 : decode cX7_liars 29 = .ok (.istore_n 2, 1) := by decide +kernel
theorem dX7_liars_30 : decode cX7_liars 30 = .ok (.iconst 0, 1) := by decide +kernel
theorem dX7_liars_31 : decode cX7_liars 31 = .ok (.istore_n 3, 1) := by decide +kernel
theorem dX7_liars_32 : decode cX7_liars 32 = .ok (.iconst 1, 1) := by decide +kernel
theorem dX7_liars_33 : decode cX7_liars 33 = .ok (.istore 4, 2) := by decide +kernel
theorem dX7_liars_35 : decode cX7_liars 35 = .ok (.iload 4, 2) := by decide +kernel
theorem dX7_liars_37 : decode cX7_liars 37 = .ok (.sipush 4320, 3) := by decide +kernel
theorem dX7_liars_40 : decode cX7_liars 40 = .ok (.if_icmp .ge 61, 3) := by decide +kernel
theorem dX7_liars_43 : decode cX7_liars 43 = .ok (.aload_n 0, 1) := by decide +kernel
theorem dX7_liars_44 : decode cX7_liars 44 = .ok (.getfield 136, 3) := by decide +kernel
theorem dX7_liars_47 : decode cX7_liars 47 = .ok (.aload_n 0, 1) := by decide +kernel
theorem dX7_liars_48 : decode cX7_liars 48 = .ok (.getfield 22, 3) := by decide +kernel
theorem dX7_liars_51 : decode cX7_liars 51 = .ok (.iload 4, 2) := by decide +kernel
theorem dX7_liars_53 : decode cX7_liars 53 = .ok (.iaload, 1) := by decide +kernel
theorem dX7_liars_54 : decode cX7_liars 54 = .ok (.iconst (-1), 1) := by decide +kernel
theorem dX7_liars_55 : decode cX7_liars 55 = .ok (.ixor, 1) := by decide +kernel
theorem dX7_liars_56 : decode cX7_liars 56 = .ok (.iand, 1) := by decide +kernel
theorem dX7_liars_57 : decode cX7_liars 57 = .ok (.istore 5, 2) := by decide +kernel
theorem dX7_liars_59 : decode cX7_liars 59 = .ok (.iload 5, 2) := by decide +kernel
theorem dX7_liars_61 : decode cX7_liars 61 = .ok (.invokestatic 173, 3) := by decide +kernel
theorem dX7_liars_64 : decode cX7_liars 64 = .ok (.iload_n 2, 1) := by decide +kernel
theorem dX7_liars_65 : decode cX7_liars 65 = .ok (.invokestatic 173, 3) := by decide +kernel
theorem dX7_liars_68 : decode cX7_liars 68 = .ok (.if_icmp .lt 21, 3) := by decide +kernel
theorem dX7_liars_71 : decode cX7_liars 71 = .ok (.iload 5, 2) := by decide +kernel
theorem dX7_liars_73 : decode cX7_liars 73 = .ok (.invokestatic 173, 3) := by decide +kernel
theorem dX7_liars_76 : decode cX7_liars 76 = .ok (.iload_n 2, 1) := by decide +kernel
theorem dX7_liars_77 : decode cX7_liars 77 = .ok (.invokestatic 173, 3) := by decide +kernel
theorem dX7_liars_80 : decode cX7_liars 80 = .ok (.if_icmp .ne 15, 3) := by decide +kernel
theorem dX7_liars_83 : decode cX7_liars 83 = .ok (.iload 5, 2) := by decide +kernel
theorem dX7_liars_85 : decode cX7_liars 85 = .ok (.iload_n 2, 1) := by decide +kernel
theorem dX7_liars_86 : decode cX7_liars 86 = .ok (.if_icmp .ge 9, 3) := by decide +kernel
theorem dX7_liars_89 : decode cX7_liars 89 = .ok (.iload 5, 2) := by decide +kernel
theorem dX7_liars_91 : decode cX7_liars 91 = .ok (.istore_n 2, 1) := by decide +kernel
theorem dX7_liars_92 : decode cX7_liars 92 = .ok (.iload 4, 2) := by decide +kernel
theorem dX7_liars_94 : decode cX7_liars 94 = .ok (.istore_n 3, 1) := by decide +kernel
theorem dX7_liars_95 : decode cX7_liars 95 = .ok (.iinc 4 1, 3) := by decide +kernel
theorem dX7_liars_98 : decode cX7_liars 98 = .ok (.goto (-63), 3) := by decide +kernel
theorem dX7_liars_101 : decode cX7_liars 101 = .ok (.iload_n 1, 1) := by decide +kernel
theorem dX7_liars_102 : decode cX7_liars 102 = .ok (.ifCond .ne 10, 3) := by decide +kernel
theorem dX7_liars_105 : decode cX7_liars 105 = .ok (.iload_n 2, 1) := by decide +kernel
theorem dX7_liars_106 : decode cX7_liars 106 = .ok (.invokestatic 173, 3) := by decide +kernel
theorem dX7_liars_109 : decode cX7_liars 109 = .ok (.goto 13, 3) := by decide +kernel
theorem dX7_liars_112 : decode cX7_liars 112 = .ok (.iload_n 1, 1) := by decide +kernel
theorem dX7_liars_113 : decode cX7_liars 113 = .ok (.iconst 1, 1) := by decide +kernel
theorem dX7_liars_114 : decode cX7_liars 114 = .ok (.if_icmp .ne 7, 3) := by decide +kernel
theorem dX7_liars_117 : decode cX7_liars 117 = .ok (.iload_n 2, 1) := by decide +kernel
theorem dX7_liars_118 : decode cX7_liars 118 = .ok (.goto 4, 3) := by decide +kernel
theorem dX7_liars_121 : decode cX7_liars 121 = .ok (.iload_n 3, 1) := by decide +kernel
theorem dX7_liars_122 : decode cX7_liars 122 = .ok (.ireturn, 1) := by decide +kernel
set_option maxRecDepth 20000 in
theorem ggX7_isExact_X7_isClock : GoodIn wsX7_isExact wsX7_isClock := goodIn_r _ [6, 7, 8, 9, 5, 10, 11, 12, 13, 14, 15, 16, 17, 18, 19, 20, 21, 22, 23, 24, 25, 26, 27, 28, 29, 30, 31, 32, 33, 34, 35, 36, 37, 38, 39] (by decide +kernel) (by decide +kernel)
set_option maxRecDepth 20000 in
theorem gX7_isExact_X7_isClock : GoodIn wsX7_isExact (wsV RX7 143 RX7 yX7_isClock wsX7_isClock) := goodIn_app (goodIn_of _ (by decide +kernel)) ggX7_isExact_X7_isClock
theorem dX7_isExact_0 : decode cX7_isExact 0 = .ok (.aload_n 0, 1) := by decide +kernel
theorem dX7_isExact_1 : decode cX7_isExact 1 = .ok (.iload_n 1, 1) := by decide +kernel
theorem dX7_isExact_2 : decode cX7_isExact 2 = .ok (.invokevirtual 143, 3) := by decide +kernel
theorem dX7_isExact_5 : decode cX7_isExact 5 = .ok (.ifCond .eq 32, 3) := by decide +kernel
theorem dX7_isExact_8 : decode cX7_isExact 8 = .ok (.aload_n 0, 1) := by decide +kernel
theorem dX7_isExact_9 : decode cX7_isExact 9 = .ok (.getfield 7, 3) := by decide +kernel
theorem dX7_isExact_12 : decode cX7_isExact 12 = .ok (.bipush 6, 2) := by decide +kernel
theorem dX7_isExact_14 : decode cX7_isExact 14 = .ok (.iload_n 1, 1) := by decide +kernel
theorem dX7_isExact_15 : decode cX7_isExact 15 = .ok (.imul, 1) := by decide +kernel
theorem dX7_isExact_16 : decode cX7_isExact 16 = .ok (.iconst 3, 1) := by decide +kernel
theorem dX7_isExact_17 : decode cX7_isExact 17 = .ok (.iadd, 1) := by decide +kernel
theorem dX7_isExact_18 : decode cX7_isExact 18 = .ok (.iaload, 1) := by decide +kernel
theorem dX7_isExact_19 : decode cX7_isExact 19 = .ok (.aload_n 0, 1) := by decide +kernel
theorem dX7_isExact_20 : decode cX7_isExact 20 = .ok (.getfield 7, 3) := by decide +kernel
theorem dX7_isExact_23 : decode cX7_isExact 23 = .ok (.bipush 6, 2) := by decide +kernel
theorem dX7_isExact_25 : decode cX7_isExact 25 = .ok (.iload_n 1, 1) := by decide +kernel
theorem dX7_isExact_26 : decode cX7_isExact 26 = .ok (.imul, 1) := by decide +kernel
theorem dX7_isExact_27 : decode cX7_isExact 27 = .ok (.iconst 4, 1) := by decide +kernel
theorem dX7_isExact_28 : decode cX7_isExact 28 = .ok (.iadd, 1) := by decide +kernel
theorem dX7_isExact_29 : decode cX7_isExact 29 = .ok (.iaload, 1) := by decide +kernel
theorem dX7_isExact_30 : decode cX7_isExact 30 = .ok (.if_icmp .ne 7, 3) := by decide +kernel
theorem dX7_isExact_33 : decode cX7_isExact 33 = .ok (.iconst 1, 1) := by decide +kernel
theorem dX7_isExact_34 : decode cX7_isExact 34 = .ok (.goto 4, 3) := by decide +kernel
theorem dX7_isExact_37 : decode cX7_isExact 37 = .ok (.iconst 0, 1) := by decide +kernel
theorem dX7_isExact_38 : decode cX7_isExact 38 = .ok (.ireturn, 1) := by decide +kernel
set_option maxRecDepth 20000 in
theorem ggX7_next_X7_in : GoodIn wsX7_next wsX7_in := goodIn_r _ [8] (by decide +kernel) (by decide +kernel)
set_option maxRecDepth 20000 in
theorem gX7_next_X7_in : GoodIn wsX7_next (va_wsS RX7 41 yX7_in wsX7_in) := goodIn_app (goodIn_of _ (by decide +kernel)) ggX7_next_X7_in
set_option maxRecDepth 20000 in
theorem ggX7_next_X7_layFits : GoodIn wsX7_next wsX7_layFits := goodIn_r _ [12, 3, 13, 14, 15, 7, 16, 1, 4, 17, 18, 19, 20, 21, 22, 23, 24, 25, 26, 27, 28, 29, 30, 31, 32, 33, 34, 35, 36, 46, 47, 48, 49, 50, 51, 52, 53, 54, 55, 56, 57, 58, 59, 60, 61, 62, 63, 64, 65, 66, 67, 68, 69, 70, 71] (by decide +kernel) (by decide +kernel)
set_option maxRecDepth 20000 in
theorem gX7_next_X7_layFits : GoodIn wsX7_next (wsV RX7 170 RX7 yX7_layFits wsX7_layFits) := goodIn_app (goodIn_of _ (by decide +kernel)) ggX7_next_X7_layFits
set_option maxRecDepth 20000 in
theorem ggX7_next_X7_isExact : GoodIn wsX7_next wsX7_isExact := goodIn_r _ [40, 4, 41, 42, 43, 7, 44, 45, 5, 6, 8, 17, 18, 19, 46, 47, 48, 49, 50, 51, 52, 53, 54, 55, 56, 57, 58, 59, 60, 61, 62, 63, 64, 65, 66, 67, 68, 69, 70, 71] (by decide +kernel) (by decide +kernel)
set_option maxRecDepth 20000 in
theorem gX7_next_X7_isExact : GoodIn wsX7_next (wsV RX7 176 RX7 yX7_isExact wsX7_isExact) := goodIn_app (goodIn_of _ (by decide +kernel)) ggX7_next_X7_isExact
set_option maxRecDepth 20000 in
theorem ggX7_next_X7_has : GoodIn wsX7_next wsX7_has := goodIn_r _ [19] (by decide +kernel) (by decide +kernel)
set_option maxRecDepth 20000 in
theorem gX7_next_X7_has : GoodIn wsX7_next (va_wsS RX7 49 yX7_has wsX7_has) := goodIn_app (goodIn_of _ (by decide +kernel)) ggX7_next_X7_has
set_option maxRecDepth 20000 in
theorem ggX7_next_X7_hand : GoodIn wsX7_next wsX7_hand := goodIn_r _ [27, 4, 46, 47, 48, 49, 50, 51, 52, 53, 54, 55, 56, 57, 58, 59, 60, 61, 62, 63, 64, 65, 66, 67, 68, 69, 70, 71] (by decide +kernel) (by decide +kernel)
set_option maxRecDepth 20000 in
theorem gX7_next_X7_hand : GoodIn wsX7_next (wsV RX7 153 RX7 yX7_hand wsX7_hand) := goodIn_app (goodIn_of _ (by decide +kernel)) ggX7_next_X7_hand
set_option maxRecDepth 20000 in
theorem ggX7_next_X7_down : GoodIn wsX7_next wsX7_down := goodIn_r _ [33, 34, 35, 7, 36] (by decide +kernel) (by decide +kernel)
set_option maxRecDepth 20000 in
theorem gX7_next_X7_down : GoodIn wsX7_next (va_wsS RX7 157 yX7_down wsX7_down) := goodIn_app (goodIn_of _ (by decide +kernel)) ggX7_next_X7_down
set_option maxRecDepth 20000 in
theorem ggX7_next_X7_rest : GoodIn wsX7_next wsX7_rest := goodIn_r _ [36] (by decide +kernel) (by decide +kernel)
set_option maxRecDepth 20000 in
theorem gX7_next_X7_rest : GoodIn wsX7_next (va_wsS RX7 146 yX7_rest wsX7_rest) := goodIn_app (goodIn_of _ (by decide +kernel)) ggX7_next_X7_rest
theorem dX7_next_0 : decode cX7_next 0 = .ok (.iload_n 1, 1) := by decide +kernel
theorem dX7_next_1 : decode cX7_next 1 = .ok (.iconst 0, 1) := by decide +kernel
theorem dX7_next_2 : decode cX7_next 2 = .ok (.iconst 1, 1) := by decide +kernel
theorem dX7_next_3 : decode cX7_next 3 = .ok (.invokestatic 41, 3) := by decide +kernel
theorem dX7_next_6 : decode cX7_next 6 = .ok (.ifCond .ne 6, 3) := by decide +kernel
theorem dX7_next_9 : decode cX7_next 9 = .ok (.bipush (-3), 2) := by decide +kernel
theorem dX7_next_11 : decode cX7_next 11 = .ok (.ireturn, 1) := by decide +kernel
theorem dX7_next_12 : decode cX7_next 12 = .ok (.aload_n 0, 1) := by decide +kernel
theorem dX7_next_13 : decode cX7_next 13 = .ok (.invokevirtual 170, 3) := by decide +kernel
theorem dX7_next_16 : decode cX7_next 16 = .ok (.iconst (-1), 1) := by decide +kernel
theorem dX7_next_17 : decode cX7_next 17 = .ok (.istore_n 2, 1) := by decide +kernel
theorem dX7_next_18 : decode cX7_next 18 = .ok (.iconst 0, 1) := by decide +kernel
theorem dX7_next_19 : decode cX7_next 19 = .ok (.istore_n 3, 1) := by decide +kernel
theorem dX7_next_20 : decode cX7_next 20 = .ok (.iconst 0, 1) := by decide +kernel
theorem dX7_next_21 : decode cX7_next 21 = .ok (.istore 4, 2) := by decide +kernel
theorem dX7_next_23 : decode cX7_next 23 = .ok (.iload 4, 2) := by decide +kernel
theorem dX7_next_25 : decode cX7_next 25 = .ok (.bipush 8, 2) := by decide +kernel
theorem dX7_next_27 : decode cX7_next 27 = .ok (.if_icmp .ge 202, 3) := by decide +kernel
theorem dX7_next_30 : decode cX7_next 30 = .ok (.aload_n 0, 1) := by decide +kernel
theorem dX7_next_31 : decode cX7_next 31 = .ok (.iload 4, 2) := by decide +kernel
theorem dX7_next_33 : decode cX7_next 33 = .ok (.invokevirtual 176, 3) := by decide +kernel
theorem dX7_next_36 : decode cX7_next 36 = .ok (.ifCond .eq 187, 3) := by decide +kernel
theorem dX7_next_39 : decode cX7_next 39 = .ok (.aload_n 0, 1) := by decide +kernel
theorem dX7_next_40 : decode cX7_next 40 = .ok (.getfield 136, 3) := by decide +kernel
theorem dX7_next_43 : decode cX7_next 43 = .ok (.iload 4, 2) := by decide +kernel
theorem dX7_next_45 : decode cX7_next 45 = .ok (.invokestatic 49, 3) := by decide +kernel
theorem dX7_next_48 : decode cX7_next 48 = .ok (.ifCond .ne 175, 3) := by decide +kernel
theorem dX7_next_51 : decode cX7_next 51 = .ok (.iconst 0, 1) := by decide +kernel
theorem dX7_next_52 : decode cX7_next 52 = .ok (.istore 5, 2) := by decide +kernel
theorem dX7_next_54 : decode cX7_next 54 = .ok (.iconst 0, 1) := by decide +kernel
theorem dX7_next_55 : decode cX7_next 55 = .ok (.istore 6, 2) := by decide +kernel
theorem dX7_next_57 : decode cX7_next 57 = .ok (.iload 6, 2) := by decide +kernel
theorem dX7_next_59 : decode cX7_next 59 = .ok (.sipush 720, 3) := by decide +kernel
theorem dX7_next_62 : decode cX7_next 62 = .ok (.if_icmp .ge 17, 3) := by decide +kernel
theorem dX7_next_65 : decode cX7_next 65 = .ok (.aload_n 0, 1) := by decide +kernel
theorem dX7_next_66 : decode cX7_next 66 = .ok (.getfield 25, 3) := by decide +kernel
theorem dX7_next_69 : decode cX7_next 69 = .ok (.iload 6, 2) := by decide +kernel
theorem dX7_next_71 : decode cX7_next 71 = .ok (.iconst 0, 1) := by decide +kernel
theorem dX7_next_72 : decode cX7_next 72 = .ok (.iastore, 1) := by decide +kernel
theorem dX7_next_73 : decode cX7_next 73 = .ok (.iinc 6 1, 3) := by decide +kernel
theorem dX7_next_76 : decode cX7_next 76 = .ok (.goto (-19), 3) := by decide +kernel
theorem dX7_next_79 : decode cX7_next 79 = .ok (.iconst 0, 1) := by decide +kernel
theorem dX7_next_80 : decode cX7_next 80 = .ok (.istore 6, 2) := by decide +kernel
theorem dX7_next_82 : decode cX7_next 82 = .ok (.iload 6, 2) := by decide +kernel
theorem dX7_next_84 : decode cX7_next 84 = .ok (.sipush 4320, 3) := by decide +kernel
theorem dX7_next_87 : decode cX7_next 87 = .ok (.if_icmp .ge 94, 3) := by decide +kernel
theorem dX7_next_90 : decode cX7_next 90 = .ok (.aload_n 0, 1) := by decide +kernel
theorem dX7_next_91 : decode cX7_next 91 = .ok (.getfield 22, 3) := by decide +kernel
theorem dX7_next_94 : decode cX7_next 94 = .ok (.iload 6, 2) := by decide +kernel
theorem dX7_next_96 : decode cX7_next 96 = .ok (.iaload, 1) := by decide +kernel
theorem dX7_next_97 : decode cX7_next 97 = .ok (.aload_n 0, 1) := by decide +kernel
theorem dX7_next_98 : decode cX7_next 98 = .ok (.getfield 136, 3) := by decide +kernel
theorem dX7_next_101 : decode cX7_next 101 = .ok (.if_icmp .ne 74, 3) := by decide +kernel
theorem dX7_next_104 : decode cX7_next 104 = .ok (.aload_n 0, 1) := by decide +kernel
theorem dX7_next_105 : decode cX7_next 105 = .ok (.iload 4, 2) := by decide +kernel
theorem dX7_next_107 : decode cX7_next 107 = .ok (.iload 6, 2) := by decide +kernel
theorem dX7_next_109 : decode cX7_next 109 = .ok (.aload_n 0, 1) := by decide +kernel
theorem dX7_next_110 : decode cX7_next 110 = .ok (.getfield 7, 3) := by decide +kernel
theorem dX7_next_113 : decode cX7_next 113 = .ok (.bipush 6, 2) := by decide +kernel
theorem dX7_next_115 : decode cX7_next 115 = .ok (.iload 4, 2) := by decide +kernel
theorem dX7_next_117 : decode cX7_next 117 = .ok (.imul, 1) := by decide +kernel
theorem dX7_next_118 : decode cX7_next 118 = .ok (.iconst 3, 1) := by decide +kernel
theorem dX7_next_119 : decode cX7_next 119 = .ok (.iadd, 1) := by decide +kernel
theorem dX7_next_120 : decode cX7_next 120 = .ok (.iaload, 1) := by decide +kernel
theorem dX7_next_121 : decode cX7_next 121 = .ok (.invokevirtual 153, 3) := by decide +kernel
theorem dX7_next_124 : decode cX7_next 124 = .ok (.sipush 1440, 3) := by decide +kernel
theorem dX7_next_127 : decode cX7_next 127 = .ok (.invokestatic 157, 3) := by decide +kernel
theorem dX7_next_130 : decode cX7_next 130 = .ok (.sipush 720, 3) := by decide +kernel
theorem dX7_next_133 : decode cX7_next 133 = .ok (.invokestatic 146, 3) := by decide +kernel
theorem dX7_next_136 : decode cX7_next 136 = .ok (.istore 7, 2) := by decide +kernel
theorem dX7_next_138 : decode cX7_next 138 = .ok (.aload_n 0, 1) := by decide +kernel
theorem dX7_next_139 : decode cX7_next 139 = .ok (.getfield 25, 3) := by decide +kernel
theorem dX7_next_142 : decode cX7_next 142 = .ok (.iload 7, 2) := by decide +kernel
theorem dX7_next_144 : decode cX7_next 144 = .ok (.dup2, 1) := by decide +kernel
theorem dX7_next_145 : decode cX7_next 145 = .ok (.iaload, 1) := by decide +kernel
theorem dX7_next_146 : decode cX7_next 146 = .ok (.iconst 1, 1) := by decide +kernel
theorem dX7_next_147 : decode cX7_next 147 = .ok (.iadd, 1) := by decide +kernel
theorem dX7_next_148 : decode cX7_next 148 = .ok (.iastore, 1) := by decide +kernel
theorem dX7_next_149 : decode cX7_next 149 = .ok (.aload_n 0, 1) := by decide +kernel
theorem dX7_next_150 : decode cX7_next 150 = .ok (.getfield 25, 3) := by decide +kernel
theorem dX7_next_153 : decode cX7_next 153 = .ok (.iload 7, 2) := by decide +kernel
theorem dX7_next_155 : decode cX7_next 155 = .ok (.iaload, 1) := by decide +kernel
theorem dX7_next_156 : decode cX7_next 156 = .ok (.iload 5, 2) := by decide +kernel
theorem dX7_next_158 : decode cX7_next 158 = .ok (.if_icmp .le 13, 3) := by decide +kernel
theorem dX7_next_161 : decode cX7_next 161 = .ok (.aload_n 0, 1) := by decide +kernel
theorem dX7_next_162 : decode cX7_next 162 = .ok (.getfield 25, 3) := by decide +kernel
theorem dX7_next_165 : decode cX7_next 165 = .ok (.iload 7, 2) := by decide +kernel
theorem dX7_next_167 : decode cX7_next 167 = .ok (.iaload, 1) := by decide +kernel
theorem dX7_next_168 : decode cX7_next 168 = .ok (.goto 5, 3) := by decide +kernel
theorem dX7_next_171 : decode cX7_next 171 = .ok (.iload 5, 2) := by decide +kernel
theorem dX7_next_173 : decode cX7_next 173 = .ok (.istore 5, 2) := by decide +kernel
theorem dX7_next_175 : decode cX7_next 175 = .ok (.iinc 6 1, 3) := by decide +kernel
theorem dX7_next_178 : decode cX7_next 178 = .ok (.goto (-96), 3) := by decide +kernel
theorem dX7_next_181 : decode cX7_next 181 = .ok (.iload_n 2, 1) := by decide +kernel
theorem dX7_next_182 : decode cX7_next 182 = .ok (.iconst (-1), 1) := by decide +kernel
theorem dX7_next_183 : decode cX7_next 183 = .ok (.if_icmp .eq 9, 3) := by decide +kernel
theorem dX7_next_186 : decode cX7_next 186 = .ok (.iload 5, 2) := by decide +kernel
theorem dX7_next_188 : decode cX7_next 188 = .ok (.iload_n 3, 1) := by decide +kernel
theorem dX7_next_189 : decode cX7_next 189 = .ok (.if_icmp .ge 7, 3) := by decide +kernel
theorem dX7_next_192 : decode cX7_next 192 = .ok (.iconst 1, 1) := by decide +kernel
theorem dX7_next_193 : decode cX7_next 193 = .ok (.goto 4, 3) := by decide +kernel
theorem dX7_next_196 : decode cX7_next 196 = .ok (.iconst 0, 1) := by decide +kernel
theorem dX7_next_197 : decode cX7_next 197 = .ok (.istore 6, 2) := by decide +kernel
theorem dX7_next_199 : decode cX7_next 199 = .ok (.iload 6, 2) := by decide +kernel
theorem dX7_next_201 : decode cX7_next 201 = .ok (.ifCond .eq 8, 3) := by decide +kernel
theorem dX7_next_204 : decode cX7_next 204 = .ok (.iload 4, 2) := by decide +kernel
theorem dX7_next_206 : decode cX7_next 206 = .ok (.goto 4, 3) := by decide +kernel
theorem dX7_next_209 : decode cX7_next 209 = .ok (.iload_n 2, 1) := by decide +kernel
theorem dX7_next_210 : decode cX7_next 210 = .ok (.istore_n 2, 1) := by decide +kernel
theorem dX7_next_211 : decode cX7_next 211 = .ok (.iload 6, 2) := by decide +kernel
theorem dX7_next_213 : decode cX7_next 213 = .ok (.ifCond .eq 8, 3) := by decide +kernel
theorem dX7_next_216 : decode cX7_next 216 = .ok (.iload 5, 2) := by decide +kernel
theorem dX7_next_218 : decode cX7_next 218 = .ok (.goto 4, 3) := by decide +kernel
theorem dX7_next_221 : decode cX7_next 221 = .ok (.iload_n 3, 1) := by decide +kernel
theorem dX7_next_222 : decode cX7_next 222 = .ok (.istore_n 3, 1) := by decide +kernel
theorem dX7_next_223 : decode cX7_next 223 = .ok (.iinc 4 1, 3) := by decide +kernel
theorem dX7_next_226 : decode cX7_next 226 = .ok (.goto (-203), 3) := by decide +kernel
theorem dX7_next_229 : decode cX7_next 229 = .ok (.iload_n 2, 1) := by decide +kernel
theorem dX7_next_230 : decode cX7_next 230 = .ok (.iconst (-1), 1) := by decide +kernel
theorem dX7_next_231 : decode cX7_next 231 = .ok (.if_icmp .eq 7, 3) := by decide +kernel
theorem dX7_next_234 : decode cX7_next 234 = .ok (.iload_n 1, 1) := by decide +kernel
theorem dX7_next_235 : decode cX7_next 235 = .ok (.ifCond .ne 7, 3) := by decide +kernel
theorem dX7_next_238 : decode cX7_next 238 = .ok (.iload_n 2, 1) := by decide +kernel
theorem dX7_next_239 : decode cX7_next 239 = .ok (.goto 4, 3) := by decide +kernel
theorem dX7_next_242 : decode cX7_next 242 = .ok (.iload_n 3, 1) := by decide +kernel
theorem dX7_next_243 : decode cX7_next 243 = .ok (.ireturn, 1) := by decide +kernel
set_option maxRecDepth 20000 in
theorem ggX7_note_X7_isClock : GoodIn wsX7_note wsX7_isClock := goodIn_r _ [7, 8, 9, 10, 6, 11, 12, 13, 14, 18, 19, 20, 21, 22, 23, 24, 25, 26, 27, 28, 29, 30, 31, 32, 33, 34, 35, 36, 37, 38, 39, 40, 41, 42, 43] (by decide +kernel) (by decide +kernel)
set_option maxRecDepth 20000 in
theorem gX7_note_X7_isClock : GoodIn wsX7_note (wsV RX7 143 RX7 yX7_isClock wsX7_isClock) := goodIn_app (goodIn_of _ (by decide +kernel)) ggX7_note_X7_isClock
set_option maxRecDepth 20000 in
theorem ggX7_note_X7_isMinute : GoodIn wsX7_note wsX7_isMinute := goodIn_r _ [17, 9, 10, 6, 11] (by decide +kernel) (by decide +kernel)
set_option maxRecDepth 20000 in
theorem gX7_note_X7_isMinute : GoodIn wsX7_note (va_wsS RX7 150 yX7_isMinute wsX7_isMinute) := goodIn_app (goodIn_of _ (by decide +kernel)) ggX7_note_X7_isMinute
set_option maxRecDepth 20000 in
theorem ggX7_note_X7_in : GoodIn wsX7_note wsX7_in := goodIn_r _ [11] (by decide +kernel) (by decide +kernel)
set_option maxRecDepth 20000 in
theorem gX7_note_X7_in : GoodIn wsX7_note (va_wsS RX7 41 yX7_in wsX7_in) := goodIn_app (goodIn_of _ (by decide +kernel)) ggX7_note_X7_in
theorem dX7_note_0 : decode cX7_note 0 = .ok (.aload_n 0, 1) := by decide +kernel
theorem dX7_note_1 : decode cX7_note 1 = .ok (.iload_n 1, 1) := by decide +kernel
theorem dX7_note_2 : decode cX7_note 2 = .ok (.invokevirtual 143, 3) := by decide +kernel
theorem dX7_note_5 : decode cX7_note 5 = .ok (.ifCond .ne 6, 3) := by decide +kernel
theorem dX7_note_8 : decode cX7_note 8 = .ok (.bipush (-2), 2) := by decide +kernel
theorem dX7_note_10 : decode cX7_note 10 = .ok (.ireturn, 1) := by decide +kernel
theorem dX7_note_11 : decode cX7_note 11 = .ok (.iload_n 2, 1) := by decide +kernel
theorem dX7_note_12 : decode cX7_note 12 = .ok (.invokestatic 150, 3) := by decide +kernel
theorem dX7_note_15 : decode cX7_note 15 = .ok (.ifCond .eq 14, 3) := by decide +kernel
theorem dX7_note_18 : decode cX7_note 18 = .ok (.iload_n 3, 1) := by decide +kernel
theorem dX7_note_19 : decode cX7_note 19 = .ok (.iconst 0, 1) := by decide +kernel
theorem dX7_note_20 : decode cX7_note 20 = .ok (.sipush 719, 3) := by decide +kernel
theorem dX7_note_23 : decode cX7_note 23 = .ok (.invokestatic 41, 3) := by decide +kernel
theorem dX7_note_26 : decode cX7_note 26 = .ok (.ifCond .ne 6, 3) := by decide +kernel
theorem dX7_note_29 : decode cX7_note 29 = .ok (.bipush (-3), 2) := by decide +kernel
theorem dX7_note_31 : decode cX7_note 31 = .ok (.ireturn, 1) := by decide +kernel
theorem dX7_note_32 : decode cX7_note 32 = .ok (.aload_n 0, 1) := by decide +kernel
theorem dX7_note_33 : decode cX7_note 33 = .ok (.getfield 179, 3) := by decide +kernel
theorem dX7_note_36 : decode cX7_note 36 = .ok (.bipush 12, 2) := by decide +kernel
theorem dX7_note_38 : decode cX7_note 38 = .ok (.if_icmp .ne 6, 3) := by decide +kernel
theorem dX7_note_41 : decode cX7_note 41 = .ok (.bipush (-5), 2) := by decide +kernel
theorem dX7_note_43 : decode cX7_note 43 = .ok (.ireturn, 1) := by decide +kernel
theorem dX7_note_44 : decode cX7_note 44 = .ok (.aload_n 0, 1) := by decide +kernel
theorem dX7_note_45 : decode cX7_note 45 = .ok (.getfield 13, 3) := by decide +kernel
theorem dX7_note_48 : decode cX7_note 48 = .ok (.iconst 3, 1) := by decide +kernel
theorem dX7_note_49 : decode cX7_note 49 = .ok (.aload_n 0, 1) := by decide +kernel
theorem dX7_note_50 : decode cX7_note 50 = .ok (.getfield 179, 3) := by decide +kernel
theorem dX7_note_53 : decode cX7_note 53 = .ok (.imul, 1) := by decide +kernel
theorem dX7_note_54 : decode cX7_note 54 = .ok (.iload_n 1, 1) := by decide +kernel
theorem dX7_note_55 : decode cX7_note 55 = .ok (.iastore, 1) := by decide +kernel
theorem dX7_note_56 : decode cX7_note 56 = .ok (.aload_n 0, 1) := by decide +kernel
theorem dX7_note_57 : decode cX7_note 57 = .ok (.getfield 13, 3) := by decide +kernel
theorem dX7_note_60 : decode cX7_note 60 = .ok (.iconst 3, 1) := by decide +kernel
theorem dX7_note_61 : decode cX7_note 61 = .ok (.aload_n 0, 1) := by decide +kernel
theorem dX7_note_62 : decode cX7_note 62 = .ok (.getfield 179, 3) := by decide +kernel
theorem dX7_note_65 : decode cX7_note 65 = .ok (.imul, 1) := by decide +kernel
theorem dX7_note_66 : decode cX7_note 66 = .ok (.iconst 1, 1) := by decide +kernel
theorem dX7_note_67 : decode cX7_note 67 = .ok (.iadd, 1) := by decide +kernel
theorem dX7_note_68 : decode cX7_note 68 = .ok (.iload_n 2, 1) := by decide +kernel
theorem dX7_note_69 : decode cX7_note 69 = .ok (.iastore, 1) := by decide +kernel
theorem dX7_note_70 : decode cX7_note 70 = .ok (.aload_n 0, 1) := by decide +kernel
theorem dX7_note_71 : decode cX7_note 71 = .ok (.getfield 13, 3) := by decide +kernel
theorem dX7_note_74 : decode cX7_note 74 = .ok (.iconst 3, 1) := by decide +kernel
theorem dX7_note_75 : decode cX7_note 75 = .ok (.aload_n 0, 1) := by decide +kernel
theorem dX7_note_76 : decode cX7_note 76 = .ok (.getfield 179, 3) := by decide +kernel
theorem dX7_note_79 : decode cX7_note 79 = .ok (.imul, 1) := by decide +kernel
theorem dX7_note_80 : decode cX7_note 80 = .ok (.iconst 2, 1) := by decide +kernel
theorem dX7_note_81 : decode cX7_note 81 = .ok (.iadd, 1) := by decide +kernel
theorem dX7_note_82 : decode cX7_note 82 = .ok (.iload_n 3, 1) := by decide +kernel
theorem dX7_note_83 : decode cX7_note 83 = .ok (.iastore, 1) := by decide +kernel
theorem dX7_note_84 : decode cX7_note 84 = .ok (.aload_n 0, 1) := by decide +kernel
theorem dX7_note_85 : decode cX7_note 85 = .ok (.dup, 1) := by decide +kernel
theorem dX7_note_86 : decode cX7_note 86 = .ok (.getfield 179, 3) := by decide +kernel
theorem dX7_note_89 : decode cX7_note 89 = .ok (.iconst 1, 1) := by decide +kernel
theorem dX7_note_90 : decode cX7_note 90 = .ok (.iadd, 1) := by decide +kernel
theorem dX7_note_91 : decode cX7_note 91 = .ok (.putfield 179, 3) := by decide +kernel
theorem dX7_note_94 : decode cX7_note 94 = .ok (.aload_n 0, 1) := by decide +kernel
theorem dX7_note_95 : decode cX7_note 95 = .ok (.getfield 179, 3) := by decide +kernel
theorem dX7_note_98 : decode cX7_note 98 = .ok (.ireturn, 1) := by decide +kernel
theorem dX7_burn_0 : decode cX7_burn 0 = .ok (.aload_n 0, 1) := by decide +kernel
theorem dX7_burn_1 : decode cX7_burn 1 = .ok (.getfield 179, 3) := by decide +kernel
theorem dX7_burn_4 : decode cX7_burn 4 = .ok (.istore_n 1, 1) := by decide +kernel
theorem dX7_burn_5 : decode cX7_burn 5 = .ok (.aload_n 0, 1) := by decide +kernel
theorem dX7_burn_6 : decode cX7_burn 6 = .ok (.iconst 0, 1) := by decide +kernel
theorem dX7_burn_7 : decode cX7_burn 7 = .ok (.putfield 179, 3) := by decide +kernel
theorem dX7_burn_10 : decode cX7_burn 10 = .ok (.iload_n 1, 1) := by decide +kernel
theorem dX7_burn_11 : decode cX7_burn 11 = .ok (.ireturn, 1) := by decide +kernel
set_option maxRecDepth 20000 in
theorem ggX7_isNoted_X7_rest : GoodIn wsX7_isNoted wsX7_rest := goodIn_r _ [9] (by decide +kernel) (by decide +kernel)
set_option maxRecDepth 20000 in
theorem gX7_isNoted_X7_rest : GoodIn wsX7_isNoted (va_wsS RX7 146 yX7_rest wsX7_rest) := goodIn_app (goodIn_of _ (by decide +kernel)) ggX7_isNoted_X7_rest
theorem dX7_isNoted_0 : decode cX7_isNoted 0 = .ok (.iconst (-1), 1) := by decide +kernel
theorem dX7_isNoted_1 : decode cX7_isNoted 1 = .ok (.istore_n 3, 1) := by decide +kernel
theorem dX7_isNoted_2 : decode cX7_isNoted 2 = .ok (.iconst 0, 1) := by decide +kernel
theorem dX7_isNoted_3 : decode cX7_isNoted 3 = .ok (.istore 4, 2) := by decide +kernel
theorem dX7_isNoted_5 : decode cX7_isNoted 5 = .ok (.iconst 0, 1) := by decide +kernel
theorem dX7_isNoted_6 : decode cX7_isNoted 6 = .ok (.istore 5, 2) := by decide +kernel
theorem dX7_isNoted_8 : decode cX7_isNoted 8 = .ok (.iconst 0, 1) := by decide +kernel
theorem dX7_isNoted_9 : decode cX7_isNoted 9 = .ok (.istore 6, 2) := by decide +kernel
theorem dX7_isNoted_11 : decode cX7_isNoted 11 = .ok (.iload 6, 2) := by decide +kernel
theorem dX7_isNoted_13 : decode cX7_isNoted 13 = .ok (.aload_n 0, 1) := by decide +kernel
theorem dX7_isNoted_14 : decode cX7_isNoted 14 = .ok (.getfield 179, 3) := by decide +kernel
theorem dX7_isNoted_17 : decode cX7_isNoted 17 = .ok (.if_icmp .ge 176, 3) := by decide +kernel
theorem dX7_isNoted_20 : decode cX7_isNoted 20 = .ok (.aload_n 0, 1) := by decide +kernel
theorem dX7_isNoted_21 : decode cX7_isNoted 21 = .ok (.getfield 13, 3) := by decide +kernel
theorem dX7_isNoted_24 : decode cX7_isNoted 24 = .ok (.iconst 3, 1) := by decide +kernel
theorem dX7_isNoted_25 : decode cX7_isNoted 25 = .ok (.iload 6, 2) := by decide +kernel
theorem dX7_isNoted_27 : decode cX7_isNoted 27 = .ok (.imul, 1) := by decide +kernel
theorem dX7_isNoted_28 : decode cX7_isNoted 28 = .ok (.iaload, 1) := by decide +kernel
theorem dX7_isNoted_29 : decode cX7_isNoted 29 = .ok (.iload_n 1, 1) := by decide +kernel
theorem dX7_isNoted_30 : decode cX7_isNoted 30 = .ok (.if_icmp .ne 157, 3) := by decide +kernel
theorem dX7_isNoted_33 : decode cX7_isNoted 33 = .ok (.aload_n 0, 1) := by decide +kernel
theorem dX7_isNoted_34 : decode cX7_isNoted 34 = .ok (.getfield 13, 3) := by decide +kernel
theorem dX7_isNoted_37 : decode cX7_isNoted 37 = .ok (.iconst 3, 1) := by decide +kernel
theorem dX7_isNoted_38 : decode cX7_isNoted 38 = .ok (.iload 6, 2) := by decide +kernel
theorem dX7_isNoted_40 : decode cX7_isNoted 40 = .ok (.imul, 1) := by decide +kernel
theorem dX7_isNoted_41 : decode cX7_isNoted 41 = .ok (.iconst 1, 1) := by decide +kernel
theorem dX7_isNoted_42 : decode cX7_isNoted 42 = .ok (.iadd, 1) := by decide +kernel
theorem dX7_isNoted_43 : decode cX7_isNoted 43 = .ok (.iaload, 1) := by decide +kernel
theorem dX7_isNoted_44 : decode cX7_isNoted 44 = .ok (.aload_n 0, 1) := by decide +kernel
theorem dX7_isNoted_45 : decode cX7_isNoted 45 = .ok (.getfield 7, 3) := by decide +kernel
theorem dX7_isNoted_48 : decode cX7_isNoted 48 = .ok (.bipush 6, 2) := by decide +kernel
theorem dX7_isNoted_50 : decode cX7_isNoted 50 = .ok (.iload_n 1, 1) := by decide +kernel
theorem dX7_isNoted_51 : decode cX7_isNoted 51 = .ok (.imul, 1) := by decide +kernel
theorem dX7_isNoted_52 : decode cX7_isNoted 52 = .ok (.iaload, 1) := by decide +kernel
theorem dX7_isNoted_53 : decode cX7_isNoted 53 = .ok (.iconst 2, 1) := by decide +kernel
theorem dX7_isNoted_54 : decode cX7_isNoted 54 = .ok (.if_icmp .ne 7, 3) := by decide +kernel
theorem dX7_isNoted_57 : decode cX7_isNoted 57 = .ok (.iconst 0, 1) := by decide +kernel
theorem dX7_isNoted_58 : decode cX7_isNoted 58 = .ok (.goto 8, 3) := by decide +kernel
theorem dX7_isNoted_61 : decode cX7_isNoted 61 = .ok (.sipush 1440, 3) := by decide +kernel
theorem dX7_isNoted_64 : decode cX7_isNoted 64 = .ok (.iload_n 2, 1) := by decide +kernel
theorem dX7_isNoted_65 : decode cX7_isNoted 65 = .ok (.iadd, 1) := by decide +kernel
theorem dX7_isNoted_66 : decode cX7_isNoted 66 = .ok (.imul, 1) := by decide +kernel
theorem dX7_isNoted_67 : decode cX7_isNoted 67 = .ok (.istore 7, 2) := by decide +kernel
theorem dX7_isNoted_69 : decode cX7_isNoted 69 = .ok (.sipush 1440, 3) := by decide +kernel
theorem dX7_isNoted_72 : decode cX7_isNoted 72 = .ok (.aload_n 0, 1) := by decide +kernel
theorem dX7_isNoted_73 : decode cX7_isNoted 73 = .ok (.getfield 13, 3) := by decide +kernel
theorem dX7_isNoted_76 : decode cX7_isNoted 76 = .ok (.iconst 3, 1) := by decide +kernel
theorem dX7_isNoted_77 : decode cX7_isNoted 77 = .ok (.iload 6, 2) := by decide +kernel
theorem dX7_isNoted_79 : decode cX7_isNoted 79 = .ok (.imul, 1) := by decide +kernel
theorem dX7_isNoted_80 : decode cX7_isNoted 80 = .ok (.iconst 2, 1) := by decide +kernel
theorem dX7_isNoted_81 : decode cX7_isNoted 81 = .ok (.iadd, 1) := by decide +kernel
theorem dX7_isNoted_82 : decode cX7_isNoted 82 = .ok (.iaload, 1) := by decide +kernel
theorem dX7_isNoted_83 : decode cX7_isNoted 83 = .ok (.imul, 1) := by decide +kernel
theorem dX7_isNoted_84 : decode cX7_isNoted 84 = .ok (.aload_n 0, 1) := by decide +kernel
theorem dX7_isNoted_85 : decode cX7_isNoted 85 = .ok (.getfield 7, 3) := by decide +kernel
theorem dX7_isNoted_88 : decode cX7_isNoted 88 = .ok (.bipush 6, 2) := by decide +kernel
theorem dX7_isNoted_90 : decode cX7_isNoted 90 = .ok (.iload_n 1, 1) := by decide +kernel
theorem dX7_isNoted_91 : decode cX7_isNoted 91 = .ok (.imul, 1) := by decide +kernel
theorem dX7_isNoted_92 : decode cX7_isNoted 92 = .ok (.iaload, 1) := by decide +kernel
theorem dX7_isNoted_93 : decode cX7_isNoted 93 = .ok (.iconst 1, 1) := by decide +kernel
theorem dX7_isNoted_94 : decode cX7_isNoted 94 = .ok (.if_icmp .ne 8, 3) := by decide +kernel
theorem dX7_isNoted_97 : decode cX7_isNoted 97 = .ok (.iload 7, 2) := by decide +kernel
theorem dX7_isNoted_99 : decode cX7_isNoted 99 = .ok (.goto 6, 3) := by decide +kernel
theorem dX7_isNoted_102 : decode cX7_isNoted 102 = .ok (.iload 7, 2) := by decide +kernel
theorem dX7_isNoted_104 : decode cX7_isNoted 104 = .ok (.ineg, 1) := by decide +kernel
theorem dX7_isNoted_105 : decode cX7_isNoted 105 = .ok (.iadd, 1) := by decide +kernel
theorem dX7_isNoted_106 : decode cX7_isNoted 106 = .ok (.ldc 182, 2) := by decide +kernel
theorem dX7_isNoted_108 : decode cX7_isNoted 108 = .ok (.invokestatic 146, 3) := by decide +kernel
theorem dX7_isNoted_111 : decode cX7_isNoted 111 = .ok (.istore 8, 2) := by decide +kernel
theorem dX7_isNoted_113 : decode cX7_isNoted 113 = .ok (.iload_n 3, 1) := by decide +kernel
theorem dX7_isNoted_114 : decode cX7_isNoted 114 = .ok (.iconst (-1), 1) := by decide +kernel
theorem dX7_isNoted_115 : decode cX7_isNoted 115 = .ok (.if_icmp .ne 8, 3) := by decide +kernel
theorem dX7_isNoted_118 : decode cX7_isNoted 118 = .ok (.iload 8, 2) := by decide +kernel
theorem dX7_isNoted_120 : decode cX7_isNoted 120 = .ok (.goto 4, 3) := by decide +kernel
theorem dX7_isNoted_123 : decode cX7_isNoted 123 = .ok (.iload_n 3, 1) := by decide +kernel
theorem dX7_isNoted_124 : decode cX7_isNoted 124 = .ok (.istore_n 3, 1) := by decide +kernel
theorem dX7_isNoted_125 : decode cX7_isNoted 125 = .ok (.iload 8, 2) := by decide +kernel
theorem dX7_isNoted_127 : decode cX7_isNoted 127 = .ok (.iload_n 3, 1) := by decide +kernel
theorem dX7_isNoted_128 : decode cX7_isNoted 128 = .ok (.isub, 1) := by decide +kernel
theorem dX7_isNoted_129 : decode cX7_isNoted 129 = .ok (.ldc 182, 2) := by decide +kernel
theorem dX7_isNoted_131 : decode cX7_isNoted 131 = .ok (.invokestatic 146, 3) := by decide +kernel
theorem dX7_isNoted_134 : decode cX7_isNoted 134 = .ok (.istore 9, 2) := by decide +kernel
theorem dX7_isNoted_136 : decode cX7_isNoted 136 = .ok (.iload 9, 2) := by decide +kernel
theorem dX7_isNoted_138 : decode cX7_isNoted 138 = .ok (.ldc 183, 2) := by decide +kernel
theorem dX7_isNoted_140 : decode cX7_isNoted 140 = .ok (.if_icmp .le 11, 3) := by decide +kernel
theorem dX7_isNoted_143 : decode cX7_isNoted 143 = .ok (.iload 9, 2) := by decide +kernel
theorem dX7_isNoted_145 : decode cX7_isNoted 145 = .ok (.ldc 182, 2) := by decide +kernel
theorem dX7_isNoted_147 : decode cX7_isNoted 147 = .ok (.isub, 1) := by decide +kernel
theorem dX7_isNoted_148 : decode cX7_isNoted 148 = .ok (.goto 5, 3) := by decide +kernel
theorem dX7_isNoted_151 : decode cX7_isNoted 151 = .ok (.iload 9, 2) := by decide +kernel
theorem dX7_isNoted_153 : decode cX7_isNoted 153 = .ok (.istore 9, 2) := by decide +kernel
theorem dX7_isNoted_155 : decode cX7_isNoted 155 = .ok (.iload 9, 2) := by decide +kernel
theorem dX7_isNoted_157 : decode cX7_isNoted 157 = .ok (.iload 4, 2) := by decide +kernel
theorem dX7_isNoted_159 : decode cX7_isNoted 159 = .ok (.if_icmp .ge 8, 3) := by decide +kernel
theorem dX7_isNoted_162 : decode cX7_isNoted 162 = .ok (.iload 9, 2) := by decide +kernel
theorem dX7_isNoted_164 : decode cX7_isNoted 164 = .ok (.goto 5, 3) := by decide +kernel
theorem dX7_isNoted_167 : decode cX7_isNoted 167 = .ok (.iload 4, 2) := by decide +kernel
theorem dX7_isNoted_169 : decode cX7_isNoted 169 = .ok (.istore 4, 2) := by decide +kernel
theorem dX7_isNoted_171 : decode cX7_isNoted 171 = .ok (.iload 9, 2) := by decide +kernel
theorem dX7_isNoted_173 : decode cX7_isNoted 173 = .ok (.iload 5, 2) := by decide +kernel
theorem dX7_isNoted_175 : decode cX7_isNoted 175 = .ok (.if_icmp .le 8, 3) := by decide +kernel
theorem dX7_isNoted_178 : decode cX7_isNoted 178 = .ok (.iload 9, 2) := by decide +kernel
theorem dX7_isNoted_180 : decode cX7_isNoted 180 = .ok (.goto 5, 3) := by decide +kernel
theorem dX7_isNoted_183 : decode cX7_isNoted 183 = .ok (.iload 5, 2) := by decide +kernel
theorem dX7_isNoted_185 : decode cX7_isNoted 185 = .ok (.istore 5, 2) := by decide +kernel
theorem dX7_isNoted_187 : decode cX7_isNoted 187 = .ok (.iinc 6 1, 3) := by decide +kernel
theorem dX7_isNoted_190 : decode cX7_isNoted 190 = .ok (.goto (-179), 3) := by decide +kernel
theorem dX7_isNoted_193 : decode cX7_isNoted 193 = .ok (.iload 5, 2) := by decide +kernel
theorem dX7_isNoted_195 : decode cX7_isNoted 195 = .ok (.iload 4, 2) := by decide +kernel
theorem dX7_isNoted_197 : decode cX7_isNoted 197 = .ok (.isub, 1) := by decide +kernel
theorem dX7_isNoted_198 : decode cX7_isNoted 198 = .ok (.sipush 1440, 3) := by decide +kernel
theorem dX7_isNoted_201 : decode cX7_isNoted 201 = .ok (.if_icmp .ge 7, 3) := by decide +kernel
theorem dX7_isNoted_204 : decode cX7_isNoted 204 = .ok (.iconst 1, 1) := by decide +kernel
theorem dX7_isNoted_205 : decode cX7_isNoted 205 = .ok (.goto 4, 3) := by decide +kernel
theorem dX7_isNoted_208 : decode cX7_isNoted 208 = .ok (.iconst 0, 1) := by decide +kernel
theorem dX7_isNoted_209 : decode cX7_isNoted 209 = .ok (.ireturn, 1) := by decide +kernel
set_option maxRecDepth 20000 in
theorem ggX7_rates_X7_isClock : GoodIn wsX7_rates wsX7_isClock := goodIn_r _ [5, 6, 7, 8, 4, 9, 10, 11, 12, 25, 26, 27, 28, 29, 30, 31, 32, 33, 34, 35, 36, 37, 38, 39, 40, 41, 42, 43, 44, 45, 46, 47, 48, 49, 50] (by decide +kernel) (by decide +kernel)
set_option maxRecDepth 20000 in
theorem gX7_rates_X7_isClock : GoodIn wsX7_rates (wsV RX7 143 RX7 yX7_isClock wsX7_isClock) := goodIn_app (goodIn_of _ (by decide +kernel)) ggX7_rates_X7_isClock
set_option maxRecDepth 20000 in
theorem ggX7_rates_X7_in : GoodIn wsX7_rates wsX7_in := goodIn_r _ [9] (by decide +kernel) (by decide +kernel)
set_option maxRecDepth 20000 in
theorem gX7_rates_X7_in : GoodIn wsX7_rates (va_wsS RX7 41 yX7_in wsX7_in) := goodIn_app (goodIn_of _ (by decide +kernel)) ggX7_rates_X7_in
set_option maxRecDepth 20000 in
theorem ggX7_rates_X7_isNoted : GoodIn wsX7_rates wsX7_isNoted := goodIn_r _ [16, 17, 18, 19, 20, 21, 22, 23, 4, 24, 25, 26, 27, 28, 29, 30, 31, 32, 33, 34, 35, 36, 37, 38, 39, 40, 41, 42, 43, 44, 45, 46, 47, 48, 49, 50] (by decide +kernel) (by decide +kernel)
set_option maxRecDepth 20000 in
theorem gX7_rates_X7_isNoted : GoodIn wsX7_rates (wsV RX7 184 RX7 yX7_isNoted wsX7_isNoted) := goodIn_app (goodIn_of _ (by decide +kernel)) ggX7_rates_X7_isNoted
theorem dX7_rates_0 : decode cX7_rates 0 = .ok (.aload_n 0, 1) := by decide +kernel
theorem dX7_rates_1 : decode cX7_rates 1 = .ok (.iload_n 1, 1) := by decide +kernel
theorem dX7_rates_2 : decode cX7_rates 2 = .ok (.invokevirtual 143, 3) := by decide +kernel
theorem dX7_rates_5 : decode cX7_rates 5 = .ok (.ifCond .ne 6, 3) := by decide +kernel
theorem dX7_rates_8 : decode cX7_rates 8 = .ok (.bipush (-2), 2) := by decide +kernel
theorem dX7_rates_10 : decode cX7_rates 10 = .ok (.ireturn, 1) := by decide +kernel
theorem dX7_rates_11 : decode cX7_rates 11 = .ok (.iload_n 2, 1) := by decide +kernel
theorem dX7_rates_12 : decode cX7_rates 12 = .ok (.iconst 0, 1) := by decide +kernel
theorem dX7_rates_13 : decode cX7_rates 13 = .ok (.iconst 2, 1) := by decide +kernel
theorem dX7_rates_14 : decode cX7_rates 14 = .ok (.invokestatic 41, 3) := by decide +kernel
theorem dX7_rates_17 : decode cX7_rates 17 = .ok (.ifCond .ne 6, 3) := by decide +kernel
theorem dX7_rates_20 : decode cX7_rates 20 = .ok (.bipush (-3), 2) := by decide +kernel
theorem dX7_rates_22 : decode cX7_rates 22 = .ok (.ireturn, 1) := by decide +kernel
theorem dX7_rates_23 : decode cX7_rates 23 = .ok (.iconst 0, 1) := by decide +kernel
theorem dX7_rates_24 : decode cX7_rates 24 = .ok (.istore_n 3, 1) := by decide +kernel
theorem dX7_rates_25 : decode cX7_rates 25 = .ok (.iconst (-1), 1) := by decide +kernel
theorem dX7_rates_26 : decode cX7_rates 26 = .ok (.istore 4, 2) := by decide +kernel
theorem dX7_rates_28 : decode cX7_rates 28 = .ok (.iconst (-1), 1) := by decide +kernel
theorem dX7_rates_29 : decode cX7_rates 29 = .ok (.istore 5, 2) := by decide +kernel
theorem dX7_rates_31 : decode cX7_rates 31 = .ok (.bipush (-120), 2) := by decide +kernel
theorem dX7_rates_33 : decode cX7_rates 33 = .ok (.istore 6, 2) := by decide +kernel
theorem dX7_rates_35 : decode cX7_rates 35 = .ok (.iload 6, 2) := by decide +kernel
theorem dX7_rates_37 : decode cX7_rates 37 = .ok (.bipush 121, 2) := by decide +kernel
theorem dX7_rates_39 : decode cX7_rates 39 = .ok (.if_icmp .ge 45, 3) := by decide +kernel
theorem dX7_rates_42 : decode cX7_rates 42 = .ok (.aload_n 0, 1) := by decide +kernel
theorem dX7_rates_43 : decode cX7_rates 43 = .ok (.iload_n 1, 1) := by decide +kernel
theorem dX7_rates_44 : decode cX7_rates 44 = .ok (.iload 6, 2) := by decide +kernel
theorem dX7_rates_46 : decode cX7_rates 46 = .ok (.invokevirtual 184, 3) := by decide +kernel
theorem dX7_rates_49 : decode cX7_rates 49 = .ok (.ifCond .eq 29, 3) := by decide +kernel
theorem dX7_rates_52 : decode cX7_rates 52 = .ok (.iload_n 3, 1) := by decide +kernel
theorem dX7_rates_53 : decode cX7_rates 53 = .ok (.ifCond .ne 11, 3) := by decide +kernel
theorem dX7_rates_56 : decode cX7_rates 56 = .ok (.iload 6, 2) := by decide +kernel
theorem dX7_rates_58 : decode cX7_rates 58 = .ok (.bipush 120, 2) := by decide +kernel
theorem dX7_rates_60 : decode cX7_rates 60 = .ok (.iadd, 1) := by decide +kernel
theorem dX7_rates_61 : decode cX7_rates 61 = .ok (.goto 5, 3) := by decide +kernel
theorem dX7_rates_64 : decode cX7_rates 64 = .ok (.iload 4, 2) := by decide +kernel
theorem dX7_rates_66 : decode cX7_rates 66 = .ok (.istore 4, 2) := by decide +kernel
theorem dX7_rates_68 : decode cX7_rates 68 = .ok (.iload 6, 2) := by decide +kernel
theorem dX7_rates_70 : decode cX7_rates 70 = .ok (.bipush 120, 2) := by decide +kernel
theorem dX7_rates_72 : decode cX7_rates 72 = .ok (.iadd, 1) := by decide +kernel
theorem dX7_rates_73 : decode cX7_rates 73 = .ok (.istore 5, 2) := by decide +kernel
theorem dX7_rates_75 : decode cX7_rates 75 = .ok (.iinc 3 1, 3) := by decide +kernel
theorem dX7_rates_78 : decode cX7_rates 78 = .ok (.iinc 6 1, 3) := by decide +kernel
theorem dX7_rates_81 : decode cX7_rates 81 = .ok (.goto (-46), 3) := by decide +kernel
theorem dX7_rates_84 : decode cX7_rates 84 = .ok (.iload_n 2, 1) := by decide +kernel
theorem dX7_rates_85 : decode cX7_rates 85 = .ok (.ifCond .ne 7, 3) := by decide +kernel
theorem dX7_rates_88 : decode cX7_rates 88 = .ok (.iload_n 3, 1) := by decide +kernel
theorem dX7_rates_89 : decode cX7_rates 89 = .ok (.goto 15, 3) := by decide +kernel
theorem dX7_rates_92 : decode cX7_rates 92 = .ok (.iload_n 2, 1) := by decide +kernel
theorem dX7_rates_93 : decode cX7_rates 93 = .ok (.iconst 1, 1) := by decide +kernel
theorem dX7_rates_94 : decode cX7_rates 94 = .ok (.if_icmp .ne 8, 3) := by decide +kernel
theorem dX7_rates_97 : decode cX7_rates 97 = .ok (.iload 4, 2) := by decide +kernel
theorem dX7_rates_99 : decode cX7_rates 99 = .ok (.goto 5, 3) := by decide +kernel
theorem dX7_rates_102 : decode cX7_rates 102 = .ok (.iload 5, 2) := by decide +kernel
theorem dX7_rates_104 : decode cX7_rates 104 = .ok (.ireturn, 1) := by decide +kernel
theorem dX7_common_0 : decode cX7_common 0 = .ok (.iload_n 0, 1) := by decide +kernel
theorem dX7_common_1 : decode cX7_common 1 = .ok (.istore_n 2, 1) := by decide +kernel
theorem dX7_common_2 : decode cX7_common 2 = .ok (.iload_n 1, 1) := by decide +kernel
theorem dX7_common_3 : decode cX7_common 3 = .ok (.istore_n 3, 1) := by decide +kernel
theorem dX7_common_4 : decode cX7_common 4 = .ok (.iload_n 3, 1) := by decide +kernel
theorem dX7_common_5 : decode cX7_common 5 = .ok (.ifCond .eq 16, 3) := by decide +kernel
theorem dX7_common_8 : decode cX7_common 8 = .ok (.iload_n 2, 1) := by decide +kernel
theorem dX7_common_9 : decode cX7_common 9 = .ok (.iload_n 3, 1) := by decide +kernel
theorem dX7_common_10 : decode cX7_common 10 = .ok (.irem, 1) := by decide +kernel
theorem dX7_common_11 : decode cX7_common 11 = .ok (.istore 4, 2) := by decide +kernel
theorem dX7_common_13 : decode cX7_common 13 = .ok (.iload_n 3, 1) := by decide +kernel
theorem dX7_common_14 : decode cX7_common 14 = .ok (.istore_n 2, 1) := by decide +kernel
theorem dX7_common_15 : decode cX7_common 15 = .ok (.iload 4, 2) := by decide +kernel
theorem dX7_common_17 : decode cX7_common 17 = .ok (.istore_n 3, 1) := by decide +kernel
theorem dX7_common_18 : decode cX7_common 18 = .ok (.goto (-14), 3) := by decide +kernel
theorem dX7_common_21 : decode cX7_common 21 = .ok (.iload_n 2, 1) := by decide +kernel
theorem dX7_common_22 : decode cX7_common 22 = .ok (.ireturn, 1) := by decide +kernel
set_option maxRecDepth 20000 in
theorem ggX7_isAgain_X7_hand : GoodIn wsX7_isAgain wsX7_hand := goodIn_r _ [10, 1, 17, 18, 19, 20, 21, 22, 23, 24, 25, 26, 27, 28, 29, 30, 31, 32, 33, 34, 35, 36, 37, 38, 39, 40, 41, 42] (by decide +kernel) (by decide +kernel)
set_option maxRecDepth 20000 in
theorem gX7_isAgain_X7_hand : GoodIn wsX7_isAgain (wsV RX7 153 RX7 yX7_hand wsX7_hand) := goodIn_app (goodIn_of _ (by decide +kernel)) ggX7_isAgain_X7_hand
set_option maxRecDepth 20000 in
theorem ggX7_isAgain_X7_rest : GoodIn wsX7_isAgain wsX7_rest := goodIn_r _ [13] (by decide +kernel) (by decide +kernel)
set_option maxRecDepth 20000 in
theorem gX7_isAgain_X7_rest : GoodIn wsX7_isAgain (va_wsS RX7 146 yX7_rest wsX7_rest) := goodIn_app (goodIn_of _ (by decide +kernel)) ggX7_isAgain_X7_rest
set_option maxRecDepth 20000 in
theorem ggX7_isAgain_X7_common : GoodIn wsX7_isAgain wsX7_common := goodIn_r _ [16] (by decide +kernel) (by decide +kernel)
set_option maxRecDepth 20000 in
theorem gX7_isAgain_X7_common : GoodIn wsX7_isAgain (va_wsS RX7 187 yX7_common wsX7_common) := goodIn_app (goodIn_of _ (by decide +kernel)) ggX7_isAgain_X7_common
theorem dX7_isAgain_0 : decode cX7_isAgain 0 = .ok (.aload_n 0, 1) := by decide +kernel
theorem dX7_isAgain_1 : decode cX7_isAgain 1 = .ok (.getfield 7, 3) := by decide +kernel
theorem dX7_isAgain_4 : decode cX7_isAgain 4 = .ok (.bipush 6, 2) := by decide +kernel
theorem dX7_isAgain_6 : decode cX7_isAgain 6 = .ok (.iload_n 2, 1) := by decide +kernel
theorem dX7_isAgain_7 : decode cX7_isAgain 7 = .ok (.imul, 1) := by decide +kernel
theorem dX7_isAgain_8 : decode cX7_isAgain 8 = .ok (.iconst 3, 1) := by decide +kernel
theorem dX7_isAgain_9 : decode cX7_isAgain 9 = .ok (.iadd, 1) := by decide +kernel
theorem dX7_isAgain_10 : decode cX7_isAgain 10 = .ok (.iaload, 1) := by decide +kernel
theorem dX7_isAgain_11 : decode cX7_isAgain 11 = .ok (.aload_n 0, 1) := by decide +kernel
theorem dX7_isAgain_12 : decode cX7_isAgain 12 = .ok (.getfield 7, 3) := by decide +kernel
theorem dX7_isAgain_15 : decode cX7_isAgain 15 = .ok (.bipush 6, 2) := by decide +kernel
theorem dX7_isAgain_17 : decode cX7_isAgain 17 = .ok (.iload_n 1, 1) := by decide +kernel
theorem dX7_isAgain_18 : decode cX7_isAgain 18 = .ok (.imul, 1) := by decide +kernel
theorem dX7_isAgain_19 : decode cX7_isAgain 19 = .ok (.iconst 3, 1) := by decide +kernel
theorem dX7_isAgain_20 : decode cX7_isAgain 20 = .ok (.iadd, 1) := by decide +kernel
theorem dX7_isAgain_21 : decode cX7_isAgain 21 = .ok (.iaload, 1) := by decide +kernel
theorem dX7_isAgain_22 : decode cX7_isAgain 22 = .ok (.isub, 1) := by decide +kernel
theorem dX7_isAgain_23 : decode cX7_isAgain 23 = .ok (.istore_n 3, 1) := by decide +kernel
theorem dX7_isAgain_24 : decode cX7_isAgain 24 = .ok (.aload_n 0, 1) := by decide +kernel
theorem dX7_isAgain_25 : decode cX7_isAgain 25 = .ok (.iload_n 2, 1) := by decide +kernel
theorem dX7_isAgain_26 : decode cX7_isAgain 26 = .ok (.iconst 0, 1) := by decide +kernel
theorem dX7_isAgain_27 : decode cX7_isAgain 27 = .ok (.aload_n 0, 1) := by decide +kernel
theorem dX7_isAgain_28 : decode cX7_isAgain 28 = .ok (.getfield 7, 3) := by decide +kernel
theorem dX7_isAgain_31 : decode cX7_isAgain 31 = .ok (.bipush 6, 2) := by decide +kernel
theorem dX7_isAgain_33 : decode cX7_isAgain 33 = .ok (.iload_n 2, 1) := by decide +kernel
theorem dX7_isAgain_34 : decode cX7_isAgain 34 = .ok (.imul, 1) := by decide +kernel
theorem dX7_isAgain_35 : decode cX7_isAgain 35 = .ok (.iconst 3, 1) := by decide +kernel
theorem dX7_isAgain_36 : decode cX7_isAgain 36 = .ok (.iadd, 1) := by decide +kernel
theorem dX7_isAgain_37 : decode cX7_isAgain 37 = .ok (.iaload, 1) := by decide +kernel
theorem dX7_isAgain_38 : decode cX7_isAgain 38 = .ok (.invokevirtual 153, 3) := by decide +kernel
theorem dX7_isAgain_41 : decode cX7_isAgain 41 = .ok (.aload_n 0, 1) := by decide +kernel
theorem dX7_isAgain_42 : decode cX7_isAgain 42 = .ok (.iload_n 1, 1) := by decide +kernel
theorem dX7_isAgain_43 : decode cX7_isAgain 43 = .ok (.iconst 0, 1) := by decide +kernel
theorem dX7_isAgain_44 : decode cX7_isAgain 44 = .ok (.aload_n 0, 1) := by decide +kernel
theorem dX7_isAgain_45 : decode cX7_isAgain 45 = .ok (.getfield 7, 3) := by decide +kernel
theorem dX7_isAgain_48 : decode cX7_isAgain 48 = .ok (.bipush 6, 2) := by decide +kernel
theorem dX7_isAgain_50 : decode cX7_isAgain 50 = .ok (.iload_n 1, 1) := by decide +kernel
theorem dX7_isAgain_51 : decode cX7_isAgain 51 = .ok (.imul, 1) := by decide +kernel
theorem dX7_isAgain_52 : decode cX7_isAgain 52 = .ok (.iconst 3, 1) := by decide +kernel
theorem dX7_isAgain_53 : decode cX7_isAgain 53 = .ok (.iadd, 1) := by decide +kernel
theorem dX7_isAgain_54 : decode cX7_isAgain 54 = .ok (.iaload, 1) := by decide +kernel
theorem dX7_isAgain_55 : decode cX7_isAgain 55 = .ok (.invokevirtual 153, 3) := by decide +kernel
theorem dX7_isAgain_58 : decode cX7_isAgain 58 = .ok (.isub, 1) := by decide +kernel
theorem dX7_isAgain_59 : decode cX7_isAgain 59 = .ok (.ldc 182, 2) := by decide +kernel
theorem dX7_isAgain_61 : decode cX7_isAgain 61 = .ok (.invokestatic 146, 3) := by decide +kernel
theorem dX7_isAgain_64 : decode cX7_isAgain 64 = .ok (.istore 4, 2) := by decide +kernel
theorem dX7_isAgain_66 : decode cX7_isAgain 66 = .ok (.ldc 182, 2) := by decide +kernel
theorem dX7_isAgain_68 : decode cX7_isAgain 68 = .ok (.ldc 182, 2) := by decide +kernel
theorem dX7_isAgain_70 : decode cX7_isAgain 70 = .ok (.iload_n 3, 1) := by decide +kernel
theorem dX7_isAgain_71 : decode cX7_isAgain 71 = .ok (.ifCond .ge 8, 3) := by decide +kernel
theorem dX7_isAgain_74 : decode cX7_isAgain 74 = .ok (.iload_n 3, 1) := by decide +kernel
theorem dX7_isAgain_75 : decode cX7_isAgain 75 = .ok (.ineg, 1) := by decide +kernel
theorem dX7_isAgain_76 : decode cX7_isAgain 76 = .ok (.goto 4, 3) := by decide +kernel
theorem dX7_isAgain_79 : decode cX7_isAgain 79 = .ok (.iload_n 3, 1) := by decide +kernel
theorem dX7_isAgain_80 : decode cX7_isAgain 80 = .ok (.invokestatic 187, 3) := by decide +kernel
theorem dX7_isAgain_83 : decode cX7_isAgain 83 = .ok (.idiv, 1) := by decide +kernel
theorem dX7_isAgain_84 : decode cX7_isAgain 84 = .ok (.istore 5, 2) := by decide +kernel
theorem dX7_isAgain_86 : decode cX7_isAgain 86 = .ok (.iload 5, 2) := by decide +kernel
theorem dX7_isAgain_88 : decode cX7_isAgain 88 = .ok (.aload_n 0, 1) := by decide +kernel
theorem dX7_isAgain_89 : decode cX7_isAgain 89 = .ok (.getfield 190, 3) := by decide +kernel
theorem dX7_isAgain_92 : decode cX7_isAgain 92 = .ok (.iload 5, 2) := by decide +kernel
theorem dX7_isAgain_94 : decode cX7_isAgain 94 = .ok (.invokestatic 187, 3) := by decide +kernel
theorem dX7_isAgain_97 : decode cX7_isAgain 97 = .ok (.idiv, 1) := by decide +kernel
theorem dX7_isAgain_98 : decode cX7_isAgain 98 = .ok (.istore 6, 2) := by decide +kernel
theorem dX7_isAgain_100 : decode cX7_isAgain 100 = .ok (.iconst 0, 1) := by decide +kernel
theorem dX7_isAgain_101 : decode cX7_isAgain 101 = .ok (.istore 7, 2) := by decide +kernel
theorem dX7_isAgain_103 : decode cX7_isAgain 103 = .ok (.iload 7, 2) := by decide +kernel
theorem dX7_isAgain_105 : decode cX7_isAgain 105 = .ok (.iload 6, 2) := by decide +kernel
theorem dX7_isAgain_107 : decode cX7_isAgain 107 = .ok (.if_icmp .ge 66, 3) := by decide +kernel
theorem dX7_isAgain_110 : decode cX7_isAgain 110 = .ok (.iload 4, 2) := by decide +kernel
theorem dX7_isAgain_112 : decode cX7_isAgain 112 = .ok (.i2l, 1) := by decide +kernel
theorem dX7_isAgain_113 : decode cX7_isAgain 113 = .ok (.iload_n 3, 1) := by decide +kernel
theorem dX7_isAgain_114 : decode cX7_isAgain 114 = .ok (.i2l, 1) := by decide +kernel
theorem dX7_isAgain_115 : decode cX7_isAgain 115 = .ok (.aload_n 0, 1) := by decide +kernel
theorem dX7_isAgain_116 : decode cX7_isAgain 116 = .ok (.getfield 193, 3) := by decide +kernel
theorem dX7_isAgain_119 : decode cX7_isAgain 119 = .ok (.i2l, 1) := by decide +kernel
theorem dX7_isAgain_120 : decode cX7_isAgain 120 = .ok (.lmul, 1) := by decide +kernel
theorem dX7_isAgain_121 : decode cX7_isAgain 121 = .ok (.ladd, 1) := by decide +kernel
theorem dX7_isAgain_122 : decode cX7_isAgain 122 = .ok (.ldc2_w 196, 3) := by decide +kernel
theorem dX7_isAgain_125 : decode cX7_isAgain 125 = .ok (.lrem, 1) := by decide +kernel
theorem dX7_isAgain_126 : decode cX7_isAgain 126 = .ok (.lconst 0, 1) := by decide +kernel
theorem dX7_isAgain_127 : decode cX7_isAgain 127 = .ok (.lcmp, 1) := by decide +kernel
theorem dX7_isAgain_128 : decode cX7_isAgain 128 = .ok (.ifCond .ne 26, 3) := by decide +kernel
theorem dX7_isAgain_131 : decode cX7_isAgain 131 = .ok (.aload_n 0, 1) := by decide +kernel
theorem dX7_isAgain_132 : decode cX7_isAgain 132 = .ok (.aload_n 0, 1) := by decide +kernel
theorem dX7_isAgain_133 : decode cX7_isAgain 133 = .ok (.getfield 190, 3) := by decide +kernel
theorem dX7_isAgain_136 : decode cX7_isAgain 136 = .ok (.aload_n 0, 1) := by decide +kernel
theorem dX7_isAgain_137 : decode cX7_isAgain 137 = .ok (.getfield 190, 3) := by decide +kernel
theorem dX7_isAgain_140 : decode cX7_isAgain 140 = .ok (.iload 5, 2) := by decide +kernel
theorem dX7_isAgain_142 : decode cX7_isAgain 142 = .ok (.invokestatic 187, 3) := by decide +kernel
theorem dX7_isAgain_145 : decode cX7_isAgain 145 = .ok (.idiv, 1) := by decide +kernel
theorem dX7_isAgain_146 : decode cX7_isAgain 146 = .ok (.iload 5, 2) := by decide +kernel
theorem dX7_isAgain_148 : decode cX7_isAgain 148 = .ok (.imul, 1) := by decide +kernel
theorem dX7_isAgain_149 : decode cX7_isAgain 149 = .ok (.putfield 190, 3) := by decide +kernel
theorem dX7_isAgain_152 : decode cX7_isAgain 152 = .ok (.iconst 1, 1) := by decide +kernel
theorem dX7_isAgain_153 : decode cX7_isAgain 153 = .ok (.ireturn, 1) := by decide +kernel
theorem dX7_isAgain_154 : decode cX7_isAgain 154 = .ok (.aload_n 0, 1) := by decide +kernel
theorem dX7_isAgain_155 : decode cX7_isAgain 155 = .ok (.dup, 1) := by decide +kernel
theorem dX7_isAgain_156 : decode cX7_isAgain 156 = .ok (.getfield 193, 3) := by decide +kernel
theorem dX7_isAgain_159 : decode cX7_isAgain 159 = .ok (.aload_n 0, 1) := by decide +kernel
theorem dX7_isAgain_160 : decode cX7_isAgain 160 = .ok (.getfield 190, 3) := by decide +kernel
theorem dX7_isAgain_163 : decode cX7_isAgain 163 = .ok (.iadd, 1) := by decide +kernel
theorem dX7_isAgain_164 : decode cX7_isAgain 164 = .ok (.putfield 193, 3) := by decide +kernel
theorem dX7_isAgain_167 : decode cX7_isAgain 167 = .ok (.iinc 7 1, 3) := by decide +kernel
theorem dX7_isAgain_170 : decode cX7_isAgain 170 = .ok (.goto (-67), 3) := by decide +kernel
theorem dX7_isAgain_173 : decode cX7_isAgain 173 = .ok (.iconst 0, 1) := by decide +kernel
theorem dX7_isAgain_174 : decode cX7_isAgain 174 = .ok (.ireturn, 1) := by decide +kernel
set_option maxRecDepth 20000 in
theorem ggX7_isFirstAgain_X7_hand : GoodIn wsX7_isFirstAgain wsX7_hand := goodIn_r _ [9, 1, 16, 17, 18, 19, 20, 21, 22, 23, 24, 25, 26, 27, 28, 29, 30, 31, 32, 33, 34, 35, 36, 37, 38, 39, 40, 41] (by decide +kernel) (by decide +kernel)
set_option maxRecDepth 20000 in
theorem gX7_isFirstAgain_X7_hand : GoodIn wsX7_isFirstAgain (wsV RX7 153 RX7 yX7_hand wsX7_hand) := goodIn_app (goodIn_of _ (by decide +kernel)) ggX7_isFirstAgain_X7_hand
set_option maxRecDepth 20000 in
theorem ggX7_isFirstAgain_X7_rest : GoodIn wsX7_isFirstAgain wsX7_rest := goodIn_r _ [12] (by decide +kernel) (by decide +kernel)
set_option maxRecDepth 20000 in
theorem gX7_isFirstAgain_X7_rest : GoodIn wsX7_isFirstAgain (va_wsS RX7 146 yX7_rest wsX7_rest) := goodIn_app (goodIn_of _ (by decide +kernel)) ggX7_isFirstAgain_X7_rest
set_option maxRecDepth 20000 in
theorem ggX7_isFirstAgain_X7_common : GoodIn wsX7_isFirstAgain wsX7_common := goodIn_r _ [15] (by decide +kernel) (by decide +kernel)
set_option maxRecDepth 20000 in
theorem gX7_isFirstAgain_X7_common : GoodIn wsX7_isFirstAgain (va_wsS RX7 187 yX7_common wsX7_common) := goodIn_app (goodIn_of _ (by decide +kernel)) ggX7_isFirstAgain_X7_common
theorem dX7_isFirstAgain_0 : decode cX7_isFirstAgain 0 = .ok (.aload_n 0, 1) := by decide +kernel
theorem dX7_isFirstAgain_1 : decode cX7_isFirstAgain 1 = .ok (.getfield 7, 3) := by decide +kernel
theorem dX7_isFirstAgain_4 : decode cX7_isFirstAgain 4 = .ok (.bipush 6, 2) := by decide +kernel
theorem dX7_isFirstAgain_6 : decode cX7_isFirstAgain 6 = .ok (.iload_n 2, 1) := by decide +kernel
theorem dX7_isFirstAgain_7 : decode cX7_isFirstAgain 7 = .ok (.imul, 1) := by decide +kernel
theorem dX7_isFirstAgain_8 : decode cX7_isFirstAgain 8 = .ok (.iconst 3, 1) := by decide +kernel
theorem dX7_isFirstAgain_9 : decode cX7_isFirstAgain 9 = .ok (.iadd, 1) := by decide +kernel
theorem dX7_isFirstAgain_10 : decode cX7_isFirstAgain 10 = .ok (.iaload, 1) := by decide +kernel
theorem dX7_isFirstAgain_11 : decode cX7_isFirstAgain 11 = .ok (.aload_n 0, 1) := by decide +kernel
theorem dX7_isFirstAgain_12 : decode cX7_isFirstAgain 12 = .ok (.getfield 7, 3) := by decide +kernel
theorem dX7_isFirstAgain_15 : decode cX7_isFirstAgain 15 = .ok (.bipush 6, 2) := by decide +kernel
theorem dX7_isFirstAgain_17 : decode cX7_isFirstAgain 17 = .ok (.iload_n 1, 1) := by decide +kernel
theorem dX7_isFirstAgain_18 : decode cX7_isFirstAgain 18 = .ok (.imul, 1) := by decide +kernel
theorem dX7_isFirstAgain_19 : decode cX7_isFirstAgain 19 = .ok (.iconst 3, 1) := by decide +kernel
theorem dX7_isFirstAgain_20 : decode cX7_isFirstAgain 20 = .ok (.iadd, 1) := by decide +kernel
theorem dX7_isFirstAgain_21 : decode cX7_isFirstAgain 21 = .ok (.iaload, 1) := by decide +kernel
theorem dX7_isFirstAgain_22 : decode cX7_isFirstAgain 22 = .ok (.isub, 1) := by decide +kernel
theorem dX7_isFirstAgain_23 : decode cX7_isFirstAgain 23 = .ok (.istore 4, 2) := by decide +kernel
theorem dX7_isFirstAgain_25 : decode cX7_isFirstAgain 25 = .ok (.aload_n 0, 1) := by decide +kernel
theorem dX7_isFirstAgain_26 : decode cX7_isFirstAgain 26 = .ok (.iload_n 2, 1) := by decide +kernel
theorem dX7_isFirstAgain_27 : decode cX7_isFirstAgain 27 = .ok (.iconst 0, 1) := by decide +kernel
theorem dX7_isFirstAgain_28 : decode cX7_isFirstAgain 28 = .ok (.aload_n 0, 1) := by decide +kernel
theorem dX7_isFirstAgain_29 : decode cX7_isFirstAgain 29 = .ok (.getfield 7, 3) := by decide +kernel
theorem dX7_isFirstAgain_32 : decode cX7_isFirstAgain 32 = .ok (.bipush 6, 2) := by decide +kernel
theorem dX7_isFirstAgain_34 : decode cX7_isFirstAgain 34 = .ok (.iload_n 2, 1) := by decide +kernel
theorem dX7_isFirstAgain_35 : decode cX7_isFirstAgain 35 = .ok (.imul, 1) := by decide +kernel
theorem dX7_isFirstAgain_36 : decode cX7_isFirstAgain 36 = .ok (.iconst 3, 1) := by decide +kernel
theorem dX7_isFirstAgain_37 : decode cX7_isFirstAgain 37 = .ok (.iadd, 1) := by decide +kernel
theorem dX7_isFirstAgain_38 : decode cX7_isFirstAgain 38 = .ok (.iaload, 1) := by decide +kernel
theorem dX7_isFirstAgain_39 : decode cX7_isFirstAgain 39 = .ok (.invokevirtual 153, 3) := by decide +kernel
theorem dX7_isFirstAgain_42 : decode cX7_isFirstAgain 42 = .ok (.aload_n 0, 1) := by decide +kernel
theorem dX7_isFirstAgain_43 : decode cX7_isFirstAgain 43 = .ok (.iload_n 1, 1) := by decide +kernel
theorem dX7_isFirstAgain_44 : decode cX7_isFirstAgain 44 = .ok (.iconst 0, 1) := by decide +kernel
theorem dX7_isFirstAgain_45 : decode cX7_isFirstAgain 45 = .ok (.aload_n 0, 1) := by decide +kernel
theorem dX7_isFirstAgain_46 : decode cX7_isFirstAgain 46 = .ok (.getfield 7, 3) := by decide +kernel
theorem dX7_isFirstAgain_49 : decode cX7_isFirstAgain 49 = .ok (.bipush 6, 2) := by decide +kernel
theorem dX7_isFirstAgain_51 : decode cX7_isFirstAgain 51 = .ok (.iload_n 1, 1) := by decide +kernel
theorem dX7_isFirstAgain_52 : decode cX7_isFirstAgain 52 = .ok (.imul, 1) := by decide +kernel
theorem dX7_isFirstAgain_53 : decode cX7_isFirstAgain 53 = .ok (.iconst 3, 1) := by decide +kernel
theorem dX7_isFirstAgain_54 : decode cX7_isFirstAgain 54 = .ok (.iadd, 1) := by decide +kernel
theorem dX7_isFirstAgain_55 : decode cX7_isFirstAgain 55 = .ok (.iaload, 1) := by decide +kernel
theorem dX7_isFirstAgain_56 : decode cX7_isFirstAgain 56 = .ok (.invokevirtual 153, 3) := by decide +kernel
theorem dX7_isFirstAgain_59 : decode cX7_isFirstAgain 59 = .ok (.isub, 1) := by decide +kernel
theorem dX7_isFirstAgain_60 : decode cX7_isFirstAgain 60 = .ok (.ldc 182, 2) := by decide +kernel
theorem dX7_isFirstAgain_62 : decode cX7_isFirstAgain 62 = .ok (.invokestatic 146, 3) := by decide +kernel
theorem dX7_isFirstAgain_65 : decode cX7_isFirstAgain 65 = .ok (.istore 5, 2) := by decide +kernel
theorem dX7_isFirstAgain_67 : decode cX7_isFirstAgain 67 = .ok (.ldc 182, 2) := by decide +kernel
theorem dX7_isFirstAgain_69 : decode cX7_isFirstAgain 69 = .ok (.iload 4, 2) := by decide +kernel
theorem dX7_isFirstAgain_71 : decode cX7_isFirstAgain 71 = .ok (.ifCond .ge 9, 3) := by decide +kernel
theorem dX7_isFirstAgain_74 : decode cX7_isFirstAgain 74 = .ok (.iload 4, 2) := by decide +kernel
theorem dX7_isFirstAgain_76 : decode cX7_isFirstAgain 76 = .ok (.ineg, 1) := by decide +kernel
theorem dX7_isFirstAgain_77 : decode cX7_isFirstAgain 77 = .ok (.goto 5, 3) := by decide +kernel
theorem dX7_isFirstAgain_80 : decode cX7_isFirstAgain 80 = .ok (.iload 4, 2) := by decide +kernel
theorem dX7_isFirstAgain_82 : decode cX7_isFirstAgain 82 = .ok (.invokestatic 187, 3) := by decide +kernel
theorem dX7_isFirstAgain_85 : decode cX7_isFirstAgain 85 = .ok (.istore 6, 2) := by decide +kernel
theorem dX7_isFirstAgain_87 : decode cX7_isFirstAgain 87 = .ok (.aload_n 0, 1) := by decide +kernel
theorem dX7_isFirstAgain_88 : decode cX7_isFirstAgain 88 = .ok (.ldc 182, 2) := by decide +kernel
theorem dX7_isFirstAgain_90 : decode cX7_isFirstAgain 90 = .ok (.iload 6, 2) := by decide +kernel
theorem dX7_isFirstAgain_92 : decode cX7_isFirstAgain 92 = .ok (.idiv, 1) := by decide +kernel
theorem dX7_isFirstAgain_93 : decode cX7_isFirstAgain 93 = .ok (.putfield 190, 3) := by decide +kernel
theorem dX7_isFirstAgain_96 : decode cX7_isFirstAgain 96 = .ok (.iload 5, 2) := by decide +kernel
theorem dX7_isFirstAgain_98 : decode cX7_isFirstAgain 98 = .ok (.iload 6, 2) := by decide +kernel
theorem dX7_isFirstAgain_100 : decode cX7_isFirstAgain 100 = .ok (.irem, 1) := by decide +kernel
theorem dX7_isFirstAgain_101 : decode cX7_isFirstAgain 101 = .ok (.ifCond .eq 5, 3) := by decide +kernel
theorem dX7_isFirstAgain_104 : decode cX7_isFirstAgain 104 = .ok (.iconst 0, 1) := by decide +kernel
theorem dX7_isFirstAgain_105 : decode cX7_isFirstAgain 105 = .ok (.ireturn, 1) := by decide +kernel
theorem dX7_isFirstAgain_106 : decode cX7_isFirstAgain 106 = .ok (.iload 4, 2) := by decide +kernel
theorem dX7_isFirstAgain_108 : decode cX7_isFirstAgain 108 = .ok (.ifCond .ne 7, 3) := by decide +kernel
theorem dX7_isFirstAgain_111 : decode cX7_isFirstAgain 111 = .ok (.iconst 0, 1) := by decide +kernel
theorem dX7_isFirstAgain_112 : decode cX7_isFirstAgain 112 = .ok (.goto 15, 3) := by decide +kernel
theorem dX7_isFirstAgain_115 : decode cX7_isFirstAgain 115 = .ok (.iload 4, 2) := by decide +kernel
theorem dX7_isFirstAgain_117 : decode cX7_isFirstAgain 117 = .ok (.iload 6, 2) := by decide +kernel
theorem dX7_isFirstAgain_119 : decode cX7_isFirstAgain 119 = .ok (.idiv, 1) := by decide +kernel
theorem dX7_isFirstAgain_120 : decode cX7_isFirstAgain 120 = .ok (.aload_n 0, 1) := by decide +kernel
theorem dX7_isFirstAgain_121 : decode cX7_isFirstAgain 121 = .ok (.getfield 190, 3) := by decide +kernel
theorem dX7_isFirstAgain_124 : decode cX7_isFirstAgain 124 = .ok (.invokestatic 146, 3) := by decide +kernel
theorem dX7_isFirstAgain_127 : decode cX7_isFirstAgain 127 = .ok (.istore 7, 2) := by decide +kernel
theorem dX7_isFirstAgain_129 : decode cX7_isFirstAgain 129 = .ok (.iload 5, 2) := by decide +kernel
theorem dX7_isFirstAgain_131 : decode cX7_isFirstAgain 131 = .ok (.iload 6, 2) := by decide +kernel
theorem dX7_isFirstAgain_133 : decode cX7_isFirstAgain 133 = .ok (.idiv, 1) := by decide +kernel
theorem dX7_isFirstAgain_134 : decode cX7_isFirstAgain 134 = .ok (.ineg, 1) := by decide +kernel
theorem dX7_isFirstAgain_135 : decode cX7_isFirstAgain 135 = .ok (.aload_n 0, 1) := by decide +kernel
theorem dX7_isFirstAgain_136 : decode cX7_isFirstAgain 136 = .ok (.getfield 190, 3) := by decide +kernel
theorem dX7_isFirstAgain_139 : decode cX7_isFirstAgain 139 = .ok (.invokestatic 146, 3) := by decide +kernel
theorem dX7_isFirstAgain_142 : decode cX7_isFirstAgain 142 = .ok (.istore 8, 2) := by decide +kernel
theorem dX7_isFirstAgain_144 : decode cX7_isFirstAgain 144 = .ok (.lconst 0, 1) := by decide +kernel
theorem dX7_isFirstAgain_145 : decode cX7_isFirstAgain 145 = .ok (.lstore 9, 2) := by decide +kernel
theorem dX7_isFirstAgain_147 : decode cX7_isFirstAgain 147 = .ok (.lconst 1, 1) := by decide +kernel
theorem dX7_isFirstAgain_148 : decode cX7_isFirstAgain 148 = .ok (.lstore 11, 2) := by decide +kernel
theorem dX7_isFirstAgain_150 : decode cX7_isFirstAgain 150 = .ok (.iload 7, 2) := by decide +kernel
theorem dX7_isFirstAgain_152 : decode cX7_isFirstAgain 152 = .ok (.i2l, 1) := by decide +kernel
theorem dX7_isFirstAgain_153 : decode cX7_isFirstAgain 153 = .ok (.lstore 13, 2) := by decide +kernel
theorem dX7_isFirstAgain_155 : decode cX7_isFirstAgain 155 = .ok (.aload_n 0, 1) := by decide +kernel
theorem dX7_isFirstAgain_156 : decode cX7_isFirstAgain 156 = .ok (.getfield 190, 3) := by decide +kernel
theorem dX7_isFirstAgain_159 : decode cX7_isFirstAgain 159 = .ok (.istore 15, 2) := by decide +kernel
theorem dX7_isFirstAgain_161 : decode cX7_isFirstAgain 161 = .ok (.iconst 2, 1) := by decide +kernel
theorem dX7_isFirstAgain_162 : decode cX7_isFirstAgain 162 = .ok (.istore 16, 2) := by decide +kernel
theorem dX7_isFirstAgain_164 : decode cX7_isFirstAgain 164 = .ok (.iload 16, 2) := by decide +kernel
theorem dX7_isFirstAgain_166 : decode cX7_isFirstAgain 166 = .ok (.bipush 6, 2) := by decide +kernel
theorem dX7_isFirstAgain_168 : decode cX7_isFirstAgain 168 = .ok (.if_icmp .ge 42, 3) := by decide +kernel
theorem dX7_isFirstAgain_171 : decode cX7_isFirstAgain 171 = .ok (.iload 16, 2) := by decide +kernel
theorem dX7_isFirstAgain_173 : decode cX7_isFirstAgain 173 = .ok (.iconst 4, 1) := by decide +kernel
theorem dX7_isFirstAgain_174 : decode cX7_isFirstAgain 174 = .ok (.if_icmp .eq 26, 3) := by decide +kernel
theorem dX7_isFirstAgain_177 : decode cX7_isFirstAgain 177 = .ok (.aload_n 0, 1) := by decide +kernel
theorem dX7_isFirstAgain_178 : decode cX7_isFirstAgain 178 = .ok (.getfield 190, 3) := by decide +kernel
theorem dX7_isFirstAgain_181 : decode cX7_isFirstAgain 181 = .ok (.iload 16, 2) := by decide +kernel
theorem dX7_isFirstAgain_183 : decode cX7_isFirstAgain 183 = .ok (.irem, 1) := by decide +kernel
theorem dX7_isFirstAgain_184 : decode cX7_isFirstAgain 184 = .ok (.ifCond .ne 16, 3) := by decide +kernel
theorem dX7_isFirstAgain_187 : decode cX7_isFirstAgain 187 = .ok (.iload 15, 2) := by decide +kernel
theorem dX7_isFirstAgain_189 : decode cX7_isFirstAgain 189 = .ok (.iload 16, 2) := by decide +kernel
theorem dX7_isFirstAgain_191 : decode cX7_isFirstAgain 191 = .ok (.idiv, 1) := by decide +kernel
theorem dX7_isFirstAgain_192 : decode cX7_isFirstAgain 192 = .ok (.iload 16, 2) := by decide +kernel
theorem dX7_isFirstAgain_194 : decode cX7_isFirstAgain 194 = .ok (.iconst 1, 1) := by decide +kernel
theorem dX7_isFirstAgain_195 : decode cX7_isFirstAgain 195 = .ok (.isub, 1) := by decide +kernel
theorem dX7_isFirstAgain_196 : decode cX7_isFirstAgain 196 = .ok (.imul, 1) := by decide +kernel
theorem dX7_isFirstAgain_197 : decode cX7_isFirstAgain 197 = .ok (.goto 5, 3) := by decide +kernel
theorem dX7_isFirstAgain_200 : decode cX7_isFirstAgain 200 = .ok (.iload 15, 2) := by decide +kernel
theorem dX7_isFirstAgain_202 : decode cX7_isFirstAgain 202 = .ok (.istore 15, 2) := by decide +kernel
theorem dX7_isFirstAgain_204 : decode cX7_isFirstAgain 204 = .ok (.iinc 16 1, 3) := by decide +kernel
theorem dX7_isFirstAgain_207 : decode cX7_isFirstAgain 207 = .ok (.goto (-43), 3) := by decide +kernel
theorem dX7_isFirstAgain_210 : decode cX7_isFirstAgain 210 = .ok (.iload 15, 2) := by decide +kernel
theorem dX7_isFirstAgain_212 : decode cX7_isFirstAgain 212 = .ok (.iconst 1, 1) := by decide +kernel
theorem dX7_isFirstAgain_213 : decode cX7_isFirstAgain 213 = .ok (.isub, 1) := by decide +kernel
theorem dX7_isFirstAgain_214 : decode cX7_isFirstAgain 214 = .ok (.istore 16, 2) := by decide +kernel
theorem dX7_isFirstAgain_216 : decode cX7_isFirstAgain 216 = .ok (.iload 16, 2) := by decide +kernel
theorem dX7_isFirstAgain_218 : decode cX7_isFirstAgain 218 = .ok (.ifCond .le 51, 3) := by decide +kernel
theorem dX7_isFirstAgain_221 : decode cX7_isFirstAgain 221 = .ok (.iload 16, 2) := by decide +kernel
theorem dX7_isFirstAgain_223 : decode cX7_isFirstAgain 223 = .ok (.iconst 2, 1) := by decide +kernel
theorem dX7_isFirstAgain_224 : decode cX7_isFirstAgain 224 = .ok (.irem, 1) := by decide +kernel
theorem dX7_isFirstAgain_225 : decode cX7_isFirstAgain 225 = .ok (.iconst 1, 1) := by decide +kernel
theorem dX7_isFirstAgain_226 : decode cX7_isFirstAgain 226 = .ok (.if_icmp .ne 17, 3) := by decide +kernel
theorem dX7_isFirstAgain_229 : decode cX7_isFirstAgain 229 = .ok (.lload 11, 2) := by decide +kernel
theorem dX7_isFirstAgain_231 : decode cX7_isFirstAgain 231 = .ok (.lload 13, 2) := by decide +kernel
theorem dX7_isFirstAgain_233 : decode cX7_isFirstAgain 233 = .ok (.lmul, 1) := by decide +kernel
theorem dX7_isFirstAgain_234 : decode cX7_isFirstAgain 234 = .ok (.aload_n 0, 1) := by decide +kernel
theorem dX7_isFirstAgain_235 : decode cX7_isFirstAgain 235 = .ok (.getfield 190, 3) := by decide +kernel
theorem dX7_isFirstAgain_238 : decode cX7_isFirstAgain 238 = .ok (.i2l, 1) := by decide +kernel
theorem dX7_isFirstAgain_239 : decode cX7_isFirstAgain 239 = .ok (.lrem, 1) := by decide +kernel
theorem dX7_isFirstAgain_240 : decode cX7_isFirstAgain 240 = .ok (.goto 5, 3) := by decide +kernel
theorem dX7_isFirstAgain_243 : decode cX7_isFirstAgain 243 = .ok (.lload 11, 2) := by decide +kernel
theorem dX7_isFirstAgain_245 : decode cX7_isFirstAgain 245 = .ok (.lstore 11, 2) := by decide +kernel
theorem dX7_isFirstAgain_247 : decode cX7_isFirstAgain 247 = .ok (.lload 13, 2) := by decide +kernel
theorem dX7_isFirstAgain_249 : decode cX7_isFirstAgain 249 = .ok (.lload 13, 2) := by decide +kernel
theorem dX7_isFirstAgain_251 : decode cX7_isFirstAgain 251 = .ok (.lmul, 1) := by decide +kernel
theorem dX7_isFirstAgain_252 : decode cX7_isFirstAgain 252 = .ok (.aload_n 0, 1) := by decide +kernel
theorem dX7_isFirstAgain_253 : decode cX7_isFirstAgain 253 = .ok (.getfield 190, 3) := by decide +kernel
theorem dX7_isFirstAgain_256 : decode cX7_isFirstAgain 256 = .ok (.i2l, 1) := by decide +kernel
theorem dX7_isFirstAgain_257 : decode cX7_isFirstAgain 257 = .ok (.lrem, 1) := by decide +kernel
theorem dX7_isFirstAgain_258 : decode cX7_isFirstAgain 258 = .ok (.lstore 13, 2) := by decide +kernel
theorem dX7_isFirstAgain_260 : decode cX7_isFirstAgain 260 = .ok (.iload 16, 2) := by decide +kernel
theorem dX7_isFirstAgain_262 : decode cX7_isFirstAgain 262 = .ok (.iconst 2, 1) := by decide +kernel
theorem dX7_isFirstAgain_263 : decode cX7_isFirstAgain 263 = .ok (.idiv, 1) := by decide +kernel
theorem dX7_isFirstAgain_264 : decode cX7_isFirstAgain 264 = .ok (.istore 16, 2) := by decide +kernel
theorem dX7_isFirstAgain_266 : decode cX7_isFirstAgain 266 = .ok (.goto (-50), 3) := by decide +kernel
theorem dX7_isFirstAgain_269 : decode cX7_isFirstAgain 269 = .ok (.aload_n 0, 1) := by decide +kernel
theorem dX7_isFirstAgain_270 : decode cX7_isFirstAgain 270 = .ok (.getfield 190, 3) := by decide +kernel
theorem dX7_isFirstAgain_273 : decode cX7_isFirstAgain 273 = .ok (.iconst 1, 1) := by decide +kernel
theorem dX7_isFirstAgain_274 : decode cX7_isFirstAgain 274 = .ok (.if_icmp .ne 7, 3) := by decide +kernel
theorem dX7_isFirstAgain_277 : decode cX7_isFirstAgain 277 = .ok (.lconst 0, 1) := by decide +kernel
theorem dX7_isFirstAgain_278 : decode cX7_isFirstAgain 278 = .ok (.goto 15, 3) := by decide +kernel
theorem dX7_isFirstAgain_281 : decode cX7_isFirstAgain 281 = .ok (.iload 8, 2) := by decide +kernel
theorem dX7_isFirstAgain_283 : decode cX7_isFirstAgain 283 = .ok (.i2l, 1) := by decide +kernel
theorem dX7_isFirstAgain_284 : decode cX7_isFirstAgain 284 = .ok (.lload 11, 2) := by decide +kernel
theorem dX7_isFirstAgain_286 : decode cX7_isFirstAgain 286 = .ok (.lmul, 1) := by decide +kernel
theorem dX7_isFirstAgain_287 : decode cX7_isFirstAgain 287 = .ok (.aload_n 0, 1) := by decide +kernel
theorem dX7_isFirstAgain_288 : decode cX7_isFirstAgain 288 = .ok (.getfield 190, 3) := by decide +kernel
theorem dX7_isFirstAgain_291 : decode cX7_isFirstAgain 291 = .ok (.i2l, 1) := by decide +kernel
theorem dX7_isFirstAgain_292 : decode cX7_isFirstAgain 292 = .ok (.lrem, 1) := by decide +kernel
theorem dX7_isFirstAgain_293 : decode cX7_isFirstAgain 293 = .ok (.lstore 9, 2) := by decide +kernel
theorem dX7_isFirstAgain_295 : decode cX7_isFirstAgain 295 = .ok (.aload_n 0, 1) := by decide +kernel
theorem dX7_isFirstAgain_296 : decode cX7_isFirstAgain 296 = .ok (.iload_n 3, 1) := by decide +kernel
theorem dX7_isFirstAgain_297 : decode cX7_isFirstAgain 297 = .ok (.lload 9, 2) := by decide +kernel
theorem dX7_isFirstAgain_299 : decode cX7_isFirstAgain 299 = .ok (.l2i, 1) := by decide +kernel
theorem dX7_isFirstAgain_300 : decode cX7_isFirstAgain 300 = .ok (.iload_n 3, 1) := by decide +kernel
theorem dX7_isFirstAgain_301 : decode cX7_isFirstAgain 301 = .ok (.aload_n 0, 1) := by decide +kernel
theorem dX7_isFirstAgain_302 : decode cX7_isFirstAgain 302 = .ok (.getfield 190, 3) := by decide +kernel
theorem dX7_isFirstAgain_305 : decode cX7_isFirstAgain 305 = .ok (.irem, 1) := by decide +kernel
theorem dX7_isFirstAgain_306 : decode cX7_isFirstAgain 306 = .ok (.isub, 1) := by decide +kernel
theorem dX7_isFirstAgain_307 : decode cX7_isFirstAgain 307 = .ok (.aload_n 0, 1) := by decide +kernel
theorem dX7_isFirstAgain_308 : decode cX7_isFirstAgain 308 = .ok (.getfield 190, 3) := by decide +kernel
theorem dX7_isFirstAgain_311 : decode cX7_isFirstAgain 311 = .ok (.invokestatic 146, 3) := by decide +kernel
theorem dX7_isFirstAgain_314 : decode cX7_isFirstAgain 314 = .ok (.iadd, 1) := by decide +kernel
theorem dX7_isFirstAgain_315 : decode cX7_isFirstAgain 315 = .ok (.putfield 193, 3) := by decide +kernel
theorem dX7_isFirstAgain_318 : decode cX7_isFirstAgain 318 = .ok (.iconst 1, 1) := by decide +kernel
theorem dX7_isFirstAgain_319 : decode cX7_isFirstAgain 319 = .ok (.ireturn, 1) := by decide +kernel
set_option maxRecDepth 20000 in
theorem ggX7_again_X7_in : GoodIn wsX7_again wsX7_in := goodIn_r _ [7] (by decide +kernel) (by decide +kernel)
set_option maxRecDepth 20000 in
theorem gX7_again_X7_in : GoodIn wsX7_again (va_wsS RX7 41 yX7_in wsX7_in) := goodIn_app (goodIn_of _ (by decide +kernel)) ggX7_again_X7_in
set_option maxRecDepth 20000 in
theorem ggX7_again_X7_bits : GoodIn wsX7_again wsX7_bits := goodIn_r _ [10] (by decide +kernel) (by decide +kernel)
set_option maxRecDepth 20000 in
theorem gX7_again_X7_bits : GoodIn wsX7_again (va_wsS RX7 173 yX7_bits wsX7_bits) := goodIn_app (goodIn_of _ (by decide +kernel)) ggX7_again_X7_bits
set_option maxRecDepth 20000 in
theorem ggX7_again_X7_has : GoodIn wsX7_again wsX7_has := goodIn_r _ [13] (by decide +kernel) (by decide +kernel)
set_option maxRecDepth 20000 in
theorem gX7_again_X7_has : GoodIn wsX7_again (va_wsS RX7 49 yX7_has wsX7_has) := goodIn_app (goodIn_of _ (by decide +kernel)) ggX7_again_X7_has
set_option maxRecDepth 20000 in
theorem ggX7_again_X7_isExact : GoodIn wsX7_again wsX7_isExact := goodIn_r _ [17, 2, 18, 19, 20, 6, 21, 22, 4, 5, 7, 11, 12, 13, 44, 45, 46, 47, 48, 49, 50, 51, 52, 53, 54, 55, 56, 57, 58, 59, 60, 61, 62, 63, 64, 65, 66, 67, 68, 69] (by decide +kernel) (by decide +kernel)
set_option maxRecDepth 20000 in
theorem gX7_again_X7_isExact : GoodIn wsX7_again (wsV RX7 176 RX7 yX7_isExact wsX7_isExact) := goodIn_app (goodIn_of _ (by decide +kernel)) ggX7_again_X7_isExact
set_option maxRecDepth 20000 in
theorem ggX7_again_X7_isFirstAgain : GoodIn wsX7_again wsX7_isFirstAgain := goodIn_r _ [26, 2, 27, 28, 3, 29, 30, 31, 6, 32, 33, 34, 35, 36, 37, 38, 44, 45, 46, 47, 48, 49, 50, 51, 52, 53, 54, 55, 56, 57, 58, 59, 60, 61, 62, 63, 64, 65, 66, 67, 68, 69] (by decide +kernel) (by decide +kernel)
set_option maxRecDepth 20000 in
theorem gX7_again_X7_isFirstAgain : GoodIn wsX7_again (wsV RX7 199 RX7 yX7_isFirstAgain wsX7_isFirstAgain) := goodIn_app (goodIn_of _ (by decide +kernel)) ggX7_again_X7_isFirstAgain
set_option maxRecDepth 20000 in
theorem ggX7_again_X7_isAgain : GoodIn wsX7_again wsX7_isAgain := goodIn_r _ [42, 2, 27, 28, 3, 43, 29, 30, 31, 6, 32, 33, 34, 35, 36, 37, 38, 44, 45, 46, 47, 48, 49, 50, 51, 52, 53, 54, 55, 56, 57, 58, 59, 60, 61, 62, 63, 64, 65, 66, 67, 68, 69] (by decide +kernel) (by decide +kernel)
set_option maxRecDepth 20000 in
theorem gX7_again_X7_isAgain : GoodIn wsX7_again (wsV RX7 202 RX7 yX7_isAgain wsX7_isAgain) := goodIn_app (goodIn_of _ (by decide +kernel)) ggX7_again_X7_isAgain
theorem dX7_again_0 : decode cX7_again 0 = .ok (.iload_n 1, 1) := by decide +kernel
theorem dX7_again_1 : decode cX7_again 1 = .ok (.iconst 0, 1) := by decide +kernel
theorem dX7_again_2 : decode cX7_again 2 = .ok (.sipush 255, 3) := by decide +kernel
theorem dX7_again_5 : decode cX7_again 5 = .ok (.invokestatic 41, 3) := by decide +kernel
theorem dX7_again_8 : decode cX7_again 8 = .ok (.ifCond .eq 21, 3) := by decide +kernel
theorem dX7_again_11 : decode cX7_again 11 = .ok (.iload_n 1, 1) := by decide +kernel
theorem dX7_again_12 : decode cX7_again 12 = .ok (.invokestatic 173, 3) := by decide +kernel
theorem dX7_again_15 : decode cX7_again 15 = .ok (.iconst 2, 1) := by decide +kernel
theorem dX7_again_16 : decode cX7_again 16 = .ok (.if_icmp .lt 13, 3) := by decide +kernel
theorem dX7_again_19 : decode cX7_again 19 = .ok (.iload_n 2, 1) := by decide +kernel
theorem dX7_again_20 : decode cX7_again 20 = .ok (.iconst 0, 1) := by decide +kernel
theorem dX7_again_21 : decode cX7_again 21 = .ok (.ldc 198, 2) := by decide +kernel
theorem dX7_again_23 : decode cX7_again 23 = .ok (.invokestatic 41, 3) := by decide +kernel
theorem dX7_again_26 : decode cX7_again 26 = .ok (.ifCond .ne 6, 3) := by decide +kernel
theorem dX7_again_29 : decode cX7_again 29 = .ok (.bipush (-3), 2) := by decide +kernel
theorem dX7_again_31 : decode cX7_again 31 = .ok (.ireturn, 1) := by decide +kernel
theorem dX7_again_32 : decode cX7_again 32 = .ok (.iconst (-1), 1) := by decide +kernel
theorem dX7_again_33 : decode cX7_again 33 = .ok (.istore_n 3, 1) := by decide +kernel
theorem dX7_again_34 : decode cX7_again 34 = .ok (.iconst (-1), 1) := by decide +kernel
theorem dX7_again_35 : decode cX7_again 35 = .ok (.istore 4, 2) := by decide +kernel
theorem dX7_again_37 : decode cX7_again 37 = .ok (.bipush 7, 2) := by decide +kernel
theorem dX7_again_39 : decode cX7_again 39 = .ok (.istore 5, 2) := by decide +kernel
theorem dX7_again_41 : decode cX7_again 41 = .ok (.iload 5, 2) := by decide +kernel
theorem dX7_again_43 : decode cX7_again 43 = .ok (.ifCond .lt 49, 3) := by decide +kernel
theorem dX7_again_46 : decode cX7_again 46 = .ok (.iload_n 1, 1) := by decide +kernel
theorem dX7_again_47 : decode cX7_again 47 = .ok (.iload 5, 2) := by decide +kernel
theorem dX7_again_49 : decode cX7_again 49 = .ok (.invokestatic 49, 3) := by decide +kernel
theorem dX7_again_52 : decode cX7_again 52 = .ok (.ifCond .eq 34, 3) := by decide +kernel
theorem dX7_again_55 : decode cX7_again 55 = .ok (.aload_n 0, 1) := by decide +kernel
theorem dX7_again_56 : decode cX7_again 56 = .ok (.iload 5, 2) := by decide +kernel
theorem dX7_again_58 : decode cX7_again 58 = .ok (.invokevirtual 176, 3) := by decide +kernel
theorem dX7_again_61 : decode cX7_again 61 = .ok (.ifCond .eq 16, 3) := by decide +kernel
theorem dX7_again_64 : decode cX7_again 64 = .ok (.aload_n 0, 1) := by decide +kernel
theorem dX7_again_65 : decode cX7_again 65 = .ok (.getfield 7, 3) := by decide +kernel
theorem dX7_again_68 : decode cX7_again 68 = .ok (.bipush 6, 2) := by decide +kernel
theorem dX7_again_70 : decode cX7_again 70 = .ok (.iload 5, 2) := by decide +kernel
theorem dX7_again_72 : decode cX7_again 72 = .ok (.imul, 1) := by decide +kernel
theorem dX7_again_73 : decode cX7_again 73 = .ok (.iaload, 1) := by decide +kernel
theorem dX7_again_74 : decode cX7_again 74 = .ok (.ifCond .eq 6, 3) := by decide +kernel
theorem dX7_again_77 : decode cX7_again 77 = .ok (.bipush (-3), 2) := by decide +kernel
theorem dX7_again_79 : decode cX7_again 79 = .ok (.ireturn, 1) := by decide +kernel
theorem dX7_again_80 : decode cX7_again 80 = .ok (.iload_n 3, 1) := by decide +kernel
theorem dX7_again_81 : decode cX7_again 81 = .ok (.istore 4, 2) := by decide +kernel
theorem dX7_again_83 : decode cX7_again 83 = .ok (.iload 5, 2) := by decide +kernel
theorem dX7_again_85 : decode cX7_again 85 = .ok (.istore_n 3, 1) := by decide +kernel
theorem dX7_again_86 : decode cX7_again 86 = .ok (.iinc 5 (-1), 3) := by decide +kernel
theorem dX7_again_89 : decode cX7_again 89 = .ok (.goto (-48), 3) := by decide +kernel
theorem dX7_again_92 : decode cX7_again 92 = .ok (.aload_n 0, 1) := by decide +kernel
theorem dX7_again_93 : decode cX7_again 93 = .ok (.iload_n 3, 1) := by decide +kernel
theorem dX7_again_94 : decode cX7_again 94 = .ok (.iload 4, 2) := by decide +kernel
theorem dX7_again_96 : decode cX7_again 96 = .ok (.iload_n 2, 1) := by decide +kernel
theorem dX7_again_97 : decode cX7_again 97 = .ok (.invokevirtual 199, 3) := by decide +kernel
theorem dX7_again_100 : decode cX7_again 100 = .ok (.ifCond .ne 5, 3) := by decide +kernel
theorem dX7_again_103 : decode cX7_again 103 = .ok (.iconst (-1), 1) := by decide +kernel
theorem dX7_again_104 : decode cX7_again 104 = .ok (.ireturn, 1) := by decide +kernel
theorem dX7_again_105 : decode cX7_again 105 = .ok (.iload 4, 2) := by decide +kernel
theorem dX7_again_107 : decode cX7_again 107 = .ok (.iconst 1, 1) := by decide +kernel
theorem dX7_again_108 : decode cX7_again 108 = .ok (.iadd, 1) := by decide +kernel
theorem dX7_again_109 : decode cX7_again 109 = .ok (.istore 5, 2) := by decide +kernel
theorem dX7_again_111 : decode cX7_again 111 = .ok (.iload 5, 2) := by decide +kernel
theorem dX7_again_113 : decode cX7_again 113 = .ok (.bipush 8, 2) := by decide +kernel
theorem dX7_again_115 : decode cX7_again 115 = .ok (.if_icmp .ge 30, 3) := by decide +kernel
theorem dX7_again_118 : decode cX7_again 118 = .ok (.iload_n 1, 1) := by decide +kernel
theorem dX7_again_119 : decode cX7_again 119 = .ok (.iload 5, 2) := by decide +kernel
theorem dX7_again_121 : decode cX7_again 121 = .ok (.invokestatic 49, 3) := by decide +kernel
theorem dX7_again_124 : decode cX7_again 124 = .ok (.ifCond .eq 15, 3) := by decide +kernel
theorem dX7_again_127 : decode cX7_again 127 = .ok (.aload_n 0, 1) := by decide +kernel
theorem dX7_again_128 : decode cX7_again 128 = .ok (.iload_n 3, 1) := by decide +kernel
theorem dX7_again_129 : decode cX7_again 129 = .ok (.iload 5, 2) := by decide +kernel
theorem dX7_again_131 : decode cX7_again 131 = .ok (.invokevirtual 202, 3) := by decide +kernel
theorem dX7_again_134 : decode cX7_again 134 = .ok (.ifCond .ne 5, 3) := by decide +kernel
theorem dX7_again_137 : decode cX7_again 137 = .ok (.iconst (-1), 1) := by decide +kernel
theorem dX7_again_138 : decode cX7_again 138 = .ok (.ireturn, 1) := by decide +kernel
theorem dX7_again_139 : decode cX7_again 139 = .ok (.iinc 5 1, 3) := by decide +kernel
theorem dX7_again_142 : decode cX7_again 142 = .ok (.goto (-31), 3) := by decide +kernel
theorem dX7_again_145 : decode cX7_again 145 = .ok (.aload_n 0, 1) := by decide +kernel
theorem dX7_again_146 : decode cX7_again 146 = .ok (.getfield 193, 3) := by decide +kernel
theorem dX7_again_149 : decode cX7_again 149 = .ok (.ireturn, 1) := by decide +kernel
set_option maxRecDepth 20000 in
theorem ggX7_stopped_X7_isClock : GoodIn wsX7_stopped wsX7_isClock := goodIn_r _ [6, 7, 8, 9, 5, 10, 11, 12, 13, 31, 32, 33, 34, 35, 36, 37, 38, 39, 40, 41, 42, 43, 44, 45, 46, 47, 48, 49, 50, 51, 52, 53, 54, 55, 56] (by decide +kernel) (by decide +kernel)
set_option maxRecDepth 20000 in
theorem gX7_stopped_X7_isClock : GoodIn wsX7_stopped (wsV RX7 143 RX7 yX7_isClock wsX7_isClock) := goodIn_app (goodIn_of _ (by decide +kernel)) ggX7_stopped_X7_isClock
set_option maxRecDepth 20000 in
theorem ggX7_stopped_X7_in : GoodIn wsX7_stopped wsX7_in := goodIn_r _ [10] (by decide +kernel) (by decide +kernel)
set_option maxRecDepth 20000 in
theorem gX7_stopped_X7_in : GoodIn wsX7_stopped (va_wsS RX7 41 yX7_in wsX7_in) := goodIn_app (goodIn_of _ (by decide +kernel)) ggX7_stopped_X7_in
set_option maxRecDepth 20000 in
theorem ggX7_stopped_X7_canShow : GoodIn wsX7_stopped wsX7_canShow := goodIn_r _ [17, 1, 18, 19, 20, 5, 21, 22, 23, 24, 25, 26, 27, 28, 29, 30, 31, 32, 33, 34, 35, 36, 37, 38, 39, 40, 41, 42, 43, 44, 45, 46, 47, 48, 49, 50, 51, 52, 53, 54, 55, 56] (by decide +kernel) (by decide +kernel)
set_option maxRecDepth 20000 in
theorem gX7_stopped_X7_canShow : GoodIn wsX7_stopped (wsV RX7 163 RX7 yX7_canShow wsX7_canShow) := goodIn_app (goodIn_of _ (by decide +kernel)) ggX7_stopped_X7_canShow
theorem dX7_stopped_0 : decode cX7_stopped 0 = .ok (.aload_n 0, 1) := by decide +kernel
theorem dX7_stopped_1 : decode cX7_stopped 1 = .ok (.iload_n 1, 1) := by decide +kernel
theorem dX7_stopped_2 : decode cX7_stopped 2 = .ok (.invokevirtual 143, 3) := by decide +kernel
theorem dX7_stopped_5 : decode cX7_stopped 5 = .ok (.ifCond .eq 11, 3) := by decide +kernel
theorem dX7_stopped_8 : decode cX7_stopped 8 = .ok (.aload_n 0, 1) := by decide +kernel
theorem dX7_stopped_9 : decode cX7_stopped 9 = .ok (.iload_n 2, 1) := by decide +kernel
theorem dX7_stopped_10 : decode cX7_stopped 10 = .ok (.invokevirtual 143, 3) := by decide +kernel
theorem dX7_stopped_13 : decode cX7_stopped 13 = .ok (.ifCond .ne 6, 3) := by decide +kernel
theorem dX7_stopped_16 : decode cX7_stopped 16 = .ok (.bipush (-2), 2) := by decide +kernel
theorem dX7_stopped_18 : decode cX7_stopped 18 = .ok (.ireturn, 1) := by decide +kernel
theorem dX7_stopped_19 : decode cX7_stopped 19 = .ok (.iload_n 3, 1) := by decide +kernel
theorem dX7_stopped_20 : decode cX7_stopped 20 = .ok (.iconst 0, 1) := by decide +kernel
theorem dX7_stopped_21 : decode cX7_stopped 21 = .ok (.iconst 2, 1) := by decide +kernel
theorem dX7_stopped_22 : decode cX7_stopped 22 = .ok (.invokestatic 41, 3) := by decide +kernel
theorem dX7_stopped_25 : decode cX7_stopped 25 = .ok (.ifCond .ne 6, 3) := by decide +kernel
theorem dX7_stopped_28 : decode cX7_stopped 28 = .ok (.bipush (-3), 2) := by decide +kernel
theorem dX7_stopped_30 : decode cX7_stopped 30 = .ok (.ireturn, 1) := by decide +kernel
theorem dX7_stopped_31 : decode cX7_stopped 31 = .ok (.aload_n 0, 1) := by decide +kernel
theorem dX7_stopped_32 : decode cX7_stopped 32 = .ok (.getfield 7, 3) := by decide +kernel
theorem dX7_stopped_35 : decode cX7_stopped 35 = .ok (.bipush 6, 2) := by decide +kernel
theorem dX7_stopped_37 : decode cX7_stopped 37 = .ok (.iload_n 1, 1) := by decide +kernel
theorem dX7_stopped_38 : decode cX7_stopped 38 = .ok (.imul, 1) := by decide +kernel
theorem dX7_stopped_39 : decode cX7_stopped 39 = .ok (.iaload, 1) := by decide +kernel
theorem dX7_stopped_40 : decode cX7_stopped 40 = .ok (.iconst 2, 1) := by decide +kernel
theorem dX7_stopped_41 : decode cX7_stopped 41 = .ok (.if_icmp .ne 16, 3) := by decide +kernel
theorem dX7_stopped_44 : decode cX7_stopped 44 = .ok (.aload_n 0, 1) := by decide +kernel
theorem dX7_stopped_45 : decode cX7_stopped 45 = .ok (.getfield 7, 3) := by decide +kernel
theorem dX7_stopped_48 : decode cX7_stopped 48 = .ok (.bipush 6, 2) := by decide +kernel
theorem dX7_stopped_50 : decode cX7_stopped 50 = .ok (.iload_n 2, 1) := by decide +kernel
theorem dX7_stopped_51 : decode cX7_stopped 51 = .ok (.imul, 1) := by decide +kernel
theorem dX7_stopped_52 : decode cX7_stopped 52 = .ok (.iaload, 1) := by decide +kernel
theorem dX7_stopped_53 : decode cX7_stopped 53 = .ok (.iconst 2, 1) := by decide +kernel
theorem dX7_stopped_54 : decode cX7_stopped 54 = .ok (.if_icmp .ne 6, 3) := by decide +kernel
theorem dX7_stopped_57 : decode cX7_stopped 57 = .ok (.bipush (-4), 2) := by decide +kernel
theorem dX7_stopped_59 : decode cX7_stopped 59 = .ok (.ireturn, 1) := by decide +kernel
theorem dX7_stopped_60 : decode cX7_stopped 60 = .ok (.iconst 0, 1) := by decide +kernel
theorem dX7_stopped_61 : decode cX7_stopped 61 = .ok (.istore 4, 2) := by decide +kernel
theorem dX7_stopped_63 : decode cX7_stopped 63 = .ok (.iconst (-1), 1) := by decide +kernel
theorem dX7_stopped_64 : decode cX7_stopped 64 = .ok (.istore 5, 2) := by decide +kernel
theorem dX7_stopped_66 : decode cX7_stopped 66 = .ok (.iconst (-1), 1) := by decide +kernel
theorem dX7_stopped_67 : decode cX7_stopped 67 = .ok (.istore 6, 2) := by decide +kernel
theorem dX7_stopped_69 : decode cX7_stopped 69 = .ok (.iconst 0, 1) := by decide +kernel
theorem dX7_stopped_70 : decode cX7_stopped 70 = .ok (.istore 7, 2) := by decide +kernel
theorem dX7_stopped_72 : decode cX7_stopped 72 = .ok (.iload 7, 2) := by decide +kernel
theorem dX7_stopped_74 : decode cX7_stopped 74 = .ok (.sipush 4320, 3) := by decide +kernel
theorem dX7_stopped_77 : decode cX7_stopped 77 = .ok (.if_icmp .ge 51, 3) := by decide +kernel
theorem dX7_stopped_80 : decode cX7_stopped 80 = .ok (.aload_n 0, 1) := by decide +kernel
theorem dX7_stopped_81 : decode cX7_stopped 81 = .ok (.iload_n 2, 1) := by decide +kernel
theorem dX7_stopped_82 : decode cX7_stopped 82 = .ok (.iload 7, 2) := by decide +kernel
theorem dX7_stopped_84 : decode cX7_stopped 84 = .ok (.aload_n 0, 1) := by decide +kernel
theorem dX7_stopped_85 : decode cX7_stopped 85 = .ok (.getfield 7, 3) := by decide +kernel
theorem dX7_stopped_88 : decode cX7_stopped 88 = .ok (.bipush 6, 2) := by decide +kernel
theorem dX7_stopped_90 : decode cX7_stopped 90 = .ok (.iload_n 1, 1) := by decide +kernel
theorem dX7_stopped_91 : decode cX7_stopped 91 = .ok (.imul, 1) := by decide +kernel
theorem dX7_stopped_92 : decode cX7_stopped 92 = .ok (.iconst 2, 1) := by decide +kernel
theorem dX7_stopped_93 : decode cX7_stopped 93 = .ok (.iadd, 1) := by decide +kernel
theorem dX7_stopped_94 : decode cX7_stopped 94 = .ok (.iaload, 1) := by decide +kernel
theorem dX7_stopped_95 : decode cX7_stopped 95 = .ok (.invokevirtual 163, 3) := by decide +kernel
theorem dX7_stopped_98 : decode cX7_stopped 98 = .ok (.ifCond .eq 24, 3) := by decide +kernel
theorem dX7_stopped_101 : decode cX7_stopped 101 = .ok (.iload 4, 2) := by decide +kernel
theorem dX7_stopped_103 : decode cX7_stopped 103 = .ok (.ifCond .ne 8, 3) := by decide +kernel
theorem dX7_stopped_106 : decode cX7_stopped 106 = .ok (.iload 7, 2) := by decide +kernel
theorem dX7_stopped_108 : decode cX7_stopped 108 = .ok (.goto 5, 3) := by decide +kernel
theorem dX7_stopped_111 : decode cX7_stopped 111 = .ok (.iload 5, 2) := by decide +kernel
theorem dX7_stopped_113 : decode cX7_stopped 113 = .ok (.istore 5, 2) := by decide +kernel
theorem dX7_stopped_115 : decode cX7_stopped 115 = .ok (.iload 7, 2) := by decide +kernel
theorem dX7_stopped_117 : decode cX7_stopped 117 = .ok (.istore 6, 2) := by decide +kernel
theorem dX7_stopped_119 : decode cX7_stopped 119 = .ok (.iinc 4 1, 3) := by decide +kernel
theorem dX7_stopped_122 : decode cX7_stopped 122 = .ok (.iinc 7 1, 3) := by decide +kernel
theorem dX7_stopped_125 : decode cX7_stopped 125 = .ok (.goto (-53), 3) := by decide +kernel
theorem dX7_stopped_128 : decode cX7_stopped 128 = .ok (.iload_n 3, 1) := by decide +kernel
theorem dX7_stopped_129 : decode cX7_stopped 129 = .ok (.ifCond .ne 8, 3) := by decide +kernel
theorem dX7_stopped_132 : decode cX7_stopped 132 = .ok (.iload 4, 2) := by decide +kernel
theorem dX7_stopped_134 : decode cX7_stopped 134 = .ok (.goto 15, 3) := by decide +kernel
theorem dX7_stopped_137 : decode cX7_stopped 137 = .ok (.iload_n 3, 1) := by decide +kernel
theorem dX7_stopped_138 : decode cX7_stopped 138 = .ok (.iconst 1, 1) := by decide +kernel
theorem dX7_stopped_139 : decode cX7_stopped 139 = .ok (.if_icmp .ne 8, 3) := by decide +kernel
theorem dX7_stopped_142 : decode cX7_stopped 142 = .ok (.iload 5, 2) := by decide +kernel
theorem dX7_stopped_144 : decode cX7_stopped 144 = .ok (.goto 5, 3) := by decide +kernel
theorem dX7_stopped_147 : decode cX7_stopped 147 = .ok (.iload 6, 2) := by decide +kernel
theorem dX7_stopped_149 : decode cX7_stopped 149 = .ok (.ireturn, 1) := by decide +kernel
set_option maxRecDepth 20000 in
theorem ggX7_setBy_X7_isClock : GoodIn wsX7_setBy wsX7_isClock := goodIn_r _ [9, 10, 11, 12, 8, 13, 14, 15, 16, 37, 38, 39, 40, 41, 42, 43, 44, 45, 46, 47, 48, 49, 50, 51, 52, 53, 54, 55, 56, 57, 58, 59, 60, 61, 62] (by decide +kernel) (by decide +kernel)
set_option maxRecDepth 20000 in
theorem gX7_setBy_X7_isClock : GoodIn wsX7_setBy (wsV RX7 143 RX7 yX7_isClock wsX7_isClock) := goodIn_app (goodIn_of _ (by decide +kernel)) ggX7_setBy_X7_isClock
set_option maxRecDepth 20000 in
theorem ggX7_setBy_X7_isMinute : GoodIn wsX7_setBy wsX7_isMinute := goodIn_r _ [19, 11, 12, 8, 13] (by decide +kernel) (by decide +kernel)
set_option maxRecDepth 20000 in
theorem gX7_setBy_X7_isMinute : GoodIn wsX7_setBy (va_wsS RX7 150 yX7_isMinute wsX7_isMinute) := goodIn_app (goodIn_of _ (by decide +kernel)) ggX7_setBy_X7_isMinute
set_option maxRecDepth 20000 in
theorem ggX7_setBy_X7_in : GoodIn wsX7_setBy wsX7_in := goodIn_r _ [13] (by decide +kernel) (by decide +kernel)
set_option maxRecDepth 20000 in
theorem gX7_setBy_X7_in : GoodIn wsX7_setBy (va_wsS RX7 41 yX7_in wsX7_in) := goodIn_app (goodIn_of _ (by decide +kernel)) ggX7_setBy_X7_in
set_option maxRecDepth 20000 in
theorem ggX7_setBy_X7_has : GoodIn wsX7_setBy wsX7_has := goodIn_r _ [16] (by decide +kernel) (by decide +kernel)
set_option maxRecDepth 20000 in
theorem gX7_setBy_X7_has : GoodIn wsX7_setBy (va_wsS RX7 49 yX7_has wsX7_has) := goodIn_app (goodIn_of _ (by decide +kernel)) ggX7_setBy_X7_has
set_option maxRecDepth 20000 in
theorem ggX7_setBy_X7_isExact : GoodIn wsX7_setBy wsX7_isExact := goodIn_r _ [23, 1, 5, 6, 7, 8, 9, 10, 11, 12, 13, 14, 15, 16, 37, 38, 39, 40, 41, 42, 43, 44, 45, 46, 47, 48, 49, 50, 51, 52, 53, 54, 55, 56, 57, 58, 59, 60, 61, 62] (by decide +kernel) (by decide +kernel)
set_option maxRecDepth 20000 in
theorem gX7_setBy_X7_isExact : GoodIn wsX7_setBy (wsV RX7 176 RX7 yX7_isExact wsX7_isExact) := goodIn_app (goodIn_of _ (by decide +kernel)) ggX7_setBy_X7_isExact
set_option maxRecDepth 20000 in
theorem ggX7_setBy_X7_hand : GoodIn wsX7_setBy wsX7_hand := goodIn_r _ [27, 1, 37, 38, 39, 40, 41, 42, 43, 44, 45, 46, 47, 48, 49, 50, 51, 52, 53, 54, 55, 56, 57, 58, 59, 60, 61, 62] (by decide +kernel) (by decide +kernel)
set_option maxRecDepth 20000 in
theorem gX7_setBy_X7_hand : GoodIn wsX7_setBy (wsV RX7 153 RX7 yX7_hand wsX7_hand) := goodIn_app (goodIn_of _ (by decide +kernel)) ggX7_setBy_X7_hand
set_option maxRecDepth 20000 in
theorem ggX7_setBy_X7_rest : GoodIn wsX7_setBy wsX7_rest := goodIn_r _ [30] (by decide +kernel) (by decide +kernel)
set_option maxRecDepth 20000 in
theorem gX7_setBy_X7_rest : GoodIn wsX7_setBy (va_wsS RX7 146 yX7_rest wsX7_rest) := goodIn_app (goodIn_of _ (by decide +kernel)) ggX7_setBy_X7_rest
set_option maxRecDepth 20000 in
theorem ggX7_setBy_X7_isBetween : GoodIn wsX7_setBy wsX7_isBetween := goodIn_r _ [33, 34, 35, 8, 36, 28, 29, 30] (by decide +kernel) (by decide +kernel)
set_option maxRecDepth 20000 in
theorem gX7_setBy_X7_isBetween : GoodIn wsX7_setBy (va_wsS RX7 160 yX7_isBetween wsX7_isBetween) := goodIn_app (goodIn_of _ (by decide +kernel)) ggX7_setBy_X7_isBetween
theorem dX7_setBy_0 : decode cX7_setBy 0 = .ok (.aload_n 0, 1) := by decide +kernel
theorem dX7_setBy_1 : decode cX7_setBy 1 = .ok (.iload_n 1, 1) := by decide +kernel
theorem dX7_setBy_2 : decode cX7_setBy 2 = .ok (.invokevirtual 143, 3) := by decide +kernel
theorem dX7_setBy_5 : decode cX7_setBy 5 = .ok (.ifCond .eq 11, 3) := by decide +kernel
theorem dX7_setBy_8 : decode cX7_setBy 8 = .ok (.aload_n 0, 1) := by decide +kernel
theorem dX7_setBy_9 : decode cX7_setBy 9 = .ok (.iload_n 2, 1) := by decide +kernel
theorem dX7_setBy_10 : decode cX7_setBy 10 = .ok (.invokevirtual 143, 3) := by decide +kernel
theorem dX7_setBy_13 : decode cX7_setBy 13 = .ok (.ifCond .ne 6, 3) := by decide +kernel
theorem dX7_setBy_16 : decode cX7_setBy 16 = .ok (.bipush (-2), 2) := by decide +kernel
theorem dX7_setBy_18 : decode cX7_setBy 18 = .ok (.ireturn, 1) := by decide +kernel
theorem dX7_setBy_19 : decode cX7_setBy 19 = .ok (.iload_n 1, 1) := by decide +kernel
theorem dX7_setBy_20 : decode cX7_setBy 20 = .ok (.iload_n 2, 1) := by decide +kernel
theorem dX7_setBy_21 : decode cX7_setBy 21 = .ok (.if_icmp .eq 20, 3) := by decide +kernel
theorem dX7_setBy_24 : decode cX7_setBy 24 = .ok (.iload_n 3, 1) := by decide +kernel
theorem dX7_setBy_25 : decode cX7_setBy 25 = .ok (.invokestatic 150, 3) := by decide +kernel
theorem dX7_setBy_28 : decode cX7_setBy 28 = .ok (.ifCond .eq 13, 3) := by decide +kernel
theorem dX7_setBy_31 : decode cX7_setBy 31 = .ok (.iload 4, 2) := by decide +kernel
theorem dX7_setBy_33 : decode cX7_setBy 33 = .ok (.iconst 0, 1) := by decide +kernel
theorem dX7_setBy_34 : decode cX7_setBy 34 = .ok (.iconst 1, 1) := by decide +kernel
theorem dX7_setBy_35 : decode cX7_setBy 35 = .ok (.invokestatic 41, 3) := by decide +kernel
theorem dX7_setBy_38 : decode cX7_setBy 38 = .ok (.ifCond .ne 6, 3) := by decide +kernel
theorem dX7_setBy_41 : decode cX7_setBy 41 = .ok (.bipush (-3), 2) := by decide +kernel
theorem dX7_setBy_43 : decode cX7_setBy 43 = .ok (.ireturn, 1) := by decide +kernel
theorem dX7_setBy_44 : decode cX7_setBy 44 = .ok (.aload_n 0, 1) := by decide +kernel
theorem dX7_setBy_45 : decode cX7_setBy 45 = .ok (.getfield 7, 3) := by decide +kernel
theorem dX7_setBy_48 : decode cX7_setBy 48 = .ok (.bipush 6, 2) := by decide +kernel
theorem dX7_setBy_50 : decode cX7_setBy 50 = .ok (.iload_n 1, 1) := by decide +kernel
theorem dX7_setBy_51 : decode cX7_setBy 51 = .ok (.imul, 1) := by decide +kernel
theorem dX7_setBy_52 : decode cX7_setBy 52 = .ok (.iaload, 1) := by decide +kernel
theorem dX7_setBy_53 : decode cX7_setBy 53 = .ok (.ifCond .ne 35, 3) := by decide +kernel
theorem dX7_setBy_56 : decode cX7_setBy 56 = .ok (.aload_n 0, 1) := by decide +kernel
theorem dX7_setBy_57 : decode cX7_setBy 57 = .ok (.getfield 136, 3) := by decide +kernel
theorem dX7_setBy_60 : decode cX7_setBy 60 = .ok (.iload_n 1, 1) := by decide +kernel
theorem dX7_setBy_61 : decode cX7_setBy 61 = .ok (.invokestatic 49, 3) := by decide +kernel
theorem dX7_setBy_64 : decode cX7_setBy 64 = .ok (.ifCond .eq 24, 3) := by decide +kernel
theorem dX7_setBy_67 : decode cX7_setBy 67 = .ok (.aload_n 0, 1) := by decide +kernel
theorem dX7_setBy_68 : decode cX7_setBy 68 = .ok (.getfield 7, 3) := by decide +kernel
theorem dX7_setBy_71 : decode cX7_setBy 71 = .ok (.bipush 6, 2) := by decide +kernel
theorem dX7_setBy_73 : decode cX7_setBy 73 = .ok (.iload_n 2, 1) := by decide +kernel
theorem dX7_setBy_74 : decode cX7_setBy 74 = .ok (.imul, 1) := by decide +kernel
theorem dX7_setBy_75 : decode cX7_setBy 75 = .ok (.iaload, 1) := by decide +kernel
theorem dX7_setBy_76 : decode cX7_setBy 76 = .ok (.iconst 2, 1) := by decide +kernel
theorem dX7_setBy_77 : decode cX7_setBy 77 = .ok (.if_icmp .eq 11, 3) := by decide +kernel
theorem dX7_setBy_80 : decode cX7_setBy 80 = .ok (.aload_n 0, 1) := by decide +kernel
theorem dX7_setBy_81 : decode cX7_setBy 81 = .ok (.iload_n 2, 1) := by decide +kernel
theorem dX7_setBy_82 : decode cX7_setBy 82 = .ok (.invokevirtual 176, 3) := by decide +kernel
theorem dX7_setBy_85 : decode cX7_setBy 85 = .ok (.ifCond .ne 6, 3) := by decide +kernel
theorem dX7_setBy_88 : decode cX7_setBy 88 = .ok (.bipush (-4), 2) := by decide +kernel
theorem dX7_setBy_90 : decode cX7_setBy 90 = .ok (.ireturn, 1) := by decide +kernel
theorem dX7_setBy_91 : decode cX7_setBy 91 = .ok (.iconst 0, 1) := by decide +kernel
theorem dX7_setBy_92 : decode cX7_setBy 92 = .ok (.istore 5, 2) := by decide +kernel
theorem dX7_setBy_94 : decode cX7_setBy 94 = .ok (.iconst (-1), 1) := by decide +kernel
theorem dX7_setBy_95 : decode cX7_setBy 95 = .ok (.istore 6, 2) := by decide +kernel
theorem dX7_setBy_97 : decode cX7_setBy 97 = .ok (.iconst 0, 1) := by decide +kernel
theorem dX7_setBy_98 : decode cX7_setBy 98 = .ok (.istore 7, 2) := by decide +kernel
theorem dX7_setBy_100 : decode cX7_setBy 100 = .ok (.iload 7, 2) := by decide +kernel
theorem dX7_setBy_102 : decode cX7_setBy 102 = .ok (.iload_n 3, 1) := by decide +kernel
theorem dX7_setBy_103 : decode cX7_setBy 103 = .ok (.if_icmp .gt 122, 3) := by decide +kernel
theorem dX7_setBy_106 : decode cX7_setBy 106 = .ok (.aload_n 0, 1) := by decide +kernel
theorem dX7_setBy_107 : decode cX7_setBy 107 = .ok (.iload_n 2, 1) := by decide +kernel
theorem dX7_setBy_108 : decode cX7_setBy 108 = .ok (.iload 7, 2) := by decide +kernel
theorem dX7_setBy_110 : decode cX7_setBy 110 = .ok (.aload_n 0, 1) := by decide +kernel
theorem dX7_setBy_111 : decode cX7_setBy 111 = .ok (.getfield 7, 3) := by decide +kernel
theorem dX7_setBy_114 : decode cX7_setBy 114 = .ok (.bipush 6, 2) := by decide +kernel
theorem dX7_setBy_116 : decode cX7_setBy 116 = .ok (.iload_n 2, 1) := by decide +kernel
theorem dX7_setBy_117 : decode cX7_setBy 117 = .ok (.imul, 1) := by decide +kernel
theorem dX7_setBy_118 : decode cX7_setBy 118 = .ok (.iconst 3, 1) := by decide +kernel
theorem dX7_setBy_119 : decode cX7_setBy 119 = .ok (.iadd, 1) := by decide +kernel
theorem dX7_setBy_120 : decode cX7_setBy 120 = .ok (.iaload, 1) := by decide +kernel
theorem dX7_setBy_121 : decode cX7_setBy 121 = .ok (.invokevirtual 153, 3) := by decide +kernel
theorem dX7_setBy_124 : decode cX7_setBy 124 = .ok (.ldc 182, 2) := by decide +kernel
theorem dX7_setBy_126 : decode cX7_setBy 126 = .ok (.invokestatic 146, 3) := by decide +kernel
theorem dX7_setBy_129 : decode cX7_setBy 129 = .ok (.istore 8, 2) := by decide +kernel
theorem dX7_setBy_131 : decode cX7_setBy 131 = .ok (.iload 8, 2) := by decide +kernel
theorem dX7_setBy_133 : decode cX7_setBy 133 = .ok (.ldc 205, 2) := by decide +kernel
theorem dX7_setBy_135 : decode cX7_setBy 135 = .ok (.irem, 1) := by decide +kernel
theorem dX7_setBy_136 : decode cX7_setBy 136 = .ok (.ifCond .ne 83, 3) := by decide +kernel
theorem dX7_setBy_139 : decode cX7_setBy 139 = .ok (.iload 8, 2) := by decide +kernel
theorem dX7_setBy_141 : decode cX7_setBy 141 = .ok (.iload_n 3, 1) := by decide +kernel
theorem dX7_setBy_142 : decode cX7_setBy 142 = .ok (.iload 7, 2) := by decide +kernel
theorem dX7_setBy_144 : decode cX7_setBy 144 = .ok (.isub, 1) := by decide +kernel
theorem dX7_setBy_145 : decode cX7_setBy 145 = .ok (.sipush 1440, 3) := by decide +kernel
theorem dX7_setBy_148 : decode cX7_setBy 148 = .ok (.aload_n 0, 1) := by decide +kernel
theorem dX7_setBy_149 : decode cX7_setBy 149 = .ok (.getfield 7, 3) := by decide +kernel
theorem dX7_setBy_152 : decode cX7_setBy 152 = .ok (.bipush 6, 2) := by decide +kernel
theorem dX7_setBy_154 : decode cX7_setBy 154 = .ok (.iload_n 1, 1) := by decide +kernel
theorem dX7_setBy_155 : decode cX7_setBy 155 = .ok (.imul, 1) := by decide +kernel
theorem dX7_setBy_156 : decode cX7_setBy 156 = .ok (.iconst 3, 1) := by decide +kernel
theorem dX7_setBy_157 : decode cX7_setBy 157 = .ok (.iadd, 1) := by decide +kernel
theorem dX7_setBy_158 : decode cX7_setBy 158 = .ok (.iaload, 1) := by decide +kernel
theorem dX7_setBy_159 : decode cX7_setBy 159 = .ok (.iadd, 1) := by decide +kernel
theorem dX7_setBy_160 : decode cX7_setBy 160 = .ok (.imul, 1) := by decide +kernel
theorem dX7_setBy_161 : decode cX7_setBy 161 = .ok (.iadd, 1) := by decide +kernel
theorem dX7_setBy_162 : decode cX7_setBy 162 = .ok (.iload 8, 2) := by decide +kernel
theorem dX7_setBy_164 : decode cX7_setBy 164 = .ok (.iload_n 3, 1) := by decide +kernel
theorem dX7_setBy_165 : decode cX7_setBy 165 = .ok (.iload 7, 2) := by decide +kernel
theorem dX7_setBy_167 : decode cX7_setBy 167 = .ok (.isub, 1) := by decide +kernel
theorem dX7_setBy_168 : decode cX7_setBy 168 = .ok (.sipush 1440, 3) := by decide +kernel
theorem dX7_setBy_171 : decode cX7_setBy 171 = .ok (.aload_n 0, 1) := by decide +kernel
theorem dX7_setBy_172 : decode cX7_setBy 172 = .ok (.getfield 7, 3) := by decide +kernel
theorem dX7_setBy_175 : decode cX7_setBy 175 = .ok (.bipush 6, 2) := by decide +kernel
theorem dX7_setBy_177 : decode cX7_setBy 177 = .ok (.iload_n 1, 1) := by decide +kernel
theorem dX7_setBy_178 : decode cX7_setBy 178 = .ok (.imul, 1) := by decide +kernel
theorem dX7_setBy_179 : decode cX7_setBy 179 = .ok (.iconst 4, 1) := by decide +kernel
theorem dX7_setBy_180 : decode cX7_setBy 180 = .ok (.iadd, 1) := by decide +kernel
theorem dX7_setBy_181 : decode cX7_setBy 181 = .ok (.iaload, 1) := by decide +kernel
theorem dX7_setBy_182 : decode cX7_setBy 182 = .ok (.iadd, 1) := by decide +kernel
theorem dX7_setBy_183 : decode cX7_setBy 183 = .ok (.imul, 1) := by decide +kernel
theorem dX7_setBy_184 : decode cX7_setBy 184 = .ok (.iadd, 1) := by decide +kernel
theorem dX7_setBy_185 : decode cX7_setBy 185 = .ok (.aload_n 0, 1) := by decide +kernel
theorem dX7_setBy_186 : decode cX7_setBy 186 = .ok (.getfield 7, 3) := by decide +kernel
theorem dX7_setBy_189 : decode cX7_setBy 189 = .ok (.bipush 6, 2) := by decide +kernel
theorem dX7_setBy_191 : decode cX7_setBy 191 = .ok (.iload_n 1, 1) := by decide +kernel
theorem dX7_setBy_192 : decode cX7_setBy 192 = .ok (.imul, 1) := by decide +kernel
theorem dX7_setBy_193 : decode cX7_setBy 193 = .ok (.iconst 5, 1) := by decide +kernel
theorem dX7_setBy_194 : decode cX7_setBy 194 = .ok (.iadd, 1) := by decide +kernel
theorem dX7_setBy_195 : decode cX7_setBy 195 = .ok (.iaload, 1) := by decide +kernel
theorem dX7_setBy_196 : decode cX7_setBy 196 = .ok (.invokestatic 160, 3) := by decide +kernel
theorem dX7_setBy_199 : decode cX7_setBy 199 = .ok (.ifCond .eq 20, 3) := by decide +kernel
theorem dX7_setBy_202 : decode cX7_setBy 202 = .ok (.iload 5, 2) := by decide +kernel
theorem dX7_setBy_204 : decode cX7_setBy 204 = .ok (.ifCond .ne 8, 3) := by decide +kernel
theorem dX7_setBy_207 : decode cX7_setBy 207 = .ok (.iload 7, 2) := by decide +kernel
theorem dX7_setBy_209 : decode cX7_setBy 209 = .ok (.goto 5, 3) := by decide +kernel
theorem dX7_setBy_212 : decode cX7_setBy 212 = .ok (.iload 6, 2) := by decide +kernel
theorem dX7_setBy_214 : decode cX7_setBy 214 = .ok (.istore 6, 2) := by decide +kernel
theorem dX7_setBy_216 : decode cX7_setBy 216 = .ok (.iinc 5 1, 3) := by decide +kernel
theorem dX7_setBy_219 : decode cX7_setBy 219 = .ok (.iinc 7 1, 3) := by decide +kernel
theorem dX7_setBy_222 : decode cX7_setBy 222 = .ok (.goto (-122), 3) := by decide +kernel
theorem dX7_setBy_225 : decode cX7_setBy 225 = .ok (.iload 4, 2) := by decide +kernel
theorem dX7_setBy_227 : decode cX7_setBy 227 = .ok (.ifCond .ne 8, 3) := by decide +kernel
theorem dX7_setBy_230 : decode cX7_setBy 230 = .ok (.iload 5, 2) := by decide +kernel
theorem dX7_setBy_232 : decode cX7_setBy 232 = .ok (.goto 5, 3) := by decide +kernel
theorem dX7_setBy_235 : decode cX7_setBy 235 = .ok (.iload 6, 2) := by decide +kernel
theorem dX7_setBy_237 : decode cX7_setBy 237 = .ok (.ireturn, 1) := by decide +kernel
set_option maxRecDepth 20000 in
theorem ggX7_toWhole_X7_hand : GoodIn wsX7_toWhole wsX7_hand := goodIn_r _ [6, 1, 10, 11, 12, 13, 14, 15, 16, 17, 18, 19, 20, 21, 22, 23, 24, 25, 26, 27, 28, 29, 30, 31, 32, 33, 34, 35] (by decide +kernel) (by decide +kernel)
set_option maxRecDepth 20000 in
theorem gX7_toWhole_X7_hand : GoodIn wsX7_toWhole (wsV RX7 153 RX7 yX7_hand wsX7_hand) := goodIn_app (goodIn_of _ (by decide +kernel)) ggX7_toWhole_X7_hand
set_option maxRecDepth 20000 in
theorem ggX7_toWhole_X7_rest : GoodIn wsX7_toWhole wsX7_rest := goodIn_r _ [9] (by decide +kernel) (by decide +kernel)
set_option maxRecDepth 20000 in
theorem gX7_toWhole_X7_rest : GoodIn wsX7_toWhole (va_wsS RX7 146 yX7_rest wsX7_rest) := goodIn_app (goodIn_of _ (by decide +kernel)) ggX7_toWhole_X7_rest
theorem dX7_toWhole_0 : decode cX7_toWhole 0 = .ok (.aload_n 0, 1) := by decide +kernel
theorem dX7_toWhole_1 : decode cX7_toWhole 1 = .ok (.iload_n 1, 1) := by decide +kernel
theorem dX7_toWhole_2 : decode cX7_toWhole 2 = .ok (.iload_n 2, 1) := by decide +kernel
theorem dX7_toWhole_3 : decode cX7_toWhole 3 = .ok (.aload_n 0, 1) := by decide +kernel
theorem dX7_toWhole_4 : decode cX7_toWhole 4 = .ok (.getfield 7, 3) := by decide +kernel
theorem dX7_toWhole_7 : decode cX7_toWhole 7 = .ok (.bipush 6, 2) := by decide +kernel
theorem dX7_toWhole_9 : decode cX7_toWhole 9 = .ok (.iload_n 1, 1) := by decide +kernel
theorem dX7_toWhole_10 : decode cX7_toWhole 10 = .ok (.imul, 1) := by decide +kernel
theorem dX7_toWhole_11 : decode cX7_toWhole 11 = .ok (.iconst 3, 1) := by decide +kernel
theorem dX7_toWhole_12 : decode cX7_toWhole 12 = .ok (.iadd, 1) := by decide +kernel
theorem dX7_toWhole_13 : decode cX7_toWhole 13 = .ok (.iaload, 1) := by decide +kernel
theorem dX7_toWhole_14 : decode cX7_toWhole 14 = .ok (.invokevirtual 153, 3) := by decide +kernel
theorem dX7_toWhole_17 : decode cX7_toWhole 17 = .ok (.istore_n 3, 1) := by decide +kernel
theorem dX7_toWhole_18 : decode cX7_toWhole 18 = .ok (.aload_n 0, 1) := by decide +kernel
theorem dX7_toWhole_19 : decode cX7_toWhole 19 = .ok (.getfield 7, 3) := by decide +kernel
theorem dX7_toWhole_22 : decode cX7_toWhole 22 = .ok (.bipush 6, 2) := by decide +kernel
theorem dX7_toWhole_24 : decode cX7_toWhole 24 = .ok (.iload_n 1, 1) := by decide +kernel
theorem dX7_toWhole_25 : decode cX7_toWhole 25 = .ok (.imul, 1) := by decide +kernel
theorem dX7_toWhole_26 : decode cX7_toWhole 26 = .ok (.iaload, 1) := by decide +kernel
theorem dX7_toWhole_27 : decode cX7_toWhole 27 = .ok (.iconst 1, 1) := by decide +kernel
theorem dX7_toWhole_28 : decode cX7_toWhole 28 = .ok (.if_icmp .ne 7, 3) := by decide +kernel
theorem dX7_toWhole_31 : decode cX7_toWhole 31 = .ok (.iload_n 3, 1) := by decide +kernel
theorem dX7_toWhole_32 : decode cX7_toWhole 32 = .ok (.goto 5, 3) := by decide +kernel
theorem dX7_toWhole_35 : decode cX7_toWhole 35 = .ok (.iload_n 3, 1) := by decide +kernel
theorem dX7_toWhole_36 : decode cX7_toWhole 36 = .ok (.ineg, 1) := by decide +kernel
theorem dX7_toWhole_37 : decode cX7_toWhole 37 = .ok (.sipush 1440, 3) := by decide +kernel
theorem dX7_toWhole_40 : decode cX7_toWhole 40 = .ok (.invokestatic 146, 3) := by decide +kernel
theorem dX7_toWhole_43 : decode cX7_toWhole 43 = .ok (.ireturn, 1) := by decide +kernel
set_option maxRecDepth 20000 in
theorem ggX7_egg_X7_isClock : GoodIn wsX7_egg wsX7_isClock := goodIn_r _ [11, 12, 13, 14, 10, 15, 16, 17, 18, 37, 38, 39, 40, 41, 42, 43, 44, 45, 46, 47, 48, 49, 50, 51, 52, 53, 54, 55, 56, 57, 58, 59, 60, 61, 62] (by decide +kernel) (by decide +kernel)
set_option maxRecDepth 20000 in
theorem gX7_egg_X7_isClock : GoodIn wsX7_egg (wsV RX7 143 RX7 yX7_isClock wsX7_isClock) := goodIn_app (goodIn_of _ (by decide +kernel)) ggX7_egg_X7_isClock
set_option maxRecDepth 20000 in
theorem ggX7_egg_X7_isMinute : GoodIn wsX7_egg wsX7_isMinute := goodIn_r _ [21, 13, 14, 10, 15] (by decide +kernel) (by decide +kernel)
set_option maxRecDepth 20000 in
theorem gX7_egg_X7_isMinute : GoodIn wsX7_egg (va_wsS RX7 150 yX7_isMinute wsX7_isMinute) := goodIn_app (goodIn_of _ (by decide +kernel)) ggX7_egg_X7_isMinute
set_option maxRecDepth 20000 in
theorem ggX7_egg_X7_in : GoodIn wsX7_egg wsX7_in := goodIn_r _ [15] (by decide +kernel) (by decide +kernel)
set_option maxRecDepth 20000 in
theorem gX7_egg_X7_in : GoodIn wsX7_egg (va_wsS RX7 41 yX7_in wsX7_in) := goodIn_app (goodIn_of _ (by decide +kernel)) ggX7_egg_X7_in
set_option maxRecDepth 20000 in
theorem ggX7_egg_X7_isExact : GoodIn wsX7_egg wsX7_isExact := goodIn_r _ [25, 3, 7, 8, 9, 10, 11, 12, 13, 14, 15, 16, 17, 18, 37, 38, 39, 40, 41, 42, 43, 44, 45, 46, 47, 48, 49, 50, 51, 52, 53, 54, 55, 56, 57, 58, 59, 60, 61, 62] (by decide +kernel) (by decide +kernel)
set_option maxRecDepth 20000 in
theorem gX7_egg_X7_isExact : GoodIn wsX7_egg (wsV RX7 176 RX7 yX7_isExact wsX7_isExact) := goodIn_app (goodIn_of _ (by decide +kernel)) ggX7_egg_X7_isExact
set_option maxRecDepth 20000 in
theorem ggX7_egg_X7_toWhole : GoodIn wsX7_egg wsX7_toWhole := goodIn_r _ [29, 3, 30, 31, 32, 10, 33, 34, 35, 36, 37, 38, 39, 40, 41, 42, 43, 44, 45, 46, 47, 48, 49, 50, 51, 52, 53, 54, 55, 56, 57, 58, 59, 60, 61, 62] (by decide +kernel) (by decide +kernel)
set_option maxRecDepth 20000 in
theorem gX7_egg_X7_toWhole : GoodIn wsX7_egg (wsV RX7 206 RX7 yX7_toWhole wsX7_toWhole) := goodIn_app (goodIn_of _ (by decide +kernel)) ggX7_egg_X7_toWhole
theorem dX7_egg_0 : decode cX7_egg 0 = .ok (.aload_n 0, 1) := by decide +kernel
theorem dX7_egg_1 : decode cX7_egg 1 = .ok (.iload_n 1, 1) := by decide +kernel
theorem dX7_egg_2 : decode cX7_egg 2 = .ok (.invokevirtual 143, 3) := by decide +kernel
theorem dX7_egg_5 : decode cX7_egg 5 = .ok (.ifCond .eq 11, 3) := by decide +kernel
theorem dX7_egg_8 : decode cX7_egg 8 = .ok (.aload_n 0, 1) := by decide +kernel
theorem dX7_egg_9 : decode cX7_egg 9 = .ok (.iload_n 2, 1) := by decide +kernel
theorem dX7_egg_10 : decode cX7_egg 10 = .ok (.invokevirtual 143, 3) := by decide +kernel
theorem dX7_egg_13 : decode cX7_egg 13 = .ok (.ifCond .ne 7, 3) := by decide +kernel
theorem dX7_egg_16 : decode cX7_egg 16 = .ok (.ldc2_w 70, 3) := by decide +kernel
theorem dX7_egg_19 : decode cX7_egg 19 = .ok (.lreturn, 1) := by decide +kernel
theorem dX7_egg_20 : decode cX7_egg 20 = .ok (.iload_n 3, 1) := by decide +kernel
theorem dX7_egg_21 : decode cX7_egg 21 = .ok (.invokestatic 150, 3) := by decide +kernel
theorem dX7_egg_24 : decode cX7_egg 24 = .ok (.ifCond .eq 24, 3) := by decide +kernel
theorem dX7_egg_27 : decode cX7_egg 27 = .ok (.iload 4, 2) := by decide +kernel
theorem dX7_egg_29 : decode cX7_egg 29 = .ok (.iconst 1, 1) := by decide +kernel
theorem dX7_egg_30 : decode cX7_egg 30 = .ok (.bipush 60, 2) := by decide +kernel
theorem dX7_egg_32 : decode cX7_egg 32 = .ok (.invokestatic 41, 3) := by decide +kernel
theorem dX7_egg_35 : decode cX7_egg 35 = .ok (.ifCond .eq 13, 3) := by decide +kernel
theorem dX7_egg_38 : decode cX7_egg 38 = .ok (.iload 5, 2) := by decide +kernel
theorem dX7_egg_40 : decode cX7_egg 40 = .ok (.iconst 0, 1) := by decide +kernel
theorem dX7_egg_41 : decode cX7_egg 41 = .ok (.iconst 1, 1) := by decide +kernel
theorem dX7_egg_42 : decode cX7_egg 42 = .ok (.invokestatic 41, 3) := by decide +kernel
theorem dX7_egg_45 : decode cX7_egg 45 = .ok (.ifCond .ne 7, 3) := by decide +kernel
theorem dX7_egg_48 : decode cX7_egg 48 = .ok (.ldc2_w 84, 3) := by decide +kernel
theorem dX7_egg_51 : decode cX7_egg 51 = .ok (.lreturn, 1) := by decide +kernel
theorem dX7_egg_52 : decode cX7_egg 52 = .ok (.aload_n 0, 1) := by decide +kernel
theorem dX7_egg_53 : decode cX7_egg 53 = .ok (.getfield 7, 3) := by decide +kernel
theorem dX7_egg_56 : decode cX7_egg 56 = .ok (.bipush 6, 2) := by decide +kernel
theorem dX7_egg_58 : decode cX7_egg 58 = .ok (.iload_n 1, 1) := by decide +kernel
theorem dX7_egg_59 : decode cX7_egg 59 = .ok (.imul, 1) := by decide +kernel
theorem dX7_egg_60 : decode cX7_egg 60 = .ok (.iaload, 1) := by decide +kernel
theorem dX7_egg_61 : decode cX7_egg 61 = .ok (.iconst 2, 1) := by decide +kernel
theorem dX7_egg_62 : decode cX7_egg 62 = .ok (.if_icmp .eq 32, 3) := by decide +kernel
theorem dX7_egg_65 : decode cX7_egg 65 = .ok (.aload_n 0, 1) := by decide +kernel
theorem dX7_egg_66 : decode cX7_egg 66 = .ok (.getfield 7, 3) := by decide +kernel
theorem dX7_egg_69 : decode cX7_egg 69 = .ok (.bipush 6, 2) := by decide +kernel
theorem dX7_egg_71 : decode cX7_egg 71 = .ok (.iload_n 2, 1) := by decide +kernel
theorem dX7_egg_72 : decode cX7_egg 72 = .ok (.imul, 1) := by decide +kernel
theorem dX7_egg_73 : decode cX7_egg 73 = .ok (.iaload, 1) := by decide +kernel
theorem dX7_egg_74 : decode cX7_egg 74 = .ok (.iconst 2, 1) := by decide +kernel
theorem dX7_egg_75 : decode cX7_egg 75 = .ok (.if_icmp .eq 19, 3) := by decide +kernel
theorem dX7_egg_78 : decode cX7_egg 78 = .ok (.aload_n 0, 1) := by decide +kernel
theorem dX7_egg_79 : decode cX7_egg 79 = .ok (.iload_n 1, 1) := by decide +kernel
theorem dX7_egg_80 : decode cX7_egg 80 = .ok (.invokevirtual 176, 3) := by decide +kernel
theorem dX7_egg_83 : decode cX7_egg 83 = .ok (.ifCond .eq 11, 3) := by decide +kernel
theorem dX7_egg_86 : decode cX7_egg 86 = .ok (.aload_n 0, 1) := by decide +kernel
theorem dX7_egg_87 : decode cX7_egg 87 = .ok (.iload_n 2, 1) := by decide +kernel
theorem dX7_egg_88 : decode cX7_egg 88 = .ok (.invokevirtual 176, 3) := by decide +kernel
theorem dX7_egg_91 : decode cX7_egg 91 = .ok (.ifCond .ne 7, 3) := by decide +kernel
theorem dX7_egg_94 : decode cX7_egg 94 = .ok (.ldc2_w 80, 3) := by decide +kernel
theorem dX7_egg_97 : decode cX7_egg 97 = .ok (.lreturn, 1) := by decide +kernel
theorem dX7_egg_98 : decode cX7_egg 98 = .ok (.sipush 1440, 3) := by decide +kernel
theorem dX7_egg_101 : decode cX7_egg 101 = .ok (.aload_n 0, 1) := by decide +kernel
theorem dX7_egg_102 : decode cX7_egg 102 = .ok (.getfield 7, 3) := by decide +kernel
theorem dX7_egg_105 : decode cX7_egg 105 = .ok (.bipush 6, 2) := by decide +kernel
theorem dX7_egg_107 : decode cX7_egg 107 = .ok (.iload_n 1, 1) := by decide +kernel
theorem dX7_egg_108 : decode cX7_egg 108 = .ok (.imul, 1) := by decide +kernel
theorem dX7_egg_109 : decode cX7_egg 109 = .ok (.iconst 3, 1) := by decide +kernel
theorem dX7_egg_110 : decode cX7_egg 110 = .ok (.iadd, 1) := by decide +kernel
theorem dX7_egg_111 : decode cX7_egg 111 = .ok (.iaload, 1) := by decide +kernel
theorem dX7_egg_112 : decode cX7_egg 112 = .ok (.iadd, 1) := by decide +kernel
theorem dX7_egg_113 : decode cX7_egg 113 = .ok (.i2l, 1) := by decide +kernel
theorem dX7_egg_114 : decode cX7_egg 114 = .ok (.lstore 6, 2) := by decide +kernel
theorem dX7_egg_116 : decode cX7_egg 116 = .ok (.sipush 1440, 3) := by decide +kernel
theorem dX7_egg_119 : decode cX7_egg 119 = .ok (.aload_n 0, 1) := by decide +kernel
theorem dX7_egg_120 : decode cX7_egg 120 = .ok (.getfield 7, 3) := by decide +kernel
theorem dX7_egg_123 : decode cX7_egg 123 = .ok (.bipush 6, 2) := by decide +kernel
theorem dX7_egg_125 : decode cX7_egg 125 = .ok (.iload_n 2, 1) := by decide +kernel
theorem dX7_egg_126 : decode cX7_egg 126 = .ok (.imul, 1) := by decide +kernel
theorem dX7_egg_127 : decode cX7_egg 127 = .ok (.iconst 3, 1) := by decide +kernel
theorem dX7_egg_128 : decode cX7_egg 128 = .ok (.iadd, 1) := by decide +kernel
theorem dX7_egg_129 : decode cX7_egg 129 = .ok (.iaload, 1) := by decide +kernel
theorem dX7_egg_130 : decode cX7_egg 130 = .ok (.iadd, 1) := by decide +kernel
theorem dX7_egg_131 : decode cX7_egg 131 = .ok (.i2l, 1) := by decide +kernel
theorem dX7_egg_132 : decode cX7_egg 132 = .ok (.lstore 8, 2) := by decide +kernel
theorem dX7_egg_134 : decode cX7_egg 134 = .ok (.ldc2_w 82, 3) := by decide +kernel
theorem dX7_egg_137 : decode cX7_egg 137 = .ok (.lstore 10, 2) := by decide +kernel
theorem dX7_egg_139 : decode cX7_egg 139 = .ok (.iconst 0, 1) := by decide +kernel
theorem dX7_egg_140 : decode cX7_egg 140 = .ok (.istore 12, 2) := by decide +kernel
theorem dX7_egg_142 : decode cX7_egg 142 = .ok (.iload 12, 2) := by decide +kernel
theorem dX7_egg_144 : decode cX7_egg 144 = .ok (.bipush 60, 2) := by decide +kernel
theorem dX7_egg_146 : decode cX7_egg 146 = .ok (.if_icmp .ge 132, 3) := by decide +kernel
theorem dX7_egg_149 : decode cX7_egg 149 = .ok (.aload_n 0, 1) := by decide +kernel
theorem dX7_egg_150 : decode cX7_egg 150 = .ok (.iload_n 1, 1) := by decide +kernel
theorem dX7_egg_151 : decode cX7_egg 151 = .ok (.iload_n 3, 1) := by decide +kernel
theorem dX7_egg_152 : decode cX7_egg 152 = .ok (.invokevirtual 206, 3) := by decide +kernel
theorem dX7_egg_155 : decode cX7_egg 155 = .ok (.i2l, 1) := by decide +kernel
theorem dX7_egg_156 : decode cX7_egg 156 = .ok (.ldc2_w 209, 3) := by decide +kernel
theorem dX7_egg_159 : decode cX7_egg 159 = .ok (.iload 12, 2) := by decide +kernel
theorem dX7_egg_161 : decode cX7_egg 161 = .ok (.i2l, 1) := by decide +kernel
theorem dX7_egg_162 : decode cX7_egg 162 = .ok (.lmul, 1) := by decide +kernel
theorem dX7_egg_163 : decode cX7_egg 163 = .ok (.ladd, 1) := by decide +kernel
theorem dX7_egg_164 : decode cX7_egg 164 = .ok (.lload 8, 2) := by decide +kernel
theorem dX7_egg_166 : decode cX7_egg 166 = .ok (.lmul, 1) := by decide +kernel
theorem dX7_egg_167 : decode cX7_egg 167 = .ok (.lstore 13, 2) := by decide +kernel
theorem dX7_egg_169 : decode cX7_egg 169 = .ok (.iconst 0, 1) := by decide +kernel
theorem dX7_egg_170 : decode cX7_egg 170 = .ok (.istore 15, 2) := by decide +kernel
theorem dX7_egg_172 : decode cX7_egg 172 = .ok (.iload 15, 2) := by decide +kernel
theorem dX7_egg_174 : decode cX7_egg 174 = .ok (.sipush 240, 3) := by decide +kernel
theorem dX7_egg_177 : decode cX7_egg 177 = .ok (.if_icmp .ge 95, 3) := by decide +kernel
theorem dX7_egg_180 : decode cX7_egg 180 = .ok (.aload_n 0, 1) := by decide +kernel
theorem dX7_egg_181 : decode cX7_egg 181 = .ok (.iload_n 2, 1) := by decide +kernel
theorem dX7_egg_182 : decode cX7_egg 182 = .ok (.iload_n 3, 1) := by decide +kernel
theorem dX7_egg_183 : decode cX7_egg 183 = .ok (.invokevirtual 206, 3) := by decide +kernel
theorem dX7_egg_186 : decode cX7_egg 186 = .ok (.i2l, 1) := by decide +kernel
theorem dX7_egg_187 : decode cX7_egg 187 = .ok (.ldc2_w 209, 3) := by decide +kernel
theorem dX7_egg_190 : decode cX7_egg 190 = .ok (.iload 15, 2) := by decide +kernel
theorem dX7_egg_192 : decode cX7_egg 192 = .ok (.i2l, 1) := by decide +kernel
theorem dX7_egg_193 : decode cX7_egg 193 = .ok (.lmul, 1) := by decide +kernel
theorem dX7_egg_194 : decode cX7_egg 194 = .ok (.ladd, 1) := by decide +kernel
theorem dX7_egg_195 : decode cX7_egg 195 = .ok (.lload 6, 2) := by decide +kernel
theorem dX7_egg_197 : decode cX7_egg 197 = .ok (.lmul, 1) := by decide +kernel
theorem dX7_egg_198 : decode cX7_egg 198 = .ok (.lstore 16, 2) := by decide +kernel
theorem dX7_egg_200 : decode cX7_egg 200 = .ok (.lload 16, 2) := by decide +kernel
theorem dX7_egg_202 : decode cX7_egg 202 = .ok (.lload 13, 2) := by decide +kernel
theorem dX7_egg_204 : decode cX7_egg 204 = .ok (.lsub, 1) := by decide +kernel
theorem dX7_egg_205 : decode cX7_egg 205 = .ok (.iload 4, 2) := by decide +kernel
theorem dX7_egg_207 : decode cX7_egg 207 = .ok (.i2l, 1) := by decide +kernel
theorem dX7_egg_208 : decode cX7_egg 208 = .ok (.lload 6, 2) := by decide +kernel
theorem dX7_egg_210 : decode cX7_egg 210 = .ok (.lmul, 1) := by decide +kernel
theorem dX7_egg_211 : decode cX7_egg 211 = .ok (.lload 8, 2) := by decide +kernel
theorem dX7_egg_213 : decode cX7_egg 213 = .ok (.lmul, 1) := by decide +kernel
theorem dX7_egg_214 : decode cX7_egg 214 = .ok (.lsub, 1) := by decide +kernel
theorem dX7_egg_215 : decode cX7_egg 215 = .ok (.lstore 18, 2) := by decide +kernel
theorem dX7_egg_217 : decode cX7_egg 217 = .ok (.lload 18, 2) := by decide +kernel
theorem dX7_egg_219 : decode cX7_egg 219 = .ok (.lconst 0, 1) := by decide +kernel
theorem dX7_egg_220 : decode cX7_egg 220 = .ok (.lcmp, 1) := by decide +kernel
theorem dX7_egg_221 : decode cX7_egg 221 = .ok (.ifCond .ge 9, 3) := by decide +kernel
theorem dX7_egg_224 : decode cX7_egg 224 = .ok (.lload 18, 2) := by decide +kernel
theorem dX7_egg_226 : decode cX7_egg 226 = .ok (.lneg, 1) := by decide +kernel
theorem dX7_egg_227 : decode cX7_egg 227 = .ok (.goto 5, 3) := by decide +kernel
theorem dX7_egg_230 : decode cX7_egg 230 = .ok (.lload 18, 2) := by decide +kernel
theorem dX7_egg_232 : decode cX7_egg 232 = .ok (.lstore 18, 2) := by decide +kernel
theorem dX7_egg_234 : decode cX7_egg 234 = .ok (.lload 16, 2) := by decide +kernel
theorem dX7_egg_236 : decode cX7_egg 236 = .ok (.lload 13, 2) := by decide +kernel
theorem dX7_egg_238 : decode cX7_egg 238 = .ok (.lcmp, 1) := by decide +kernel
theorem dX7_egg_239 : decode cX7_egg 239 = .ok (.ifCond .le 23, 3) := by decide +kernel
theorem dX7_egg_242 : decode cX7_egg 242 = .ok (.lload 10, 2) := by decide +kernel
theorem dX7_egg_244 : decode cX7_egg 244 = .ok (.lconst 0, 1) := by decide +kernel
theorem dX7_egg_245 : decode cX7_egg 245 = .ok (.lcmp, 1) := by decide +kernel
theorem dX7_egg_246 : decode cX7_egg 246 = .ok (.ifCond .lt 11, 3) := by decide +kernel
theorem dX7_egg_249 : decode cX7_egg 249 = .ok (.lload 18, 2) := by decide +kernel
theorem dX7_egg_251 : decode cX7_egg 251 = .ok (.lload 10, 2) := by decide +kernel
theorem dX7_egg_253 : decode cX7_egg 253 = .ok (.lcmp, 1) := by decide +kernel
theorem dX7_egg_254 : decode cX7_egg 254 = .ok (.ifCond .ge 8, 3) := by decide +kernel
theorem dX7_egg_257 : decode cX7_egg 257 = .ok (.lload 18, 2) := by decide +kernel
theorem dX7_egg_259 : decode cX7_egg 259 = .ok (.goto 5, 3) := by decide +kernel
theorem dX7_egg_262 : decode cX7_egg 262 = .ok (.lload 10, 2) := by decide +kernel
theorem dX7_egg_264 : decode cX7_egg 264 = .ok (.lstore 10, 2) := by decide +kernel
theorem dX7_egg_266 : decode cX7_egg 266 = .ok (.iinc 15 1, 3) := by decide +kernel
theorem dX7_egg_269 : decode cX7_egg 269 = .ok (.goto (-97), 3) := by decide +kernel
theorem dX7_egg_272 : decode cX7_egg 272 = .ok (.iinc 12 1, 3) := by decide +kernel
theorem dX7_egg_275 : decode cX7_egg 275 = .ok (.goto (-133), 3) := by decide +kernel
theorem dX7_egg_278 : decode cX7_egg 278 = .ok (.lload 10, 2) := by decide +kernel
theorem dX7_egg_280 : decode cX7_egg 280 = .ok (.lstore 12, 2) := by decide +kernel
theorem dX7_egg_282 : decode cX7_egg 282 = .ok (.lload 6, 2) := by decide +kernel
theorem dX7_egg_284 : decode cX7_egg 284 = .ok (.lload 8, 2) := by decide +kernel
theorem dX7_egg_286 : decode cX7_egg 286 = .ok (.lmul, 1) := by decide +kernel
theorem dX7_egg_287 : decode cX7_egg 287 = .ok (.lstore 14, 2) := by decide +kernel
theorem dX7_egg_289 : decode cX7_egg 289 = .ok (.lload 14, 2) := by decide +kernel
theorem dX7_egg_291 : decode cX7_egg 291 = .ok (.lconst 0, 1) := by decide +kernel
theorem dX7_egg_292 : decode cX7_egg 292 = .ok (.lcmp, 1) := by decide +kernel
theorem dX7_egg_293 : decode cX7_egg 293 = .ok (.ifCond .eq 21, 3) := by decide +kernel
theorem dX7_egg_296 : decode cX7_egg 296 = .ok (.lload 12, 2) := by decide +kernel
theorem dX7_egg_298 : decode cX7_egg 298 = .ok (.lload 14, 2) := by decide +kernel
theorem dX7_egg_300 : decode cX7_egg 300 = .ok (.lrem, 1) := by decide +kernel
theorem dX7_egg_301 : decode cX7_egg 301 = .ok (.lstore 16, 2) := by decide +kernel
theorem dX7_egg_303 : decode cX7_egg 303 = .ok (.lload 14, 2) := by decide +kernel
theorem dX7_egg_305 : decode cX7_egg 305 = .ok (.lstore 12, 2) := by decide +kernel
theorem dX7_egg_307 : decode cX7_egg 307 = .ok (.lload 16, 2) := by decide +kernel
theorem dX7_egg_309 : decode cX7_egg 309 = .ok (.lstore 14, 2) := by decide +kernel
theorem dX7_egg_311 : decode cX7_egg 311 = .ok (.goto (-22), 3) := by decide +kernel
theorem dX7_egg_314 : decode cX7_egg 314 = .ok (.iload 5, 2) := by decide +kernel
theorem dX7_egg_316 : decode cX7_egg 316 = .ok (.ifCond .ne 8, 3) := by decide +kernel
theorem dX7_egg_319 : decode cX7_egg 319 = .ok (.lload 10, 2) := by decide +kernel
theorem dX7_egg_321 : decode cX7_egg 321 = .ok (.goto 8, 3) := by decide +kernel
theorem dX7_egg_324 : decode cX7_egg 324 = .ok (.lload 6, 2) := by decide +kernel
theorem dX7_egg_326 : decode cX7_egg 326 = .ok (.lload 8, 2) := by decide +kernel
theorem dX7_egg_328 : decode cX7_egg 328 = .ok (.lmul, 1) := by decide +kernel
theorem dX7_egg_329 : decode cX7_egg 329 = .ok (.lload 12, 2) := by decide +kernel
theorem dX7_egg_331 : decode cX7_egg 331 = .ok (.ldiv, 1) := by decide +kernel
theorem dX7_egg_332 : decode cX7_egg 332 = .ok (.lreturn, 1) := by decide +kernel
theorem dX7_greatest_0 : decode cX7_greatest 0 = .ok (.iconst 0, 1) := by decide +kernel
theorem dX7_greatest_1 : decode cX7_greatest 1 = .ok (.istore_n 1, 1) := by decide +kernel
theorem dX7_greatest_2 : decode cX7_greatest 2 = .ok (.iconst 0, 1) := by decide +kernel
theorem dX7_greatest_3 : decode cX7_greatest 3 = .ok (.istore_n 2, 1) := by decide +kernel
theorem dX7_greatest_4 : decode cX7_greatest 4 = .ok (.iconst 0, 1) := by decide +kernel
theorem dX7_greatest_5 : decode cX7_greatest 5 = .ok (.istore_n 3, 1) := by decide +kernel
theorem dX7_greatest_6 : decode cX7_greatest 6 = .ok (.iload_n 3, 1) := by decide +kernel
theorem dX7_greatest_7 : decode cX7_greatest 7 = .ok (.aload_n 0, 1) := by decide +kernel
theorem dX7_greatest_8 : decode cX7_greatest 8 = .ok (.getfield 211, 3) := by decide +kernel
theorem dX7_greatest_11 : decode cX7_greatest 11 = .ok (.if_icmp .ge 53, 3) := by decide +kernel
theorem dX7_greatest_14 : decode cX7_greatest 14 = .ok (.iload_n 1, 1) := by decide +kernel
theorem dX7_greatest_15 : decode cX7_greatest 15 = .ok (.aload_n 0, 1) := by decide +kernel
theorem dX7_greatest_16 : decode cX7_greatest 16 = .ok (.getfield 7, 3) := by decide +kernel
theorem dX7_greatest_19 : decode cX7_greatest 19 = .ok (.bipush 6, 2) := by decide +kernel
theorem dX7_greatest_21 : decode cX7_greatest 21 = .ok (.aload_n 0, 1) := by decide +kernel
theorem dX7_greatest_22 : decode cX7_greatest 22 = .ok (.getfield 35, 3) := by decide +kernel
theorem dX7_greatest_25 : decode cX7_greatest 25 = .ok (.iload_n 3, 1) := by decide +kernel
theorem dX7_greatest_26 : decode cX7_greatest 26 = .ok (.iaload, 1) := by decide +kernel
theorem dX7_greatest_27 : decode cX7_greatest 27 = .ok (.imul, 1) := by decide +kernel
theorem dX7_greatest_28 : decode cX7_greatest 28 = .ok (.iconst 3, 1) := by decide +kernel
theorem dX7_greatest_29 : decode cX7_greatest 29 = .ok (.iadd, 1) := by decide +kernel
theorem dX7_greatest_30 : decode cX7_greatest 30 = .ok (.iaload, 1) := by decide +kernel
theorem dX7_greatest_31 : decode cX7_greatest 31 = .ok (.iadd, 1) := by decide +kernel
theorem dX7_greatest_32 : decode cX7_greatest 32 = .ok (.istore_n 1, 1) := by decide +kernel
theorem dX7_greatest_33 : decode cX7_greatest 33 = .ok (.iload_n 1, 1) := by decide +kernel
theorem dX7_greatest_34 : decode cX7_greatest 34 = .ok (.ifCond .ge 8, 3) := by decide +kernel
theorem dX7_greatest_37 : decode cX7_greatest 37 = .ok (.iload_n 1, 1) := by decide +kernel
theorem dX7_greatest_38 : decode cX7_greatest 38 = .ok (.ineg, 1) := by decide +kernel
theorem dX7_greatest_39 : decode cX7_greatest 39 = .ok (.goto 4, 3) := by decide +kernel
theorem dX7_greatest_42 : decode cX7_greatest 42 = .ok (.iload_n 1, 1) := by decide +kernel
theorem dX7_greatest_43 : decode cX7_greatest 43 = .ok (.istore 4, 2) := by decide +kernel
theorem dX7_greatest_45 : decode cX7_greatest 45 = .ok (.iload 4, 2) := by decide +kernel
theorem dX7_greatest_47 : decode cX7_greatest 47 = .ok (.iload_n 2, 1) := by decide +kernel
theorem dX7_greatest_48 : decode cX7_greatest 48 = .ok (.if_icmp .le 8, 3) := by decide +kernel
theorem dX7_greatest_51 : decode cX7_greatest 51 = .ok (.iload 4, 2) := by decide +kernel
theorem dX7_greatest_53 : decode cX7_greatest 53 = .ok (.goto 4, 3) := by decide +kernel
theorem dX7_greatest_56 : decode cX7_greatest 56 = .ok (.iload_n 2, 1) := by decide +kernel
theorem dX7_greatest_57 : decode cX7_greatest 57 = .ok (.istore_n 2, 1) := by decide +kernel
theorem dX7_greatest_58 : decode cX7_greatest 58 = .ok (.iinc 3 1, 3) := by decide +kernel
theorem dX7_greatest_61 : decode cX7_greatest 61 = .ok (.goto (-55), 3) := by decide +kernel
theorem dX7_greatest_64 : decode cX7_greatest 64 = .ok (.iload_n 2, 1) := by decide +kernel
theorem dX7_greatest_65 : decode cX7_greatest 65 = .ok (.ireturn, 1) := by decide +kernel
set_option maxRecDepth 20000 in
theorem ggX7_take_X7_greatest : GoodIn wsX7_take wsX7_greatest := goodIn_r _ [9, 2, 10, 4, 11, 12, 13, 14, 15, 16, 17, 18, 19, 20, 21, 22, 23, 24, 25, 26, 27, 28, 29, 30, 31, 32, 33, 34, 35, 36] (by decide +kernel) (by decide +kernel)
set_option maxRecDepth 20000 in
theorem gX7_take_X7_greatest : GoodIn wsX7_take (wsV RX7 214 RX7 yX7_greatest wsX7_greatest) := goodIn_app (goodIn_of _ (by decide +kernel)) ggX7_take_X7_greatest
theorem dX7_take_0 : decode cX7_take 0 = .ok (.aload_n 0, 1) := by decide +kernel
theorem dX7_take_1 : decode cX7_take 1 = .ok (.aload_n 0, 1) := by decide +kernel
theorem dX7_take_2 : decode cX7_take 2 = .ok (.invokevirtual 214, 3) := by decide +kernel
theorem dX7_take_5 : decode cX7_take 5 = .ok (.putfield 218, 3) := by decide +kernel
theorem dX7_take_8 : decode cX7_take 8 = .ok (.iconst 0, 1) := by decide +kernel
theorem dX7_take_9 : decode cX7_take 9 = .ok (.istore_n 1, 1) := by decide +kernel
theorem dX7_take_10 : decode cX7_take 10 = .ok (.iload_n 1, 1) := by decide +kernel
theorem dX7_take_11 : decode cX7_take 11 = .ok (.aload_n 0, 1) := by decide +kernel
theorem dX7_take_12 : decode cX7_take 12 = .ok (.getfield 211, 3) := by decide +kernel
theorem dX7_take_15 : decode cX7_take 15 = .ok (.if_icmp .ge 21, 3) := by decide +kernel
theorem dX7_take_18 : decode cX7_take 18 = .ok (.aload_n 0, 1) := by decide +kernel
theorem dX7_take_19 : decode cX7_take 19 = .ok (.getfield 38, 3) := by decide +kernel
theorem dX7_take_22 : decode cX7_take 22 = .ok (.iload_n 1, 1) := by decide +kernel
theorem dX7_take_23 : decode cX7_take 23 = .ok (.aload_n 0, 1) := by decide +kernel
theorem dX7_take_24 : decode cX7_take 24 = .ok (.getfield 35, 3) := by decide +kernel
theorem dX7_take_27 : decode cX7_take 27 = .ok (.iload_n 1, 1) := by decide +kernel
theorem dX7_take_28 : decode cX7_take 28 = .ok (.iaload, 1) := by decide +kernel
theorem dX7_take_29 : decode cX7_take 29 = .ok (.iastore, 1) := by decide +kernel
theorem dX7_take_30 : decode cX7_take 30 = .ok (.iinc 1 1, 3) := by decide +kernel
theorem dX7_take_33 : decode cX7_take 33 = .ok (.goto (-23), 3) := by decide +kernel
theorem dX7_take_36 : decode cX7_take 36 = .ok (.return_, 1) := by decide +kernel
theorem dX7_nextRow_0 : decode cX7_nextRow 0 = .ok (.aload_n 0, 1) := by decide +kernel
theorem dX7_nextRow_1 : decode cX7_nextRow 1 = .ok (.getfield 211, 3) := by decide +kernel
theorem dX7_nextRow_4 : decode cX7_nextRow 4 = .ok (.iconst 2, 1) := by decide +kernel
theorem dX7_nextRow_5 : decode cX7_nextRow 5 = .ok (.isub, 1) := by decide +kernel
theorem dX7_nextRow_6 : decode cX7_nextRow 6 = .ok (.istore_n 1, 1) := by decide +kernel
theorem dX7_nextRow_7 : decode cX7_nextRow 7 = .ok (.iload_n 1, 1) := by decide +kernel
theorem dX7_nextRow_8 : decode cX7_nextRow 8 = .ok (.ifCond .lt 26, 3) := by decide +kernel
theorem dX7_nextRow_11 : decode cX7_nextRow 11 = .ok (.aload_n 0, 1) := by decide +kernel
theorem dX7_nextRow_12 : decode cX7_nextRow 12 = .ok (.getfield 35, 3) := by decide +kernel
theorem dX7_nextRow_15 : decode cX7_nextRow 15 = .ok (.iload_n 1, 1) := by decide +kernel
theorem dX7_nextRow_16 : decode cX7_nextRow 16 = .ok (.iaload, 1) := by decide +kernel
theorem dX7_nextRow_17 : decode cX7_nextRow 17 = .ok (.aload_n 0, 1) := by decide +kernel
theorem dX7_nextRow_18 : decode cX7_nextRow 18 = .ok (.getfield 35, 3) := by decide +kernel
theorem dX7_nextRow_21 : decode cX7_nextRow 21 = .ok (.iload_n 1, 1) := by decide +kernel
theorem dX7_nextRow_22 : decode cX7_nextRow 22 = .ok (.iconst 1, 1) := by decide +kernel
theorem dX7_nextRow_23 : decode cX7_nextRow 23 = .ok (.iadd, 1) := by decide +kernel
theorem dX7_nextRow_24 : decode cX7_nextRow 24 = .ok (.iaload, 1) := by decide +kernel
theorem dX7_nextRow_25 : decode cX7_nextRow 25 = .ok (.if_icmp .le 9, 3) := by decide +kernel
theorem dX7_nextRow_28 : decode cX7_nextRow 28 = .ok (.iinc 1 (-1), 3) := by decide +kernel
theorem dX7_nextRow_31 : decode cX7_nextRow 31 = .ok (.goto (-24), 3) := by decide +kernel
theorem dX7_nextRow_34 : decode cX7_nextRow 34 = .ok (.iload_n 1, 1) := by decide +kernel
theorem dX7_nextRow_35 : decode cX7_nextRow 35 = .ok (.ifCond .ge 5, 3) := by decide +kernel
theorem dX7_nextRow_38 : decode cX7_nextRow 38 = .ok (.iconst 0, 1) := by decide +kernel
theorem dX7_nextRow_39 : decode cX7_nextRow 39 = .ok (.ireturn, 1) := by decide +kernel
theorem dX7_nextRow_40 : decode cX7_nextRow 40 = .ok (.aload_n 0, 1) := by decide +kernel
theorem dX7_nextRow_41 : decode cX7_nextRow 41 = .ok (.getfield 211, 3) := by decide +kernel
theorem dX7_nextRow_44 : decode cX7_nextRow 44 = .ok (.iconst 1, 1) := by decide +kernel
theorem dX7_nextRow_45 : decode cX7_nextRow 45 = .ok (.isub, 1) := by decide +kernel
theorem dX7_nextRow_46 : decode cX7_nextRow 46 = .ok (.istore_n 2, 1) := by decide +kernel
theorem dX7_nextRow_47 : decode cX7_nextRow 47 = .ok (.aload_n 0, 1) := by decide +kernel
theorem dX7_nextRow_48 : decode cX7_nextRow 48 = .ok (.getfield 35, 3) := by decide +kernel
theorem dX7_nextRow_51 : decode cX7_nextRow 51 = .ok (.iload_n 2, 1) := by decide +kernel
theorem dX7_nextRow_52 : decode cX7_nextRow 52 = .ok (.iaload, 1) := by decide +kernel
theorem dX7_nextRow_53 : decode cX7_nextRow 53 = .ok (.aload_n 0, 1) := by decide +kernel
theorem dX7_nextRow_54 : decode cX7_nextRow 54 = .ok (.getfield 35, 3) := by decide +kernel
theorem dX7_nextRow_57 : decode cX7_nextRow 57 = .ok (.iload_n 1, 1) := by decide +kernel
theorem dX7_nextRow_58 : decode cX7_nextRow 58 = .ok (.iaload, 1) := by decide +kernel
theorem dX7_nextRow_59 : decode cX7_nextRow 59 = .ok (.if_icmp .ge 9, 3) := by decide +kernel
theorem dX7_nextRow_62 : decode cX7_nextRow 62 = .ok (.iinc 2 (-1), 3) := by decide +kernel
theorem dX7_nextRow_65 : decode cX7_nextRow 65 = .ok (.goto (-18), 3) := by decide +kernel
theorem dX7_nextRow_68 : decode cX7_nextRow 68 = .ok (.aload_n 0, 1) := by decide +kernel
theorem dX7_nextRow_69 : decode cX7_nextRow 69 = .ok (.getfield 35, 3) := by decide +kernel
theorem dX7_nextRow_72 : decode cX7_nextRow 72 = .ok (.iload_n 1, 1) := by decide +kernel
theorem dX7_nextRow_73 : decode cX7_nextRow 73 = .ok (.iaload, 1) := by decide +kernel
theorem dX7_nextRow_74 : decode cX7_nextRow 74 = .ok (.istore_n 3, 1) := by decide +kernel
theorem dX7_nextRow_75 : decode cX7_nextRow 75 = .ok (.aload_n 0, 1) := by decide +kernel
theorem dX7_nextRow_76 : decode cX7_nextRow 76 = .ok (.getfield 35, 3) := by decide +kernel
theorem dX7_nextRow_79 : decode cX7_nextRow 79 = .ok (.iload_n 1, 1) := by decide +kernel
theorem dX7_nextRow_80 : decode cX7_nextRow 80 = .ok (.aload_n 0, 1) := by decide +kernel
theorem dX7_nextRow_81 : decode cX7_nextRow 81 = .ok (.getfield 35, 3) := by decide +kernel
theorem dX7_nextRow_84 : decode cX7_nextRow 84 = .ok (.iload_n 2, 1) := by decide +kernel
theorem dX7_nextRow_85 : decode cX7_nextRow 85 = .ok (.iaload, 1) := by decide +kernel
theorem dX7_nextRow_86 : decode cX7_nextRow 86 = .ok (.iastore, 1) := by decide +kernel
theorem dX7_nextRow_87 : decode cX7_nextRow 87 = .ok (.aload_n 0, 1) := by decide +kernel
theorem dX7_nextRow_88 : decode cX7_nextRow 88 = .ok (.getfield 35, 3) := by decide +kernel
theorem dX7_nextRow_91 : decode cX7_nextRow 91 = .ok (.iload_n 2, 1) := by decide +kernel
theorem dX7_nextRow_92 : decode cX7_nextRow 92 = .ok (.iload_n 3, 1) := by decide +kernel
theorem dX7_nextRow_93 : decode cX7_nextRow 93 = .ok (.iastore, 1) := by decide +kernel
theorem dX7_nextRow_94 : decode cX7_nextRow 94 = .ok (.iload_n 1, 1) := by decide +kernel
theorem dX7_nextRow_95 : decode cX7_nextRow 95 = .ok (.iconst 1, 1) := by decide +kernel
theorem dX7_nextRow_96 : decode cX7_nextRow 96 = .ok (.iadd, 1) := by decide +kernel
theorem dX7_nextRow_97 : decode cX7_nextRow 97 = .ok (.istore 4, 2) := by decide +kernel
theorem dX7_nextRow_99 : decode cX7_nextRow 99 = .ok (.aload_n 0, 1) := by decide +kernel
theorem dX7_nextRow_100 : decode cX7_nextRow 100 = .ok (.getfield 211, 3) := by decide +kernel
theorem dX7_nextRow_103 : decode cX7_nextRow 103 = .ok (.iconst 1, 1) := by decide +kernel
theorem dX7_nextRow_104 : decode cX7_nextRow 104 = .ok (.isub, 1) := by decide +kernel
theorem dX7_nextRow_105 : decode cX7_nextRow 105 = .ok (.istore 5, 2) := by decide +kernel
theorem dX7_nextRow_107 : decode cX7_nextRow 107 = .ok (.iload 4, 2) := by decide +kernel
theorem dX7_nextRow_109 : decode cX7_nextRow 109 = .ok (.iload 5, 2) := by decide +kernel
theorem dX7_nextRow_111 : decode cX7_nextRow 111 = .ok (.if_icmp .ge 42, 3) := by decide +kernel
theorem dX7_nextRow_114 : decode cX7_nextRow 114 = .ok (.aload_n 0, 1) := by decide +kernel
theorem dX7_nextRow_115 : decode cX7_nextRow 115 = .ok (.getfield 35, 3) := by decide +kernel
theorem dX7_nextRow_118 : decode cX7_nextRow 118 = .ok (.iload 4, 2) := by decide +kernel
theorem dX7_nextRow_120 : decode cX7_nextRow 120 = .ok (.iaload, 1) := by decide +kernel
theorem dX7_nextRow_121 : decode cX7_nextRow 121 = .ok (.istore_n 3, 1) := by decide +kernel
theorem dX7_nextRow_122 : decode cX7_nextRow 122 = .ok (.aload_n 0, 1) := by decide +kernel
theorem dX7_nextRow_123 : decode cX7_nextRow 123 = .ok (.getfield 35, 3) := by decide +kernel
theorem dX7_nextRow_126 : decode cX7_nextRow 126 = .ok (.iload 4, 2) := by decide +kernel
theorem dX7_nextRow_128 : decode cX7_nextRow 128 = .ok (.aload_n 0, 1) := by decide +kernel
theorem dX7_nextRow_129 : decode cX7_nextRow 129 = .ok (.getfield 35, 3) := by decide +kernel
theorem dX7_nextRow_132 : decode cX7_nextRow 132 = .ok (.iload 5, 2) := by decide +kernel
theorem dX7_nextRow_134 : decode cX7_nextRow 134 = .ok (.iaload, 1) := by decide +kernel
theorem dX7_nextRow_135 : decode cX7_nextRow 135 = .ok (.iastore, 1) := by decide +kernel
theorem dX7_nextRow_136 : decode cX7_nextRow 136 = .ok (.aload_n 0, 1) := by decide +kernel
theorem dX7_nextRow_137 : decode cX7_nextRow 137 = .ok (.getfield 35, 3) := by decide +kernel
theorem dX7_nextRow_140 : decode cX7_nextRow 140 = .ok (.iload 5, 2) := by decide +kernel
theorem dX7_nextRow_142 : decode cX7_nextRow 142 = .ok (.iload_n 3, 1) := by decide +kernel
theorem dX7_nextRow_143 : decode cX7_nextRow 143 = .ok (.iastore, 1) := by decide +kernel
theorem dX7_nextRow_144 : decode cX7_nextRow 144 = .ok (.iinc 4 1, 3) := by decide +kernel
theorem dX7_nextRow_147 : decode cX7_nextRow 147 = .ok (.iinc 5 (-1), 3) := by decide +kernel
theorem dX7_nextRow_150 : decode cX7_nextRow 150 = .ok (.goto (-43), 3) := by decide +kernel
theorem dX7_nextRow_153 : decode cX7_nextRow 153 = .ok (.iconst 1, 1) := by decide +kernel
theorem dX7_nextRow_154 : decode cX7_nextRow 154 = .ok (.ireturn, 1) := by decide +kernel
set_option maxRecDepth 20000 in
theorem ggX7_order_X7_isExact : GoodIn wsX7_order wsX7_isExact := goodIn_r _ [10, 1, 11, 12, 13, 9, 14, 15, 16, 17, 18, 19, 20, 21, 34, 35, 36, 37, 38, 39, 40, 41, 42, 43, 44, 45, 46, 47, 48, 49, 50, 51, 52, 53, 54, 55, 56, 57, 58, 59] (by decide +kernel) (by decide +kernel)
set_option maxRecDepth 20000 in
theorem gX7_order_X7_isExact : GoodIn wsX7_order (wsV RX7 176 RX7 yX7_isExact wsX7_isExact) := goodIn_app (goodIn_of _ (by decide +kernel)) ggX7_order_X7_isExact
set_option maxRecDepth 20000 in
theorem ggX7_order_X7_in : GoodIn wsX7_order wsX7_in := goodIn_r _ [18] (by decide +kernel) (by decide +kernel)
set_option maxRecDepth 20000 in
theorem gX7_order_X7_in : GoodIn wsX7_order (va_wsS RX7 41 yX7_in wsX7_in) := goodIn_app (goodIn_of _ (by decide +kernel)) ggX7_order_X7_in
set_option maxRecDepth 20000 in
theorem ggX7_order_X7_take : GoodIn wsX7_order wsX7_take := goodIn_r _ [25, 4, 3, 5, 2, 26, 27, 28, 9, 29, 1, 34, 35, 36, 37, 38, 39, 40, 41, 42, 43, 44, 45, 46, 47, 48, 49, 50, 51, 52, 53, 54, 55, 56, 57, 58, 59] (by decide +kernel) (by decide +kernel)
set_option maxRecDepth 20000 in
theorem gX7_order_X7_take : GoodIn wsX7_order (wsV RX7 221 RX7 yX7_take wsX7_take) := goodIn_app (goodIn_of _ (by decide +kernel)) ggX7_order_X7_take
set_option maxRecDepth 20000 in
theorem ggX7_order_X7_nextRow : GoodIn wsX7_order wsX7_nextRow := goodIn_r _ [33, 3, 2, 34, 35, 36, 37, 38, 39, 40, 41, 42, 43, 44, 45, 46, 47, 48, 49, 50, 51, 52, 53, 54, 55, 56, 57, 58, 59] (by decide +kernel) (by decide +kernel)
set_option maxRecDepth 20000 in
theorem gX7_order_X7_nextRow : GoodIn wsX7_order (wsV RX7 224 RX7 yX7_nextRow wsX7_nextRow) := goodIn_app (goodIn_of _ (by decide +kernel)) ggX7_order_X7_nextRow
set_option maxRecDepth 20000 in
theorem ggX7_order_X7_greatest : GoodIn wsX7_order wsX7_greatest := goodIn_r _ [29, 3, 1, 2, 34, 35, 36, 37, 38, 39, 40, 41, 42, 43, 44, 45, 46, 47, 48, 49, 50, 51, 52, 53, 54, 55, 56, 57, 58, 59] (by decide +kernel) (by decide +kernel)
set_option maxRecDepth 20000 in
theorem gX7_order_X7_greatest : GoodIn wsX7_order (wsV RX7 214 RX7 yX7_greatest wsX7_greatest) := goodIn_app (goodIn_of _ (by decide +kernel)) ggX7_order_X7_greatest
theorem dX7_order_0 : decode cX7_order 0 = .ok (.iload_n 1, 1) := by decide +kernel
theorem dX7_order_1 : decode cX7_order 1 = .ok (.iconst (-1), 1) := by decide +kernel
theorem dX7_order_2 : decode cX7_order 2 = .ok (.if_icmp .ge 6, 3) := by decide +kernel
theorem dX7_order_5 : decode cX7_order 5 = .ok (.bipush (-3), 2) := by decide +kernel
theorem dX7_order_7 : decode cX7_order 7 = .ok (.ireturn, 1) := by decide +kernel
theorem dX7_order_8 : decode cX7_order 8 = .ok (.iconst 0, 1) := by decide +kernel
theorem dX7_order_9 : decode cX7_order 9 = .ok (.istore_n 2, 1) := by decide +kernel
theorem dX7_order_10 : decode cX7_order 10 = .ok (.iconst 0, 1) := by decide +kernel
theorem dX7_order_11 : decode cX7_order 11 = .ok (.istore_n 3, 1) := by decide +kernel
theorem dX7_order_12 : decode cX7_order 12 = .ok (.iload_n 3, 1) := by decide +kernel
theorem dX7_order_13 : decode cX7_order 13 = .ok (.bipush 8, 2) := by decide +kernel
theorem dX7_order_15 : decode cX7_order 15 = .ok (.if_icmp .ge 45, 3) := by decide +kernel
theorem dX7_order_18 : decode cX7_order 18 = .ok (.aload_n 0, 1) := by decide +kernel
theorem dX7_order_19 : decode cX7_order 19 = .ok (.iload_n 3, 1) := by decide +kernel
theorem dX7_order_20 : decode cX7_order 20 = .ok (.invokevirtual 176, 3) := by decide +kernel
theorem dX7_order_23 : decode cX7_order 23 = .ok (.ifCond .eq 31, 3) := by decide +kernel
theorem dX7_order_26 : decode cX7_order 26 = .ok (.aload_n 0, 1) := by decide +kernel
theorem dX7_order_27 : decode cX7_order 27 = .ok (.getfield 7, 3) := by decide +kernel
theorem dX7_order_30 : decode cX7_order 30 = .ok (.bipush 6, 2) := by decide +kernel
theorem dX7_order_32 : decode cX7_order 32 = .ok (.iload_n 3, 1) := by decide +kernel
theorem dX7_order_33 : decode cX7_order 33 = .ok (.imul, 1) := by decide +kernel
theorem dX7_order_34 : decode cX7_order 34 = .ok (.iaload, 1) := by decide +kernel
theorem dX7_order_35 : decode cX7_order 35 = .ok (.ifCond .ne 19, 3) := by decide +kernel
theorem dX7_order_38 : decode cX7_order 38 = .ok (.iload_n 2, 1) := by decide +kernel
theorem dX7_order_39 : decode cX7_order 39 = .ok (.bipush 6, 2) := by decide +kernel
theorem dX7_order_41 : decode cX7_order 41 = .ok (.if_icmp .ge 10, 3) := by decide +kernel
theorem dX7_order_44 : decode cX7_order 44 = .ok (.aload_n 0, 1) := by decide +kernel
theorem dX7_order_45 : decode cX7_order 45 = .ok (.getfield 35, 3) := by decide +kernel
theorem dX7_order_48 : decode cX7_order 48 = .ok (.iload_n 2, 1) := by decide +kernel
theorem dX7_order_49 : decode cX7_order 49 = .ok (.iload_n 3, 1) := by decide +kernel
theorem dX7_order_50 : decode cX7_order 50 = .ok (.iastore, 1) := by decide +kernel
theorem dX7_order_51 : decode cX7_order 51 = .ok (.iinc 2 1, 3) := by decide +kernel
theorem dX7_order_54 : decode cX7_order 54 = .ok (.iinc 3 1, 3) := by decide +kernel
theorem dX7_order_57 : decode cX7_order 57 = .ok (.goto (-45), 3) := by decide +kernel
theorem dX7_order_60 : decode cX7_order 60 = .ok (.iload_n 2, 1) := by decide +kernel
theorem dX7_order_61 : decode cX7_order 61 = .ok (.iconst 1, 1) := by decide +kernel
theorem dX7_order_62 : decode cX7_order 62 = .ok (.bipush 6, 2) := by decide +kernel
theorem dX7_order_64 : decode cX7_order 64 = .ok (.invokestatic 41, 3) := by decide +kernel
theorem dX7_order_67 : decode cX7_order 67 = .ok (.ifCond .ne 6, 3) := by decide +kernel
theorem dX7_order_70 : decode cX7_order 70 = .ok (.bipush (-4), 2) := by decide +kernel
theorem dX7_order_72 : decode cX7_order 72 = .ok (.ireturn, 1) := by decide +kernel
theorem dX7_order_73 : decode cX7_order 73 = .ok (.aload_n 0, 1) := by decide +kernel
theorem dX7_order_74 : decode cX7_order 74 = .ok (.iload_n 2, 1) := by decide +kernel
theorem dX7_order_75 : decode cX7_order 75 = .ok (.putfield 211, 3) := by decide +kernel
theorem dX7_order_78 : decode cX7_order 78 = .ok (.aload_n 0, 1) := by decide +kernel
theorem dX7_order_79 : decode cX7_order 79 = .ok (.invokevirtual 221, 3) := by decide +kernel
theorem dX7_order_82 : decode cX7_order 82 = .ok (.aload_n 0, 1) := by decide +kernel
theorem dX7_order_83 : decode cX7_order 83 = .ok (.invokevirtual 224, 3) := by decide +kernel
theorem dX7_order_86 : decode cX7_order 86 = .ok (.ifCond .eq 21, 3) := by decide +kernel
theorem dX7_order_89 : decode cX7_order 89 = .ok (.aload_n 0, 1) := by decide +kernel
theorem dX7_order_90 : decode cX7_order 90 = .ok (.invokevirtual 214, 3) := by decide +kernel
theorem dX7_order_93 : decode cX7_order 93 = .ok (.aload_n 0, 1) := by decide +kernel
theorem dX7_order_94 : decode cX7_order 94 = .ok (.getfield 218, 3) := by decide +kernel
theorem dX7_order_97 : decode cX7_order 97 = .ok (.if_icmp .ge (-15), 3) := by decide +kernel
theorem dX7_order_100 : decode cX7_order 100 = .ok (.aload_n 0, 1) := by decide +kernel
theorem dX7_order_101 : decode cX7_order 101 = .ok (.invokevirtual 221, 3) := by decide +kernel
theorem dX7_order_104 : decode cX7_order 104 = .ok (.goto (-22), 3) := by decide +kernel
theorem dX7_order_107 : decode cX7_order 107 = .ok (.iload_n 1, 1) := by decide +kernel
theorem dX7_order_108 : decode cX7_order 108 = .ok (.iconst (-1), 1) := by decide +kernel
theorem dX7_order_109 : decode cX7_order 109 = .ok (.if_icmp .ne 10, 3) := by decide +kernel
theorem dX7_order_112 : decode cX7_order 112 = .ok (.aload_n 0, 1) := by decide +kernel
theorem dX7_order_113 : decode cX7_order 113 = .ok (.getfield 218, 3) := by decide +kernel
theorem dX7_order_116 : decode cX7_order 116 = .ok (.goto 18, 3) := by decide +kernel
theorem dX7_order_119 : decode cX7_order 119 = .ok (.iload_n 1, 1) := by decide +kernel
theorem dX7_order_120 : decode cX7_order 120 = .ok (.iload_n 2, 1) := by decide +kernel
theorem dX7_order_121 : decode cX7_order 121 = .ok (.if_icmp .ge 12, 3) := by decide +kernel
theorem dX7_order_124 : decode cX7_order 124 = .ok (.aload_n 0, 1) := by decide +kernel
theorem dX7_order_125 : decode cX7_order 125 = .ok (.getfield 38, 3) := by decide +kernel
theorem dX7_order_128 : decode cX7_order 128 = .ok (.iload_n 1, 1) := by decide +kernel
theorem dX7_order_129 : decode cX7_order 129 = .ok (.iaload, 1) := by decide +kernel
theorem dX7_order_130 : decode cX7_order 130 = .ok (.goto 4, 3) := by decide +kernel
theorem dX7_order_133 : decode cX7_order 133 = .ok (.iconst (-1), 1) := by decide +kernel
theorem dX7_order_134 : decode cX7_order 134 = .ok (.ireturn, 1) := by decide +kernel
set_option maxRecDepth 20000 in
theorem ggX7_keep_X7_in : GoodIn wsX7_keep wsX7_in := goodIn_r _ [11] (by decide +kernel) (by decide +kernel)
set_option maxRecDepth 20000 in
theorem gX7_keep_X7_in : GoodIn wsX7_keep (va_wsS RX7 41 yX7_in wsX7_in) := goodIn_app (goodIn_of _ (by decide +kernel)) ggX7_keep_X7_in
set_option maxRecDepth 20000 in
theorem ggX7_keep_X7_bits : GoodIn wsX7_keep wsX7_bits := goodIn_r _ [14] (by decide +kernel) (by decide +kernel)
set_option maxRecDepth 20000 in
theorem gX7_keep_X7_bits : GoodIn wsX7_keep (va_wsS RX7 173 yX7_bits wsX7_bits) := goodIn_app (goodIn_of _ (by decide +kernel)) ggX7_keep_X7_bits
theorem dX7_keep_0 : decode cX7_keep 0 = .ok (.iload_n 1, 1) := by decide +kernel
theorem dX7_keep_1 : decode cX7_keep 1 = .ok (.iconst 0, 1) := by decide +kernel
theorem dX7_keep_2 : decode cX7_keep 2 = .ok (.iconst 1, 1) := by decide +kernel
theorem dX7_keep_3 : decode cX7_keep 3 = .ok (.invokestatic 41, 3) := by decide +kernel
theorem dX7_keep_6 : decode cX7_keep 6 = .ok (.ifCond .ne 6, 3) := by decide +kernel
theorem dX7_keep_9 : decode cX7_keep 9 = .ok (.bipush (-2), 2) := by decide +kernel
theorem dX7_keep_11 : decode cX7_keep 11 = .ok (.ireturn, 1) := by decide +kernel
theorem dX7_keep_12 : decode cX7_keep 12 = .ok (.bipush 90, 2) := by decide +kernel
theorem dX7_keep_14 : decode cX7_keep 14 = .ok (.iload_n 1, 1) := by decide +kernel
theorem dX7_keep_15 : decode cX7_keep 15 = .ok (.imul, 1) := by decide +kernel
theorem dX7_keep_16 : decode cX7_keep 16 = .ok (.istore_n 2, 1) := by decide +kernel
theorem dX7_keep_17 : decode cX7_keep 17 = .ok (.aload_n 0, 1) := by decide +kernel
theorem dX7_keep_18 : decode cX7_keep 18 = .ok (.getfield 28, 3) := by decide +kernel
theorem dX7_keep_21 : decode cX7_keep 21 = .ok (.iload_n 2, 1) := by decide +kernel
theorem dX7_keep_22 : decode cX7_keep 22 = .ok (.aload_n 0, 1) := by decide +kernel
theorem dX7_keep_23 : decode cX7_keep 23 = .ok (.getfield 45, 3) := by decide +kernel
theorem dX7_keep_26 : decode cX7_keep 26 = .ok (.iastore, 1) := by decide +kernel
theorem dX7_keep_27 : decode cX7_keep 27 = .ok (.aload_n 0, 1) := by decide +kernel
theorem dX7_keep_28 : decode cX7_keep 28 = .ok (.getfield 28, 3) := by decide +kernel
theorem dX7_keep_31 : decode cX7_keep 31 = .ok (.iload_n 2, 1) := by decide +kernel
theorem dX7_keep_32 : decode cX7_keep 32 = .ok (.iconst 1, 1) := by decide +kernel
theorem dX7_keep_33 : decode cX7_keep 33 = .ok (.iadd, 1) := by decide +kernel
theorem dX7_keep_34 : decode cX7_keep 34 = .ok (.aload_n 0, 1) := by decide +kernel
theorem dX7_keep_35 : decode cX7_keep 35 = .ok (.getfield 136, 3) := by decide +kernel
theorem dX7_keep_38 : decode cX7_keep 38 = .ok (.iastore, 1) := by decide +kernel
theorem dX7_keep_39 : decode cX7_keep 39 = .ok (.aload_n 0, 1) := by decide +kernel
theorem dX7_keep_40 : decode cX7_keep 40 = .ok (.getfield 28, 3) := by decide +kernel
theorem dX7_keep_43 : decode cX7_keep 43 = .ok (.iload_n 2, 1) := by decide +kernel
theorem dX7_keep_44 : decode cX7_keep 44 = .ok (.iconst 2, 1) := by decide +kernel
theorem dX7_keep_45 : decode cX7_keep 45 = .ok (.iadd, 1) := by decide +kernel
theorem dX7_keep_46 : decode cX7_keep 46 = .ok (.aload_n 0, 1) := by decide +kernel
theorem dX7_keep_47 : decode cX7_keep 47 = .ok (.getfield 179, 3) := by decide +kernel
theorem dX7_keep_50 : decode cX7_keep 50 = .ok (.iastore, 1) := by decide +kernel
theorem dX7_keep_51 : decode cX7_keep 51 = .ok (.iconst 0, 1) := by decide +kernel
theorem dX7_keep_52 : decode cX7_keep 52 = .ok (.istore_n 3, 1) := by decide +kernel
theorem dX7_keep_53 : decode cX7_keep 53 = .ok (.iload_n 3, 1) := by decide +kernel
theorem dX7_keep_54 : decode cX7_keep 54 = .ok (.bipush 48, 2) := by decide +kernel
theorem dX7_keep_56 : decode cX7_keep 56 = .ok (.if_icmp .ge 25, 3) := by decide +kernel
theorem dX7_keep_59 : decode cX7_keep 59 = .ok (.aload_n 0, 1) := by decide +kernel
theorem dX7_keep_60 : decode cX7_keep 60 = .ok (.getfield 28, 3) := by decide +kernel
theorem dX7_keep_63 : decode cX7_keep 63 = .ok (.iload_n 2, 1) := by decide +kernel
theorem dX7_keep_64 : decode cX7_keep 64 = .ok (.iconst 3, 1) := by decide +kernel
theorem dX7_keep_65 : decode cX7_keep 65 = .ok (.iadd, 1) := by decide +kernel
theorem dX7_keep_66 : decode cX7_keep 66 = .ok (.iload_n 3, 1) := by decide +kernel
theorem dX7_keep_67 : decode cX7_keep 67 = .ok (.iadd, 1) := by decide +kernel
theorem dX7_keep_68 : decode cX7_keep 68 = .ok (.aload_n 0, 1) := by decide +kernel
theorem dX7_keep_69 : decode cX7_keep 69 = .ok (.getfield 7, 3) := by decide +kernel
theorem dX7_keep_72 : decode cX7_keep 72 = .ok (.iload_n 3, 1) := by decide +kernel
theorem dX7_keep_73 : decode cX7_keep 73 = .ok (.iaload, 1) := by decide +kernel
theorem dX7_keep_74 : decode cX7_keep 74 = .ok (.iastore, 1) := by decide +kernel
theorem dX7_keep_75 : decode cX7_keep 75 = .ok (.iinc 3 1, 3) := by decide +kernel
theorem dX7_keep_78 : decode cX7_keep 78 = .ok (.goto (-25), 3) := by decide +kernel
theorem dX7_keep_81 : decode cX7_keep 81 = .ok (.iconst 0, 1) := by decide +kernel
theorem dX7_keep_82 : decode cX7_keep 82 = .ok (.istore_n 3, 1) := by decide +kernel
theorem dX7_keep_83 : decode cX7_keep 83 = .ok (.iload_n 3, 1) := by decide +kernel
theorem dX7_keep_84 : decode cX7_keep 84 = .ok (.bipush 36, 2) := by decide +kernel
theorem dX7_keep_86 : decode cX7_keep 86 = .ok (.if_icmp .ge 26, 3) := by decide +kernel
theorem dX7_keep_89 : decode cX7_keep 89 = .ok (.aload_n 0, 1) := by decide +kernel
theorem dX7_keep_90 : decode cX7_keep 90 = .ok (.getfield 28, 3) := by decide +kernel
theorem dX7_keep_93 : decode cX7_keep 93 = .ok (.iload_n 2, 1) := by decide +kernel
theorem dX7_keep_94 : decode cX7_keep 94 = .ok (.bipush 51, 2) := by decide +kernel
theorem dX7_keep_96 : decode cX7_keep 96 = .ok (.iadd, 1) := by decide +kernel
theorem dX7_keep_97 : decode cX7_keep 97 = .ok (.iload_n 3, 1) := by decide +kernel
theorem dX7_keep_98 : decode cX7_keep 98 = .ok (.iadd, 1) := by decide +kernel
theorem dX7_keep_99 : decode cX7_keep 99 = .ok (.aload_n 0, 1) := by decide +kernel
theorem dX7_keep_100 : decode cX7_keep 100 = .ok (.getfield 13, 3) := by decide +kernel
theorem dX7_keep_103 : decode cX7_keep 103 = .ok (.iload_n 3, 1) := by decide +kernel
theorem dX7_keep_104 : decode cX7_keep 104 = .ok (.iaload, 1) := by decide +kernel
theorem dX7_keep_105 : decode cX7_keep 105 = .ok (.iastore, 1) := by decide +kernel
theorem dX7_keep_106 : decode cX7_keep 106 = .ok (.iinc 3 1, 3) := by decide +kernel
theorem dX7_keep_109 : decode cX7_keep 109 = .ok (.goto (-26), 3) := by decide +kernel
theorem dX7_keep_112 : decode cX7_keep 112 = .ok (.aload_n 0, 1) := by decide +kernel
theorem dX7_keep_113 : decode cX7_keep 113 = .ok (.getfield 31, 3) := by decide +kernel
theorem dX7_keep_116 : decode cX7_keep 116 = .ok (.iload_n 1, 1) := by decide +kernel
theorem dX7_keep_117 : decode cX7_keep 117 = .ok (.iconst 1, 1) := by decide +kernel
theorem dX7_keep_118 : decode cX7_keep 118 = .ok (.bastore, 1) := by decide +kernel
theorem dX7_keep_119 : decode cX7_keep 119 = .ok (.aload_n 0, 1) := by decide +kernel
theorem dX7_keep_120 : decode cX7_keep 120 = .ok (.getfield 45, 3) := by decide +kernel
theorem dX7_keep_123 : decode cX7_keep 123 = .ok (.invokestatic 173, 3) := by decide +kernel
theorem dX7_keep_126 : decode cX7_keep 126 = .ok (.ireturn, 1) := by decide +kernel
set_option maxRecDepth 20000 in
theorem ggX7_back_X7_in : GoodIn wsX7_back wsX7_in := goodIn_r _ [11] (by decide +kernel) (by decide +kernel)
set_option maxRecDepth 20000 in
theorem gX7_back_X7_in : GoodIn wsX7_back (va_wsS RX7 41 yX7_in wsX7_in) := goodIn_app (goodIn_of _ (by decide +kernel)) ggX7_back_X7_in
set_option maxRecDepth 20000 in
theorem ggX7_back_X7_bits : GoodIn wsX7_back wsX7_bits := goodIn_r _ [14] (by decide +kernel) (by decide +kernel)
set_option maxRecDepth 20000 in
theorem gX7_back_X7_bits : GoodIn wsX7_back (va_wsS RX7 173 yX7_bits wsX7_bits) := goodIn_app (goodIn_of _ (by decide +kernel)) ggX7_back_X7_bits
theorem dX7_back_0 : decode cX7_back 0 = .ok (.iload_n 1, 1) := by decide +kernel
theorem dX7_back_1 : decode cX7_back 1 = .ok (.iconst 0, 1) := by decide +kernel
theorem dX7_back_2 : decode cX7_back 2 = .ok (.iconst 1, 1) := by decide +kernel
theorem dX7_back_3 : decode cX7_back 3 = .ok (.invokestatic 41, 3) := by decide +kernel
theorem dX7_back_6 : decode cX7_back 6 = .ok (.ifCond .ne 6, 3) := by decide +kernel
theorem dX7_back_9 : decode cX7_back 9 = .ok (.bipush (-2), 2) := by decide +kernel
theorem dX7_back_11 : decode cX7_back 11 = .ok (.ireturn, 1) := by decide +kernel
theorem dX7_back_12 : decode cX7_back 12 = .ok (.aload_n 0, 1) := by decide +kernel
theorem dX7_back_13 : decode cX7_back 13 = .ok (.getfield 31, 3) := by decide +kernel
theorem dX7_back_16 : decode cX7_back 16 = .ok (.iload_n 1, 1) := by decide +kernel
theorem dX7_back_17 : decode cX7_back 17 = .ok (.baload, 1) := by decide +kernel
theorem dX7_back_18 : decode cX7_back 18 = .ok (.ifCond .ne 6, 3) := by decide +kernel
theorem dX7_back_21 : decode cX7_back 21 = .ok (.bipush (-4), 2) := by decide +kernel
theorem dX7_back_23 : decode cX7_back 23 = .ok (.ireturn, 1) := by decide +kernel
theorem dX7_back_24 : decode cX7_back 24 = .ok (.bipush 90, 2) := by decide +kernel
theorem dX7_back_26 : decode cX7_back 26 = .ok (.iload_n 1, 1) := by decide +kernel
theorem dX7_back_27 : decode cX7_back 27 = .ok (.imul, 1) := by decide +kernel
theorem dX7_back_28 : decode cX7_back 28 = .ok (.istore_n 2, 1) := by decide +kernel
theorem dX7_back_29 : decode cX7_back 29 = .ok (.aload_n 0, 1) := by decide +kernel
theorem dX7_back_30 : decode cX7_back 30 = .ok (.aload_n 0, 1) := by decide +kernel
theorem dX7_back_31 : decode cX7_back 31 = .ok (.getfield 28, 3) := by decide +kernel
theorem dX7_back_34 : decode cX7_back 34 = .ok (.iload_n 2, 1) := by decide +kernel
theorem dX7_back_35 : decode cX7_back 35 = .ok (.iaload, 1) := by decide +kernel
theorem dX7_back_36 : decode cX7_back 36 = .ok (.putfield 45, 3) := by decide +kernel
theorem dX7_back_39 : decode cX7_back 39 = .ok (.aload_n 0, 1) := by decide +kernel
theorem dX7_back_40 : decode cX7_back 40 = .ok (.aload_n 0, 1) := by decide +kernel
theorem dX7_back_41 : decode cX7_back 41 = .ok (.getfield 28, 3) := by decide +kernel
theorem dX7_back_44 : decode cX7_back 44 = .ok (.iload_n 2, 1) := by decide +kernel
theorem dX7_back_45 : decode cX7_back 45 = .ok (.iconst 1, 1) := by decide +kernel
theorem dX7_back_46 : decode cX7_back 46 = .ok (.iadd, 1) := by decide +kernel
theorem dX7_back_47 : decode cX7_back 47 = .ok (.iaload, 1) := by decide +kernel
theorem dX7_back_48 : decode cX7_back 48 = .ok (.putfield 136, 3) := by decide +kernel
theorem dX7_back_51 : decode cX7_back 51 = .ok (.aload_n 0, 1) := by decide +kernel
theorem dX7_back_52 : decode cX7_back 52 = .ok (.aload_n 0, 1) := by decide +kernel
theorem dX7_back_53 : decode cX7_back 53 = .ok (.getfield 28, 3) := by decide +kernel
theorem dX7_back_56 : decode cX7_back 56 = .ok (.iload_n 2, 1) := by decide +kernel
theorem dX7_back_57 : decode cX7_back 57 = .ok (.iconst 2, 1) := by decide +kernel
theorem dX7_back_58 : decode cX7_back 58 = .ok (.iadd, 1) := by decide +kernel
theorem dX7_back_59 : decode cX7_back 59 = .ok (.iaload, 1) := by decide +kernel
theorem dX7_back_60 : decode cX7_back 60 = .ok (.putfield 179, 3) := by decide +kernel
theorem dX7_back_63 : decode cX7_back 63 = .ok (.iconst 0, 1) := by decide +kernel
theorem dX7_back_64 : decode cX7_back 64 = .ok (.istore_n 3, 1) := by decide +kernel
theorem dX7_back_65 : decode cX7_back 65 = .ok (.iload_n 3, 1) := by decide +kernel
theorem dX7_back_66 : decode cX7_back 66 = .ok (.bipush 48, 2) := by decide +kernel
theorem dX7_back_68 : decode cX7_back 68 = .ok (.if_icmp .ge 25, 3) := by decide +kernel
theorem dX7_back_71 : decode cX7_back 71 = .ok (.aload_n 0, 1) := by decide +kernel
theorem dX7_back_72 : decode cX7_back 72 = .ok (.getfield 7, 3) := by decide +kernel
theorem dX7_back_75 : decode cX7_back 75 = .ok (.iload_n 3, 1) := by decide +kernel
theorem dX7_back_76 : decode cX7_back 76 = .ok (.aload_n 0, 1) := by decide +kernel
theorem dX7_back_77 : decode cX7_back 77 = .ok (.getfield 28, 3) := by decide +kernel
theorem dX7_back_80 : decode cX7_back 80 = .ok (.iload_n 2, 1) := by decide +kernel
theorem dX7_back_81 : decode cX7_back 81 = .ok (.iconst 3, 1) := by decide +kernel
theorem dX7_back_82 : decode cX7_back 82 = .ok (.iadd, 1) := by decide +kernel
theorem dX7_back_83 : decode cX7_back 83 = .ok (.iload_n 3, 1) := by decide +kernel
theorem dX7_back_84 : decode cX7_back 84 = .ok (.iadd, 1) := by decide +kernel
theorem dX7_back_85 : decode cX7_back 85 = .ok (.iaload, 1) := by decide +kernel
theorem dX7_back_86 : decode cX7_back 86 = .ok (.iastore, 1) := by decide +kernel
theorem dX7_back_87 : decode cX7_back 87 = .ok (.iinc 3 1, 3) := by decide +kernel
theorem dX7_back_90 : decode cX7_back 90 = .ok (.goto (-25), 3) := by decide +kernel
theorem dX7_back_93 : decode cX7_back 93 = .ok (.iconst 0, 1) := by decide +kernel
theorem dX7_back_94 : decode cX7_back 94 = .ok (.istore_n 3, 1) := by decide +kernel
theorem dX7_back_95 : decode cX7_back 95 = .ok (.iload_n 3, 1) := by decide +kernel
theorem dX7_back_96 : decode cX7_back 96 = .ok (.bipush 36, 2) := by decide +kernel
theorem dX7_back_98 : decode cX7_back 98 = .ok (.if_icmp .ge 26, 3) := by decide +kernel
theorem dX7_back_101 : decode cX7_back 101 = .ok (.aload_n 0, 1) := by decide +kernel
theorem dX7_back_102 : decode cX7_back 102 = .ok (.getfield 13, 3) := by decide +kernel
theorem dX7_back_105 : decode cX7_back 105 = .ok (.iload_n 3, 1) := by decide +kernel
theorem dX7_back_106 : decode cX7_back 106 = .ok (.aload_n 0, 1) := by decide +kernel
theorem dX7_back_107 : decode cX7_back 107 = .ok (.getfield 28, 3) := by decide +kernel
theorem dX7_back_110 : decode cX7_back 110 = .ok (.iload_n 2, 1) := by decide +kernel
theorem dX7_back_111 : decode cX7_back 111 = .ok (.bipush 51, 2) := by decide +kernel
theorem dX7_back_113 : decode cX7_back 113 = .ok (.iadd, 1) := by decide +kernel
theorem dX7_back_114 : decode cX7_back 114 = .ok (.iload_n 3, 1) := by decide +kernel
theorem dX7_back_115 : decode cX7_back 115 = .ok (.iadd, 1) := by decide +kernel
theorem dX7_back_116 : decode cX7_back 116 = .ok (.iaload, 1) := by decide +kernel
theorem dX7_back_117 : decode cX7_back 117 = .ok (.iastore, 1) := by decide +kernel
theorem dX7_back_118 : decode cX7_back 118 = .ok (.iinc 3 1, 3) := by decide +kernel
theorem dX7_back_121 : decode cX7_back 121 = .ok (.goto (-26), 3) := by decide +kernel
theorem dX7_back_124 : decode cX7_back 124 = .ok (.aload_n 0, 1) := by decide +kernel
theorem dX7_back_125 : decode cX7_back 125 = .ok (.getfield 45, 3) := by decide +kernel
theorem dX7_back_128 : decode cX7_back 128 = .ok (.invokestatic 173, 3) := by decide +kernel
theorem dX7_back_131 : decode cX7_back 131 = .ok (.ireturn, 1) := by decide +kernel
theorem dX7_count_0 : decode cX7_count 0 = .ok (.iload_n 1, 1) := by decide +kernel
theorem dX7_count_1 : decode cX7_count 1 = .ok (.tableswitch 51 0 3 #[31, 36, 41, 46], 31) := by decide +kernel
theorem dX7_count_32 : decode cX7_count 32 = .ok (.aload_n 0, 1) := by decide +kernel
theorem dX7_count_33 : decode cX7_count 33 = .ok (.getfield 45, 3) := by decide +kernel
theorem dX7_count_36 : decode cX7_count 36 = .ok (.ireturn, 1) := by decide +kernel
theorem dX7_count_37 : decode cX7_count 37 = .ok (.aload_n 0, 1) := by decide +kernel
theorem dX7_count_38 : decode cX7_count 38 = .ok (.getfield 136, 3) := by decide +kernel
theorem dX7_count_41 : decode cX7_count 41 = .ok (.ireturn, 1) := by decide +kernel
theorem dX7_count_42 : decode cX7_count 42 = .ok (.aload_n 0, 1) := by decide +kernel
theorem dX7_count_43 : decode cX7_count 43 = .ok (.getfield 179, 3) := by decide +kernel
theorem dX7_count_46 : decode cX7_count 46 = .ok (.ireturn, 1) := by decide +kernel
theorem dX7_count_47 : decode cX7_count 47 = .ok (.aload_n 0, 1) := by decide +kernel
theorem dX7_count_48 : decode cX7_count 48 = .ok (.getfield 53, 3) := by decide +kernel
theorem dX7_count_51 : decode cX7_count 51 = .ok (.ireturn, 1) := by decide +kernel
theorem dX7_count_52 : decode cX7_count 52 = .ok (.bipush (-3), 2) := by decide +kernel
theorem dX7_count_54 : decode cX7_count 54 = .ok (.ireturn, 1) := by decide +kernel
