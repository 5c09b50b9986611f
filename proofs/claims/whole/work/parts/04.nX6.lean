set_option maxRecDepth 20000 in
theorem ggX6_init_X5_init : GoodIn wsX6_init wsX5_init := goodIn_r _ [30, 31, 2, 3, 25, 32, 33, 34, 35, 36, 37, 79, 80, 81, 82, 83, 84] (by decide +kernel) (by decide +kernel)
set_option maxRecDepth 20000 in
theorem gX6_init_X5_init_n11 : GoodIn wsX6_init (wsX5_init) := ggX6_init_X5_init
set_option maxRecDepth 20000 in
theorem ggX6_init_X1_init : GoodIn wsX6_init wsX1_init := goodIn_r _ [40, 41, 2, 3, 42, 43, 44, 45, 46, 47, 48, 18, 19, 49, 50, 51, 52, 25, 53, 54, 55, 56, 57, 58, 59, 60, 61, 62, 63, 64, 94, 95, 96, 111, 112, 113, 114, 101, 102, 103, 104, 105, 106] (by decide +kernel) (by decide +kernel)
set_option maxRecDepth 20000 in
theorem gX6_init_X1_init : GoodIn wsX6_init (wsX1_init) := ggX6_init_X1_init
set_option maxRecDepth 20000 in
theorem ggX6_init_X4_init : GoodIn wsX6_init wsX4_init := goodIn_r _ [66, 67, 2, 3, 68, 69, 70, 71, 97, 98, 99, 100] (by decide +kernel) (by decide +kernel)
set_option maxRecDepth 20000 in
theorem gX6_init_X4_init_n29 : GoodIn wsX6_init (wsX4_init) := ggX6_init_X4_init
set_option maxRecDepth 20000 in
theorem ggX6_init_X0_init : GoodIn wsX6_init wsX0_init := goodIn_r _ [57, 58, 2, 3, 59, 60, 61, 62, 63, 64, 101, 102, 103, 104, 105, 106] (by decide +kernel) (by decide +kernel)
set_option maxRecDepth 20000 in
theorem gX6_init_X0_init_n36 : GoodIn wsX6_init (wsX0_init) := ggX6_init_X0_init
set_option maxRecDepth 20000 in
theorem ggX6_init_X3_init : GoodIn wsX6_init wsX3_init := goodIn_r _ [73, 74, 2, 3, 75, 25, 76, 77, 78, 107, 108, 109, 110] (by decide +kernel) (by decide +kernel)
set_option maxRecDepth 20000 in
theorem gX6_init_X3_init_n43 : GoodIn wsX6_init (wsX3_init) := ggX6_init_X3_init
theorem dX6_init_0 : decode cX6_init 0 = .ok (.aload_n 0, 1) := by decide +kernel
theorem dX6_init_1 : decode cX6_init 1 = .ok (.invokespecial 3, 3) := by decide +kernel
theorem dX6_init_4 : decode cX6_init 4 = .ok (.aload_n 0, 1) := by decide +kernel
theorem dX6_init_5 : decode cX6_init 5 = .ok (.new 9, 3) := by decide +kernel
theorem dX6_init_8 : decode cX6_init 8 = .ok (.dup, 1) := by decide +kernel
theorem dX6_init_9 : decode cX6_init 9 = .ok (.invokespecial 11, 3) := by decide +kernel
theorem dX6_init_12 : decode cX6_init 12 = .ok (.putfield 12, 3) := by decide +kernel
theorem dX6_init_15 : decode cX6_init 15 = .ok (.aload_n 0, 1) := by decide +kernel
theorem dX6_init_16 : decode cX6_init 16 = .ok (.new 16, 3) := by decide +kernel
theorem dX6_init_19 : decode cX6_init 19 = .ok (.dup, 1) := by decide +kernel
theorem dX6_init_20 : decode cX6_init 20 = .ok (.invokespecial 18, 3) := by decide +kernel
theorem dX6_init_23 : decode cX6_init 23 = .ok (.putfield 19, 3) := by decide +kernel
theorem dX6_init_26 : decode cX6_init 26 = .ok (.aload_n 0, 1) := by decide +kernel
theorem dX6_init_27 : decode cX6_init 27 = .ok (.iconst 2, 1) := by decide +kernel
theorem dX6_init_28 : decode cX6_init 28 = .ok (.anewarray 16, 3) := by decide +kernel
theorem dX6_init_31 : decode cX6_init 31 = .ok (.putfield 23, 3) := by decide +kernel
theorem dX6_init_34 : decode cX6_init 34 = .ok (.aload_n 0, 1) := by decide +kernel
theorem dX6_init_35 : decode cX6_init 35 = .ok (.new 27, 3) := by decide +kernel
theorem dX6_init_38 : decode cX6_init 38 = .ok (.dup, 1) := by decide +kernel
theorem dX6_init_39 : decode cX6_init 39 = .ok (.invokespecial 29, 3) := by decide +kernel
theorem dX6_init_42 : decode cX6_init 42 = .ok (.putfield 30, 3) := by decide +kernel
theorem dX6_init_45 : decode cX6_init 45 = .ok (.aload_n 0, 1) := by decide +kernel
theorem dX6_init_46 : decode cX6_init 46 = .ok (.new 34, 3) := by decide +kernel
theorem dX6_init_49 : decode cX6_init 49 = .ok (.dup, 1) := by decide +kernel
theorem dX6_init_50 : decode cX6_init 50 = .ok (.invokespecial 36, 3) := by decide +kernel
theorem dX6_init_53 : decode cX6_init 53 = .ok (.putfield 37, 3) := by decide +kernel
theorem dX6_init_56 : decode cX6_init 56 = .ok (.aload_n 0, 1) := by decide +kernel
theorem dX6_init_57 : decode cX6_init 57 = .ok (.new 41, 3) := by decide +kernel
theorem dX6_init_60 : decode cX6_init 60 = .ok (.dup, 1) := by decide +kernel
theorem dX6_init_61 : decode cX6_init 61 = .ok (.invokespecial 43, 3) := by decide +kernel
theorem dX6_init_64 : decode cX6_init 64 = .ok (.putfield 44, 3) := by decide +kernel
theorem dX6_init_67 : decode cX6_init 67 = .ok (.aload_n 0, 1) := by decide +kernel
theorem dX6_init_68 : decode cX6_init 68 = .ok (.sipush 4320, 3) := by decide +kernel
theorem dX6_init_71 : decode cX6_init 71 = .ok (.newarray .int, 2) := by decide +kernel
theorem dX6_init_73 : decode cX6_init 73 = .ok (.putfield 48, 3) := by decide +kernel
theorem dX6_init_76 : decode cX6_init 76 = .ok (.aload_n 0, 1) := by decide +kernel
theorem dX6_init_77 : decode cX6_init 77 = .ok (.iconst 0, 1) := by decide +kernel
theorem dX6_init_78 : decode cX6_init 78 = .ok (.putfield 52, 3) := by decide +kernel
theorem dX6_init_81 : decode cX6_init 81 = .ok (.aload_n 0, 1) := by decide +kernel
theorem dX6_init_82 : decode cX6_init 82 = .ok (.sipush 720, 3) := by decide +kernel
theorem dX6_init_85 : decode cX6_init 85 = .ok (.newarray .int, 2) := by decide +kernel
theorem dX6_init_87 : decode cX6_init 87 = .ok (.putfield 56, 3) := by decide +kernel
theorem dX6_init_90 : decode cX6_init 90 = .ok (.iconst 0, 1) := by decide +kernel
theorem dX6_init_91 : decode cX6_init 91 = .ok (.istore_n 1, 1) := by decide +kernel
theorem dX6_init_92 : decode cX6_init 92 = .ok (.iload_n 1, 1) := by decide +kernel
theorem dX6_init_93 : decode cX6_init 93 = .ok (.iconst 2, 1) := by decide +kernel
theorem dX6_init_94 : decode cX6_init 94 = .ok (.if_icmp .ge 22, 3) := by decide +kernel
theorem dX6_init_97 : decode cX6_init 97 = .ok (.aload_n 0, 1) := by decide +kernel
theorem dX6_init_98 : decode cX6_init 98 = .ok (.getfield 23, 3) := by decide +kernel
theorem dX6_init_101 : decode cX6_init 101 = .ok (.iload_n 1, 1) := by decide +kernel
theorem dX6_init_102 : decode cX6_init 102 = .ok (.new 16, 3) := by decide +kernel
theorem dX6_init_105 : decode cX6_init 105 = .ok (.dup, 1) := by decide +kernel
theorem dX6_init_106 : decode cX6_init 106 = .ok (.invokespecial 18, 3) := by decide +kernel
theorem dX6_init_109 : decode cX6_init 109 = .ok (.aastore, 1) := by decide +kernel
theorem dX6_init_110 : decode cX6_init 110 = .ok (.iinc 1 1, 3) := by decide +kernel
theorem dX6_init_113 : decode cX6_init 113 = .ok (.goto (-21), 3) := by decide +kernel
theorem dX6_init_116 : decode cX6_init 116 = .ok (.return_, 1) := by decide +kernel
set_option maxRecDepth 20000 in
theorem ggX6_write_X5_put : GoodIn wsX6_write wsX5_put := goodIn_r _ [8, 9, 10, 20, 21, 22, 23, 24, 25] (by decide +kernel) (by decide +kernel)
set_option maxRecDepth 20000 in
theorem gX6_write_X5_put : GoodIn wsX6_write (wsV RX6 65 RX5 yX5_put wsX5_put) := goodIn_app (goodIn_of _ (by decide +kernel)) ggX6_write_X5_put
theorem dX6_write_0 : decode cX6_write 0 = .ok (.iload_n 3, 1) := by decide +kernel
theorem dX6_write_1 : decode cX6_write 1 = .ok (.iconst 1, 1) := by decide +kernel
theorem dX6_write_2 : decode cX6_write 2 = .ok (.if_icmp .lt 9, 3) := by decide +kernel
theorem dX6_write_5 : decode cX6_write 5 = .ok (.iload_n 3, 1) := by decide +kernel
theorem dX6_write_6 : decode cX6_write 6 = .ok (.bipush 8, 2) := by decide +kernel
theorem dX6_write_8 : decode cX6_write 8 = .ok (.if_icmp .le 6, 3) := by decide +kernel
theorem dX6_write_11 : decode cX6_write 11 = .ok (.bipush (-3), 2) := by decide +kernel
theorem dX6_write_13 : decode cX6_write 13 = .ok (.ireturn, 1) := by decide +kernel
theorem dX6_write_14 : decode cX6_write 14 = .ok (.aload_n 0, 1) := by decide +kernel
theorem dX6_write_15 : decode cX6_write 15 = .ok (.getfield 12, 3) := by decide +kernel
theorem dX6_write_18 : decode cX6_write 18 = .ok (.getfield 59, 3) := by decide +kernel
theorem dX6_write_21 : decode cX6_write 21 = .ok (.iload_n 3, 1) := by decide +kernel
theorem dX6_write_22 : decode cX6_write 22 = .ok (.iadd, 1) := by decide +kernel
theorem dX6_write_23 : decode cX6_write 23 = .ok (.sipush 200, 3) := by decide +kernel
theorem dX6_write_26 : decode cX6_write 26 = .ok (.if_icmp .le 6, 3) := by decide +kernel
theorem dX6_write_29 : decode cX6_write 29 = .ok (.bipush (-5), 2) := by decide +kernel
theorem dX6_write_31 : decode cX6_write 31 = .ok (.ireturn, 1) := by decide +kernel
theorem dX6_write_32 : decode cX6_write 32 = .ok (.iconst 0, 1) := by decide +kernel
theorem dX6_write_33 : decode cX6_write 33 = .ok (.istore 4, 2) := by decide +kernel
theorem dX6_write_35 : decode cX6_write 35 = .ok (.iload 4, 2) := by decide +kernel
theorem dX6_write_37 : decode cX6_write 37 = .ok (.iload_n 3, 1) := by decide +kernel
theorem dX6_write_38 : decode cX6_write 38 = .ok (.if_icmp .ge 28, 3) := by decide +kernel
theorem dX6_write_41 : decode cX6_write 41 = .ok (.aload_n 0, 1) := by decide +kernel
theorem dX6_write_42 : decode cX6_write 42 = .ok (.getfield 12, 3) := by decide +kernel
theorem dX6_write_45 : decode cX6_write 45 = .ok (.lload_n 1, 1) := by decide +kernel
theorem dX6_write_46 : decode cX6_write 46 = .ok (.bipush 8, 2) := by decide +kernel
theorem dX6_write_48 : decode cX6_write 48 = .ok (.iload 4, 2) := by decide +kernel
theorem dX6_write_50 : decode cX6_write 50 = .ok (.imul, 1) := by decide +kernel
theorem dX6_write_51 : decode cX6_write 51 = .ok (.lshr, 1) := by decide +kernel
theorem dX6_write_52 : decode cX6_write 52 = .ok (.ldc2_w 63, 3) := by decide +kernel
theorem dX6_write_55 : decode cX6_write 55 = .ok (.land, 1) := by decide +kernel
theorem dX6_write_56 : decode cX6_write 56 = .ok (.l2i, 1) := by decide +kernel
theorem dX6_write_57 : decode cX6_write 57 = .ok (.invokevirtual 65, 3) := by decide +kernel
theorem dX6_write_60 : decode cX6_write 60 = .ok (.iinc 4 1, 3) := by decide +kernel
theorem dX6_write_63 : decode cX6_write 63 = .ok (.goto (-28), 3) := by decide +kernel
theorem dX6_write_66 : decode cX6_write 66 = .ok (.aload_n 0, 1) := by decide +kernel
theorem dX6_write_67 : decode cX6_write 67 = .ok (.getfield 12, 3) := by decide +kernel
theorem dX6_write_70 : decode cX6_write 70 = .ok (.getfield 59, 3) := by decide +kernel
theorem dX6_write_73 : decode cX6_write 73 = .ok (.ireturn, 1) := by decide +kernel
theorem dX6_erase_0 : decode cX6_erase 0 = .ok (.aload_n 0, 1) := by decide +kernel
theorem dX6_erase_1 : decode cX6_erase 1 = .ok (.getfield 12, 3) := by decide +kernel
theorem dX6_erase_4 : decode cX6_erase 4 = .ok (.getfield 59, 3) := by decide +kernel
theorem dX6_erase_7 : decode cX6_erase 7 = .ok (.istore_n 1, 1) := by decide +kernel
theorem dX6_erase_8 : decode cX6_erase 8 = .ok (.aload_n 0, 1) := by decide +kernel
theorem dX6_erase_9 : decode cX6_erase 9 = .ok (.getfield 12, 3) := by decide +kernel
theorem dX6_erase_12 : decode cX6_erase 12 = .ok (.iconst 0, 1) := by decide +kernel
theorem dX6_erase_13 : decode cX6_erase 13 = .ok (.putfield 59, 3) := by decide +kernel
theorem dX6_erase_16 : decode cX6_erase 16 = .ok (.iload_n 1, 1) := by decide +kernel
theorem dX6_erase_17 : decode cX6_erase 17 = .ok (.ireturn, 1) := by decide +kernel
set_option maxRecDepth 20000 in
theorem ggX6_fault_X1_toldBits : GoodIn wsX6_fault wsX1_toldBits := goodIn_r _ [7, 8, 9, 129, 130, 131, 132, 133, 134, 135, 136, 137] (by decide +kernel) (by decide +kernel)
set_option maxRecDepth 20000 in
theorem gX6_fault_X1_toldBits : GoodIn wsX6_fault (wsV RX6 69 RX1 yX1_toldBits wsX1_toldBits) := goodIn_app (goodIn_of _ (by decide +kernel)) ggX6_fault_X1_toldBits
set_option maxRecDepth 20000 in
theorem ggX6_fault_X5_findFault : GoodIn wsX6_fault wsX5_findFault := goodIn_r _ [14, 15, 16, 17, 18, 19, 20, 21, 13, 22, 23, 24, 25, 26, 27, 28, 29, 30, 31, 32, 33, 34, 35, 36, 37, 38, 39, 40, 41, 42, 43, 44, 45, 46, 47, 48, 49, 50, 51, 52, 53, 54, 55, 56, 57, 58, 59, 60, 61, 62, 63, 64, 65, 66, 67, 68, 69, 70, 71, 72, 73, 74, 75, 76, 77, 78, 79, 80, 81, 82, 83, 84, 85, 86, 87, 88, 89, 90, 91, 92, 93, 94, 95, 96, 97, 98, 99, 100, 101, 102, 103, 104, 105, 106, 107, 108, 109, 110, 111, 112, 113, 114, 115, 116, 117, 118, 119, 138, 139, 140, 141, 142, 143] (by decide +kernel) (by decide +kernel)
set_option maxRecDepth 20000 in
theorem gX6_fault_X5_findFault : GoodIn wsX6_fault (wsV RX6 73 RX5 yX5_findFault wsX5_findFault) := goodIn_app (goodIn_of _ (by decide +kernel)) ggX6_fault_X5_findFault
theorem dX6_fault_0 : decode cX6_fault 0 = .ok (.aload_n 0, 1) := by decide +kernel
theorem dX6_fault_1 : decode cX6_fault 1 = .ok (.getfield 12, 3) := by decide +kernel
theorem dX6_fault_4 : decode cX6_fault 4 = .ok (.aload_n 0, 1) := by decide +kernel
theorem dX6_fault_5 : decode cX6_fault 5 = .ok (.getfield 19, 3) := by decide +kernel
theorem dX6_fault_8 : decode cX6_fault 8 = .ok (.invokevirtual 69, 3) := by decide +kernel
theorem dX6_fault_11 : decode cX6_fault 11 = .ok (.invokevirtual 73, 3) := by decide +kernel
theorem dX6_fault_14 : decode cX6_fault 14 = .ok (.ireturn, 1) := by decide +kernel
set_option maxRecDepth 20000 in
theorem ggX6_house_X1_toldBits : GoodIn wsX6_house wsX1_toldBits := goodIn_r _ [10, 11, 12, 159, 160, 161, 162, 163, 164, 165, 166, 167] (by decide +kernel) (by decide +kernel)
set_option maxRecDepth 20000 in
theorem gX6_house_X1_toldBits : GoodIn wsX6_house (wsV RX6 69 RX1 yX1_toldBits wsX1_toldBits) := goodIn_app (goodIn_of _ (by decide +kernel)) ggX6_house_X1_toldBits
set_option maxRecDepth 20000 in
theorem ggX6_house_X5_findFault : GoodIn wsX6_house wsX5_findFault := goodIn_r _ [17, 18, 19, 20, 21, 22, 23, 24, 16, 25, 26, 27, 28, 29, 30, 31, 32, 33, 34, 35, 36, 37, 38, 39, 40, 41, 42, 43, 44, 45, 46, 47, 48, 49, 50, 51, 52, 53, 54, 55, 56, 57, 58, 59, 60, 61, 62, 63, 64, 65, 66, 67, 68, 69, 70, 71, 72, 73, 74, 75, 76, 77, 78, 79, 80, 81, 82, 83, 84, 85, 86, 87, 88, 89, 90, 91, 92, 93, 94, 95, 96, 97, 98, 99, 100, 101, 102, 103, 104, 105, 106, 107, 108, 109, 110, 111, 112, 113, 114, 115, 116, 117, 118, 119, 120, 121, 122, 153, 154, 155, 156, 157, 158] (by decide +kernel) (by decide +kernel)
set_option maxRecDepth 20000 in
theorem gX6_house_X5_findFault : GoodIn wsX6_house (wsV RX6 73 RX5 yX5_findFault wsX5_findFault) := goodIn_app (goodIn_of _ (by decide +kernel)) ggX6_house_X5_findFault
set_option maxRecDepth 20000 in
theorem ggX6_house_X1_heed : GoodIn wsX6_house wsX1_heed := goodIn_r _ [126, 11, 127, 128, 120, 121, 16, 122, 26, 102, 103, 104, 129, 130, 131, 9, 132, 133, 134, 135, 136, 137, 138, 139, 140, 141, 142, 143, 159, 160, 161, 162, 163, 164, 165, 166, 167, 153, 154, 155, 156, 157, 158] (by decide +kernel) (by decide +kernel)
set_option maxRecDepth 20000 in
theorem gX6_house_X1_heed : GoodIn wsX6_house (wsV RX6 80 RX1 yX1_heed wsX1_heed) := goodIn_app (goodIn_of _ (by decide +kernel)) ggX6_house_X1_heed
theorem dX6_house_0 : decode cX6_house 0 = .ok (.aload_n 0, 1) := by decide +kernel
theorem dX6_house_1 : decode cX6_house 1 = .ok (.getfield 12, 3) := by decide +kernel
theorem dX6_house_4 : decode cX6_house 4 = .ok (.aload_n 0, 1) := by decide +kernel
theorem dX6_house_5 : decode cX6_house 5 = .ok (.getfield 19, 3) := by decide +kernel
theorem dX6_house_8 : decode cX6_house 8 = .ok (.invokevirtual 69, 3) := by decide +kernel
theorem dX6_house_11 : decode cX6_house 11 = .ok (.invokevirtual 73, 3) := by decide +kernel
theorem dX6_house_14 : decode cX6_house 14 = .ok (.iconst (-1), 1) := by decide +kernel
theorem dX6_house_15 : decode cX6_house 15 = .ok (.if_icmp .eq 6, 3) := by decide +kernel
theorem dX6_house_18 : decode cX6_house 18 = .ok (.bipush (-4), 2) := by decide +kernel
theorem dX6_house_20 : decode cX6_house 20 = .ok (.ireturn, 1) := by decide +kernel
theorem dX6_house_21 : decode cX6_house 21 = .ok (.iconst 0, 1) := by decide +kernel
theorem dX6_house_22 : decode cX6_house 22 = .ok (.istore_n 1, 1) := by decide +kernel
theorem dX6_house_23 : decode cX6_house 23 = .ok (.iload_n 1, 1) := by decide +kernel
theorem dX6_house_24 : decode cX6_house 24 = .ok (.aload_n 0, 1) := by decide +kernel
theorem dX6_house_25 : decode cX6_house 25 = .ok (.getfield 12, 3) := by decide +kernel
theorem dX6_house_28 : decode cX6_house 28 = .ok (.getfield 77, 3) := by decide +kernel
theorem dX6_house_31 : decode cX6_house 31 = .ok (.if_icmp .ge 21, 3) := by decide +kernel
theorem dX6_house_34 : decode cX6_house 34 = .ok (.aload_n 0, 1) := by decide +kernel
theorem dX6_house_35 : decode cX6_house 35 = .ok (.getfield 19, 3) := by decide +kernel
theorem dX6_house_38 : decode cX6_house 38 = .ok (.aload_n 0, 1) := by decide +kernel
theorem dX6_house_39 : decode cX6_house 39 = .ok (.getfield 12, 3) := by decide +kernel
theorem dX6_house_42 : decode cX6_house 42 = .ok (.iload_n 1, 1) := by decide +kernel
theorem dX6_house_43 : decode cX6_house 43 = .ok (.invokevirtual 80, 3) := by decide +kernel
theorem dX6_house_46 : decode cX6_house 46 = .ok (.iinc 1 1, 3) := by decide +kernel
theorem dX6_house_49 : decode cX6_house 49 = .ok (.goto (-26), 3) := by decide +kernel
theorem dX6_house_52 : decode cX6_house 52 = .ok (.aload_n 0, 1) := by decide +kernel
theorem dX6_house_53 : decode cX6_house 53 = .ok (.iconst 0, 1) := by decide +kernel
theorem dX6_house_54 : decode cX6_house 54 = .ok (.putfield 52, 3) := by decide +kernel
theorem dX6_house_57 : decode cX6_house 57 = .ok (.aload_n 0, 1) := by decide +kernel
theorem dX6_house_58 : decode cX6_house 58 = .ok (.getfield 12, 3) := by decide +kernel
theorem dX6_house_61 : decode cX6_house 61 = .ok (.iconst 0, 1) := by decide +kernel
theorem dX6_house_62 : decode cX6_house 62 = .ok (.putfield 59, 3) := by decide +kernel
theorem dX6_house_65 : decode cX6_house 65 = .ok (.aload_n 0, 1) := by decide +kernel
theorem dX6_house_66 : decode cX6_house 66 = .ok (.getfield 12, 3) := by decide +kernel
theorem dX6_house_69 : decode cX6_house 69 = .ok (.getfield 77, 3) := by decide +kernel
theorem dX6_house_72 : decode cX6_house 72 = .ok (.ireturn, 1) := by decide +kernel
set_option maxRecDepth 20000 in
theorem ggX6_clock_X1_toldClock : GoodIn wsX6_clock wsX1_toldClock := goodIn_r _ [12, 13, 14, 15, 16, 17, 33, 34, 35, 27, 28, 29, 30, 31, 32] (by decide +kernel) (by decide +kernel)
set_option maxRecDepth 20000 in
theorem gX6_clock_X1_toldClock : GoodIn wsX6_clock (wsV RX6 84 RX1 yX1_toldClock wsX1_toldClock) := goodIn_app (goodIn_of _ (by decide +kernel)) ggX6_clock_X1_toldClock
theorem dX6_clock_0 : decode cX6_clock 0 = .ok (.aload_n 0, 1) := by decide +kernel
theorem dX6_clock_1 : decode cX6_clock 1 = .ok (.getfield 19, 3) := by decide +kernel
theorem dX6_clock_4 : decode cX6_clock 4 = .ok (.iload_n 1, 1) := by decide +kernel
theorem dX6_clock_5 : decode cX6_clock 5 = .ok (.invokevirtual 84, 3) := by decide +kernel
theorem dX6_clock_8 : decode cX6_clock 8 = .ok (.astore_n 3, 1) := by decide +kernel
theorem dX6_clock_9 : decode cX6_clock 9 = .ok (.aload_n 3, 1) := by decide +kernel
theorem dX6_clock_10 : decode cX6_clock 10 = .ok (.ifnonnull 6, 3) := by decide +kernel
theorem dX6_clock_13 : decode cX6_clock 13 = .ok (.bipush (-2), 2) := by decide +kernel
theorem dX6_clock_15 : decode cX6_clock 15 = .ok (.ireturn, 1) := by decide +kernel
theorem dX6_clock_16 : decode cX6_clock 16 = .ok (.aload_n 3, 1) := by decide +kernel
theorem dX6_clock_17 : decode cX6_clock 17 = .ok (.getfield 88, 3) := by decide +kernel
theorem dX6_clock_20 : decode cX6_clock 20 = .ok (.iconst 2, 1) := by decide +kernel
theorem dX6_clock_21 : decode cX6_clock 21 = .ok (.if_icmp .ne 7, 3) := by decide +kernel
theorem dX6_clock_24 : decode cX6_clock 24 = .ok (.iconst 1, 1) := by decide +kernel
theorem dX6_clock_25 : decode cX6_clock 25 = .ok (.goto 4, 3) := by decide +kernel
theorem dX6_clock_28 : decode cX6_clock 28 = .ok (.iconst 0, 1) := by decide +kernel
theorem dX6_clock_29 : decode cX6_clock 29 = .ok (.istore 4, 2) := by decide +kernel
theorem dX6_clock_31 : decode cX6_clock 31 = .ok (.iload_n 2, 1) := by decide +kernel
theorem dX6_clock_32 : decode cX6_clock 32 = .ok (.tableswitch 103 0 5 #[40, 45, 59, 64, 81, 98], 40) := by decide +kernel
theorem dX6_clock_72 : decode cX6_clock 72 = .ok (.aload_n 3, 1) := by decide +kernel
theorem dX6_clock_73 : decode cX6_clock 73 = .ok (.getfield 88, 3) := by decide +kernel
theorem dX6_clock_76 : decode cX6_clock 76 = .ok (.ireturn, 1) := by decide +kernel
theorem dX6_clock_77 : decode cX6_clock 77 = .ok (.iload 4, 2) := by decide +kernel
theorem dX6_clock_79 : decode cX6_clock 79 = .ok (.ifCond .eq 7, 3) := by decide +kernel
theorem dX6_clock_82 : decode cX6_clock 82 = .ok (.iconst (-1), 1) := by decide +kernel
theorem dX6_clock_83 : decode cX6_clock 83 = .ok (.goto 7, 3) := by decide +kernel
theorem dX6_clock_86 : decode cX6_clock 86 = .ok (.aload_n 3, 1) := by decide +kernel
theorem dX6_clock_87 : decode cX6_clock 87 = .ok (.getfield 91, 3) := by decide +kernel
theorem dX6_clock_90 : decode cX6_clock 90 = .ok (.ireturn, 1) := by decide +kernel
theorem dX6_clock_91 : decode cX6_clock 91 = .ok (.aload_n 3, 1) := by decide +kernel
theorem dX6_clock_92 : decode cX6_clock 92 = .ok (.getfield 94, 3) := by decide +kernel
theorem dX6_clock_95 : decode cX6_clock 95 = .ok (.ireturn, 1) := by decide +kernel
theorem dX6_clock_96 : decode cX6_clock 96 = .ok (.iload 4, 2) := by decide +kernel
theorem dX6_clock_98 : decode cX6_clock 98 = .ok (.ifCond .eq 7, 3) := by decide +kernel
theorem dX6_clock_101 : decode cX6_clock 101 = .ok (.iconst (-1), 1) := by decide +kernel
theorem dX6_clock_102 : decode cX6_clock 102 = .ok (.goto 10, 3) := by decide +kernel
theorem dX6_clock_105 : decode cX6_clock 105 = .ok (.aload_n 3, 1) := by decide +kernel
theorem dX6_clock_106 : decode cX6_clock 106 = .ok (.getfield 97, 3) := by decide +kernel
theorem dX6_clock_109 : decode cX6_clock 109 = .ok (.bipush 120, 2) := by decide +kernel
theorem dX6_clock_111 : decode cX6_clock 111 = .ok (.iadd, 1) := by decide +kernel
theorem dX6_clock_112 : decode cX6_clock 112 = .ok (.ireturn, 1) := by decide +kernel
theorem dX6_clock_113 : decode cX6_clock 113 = .ok (.iload 4, 2) := by decide +kernel
theorem dX6_clock_115 : decode cX6_clock 115 = .ok (.ifCond .eq 7, 3) := by decide +kernel
theorem dX6_clock_118 : decode cX6_clock 118 = .ok (.iconst (-1), 1) := by decide +kernel
theorem dX6_clock_119 : decode cX6_clock 119 = .ok (.goto 10, 3) := by decide +kernel
theorem dX6_clock_122 : decode cX6_clock 122 = .ok (.aload_n 3, 1) := by decide +kernel
theorem dX6_clock_123 : decode cX6_clock 123 = .ok (.getfield 100, 3) := by decide +kernel
theorem dX6_clock_126 : decode cX6_clock 126 = .ok (.bipush 120, 2) := by decide +kernel
theorem dX6_clock_128 : decode cX6_clock 128 = .ok (.iadd, 1) := by decide +kernel
theorem dX6_clock_129 : decode cX6_clock 129 = .ok (.ireturn, 1) := by decide +kernel
theorem dX6_clock_130 : decode cX6_clock 130 = .ok (.aload_n 3, 1) := by decide +kernel
theorem dX6_clock_131 : decode cX6_clock 131 = .ok (.getfield 103, 3) := by decide +kernel
theorem dX6_clock_134 : decode cX6_clock 134 = .ok (.ireturn, 1) := by decide +kernel
theorem dX6_clock_135 : decode cX6_clock 135 = .ok (.bipush (-3), 2) := by decide +kernel
theorem dX6_clock_137 : decode cX6_clock 137 = .ok (.ireturn, 1) := by decide +kernel
set_option maxRecDepth 20000 in
theorem ggX6_shows_X1_toldClock : GoodIn wsX6_shows wsX1_toldClock := goodIn_r _ [8, 9, 10, 11, 12, 13, 53, 54, 55, 47, 48, 49, 50, 51, 52] (by decide +kernel) (by decide +kernel)
set_option maxRecDepth 20000 in
theorem gX6_shows_X1_toldClock : GoodIn wsX6_shows (wsV RX6 84 RX1 yX1_toldClock wsX1_toldClock) := goodIn_app (goodIn_of _ (by decide +kernel)) ggX6_shows_X1_toldClock
set_option maxRecDepth 20000 in
theorem ggX6_shows_X6_isBelow : GoodIn wsX6_shows wsX6_isBelow := goodIn_r _ [13] (by decide +kernel) (by decide +kernel)
set_option maxRecDepth 20000 in
theorem gX6_shows_X6_isBelow : GoodIn wsX6_shows (va_wsS RX6 106 yX6_isBelow wsX6_isBelow) := goodIn_app (goodIn_of _ (by decide +kernel)) ggX6_shows_X6_isBelow
set_option maxRecDepth 20000 in
theorem ggX6_shows_X0_dialAt : GoodIn wsX6_shows wsX0_dialAt := goodIn_r _ [19, 20, 21, 22, 18, 23, 24, 25, 26, 27, 28, 29, 30, 31, 32, 33, 34, 35, 36, 37, 47, 48, 49, 50, 51, 52] (by decide +kernel) (by decide +kernel)
set_option maxRecDepth 20000 in
theorem gX6_shows_X0_dialAt : GoodIn wsX6_shows (wsV RX6 110 RX0 yX0_dialAt wsX0_dialAt) := goodIn_app (goodIn_of _ (by decide +kernel)) ggX6_shows_X0_dialAt
theorem dX6_shows_0 : decode cX6_shows 0 = .ok (.aload_n 0, 1) := by decide +kernel
theorem dX6_shows_1 : decode cX6_shows 1 = .ok (.getfield 19, 3) := by decide +kernel
theorem dX6_shows_4 : decode cX6_shows 4 = .ok (.iload_n 1, 1) := by decide +kernel
theorem dX6_shows_5 : decode cX6_shows 5 = .ok (.invokevirtual 84, 3) := by decide +kernel
theorem dX6_shows_8 : decode cX6_shows 8 = .ok (.astore 4, 2) := by decide +kernel
theorem dX6_shows_10 : decode cX6_shows 10 = .ok (.aload 4, 2) := by decide +kernel
theorem dX6_shows_12 : decode cX6_shows 12 = .ok (.ifnonnull 6, 3) := by decide +kernel
theorem dX6_shows_15 : decode cX6_shows 15 = .ok (.bipush (-2), 2) := by decide +kernel
theorem dX6_shows_17 : decode cX6_shows 17 = .ok (.ireturn, 1) := by decide +kernel
theorem dX6_shows_18 : decode cX6_shows 18 = .ok (.iload_n 2, 1) := by decide +kernel
theorem dX6_shows_19 : decode cX6_shows 19 = .ok (.sipush 4320, 3) := by decide +kernel
theorem dX6_shows_22 : decode cX6_shows 22 = .ok (.invokestatic 106, 3) := by decide +kernel
theorem dX6_shows_25 : decode cX6_shows 25 = .ok (.ifCond .eq 11, 3) := by decide +kernel
theorem dX6_shows_28 : decode cX6_shows 28 = .ok (.iload_n 3, 1) := by decide +kernel
theorem dX6_shows_29 : decode cX6_shows 29 = .ok (.iconst 2, 1) := by decide +kernel
theorem dX6_shows_30 : decode cX6_shows 30 = .ok (.invokestatic 106, 3) := by decide +kernel
theorem dX6_shows_33 : decode cX6_shows 33 = .ok (.ifCond .ne 6, 3) := by decide +kernel
theorem dX6_shows_36 : decode cX6_shows 36 = .ok (.bipush (-3), 2) := by decide +kernel
theorem dX6_shows_38 : decode cX6_shows 38 = .ok (.ireturn, 1) := by decide +kernel
theorem dX6_shows_39 : decode cX6_shows 39 = .ok (.aload 4, 2) := by decide +kernel
theorem dX6_shows_41 : decode cX6_shows 41 = .ok (.iload_n 2, 1) := by decide +kernel
theorem dX6_shows_42 : decode cX6_shows 42 = .ok (.iload_n 3, 1) := by decide +kernel
theorem dX6_shows_43 : decode cX6_shows 43 = .ok (.ifCond .ne 11, 3) := by decide +kernel
theorem dX6_shows_46 : decode cX6_shows 46 = .ok (.aload 4, 2) := by decide +kernel
theorem dX6_shows_48 : decode cX6_shows 48 = .ok (.getfield 97, 3) := by decide +kernel
theorem dX6_shows_51 : decode cX6_shows 51 = .ok (.goto 8, 3) := by decide +kernel
theorem dX6_shows_54 : decode cX6_shows 54 = .ok (.aload 4, 2) := by decide +kernel
theorem dX6_shows_56 : decode cX6_shows 56 = .ok (.getfield 100, 3) := by decide +kernel
theorem dX6_shows_59 : decode cX6_shows 59 = .ok (.invokevirtual 110, 3) := by decide +kernel
theorem dX6_shows_62 : decode cX6_shows 62 = .ok (.ireturn, 1) := by decide +kernel
set_option maxRecDepth 20000 in
theorem ggX6_can_X1_toldClock : GoodIn wsX6_can wsX1_toldClock := goodIn_r _ [6, 7, 8, 9, 10, 11, 54, 55, 56, 57, 58, 59, 60, 61, 62] (by decide +kernel) (by decide +kernel)
set_option maxRecDepth 20000 in
theorem gX6_can_X1_toldClock : GoodIn wsX6_can (wsV RX6 84 RX1 yX1_toldClock wsX1_toldClock) := goodIn_app (goodIn_of _ (by decide +kernel)) ggX6_can_X1_toldClock
set_option maxRecDepth 20000 in
theorem ggX6_can_X6_isBelow : GoodIn wsX6_can wsX6_isBelow := goodIn_r _ [11] (by decide +kernel) (by decide +kernel)
set_option maxRecDepth 20000 in
theorem gX6_can_X6_isBelow : GoodIn wsX6_can (va_wsS RX6 106 yX6_isBelow wsX6_isBelow) := goodIn_app (goodIn_of _ (by decide +kernel)) ggX6_can_X6_isBelow
set_option maxRecDepth 20000 in
theorem ggX6_can_X0_canShow : GoodIn wsX6_can wsX0_canShow := goodIn_r _ [17, 18, 19, 20, 21, 22, 23, 24, 25, 26, 27, 28, 29, 16, 30, 31, 32, 33, 34, 35, 36, 37, 38, 39, 40, 41, 42, 43, 44, 57, 58, 59, 60, 61, 62] (by decide +kernel) (by decide +kernel)
set_option maxRecDepth 20000 in
theorem gX6_can_X0_canShow : GoodIn wsX6_can (wsV RX6 114 RX0 yX0_canShow wsX0_canShow) := goodIn_app (goodIn_of _ (by decide +kernel)) ggX6_can_X0_canShow
theorem dX6_can_0 : decode cX6_can 0 = .ok (.aload_n 0, 1) := by decide +kernel
theorem dX6_can_1 : decode cX6_can 1 = .ok (.getfield 19, 3) := by decide +kernel
theorem dX6_can_4 : decode cX6_can 4 = .ok (.iload_n 1, 1) := by decide +kernel
theorem dX6_can_5 : decode cX6_can 5 = .ok (.invokevirtual 84, 3) := by decide +kernel
theorem dX6_can_8 : decode cX6_can 8 = .ok (.astore 4, 2) := by decide +kernel
theorem dX6_can_10 : decode cX6_can 10 = .ok (.aload 4, 2) := by decide +kernel
theorem dX6_can_12 : decode cX6_can 12 = .ok (.ifnonnull 6, 3) := by decide +kernel
theorem dX6_can_15 : decode cX6_can 15 = .ok (.bipush (-2), 2) := by decide +kernel
theorem dX6_can_17 : decode cX6_can 17 = .ok (.ireturn, 1) := by decide +kernel
theorem dX6_can_18 : decode cX6_can 18 = .ok (.iload_n 2, 1) := by decide +kernel
theorem dX6_can_19 : decode cX6_can 19 = .ok (.sipush 4320, 3) := by decide +kernel
theorem dX6_can_22 : decode cX6_can 22 = .ok (.invokestatic 106, 3) := by decide +kernel
theorem dX6_can_25 : decode cX6_can 25 = .ok (.ifCond .eq 13, 3) := by decide +kernel
theorem dX6_can_28 : decode cX6_can 28 = .ok (.iload_n 3, 1) := by decide +kernel
theorem dX6_can_29 : decode cX6_can 29 = .ok (.sipush 720, 3) := by decide +kernel
theorem dX6_can_32 : decode cX6_can 32 = .ok (.invokestatic 106, 3) := by decide +kernel
theorem dX6_can_35 : decode cX6_can 35 = .ok (.ifCond .ne 6, 3) := by decide +kernel
theorem dX6_can_38 : decode cX6_can 38 = .ok (.bipush (-3), 2) := by decide +kernel
theorem dX6_can_40 : decode cX6_can 40 = .ok (.ireturn, 1) := by decide +kernel
theorem dX6_can_41 : decode cX6_can 41 = .ok (.aload 4, 2) := by decide +kernel
theorem dX6_can_43 : decode cX6_can 43 = .ok (.iload_n 2, 1) := by decide +kernel
theorem dX6_can_44 : decode cX6_can 44 = .ok (.iload_n 3, 1) := by decide +kernel
theorem dX6_can_45 : decode cX6_can 45 = .ok (.invokevirtual 114, 3) := by decide +kernel
theorem dX6_can_48 : decode cX6_can 48 = .ok (.ifCond .eq 7, 3) := by decide +kernel
theorem dX6_can_51 : decode cX6_can 51 = .ok (.iconst 1, 1) := by decide +kernel
theorem dX6_can_52 : decode cX6_can 52 = .ok (.goto 4, 3) := by decide +kernel
theorem dX6_can_55 : decode cX6_can 55 = .ok (.iconst 0, 1) := by decide +kernel
theorem dX6_can_56 : decode cX6_can 56 = .ok (.ireturn, 1) := by decide +kernel
set_option maxRecDepth 20000 in
theorem ggX6_fits_X6_isBelow : GoodIn wsX6_fits wsX6_isBelow := goodIn_r _ [5] (by decide +kernel) (by decide +kernel)
set_option maxRecDepth 20000 in
theorem gX6_fits_X6_isBelow : GoodIn wsX6_fits (va_wsS RX6 106 yX6_isBelow wsX6_isBelow) := goodIn_app (goodIn_of _ (by decide +kernel)) ggX6_fits_X6_isBelow
set_option maxRecDepth 20000 in
theorem ggX6_fits_X1_readBits : GoodIn wsX6_fits wsX1_readBits := goodIn_r _ [10, 11, 12, 58, 59, 60, 61, 62, 63, 64, 65, 66] (by decide +kernel) (by decide +kernel)
set_option maxRecDepth 20000 in
theorem gX6_fits_X1_readBits : GoodIn wsX6_fits (wsV RX6 117 RX1 yX1_readBits wsX1_readBits) := goodIn_app (goodIn_of _ (by decide +kernel)) ggX6_fits_X1_readBits
set_option maxRecDepth 20000 in
theorem ggX6_fits_X1_misfitsAt : GoodIn wsX6_fits wsX1_misfitsAt := goodIn_r _ [16, 11, 12, 17, 18, 19, 20, 21, 22, 23, 24, 25, 26, 27, 28, 29, 30, 31, 32, 33, 34, 35, 36, 37, 38, 39, 40, 41, 42, 43, 44, 45, 46, 47, 48, 58, 59, 60, 61, 62, 63, 64, 65, 66] (by decide +kernel) (by decide +kernel)
set_option maxRecDepth 20000 in
theorem gX6_fits_X1_misfitsAt : GoodIn wsX6_fits (wsV RX6 120 RX1 yX1_misfitsAt wsX1_misfitsAt) := goodIn_app (goodIn_of _ (by decide +kernel)) ggX6_fits_X1_misfitsAt
theorem dX6_fits_0 : decode cX6_fits 0 = .ok (.iload_n 1, 1) := by decide +kernel
theorem dX6_fits_1 : decode cX6_fits 1 = .ok (.sipush 4320, 3) := by decide +kernel
theorem dX6_fits_4 : decode cX6_fits 4 = .ok (.invokestatic 106, 3) := by decide +kernel
theorem dX6_fits_7 : decode cX6_fits 7 = .ok (.ifCond .ne 6, 3) := by decide +kernel
theorem dX6_fits_10 : decode cX6_fits 10 = .ok (.bipush (-3), 2) := by decide +kernel
theorem dX6_fits_12 : decode cX6_fits 12 = .ok (.ireturn, 1) := by decide +kernel
theorem dX6_fits_13 : decode cX6_fits 13 = .ok (.aload_n 0, 1) := by decide +kernel
theorem dX6_fits_14 : decode cX6_fits 14 = .ok (.getfield 19, 3) := by decide +kernel
theorem dX6_fits_17 : decode cX6_fits 17 = .ok (.invokevirtual 117, 3) := by decide +kernel
theorem dX6_fits_20 : decode cX6_fits 20 = .ok (.aload_n 0, 1) := by decide +kernel
theorem dX6_fits_21 : decode cX6_fits 21 = .ok (.getfield 19, 3) := by decide +kernel
theorem dX6_fits_24 : decode cX6_fits 24 = .ok (.iload_n 1, 1) := by decide +kernel
theorem dX6_fits_25 : decode cX6_fits 25 = .ok (.invokevirtual 120, 3) := by decide +kernel
theorem dX6_fits_28 : decode cX6_fits 28 = .ok (.iconst (-1), 1) := by decide +kernel
theorem dX6_fits_29 : decode cX6_fits 29 = .ok (.ixor, 1) := by decide +kernel
theorem dX6_fits_30 : decode cX6_fits 30 = .ok (.iand, 1) := by decide +kernel
theorem dX6_fits_31 : decode cX6_fits 31 = .ok (.ireturn, 1) := by decide +kernel
set_option maxRecDepth 20000 in
theorem ggX6_times_X6_isBelow : GoodIn wsX6_times wsX6_isBelow := goodIn_r _ [6] (by decide +kernel) (by decide +kernel)
set_option maxRecDepth 20000 in
theorem gX6_times_X6_isBelow : GoodIn wsX6_times (va_wsS RX6 106 yX6_isBelow wsX6_isBelow) := goodIn_app (goodIn_of _ (by decide +kernel)) ggX6_times_X6_isBelow
set_option maxRecDepth 20000 in
theorem ggX6_times_X6_sift : GoodIn wsX6_times wsX6_sift := goodIn_r _ [10, 11, 2, 12, 13, 14, 15, 16, 17, 18, 19, 20, 21, 22, 23, 24, 25, 26, 27, 28, 29, 30, 31, 32, 33, 34, 35, 36, 37, 38, 39, 40, 41, 42, 43, 44, 45, 46, 47, 48, 49, 50, 51, 69, 70, 71, 72, 73, 74, 75, 76, 77, 78, 79, 80, 81, 82, 83, 84, 85, 86] (by decide +kernel) (by decide +kernel)
set_option maxRecDepth 20000 in
theorem gX6_times_X6_sift : GoodIn wsX6_times (wsV RX6 123 RX6 yX6_sift wsX6_sift) := goodIn_app (goodIn_of _ (by decide +kernel)) ggX6_times_X6_sift
set_option maxRecDepth 20000 in
theorem ggX6_times_X4_clear : GoodIn wsX6_times wsX4_clear := goodIn_r _ [56, 57, 58, 59, 60, 87, 88, 89, 90] (by decide +kernel) (by decide +kernel)
set_option maxRecDepth 20000 in
theorem gX6_times_X4_clear : GoodIn wsX6_times (wsV RX6 126 RX4 yX4_clear wsX4_clear) := goodIn_app (goodIn_of _ (by decide +kernel)) ggX6_times_X4_clear
set_option maxRecDepth 20000 in
theorem ggX6_times_X4_add : GoodIn wsX6_times wsX4_add := goodIn_r _ [64, 57, 58, 59, 60, 87, 88, 89, 90] (by decide +kernel) (by decide +kernel)
set_option maxRecDepth 20000 in
theorem gX6_times_X4_add : GoodIn wsX6_times (wsV RX6 129 RX4 yX4_add wsX4_add) := goodIn_app (goodIn_of _ (by decide +kernel)) ggX6_times_X4_add
set_option maxRecDepth 20000 in
theorem ggX6_times_X4_tell : GoodIn wsX6_times wsX4_tell := goodIn_r _ [68, 57, 58, 59, 60, 87, 88, 89, 90] (by decide +kernel) (by decide +kernel)
set_option maxRecDepth 20000 in
theorem gX6_times_X4_tell : GoodIn wsX6_times (wsV RX6 132 RX4 yX4_tell wsX4_tell) := goodIn_app (goodIn_of _ (by decide +kernel)) ggX6_times_X4_tell
theorem dX6_times_0 : decode cX6_times 0 = .ok (.iload_n 1, 1) := by decide +kernel
theorem dX6_times_1 : decode cX6_times 1 = .ok (.iconst 4, 1) := by decide +kernel
theorem dX6_times_2 : decode cX6_times 2 = .ok (.invokestatic 106, 3) := by decide +kernel
theorem dX6_times_5 : decode cX6_times 5 = .ok (.ifCond .ne 6, 3) := by decide +kernel
theorem dX6_times_8 : decode cX6_times 8 = .ok (.bipush (-3), 2) := by decide +kernel
theorem dX6_times_10 : decode cX6_times 10 = .ok (.ireturn, 1) := by decide +kernel
theorem dX6_times_11 : decode cX6_times 11 = .ok (.aload_n 0, 1) := by decide +kernel
theorem dX6_times_12 : decode cX6_times 12 = .ok (.invokevirtual 123, 3) := by decide +kernel
theorem dX6_times_15 : decode cX6_times 15 = .ok (.aload_n 0, 1) := by decide +kernel
theorem dX6_times_16 : decode cX6_times 16 = .ok (.getfield 30, 3) := by decide +kernel
theorem dX6_times_19 : decode cX6_times 19 = .ok (.invokevirtual 126, 3) := by decide +kernel
theorem dX6_times_22 : decode cX6_times 22 = .ok (.iconst 0, 1) := by decide +kernel
theorem dX6_times_23 : decode cX6_times 23 = .ok (.istore_n 2, 1) := by decide +kernel
theorem dX6_times_24 : decode cX6_times 24 = .ok (.iload_n 2, 1) := by decide +kernel
theorem dX6_times_25 : decode cX6_times 25 = .ok (.sipush 4320, 3) := by decide +kernel
theorem dX6_times_28 : decode cX6_times 28 = .ok (.if_icmp .ge 26, 3) := by decide +kernel
theorem dX6_times_31 : decode cX6_times 31 = .ok (.aload_n 0, 1) := by decide +kernel
theorem dX6_times_32 : decode cX6_times 32 = .ok (.getfield 48, 3) := by decide +kernel
theorem dX6_times_35 : decode cX6_times 35 = .ok (.iload_n 2, 1) := by decide +kernel
theorem dX6_times_36 : decode cX6_times 36 = .ok (.iaload, 1) := by decide +kernel
theorem dX6_times_37 : decode cX6_times 37 = .ok (.ifCond .ne 11, 3) := by decide +kernel
theorem dX6_times_40 : decode cX6_times 40 = .ok (.aload_n 0, 1) := by decide +kernel
theorem dX6_times_41 : decode cX6_times 41 = .ok (.getfield 30, 3) := by decide +kernel
theorem dX6_times_44 : decode cX6_times 44 = .ok (.iload_n 2, 1) := by decide +kernel
theorem dX6_times_45 : decode cX6_times 45 = .ok (.invokevirtual 129, 3) := by decide +kernel
theorem dX6_times_48 : decode cX6_times 48 = .ok (.iinc 2 1, 3) := by decide +kernel
theorem dX6_times_51 : decode cX6_times 51 = .ok (.goto (-27), 3) := by decide +kernel
theorem dX6_times_54 : decode cX6_times 54 = .ok (.aload_n 0, 1) := by decide +kernel
theorem dX6_times_55 : decode cX6_times 55 = .ok (.getfield 30, 3) := by decide +kernel
theorem dX6_times_58 : decode cX6_times 58 = .ok (.iload_n 1, 1) := by decide +kernel
theorem dX6_times_59 : decode cX6_times 59 = .ok (.invokevirtual 132, 3) := by decide +kernel
theorem dX6_times_62 : decode cX6_times 62 = .ok (.ireturn, 1) := by decide +kernel
set_option maxRecDepth 20000 in
theorem ggX6_liars_X6_isBelow : GoodIn wsX6_liars wsX6_isBelow := goodIn_r _ [5] (by decide +kernel) (by decide +kernel)
set_option maxRecDepth 20000 in
theorem gX6_liars_X6_isBelow : GoodIn wsX6_liars (va_wsS RX6 106 yX6_isBelow wsX6_isBelow) := goodIn_app (goodIn_of _ (by decide +kernel)) ggX6_liars_X6_isBelow
set_option maxRecDepth 20000 in
theorem ggX6_liars_X6_sift : GoodIn wsX6_liars wsX6_sift := goodIn_r _ [9, 10, 1, 11, 12, 13, 14, 15, 16, 17, 18, 19, 20, 21, 22, 23, 24, 25, 26, 27, 28, 29, 30, 31, 32, 33, 34, 35, 36, 37, 38, 39, 40, 41, 42, 43, 44, 45, 46, 47, 48, 49, 50, 61, 62, 63, 64, 65, 66, 67, 68, 69, 70, 71, 72, 73, 74, 75, 76, 77, 78] (by decide +kernel) (by decide +kernel)
set_option maxRecDepth 20000 in
theorem gX6_liars_X6_sift : GoodIn wsX6_liars (wsV RX6 123 RX6 yX6_sift wsX6_sift) := goodIn_app (goodIn_of _ (by decide +kernel)) ggX6_liars_X6_sift
set_option maxRecDepth 20000 in
theorem ggX6_liars_X6_isLess : GoodIn wsX6_liars wsX6_isLess := goodIn_r _ [53, 54, 55, 56, 57, 58, 59, 60] (by decide +kernel) (by decide +kernel)
set_option maxRecDepth 20000 in
theorem gX6_liars_X6_isLess : GoodIn wsX6_liars (va_wsS RX6 135 yX6_isLess wsX6_isLess) := goodIn_app (goodIn_of _ (by decide +kernel)) ggX6_liars_X6_isLess
set_option maxRecDepth 20000 in
theorem ggX6_liars_J6_bitCount_0f7a4 : GoodIn wsX6_liars wsJ6_bitCount_0f7a4 := goodIn_r _ [57, 58, 59, 60] (by decide +kernel) (by decide +kernel)
set_option maxRecDepth 20000 in
theorem gX6_liars_J6_bitCount_0f7a4 : GoodIn wsX6_liars (va_wsS RX6 138 yJ6_bitCount_0f7a4 wsJ6_bitCount_0f7a4) := goodIn_app (goodIn_of _ (by decide +kernel)) ggX6_liars_J6_bitCount_0f7a4
theorem dX6_liars_0 : decode cX6_liars 0 = .ok (.iload_n 1, 1) := by decide +kernel
theorem dX6_liars_1 : decode cX6_liars 1 = .ok (.iconst 3, 1) := by decide +kernel
theorem dX6_liars_2 : decode cX6_liars 2 = .ok (.invokestatic 106, 3) := by decide +kernel
theorem dX6_liars_5 : decode cX6_liars 5 = .ok (.ifCond .ne 6, 3) := by decide +kernel
theorem dX6_liars_8 : decode cX6_liars 8 = .ok (.bipush (-3), 2) := by decide +kernel
theorem dX6_liars_10 : decode cX6_liars 10 = .ok (.ireturn, 1) := by decide +kernel
theorem dX6_liars_11 : decode cX6_liars 11 = .ok (.aload_n 0, 1) := by decide +kernel
theorem dX6_liars_12 : decode cX6_liars 12 = .ok (.invokevirtual 123, 3) := by decide +kernel
theorem dX6_liars_15 : decode cX6_liars 15 = .ok (.iconst 0, 1) := by decide +kernel
theorem dX6_liars_16 : decode cX6_liars 16 = .ok (.istore_n 2, 1) := by decide +kernel
theorem dX6_liars_17 : decode cX6_liars 17 = .ok (.iconst 1, 1) := by decide +kernel
theorem dX6_liars_18 : decode cX6_liars 18 = .ok (.istore_n 3, 1) := by decide +kernel
theorem dX6_liars_19 : decode cX6_liars 19 = .ok (.iload_n 3, 1) := by decide +kernel
theorem dX6_liars_20 : decode cX6_liars 20 = .ok (.sipush 4320, 3) := by decide +kernel
theorem dX6_liars_23 : decode cX6_liars 23 = .ok (.if_icmp .ge 29, 3) := by decide +kernel
theorem dX6_liars_26 : decode cX6_liars 26 = .ok (.aload_n 0, 1) := by decide +kernel
theorem dX6_liars_27 : decode cX6_liars 27 = .ok (.getfield 48, 3) := by decide +kernel
theorem dX6_liars_30 : decode cX6_liars 30 = .ok (.iload_n 3, 1) := by decide +kernel
theorem dX6_liars_31 : decode cX6_liars 31 = .ok (.iaload, 1) := by decide +kernel
theorem dX6_liars_32 : decode cX6_liars 32 = .ok (.aload_n 0, 1) := by decide +kernel
theorem dX6_liars_33 : decode cX6_liars 33 = .ok (.getfield 48, 3) := by decide +kernel
theorem dX6_liars_36 : decode cX6_liars 36 = .ok (.iload_n 2, 1) := by decide +kernel
theorem dX6_liars_37 : decode cX6_liars 37 = .ok (.iaload, 1) := by decide +kernel
theorem dX6_liars_38 : decode cX6_liars 38 = .ok (.invokestatic 135, 3) := by decide +kernel
theorem dX6_liars_41 : decode cX6_liars 41 = .ok (.ifCond .eq 5, 3) := by decide +kernel
theorem dX6_liars_44 : decode cX6_liars 44 = .ok (.iload_n 3, 1) := by decide +kernel
theorem dX6_liars_45 : decode cX6_liars 45 = .ok (.istore_n 2, 1) := by decide +kernel
theorem dX6_liars_46 : decode cX6_liars 46 = .ok (.iinc 3 1, 3) := by decide +kernel
theorem dX6_liars_49 : decode cX6_liars 49 = .ok (.goto (-30), 3) := by decide +kernel
theorem dX6_liars_52 : decode cX6_liars 52 = .ok (.iload_n 1, 1) := by decide +kernel
theorem dX6_liars_53 : decode cX6_liars 53 = .ok (.lookupswitch 44 #[(0, 27), (1, 37)], 27) := by decide +kernel
theorem dX6_liars_80 : decode cX6_liars 80 = .ok (.aload_n 0, 1) := by decide +kernel
theorem dX6_liars_81 : decode cX6_liars 81 = .ok (.getfield 48, 3) := by decide +kernel
theorem dX6_liars_84 : decode cX6_liars 84 = .ok (.iload_n 2, 1) := by decide +kernel
theorem dX6_liars_85 : decode cX6_liars 85 = .ok (.iaload, 1) := by decide +kernel
theorem dX6_liars_86 : decode cX6_liars 86 = .ok (.invokestatic 138, 3) := by decide +kernel
theorem dX6_liars_89 : decode cX6_liars 89 = .ok (.ireturn, 1) := by decide +kernel
theorem dX6_liars_90 : decode cX6_liars 90 = .ok (.aload_n 0, 1) := by decide +kernel
theorem dX6_liars_91 : decode cX6_liars 91 = .ok (.getfield 48, 3) := by decide +kernel
theorem dX6_liars_94 : decode cX6_liars 94 = .ok (.iload_n 2, 1) := by decide +kernel
theorem dX6_liars_95 : decode cX6_liars 95 = .ok (.iaload, 1) := by decide +kernel
theorem dX6_liars_96 : decode cX6_liars 96 = .ok (.ireturn, 1) := by decide +kernel
theorem dX6_liars_97 : decode cX6_liars 97 = .ok (.iload_n 2, 1) := by decide +kernel
theorem dX6_liars_98 : decode cX6_liars 98 = .ok (.ireturn, 1) := by decide +kernel
set_option maxRecDepth 20000 in
theorem ggX6_next_X6_isBelow : GoodIn wsX6_next wsX6_isBelow := goodIn_r _ [8] (by decide +kernel) (by decide +kernel)
set_option maxRecDepth 20000 in
theorem gX6_next_X6_isBelow : GoodIn wsX6_next (va_wsS RX6 106 yX6_isBelow wsX6_isBelow) := goodIn_app (goodIn_of _ (by decide +kernel)) ggX6_next_X6_isBelow
set_option maxRecDepth 20000 in
theorem ggX6_next_X6_sift : GoodIn wsX6_next wsX6_sift := goodIn_r _ [12, 13, 14, 1, 15, 16, 17, 18, 19, 20, 21, 22, 23, 24, 25, 26, 27, 28, 29, 30, 31, 32, 33, 34, 35, 36, 37, 38, 39, 40, 41, 42, 43, 44, 45, 46, 47, 48, 49, 50, 51, 52, 53, 73, 74, 75, 76, 77, 78, 79, 80, 81, 88, 89, 90, 82, 83, 84, 85, 86, 87] (by decide +kernel) (by decide +kernel)
set_option maxRecDepth 20000 in
theorem gX6_next_X6_sift : GoodIn wsX6_next (wsV RX6 123 RX6 yX6_sift wsX6_sift) := goodIn_app (goodIn_of _ (by decide +kernel)) ggX6_next_X6_sift
set_option maxRecDepth 20000 in
theorem ggX6_next_X1_toldClock : GoodIn wsX6_next wsX1_toldClock := goodIn_r _ [57, 20, 58, 6, 7, 8, 88, 89, 90, 82, 83, 84, 85, 86, 87] (by decide +kernel) (by decide +kernel)
set_option maxRecDepth 20000 in
theorem gX6_next_X1_toldClock : GoodIn wsX6_next (wsV RX6 84 RX1 yX1_toldClock wsX1_toldClock) := goodIn_app (goodIn_of _ (by decide +kernel)) ggX6_next_X1_toldClock
set_option maxRecDepth 20000 in
theorem ggX6_next_X6_mostLeftBy : GoodIn wsX6_next wsX6_mostLeftBy := goodIn_r _ [62, 63, 14, 3, 64, 34, 31, 35, 65, 66, 67, 68, 69, 70, 71, 25, 72, 36, 37, 38, 39, 40, 41, 42, 43, 44, 45, 46, 47, 48, 49, 50, 51, 52, 53, 73, 74, 75, 76, 77, 78, 79, 80, 81, 82, 83, 84, 85, 86, 87] (by decide +kernel) (by decide +kernel)
set_option maxRecDepth 20000 in
theorem gX6_next_X6_mostLeftBy : GoodIn wsX6_next (wsV RX6 143 RX6 yX6_mostLeftBy wsX6_mostLeftBy) := goodIn_app (goodIn_of _ (by decide +kernel)) ggX6_next_X6_mostLeftBy
theorem dX6_next_0 : decode cX6_next 0 = .ok (.iload_n 1, 1) := by decide +kernel
theorem dX6_next_1 : decode cX6_next 1 = .ok (.iconst 2, 1) := by decide +kernel
theorem dX6_next_2 : decode cX6_next 2 = .ok (.invokestatic 106, 3) := by decide +kernel
theorem dX6_next_5 : decode cX6_next 5 = .ok (.ifCond .ne 6, 3) := by decide +kernel
theorem dX6_next_8 : decode cX6_next 8 = .ok (.bipush (-3), 2) := by decide +kernel
theorem dX6_next_10 : decode cX6_next 10 = .ok (.ireturn, 1) := by decide +kernel
theorem dX6_next_11 : decode cX6_next 11 = .ok (.aload_n 0, 1) := by decide +kernel
theorem dX6_next_12 : decode cX6_next 12 = .ok (.invokevirtual 123, 3) := by decide +kernel
theorem dX6_next_15 : decode cX6_next 15 = .ok (.iconst (-1), 1) := by decide +kernel
theorem dX6_next_16 : decode cX6_next 16 = .ok (.istore_n 2, 1) := by decide +kernel
theorem dX6_next_17 : decode cX6_next 17 = .ok (.iconst (-1), 1) := by decide +kernel
theorem dX6_next_18 : decode cX6_next 18 = .ok (.istore_n 3, 1) := by decide +kernel
theorem dX6_next_19 : decode cX6_next 19 = .ok (.iconst 0, 1) := by decide +kernel
theorem dX6_next_20 : decode cX6_next 20 = .ok (.istore 4, 2) := by decide +kernel
theorem dX6_next_22 : decode cX6_next 22 = .ok (.iload 4, 2) := by decide +kernel
theorem dX6_next_24 : decode cX6_next 24 = .ok (.bipush 8, 2) := by decide +kernel
theorem dX6_next_26 : decode cX6_next 26 = .ok (.if_icmp .ge 75, 3) := by decide +kernel
theorem dX6_next_29 : decode cX6_next 29 = .ok (.aload_n 0, 1) := by decide +kernel
theorem dX6_next_30 : decode cX6_next 30 = .ok (.getfield 19, 3) := by decide +kernel
theorem dX6_next_33 : decode cX6_next 33 = .ok (.iload 4, 2) := by decide +kernel
theorem dX6_next_35 : decode cX6_next 35 = .ok (.invokevirtual 84, 3) := by decide +kernel
theorem dX6_next_38 : decode cX6_next 38 = .ok (.astore 5, 2) := by decide +kernel
theorem dX6_next_40 : decode cX6_next 40 = .ok (.aload 5, 2) := by decide +kernel
theorem dX6_next_42 : decode cX6_next 42 = .ok (.ifnull 53, 3) := by decide +kernel
theorem dX6_next_45 : decode cX6_next 45 = .ok (.aload 5, 2) := by decide +kernel
theorem dX6_next_47 : decode cX6_next 47 = .ok (.getfield 103, 3) := by decide +kernel
theorem dX6_next_50 : decode cX6_next 50 = .ok (.iconst (-1), 1) := by decide +kernel
theorem dX6_next_51 : decode cX6_next 51 = .ok (.if_icmp .ne 44, 3) := by decide +kernel
theorem dX6_next_54 : decode cX6_next 54 = .ok (.aload 5, 2) := by decide +kernel
theorem dX6_next_56 : decode cX6_next 56 = .ok (.getfield 97, 3) := by decide +kernel
theorem dX6_next_59 : decode cX6_next 59 = .ok (.aload 5, 2) := by decide +kernel
theorem dX6_next_61 : decode cX6_next 61 = .ok (.getfield 100, 3) := by decide +kernel
theorem dX6_next_64 : decode cX6_next 64 = .ok (.if_icmp .eq 6, 3) := by decide +kernel
theorem dX6_next_67 : decode cX6_next 67 = .ok (.goto 28, 3) := by decide +kernel
theorem dX6_next_70 : decode cX6_next 70 = .ok (.aload_n 0, 1) := by decide +kernel
theorem dX6_next_71 : decode cX6_next 71 = .ok (.aload 5, 2) := by decide +kernel
theorem dX6_next_73 : decode cX6_next 73 = .ok (.invokevirtual 143, 3) := by decide +kernel
theorem dX6_next_76 : decode cX6_next 76 = .ok (.istore 6, 2) := by decide +kernel
theorem dX6_next_78 : decode cX6_next 78 = .ok (.iload_n 2, 1) := by decide +kernel
theorem dX6_next_79 : decode cX6_next 79 = .ok (.iconst (-1), 1) := by decide +kernel
theorem dX6_next_80 : decode cX6_next 80 = .ok (.if_icmp .eq 9, 3) := by decide +kernel
theorem dX6_next_83 : decode cX6_next 83 = .ok (.iload 6, 2) := by decide +kernel
theorem dX6_next_85 : decode cX6_next 85 = .ok (.iload_n 3, 1) := by decide +kernel
theorem dX6_next_86 : decode cX6_next 86 = .ok (.if_icmp .ge 9, 3) := by decide +kernel
theorem dX6_next_89 : decode cX6_next 89 = .ok (.iload 4, 2) := by decide +kernel
theorem dX6_next_91 : decode cX6_next 91 = .ok (.istore_n 2, 1) := by decide +kernel
theorem dX6_next_92 : decode cX6_next 92 = .ok (.iload 6, 2) := by decide +kernel
theorem dX6_next_94 : decode cX6_next 94 = .ok (.istore_n 3, 1) := by decide +kernel
theorem dX6_next_95 : decode cX6_next 95 = .ok (.iinc 4 1, 3) := by decide +kernel
theorem dX6_next_98 : decode cX6_next 98 = .ok (.goto (-76), 3) := by decide +kernel
theorem dX6_next_101 : decode cX6_next 101 = .ok (.iload_n 1, 1) := by decide +kernel
theorem dX6_next_102 : decode cX6_next 102 = .ok (.ifCond .ne 7, 3) := by decide +kernel
theorem dX6_next_105 : decode cX6_next 105 = .ok (.iload_n 2, 1) := by decide +kernel
theorem dX6_next_106 : decode cX6_next 106 = .ok (.goto 4, 3) := by decide +kernel
theorem dX6_next_109 : decode cX6_next 109 = .ok (.iload_n 3, 1) := by decide +kernel
theorem dX6_next_110 : decode cX6_next 110 = .ok (.ireturn, 1) := by decide +kernel
set_option maxRecDepth 20000 in
theorem ggX6_sift_X1_misfitsAt : GoodIn wsX6_sift wsX1_misfitsAt := goodIn_r _ [8, 9, 10, 11, 12, 13, 14, 15, 16, 17, 18, 19, 20, 21, 22, 23, 24, 25, 26, 27, 28, 29, 30, 31, 32, 33, 34, 35, 36, 37, 38, 39, 40, 41, 42, 52, 53, 54, 55, 56, 57, 58, 59, 60] (by decide +kernel) (by decide +kernel)
set_option maxRecDepth 20000 in
theorem gX6_sift_X1_misfitsAt : GoodIn wsX6_sift (wsV RX6 120 RX1 yX1_misfitsAt wsX1_misfitsAt) := goodIn_app (goodIn_of _ (by decide +kernel)) ggX6_sift_X1_misfitsAt
theorem dX6_sift_0 : decode cX6_sift 0 = .ok (.aload_n 0, 1) := by decide +kernel
theorem dX6_sift_1 : decode cX6_sift 1 = .ok (.getfield 52, 3) := by decide +kernel
theorem dX6_sift_4 : decode cX6_sift 4 = .ok (.ifCond .eq 4, 3) := by decide +kernel
theorem dX6_sift_7 : decode cX6_sift 7 = .ok (.return_, 1) := by decide +kernel
theorem dX6_sift_8 : decode cX6_sift 8 = .ok (.iconst 0, 1) := by decide +kernel
theorem dX6_sift_9 : decode cX6_sift 9 = .ok (.istore_n 1, 1) := by decide +kernel
theorem dX6_sift_10 : decode cX6_sift 10 = .ok (.iload_n 1, 1) := by decide +kernel
theorem dX6_sift_11 : decode cX6_sift 11 = .ok (.sipush 4320, 3) := by decide +kernel
theorem dX6_sift_14 : decode cX6_sift 14 = .ok (.if_icmp .ge 23, 3) := by decide +kernel
theorem dX6_sift_17 : decode cX6_sift 17 = .ok (.aload_n 0, 1) := by decide +kernel
theorem dX6_sift_18 : decode cX6_sift 18 = .ok (.getfield 48, 3) := by decide +kernel
theorem dX6_sift_21 : decode cX6_sift 21 = .ok (.iload_n 1, 1) := by decide +kernel
theorem dX6_sift_22 : decode cX6_sift 22 = .ok (.aload_n 0, 1) := by decide +kernel
theorem dX6_sift_23 : decode cX6_sift 23 = .ok (.getfield 19, 3) := by decide +kernel
theorem dX6_sift_26 : decode cX6_sift 26 = .ok (.iload_n 1, 1) := by decide +kernel
theorem dX6_sift_27 : decode cX6_sift 27 = .ok (.invokevirtual 120, 3) := by decide +kernel
theorem dX6_sift_30 : decode cX6_sift 30 = .ok (.iastore, 1) := by decide +kernel
theorem dX6_sift_31 : decode cX6_sift 31 = .ok (.iinc 1 1, 3) := by decide +kernel
theorem dX6_sift_34 : decode cX6_sift 34 = .ok (.goto (-24), 3) := by decide +kernel
theorem dX6_sift_37 : decode cX6_sift 37 = .ok (.aload_n 0, 1) := by decide +kernel
theorem dX6_sift_38 : decode cX6_sift 38 = .ok (.iconst 1, 1) := by decide +kernel
theorem dX6_sift_39 : decode cX6_sift 39 = .ok (.putfield 52, 3) := by decide +kernel
theorem dX6_sift_42 : decode cX6_sift 42 = .ok (.return_, 1) := by decide +kernel
set_option maxRecDepth 20000 in
theorem ggX6_isLess_J6_bitCount_0f7a4 : GoodIn wsX6_isLess wsJ6_bitCount_0f7a4 := goodIn_r _ [4, 5, 6, 7] (by decide +kernel) (by decide +kernel)
set_option maxRecDepth 20000 in
theorem gX6_isLess_J6_bitCount_0f7a4 : GoodIn wsX6_isLess (va_wsS RX6 138 yJ6_bitCount_0f7a4 wsJ6_bitCount_0f7a4) := goodIn_app (goodIn_of _ (by decide +kernel)) ggX6_isLess_J6_bitCount_0f7a4
theorem dX6_isLess_0 : decode cX6_isLess 0 = .ok (.iload_n 0, 1) := by decide +kernel
theorem dX6_isLess_1 : decode cX6_isLess 1 = .ok (.invokestatic 138, 3) := by decide +kernel
theorem dX6_isLess_4 : decode cX6_isLess 4 = .ok (.iload_n 1, 1) := by decide +kernel
theorem dX6_isLess_5 : decode cX6_isLess 5 = .ok (.invokestatic 138, 3) := by decide +kernel
theorem dX6_isLess_8 : decode cX6_isLess 8 = .ok (.isub, 1) := by decide +kernel
theorem dX6_isLess_9 : decode cX6_isLess 9 = .ok (.istore_n 2, 1) := by decide +kernel
theorem dX6_isLess_10 : decode cX6_isLess 10 = .ok (.iload_n 2, 1) := by decide +kernel
theorem dX6_isLess_11 : decode cX6_isLess 11 = .ok (.ifCond .lt 12, 3) := by decide +kernel
theorem dX6_isLess_14 : decode cX6_isLess 14 = .ok (.iload_n 2, 1) := by decide +kernel
theorem dX6_isLess_15 : decode cX6_isLess 15 = .ok (.ifCond .ne 12, 3) := by decide +kernel
theorem dX6_isLess_18 : decode cX6_isLess 18 = .ok (.iload_n 0, 1) := by decide +kernel
theorem dX6_isLess_19 : decode cX6_isLess 19 = .ok (.iload_n 1, 1) := by decide +kernel
theorem dX6_isLess_20 : decode cX6_isLess 20 = .ok (.if_icmp .ge 7, 3) := by decide +kernel
theorem dX6_isLess_23 : decode cX6_isLess 23 = .ok (.iconst 1, 1) := by decide +kernel
theorem dX6_isLess_24 : decode cX6_isLess 24 = .ok (.goto 4, 3) := by decide +kernel
theorem dX6_isLess_27 : decode cX6_isLess 27 = .ok (.iconst 0, 1) := by decide +kernel
theorem dX6_isLess_28 : decode cX6_isLess 28 = .ok (.ireturn, 1) := by decide +kernel
set_option maxRecDepth 20000 in
theorem ggX6_mostLeftBy_J7_fill_53178 : GoodIn wsX6_mostLeftBy wsJ7_fill_53178 := goodIn_r _ [11] (by decide +kernel) (by decide +kernel)
set_option maxRecDepth 20000 in
theorem gX6_mostLeftBy_J7_fill_53178 : GoodIn wsX6_mostLeftBy (va_wsS RX6 147 yJ7_fill_53178 wsJ7_fill_53178) := goodIn_app (goodIn_of _ (by decide +kernel)) ggX6_mostLeftBy_J7_fill_53178
set_option maxRecDepth 20000 in
theorem ggX6_mostLeftBy_X0_dialAt : GoodIn wsX6_mostLeftBy wsX0_dialAt := goodIn_r _ [16, 17, 18, 19, 15, 20, 21, 22, 23, 24, 25, 26, 27, 28, 29, 30, 31, 32, 33, 34, 44, 45, 46, 47, 48, 49] (by decide +kernel) (by decide +kernel)
set_option maxRecDepth 20000 in
theorem gX6_mostLeftBy_X0_dialAt : GoodIn wsX6_mostLeftBy (wsV RX6 110 RX0 yX0_dialAt wsX0_dialAt) := goodIn_app (goodIn_of _ (by decide +kernel)) ggX6_mostLeftBy_X0_dialAt
theorem dX6_mostLeftBy_0 : decode cX6_mostLeftBy 0 = .ok (.aload_n 0, 1) := by decide +kernel
theorem dX6_mostLeftBy_1 : decode cX6_mostLeftBy 1 = .ok (.getfield 56, 3) := by decide +kernel
theorem dX6_mostLeftBy_4 : decode cX6_mostLeftBy 4 = .ok (.iconst 0, 1) := by decide +kernel
theorem dX6_mostLeftBy_5 : decode cX6_mostLeftBy 5 = .ok (.invokestatic 147, 3) := by decide +kernel
theorem dX6_mostLeftBy_8 : decode cX6_mostLeftBy 8 = .ok (.iconst 0, 1) := by decide +kernel
theorem dX6_mostLeftBy_9 : decode cX6_mostLeftBy 9 = .ok (.istore_n 2, 1) := by decide +kernel
theorem dX6_mostLeftBy_10 : decode cX6_mostLeftBy 10 = .ok (.iconst 0, 1) := by decide +kernel
theorem dX6_mostLeftBy_11 : decode cX6_mostLeftBy 11 = .ok (.istore_n 3, 1) := by decide +kernel
theorem dX6_mostLeftBy_12 : decode cX6_mostLeftBy 12 = .ok (.iload_n 3, 1) := by decide +kernel
theorem dX6_mostLeftBy_13 : decode cX6_mostLeftBy 13 = .ok (.sipush 4320, 3) := by decide +kernel
theorem dX6_mostLeftBy_16 : decode cX6_mostLeftBy 16 = .ok (.if_icmp .ge 52, 3) := by decide +kernel
theorem dX6_mostLeftBy_19 : decode cX6_mostLeftBy 19 = .ok (.aload_n 0, 1) := by decide +kernel
theorem dX6_mostLeftBy_20 : decode cX6_mostLeftBy 20 = .ok (.getfield 48, 3) := by decide +kernel
theorem dX6_mostLeftBy_23 : decode cX6_mostLeftBy 23 = .ok (.iload_n 3, 1) := by decide +kernel
theorem dX6_mostLeftBy_24 : decode cX6_mostLeftBy 24 = .ok (.iaload, 1) := by decide +kernel
theorem dX6_mostLeftBy_25 : decode cX6_mostLeftBy 25 = .ok (.ifCond .ne 37, 3) := by decide +kernel
theorem dX6_mostLeftBy_28 : decode cX6_mostLeftBy 28 = .ok (.aload_n 1, 1) := by decide +kernel
theorem dX6_mostLeftBy_29 : decode cX6_mostLeftBy 29 = .ok (.iload_n 3, 1) := by decide +kernel
theorem dX6_mostLeftBy_30 : decode cX6_mostLeftBy 30 = .ok (.aload_n 1, 1) := by decide +kernel
theorem dX6_mostLeftBy_31 : decode cX6_mostLeftBy 31 = .ok (.getfield 97, 3) := by decide +kernel
theorem dX6_mostLeftBy_34 : decode cX6_mostLeftBy 34 = .ok (.invokevirtual 110, 3) := by decide +kernel
theorem dX6_mostLeftBy_37 : decode cX6_mostLeftBy 37 = .ok (.istore 4, 2) := by decide +kernel
theorem dX6_mostLeftBy_39 : decode cX6_mostLeftBy 39 = .ok (.aload_n 0, 1) := by decide +kernel
theorem dX6_mostLeftBy_40 : decode cX6_mostLeftBy 40 = .ok (.getfield 56, 3) := by decide +kernel
theorem dX6_mostLeftBy_43 : decode cX6_mostLeftBy 43 = .ok (.iload 4, 2) := by decide +kernel
theorem dX6_mostLeftBy_45 : decode cX6_mostLeftBy 45 = .ok (.dup2, 1) := by decide +kernel
theorem dX6_mostLeftBy_46 : decode cX6_mostLeftBy 46 = .ok (.iaload, 1) := by decide +kernel
theorem dX6_mostLeftBy_47 : decode cX6_mostLeftBy 47 = .ok (.iconst 1, 1) := by decide +kernel
theorem dX6_mostLeftBy_48 : decode cX6_mostLeftBy 48 = .ok (.iadd, 1) := by decide +kernel
theorem dX6_mostLeftBy_49 : decode cX6_mostLeftBy 49 = .ok (.iastore, 1) := by decide +kernel
theorem dX6_mostLeftBy_50 : decode cX6_mostLeftBy 50 = .ok (.iload_n 2, 1) := by decide +kernel
theorem dX6_mostLeftBy_51 : decode cX6_mostLeftBy 51 = .ok (.aload_n 0, 1) := by decide +kernel
theorem dX6_mostLeftBy_52 : decode cX6_mostLeftBy 52 = .ok (.getfield 56, 3) := by decide +kernel
theorem dX6_mostLeftBy_55 : decode cX6_mostLeftBy 55 = .ok (.iload 4, 2) := by decide +kernel
theorem dX6_mostLeftBy_57 : decode cX6_mostLeftBy 57 = .ok (.iaload, 1) := by decide +kernel
theorem dX6_mostLeftBy_58 : decode cX6_mostLeftBy 58 = .ok (.invokestatic 153, 3) := by decide +kernel
theorem dX6_mostLeftBy_61 : decode cX6_mostLeftBy 61 = .ok (.istore_n 2, 1) := by decide +kernel
theorem dX6_mostLeftBy_62 : decode cX6_mostLeftBy 62 = .ok (.iinc 3 1, 3) := by decide +kernel
theorem dX6_mostLeftBy_65 : decode cX6_mostLeftBy 65 = .ok (.goto (-53), 3) := by decide +kernel
theorem dX6_mostLeftBy_68 : decode cX6_mostLeftBy 68 = .ok (.iload_n 2, 1) := by decide +kernel
theorem dX6_mostLeftBy_69 : decode cX6_mostLeftBy 69 = .ok (.ireturn, 1) := by decide +kernel
set_option maxRecDepth 20000 in
theorem ggX6_note_X1_toldClock : GoodIn wsX6_note wsX1_toldClock := goodIn_r _ [8, 9, 10, 11, 12, 13, 33, 34, 35, 40, 41, 42, 43, 44, 45] (by decide +kernel) (by decide +kernel)
set_option maxRecDepth 20000 in
theorem gX6_note_X1_toldClock : GoodIn wsX6_note (wsV RX6 84 RX1 yX1_toldClock wsX1_toldClock) := goodIn_app (goodIn_of _ (by decide +kernel)) ggX6_note_X1_toldClock
set_option maxRecDepth 20000 in
theorem ggX6_note_X6_isBelow : GoodIn wsX6_note wsX6_isBelow := goodIn_r _ [13] (by decide +kernel) (by decide +kernel)
set_option maxRecDepth 20000 in
theorem gX6_note_X6_isBelow : GoodIn wsX6_note (va_wsS RX6 106 yX6_isBelow wsX6_isBelow) := goodIn_app (goodIn_of _ (by decide +kernel)) ggX6_note_X6_isBelow
set_option maxRecDepth 20000 in
theorem ggX6_note_X2_add : GoodIn wsX6_note wsX2_add := goodIn_r _ [19, 20, 21, 22, 23, 36, 37, 38, 39] (by decide +kernel) (by decide +kernel)
set_option maxRecDepth 20000 in
theorem gX6_note_X2_add : GoodIn wsX6_note (wsV RX6 162 RX2 yX2_add wsX2_add) := goodIn_app (goodIn_of _ (by decide +kernel)) ggX6_note_X2_add
theorem dX6_note_0 : decode cX6_note 0 = .ok (.aload_n 0, 1) := by decide +kernel
theorem dX6_note_1 : decode cX6_note 1 = .ok (.getfield 19, 3) := by decide +kernel
theorem dX6_note_4 : decode cX6_note 4 = .ok (.iload_n 1, 1) := by decide +kernel
theorem dX6_note_5 : decode cX6_note 5 = .ok (.invokevirtual 84, 3) := by decide +kernel
theorem dX6_note_8 : decode cX6_note 8 = .ok (.ifnonnull 6, 3) := by decide +kernel
theorem dX6_note_11 : decode cX6_note 11 = .ok (.bipush (-2), 2) := by decide +kernel
theorem dX6_note_13 : decode cX6_note 13 = .ok (.ireturn, 1) := by decide +kernel
theorem dX6_note_14 : decode cX6_note 14 = .ok (.iload_n 2, 1) := by decide +kernel
theorem dX6_note_15 : decode cX6_note 15 = .ok (.sipush 4320, 3) := by decide +kernel
theorem dX6_note_18 : decode cX6_note 18 = .ok (.invokestatic 106, 3) := by decide +kernel
theorem dX6_note_21 : decode cX6_note 21 = .ok (.ifCond .eq 13, 3) := by decide +kernel
theorem dX6_note_24 : decode cX6_note 24 = .ok (.iload_n 3, 1) := by decide +kernel
theorem dX6_note_25 : decode cX6_note 25 = .ok (.sipush 720, 3) := by decide +kernel
theorem dX6_note_28 : decode cX6_note 28 = .ok (.invokestatic 106, 3) := by decide +kernel
theorem dX6_note_31 : decode cX6_note 31 = .ok (.ifCond .ne 6, 3) := by decide +kernel
theorem dX6_note_34 : decode cX6_note 34 = .ok (.bipush (-3), 2) := by decide +kernel
theorem dX6_note_36 : decode cX6_note 36 = .ok (.ireturn, 1) := by decide +kernel
theorem dX6_note_37 : decode cX6_note 37 = .ok (.aload_n 0, 1) := by decide +kernel
theorem dX6_note_38 : decode cX6_note 38 = .ok (.getfield 19, 3) := by decide +kernel
theorem dX6_note_41 : decode cX6_note 41 = .ok (.getfield 158, 3) := by decide +kernel
theorem dX6_note_44 : decode cX6_note 44 = .ok (.iload_n 1, 1) := by decide +kernel
theorem dX6_note_45 : decode cX6_note 45 = .ok (.iload_n 2, 1) := by decide +kernel
theorem dX6_note_46 : decode cX6_note 46 = .ok (.iload_n 3, 1) := by decide +kernel
theorem dX6_note_47 : decode cX6_note 47 = .ok (.invokevirtual 162, 3) := by decide +kernel
theorem dX6_note_50 : decode cX6_note 50 = .ok (.ifCond .eq 16, 3) := by decide +kernel
theorem dX6_note_53 : decode cX6_note 53 = .ok (.aload_n 0, 1) := by decide +kernel
theorem dX6_note_54 : decode cX6_note 54 = .ok (.getfield 19, 3) := by decide +kernel
theorem dX6_note_57 : decode cX6_note 57 = .ok (.getfield 158, 3) := by decide +kernel
theorem dX6_note_60 : decode cX6_note 60 = .ok (.getfield 167, 3) := by decide +kernel
theorem dX6_note_63 : decode cX6_note 63 = .ok (.goto 5, 3) := by decide +kernel
theorem dX6_note_66 : decode cX6_note 66 = .ok (.bipush (-5), 2) := by decide +kernel
theorem dX6_note_68 : decode cX6_note 68 = .ok (.ireturn, 1) := by decide +kernel
theorem dX6_burn_0 : decode cX6_burn 0 = .ok (.aload_n 0, 1) := by decide +kernel
theorem dX6_burn_1 : decode cX6_burn 1 = .ok (.getfield 19, 3) := by decide +kernel
theorem dX6_burn_4 : decode cX6_burn 4 = .ok (.getfield 158, 3) := by decide +kernel
theorem dX6_burn_7 : decode cX6_burn 7 = .ok (.getfield 167, 3) := by decide +kernel
theorem dX6_burn_10 : decode cX6_burn 10 = .ok (.istore_n 1, 1) := by decide +kernel
theorem dX6_burn_11 : decode cX6_burn 11 = .ok (.aload_n 0, 1) := by decide +kernel
theorem dX6_burn_12 : decode cX6_burn 12 = .ok (.getfield 19, 3) := by decide +kernel
theorem dX6_burn_15 : decode cX6_burn 15 = .ok (.getfield 158, 3) := by decide +kernel
theorem dX6_burn_18 : decode cX6_burn 18 = .ok (.iconst 0, 1) := by decide +kernel
theorem dX6_burn_19 : decode cX6_burn 19 = .ok (.putfield 167, 3) := by decide +kernel
theorem dX6_burn_22 : decode cX6_burn 22 = .ok (.iload_n 1, 1) := by decide +kernel
theorem dX6_burn_23 : decode cX6_burn 23 = .ok (.ireturn, 1) := by decide +kernel
set_option maxRecDepth 20000 in
theorem ggX6_rates_X1_toldClock : GoodIn wsX6_rates wsX1_toldClock := goodIn_r _ [8, 9, 10, 11, 12, 13, 69, 70, 71, 72, 73, 74, 75, 76, 77] (by decide +kernel) (by decide +kernel)
set_option maxRecDepth 20000 in
theorem gX6_rates_X1_toldClock : GoodIn wsX6_rates (wsV RX6 84 RX1 yX1_toldClock wsX1_toldClock) := goodIn_app (goodIn_of _ (by decide +kernel)) ggX6_rates_X1_toldClock
set_option maxRecDepth 20000 in
theorem ggX6_rates_X6_isBelow : GoodIn wsX6_rates wsX6_isBelow := goodIn_r _ [13] (by decide +kernel) (by decide +kernel)
set_option maxRecDepth 20000 in
theorem gX6_rates_X6_isBelow : GoodIn wsX6_rates (va_wsS RX6 106 yX6_isBelow wsX6_isBelow) := goodIn_app (goodIn_of _ (by decide +kernel)) ggX6_rates_X6_isBelow
set_option maxRecDepth 20000 in
theorem ggX6_rates_X4_clear : GoodIn wsX6_rates wsX4_clear := goodIn_r _ [19, 20, 21, 22, 23, 78, 79, 80, 81] (by decide +kernel) (by decide +kernel)
set_option maxRecDepth 20000 in
theorem gX6_rates_X4_clear : GoodIn wsX6_rates (wsV RX6 126 RX4 yX4_clear wsX4_clear) := goodIn_app (goodIn_of _ (by decide +kernel)) ggX6_rates_X4_clear
set_option maxRecDepth 20000 in
theorem ggX6_rates_X2_allow : GoodIn wsX6_rates wsX2_allow := goodIn_r _ [28, 29, 30, 31, 32, 33, 34, 35, 36, 37, 38, 39, 40, 41, 42, 43, 44, 45, 46, 47, 48, 49, 50, 51, 82, 83, 84, 85, 72, 73, 74, 75, 76, 77] (by decide +kernel) (by decide +kernel)
set_option maxRecDepth 20000 in
theorem gX6_rates_X2_allow : GoodIn wsX6_rates (wsV RX6 170 RX2 yX2_allow wsX2_allow) := goodIn_app (goodIn_of _ (by decide +kernel)) ggX6_rates_X2_allow
set_option maxRecDepth 20000 in
theorem ggX6_rates_X4_add : GoodIn wsX6_rates wsX4_add := goodIn_r _ [55, 20, 21, 22, 23, 78, 79, 80, 81] (by decide +kernel) (by decide +kernel)
set_option maxRecDepth 20000 in
theorem gX6_rates_X4_add : GoodIn wsX6_rates (wsV RX6 129 RX4 yX4_add wsX4_add) := goodIn_app (goodIn_of _ (by decide +kernel)) ggX6_rates_X4_add
set_option maxRecDepth 20000 in
theorem ggX6_rates_X4_tell : GoodIn wsX6_rates wsX4_tell := goodIn_r _ [59, 20, 21, 22, 23, 78, 79, 80, 81] (by decide +kernel) (by decide +kernel)
set_option maxRecDepth 20000 in
theorem gX6_rates_X4_tell : GoodIn wsX6_rates (wsV RX6 132 RX4 yX4_tell wsX4_tell) := goodIn_app (goodIn_of _ (by decide +kernel)) ggX6_rates_X4_tell
theorem dX6_rates_0 : decode cX6_rates 0 = .ok (.aload_n 0, 1) := by decide +kernel
theorem dX6_rates_1 : decode cX6_rates 1 = .ok (.getfield 19, 3) := by decide +kernel
theorem dX6_rates_4 : decode cX6_rates 4 = .ok (.iload_n 1, 1) := by decide +kernel
theorem dX6_rates_5 : decode cX6_rates 5 = .ok (.invokevirtual 84, 3) := by decide +kernel
theorem dX6_rates_8 : decode cX6_rates 8 = .ok (.astore_n 3, 1) := by decide +kernel
theorem dX6_rates_9 : decode cX6_rates 9 = .ok (.aload_n 3, 1) := by decide +kernel
theorem dX6_rates_10 : decode cX6_rates 10 = .ok (.ifnonnull 6, 3) := by decide +kernel
theorem dX6_rates_13 : decode cX6_rates 13 = .ok (.bipush (-2), 2) := by decide +kernel
theorem dX6_rates_15 : decode cX6_rates 15 = .ok (.ireturn, 1) := by decide +kernel
theorem dX6_rates_16 : decode cX6_rates 16 = .ok (.iload_n 2, 1) := by decide +kernel
theorem dX6_rates_17 : decode cX6_rates 17 = .ok (.iconst 3, 1) := by decide +kernel
theorem dX6_rates_18 : decode cX6_rates 18 = .ok (.invokestatic 106, 3) := by decide +kernel
theorem dX6_rates_21 : decode cX6_rates 21 = .ok (.ifCond .ne 6, 3) := by decide +kernel
theorem dX6_rates_24 : decode cX6_rates 24 = .ok (.bipush (-3), 2) := by decide +kernel
theorem dX6_rates_26 : decode cX6_rates 26 = .ok (.ireturn, 1) := by decide +kernel
theorem dX6_rates_27 : decode cX6_rates 27 = .ok (.aload_n 0, 1) := by decide +kernel
theorem dX6_rates_28 : decode cX6_rates 28 = .ok (.getfield 30, 3) := by decide +kernel
theorem dX6_rates_31 : decode cX6_rates 31 = .ok (.invokevirtual 126, 3) := by decide +kernel
theorem dX6_rates_34 : decode cX6_rates 34 = .ok (.iconst 0, 1) := by decide +kernel
theorem dX6_rates_35 : decode cX6_rates 35 = .ok (.istore 4, 2) := by decide +kernel
theorem dX6_rates_37 : decode cX6_rates 37 = .ok (.iload 4, 2) := by decide +kernel
theorem dX6_rates_39 : decode cX6_rates 39 = .ok (.sipush 241, 3) := by decide +kernel
theorem dX6_rates_42 : decode cX6_rates 42 = .ok (.if_icmp .ge 38, 3) := by decide +kernel
theorem dX6_rates_45 : decode cX6_rates 45 = .ok (.aload_n 0, 1) := by decide +kernel
theorem dX6_rates_46 : decode cX6_rates 46 = .ok (.getfield 19, 3) := by decide +kernel
theorem dX6_rates_49 : decode cX6_rates 49 = .ok (.getfield 158, 3) := by decide +kernel
theorem dX6_rates_52 : decode cX6_rates 52 = .ok (.iload_n 1, 1) := by decide +kernel
theorem dX6_rates_53 : decode cX6_rates 53 = .ok (.aload_n 3, 1) := by decide +kernel
theorem dX6_rates_54 : decode cX6_rates 54 = .ok (.iload 4, 2) := by decide +kernel
theorem dX6_rates_56 : decode cX6_rates 56 = .ok (.bipush 120, 2) := by decide +kernel
theorem dX6_rates_58 : decode cX6_rates 58 = .ok (.isub, 1) := by decide +kernel
theorem dX6_rates_59 : decode cX6_rates 59 = .ok (.invokevirtual 170, 3) := by decide +kernel
theorem dX6_rates_62 : decode cX6_rates 62 = .ok (.ifCond .eq 12, 3) := by decide +kernel
theorem dX6_rates_65 : decode cX6_rates 65 = .ok (.aload_n 0, 1) := by decide +kernel
theorem dX6_rates_66 : decode cX6_rates 66 = .ok (.getfield 30, 3) := by decide +kernel
theorem dX6_rates_69 : decode cX6_rates 69 = .ok (.iload 4, 2) := by decide +kernel
theorem dX6_rates_71 : decode cX6_rates 71 = .ok (.invokevirtual 129, 3) := by decide +kernel
theorem dX6_rates_74 : decode cX6_rates 74 = .ok (.iinc 4 1, 3) := by decide +kernel
theorem dX6_rates_77 : decode cX6_rates 77 = .ok (.goto (-40), 3) := by decide +kernel
theorem dX6_rates_80 : decode cX6_rates 80 = .ok (.aload_n 0, 1) := by decide +kernel
theorem dX6_rates_81 : decode cX6_rates 81 = .ok (.getfield 30, 3) := by decide +kernel
theorem dX6_rates_84 : decode cX6_rates 84 = .ok (.iload_n 2, 1) := by decide +kernel
theorem dX6_rates_85 : decode cX6_rates 85 = .ok (.invokevirtual 132, 3) := by decide +kernel
theorem dX6_rates_88 : decode cX6_rates 88 = .ok (.ireturn, 1) := by decide +kernel
set_option maxRecDepth 20000 in
theorem ggX6_again_X6_canMeet : GoodIn wsX6_again wsX6_canMeet := goodIn_r _ [14, 2, 15, 3, 16, 17, 18, 13, 19, 20, 21, 22, 23, 24, 25, 26, 27, 28, 29, 30, 31, 32, 33, 62, 63, 64, 65, 66, 67, 68, 69, 70, 71, 72, 73, 74, 75, 76, 77, 78, 79] (by decide +kernel) (by decide +kernel)
set_option maxRecDepth 20000 in
theorem gX6_again_X6_canMeet : GoodIn wsX6_again (wsV RX6 174 RX6 yX6_canMeet wsX6_canMeet) := goodIn_app (goodIn_of _ (by decide +kernel)) ggX6_again_X6_canMeet
set_option maxRecDepth 20000 in
theorem ggX6_again_X1_toldClock : GoodIn wsX6_again wsX1_toldClock := goodIn_r _ [31, 32, 33, 18, 13, 19, 77, 78, 79, 71, 72, 73, 74, 75, 76] (by decide +kernel) (by decide +kernel)
set_option maxRecDepth 20000 in
theorem gX6_again_X1_toldClock : GoodIn wsX6_again (wsV RX6 84 RX1 yX1_toldClock wsX1_toldClock) := goodIn_app (goodIn_of _ (by decide +kernel)) ggX6_again_X1_toldClock
set_option maxRecDepth 20000 in
theorem ggX6_again_X0_handAt : GoodIn wsX6_again wsX0_handAt := goodIn_r _ [38, 39, 40, 41, 42, 43, 37, 44, 45, 71, 72, 73, 74, 75, 76] (by decide +kernel) (by decide +kernel)
set_option maxRecDepth 20000 in
theorem gX6_again_X0_handAt : GoodIn wsX6_again (wsV RX6 179 RX0 yX0_handAt wsX0_handAt) := goodIn_app (goodIn_of _ (by decide +kernel)) ggX6_again_X0_handAt
set_option maxRecDepth 20000 in
theorem ggX6_again_X6_leastFactor : GoodIn wsX6_again wsX6_leastFactor := goodIn_r _ [48, 5, 4, 6, 7, 8, 9, 49, 50, 51, 52, 53, 54, 13, 55, 56, 57, 58, 59, 60, 61] (by decide +kernel) (by decide +kernel)
set_option maxRecDepth 20000 in
theorem gX6_again_X6_leastFactor : GoodIn wsX6_again (va_wsS RX6 182 yX6_leastFactor wsX6_leastFactor) := goodIn_app (goodIn_of _ (by decide +kernel)) ggX6_again_X6_leastFactor
set_option maxRecDepth 20000 in
theorem ggX6_again_X6_sharedWithRound : GoodIn wsX6_again wsX6_sharedWithRound := goodIn_r _ [55, 5, 6, 7, 8, 9, 49, 50, 51, 52, 56, 57, 13, 58] (by decide +kernel) (by decide +kernel)
set_option maxRecDepth 20000 in
theorem gX6_again_X6_sharedWithRound : GoodIn wsX6_again (va_wsS RX6 190 yX6_sharedWithRound wsX6_sharedWithRound) := goodIn_app (goodIn_of _ (by decide +kernel)) ggX6_again_X6_sharedWithRound
set_option maxRecDepth 20000 in
theorem ggX6_again_J9_floorMod_f86c9 : GoodIn wsX6_again wsJ9_floorMod_f86c9 := goodIn_r _ [52] (by decide +kernel) (by decide +kernel)
set_option maxRecDepth 20000 in
theorem gX6_again_J9_floorMod_f86c9 : GoodIn wsX6_again (va_wsS RX6 196 yJ9_floorMod_f86c9 wsJ9_floorMod_f86c9) := goodIn_app (goodIn_of _ (by decide +kernel)) ggX6_again_J9_floorMod_f86c9
theorem dX6_again_0 : decode cX6_again 0 = .ok (.aload_n 0, 1) := by decide +kernel
theorem dX6_again_1 : decode cX6_again 1 = .ok (.iload_n 1, 1) := by decide +kernel
theorem dX6_again_2 : decode cX6_again 2 = .ok (.invokevirtual 174, 3) := by decide +kernel
theorem dX6_again_5 : decode cX6_again 5 = .ok (.ifCond .eq 13, 3) := by decide +kernel
theorem dX6_again_8 : decode cX6_again 8 = .ok (.iload_n 2, 1) := by decide +kernel
theorem dX6_again_9 : decode cX6_again 9 = .ok (.ifCond .lt 9, 3) := by decide +kernel
theorem dX6_again_12 : decode cX6_again 12 = .ok (.iload_n 2, 1) := by decide +kernel
theorem dX6_again_13 : decode cX6_again 13 = .ok (.ldc 178, 2) := by decide +kernel
theorem dX6_again_15 : decode cX6_again 15 = .ok (.if_icmp .le 6, 3) := by decide +kernel
theorem dX6_again_18 : decode cX6_again 18 = .ok (.bipush (-3), 2) := by decide +kernel
theorem dX6_again_20 : decode cX6_again 20 = .ok (.ireturn, 1) := by decide +kernel
theorem dX6_again_21 : decode cX6_again 21 = .ok (.aconst_null, 1) := by decide +kernel
theorem dX6_again_22 : decode cX6_again 22 = .ok (.astore_n 3, 1) := by decide +kernel
theorem dX6_again_23 : decode cX6_again 23 = .ok (.lconst 0, 1) := by decide +kernel
theorem dX6_again_24 : decode cX6_again 24 = .ok (.lstore 4, 2) := by decide +kernel
theorem dX6_again_26 : decode cX6_again 26 = .ok (.lconst 1, 1) := by decide +kernel
theorem dX6_again_27 : decode cX6_again 27 = .ok (.lstore 6, 2) := by decide +kernel
theorem dX6_again_29 : decode cX6_again 29 = .ok (.iconst 0, 1) := by decide +kernel
theorem dX6_again_30 : decode cX6_again 30 = .ok (.istore 8, 2) := by decide +kernel
theorem dX6_again_32 : decode cX6_again 32 = .ok (.iload 8, 2) := by decide +kernel
theorem dX6_again_34 : decode cX6_again 34 = .ok (.bipush 8, 2) := by decide +kernel
theorem dX6_again_36 : decode cX6_again 36 = .ok (.if_icmp .ge 140, 3) := by decide +kernel
theorem dX6_again_39 : decode cX6_again 39 = .ok (.aload_n 0, 1) := by decide +kernel
theorem dX6_again_40 : decode cX6_again 40 = .ok (.getfield 19, 3) := by decide +kernel
theorem dX6_again_43 : decode cX6_again 43 = .ok (.iload 8, 2) := by decide +kernel
theorem dX6_again_45 : decode cX6_again 45 = .ok (.invokevirtual 84, 3) := by decide +kernel
theorem dX6_again_48 : decode cX6_again 48 = .ok (.astore 9, 2) := by decide +kernel
theorem dX6_again_50 : decode cX6_again 50 = .ok (.iload_n 1, 1) := by decide +kernel
theorem dX6_again_51 : decode cX6_again 51 = .ok (.iload 8, 2) := by decide +kernel
theorem dX6_again_53 : decode cX6_again 53 = .ok (.ishr, 1) := by decide +kernel
theorem dX6_again_54 : decode cX6_again 54 = .ok (.iconst 1, 1) := by decide +kernel
theorem dX6_again_55 : decode cX6_again 55 = .ok (.iand, 1) := by decide +kernel
theorem dX6_again_56 : decode cX6_again 56 = .ok (.ifCond .eq 114, 3) := by decide +kernel
theorem dX6_again_59 : decode cX6_again 59 = .ok (.aload 9, 2) := by decide +kernel
theorem dX6_again_61 : decode cX6_again 61 = .ok (.ifnonnull 6, 3) := by decide +kernel
theorem dX6_again_64 : decode cX6_again 64 = .ok (.goto 106, 3) := by decide +kernel
theorem dX6_again_67 : decode cX6_again 67 = .ok (.aload_n 3, 1) := by decide +kernel
theorem dX6_again_68 : decode cX6_again 68 = .ok (.ifnonnull 9, 3) := by decide +kernel
theorem dX6_again_71 : decode cX6_again 71 = .ok (.aload 9, 2) := by decide +kernel
theorem dX6_again_73 : decode cX6_again 73 = .ok (.astore_n 3, 1) := by decide +kernel
theorem dX6_again_74 : decode cX6_again 74 = .ok (.goto 96, 3) := by decide +kernel
theorem dX6_again_77 : decode cX6_again 77 = .ok (.aload 9, 2) := by decide +kernel
theorem dX6_again_79 : decode cX6_again 79 = .ok (.getfield 97, 3) := by decide +kernel
theorem dX6_again_82 : decode cX6_again 82 = .ok (.aload_n 3, 1) := by decide +kernel
theorem dX6_again_83 : decode cX6_again 83 = .ok (.getfield 97, 3) := by decide +kernel
theorem dX6_again_86 : decode cX6_again 86 = .ok (.isub, 1) := by decide +kernel
theorem dX6_again_87 : decode cX6_again 87 = .ok (.i2l, 1) := by decide +kernel
theorem dX6_again_88 : decode cX6_again 88 = .ok (.lstore 10, 2) := by decide +kernel
theorem dX6_again_90 : decode cX6_again 90 = .ok (.aload_n 3, 1) := by decide +kernel
theorem dX6_again_91 : decode cX6_again 91 = .ok (.iconst 0, 1) := by decide +kernel
theorem dX6_again_92 : decode cX6_again 92 = .ok (.aload_n 3, 1) := by decide +kernel
theorem dX6_again_93 : decode cX6_again 93 = .ok (.getfield 97, 3) := by decide +kernel
theorem dX6_again_96 : decode cX6_again 96 = .ok (.invokevirtual 179, 3) := by decide +kernel
theorem dX6_again_99 : decode cX6_again 99 = .ok (.aload 9, 2) := by decide +kernel
theorem dX6_again_101 : decode cX6_again 101 = .ok (.iconst 0, 1) := by decide +kernel
theorem dX6_again_102 : decode cX6_again 102 = .ok (.aload 9, 2) := by decide +kernel
theorem dX6_again_104 : decode cX6_again 104 = .ok (.getfield 97, 3) := by decide +kernel
theorem dX6_again_107 : decode cX6_again 107 = .ok (.invokevirtual 179, 3) := by decide +kernel
theorem dX6_again_110 : decode cX6_again 110 = .ok (.isub, 1) := by decide +kernel
theorem dX6_again_111 : decode cX6_again 111 = .ok (.i2l, 1) := by decide +kernel
theorem dX6_again_112 : decode cX6_again 112 = .ok (.lstore 12, 2) := by decide +kernel
theorem dX6_again_114 : decode cX6_again 114 = .ok (.lload 10, 2) := by decide +kernel
theorem dX6_again_116 : decode cX6_again 116 = .ok (.lload 6, 2) := by decide +kernel
theorem dX6_again_118 : decode cX6_again 118 = .ok (.lmul, 1) := by decide +kernel
theorem dX6_again_119 : decode cX6_again 119 = .ok (.lload 12, 2) := by decide +kernel
theorem dX6_again_121 : decode cX6_again 121 = .ok (.lload 10, 2) := by decide +kernel
theorem dX6_again_123 : decode cX6_again 123 = .ok (.lload 4, 2) := by decide +kernel
theorem dX6_again_125 : decode cX6_again 125 = .ok (.lmul, 1) := by decide +kernel
theorem dX6_again_126 : decode cX6_again 126 = .ok (.lsub, 1) := by decide +kernel
theorem dX6_again_127 : decode cX6_again 127 = .ok (.invokestatic 182, 3) := by decide +kernel
theorem dX6_again_130 : decode cX6_again 130 = .ok (.lstore 14, 2) := by decide +kernel
theorem dX6_again_132 : decode cX6_again 132 = .ok (.lload 14, 2) := by decide +kernel
theorem dX6_again_134 : decode cX6_again 134 = .ok (.ldc2_w 186, 3) := by decide +kernel
theorem dX6_again_137 : decode cX6_again 137 = .ok (.lcmp, 1) := by decide +kernel
theorem dX6_again_138 : decode cX6_again 138 = .ok (.ifCond .ne 5, 3) := by decide +kernel
theorem dX6_again_141 : decode cX6_again 141 = .ok (.iconst (-1), 1) := by decide +kernel
theorem dX6_again_142 : decode cX6_again 142 = .ok (.ireturn, 1) := by decide +kernel
theorem dX6_again_143 : decode cX6_again 143 = .ok (.lload 4, 2) := by decide +kernel
theorem dX6_again_145 : decode cX6_again 145 = .ok (.lload 14, 2) := by decide +kernel
theorem dX6_again_147 : decode cX6_again 147 = .ok (.lload 6, 2) := by decide +kernel
theorem dX6_again_149 : decode cX6_again 149 = .ok (.lmul, 1) := by decide +kernel
theorem dX6_again_150 : decode cX6_again 150 = .ok (.ladd, 1) := by decide +kernel
theorem dX6_again_151 : decode cX6_again 151 = .ok (.lstore 4, 2) := by decide +kernel
theorem dX6_again_153 : decode cX6_again 153 = .ok (.lload 6, 2) := by decide +kernel
theorem dX6_again_155 : decode cX6_again 155 = .ok (.ldc2_w 188, 3) := by decide +kernel
theorem dX6_again_158 : decode cX6_again 158 = .ok (.lload 10, 2) := by decide +kernel
theorem dX6_again_160 : decode cX6_again 160 = .ok (.lload 6, 2) := by decide +kernel
theorem dX6_again_162 : decode cX6_again 162 = .ok (.lmul, 1) := by decide +kernel
theorem dX6_again_163 : decode cX6_again 163 = .ok (.invokestatic 190, 3) := by decide +kernel
theorem dX6_again_166 : decode cX6_again 166 = .ok (.ldiv, 1) := by decide +kernel
theorem dX6_again_167 : decode cX6_again 167 = .ok (.lmul, 1) := by decide +kernel
theorem dX6_again_168 : decode cX6_again 168 = .ok (.lstore 6, 2) := by decide +kernel
theorem dX6_again_170 : decode cX6_again 170 = .ok (.iinc 8 1, 3) := by decide +kernel
theorem dX6_again_173 : decode cX6_again 173 = .ok (.goto (-141), 3) := by decide +kernel
theorem dX6_again_176 : decode cX6_again 176 = .ok (.iload_n 2, 1) := by decide +kernel
theorem dX6_again_177 : decode cX6_again 177 = .ok (.lload 4, 2) := by decide +kernel
theorem dX6_again_179 : decode cX6_again 179 = .ok (.iload_n 2, 1) := by decide +kernel
theorem dX6_again_180 : decode cX6_again 180 = .ok (.i2l, 1) := by decide +kernel
theorem dX6_again_181 : decode cX6_again 181 = .ok (.lsub, 1) := by decide +kernel
theorem dX6_again_182 : decode cX6_again 182 = .ok (.lconst 1, 1) := by decide +kernel
theorem dX6_again_183 : decode cX6_again 183 = .ok (.lload 6, 2) := by decide +kernel
theorem dX6_again_185 : decode cX6_again 185 = .ok (.invokestatic 194, 3) := by decide +kernel
theorem dX6_again_188 : decode cX6_again 188 = .ok (.invokestatic 196, 3) := by decide +kernel
theorem dX6_again_191 : decode cX6_again 191 = .ok (.l2i, 1) := by decide +kernel
theorem dX6_again_192 : decode cX6_again 192 = .ok (.iadd, 1) := by decide +kernel
theorem dX6_again_193 : decode cX6_again 193 = .ok (.ireturn, 1) := by decide +kernel
set_option maxRecDepth 20000 in
theorem ggX6_canMeet_X6_isBelow : GoodIn wsX6_canMeet wsX6_isBelow := goodIn_r _ [8] (by decide +kernel) (by decide +kernel)
set_option maxRecDepth 20000 in
theorem gX6_canMeet_X6_isBelow : GoodIn wsX6_canMeet (va_wsS RX6 106 yX6_isBelow wsX6_isBelow) := goodIn_app (goodIn_of _ (by decide +kernel)) ggX6_canMeet_X6_isBelow
set_option maxRecDepth 20000 in
theorem ggX6_canMeet_J6_bitCount_0f7a4 : GoodIn wsX6_canMeet wsJ6_bitCount_0f7a4 := goodIn_r _ [12, 13, 14, 15] (by decide +kernel) (by decide +kernel)
set_option maxRecDepth 20000 in
theorem gX6_canMeet_J6_bitCount_0f7a4 : GoodIn wsX6_canMeet (va_wsS RX6 138 yJ6_bitCount_0f7a4 wsJ6_bitCount_0f7a4) := goodIn_app (goodIn_of _ (by decide +kernel)) ggX6_canMeet_J6_bitCount_0f7a4
set_option maxRecDepth 20000 in
theorem ggX6_canMeet_X1_toldClock : GoodIn wsX6_canMeet wsX1_toldClock := goodIn_r _ [20, 21, 22, 6, 7, 8, 38, 39, 40, 32, 33, 34, 35, 36, 37] (by decide +kernel) (by decide +kernel)
set_option maxRecDepth 20000 in
theorem gX6_canMeet_X1_toldClock : GoodIn wsX6_canMeet (wsV RX6 84 RX1 yX1_toldClock wsX1_toldClock) := goodIn_app (goodIn_of _ (by decide +kernel)) ggX6_canMeet_X1_toldClock
theorem dX6_canMeet_0 : decode cX6_canMeet 0 = .ok (.iload_n 1, 1) := by decide +kernel
theorem dX6_canMeet_1 : decode cX6_canMeet 1 = .ok (.sipush 256, 3) := by decide +kernel
theorem dX6_canMeet_4 : decode cX6_canMeet 4 = .ok (.invokestatic 106, 3) := by decide +kernel
theorem dX6_canMeet_7 : decode cX6_canMeet 7 = .ok (.ifCond .eq 11, 3) := by decide +kernel
theorem dX6_canMeet_10 : decode cX6_canMeet 10 = .ok (.iload_n 1, 1) := by decide +kernel
theorem dX6_canMeet_11 : decode cX6_canMeet 11 = .ok (.invokestatic 138, 3) := by decide +kernel
theorem dX6_canMeet_14 : decode cX6_canMeet 14 = .ok (.iconst 2, 1) := by decide +kernel
theorem dX6_canMeet_15 : decode cX6_canMeet 15 = .ok (.if_icmp .ge 5, 3) := by decide +kernel
theorem dX6_canMeet_18 : decode cX6_canMeet 18 = .ok (.iconst 0, 1) := by decide +kernel
theorem dX6_canMeet_19 : decode cX6_canMeet 19 = .ok (.ireturn, 1) := by decide +kernel
theorem dX6_canMeet_20 : decode cX6_canMeet 20 = .ok (.iconst 0, 1) := by decide +kernel
theorem dX6_canMeet_21 : decode cX6_canMeet 21 = .ok (.istore_n 2, 1) := by decide +kernel
theorem dX6_canMeet_22 : decode cX6_canMeet 22 = .ok (.iload_n 2, 1) := by decide +kernel
theorem dX6_canMeet_23 : decode cX6_canMeet 23 = .ok (.bipush 8, 2) := by decide +kernel
theorem dX6_canMeet_25 : decode cX6_canMeet 25 = .ok (.if_icmp .ge 53, 3) := by decide +kernel
theorem dX6_canMeet_28 : decode cX6_canMeet 28 = .ok (.iload_n 1, 1) := by decide +kernel
theorem dX6_canMeet_29 : decode cX6_canMeet 29 = .ok (.iload_n 2, 1) := by decide +kernel
theorem dX6_canMeet_30 : decode cX6_canMeet 30 = .ok (.ishr, 1) := by decide +kernel
theorem dX6_canMeet_31 : decode cX6_canMeet 31 = .ok (.iconst 1, 1) := by decide +kernel
theorem dX6_canMeet_32 : decode cX6_canMeet 32 = .ok (.iand, 1) := by decide +kernel
theorem dX6_canMeet_33 : decode cX6_canMeet 33 = .ok (.ifCond .ne 6, 3) := by decide +kernel
theorem dX6_canMeet_36 : decode cX6_canMeet 36 = .ok (.goto 36, 3) := by decide +kernel
theorem dX6_canMeet_39 : decode cX6_canMeet 39 = .ok (.aload_n 0, 1) := by decide +kernel
theorem dX6_canMeet_40 : decode cX6_canMeet 40 = .ok (.getfield 19, 3) := by decide +kernel
theorem dX6_canMeet_43 : decode cX6_canMeet 43 = .ok (.iload_n 2, 1) := by decide +kernel
theorem dX6_canMeet_44 : decode cX6_canMeet 44 = .ok (.invokevirtual 84, 3) := by decide +kernel
theorem dX6_canMeet_47 : decode cX6_canMeet 47 = .ok (.astore_n 3, 1) := by decide +kernel
theorem dX6_canMeet_48 : decode cX6_canMeet 48 = .ok (.aload_n 3, 1) := by decide +kernel
theorem dX6_canMeet_49 : decode cX6_canMeet 49 = .ok (.ifnull 21, 3) := by decide +kernel
theorem dX6_canMeet_52 : decode cX6_canMeet 52 = .ok (.aload_n 3, 1) := by decide +kernel
theorem dX6_canMeet_53 : decode cX6_canMeet 53 = .ok (.getfield 88, 3) := by decide +kernel
theorem dX6_canMeet_56 : decode cX6_canMeet 56 = .ok (.ifCond .ne 14, 3) := by decide +kernel
theorem dX6_canMeet_59 : decode cX6_canMeet 59 = .ok (.aload_n 3, 1) := by decide +kernel
theorem dX6_canMeet_60 : decode cX6_canMeet 60 = .ok (.getfield 97, 3) := by decide +kernel
theorem dX6_canMeet_63 : decode cX6_canMeet 63 = .ok (.aload_n 3, 1) := by decide +kernel
theorem dX6_canMeet_64 : decode cX6_canMeet 64 = .ok (.getfield 100, 3) := by decide +kernel
theorem dX6_canMeet_67 : decode cX6_canMeet 67 = .ok (.if_icmp .eq 5, 3) := by decide +kernel
theorem dX6_canMeet_70 : decode cX6_canMeet 70 = .ok (.iconst 0, 1) := by decide +kernel
theorem dX6_canMeet_71 : decode cX6_canMeet 71 = .ok (.ireturn, 1) := by decide +kernel
theorem dX6_canMeet_72 : decode cX6_canMeet 72 = .ok (.iinc 2 1, 3) := by decide +kernel
theorem dX6_canMeet_75 : decode cX6_canMeet 75 = .ok (.goto (-53), 3) := by decide +kernel
theorem dX6_canMeet_78 : decode cX6_canMeet 78 = .ok (.iconst 1, 1) := by decide +kernel
theorem dX6_canMeet_79 : decode cX6_canMeet 79 = .ok (.ireturn, 1) := by decide +kernel
set_option maxRecDepth 20000 in
theorem ggX6_leastFactor_J9_floorMod_f86c9 : GoodIn wsX6_leastFactor wsJ9_floorMod_f86c9 := goodIn_r _ [10] (by decide +kernel) (by decide +kernel)
set_option maxRecDepth 20000 in
theorem gX6_leastFactor_J9_floorMod_f86c9 : GoodIn wsX6_leastFactor (va_wsS RX6 196 yJ9_floorMod_f86c9 wsJ9_floorMod_f86c9) := goodIn_app (goodIn_of _ (by decide +kernel)) ggX6_leastFactor_J9_floorMod_f86c9
set_option maxRecDepth 20000 in
theorem ggX6_leastFactor_X6_sharedWithRound : GoodIn wsX6_leastFactor wsX6_sharedWithRound := goodIn_r _ [14, 1, 3, 4, 5, 6, 7, 8, 9, 10, 15, 16, 13, 17] (by decide +kernel) (by decide +kernel)
set_option maxRecDepth 20000 in
theorem gX6_leastFactor_X6_sharedWithRound : GoodIn wsX6_leastFactor (va_wsS RX6 190 yX6_sharedWithRound wsX6_sharedWithRound) := goodIn_app (goodIn_of _ (by decide +kernel)) ggX6_leastFactor_X6_sharedWithRound
set_option maxRecDepth 20000 in
theorem ggX6_leastFactor_X6_inverse : GoodIn wsX6_leastFactor wsX6_inverse := goodIn_r _ [20, 7, 8, 9, 10] (by decide +kernel) (by decide +kernel)
set_option maxRecDepth 20000 in
theorem gX6_leastFactor_X6_inverse : GoodIn wsX6_leastFactor (va_wsS RX6 199 yX6_inverse wsX6_inverse) := goodIn_app (goodIn_of _ (by decide +kernel)) ggX6_leastFactor_X6_inverse
theorem dX6_leastFactor_0 : decode cX6_leastFactor 0 = .ok (.lload_n 0, 1) := by decide +kernel
theorem dX6_leastFactor_1 : decode cX6_leastFactor 1 = .ok (.ldc2_w 188, 3) := by decide +kernel
theorem dX6_leastFactor_4 : decode cX6_leastFactor 4 = .ok (.invokestatic 196, 3) := by decide +kernel
theorem dX6_leastFactor_7 : decode cX6_leastFactor 7 = .ok (.lstore 4, 2) := by decide +kernel
theorem dX6_leastFactor_9 : decode cX6_leastFactor 9 = .ok (.lload_n 2, 1) := by decide +kernel
theorem dX6_leastFactor_10 : decode cX6_leastFactor 10 = .ok (.ldc2_w 188, 3) := by decide +kernel
theorem dX6_leastFactor_13 : decode cX6_leastFactor 13 = .ok (.invokestatic 196, 3) := by decide +kernel
theorem dX6_leastFactor_16 : decode cX6_leastFactor 16 = .ok (.lstore 6, 2) := by decide +kernel
theorem dX6_leastFactor_18 : decode cX6_leastFactor 18 = .ok (.lload_n 0, 1) := by decide +kernel
theorem dX6_leastFactor_19 : decode cX6_leastFactor 19 = .ok (.invokestatic 190, 3) := by decide +kernel
theorem dX6_leastFactor_22 : decode cX6_leastFactor 22 = .ok (.lstore 8, 2) := by decide +kernel
theorem dX6_leastFactor_24 : decode cX6_leastFactor 24 = .ok (.lload 6, 2) := by decide +kernel
theorem dX6_leastFactor_26 : decode cX6_leastFactor 26 = .ok (.lload 8, 2) := by decide +kernel
theorem dX6_leastFactor_28 : decode cX6_leastFactor 28 = .ok (.lrem, 1) := by decide +kernel
theorem dX6_leastFactor_29 : decode cX6_leastFactor 29 = .ok (.lconst 0, 1) := by decide +kernel
theorem dX6_leastFactor_30 : decode cX6_leastFactor 30 = .ok (.lcmp, 1) := by decide +kernel
theorem dX6_leastFactor_31 : decode cX6_leastFactor 31 = .ok (.ifCond .eq 7, 3) := by decide +kernel
theorem dX6_leastFactor_34 : decode cX6_leastFactor 34 = .ok (.ldc2_w 186, 3) := by decide +kernel
theorem dX6_leastFactor_37 : decode cX6_leastFactor 37 = .ok (.lreturn, 1) := by decide +kernel
theorem dX6_leastFactor_38 : decode cX6_leastFactor 38 = .ok (.lconst 1, 1) := by decide +kernel
theorem dX6_leastFactor_39 : decode cX6_leastFactor 39 = .ok (.ldc2_w 188, 3) := by decide +kernel
theorem dX6_leastFactor_42 : decode cX6_leastFactor 42 = .ok (.lload 8, 2) := by decide +kernel
theorem dX6_leastFactor_44 : decode cX6_leastFactor 44 = .ok (.ldiv, 1) := by decide +kernel
theorem dX6_leastFactor_45 : decode cX6_leastFactor 45 = .ok (.invokestatic 194, 3) := by decide +kernel
theorem dX6_leastFactor_48 : decode cX6_leastFactor 48 = .ok (.lstore 10, 2) := by decide +kernel
theorem dX6_leastFactor_50 : decode cX6_leastFactor 50 = .ok (.lload 6, 2) := by decide +kernel
theorem dX6_leastFactor_52 : decode cX6_leastFactor 52 = .ok (.lload 8, 2) := by decide +kernel
theorem dX6_leastFactor_54 : decode cX6_leastFactor 54 = .ok (.ldiv, 1) := by decide +kernel
theorem dX6_leastFactor_55 : decode cX6_leastFactor 55 = .ok (.lload 4, 2) := by decide +kernel
theorem dX6_leastFactor_57 : decode cX6_leastFactor 57 = .ok (.lload 8, 2) := by decide +kernel
theorem dX6_leastFactor_59 : decode cX6_leastFactor 59 = .ok (.ldiv, 1) := by decide +kernel
theorem dX6_leastFactor_60 : decode cX6_leastFactor 60 = .ok (.lload 10, 2) := by decide +kernel
theorem dX6_leastFactor_62 : decode cX6_leastFactor 62 = .ok (.invokestatic 199, 3) := by decide +kernel
theorem dX6_leastFactor_65 : decode cX6_leastFactor 65 = .ok (.lmul, 1) := by decide +kernel
theorem dX6_leastFactor_66 : decode cX6_leastFactor 66 = .ok (.lload 10, 2) := by decide +kernel
theorem dX6_leastFactor_68 : decode cX6_leastFactor 68 = .ok (.lrem, 1) := by decide +kernel
theorem dX6_leastFactor_69 : decode cX6_leastFactor 69 = .ok (.lreturn, 1) := by decide +kernel
set_option maxRecDepth 20000 in
theorem ggX6_sharedWithRound_J9_floorMod_f86c9 : GoodIn wsX6_sharedWithRound wsJ9_floorMod_f86c9 := goodIn_r _ [9] (by decide +kernel) (by decide +kernel)
set_option maxRecDepth 20000 in
theorem gX6_sharedWithRound_J9_floorMod_f86c9 : GoodIn wsX6_sharedWithRound (va_wsS RX6 196 yJ9_floorMod_f86c9 wsJ9_floorMod_f86c9) := goodIn_app (goodIn_of _ (by decide +kernel)) ggX6_sharedWithRound_J9_floorMod_f86c9
set_option maxRecDepth 20000 in
theorem ggX6_sharedWithRound_X6_commonDivisor : GoodIn wsX6_sharedWithRound wsX6_commonDivisor := goodIn_r _ [13] (by decide +kernel) (by decide +kernel)
set_option maxRecDepth 20000 in
theorem gX6_sharedWithRound_X6_commonDivisor : GoodIn wsX6_sharedWithRound (va_wsS RX6 202 yX6_commonDivisor wsX6_commonDivisor) := goodIn_app (goodIn_of _ (by decide +kernel)) ggX6_sharedWithRound_X6_commonDivisor
theorem dX6_sharedWithRound_0 : decode cX6_sharedWithRound 0 = .ok (.lconst 1, 1) := by decide +kernel
theorem dX6_sharedWithRound_1 : decode cX6_sharedWithRound 1 = .ok (.lload_n 0, 1) := by decide +kernel
theorem dX6_sharedWithRound_2 : decode cX6_sharedWithRound 2 = .ok (.ldc2_w 188, 3) := by decide +kernel
theorem dX6_sharedWithRound_5 : decode cX6_sharedWithRound 5 = .ok (.invokestatic 196, 3) := by decide +kernel
theorem dX6_sharedWithRound_8 : decode cX6_sharedWithRound 8 = .ok (.ldc2_w 188, 3) := by decide +kernel
theorem dX6_sharedWithRound_11 : decode cX6_sharedWithRound 11 = .ok (.invokestatic 202, 3) := by decide +kernel
theorem dX6_sharedWithRound_14 : decode cX6_sharedWithRound 14 = .ok (.invokestatic 194, 3) := by decide +kernel
theorem dX6_sharedWithRound_17 : decode cX6_sharedWithRound 17 = .ok (.lreturn, 1) := by decide +kernel
set_option maxRecDepth 20000 in
theorem ggX6_inverse_J9_floorMod_f86c9 : GoodIn wsX6_inverse wsJ9_floorMod_f86c9 := goodIn_r _ [4] (by decide +kernel) (by decide +kernel)
set_option maxRecDepth 20000 in
theorem gX6_inverse_J9_floorMod_f86c9 : GoodIn wsX6_inverse (va_wsS RX6 196 yJ9_floorMod_f86c9 wsJ9_floorMod_f86c9) := goodIn_app (goodIn_of _ (by decide +kernel)) ggX6_inverse_J9_floorMod_f86c9
theorem dX6_inverse_0 : decode cX6_inverse 0 = .ok (.lload_n 0, 1) := by decide +kernel
theorem dX6_inverse_1 : decode cX6_inverse 1 = .ok (.lstore 4, 2) := by decide +kernel
theorem dX6_inverse_3 : decode cX6_inverse 3 = .ok (.lconst 1, 1) := by decide +kernel
theorem dX6_inverse_4 : decode cX6_inverse 4 = .ok (.lstore 6, 2) := by decide +kernel
theorem dX6_inverse_6 : decode cX6_inverse 6 = .ok (.lload_n 2, 1) := by decide +kernel
theorem dX6_inverse_7 : decode cX6_inverse 7 = .ok (.lstore 8, 2) := by decide +kernel
theorem dX6_inverse_9 : decode cX6_inverse 9 = .ok (.lconst 0, 1) := by decide +kernel
theorem dX6_inverse_10 : decode cX6_inverse 10 = .ok (.lstore 10, 2) := by decide +kernel
theorem dX6_inverse_12 : decode cX6_inverse 12 = .ok (.iconst 0, 1) := by decide +kernel
theorem dX6_inverse_13 : decode cX6_inverse 13 = .ok (.istore 12, 2) := by decide +kernel
theorem dX6_inverse_15 : decode cX6_inverse 15 = .ok (.iload 12, 2) := by decide +kernel
theorem dX6_inverse_17 : decode cX6_inverse 17 = .ok (.bipush 99, 2) := by decide +kernel
theorem dX6_inverse_19 : decode cX6_inverse 19 = .ok (.if_icmp .ge 59, 3) := by decide +kernel
theorem dX6_inverse_22 : decode cX6_inverse 22 = .ok (.lload 8, 2) := by decide +kernel
theorem dX6_inverse_24 : decode cX6_inverse 24 = .ok (.lconst 0, 1) := by decide +kernel
theorem dX6_inverse_25 : decode cX6_inverse 25 = .ok (.lcmp, 1) := by decide +kernel
theorem dX6_inverse_26 : decode cX6_inverse 26 = .ok (.ifCond .eq 52, 3) := by decide +kernel
theorem dX6_inverse_29 : decode cX6_inverse 29 = .ok (.lload 4, 2) := by decide +kernel
theorem dX6_inverse_31 : decode cX6_inverse 31 = .ok (.lload 8, 2) := by decide +kernel
theorem dX6_inverse_33 : decode cX6_inverse 33 = .ok (.ldiv, 1) := by decide +kernel
theorem dX6_inverse_34 : decode cX6_inverse 34 = .ok (.lstore 13, 2) := by decide +kernel
theorem dX6_inverse_36 : decode cX6_inverse 36 = .ok (.lload 4, 2) := by decide +kernel
theorem dX6_inverse_38 : decode cX6_inverse 38 = .ok (.lload 13, 2) := by decide +kernel
theorem dX6_inverse_40 : decode cX6_inverse 40 = .ok (.lload 8, 2) := by decide +kernel
theorem dX6_inverse_42 : decode cX6_inverse 42 = .ok (.lmul, 1) := by decide +kernel
theorem dX6_inverse_43 : decode cX6_inverse 43 = .ok (.lsub, 1) := by decide +kernel
theorem dX6_inverse_44 : decode cX6_inverse 44 = .ok (.lstore 15, 2) := by decide +kernel
theorem dX6_inverse_46 : decode cX6_inverse 46 = .ok (.lload 6, 2) := by decide +kernel
theorem dX6_inverse_48 : decode cX6_inverse 48 = .ok (.lload 13, 2) := by decide +kernel
theorem dX6_inverse_50 : decode cX6_inverse 50 = .ok (.lload 10, 2) := by decide +kernel
theorem dX6_inverse_52 : decode cX6_inverse 52 = .ok (.lmul, 1) := by decide +kernel
theorem dX6_inverse_53 : decode cX6_inverse 53 = .ok (.lsub, 1) := by decide +kernel
theorem dX6_inverse_54 : decode cX6_inverse 54 = .ok (.lstore 17, 2) := by decide +kernel
theorem dX6_inverse_56 : decode cX6_inverse 56 = .ok (.lload 8, 2) := by decide +kernel
theorem dX6_inverse_58 : decode cX6_inverse 58 = .ok (.lstore 4, 2) := by decide +kernel
theorem dX6_inverse_60 : decode cX6_inverse 60 = .ok (.lload 10, 2) := by decide +kernel
theorem dX6_inverse_62 : decode cX6_inverse 62 = .ok (.lstore 6, 2) := by decide +kernel
theorem dX6_inverse_64 : decode cX6_inverse 64 = .ok (.lload 15, 2) := by decide +kernel
theorem dX6_inverse_66 : decode cX6_inverse 66 = .ok (.lstore 8, 2) := by decide +kernel
theorem dX6_inverse_68 : decode cX6_inverse 68 = .ok (.lload 17, 2) := by decide +kernel
theorem dX6_inverse_70 : decode cX6_inverse 70 = .ok (.lstore 10, 2) := by decide +kernel
theorem dX6_inverse_72 : decode cX6_inverse 72 = .ok (.iinc 12 1, 3) := by decide +kernel
theorem dX6_inverse_75 : decode cX6_inverse 75 = .ok (.goto (-60), 3) := by decide +kernel
theorem dX6_inverse_78 : decode cX6_inverse 78 = .ok (.lload_n 2, 1) := by decide +kernel
theorem dX6_inverse_79 : decode cX6_inverse 79 = .ok (.lconst 1, 1) := by decide +kernel
theorem dX6_inverse_80 : decode cX6_inverse 80 = .ok (.lcmp, 1) := by decide +kernel
theorem dX6_inverse_81 : decode cX6_inverse 81 = .ok (.ifCond .ge 7, 3) := by decide +kernel
theorem dX6_inverse_84 : decode cX6_inverse 84 = .ok (.lconst 0, 1) := by decide +kernel
theorem dX6_inverse_85 : decode cX6_inverse 85 = .ok (.goto 9, 3) := by decide +kernel
theorem dX6_inverse_88 : decode cX6_inverse 88 = .ok (.lload 6, 2) := by decide +kernel
theorem dX6_inverse_90 : decode cX6_inverse 90 = .ok (.lload_n 2, 1) := by decide +kernel
theorem dX6_inverse_91 : decode cX6_inverse 91 = .ok (.invokestatic 196, 3) := by decide +kernel
theorem dX6_inverse_94 : decode cX6_inverse 94 = .ok (.lreturn, 1) := by decide +kernel
theorem dX6_commonDivisor_0 : decode cX6_commonDivisor 0 = .ok (.lload_n 0, 1) := by decide +kernel
theorem dX6_commonDivisor_1 : decode cX6_commonDivisor 1 = .ok (.lstore 4, 2) := by decide +kernel
theorem dX6_commonDivisor_3 : decode cX6_commonDivisor 3 = .ok (.lload_n 2, 1) := by decide +kernel
theorem dX6_commonDivisor_4 : decode cX6_commonDivisor 4 = .ok (.lstore 6, 2) := by decide +kernel
theorem dX6_commonDivisor_6 : decode cX6_commonDivisor 6 = .ok (.iconst 0, 1) := by decide +kernel
theorem dX6_commonDivisor_7 : decode cX6_commonDivisor 7 = .ok (.istore 8, 2) := by decide +kernel
theorem dX6_commonDivisor_9 : decode cX6_commonDivisor 9 = .ok (.iload 8, 2) := by decide +kernel
theorem dX6_commonDivisor_11 : decode cX6_commonDivisor 11 = .ok (.bipush 99, 2) := by decide +kernel
theorem dX6_commonDivisor_13 : decode cX6_commonDivisor 13 = .ok (.if_icmp .ge 31, 3) := by decide +kernel
theorem dX6_commonDivisor_16 : decode cX6_commonDivisor 16 = .ok (.lload 6, 2) := by decide +kernel
theorem dX6_commonDivisor_18 : decode cX6_commonDivisor 18 = .ok (.lconst 0, 1) := by decide +kernel
theorem dX6_commonDivisor_19 : decode cX6_commonDivisor 19 = .ok (.lcmp, 1) := by decide +kernel
theorem dX6_commonDivisor_20 : decode cX6_commonDivisor 20 = .ok (.ifCond .eq 24, 3) := by decide +kernel
theorem dX6_commonDivisor_23 : decode cX6_commonDivisor 23 = .ok (.lload 4, 2) := by decide +kernel
theorem dX6_commonDivisor_25 : decode cX6_commonDivisor 25 = .ok (.lload 6, 2) := by decide +kernel
theorem dX6_commonDivisor_27 : decode cX6_commonDivisor 27 = .ok (.lrem, 1) := by decide +kernel
theorem dX6_commonDivisor_28 : decode cX6_commonDivisor 28 = .ok (.lstore 9, 2) := by decide +kernel
theorem dX6_commonDivisor_30 : decode cX6_commonDivisor 30 = .ok (.lload 6, 2) := by decide +kernel
theorem dX6_commonDivisor_32 : decode cX6_commonDivisor 32 = .ok (.lstore 4, 2) := by decide +kernel
theorem dX6_commonDivisor_34 : decode cX6_commonDivisor 34 = .ok (.lload 9, 2) := by decide +kernel
theorem dX6_commonDivisor_36 : decode cX6_commonDivisor 36 = .ok (.lstore 6, 2) := by decide +kernel
theorem dX6_commonDivisor_38 : decode cX6_commonDivisor 38 = .ok (.iinc 8 1, 3) := by decide +kernel
theorem dX6_commonDivisor_41 : decode cX6_commonDivisor 41 = .ok (.goto (-32), 3) := by decide +kernel
theorem dX6_commonDivisor_44 : decode cX6_commonDivisor 44 = .ok (.lload 4, 2) := by decide +kernel
theorem dX6_commonDivisor_46 : decode cX6_commonDivisor 46 = .ok (.lreturn, 1) := by decide +kernel
set_option maxRecDepth 20000 in
theorem ggX6_stopped_X1_toldClock : GoodIn wsX6_stopped wsX1_toldClock := goodIn_r _ [9, 10, 11, 12, 13, 14, 80, 81, 82, 74, 75, 76, 77, 78, 79] (by decide +kernel) (by decide +kernel)
set_option maxRecDepth 20000 in
theorem gX6_stopped_X1_toldClock : GoodIn wsX6_stopped (wsV RX6 84 RX1 yX1_toldClock wsX1_toldClock) := goodIn_app (goodIn_of _ (by decide +kernel)) ggX6_stopped_X1_toldClock
set_option maxRecDepth 20000 in
theorem ggX6_stopped_X6_isBelow : GoodIn wsX6_stopped wsX6_isBelow := goodIn_r _ [14] (by decide +kernel) (by decide +kernel)
set_option maxRecDepth 20000 in
theorem gX6_stopped_X6_isBelow : GoodIn wsX6_stopped (va_wsS RX6 106 yX6_isBelow wsX6_isBelow) := goodIn_app (goodIn_of _ (by decide +kernel)) ggX6_stopped_X6_isBelow
set_option maxRecDepth 20000 in
theorem ggX6_stopped_X4_clear : GoodIn wsX6_stopped wsX4_clear := goodIn_r _ [20, 21, 22, 23, 24, 83, 84, 85, 86] (by decide +kernel) (by decide +kernel)
set_option maxRecDepth 20000 in
theorem gX6_stopped_X4_clear : GoodIn wsX6_stopped (wsV RX6 126 RX4 yX4_clear wsX4_clear) := goodIn_app (goodIn_of _ (by decide +kernel)) ggX6_stopped_X4_clear
set_option maxRecDepth 20000 in
theorem ggX6_stopped_X0_canShow : GoodIn wsX6_stopped wsX0_canShow := goodIn_r _ [29, 30, 31, 32, 33, 34, 35, 36, 37, 38, 39, 40, 41, 28, 42, 43, 44, 45, 46, 47, 48, 49, 50, 51, 52, 53, 54, 55, 56, 74, 75, 76, 77, 78, 79] (by decide +kernel) (by decide +kernel)
set_option maxRecDepth 20000 in
theorem gX6_stopped_X0_canShow : GoodIn wsX6_stopped (wsV RX6 114 RX0 yX0_canShow wsX0_canShow) := goodIn_app (goodIn_of _ (by decide +kernel)) ggX6_stopped_X0_canShow
set_option maxRecDepth 20000 in
theorem ggX6_stopped_X4_add : GoodIn wsX6_stopped wsX4_add := goodIn_r _ [60, 21, 22, 23, 24, 83, 84, 85, 86] (by decide +kernel) (by decide +kernel)
set_option maxRecDepth 20000 in
theorem gX6_stopped_X4_add : GoodIn wsX6_stopped (wsV RX6 129 RX4 yX4_add wsX4_add) := goodIn_app (goodIn_of _ (by decide +kernel)) ggX6_stopped_X4_add
set_option maxRecDepth 20000 in
theorem ggX6_stopped_X4_tell : GoodIn wsX6_stopped wsX4_tell := goodIn_r _ [64, 21, 22, 23, 24, 83, 84, 85, 86] (by decide +kernel) (by decide +kernel)
set_option maxRecDepth 20000 in
theorem gX6_stopped_X4_tell : GoodIn wsX6_stopped (wsV RX6 132 RX4 yX4_tell wsX4_tell) := goodIn_app (goodIn_of _ (by decide +kernel)) ggX6_stopped_X4_tell
theorem dX6_stopped_0 : decode cX6_stopped 0 = .ok (.aload_n 0, 1) := by decide +kernel
theorem dX6_stopped_1 : decode cX6_stopped 1 = .ok (.getfield 19, 3) := by decide +kernel
theorem dX6_stopped_4 : decode cX6_stopped 4 = .ok (.iload_n 1, 1) := by decide +kernel
theorem dX6_stopped_5 : decode cX6_stopped 5 = .ok (.invokevirtual 84, 3) := by decide +kernel
theorem dX6_stopped_8 : decode cX6_stopped 8 = .ok (.astore 4, 2) := by decide +kernel
theorem dX6_stopped_10 : decode cX6_stopped 10 = .ok (.aload_n 0, 1) := by decide +kernel
theorem dX6_stopped_11 : decode cX6_stopped 11 = .ok (.getfield 19, 3) := by decide +kernel
theorem dX6_stopped_14 : decode cX6_stopped 14 = .ok (.iload_n 2, 1) := by decide +kernel
theorem dX6_stopped_15 : decode cX6_stopped 15 = .ok (.invokevirtual 84, 3) := by decide +kernel
theorem dX6_stopped_18 : decode cX6_stopped 18 = .ok (.astore 5, 2) := by decide +kernel
theorem dX6_stopped_20 : decode cX6_stopped 20 = .ok (.aload 4, 2) := by decide +kernel
theorem dX6_stopped_22 : decode cX6_stopped 22 = .ok (.ifnull 8, 3) := by decide +kernel
theorem dX6_stopped_25 : decode cX6_stopped 25 = .ok (.aload 5, 2) := by decide +kernel
theorem dX6_stopped_27 : decode cX6_stopped 27 = .ok (.ifnonnull 6, 3) := by decide +kernel
theorem dX6_stopped_30 : decode cX6_stopped 30 = .ok (.bipush (-2), 2) := by decide +kernel
theorem dX6_stopped_32 : decode cX6_stopped 32 = .ok (.ireturn, 1) := by decide +kernel
theorem dX6_stopped_33 : decode cX6_stopped 33 = .ok (.iload_n 3, 1) := by decide +kernel
theorem dX6_stopped_34 : decode cX6_stopped 34 = .ok (.iconst 3, 1) := by decide +kernel
theorem dX6_stopped_35 : decode cX6_stopped 35 = .ok (.invokestatic 106, 3) := by decide +kernel
theorem dX6_stopped_38 : decode cX6_stopped 38 = .ok (.ifCond .ne 6, 3) := by decide +kernel
theorem dX6_stopped_41 : decode cX6_stopped 41 = .ok (.bipush (-3), 2) := by decide +kernel
theorem dX6_stopped_43 : decode cX6_stopped 43 = .ok (.ireturn, 1) := by decide +kernel
theorem dX6_stopped_44 : decode cX6_stopped 44 = .ok (.aload 4, 2) := by decide +kernel
theorem dX6_stopped_46 : decode cX6_stopped 46 = .ok (.getfield 88, 3) := by decide +kernel
theorem dX6_stopped_49 : decode cX6_stopped 49 = .ok (.iconst 2, 1) := by decide +kernel
theorem dX6_stopped_50 : decode cX6_stopped 50 = .ok (.if_icmp .ne 12, 3) := by decide +kernel
theorem dX6_stopped_53 : decode cX6_stopped 53 = .ok (.aload 5, 2) := by decide +kernel
theorem dX6_stopped_55 : decode cX6_stopped 55 = .ok (.getfield 88, 3) := by decide +kernel
theorem dX6_stopped_58 : decode cX6_stopped 58 = .ok (.iconst 2, 1) := by decide +kernel
theorem dX6_stopped_59 : decode cX6_stopped 59 = .ok (.if_icmp .ne 6, 3) := by decide +kernel
theorem dX6_stopped_62 : decode cX6_stopped 62 = .ok (.bipush (-4), 2) := by decide +kernel
theorem dX6_stopped_64 : decode cX6_stopped 64 = .ok (.ireturn, 1) := by decide +kernel
theorem dX6_stopped_65 : decode cX6_stopped 65 = .ok (.aload_n 0, 1) := by decide +kernel
theorem dX6_stopped_66 : decode cX6_stopped 66 = .ok (.getfield 30, 3) := by decide +kernel
theorem dX6_stopped_69 : decode cX6_stopped 69 = .ok (.invokevirtual 126, 3) := by decide +kernel
theorem dX6_stopped_72 : decode cX6_stopped 72 = .ok (.iconst 0, 1) := by decide +kernel
theorem dX6_stopped_73 : decode cX6_stopped 73 = .ok (.istore 6, 2) := by decide +kernel
theorem dX6_stopped_75 : decode cX6_stopped 75 = .ok (.iload 6, 2) := by decide +kernel
theorem dX6_stopped_77 : decode cX6_stopped 77 = .ok (.sipush 4320, 3) := by decide +kernel
theorem dX6_stopped_80 : decode cX6_stopped 80 = .ok (.if_icmp .ge 33, 3) := by decide +kernel
theorem dX6_stopped_83 : decode cX6_stopped 83 = .ok (.aload 5, 2) := by decide +kernel
theorem dX6_stopped_85 : decode cX6_stopped 85 = .ok (.iload 6, 2) := by decide +kernel
theorem dX6_stopped_87 : decode cX6_stopped 87 = .ok (.aload 4, 2) := by decide +kernel
theorem dX6_stopped_89 : decode cX6_stopped 89 = .ok (.getfield 94, 3) := by decide +kernel
theorem dX6_stopped_92 : decode cX6_stopped 92 = .ok (.invokevirtual 114, 3) := by decide +kernel
theorem dX6_stopped_95 : decode cX6_stopped 95 = .ok (.ifCond .eq 12, 3) := by decide +kernel
theorem dX6_stopped_98 : decode cX6_stopped 98 = .ok (.aload_n 0, 1) := by decide +kernel
theorem dX6_stopped_99 : decode cX6_stopped 99 = .ok (.getfield 30, 3) := by decide +kernel
theorem dX6_stopped_102 : decode cX6_stopped 102 = .ok (.iload 6, 2) := by decide +kernel
theorem dX6_stopped_104 : decode cX6_stopped 104 = .ok (.invokevirtual 129, 3) := by decide +kernel
theorem dX6_stopped_107 : decode cX6_stopped 107 = .ok (.iinc 6 1, 3) := by decide +kernel
theorem dX6_stopped_110 : decode cX6_stopped 110 = .ok (.goto (-35), 3) := by decide +kernel
theorem dX6_stopped_113 : decode cX6_stopped 113 = .ok (.aload_n 0, 1) := by decide +kernel
theorem dX6_stopped_114 : decode cX6_stopped 114 = .ok (.getfield 30, 3) := by decide +kernel
theorem dX6_stopped_117 : decode cX6_stopped 117 = .ok (.iload_n 3, 1) := by decide +kernel
theorem dX6_stopped_118 : decode cX6_stopped 118 = .ok (.invokevirtual 132, 3) := by decide +kernel
theorem dX6_stopped_121 : decode cX6_stopped 121 = .ok (.ireturn, 1) := by decide +kernel
set_option maxRecDepth 20000 in
theorem ggX6_setBy_X1_toldClock : GoodIn wsX6_setBy wsX1_toldClock := goodIn_r _ [15, 16, 17, 18, 19, 20, 101, 102, 103, 95, 96, 97, 98, 99, 100] (by decide +kernel) (by decide +kernel)
set_option maxRecDepth 20000 in
theorem gX6_setBy_X1_toldClock : GoodIn wsX6_setBy (wsV RX6 84 RX1 yX1_toldClock wsX1_toldClock) := goodIn_app (goodIn_of _ (by decide +kernel)) ggX6_setBy_X1_toldClock
set_option maxRecDepth 20000 in
theorem ggX6_setBy_X6_isBelow : GoodIn wsX6_setBy wsX6_isBelow := goodIn_r _ [20] (by decide +kernel) (by decide +kernel)
set_option maxRecDepth 20000 in
theorem gX6_setBy_X6_isBelow : GoodIn wsX6_setBy (va_wsS RX6 106 yX6_isBelow wsX6_isBelow) := goodIn_app (goodIn_of _ (by decide +kernel)) ggX6_setBy_X6_isBelow
set_option maxRecDepth 20000 in
theorem ggX6_setBy_X0_runsByOneRate : GoodIn wsX6_setBy wsX0_runsByOneRate := goodIn_r _ [26, 27, 28, 29, 95, 96, 97, 98, 99, 100] (by decide +kernel) (by decide +kernel)
set_option maxRecDepth 20000 in
theorem gX6_setBy_X0_runsByOneRate : GoodIn wsX6_setBy (wsV RX6 205 RX0 yX0_runsByOneRate wsX0_runsByOneRate) := goodIn_app (goodIn_of _ (by decide +kernel)) ggX6_setBy_X0_runsByOneRate
set_option maxRecDepth 20000 in
theorem ggX6_setBy_X0_copy : GoodIn wsX6_setBy wsX0_copy := goodIn_r _ [33, 27, 34, 35, 28, 29, 36, 37, 38, 39, 25, 40, 95, 96, 97, 98, 99, 100] (by decide +kernel) (by decide +kernel)
set_option maxRecDepth 20000 in
theorem gX6_setBy_X0_copy : GoodIn wsX6_setBy (wsV RX6 209 RX0 yX0_copy wsX0_copy) := goodIn_app (goodIn_of _ (by decide +kernel)) ggX6_setBy_X0_copy
set_option maxRecDepth 20000 in
theorem ggX6_setBy_X4_clear : GoodIn wsX6_setBy wsX4_clear := goodIn_r _ [45, 46, 47, 48, 49, 104, 105, 106, 107] (by decide +kernel) (by decide +kernel)
set_option maxRecDepth 20000 in
theorem gX6_setBy_X4_clear : GoodIn wsX6_setBy (wsV RX6 126 RX4 yX4_clear wsX4_clear) := goodIn_app (goodIn_of _ (by decide +kernel)) ggX6_setBy_X4_clear
set_option maxRecDepth 20000 in
theorem ggX6_setBy_X0_handAt : GoodIn wsX6_setBy wsX0_handAt := goodIn_r _ [53, 35, 34, 54, 55, 56, 25, 57, 27, 95, 96, 97, 98, 99, 100] (by decide +kernel) (by decide +kernel)
set_option maxRecDepth 20000 in
theorem gX6_setBy_X0_handAt : GoodIn wsX6_setBy (wsV RX6 179 RX0 yX0_handAt wsX0_handAt) := goodIn_app (goodIn_of _ (by decide +kernel)) ggX6_setBy_X0_handAt
set_option maxRecDepth 20000 in
theorem ggX6_setBy_J9_floorMod_7cf53 : GoodIn wsX6_setBy wsJ9_floorMod_7cf53 := goodIn_r _ [61] (by decide +kernel) (by decide +kernel)
set_option maxRecDepth 20000 in
theorem gX6_setBy_J9_floorMod_7cf53 : GoodIn wsX6_setBy (va_wsS RX6 214 yJ9_floorMod_7cf53 wsJ9_floorMod_7cf53) := goodIn_app (goodIn_of _ (by decide +kernel)) ggX6_setBy_J9_floorMod_7cf53
set_option maxRecDepth 20000 in
theorem ggX6_setBy_X0_canShow : GoodIn wsX6_setBy wsX0_canShow := goodIn_r _ [65, 28, 29, 66, 67, 68, 69, 70, 71, 72, 73, 51, 52, 25, 53, 35, 34, 54, 55, 56, 57, 27, 74, 75, 60, 76, 77, 59, 61, 95, 96, 97, 98, 99, 100] (by decide +kernel) (by decide +kernel)
set_option maxRecDepth 20000 in
theorem gX6_setBy_X0_canShow : GoodIn wsX6_setBy (wsV RX6 114 RX0 yX0_canShow wsX0_canShow) := goodIn_app (goodIn_of _ (by decide +kernel)) ggX6_setBy_X0_canShow
set_option maxRecDepth 20000 in
theorem ggX6_setBy_X4_add : GoodIn wsX6_setBy wsX4_add := goodIn_r _ [81, 46, 47, 48, 49, 104, 105, 106, 107] (by decide +kernel) (by decide +kernel)
set_option maxRecDepth 20000 in
theorem gX6_setBy_X4_add : GoodIn wsX6_setBy (wsV RX6 129 RX4 yX4_add wsX4_add) := goodIn_app (goodIn_of _ (by decide +kernel)) ggX6_setBy_X4_add
set_option maxRecDepth 20000 in
theorem ggX6_setBy_X4_tell : GoodIn wsX6_setBy wsX4_tell := goodIn_r _ [85, 46, 47, 48, 49, 104, 105, 106, 107] (by decide +kernel) (by decide +kernel)
set_option maxRecDepth 20000 in
theorem gX6_setBy_X4_tell : GoodIn wsX6_setBy (wsV RX6 132 RX4 yX4_tell wsX4_tell) := goodIn_app (goodIn_of _ (by decide +kernel)) ggX6_setBy_X4_tell
theorem dX6_setBy_0 : decode cX6_setBy 0 = .ok (.aload_n 0, 1) := by decide +kernel
theorem dX6_setBy_1 : decode cX6_setBy 1 = .ok (.getfield 19, 3) := by decide +kernel
theorem dX6_setBy_4 : decode cX6_setBy 4 = .ok (.iload_n 1, 1) := by decide +kernel
theorem dX6_setBy_5 : decode cX6_setBy 5 = .ok (.invokevirtual 84, 3) := by decide +kernel
theorem dX6_setBy_8 : decode cX6_setBy 8 = .ok (.astore 5, 2) := by decide +kernel
theorem dX6_setBy_10 : decode cX6_setBy 10 = .ok (.aload_n 0, 1) := by decide +kernel
theorem dX6_setBy_11 : decode cX6_setBy 11 = .ok (.getfield 19, 3) := by decide +kernel
theorem dX6_setBy_14 : decode cX6_setBy 14 = .ok (.iload_n 2, 1) := by decide +kernel
theorem dX6_setBy_15 : decode cX6_setBy 15 = .ok (.invokevirtual 84, 3) := by decide +kernel
theorem dX6_setBy_18 : decode cX6_setBy 18 = .ok (.astore 6, 2) := by decide +kernel
theorem dX6_setBy_20 : decode cX6_setBy 20 = .ok (.aload 5, 2) := by decide +kernel
theorem dX6_setBy_22 : decode cX6_setBy 22 = .ok (.ifnull 8, 3) := by decide +kernel
theorem dX6_setBy_25 : decode cX6_setBy 25 = .ok (.aload 6, 2) := by decide +kernel
theorem dX6_setBy_27 : decode cX6_setBy 27 = .ok (.ifnonnull 6, 3) := by decide +kernel
theorem dX6_setBy_30 : decode cX6_setBy 30 = .ok (.bipush (-2), 2) := by decide +kernel
theorem dX6_setBy_32 : decode cX6_setBy 32 = .ok (.ireturn, 1) := by decide +kernel
theorem dX6_setBy_33 : decode cX6_setBy 33 = .ok (.iload_n 1, 1) := by decide +kernel
theorem dX6_setBy_34 : decode cX6_setBy 34 = .ok (.iload_n 2, 1) := by decide +kernel
theorem dX6_setBy_35 : decode cX6_setBy 35 = .ok (.if_icmp .eq 22, 3) := by decide +kernel
theorem dX6_setBy_38 : decode cX6_setBy 38 = .ok (.iload_n 3, 1) := by decide +kernel
theorem dX6_setBy_39 : decode cX6_setBy 39 = .ok (.sipush 4320, 3) := by decide +kernel
theorem dX6_setBy_42 : decode cX6_setBy 42 = .ok (.invokestatic 106, 3) := by decide +kernel
theorem dX6_setBy_45 : decode cX6_setBy 45 = .ok (.ifCond .eq 12, 3) := by decide +kernel
theorem dX6_setBy_48 : decode cX6_setBy 48 = .ok (.iload 4, 2) := by decide +kernel
theorem dX6_setBy_50 : decode cX6_setBy 50 = .ok (.iconst 2, 1) := by decide +kernel
theorem dX6_setBy_51 : decode cX6_setBy 51 = .ok (.invokestatic 106, 3) := by decide +kernel
theorem dX6_setBy_54 : decode cX6_setBy 54 = .ok (.ifCond .ne 6, 3) := by decide +kernel
theorem dX6_setBy_57 : decode cX6_setBy 57 = .ok (.bipush (-3), 2) := by decide +kernel
theorem dX6_setBy_59 : decode cX6_setBy 59 = .ok (.ireturn, 1) := by decide +kernel
theorem dX6_setBy_60 : decode cX6_setBy 60 = .ok (.aload 5, 2) := by decide +kernel
theorem dX6_setBy_62 : decode cX6_setBy 62 = .ok (.getfield 88, 3) := by decide +kernel
theorem dX6_setBy_65 : decode cX6_setBy 65 = .ok (.ifCond .ne 20, 3) := by decide +kernel
theorem dX6_setBy_68 : decode cX6_setBy 68 = .ok (.aload 5, 2) := by decide +kernel
theorem dX6_setBy_70 : decode cX6_setBy 70 = .ok (.getfield 103, 3) := by decide +kernel
theorem dX6_setBy_73 : decode cX6_setBy 73 = .ok (.iconst (-1), 1) := by decide +kernel
theorem dX6_setBy_74 : decode cX6_setBy 74 = .ok (.if_icmp .eq 11, 3) := by decide +kernel
theorem dX6_setBy_77 : decode cX6_setBy 77 = .ok (.aload 6, 2) := by decide +kernel
theorem dX6_setBy_79 : decode cX6_setBy 79 = .ok (.invokevirtual 205, 3) := by decide +kernel
theorem dX6_setBy_82 : decode cX6_setBy 82 = .ok (.ifCond .ne 6, 3) := by decide +kernel
theorem dX6_setBy_85 : decode cX6_setBy 85 = .ok (.bipush (-4), 2) := by decide +kernel
theorem dX6_setBy_87 : decode cX6_setBy 87 = .ok (.ireturn, 1) := by decide +kernel
theorem dX6_setBy_88 : decode cX6_setBy 88 = .ok (.aload_n 0, 1) := by decide +kernel
theorem dX6_setBy_89 : decode cX6_setBy 89 = .ok (.getfield 37, 3) := by decide +kernel
theorem dX6_setBy_92 : decode cX6_setBy 92 = .ok (.aload 5, 2) := by decide +kernel
theorem dX6_setBy_94 : decode cX6_setBy 94 = .ok (.invokevirtual 209, 3) := by decide +kernel
theorem dX6_setBy_97 : decode cX6_setBy 97 = .ok (.aload_n 0, 1) := by decide +kernel
theorem dX6_setBy_98 : decode cX6_setBy 98 = .ok (.getfield 30, 3) := by decide +kernel
theorem dX6_setBy_101 : decode cX6_setBy 101 = .ok (.invokevirtual 126, 3) := by decide +kernel
theorem dX6_setBy_104 : decode cX6_setBy 104 = .ok (.iconst 0, 1) := by decide +kernel
theorem dX6_setBy_105 : decode cX6_setBy 105 = .ok (.istore 7, 2) := by decide +kernel
theorem dX6_setBy_107 : decode cX6_setBy 107 = .ok (.iload 7, 2) := by decide +kernel
theorem dX6_setBy_109 : decode cX6_setBy 109 = .ok (.iload_n 3, 1) := by decide +kernel
theorem dX6_setBy_110 : decode cX6_setBy 110 = .ok (.if_icmp .gt 86, 3) := by decide +kernel
theorem dX6_setBy_113 : decode cX6_setBy 113 = .ok (.aload 6, 2) := by decide +kernel
theorem dX6_setBy_115 : decode cX6_setBy 115 = .ok (.iload 7, 2) := by decide +kernel
theorem dX6_setBy_117 : decode cX6_setBy 117 = .ok (.aload 6, 2) := by decide +kernel
theorem dX6_setBy_119 : decode cX6_setBy 119 = .ok (.getfield 97, 3) := by decide +kernel
theorem dX6_setBy_122 : decode cX6_setBy 122 = .ok (.invokevirtual 179, 3) := by decide +kernel
theorem dX6_setBy_125 : decode cX6_setBy 125 = .ok (.ldc 213, 2) := by decide +kernel
theorem dX6_setBy_127 : decode cX6_setBy 127 = .ok (.invokestatic 214, 3) := by decide +kernel
theorem dX6_setBy_130 : decode cX6_setBy 130 = .ok (.istore 8, 2) := by decide +kernel
theorem dX6_setBy_132 : decode cX6_setBy 132 = .ok (.iload 8, 2) := by decide +kernel
theorem dX6_setBy_134 : decode cX6_setBy 134 = .ok (.ldc 216, 2) := by decide +kernel
theorem dX6_setBy_136 : decode cX6_setBy 136 = .ok (.irem, 1) := by decide +kernel
theorem dX6_setBy_137 : decode cX6_setBy 137 = .ok (.ifCond .eq 6, 3) := by decide +kernel
theorem dX6_setBy_140 : decode cX6_setBy 140 = .ok (.goto 50, 3) := by decide +kernel
theorem dX6_setBy_143 : decode cX6_setBy 143 = .ok (.aload_n 0, 1) := by decide +kernel
theorem dX6_setBy_144 : decode cX6_setBy 144 = .ok (.getfield 37, 3) := by decide +kernel
theorem dX6_setBy_147 : decode cX6_setBy 147 = .ok (.iload 7, 2) := by decide +kernel
theorem dX6_setBy_149 : decode cX6_setBy 149 = .ok (.putfield 91, 3) := by decide +kernel
theorem dX6_setBy_152 : decode cX6_setBy 152 = .ok (.aload_n 0, 1) := by decide +kernel
theorem dX6_setBy_153 : decode cX6_setBy 153 = .ok (.getfield 37, 3) := by decide +kernel
theorem dX6_setBy_156 : decode cX6_setBy 156 = .ok (.iload 8, 2) := by decide +kernel
theorem dX6_setBy_158 : decode cX6_setBy 158 = .ok (.sipush 1440, 3) := by decide +kernel
theorem dX6_setBy_161 : decode cX6_setBy 161 = .ok (.idiv, 1) := by decide +kernel
theorem dX6_setBy_162 : decode cX6_setBy 162 = .ok (.putfield 94, 3) := by decide +kernel
theorem dX6_setBy_165 : decode cX6_setBy 165 = .ok (.aload_n 0, 1) := by decide +kernel
theorem dX6_setBy_166 : decode cX6_setBy 166 = .ok (.getfield 37, 3) := by decide +kernel
theorem dX6_setBy_169 : decode cX6_setBy 169 = .ok (.iload_n 3, 1) := by decide +kernel
theorem dX6_setBy_170 : decode cX6_setBy 170 = .ok (.aload 5, 2) := by decide +kernel
theorem dX6_setBy_172 : decode cX6_setBy 172 = .ok (.getfield 103, 3) := by decide +kernel
theorem dX6_setBy_175 : decode cX6_setBy 175 = .ok (.invokevirtual 114, 3) := by decide +kernel
theorem dX6_setBy_178 : decode cX6_setBy 178 = .ok (.ifCond .eq 12, 3) := by decide +kernel
theorem dX6_setBy_181 : decode cX6_setBy 181 = .ok (.aload_n 0, 1) := by decide +kernel
theorem dX6_setBy_182 : decode cX6_setBy 182 = .ok (.getfield 30, 3) := by decide +kernel
theorem dX6_setBy_185 : decode cX6_setBy 185 = .ok (.iload 7, 2) := by decide +kernel
theorem dX6_setBy_187 : decode cX6_setBy 187 = .ok (.invokevirtual 129, 3) := by decide +kernel
theorem dX6_setBy_190 : decode cX6_setBy 190 = .ok (.iinc 7 1, 3) := by decide +kernel
theorem dX6_setBy_193 : decode cX6_setBy 193 = .ok (.goto (-86), 3) := by decide +kernel
theorem dX6_setBy_196 : decode cX6_setBy 196 = .ok (.aload_n 0, 1) := by decide +kernel
theorem dX6_setBy_197 : decode cX6_setBy 197 = .ok (.getfield 30, 3) := by decide +kernel
theorem dX6_setBy_200 : decode cX6_setBy 200 = .ok (.iload 4, 2) := by decide +kernel
theorem dX6_setBy_202 : decode cX6_setBy 202 = .ok (.invokevirtual 132, 3) := by decide +kernel
theorem dX6_setBy_205 : decode cX6_setBy 205 = .ok (.ireturn, 1) := by decide +kernel
set_option maxRecDepth 20000 in
theorem ggX6_egg_X1_toldClock : GoodIn wsX6_egg wsX1_toldClock := goodIn_r _ [14, 15, 16, 17, 18, 19, 63, 64, 65, 57, 58, 59, 60, 61, 62] (by decide +kernel) (by decide +kernel)
set_option maxRecDepth 20000 in
theorem gX6_egg_X1_toldClock : GoodIn wsX6_egg (wsV RX6 84 RX1 yX1_toldClock wsX1_toldClock) := goodIn_app (goodIn_of _ (by decide +kernel)) ggX6_egg_X1_toldClock
set_option maxRecDepth 20000 in
theorem ggX6_egg_X6_isBelow : GoodIn wsX6_egg wsX6_isBelow := goodIn_r _ [19] (by decide +kernel) (by decide +kernel)
set_option maxRecDepth 20000 in
theorem gX6_egg_X6_isBelow : GoodIn wsX6_egg (va_wsS RX6 106 yX6_isBelow wsX6_isBelow) := goodIn_app (goodIn_of _ (by decide +kernel)) ggX6_egg_X6_isBelow
set_option maxRecDepth 20000 in
theorem ggX6_egg_X0_runsByOneRate : GoodIn wsX6_egg wsX0_runsByOneRate := goodIn_r _ [25, 26, 27, 28, 57, 58, 59, 60, 61, 62] (by decide +kernel) (by decide +kernel)
set_option maxRecDepth 20000 in
theorem gX6_egg_X0_runsByOneRate : GoodIn wsX6_egg (wsV RX6 205 RX0 yX0_runsByOneRate wsX0_runsByOneRate) := goodIn_app (goodIn_of _ (by decide +kernel)) ggX6_egg_X0_runsByOneRate
set_option maxRecDepth 20000 in
theorem ggX6_egg_X6_leastOff : GoodIn wsX6_egg wsX6_leastOff := goodIn_r _ [31, 5, 32, 33, 34, 8, 35, 36, 37, 38, 24, 39, 40, 27, 41, 42, 43, 44, 57, 58, 59, 60, 61, 62] (by decide +kernel) (by decide +kernel)
set_option maxRecDepth 20000 in
theorem gX6_egg_X6_leastOff : GoodIn wsX6_egg (va_wsS RX6 223 yX6_leastOff wsX6_leastOff) := goodIn_app (goodIn_of _ (by decide +kernel)) ggX6_egg_X6_leastOff
set_option maxRecDepth 20000 in
theorem ggX6_egg_X6_commonDivisor : GoodIn wsX6_egg wsX6_commonDivisor := goodIn_r _ [47] (by decide +kernel) (by decide +kernel)
set_option maxRecDepth 20000 in
theorem gX6_egg_X6_commonDivisor : GoodIn wsX6_egg (va_wsS RX6 202 yX6_commonDivisor wsX6_commonDivisor) := goodIn_app (goodIn_of _ (by decide +kernel)) ggX6_egg_X6_commonDivisor
theorem dX6_egg_0 : decode cX6_egg 0 = .ok (.aload_n 0, 1) := by decide +kernel
theorem dX6_egg_1 : decode cX6_egg 1 = .ok (.getfield 19, 3) := by decide +kernel
theorem dX6_egg_4 : decode cX6_egg 4 = .ok (.iload_n 1, 1) := by decide +kernel
theorem dX6_egg_5 : decode cX6_egg 5 = .ok (.invokevirtual 84, 3) := by decide +kernel
theorem dX6_egg_8 : decode cX6_egg 8 = .ok (.astore 6, 2) := by decide +kernel
theorem dX6_egg_10 : decode cX6_egg 10 = .ok (.aload_n 0, 1) := by decide +kernel
theorem dX6_egg_11 : decode cX6_egg 11 = .ok (.getfield 19, 3) := by decide +kernel
theorem dX6_egg_14 : decode cX6_egg 14 = .ok (.iload_n 2, 1) := by decide +kernel
theorem dX6_egg_15 : decode cX6_egg 15 = .ok (.invokevirtual 84, 3) := by decide +kernel
theorem dX6_egg_18 : decode cX6_egg 18 = .ok (.astore 7, 2) := by decide +kernel
theorem dX6_egg_20 : decode cX6_egg 20 = .ok (.aload 6, 2) := by decide +kernel
theorem dX6_egg_22 : decode cX6_egg 22 = .ok (.ifnull 8, 3) := by decide +kernel
theorem dX6_egg_25 : decode cX6_egg 25 = .ok (.aload 7, 2) := by decide +kernel
theorem dX6_egg_27 : decode cX6_egg 27 = .ok (.ifnonnull 7, 3) := by decide +kernel
theorem dX6_egg_30 : decode cX6_egg 30 = .ok (.ldc2_w 217, 3) := by decide +kernel
theorem dX6_egg_33 : decode cX6_egg 33 = .ok (.lreturn, 1) := by decide +kernel
theorem dX6_egg_34 : decode cX6_egg 34 = .ok (.iload_n 3, 1) := by decide +kernel
theorem dX6_egg_35 : decode cX6_egg 35 = .ok (.sipush 4320, 3) := by decide +kernel
theorem dX6_egg_38 : decode cX6_egg 38 = .ok (.invokestatic 106, 3) := by decide +kernel
theorem dX6_egg_41 : decode cX6_egg 41 = .ok (.ifCond .eq 25, 3) := by decide +kernel
theorem dX6_egg_44 : decode cX6_egg 44 = .ok (.iload 4, 2) := by decide +kernel
theorem dX6_egg_46 : decode cX6_egg 46 = .ok (.iconst 1, 1) := by decide +kernel
theorem dX6_egg_47 : decode cX6_egg 47 = .ok (.if_icmp .lt 19, 3) := by decide +kernel
theorem dX6_egg_50 : decode cX6_egg 50 = .ok (.iload 4, 2) := by decide +kernel
theorem dX6_egg_52 : decode cX6_egg 52 = .ok (.bipush 60, 2) := by decide +kernel
theorem dX6_egg_54 : decode cX6_egg 54 = .ok (.if_icmp .gt 12, 3) := by decide +kernel
theorem dX6_egg_57 : decode cX6_egg 57 = .ok (.iload 5, 2) := by decide +kernel
theorem dX6_egg_59 : decode cX6_egg 59 = .ok (.iconst 2, 1) := by decide +kernel
theorem dX6_egg_60 : decode cX6_egg 60 = .ok (.invokestatic 106, 3) := by decide +kernel
theorem dX6_egg_63 : decode cX6_egg 63 = .ok (.ifCond .ne 7, 3) := by decide +kernel
theorem dX6_egg_66 : decode cX6_egg 66 = .ok (.ldc2_w 219, 3) := by decide +kernel
theorem dX6_egg_69 : decode cX6_egg 69 = .ok (.lreturn, 1) := by decide +kernel
theorem dX6_egg_70 : decode cX6_egg 70 = .ok (.aload 6, 2) := by decide +kernel
theorem dX6_egg_72 : decode cX6_egg 72 = .ok (.invokevirtual 205, 3) := by decide +kernel
theorem dX6_egg_75 : decode cX6_egg 75 = .ok (.ifCond .eq 11, 3) := by decide +kernel
theorem dX6_egg_78 : decode cX6_egg 78 = .ok (.aload 7, 2) := by decide +kernel
theorem dX6_egg_80 : decode cX6_egg 80 = .ok (.invokevirtual 205, 3) := by decide +kernel
theorem dX6_egg_83 : decode cX6_egg 83 = .ok (.ifCond .ne 7, 3) := by decide +kernel
theorem dX6_egg_86 : decode cX6_egg 86 = .ok (.ldc2_w 221, 3) := by decide +kernel
theorem dX6_egg_89 : decode cX6_egg 89 = .ok (.lreturn, 1) := by decide +kernel
theorem dX6_egg_90 : decode cX6_egg 90 = .ok (.sipush 1440, 3) := by decide +kernel
theorem dX6_egg_93 : decode cX6_egg 93 = .ok (.aload 6, 2) := by decide +kernel
theorem dX6_egg_95 : decode cX6_egg 95 = .ok (.getfield 97, 3) := by decide +kernel
theorem dX6_egg_98 : decode cX6_egg 98 = .ok (.iadd, 1) := by decide +kernel
theorem dX6_egg_99 : decode cX6_egg 99 = .ok (.i2l, 1) := by decide +kernel
theorem dX6_egg_100 : decode cX6_egg 100 = .ok (.sipush 1440, 3) := by decide +kernel
theorem dX6_egg_103 : decode cX6_egg 103 = .ok (.aload 7, 2) := by decide +kernel
theorem dX6_egg_105 : decode cX6_egg 105 = .ok (.getfield 97, 3) := by decide +kernel
theorem dX6_egg_108 : decode cX6_egg 108 = .ok (.iadd, 1) := by decide +kernel
theorem dX6_egg_109 : decode cX6_egg 109 = .ok (.i2l, 1) := by decide +kernel
theorem dX6_egg_110 : decode cX6_egg 110 = .ok (.lmul, 1) := by decide +kernel
theorem dX6_egg_111 : decode cX6_egg 111 = .ok (.lstore 8, 2) := by decide +kernel
theorem dX6_egg_113 : decode cX6_egg 113 = .ok (.aload 6, 2) := by decide +kernel
theorem dX6_egg_115 : decode cX6_egg 115 = .ok (.aload 7, 2) := by decide +kernel
theorem dX6_egg_117 : decode cX6_egg 117 = .ok (.iload_n 3, 1) := by decide +kernel
theorem dX6_egg_118 : decode cX6_egg 118 = .ok (.iload 4, 2) := by decide +kernel
theorem dX6_egg_120 : decode cX6_egg 120 = .ok (.i2l, 1) := by decide +kernel
theorem dX6_egg_121 : decode cX6_egg 121 = .ok (.lload 8, 2) := by decide +kernel
theorem dX6_egg_123 : decode cX6_egg 123 = .ok (.lmul, 1) := by decide +kernel
theorem dX6_egg_124 : decode cX6_egg 124 = .ok (.invokestatic 223, 3) := by decide +kernel
theorem dX6_egg_127 : decode cX6_egg 127 = .ok (.lstore 10, 2) := by decide +kernel
theorem dX6_egg_129 : decode cX6_egg 129 = .ok (.lconst 1, 1) := by decide +kernel
theorem dX6_egg_130 : decode cX6_egg 130 = .ok (.lload 10, 2) := by decide +kernel
theorem dX6_egg_132 : decode cX6_egg 132 = .ok (.lload 8, 2) := by decide +kernel
theorem dX6_egg_134 : decode cX6_egg 134 = .ok (.invokestatic 202, 3) := by decide +kernel
theorem dX6_egg_137 : decode cX6_egg 137 = .ok (.invokestatic 194, 3) := by decide +kernel
theorem dX6_egg_140 : decode cX6_egg 140 = .ok (.lstore 12, 2) := by decide +kernel
theorem dX6_egg_142 : decode cX6_egg 142 = .ok (.iload 5, 2) := by decide +kernel
theorem dX6_egg_144 : decode cX6_egg 144 = .ok (.ifCond .ne 8, 3) := by decide +kernel
theorem dX6_egg_147 : decode cX6_egg 147 = .ok (.lload 10, 2) := by decide +kernel
theorem dX6_egg_149 : decode cX6_egg 149 = .ok (.goto 5, 3) := by decide +kernel
theorem dX6_egg_152 : decode cX6_egg 152 = .ok (.lload 8, 2) := by decide +kernel
theorem dX6_egg_154 : decode cX6_egg 154 = .ok (.lload 12, 2) := by decide +kernel
theorem dX6_egg_156 : decode cX6_egg 156 = .ok (.ldiv, 1) := by decide +kernel
theorem dX6_egg_157 : decode cX6_egg 157 = .ok (.lreturn, 1) := by decide +kernel
set_option maxRecDepth 20000 in
theorem ggX6_leastOff_X0_partsToWholeMinute : GoodIn wsX6_leastOff wsX0_partsToWholeMinute := goodIn_r _ [11, 12, 13, 14, 15, 16, 17, 18, 19, 20, 21, 22, 23] (by decide +kernel) (by decide +kernel)
set_option maxRecDepth 20000 in
theorem gX6_leastOff_X0_partsToWholeMinute : GoodIn wsX6_leastOff (wsV RX6 227 RX0 yX0_partsToWholeMinute wsX0_partsToWholeMinute) := goodIn_app (goodIn_of _ (by decide +kernel)) ggX6_leastOff_X0_partsToWholeMinute
theorem dX6_leastOff_0 : decode cX6_leastOff 0 = .ok (.sipush 1440, 3) := by decide +kernel
theorem dX6_leastOff_3 : decode cX6_leastOff 3 = .ok (.aload_n 0, 1) := by decide +kernel
theorem dX6_leastOff_4 : decode cX6_leastOff 4 = .ok (.getfield 97, 3) := by decide +kernel
theorem dX6_leastOff_7 : decode cX6_leastOff 7 = .ok (.iadd, 1) := by decide +kernel
theorem dX6_leastOff_8 : decode cX6_leastOff 8 = .ok (.i2l, 1) := by decide +kernel
theorem dX6_leastOff_9 : decode cX6_leastOff 9 = .ok (.lstore 5, 2) := by decide +kernel
theorem dX6_leastOff_11 : decode cX6_leastOff 11 = .ok (.sipush 1440, 3) := by decide +kernel
theorem dX6_leastOff_14 : decode cX6_leastOff 14 = .ok (.aload_n 1, 1) := by decide +kernel
theorem dX6_leastOff_15 : decode cX6_leastOff 15 = .ok (.getfield 97, 3) := by decide +kernel
theorem dX6_leastOff_18 : decode cX6_leastOff 18 = .ok (.iadd, 1) := by decide +kernel
theorem dX6_leastOff_19 : decode cX6_leastOff 19 = .ok (.i2l, 1) := by decide +kernel
theorem dX6_leastOff_20 : decode cX6_leastOff 20 = .ok (.lstore 7, 2) := by decide +kernel
theorem dX6_leastOff_22 : decode cX6_leastOff 22 = .ok (.aload_n 0, 1) := by decide +kernel
theorem dX6_leastOff_23 : decode cX6_leastOff 23 = .ok (.iload_n 2, 1) := by decide +kernel
theorem dX6_leastOff_24 : decode cX6_leastOff 24 = .ok (.invokevirtual 227, 3) := by decide +kernel
theorem dX6_leastOff_27 : decode cX6_leastOff 27 = .ok (.i2l, 1) := by decide +kernel
theorem dX6_leastOff_28 : decode cX6_leastOff 28 = .ok (.lload 7, 2) := by decide +kernel
theorem dX6_leastOff_30 : decode cX6_leastOff 30 = .ok (.lmul, 1) := by decide +kernel
theorem dX6_leastOff_31 : decode cX6_leastOff 31 = .ok (.lstore 9, 2) := by decide +kernel
theorem dX6_leastOff_33 : decode cX6_leastOff 33 = .ok (.aload_n 1, 1) := by decide +kernel
theorem dX6_leastOff_34 : decode cX6_leastOff 34 = .ok (.iload_n 2, 1) := by decide +kernel
theorem dX6_leastOff_35 : decode cX6_leastOff 35 = .ok (.invokevirtual 227, 3) := by decide +kernel
theorem dX6_leastOff_38 : decode cX6_leastOff 38 = .ok (.i2l, 1) := by decide +kernel
theorem dX6_leastOff_39 : decode cX6_leastOff 39 = .ok (.lload 5, 2) := by decide +kernel
theorem dX6_leastOff_41 : decode cX6_leastOff 41 = .ok (.lmul, 1) := by decide +kernel
theorem dX6_leastOff_42 : decode cX6_leastOff 42 = .ok (.lstore 11, 2) := by decide +kernel
theorem dX6_leastOff_44 : decode cX6_leastOff 44 = .ok (.ldc2_w 186, 3) := by decide +kernel
theorem dX6_leastOff_47 : decode cX6_leastOff 47 = .ok (.lstore 13, 2) := by decide +kernel
theorem dX6_leastOff_49 : decode cX6_leastOff 49 = .ok (.iconst 0, 1) := by decide +kernel
theorem dX6_leastOff_50 : decode cX6_leastOff 50 = .ok (.istore 15, 2) := by decide +kernel
theorem dX6_leastOff_52 : decode cX6_leastOff 52 = .ok (.iconst 0, 1) := by decide +kernel
theorem dX6_leastOff_53 : decode cX6_leastOff 53 = .ok (.istore 16, 2) := by decide +kernel
theorem dX6_leastOff_55 : decode cX6_leastOff 55 = .ok (.iload 16, 2) := by decide +kernel
theorem dX6_leastOff_57 : decode cX6_leastOff 57 = .ok (.bipush 60, 2) := by decide +kernel
theorem dX6_leastOff_59 : decode cX6_leastOff 59 = .ok (.if_icmp .ge 143, 3) := by decide +kernel
theorem dX6_leastOff_62 : decode cX6_leastOff 62 = .ok (.lload 9, 2) := by decide +kernel
theorem dX6_leastOff_64 : decode cX6_leastOff 64 = .ok (.iload 16, 2) := by decide +kernel
theorem dX6_leastOff_66 : decode cX6_leastOff 66 = .ok (.sipush 1440, 3) := by decide +kernel
theorem dX6_leastOff_69 : decode cX6_leastOff 69 = .ok (.imul, 1) := by decide +kernel
theorem dX6_leastOff_70 : decode cX6_leastOff 70 = .ok (.i2l, 1) := by decide +kernel
theorem dX6_leastOff_71 : decode cX6_leastOff 71 = .ok (.lload 7, 2) := by decide +kernel
theorem dX6_leastOff_73 : decode cX6_leastOff 73 = .ok (.lmul, 1) := by decide +kernel
theorem dX6_leastOff_74 : decode cX6_leastOff 74 = .ok (.ladd, 1) := by decide +kernel
theorem dX6_leastOff_75 : decode cX6_leastOff 75 = .ok (.lstore 17, 2) := by decide +kernel
theorem dX6_leastOff_77 : decode cX6_leastOff 77 = .ok (.iload 15, 2) := by decide +kernel
theorem dX6_leastOff_79 : decode cX6_leastOff 79 = .ok (.sipush 239, 3) := by decide +kernel
theorem dX6_leastOff_82 : decode cX6_leastOff 82 = .ok (.if_icmp .ge 32, 3) := by decide +kernel
theorem dX6_leastOff_85 : decode cX6_leastOff 85 = .ok (.lload 11, 2) := by decide +kernel
theorem dX6_leastOff_87 : decode cX6_leastOff 87 = .ok (.iload 15, 2) := by decide +kernel
theorem dX6_leastOff_89 : decode cX6_leastOff 89 = .ok (.iconst 1, 1) := by decide +kernel
theorem dX6_leastOff_90 : decode cX6_leastOff 90 = .ok (.iadd, 1) := by decide +kernel
theorem dX6_leastOff_91 : decode cX6_leastOff 91 = .ok (.sipush 1440, 3) := by decide +kernel
theorem dX6_leastOff_94 : decode cX6_leastOff 94 = .ok (.imul, 1) := by decide +kernel
theorem dX6_leastOff_95 : decode cX6_leastOff 95 = .ok (.i2l, 1) := by decide +kernel
theorem dX6_leastOff_96 : decode cX6_leastOff 96 = .ok (.lload 5, 2) := by decide +kernel
theorem dX6_leastOff_98 : decode cX6_leastOff 98 = .ok (.lmul, 1) := by decide +kernel
theorem dX6_leastOff_99 : decode cX6_leastOff 99 = .ok (.ladd, 1) := by decide +kernel
theorem dX6_leastOff_100 : decode cX6_leastOff 100 = .ok (.lload 17, 2) := by decide +kernel
theorem dX6_leastOff_102 : decode cX6_leastOff 102 = .ok (.lload_n 3, 1) := by decide +kernel
theorem dX6_leastOff_103 : decode cX6_leastOff 103 = .ok (.ladd, 1) := by decide +kernel
theorem dX6_leastOff_104 : decode cX6_leastOff 104 = .ok (.lcmp, 1) := by decide +kernel
theorem dX6_leastOff_105 : decode cX6_leastOff 105 = .ok (.ifCond .gt 9, 3) := by decide +kernel
theorem dX6_leastOff_108 : decode cX6_leastOff 108 = .ok (.iinc 15 1, 3) := by decide +kernel
theorem dX6_leastOff_111 : decode cX6_leastOff 111 = .ok (.goto (-34), 3) := by decide +kernel
theorem dX6_leastOff_114 : decode cX6_leastOff 114 = .ok (.iload 15, 2) := by decide +kernel
theorem dX6_leastOff_116 : decode cX6_leastOff 116 = .ok (.istore 19, 2) := by decide +kernel
theorem dX6_leastOff_118 : decode cX6_leastOff 118 = .ok (.iload 19, 2) := by decide +kernel
theorem dX6_leastOff_120 : decode cX6_leastOff 120 = .ok (.iload 15, 2) := by decide +kernel
theorem dX6_leastOff_122 : decode cX6_leastOff 122 = .ok (.iconst 1, 1) := by decide +kernel
theorem dX6_leastOff_123 : decode cX6_leastOff 123 = .ok (.iadd, 1) := by decide +kernel
theorem dX6_leastOff_124 : decode cX6_leastOff 124 = .ok (.if_icmp .gt 72, 3) := by decide +kernel
theorem dX6_leastOff_127 : decode cX6_leastOff 127 = .ok (.iload 19, 2) := by decide +kernel
theorem dX6_leastOff_129 : decode cX6_leastOff 129 = .ok (.sipush 240, 3) := by decide +kernel
theorem dX6_leastOff_132 : decode cX6_leastOff 132 = .ok (.if_icmp .ge 64, 3) := by decide +kernel
theorem dX6_leastOff_135 : decode cX6_leastOff 135 = .ok (.lload 11, 2) := by decide +kernel
theorem dX6_leastOff_137 : decode cX6_leastOff 137 = .ok (.iload 19, 2) := by decide +kernel
theorem dX6_leastOff_139 : decode cX6_leastOff 139 = .ok (.sipush 1440, 3) := by decide +kernel
theorem dX6_leastOff_142 : decode cX6_leastOff 142 = .ok (.imul, 1) := by decide +kernel
theorem dX6_leastOff_143 : decode cX6_leastOff 143 = .ok (.i2l, 1) := by decide +kernel
theorem dX6_leastOff_144 : decode cX6_leastOff 144 = .ok (.lload 5, 2) := by decide +kernel
theorem dX6_leastOff_146 : decode cX6_leastOff 146 = .ok (.lmul, 1) := by decide +kernel
theorem dX6_leastOff_147 : decode cX6_leastOff 147 = .ok (.ladd, 1) := by decide +kernel
theorem dX6_leastOff_148 : decode cX6_leastOff 148 = .ok (.lload 17, 2) := by decide +kernel
theorem dX6_leastOff_150 : decode cX6_leastOff 150 = .ok (.lsub, 1) := by decide +kernel
theorem dX6_leastOff_151 : decode cX6_leastOff 151 = .ok (.lstore 20, 2) := by decide +kernel
theorem dX6_leastOff_153 : decode cX6_leastOff 153 = .ok (.lload 20, 2) := by decide +kernel
theorem dX6_leastOff_155 : decode cX6_leastOff 155 = .ok (.lload_n 3, 1) := by decide +kernel
theorem dX6_leastOff_156 : decode cX6_leastOff 156 = .ok (.lsub, 1) := by decide +kernel
theorem dX6_leastOff_157 : decode cX6_leastOff 157 = .ok (.invokestatic 230, 3) := by decide +kernel
theorem dX6_leastOff_160 : decode cX6_leastOff 160 = .ok (.lstore 22, 2) := by decide +kernel
theorem dX6_leastOff_162 : decode cX6_leastOff 162 = .ok (.lload 20, 2) := by decide +kernel
theorem dX6_leastOff_164 : decode cX6_leastOff 164 = .ok (.lconst 0, 1) := by decide +kernel
theorem dX6_leastOff_165 : decode cX6_leastOff 165 = .ok (.lcmp, 1) := by decide +kernel
theorem dX6_leastOff_166 : decode cX6_leastOff 166 = .ok (.ifCond .le 24, 3) := by decide +kernel
theorem dX6_leastOff_169 : decode cX6_leastOff 169 = .ok (.lload 13, 2) := by decide +kernel
theorem dX6_leastOff_171 : decode cX6_leastOff 171 = .ok (.ldc2_w 186, 3) := by decide +kernel
theorem dX6_leastOff_174 : decode cX6_leastOff 174 = .ok (.lcmp, 1) := by decide +kernel
theorem dX6_leastOff_175 : decode cX6_leastOff 175 = .ok (.ifCond .eq 11, 3) := by decide +kernel
theorem dX6_leastOff_178 : decode cX6_leastOff 178 = .ok (.lload 22, 2) := by decide +kernel
theorem dX6_leastOff_180 : decode cX6_leastOff 180 = .ok (.lload 13, 2) := by decide +kernel
theorem dX6_leastOff_182 : decode cX6_leastOff 182 = .ok (.lcmp, 1) := by decide +kernel
theorem dX6_leastOff_183 : decode cX6_leastOff 183 = .ok (.ifCond .ge 7, 3) := by decide +kernel
theorem dX6_leastOff_186 : decode cX6_leastOff 186 = .ok (.lload 22, 2) := by decide +kernel
theorem dX6_leastOff_188 : decode cX6_leastOff 188 = .ok (.lstore 13, 2) := by decide +kernel
theorem dX6_leastOff_190 : decode cX6_leastOff 190 = .ok (.iinc 19 1, 3) := by decide +kernel
theorem dX6_leastOff_193 : decode cX6_leastOff 193 = .ok (.goto (-75), 3) := by decide +kernel
theorem dX6_leastOff_196 : decode cX6_leastOff 196 = .ok (.iinc 16 1, 3) := by decide +kernel
theorem dX6_leastOff_199 : decode cX6_leastOff 199 = .ok (.goto (-144), 3) := by decide +kernel
theorem dX6_leastOff_202 : decode cX6_leastOff 202 = .ok (.lload 13, 2) := by decide +kernel
theorem dX6_leastOff_204 : decode cX6_leastOff 204 = .ok (.lreturn, 1) := by decide +kernel
set_option maxRecDepth 20000 in
theorem ggX6_order_X3_clear : GoodIn wsX6_order wsX3_clear := goodIn_r _ [11, 12, 76, 77, 78, 79] (by decide +kernel) (by decide +kernel)
set_option maxRecDepth 20000 in
theorem gX6_order_X3_clear : GoodIn wsX6_order (wsV RX6 233 RX3 yX3_clear wsX3_clear) := goodIn_app (goodIn_of _ (by decide +kernel)) ggX6_order_X3_clear
set_option maxRecDepth 20000 in
theorem ggX6_order_X1_toldClock : GoodIn wsX6_order wsX1_toldClock := goodIn_r _ [17, 18, 19, 20, 21, 22, 80, 81, 82, 70, 71, 72, 73, 74, 75] (by decide +kernel) (by decide +kernel)
set_option maxRecDepth 20000 in
theorem gX6_order_X1_toldClock : GoodIn wsX6_order (wsV RX6 84 RX1 yX1_toldClock wsX1_toldClock) := goodIn_app (goodIn_of _ (by decide +kernel)) ggX6_order_X1_toldClock
set_option maxRecDepth 20000 in
theorem ggX6_order_X3_add : GoodIn wsX6_order wsX3_add := goodIn_r _ [26, 12, 27, 28, 76, 77, 78, 79] (by decide +kernel) (by decide +kernel)
set_option maxRecDepth 20000 in
theorem gX6_order_X3_add : GoodIn wsX6_order (wsV RX6 234 RX3 yX3_add wsX3_add) := goodIn_app (goodIn_of _ (by decide +kernel)) ggX6_order_X3_add
set_option maxRecDepth 20000 in
theorem ggX6_order_X3_weigh : GoodIn wsX6_order wsX3_weigh := goodIn_r _ [32, 12, 33, 34, 35, 36, 37, 38, 39, 40, 10, 41, 20, 21, 22, 42, 43, 44, 45, 28, 46, 47, 48, 76, 77, 78, 79] (by decide +kernel) (by decide +kernel)
set_option maxRecDepth 20000 in
theorem gX6_order_X3_weigh : GoodIn wsX6_order (wsV RX6 238 RX3 yX3_weigh wsX3_weigh) := goodIn_app (goodIn_of _ (by decide +kernel)) ggX6_order_X3_weigh
set_option maxRecDepth 20000 in
theorem ggX6_order_X3_leastError : GoodIn wsX6_order wsX3_leastError := goodIn_r _ [52, 33, 76, 77, 78, 79] (by decide +kernel) (by decide +kernel)
set_option maxRecDepth 20000 in
theorem gX6_order_X3_leastError : GoodIn wsX6_order (wsV RX6 241 RX3 yX3_leastError wsX3_leastError) := goodIn_app (goodIn_of _ (by decide +kernel)) ggX6_order_X3_leastError
set_option maxRecDepth 20000 in
theorem ggX6_order_X3_clockAt : GoodIn wsX6_order wsX3_clockAt := goodIn_r _ [56, 12, 27, 57, 58, 59, 10, 60, 33, 38, 39, 40, 41, 20, 21, 22, 76, 77, 78, 79] (by decide +kernel) (by decide +kernel)
set_option maxRecDepth 20000 in
theorem gX6_order_X3_clockAt : GoodIn wsX6_order (wsV RX6 244 RX3 yX3_clockAt wsX3_clockAt) := goodIn_app (goodIn_of _ (by decide +kernel)) ggX6_order_X3_clockAt
theorem dX6_order_0 : decode cX6_order 0 = .ok (.iload_n 1, 1) := by decide +kernel
theorem dX6_order_1 : decode cX6_order 1 = .ok (.iconst (-1), 1) := by decide +kernel
theorem dX6_order_2 : decode cX6_order 2 = .ok (.if_icmp .ge 6, 3) := by decide +kernel
theorem dX6_order_5 : decode cX6_order 5 = .ok (.bipush (-3), 2) := by decide +kernel
theorem dX6_order_7 : decode cX6_order 7 = .ok (.ireturn, 1) := by decide +kernel
theorem dX6_order_8 : decode cX6_order 8 = .ok (.aload_n 0, 1) := by decide +kernel
theorem dX6_order_9 : decode cX6_order 9 = .ok (.getfield 44, 3) := by decide +kernel
theorem dX6_order_12 : decode cX6_order 12 = .ok (.invokevirtual 233, 3) := by decide +kernel
theorem dX6_order_15 : decode cX6_order 15 = .ok (.iconst 0, 1) := by decide +kernel
theorem dX6_order_16 : decode cX6_order 16 = .ok (.istore_n 2, 1) := by decide +kernel
theorem dX6_order_17 : decode cX6_order 17 = .ok (.iload_n 2, 1) := by decide +kernel
theorem dX6_order_18 : decode cX6_order 18 = .ok (.bipush 8, 2) := by decide +kernel
theorem dX6_order_20 : decode cX6_order 20 = .ok (.if_icmp .ge 52, 3) := by decide +kernel
theorem dX6_order_23 : decode cX6_order 23 = .ok (.aload_n 0, 1) := by decide +kernel
theorem dX6_order_24 : decode cX6_order 24 = .ok (.getfield 19, 3) := by decide +kernel
theorem dX6_order_27 : decode cX6_order 27 = .ok (.iload_n 2, 1) := by decide +kernel
theorem dX6_order_28 : decode cX6_order 28 = .ok (.invokevirtual 84, 3) := by decide +kernel
theorem dX6_order_31 : decode cX6_order 31 = .ok (.astore_n 3, 1) := by decide +kernel
theorem dX6_order_32 : decode cX6_order 32 = .ok (.aload_n 3, 1) := by decide +kernel
theorem dX6_order_33 : decode cX6_order 33 = .ok (.ifnull 33, 3) := by decide +kernel
theorem dX6_order_36 : decode cX6_order 36 = .ok (.aload_n 3, 1) := by decide +kernel
theorem dX6_order_37 : decode cX6_order 37 = .ok (.getfield 88, 3) := by decide +kernel
theorem dX6_order_40 : decode cX6_order 40 = .ok (.ifCond .ne 26, 3) := by decide +kernel
theorem dX6_order_43 : decode cX6_order 43 = .ok (.aload_n 3, 1) := by decide +kernel
theorem dX6_order_44 : decode cX6_order 44 = .ok (.getfield 97, 3) := by decide +kernel
theorem dX6_order_47 : decode cX6_order 47 = .ok (.aload_n 3, 1) := by decide +kernel
theorem dX6_order_48 : decode cX6_order 48 = .ok (.getfield 100, 3) := by decide +kernel
theorem dX6_order_51 : decode cX6_order 51 = .ok (.if_icmp .ne 15, 3) := by decide +kernel
theorem dX6_order_54 : decode cX6_order 54 = .ok (.aload_n 0, 1) := by decide +kernel
theorem dX6_order_55 : decode cX6_order 55 = .ok (.getfield 44, 3) := by decide +kernel
theorem dX6_order_58 : decode cX6_order 58 = .ok (.iload_n 2, 1) := by decide +kernel
theorem dX6_order_59 : decode cX6_order 59 = .ok (.aload_n 3, 1) := by decide +kernel
theorem dX6_order_60 : decode cX6_order 60 = .ok (.getfield 97, 3) := by decide +kernel
theorem dX6_order_63 : decode cX6_order 63 = .ok (.invokevirtual 234, 3) := by decide +kernel
theorem dX6_order_66 : decode cX6_order 66 = .ok (.iinc 2 1, 3) := by decide +kernel
theorem dX6_order_69 : decode cX6_order 69 = .ok (.goto (-52), 3) := by decide +kernel
theorem dX6_order_72 : decode cX6_order 72 = .ok (.aload_n 0, 1) := by decide +kernel
theorem dX6_order_73 : decode cX6_order 73 = .ok (.getfield 44, 3) := by decide +kernel
theorem dX6_order_76 : decode cX6_order 76 = .ok (.getfield 237, 3) := by decide +kernel
theorem dX6_order_79 : decode cX6_order 79 = .ok (.iconst 1, 1) := by decide +kernel
theorem dX6_order_80 : decode cX6_order 80 = .ok (.if_icmp .lt 15, 3) := by decide +kernel
theorem dX6_order_83 : decode cX6_order 83 = .ok (.aload_n 0, 1) := by decide +kernel
theorem dX6_order_84 : decode cX6_order 84 = .ok (.getfield 44, 3) := by decide +kernel
theorem dX6_order_87 : decode cX6_order 87 = .ok (.getfield 237, 3) := by decide +kernel
theorem dX6_order_90 : decode cX6_order 90 = .ok (.bipush 6, 2) := by decide +kernel
theorem dX6_order_92 : decode cX6_order 92 = .ok (.if_icmp .le 6, 3) := by decide +kernel
theorem dX6_order_95 : decode cX6_order 95 = .ok (.bipush (-4), 2) := by decide +kernel
theorem dX6_order_97 : decode cX6_order 97 = .ok (.ireturn, 1) := by decide +kernel
theorem dX6_order_98 : decode cX6_order 98 = .ok (.aload_n 0, 1) := by decide +kernel
theorem dX6_order_99 : decode cX6_order 99 = .ok (.getfield 44, 3) := by decide +kernel
theorem dX6_order_102 : decode cX6_order 102 = .ok (.invokevirtual 238, 3) := by decide +kernel
theorem dX6_order_105 : decode cX6_order 105 = .ok (.iload_n 1, 1) := by decide +kernel
theorem dX6_order_106 : decode cX6_order 106 = .ok (.iconst (-1), 1) := by decide +kernel
theorem dX6_order_107 : decode cX6_order 107 = .ok (.if_icmp .ne 11, 3) := by decide +kernel
theorem dX6_order_110 : decode cX6_order 110 = .ok (.aload_n 0, 1) := by decide +kernel
theorem dX6_order_111 : decode cX6_order 111 = .ok (.getfield 44, 3) := by decide +kernel
theorem dX6_order_114 : decode cX6_order 114 = .ok (.invokevirtual 241, 3) := by decide +kernel
theorem dX6_order_117 : decode cX6_order 117 = .ok (.ireturn, 1) := by decide +kernel
theorem dX6_order_118 : decode cX6_order 118 = .ok (.iload_n 1, 1) := by decide +kernel
theorem dX6_order_119 : decode cX6_order 119 = .ok (.aload_n 0, 1) := by decide +kernel
theorem dX6_order_120 : decode cX6_order 120 = .ok (.getfield 44, 3) := by decide +kernel
theorem dX6_order_123 : decode cX6_order 123 = .ok (.getfield 237, 3) := by decide +kernel
theorem dX6_order_126 : decode cX6_order 126 = .ok (.if_icmp .ge 14, 3) := by decide +kernel
theorem dX6_order_129 : decode cX6_order 129 = .ok (.aload_n 0, 1) := by decide +kernel
theorem dX6_order_130 : decode cX6_order 130 = .ok (.getfield 44, 3) := by decide +kernel
theorem dX6_order_133 : decode cX6_order 133 = .ok (.iload_n 1, 1) := by decide +kernel
theorem dX6_order_134 : decode cX6_order 134 = .ok (.invokevirtual 244, 3) := by decide +kernel
theorem dX6_order_137 : decode cX6_order 137 = .ok (.goto 4, 3) := by decide +kernel
theorem dX6_order_140 : decode cX6_order 140 = .ok (.iconst (-1), 1) := by decide +kernel
theorem dX6_order_141 : decode cX6_order 141 = .ok (.ireturn, 1) := by decide +kernel
set_option maxRecDepth 20000 in
theorem ggX6_keep_X6_isBelow : GoodIn wsX6_keep wsX6_isBelow := goodIn_r _ [7] (by decide +kernel) (by decide +kernel)
set_option maxRecDepth 20000 in
theorem gX6_keep_X6_isBelow : GoodIn wsX6_keep (va_wsS RX6 106 yX6_isBelow wsX6_isBelow) := goodIn_app (goodIn_of _ (by decide +kernel)) ggX6_keep_X6_isBelow
set_option maxRecDepth 20000 in
theorem ggX6_keep_X1_copy : GoodIn wsX6_keep wsX1_copy := goodIn_r _ [12, 13, 14, 15, 16, 17, 18, 19, 20, 21, 22, 23, 24, 25, 26, 27, 28, 29, 30, 31, 32, 33, 34, 35, 36, 37, 38, 39, 40, 41, 42, 64, 65, 66, 67, 68, 69, 70, 71, 72, 73, 74, 75, 76] (by decide +kernel) (by decide +kernel)
set_option maxRecDepth 20000 in
theorem gX6_keep_X1_copy : GoodIn wsX6_keep (wsV RX6 247 RX1 yX1_copy wsX1_copy) := goodIn_app (goodIn_of _ (by decide +kernel)) ggX6_keep_X1_copy
set_option maxRecDepth 20000 in
theorem ggX6_keep_X1_toldBits : GoodIn wsX6_keep wsX1_toldBits := goodIn_r _ [46, 13, 47, 64, 65, 66, 67, 68, 69, 70, 71, 72] (by decide +kernel) (by decide +kernel)
set_option maxRecDepth 20000 in
theorem gX6_keep_X1_toldBits : GoodIn wsX6_keep (wsV RX6 69 RX1 yX1_toldBits wsX1_toldBits) := goodIn_app (goodIn_of _ (by decide +kernel)) ggX6_keep_X1_toldBits
set_option maxRecDepth 20000 in
theorem ggX6_keep_J6_bitCount_0f7a4 : GoodIn wsX6_keep wsJ6_bitCount_0f7a4 := goodIn_r _ [51, 52, 53, 54] (by decide +kernel) (by decide +kernel)
set_option maxRecDepth 20000 in
theorem gX6_keep_J6_bitCount_0f7a4 : GoodIn wsX6_keep (va_wsS RX6 138 yJ6_bitCount_0f7a4 wsJ6_bitCount_0f7a4) := goodIn_app (goodIn_of _ (by decide +kernel)) ggX6_keep_J6_bitCount_0f7a4
theorem dX6_keep_0 : decode cX6_keep 0 = .ok (.iload_n 1, 1) := by decide +kernel
theorem dX6_keep_1 : decode cX6_keep 1 = .ok (.iconst 2, 1) := by decide +kernel
theorem dX6_keep_2 : decode cX6_keep 2 = .ok (.invokestatic 106, 3) := by decide +kernel
theorem dX6_keep_5 : decode cX6_keep 5 = .ok (.ifCond .ne 6, 3) := by decide +kernel
theorem dX6_keep_8 : decode cX6_keep 8 = .ok (.bipush (-2), 2) := by decide +kernel
theorem dX6_keep_10 : decode cX6_keep 10 = .ok (.ireturn, 1) := by decide +kernel
theorem dX6_keep_11 : decode cX6_keep 11 = .ok (.aload_n 0, 1) := by decide +kernel
theorem dX6_keep_12 : decode cX6_keep 12 = .ok (.getfield 23, 3) := by decide +kernel
theorem dX6_keep_15 : decode cX6_keep 15 = .ok (.iload_n 1, 1) := by decide +kernel
theorem dX6_keep_16 : decode cX6_keep 16 = .ok (.aaload, 1) := by decide +kernel
theorem dX6_keep_17 : decode cX6_keep 17 = .ok (.aload_n 0, 1) := by decide +kernel
theorem dX6_keep_18 : decode cX6_keep 18 = .ok (.getfield 19, 3) := by decide +kernel
theorem dX6_keep_21 : decode cX6_keep 21 = .ok (.invokevirtual 247, 3) := by decide +kernel
theorem dX6_keep_24 : decode cX6_keep 24 = .ok (.aload_n 0, 1) := by decide +kernel
theorem dX6_keep_25 : decode cX6_keep 25 = .ok (.getfield 23, 3) := by decide +kernel
theorem dX6_keep_28 : decode cX6_keep 28 = .ok (.iload_n 1, 1) := by decide +kernel
theorem dX6_keep_29 : decode cX6_keep 29 = .ok (.aaload, 1) := by decide +kernel
theorem dX6_keep_30 : decode cX6_keep 30 = .ok (.iconst 1, 1) := by decide +kernel
theorem dX6_keep_31 : decode cX6_keep 31 = .ok (.putfield 250, 3) := by decide +kernel
theorem dX6_keep_34 : decode cX6_keep 34 = .ok (.aload_n 0, 1) := by decide +kernel
theorem dX6_keep_35 : decode cX6_keep 35 = .ok (.getfield 19, 3) := by decide +kernel
theorem dX6_keep_38 : decode cX6_keep 38 = .ok (.invokevirtual 69, 3) := by decide +kernel
theorem dX6_keep_41 : decode cX6_keep 41 = .ok (.invokestatic 138, 3) := by decide +kernel
theorem dX6_keep_44 : decode cX6_keep 44 = .ok (.ireturn, 1) := by decide +kernel
set_option maxRecDepth 20000 in
theorem ggX6_back_X6_isBelow : GoodIn wsX6_back wsX6_isBelow := goodIn_r _ [8] (by decide +kernel) (by decide +kernel)
set_option maxRecDepth 20000 in
theorem gX6_back_X6_isBelow : GoodIn wsX6_back (va_wsS RX6 106 yX6_isBelow wsX6_isBelow) := goodIn_app (goodIn_of _ (by decide +kernel)) ggX6_back_X6_isBelow
set_option maxRecDepth 20000 in
theorem ggX6_back_X1_copy : GoodIn wsX6_back wsX1_copy := goodIn_r _ [13, 14, 15, 16, 17, 18, 19, 20, 21, 22, 23, 24, 25, 26, 27, 28, 29, 30, 31, 32, 33, 34, 35, 36, 37, 38, 39, 40, 41, 42, 43, 65, 66, 67, 68, 69, 70, 71, 72, 73, 74, 75, 76, 77] (by decide +kernel) (by decide +kernel)
set_option maxRecDepth 20000 in
theorem gX6_back_X1_copy : GoodIn wsX6_back (wsV RX6 247 RX1 yX1_copy wsX1_copy) := goodIn_app (goodIn_of _ (by decide +kernel)) ggX6_back_X1_copy
set_option maxRecDepth 20000 in
theorem ggX6_back_X1_toldBits : GoodIn wsX6_back wsX1_toldBits := goodIn_r _ [47, 14, 48, 65, 66, 67, 68, 69, 70, 71, 72, 73] (by decide +kernel) (by decide +kernel)
set_option maxRecDepth 20000 in
theorem gX6_back_X1_toldBits : GoodIn wsX6_back (wsV RX6 69 RX1 yX1_toldBits wsX1_toldBits) := goodIn_app (goodIn_of _ (by decide +kernel)) ggX6_back_X1_toldBits
set_option maxRecDepth 20000 in
theorem ggX6_back_J6_bitCount_0f7a4 : GoodIn wsX6_back wsJ6_bitCount_0f7a4 := goodIn_r _ [52, 53, 54, 55] (by decide +kernel) (by decide +kernel)
set_option maxRecDepth 20000 in
theorem gX6_back_J6_bitCount_0f7a4 : GoodIn wsX6_back (va_wsS RX6 138 yJ6_bitCount_0f7a4 wsJ6_bitCount_0f7a4) := goodIn_app (goodIn_of _ (by decide +kernel)) ggX6_back_J6_bitCount_0f7a4
theorem dX6_back_0 : decode cX6_back 0 = .ok (.iload_n 1, 1) := by decide +kernel
theorem dX6_back_1 : decode cX6_back 1 = .ok (.iconst 2, 1) := by decide +kernel
theorem dX6_back_2 : decode cX6_back 2 = .ok (.invokestatic 106, 3) := by decide +kernel
theorem dX6_back_5 : decode cX6_back 5 = .ok (.ifCond .ne 6, 3) := by decide +kernel
theorem dX6_back_8 : decode cX6_back 8 = .ok (.bipush (-2), 2) := by decide +kernel
theorem dX6_back_10 : decode cX6_back 10 = .ok (.ireturn, 1) := by decide +kernel
theorem dX6_back_11 : decode cX6_back 11 = .ok (.aload_n 0, 1) := by decide +kernel
theorem dX6_back_12 : decode cX6_back 12 = .ok (.getfield 23, 3) := by decide +kernel
theorem dX6_back_15 : decode cX6_back 15 = .ok (.iload_n 1, 1) := by decide +kernel
theorem dX6_back_16 : decode cX6_back 16 = .ok (.aaload, 1) := by decide +kernel
theorem dX6_back_17 : decode cX6_back 17 = .ok (.getfield 250, 3) := by decide +kernel
theorem dX6_back_20 : decode cX6_back 20 = .ok (.ifCond .ne 6, 3) := by decide +kernel
theorem dX6_back_23 : decode cX6_back 23 = .ok (.bipush (-4), 2) := by decide +kernel
theorem dX6_back_25 : decode cX6_back 25 = .ok (.ireturn, 1) := by decide +kernel
theorem dX6_back_26 : decode cX6_back 26 = .ok (.aload_n 0, 1) := by decide +kernel
theorem dX6_back_27 : decode cX6_back 27 = .ok (.getfield 19, 3) := by decide +kernel
theorem dX6_back_30 : decode cX6_back 30 = .ok (.aload_n 0, 1) := by decide +kernel
theorem dX6_back_31 : decode cX6_back 31 = .ok (.getfield 23, 3) := by decide +kernel
theorem dX6_back_34 : decode cX6_back 34 = .ok (.iload_n 1, 1) := by decide +kernel
theorem dX6_back_35 : decode cX6_back 35 = .ok (.aaload, 1) := by decide +kernel
theorem dX6_back_36 : decode cX6_back 36 = .ok (.invokevirtual 247, 3) := by decide +kernel
theorem dX6_back_39 : decode cX6_back 39 = .ok (.aload_n 0, 1) := by decide +kernel
theorem dX6_back_40 : decode cX6_back 40 = .ok (.iconst 0, 1) := by decide +kernel
theorem dX6_back_41 : decode cX6_back 41 = .ok (.putfield 52, 3) := by decide +kernel
theorem dX6_back_44 : decode cX6_back 44 = .ok (.aload_n 0, 1) := by decide +kernel
theorem dX6_back_45 : decode cX6_back 45 = .ok (.getfield 19, 3) := by decide +kernel
theorem dX6_back_48 : decode cX6_back 48 = .ok (.invokevirtual 69, 3) := by decide +kernel
theorem dX6_back_51 : decode cX6_back 51 = .ok (.invokestatic 138, 3) := by decide +kernel
theorem dX6_back_54 : decode cX6_back 54 = .ok (.ireturn, 1) := by decide +kernel
set_option maxRecDepth 20000 in
theorem ggX6_count_X1_toldBits : GoodIn wsX6_count wsX1_toldBits := goodIn_r _ [10, 11, 12, 27, 28, 29, 40, 41, 42, 43, 44, 45] (by decide +kernel) (by decide +kernel)
set_option maxRecDepth 20000 in
theorem gX6_count_X1_toldBits : GoodIn wsX6_count (wsV RX6 69 RX1 yX1_toldBits wsX1_toldBits) := goodIn_app (goodIn_of _ (by decide +kernel)) ggX6_count_X1_toldBits
set_option maxRecDepth 20000 in
theorem ggX6_count_X1_readBits : GoodIn wsX6_count wsX1_readBits := goodIn_r _ [16, 11, 17, 27, 28, 29, 40, 41, 42, 43, 44, 45] (by decide +kernel) (by decide +kernel)
set_option maxRecDepth 20000 in
theorem gX6_count_X1_readBits : GoodIn wsX6_count (wsV RX6 117 RX1 yX1_readBits wsX1_readBits) := goodIn_app (goodIn_of _ (by decide +kernel)) ggX6_count_X1_readBits
theorem dX6_count_0 : decode cX6_count 0 = .ok (.iload_n 1, 1) := by decide +kernel
theorem dX6_count_1 : decode cX6_count 1 = .ok (.tableswitch 66 0 3 #[31, 39, 47, 58], 31) := by decide +kernel
theorem dX6_count_32 : decode cX6_count 32 = .ok (.aload_n 0, 1) := by decide +kernel
theorem dX6_count_33 : decode cX6_count 33 = .ok (.getfield 19, 3) := by decide +kernel
theorem dX6_count_36 : decode cX6_count 36 = .ok (.invokevirtual 69, 3) := by decide +kernel
theorem dX6_count_39 : decode cX6_count 39 = .ok (.ireturn, 1) := by decide +kernel
theorem dX6_count_40 : decode cX6_count 40 = .ok (.aload_n 0, 1) := by decide +kernel
theorem dX6_count_41 : decode cX6_count 41 = .ok (.getfield 19, 3) := by decide +kernel
theorem dX6_count_44 : decode cX6_count 44 = .ok (.invokevirtual 117, 3) := by decide +kernel
theorem dX6_count_47 : decode cX6_count 47 = .ok (.ireturn, 1) := by decide +kernel
theorem dX6_count_48 : decode cX6_count 48 = .ok (.aload_n 0, 1) := by decide +kernel
theorem dX6_count_49 : decode cX6_count 49 = .ok (.getfield 19, 3) := by decide +kernel
theorem dX6_count_52 : decode cX6_count 52 = .ok (.getfield 158, 3) := by decide +kernel
theorem dX6_count_55 : decode cX6_count 55 = .ok (.getfield 167, 3) := by decide +kernel
theorem dX6_count_58 : decode cX6_count 58 = .ok (.ireturn, 1) := by decide +kernel
theorem dX6_count_59 : decode cX6_count 59 = .ok (.aload_n 0, 1) := by decide +kernel
theorem dX6_count_60 : decode cX6_count 60 = .ok (.getfield 12, 3) := by decide +kernel
theorem dX6_count_63 : decode cX6_count 63 = .ok (.getfield 59, 3) := by decide +kernel
theorem dX6_count_66 : decode cX6_count 66 = .ok (.ireturn, 1) := by decide +kernel
theorem dX6_count_67 : decode cX6_count 67 = .ok (.bipush (-3), 2) := by decide +kernel
theorem dX6_count_69 : decode cX6_count 69 = .ok (.ireturn, 1) := by decide +kernel
theorem dX6_isBelow_0 : decode cX6_isBelow 0 = .ok (.iload_n 0, 1) := by decide +kernel
theorem dX6_isBelow_1 : decode cX6_isBelow 1 = .ok (.ifCond .lt 12, 3) := by decide +kernel
theorem dX6_isBelow_4 : decode cX6_isBelow 4 = .ok (.iload_n 0, 1) := by decide +kernel
theorem dX6_isBelow_5 : decode cX6_isBelow 5 = .ok (.iload_n 1, 1) := by decide +kernel
theorem dX6_isBelow_6 : decode cX6_isBelow 6 = .ok (.if_icmp .ge 7, 3) := by decide +kernel
theorem dX6_isBelow_9 : decode cX6_isBelow 9 = .ok (.iconst 1, 1) := by decide +kernel
theorem dX6_isBelow_10 : decode cX6_isBelow 10 = .ok (.goto 4, 3) := by decide +kernel
theorem dX6_isBelow_13 : decode cX6_isBelow 13 = .ok (.iconst 0, 1) := by decide +kernel
theorem dX6_isBelow_14 : decode cX6_isBelow 14 = .ok (.ireturn, 1) := by decide +kernel
