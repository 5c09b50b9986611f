theorem dX0_init_0 : decode cX0_init 0 = .ok (.aload_n 0, 1) := by decide +kernel
theorem dX0_init_1 : decode cX0_init 1 = .ok (.invokespecial 3, 3) := by decide +kernel
theorem dX0_init_4 : decode cX0_init 4 = .ok (.aload_n 0, 1) := by decide +kernel
theorem dX0_init_5 : decode cX0_init 5 = .ok (.iconst (-1), 1) := by decide +kernel
theorem dX0_init_6 : decode cX0_init 6 = .ok (.putfield 9, 3) := by decide +kernel
theorem dX0_init_9 : decode cX0_init 9 = .ok (.aload_n 0, 1) := by decide +kernel
theorem dX0_init_10 : decode cX0_init 10 = .ok (.iconst 0, 1) := by decide +kernel
theorem dX0_init_11 : decode cX0_init 11 = .ok (.putfield 15, 3) := by decide +kernel
theorem dX0_init_14 : decode cX0_init 14 = .ok (.aload_n 0, 1) := by decide +kernel
theorem dX0_init_15 : decode cX0_init 15 = .ok (.iconst 0, 1) := by decide +kernel
theorem dX0_init_16 : decode cX0_init 16 = .ok (.putfield 18, 3) := by decide +kernel
theorem dX0_init_19 : decode cX0_init 19 = .ok (.aload_n 0, 1) := by decide +kernel
theorem dX0_init_20 : decode cX0_init 20 = .ok (.iconst 0, 1) := by decide +kernel
theorem dX0_init_21 : decode cX0_init 21 = .ok (.putfield 21, 3) := by decide +kernel
theorem dX0_init_24 : decode cX0_init 24 = .ok (.aload_n 0, 1) := by decide +kernel
theorem dX0_init_25 : decode cX0_init 25 = .ok (.iconst 0, 1) := by decide +kernel
theorem dX0_init_26 : decode cX0_init 26 = .ok (.putfield 24, 3) := by decide +kernel
theorem dX0_init_29 : decode cX0_init 29 = .ok (.aload_n 0, 1) := by decide +kernel
theorem dX0_init_30 : decode cX0_init 30 = .ok (.iconst (-1), 1) := by decide +kernel
theorem dX0_init_31 : decode cX0_init 31 = .ok (.putfield 27, 3) := by decide +kernel
theorem dX0_init_34 : decode cX0_init 34 = .ok (.return_, 1) := by decide +kernel
theorem dX0_tell_0 : decode cX0_tell 0 = .ok (.aload_n 0, 1) := by decide +kernel
theorem dX0_tell_1 : decode cX0_tell 1 = .ok (.iload_n 1, 1) := by decide +kernel
theorem dX0_tell_2 : decode cX0_tell 2 = .ok (.putfield 9, 3) := by decide +kernel
theorem dX0_tell_5 : decode cX0_tell 5 = .ok (.aload_n 0, 1) := by decide +kernel
theorem dX0_tell_6 : decode cX0_tell 6 = .ok (.iload_n 2, 1) := by decide +kernel
theorem dX0_tell_7 : decode cX0_tell 7 = .ok (.putfield 15, 3) := by decide +kernel
theorem dX0_tell_10 : decode cX0_tell 10 = .ok (.aload_n 0, 1) := by decide +kernel
theorem dX0_tell_11 : decode cX0_tell 11 = .ok (.iload_n 3, 1) := by decide +kernel
theorem dX0_tell_12 : decode cX0_tell 12 = .ok (.putfield 18, 3) := by decide +kernel
theorem dX0_tell_15 : decode cX0_tell 15 = .ok (.aload_n 0, 1) := by decide +kernel
theorem dX0_tell_16 : decode cX0_tell 16 = .ok (.iload 4, 2) := by decide +kernel
theorem dX0_tell_18 : decode cX0_tell 18 = .ok (.putfield 21, 3) := by decide +kernel
theorem dX0_tell_21 : decode cX0_tell 21 = .ok (.aload_n 0, 1) := by decide +kernel
theorem dX0_tell_22 : decode cX0_tell 22 = .ok (.iload 5, 2) := by decide +kernel
theorem dX0_tell_24 : decode cX0_tell 24 = .ok (.putfield 24, 3) := by decide +kernel
theorem dX0_tell_27 : decode cX0_tell 27 = .ok (.aload_n 0, 1) := by decide +kernel
theorem dX0_tell_28 : decode cX0_tell 28 = .ok (.iconst (-1), 1) := by decide +kernel
theorem dX0_tell_29 : decode cX0_tell 29 = .ok (.putfield 27, 3) := by decide +kernel
theorem dX0_tell_32 : decode cX0_tell 32 = .ok (.return_, 1) := by decide +kernel
set_option maxRecDepth 20000 in
theorem ggX0_copy_X0_tell : GoodIn wsX0_copy wsX0_tell := goodIn_r _ [11, 1, 2, 3, 4, 5, 6, 12, 13, 14, 15, 16, 17] (by decide +kernel) (by decide +kernel)
set_option maxRecDepth 20000 in
theorem gX0_copy_X0_tell : GoodIn wsX0_copy (wsV RX0 30 RX0 yX0_tell wsX0_tell) := goodIn_app (goodIn_of _ (by decide +kernel)) ggX0_copy_X0_tell
theorem dX0_copy_0 : decode cX0_copy 0 = .ok (.aload_n 0, 1) := by decide +kernel
theorem dX0_copy_1 : decode cX0_copy 1 = .ok (.aload_n 1, 1) := by decide +kernel
theorem dX0_copy_2 : decode cX0_copy 2 = .ok (.getfield 9, 3) := by decide +kernel
theorem dX0_copy_5 : decode cX0_copy 5 = .ok (.aload_n 1, 1) := by decide +kernel
theorem dX0_copy_6 : decode cX0_copy 6 = .ok (.getfield 15, 3) := by decide +kernel
theorem dX0_copy_9 : decode cX0_copy 9 = .ok (.aload_n 1, 1) := by decide +kernel
theorem dX0_copy_10 : decode cX0_copy 10 = .ok (.getfield 18, 3) := by decide +kernel
theorem dX0_copy_13 : decode cX0_copy 13 = .ok (.aload_n 1, 1) := by decide +kernel
theorem dX0_copy_14 : decode cX0_copy 14 = .ok (.getfield 21, 3) := by decide +kernel
theorem dX0_copy_17 : decode cX0_copy 17 = .ok (.aload_n 1, 1) := by decide +kernel
theorem dX0_copy_18 : decode cX0_copy 18 = .ok (.getfield 24, 3) := by decide +kernel
theorem dX0_copy_21 : decode cX0_copy 21 = .ok (.invokevirtual 30, 3) := by decide +kernel
theorem dX0_copy_24 : decode cX0_copy 24 = .ok (.aload_n 0, 1) := by decide +kernel
theorem dX0_copy_25 : decode cX0_copy 25 = .ok (.aload_n 1, 1) := by decide +kernel
theorem dX0_copy_26 : decode cX0_copy 26 = .ok (.getfield 27, 3) := by decide +kernel
theorem dX0_copy_29 : decode cX0_copy 29 = .ok (.putfield 27, 3) := by decide +kernel
theorem dX0_copy_32 : decode cX0_copy 32 = .ok (.return_, 1) := by decide +kernel
theorem dX0_runsByOneRate_0 : decode cX0_runsByOneRate 0 = .ok (.aload_n 0, 1) := by decide +kernel
theorem dX0_runsByOneRate_1 : decode cX0_runsByOneRate 1 = .ok (.getfield 9, 3) := by decide +kernel
theorem dX0_runsByOneRate_4 : decode cX0_runsByOneRate 4 = .ok (.iconst 2, 1) := by decide +kernel
theorem dX0_runsByOneRate_5 : decode cX0_runsByOneRate 5 = .ok (.if_icmp .eq 18, 3) := by decide +kernel
theorem dX0_runsByOneRate_8 : decode cX0_runsByOneRate 8 = .ok (.aload_n 0, 1) := by decide +kernel
theorem dX0_runsByOneRate_9 : decode cX0_runsByOneRate 9 = .ok (.getfield 21, 3) := by decide +kernel
theorem dX0_runsByOneRate_12 : decode cX0_runsByOneRate 12 = .ok (.aload_n 0, 1) := by decide +kernel
theorem dX0_runsByOneRate_13 : decode cX0_runsByOneRate 13 = .ok (.getfield 24, 3) := by decide +kernel
theorem dX0_runsByOneRate_16 : decode cX0_runsByOneRate 16 = .ok (.if_icmp .ne 7, 3) := by decide +kernel
theorem dX0_runsByOneRate_19 : decode cX0_runsByOneRate 19 = .ok (.iconst 1, 1) := by decide +kernel
theorem dX0_runsByOneRate_20 : decode cX0_runsByOneRate 20 = .ok (.goto 4, 3) := by decide +kernel
theorem dX0_runsByOneRate_23 : decode cX0_runsByOneRate 23 = .ok (.iconst 0, 1) := by decide +kernel
theorem dX0_runsByOneRate_24 : decode cX0_runsByOneRate 24 = .ok (.ireturn, 1) := by decide +kernel
theorem dX0_way_0 : decode cX0_way 0 = .ok (.aload_n 0, 1) := by decide +kernel
theorem dX0_way_1 : decode cX0_way 1 = .ok (.getfield 9, 3) := by decide +kernel
theorem dX0_way_4 : decode cX0_way 4 = .ok (.iconst 2, 1) := by decide +kernel
theorem dX0_way_5 : decode cX0_way 5 = .ok (.if_icmp .ne 5, 3) := by decide +kernel
theorem dX0_way_8 : decode cX0_way 8 = .ok (.iconst 0, 1) := by decide +kernel
theorem dX0_way_9 : decode cX0_way 9 = .ok (.ireturn, 1) := by decide +kernel
theorem dX0_way_10 : decode cX0_way 10 = .ok (.iload_n 1, 1) := by decide +kernel
theorem dX0_way_11 : decode cX0_way 11 = .ok (.sipush 1440, 3) := by decide +kernel
theorem dX0_way_14 : decode cX0_way 14 = .ok (.iload_n 2, 1) := by decide +kernel
theorem dX0_way_15 : decode cX0_way 15 = .ok (.iadd, 1) := by decide +kernel
theorem dX0_way_16 : decode cX0_way 16 = .ok (.imul, 1) := by decide +kernel
theorem dX0_way_17 : decode cX0_way 17 = .ok (.istore_n 3, 1) := by decide +kernel
theorem dX0_way_18 : decode cX0_way 18 = .ok (.aload_n 0, 1) := by decide +kernel
theorem dX0_way_19 : decode cX0_way 19 = .ok (.getfield 9, 3) := by decide +kernel
theorem dX0_way_22 : decode cX0_way 22 = .ok (.iconst 1, 1) := by decide +kernel
theorem dX0_way_23 : decode cX0_way 23 = .ok (.if_icmp .ne 8, 3) := by decide +kernel
theorem dX0_way_26 : decode cX0_way 26 = .ok (.iload_n 3, 1) := by decide +kernel
theorem dX0_way_27 : decode cX0_way 27 = .ok (.ineg, 1) := by decide +kernel
theorem dX0_way_28 : decode cX0_way 28 = .ok (.goto 4, 3) := by decide +kernel
theorem dX0_way_31 : decode cX0_way 31 = .ok (.iload_n 3, 1) := by decide +kernel
theorem dX0_way_32 : decode cX0_way 32 = .ok (.ireturn, 1) := by decide +kernel
set_option maxRecDepth 20000 in
theorem ggX0_handAt_X0_way : GoodIn wsX0_handAt wsX0_way := goodIn_r _ [7, 8, 9, 10, 11, 12, 13, 14] (by decide +kernel) (by decide +kernel)
set_option maxRecDepth 20000 in
theorem gX0_handAt_X0_way : GoodIn wsX0_handAt (wsV RX0 34 RX0 yX0_way wsX0_way) := goodIn_app (goodIn_of _ (by decide +kernel)) ggX0_handAt_X0_way
theorem dX0_handAt_0 : decode cX0_handAt 0 = .ok (.aload_n 0, 1) := by decide +kernel
theorem dX0_handAt_1 : decode cX0_handAt 1 = .ok (.getfield 18, 3) := by decide +kernel
theorem dX0_handAt_4 : decode cX0_handAt 4 = .ok (.sipush 1440, 3) := by decide +kernel
theorem dX0_handAt_7 : decode cX0_handAt 7 = .ok (.imul, 1) := by decide +kernel
theorem dX0_handAt_8 : decode cX0_handAt 8 = .ok (.aload_n 0, 1) := by decide +kernel
theorem dX0_handAt_9 : decode cX0_handAt 9 = .ok (.iload_n 1, 1) := by decide +kernel
theorem dX0_handAt_10 : decode cX0_handAt 10 = .ok (.aload_n 0, 1) := by decide +kernel
theorem dX0_handAt_11 : decode cX0_handAt 11 = .ok (.getfield 15, 3) := by decide +kernel
theorem dX0_handAt_14 : decode cX0_handAt 14 = .ok (.isub, 1) := by decide +kernel
theorem dX0_handAt_15 : decode cX0_handAt 15 = .ok (.iload_n 2, 1) := by decide +kernel
theorem dX0_handAt_16 : decode cX0_handAt 16 = .ok (.invokevirtual 34, 3) := by decide +kernel
theorem dX0_handAt_19 : decode cX0_handAt 19 = .ok (.iadd, 1) := by decide +kernel
theorem dX0_handAt_20 : decode cX0_handAt 20 = .ok (.ireturn, 1) := by decide +kernel
set_option maxRecDepth 20000 in
theorem ggX0_dialAt_X0_handAt : GoodIn wsX0_dialAt wsX0_handAt := goodIn_r _ [5, 6, 7, 8, 9, 10, 4, 11, 12, 20, 21, 22, 23, 24, 25] (by decide +kernel) (by decide +kernel)
set_option maxRecDepth 20000 in
theorem gX0_dialAt_X0_handAt : GoodIn wsX0_dialAt (wsV RX0 38 RX0 yX0_handAt wsX0_handAt) := goodIn_app (goodIn_of _ (by decide +kernel)) ggX0_dialAt_X0_handAt
set_option maxRecDepth 20000 in
theorem ggX0_dialAt_J9_floorDiv_7cf53 : GoodIn wsX0_dialAt wsJ9_floorDiv_7cf53 := goodIn_r _ [16] (by decide +kernel) (by decide +kernel)
set_option maxRecDepth 20000 in
theorem gX0_dialAt_J9_floorDiv_7cf53 : GoodIn wsX0_dialAt (va_wsS RX0 41 yJ9_floorDiv_7cf53 wsJ9_floorDiv_7cf53) := goodIn_app (goodIn_of _ (by decide +kernel)) ggX0_dialAt_J9_floorDiv_7cf53
set_option maxRecDepth 20000 in
theorem ggX0_dialAt_J9_floorMod_7cf53 : GoodIn wsX0_dialAt wsJ9_floorMod_7cf53 := goodIn_r _ [19] (by decide +kernel) (by decide +kernel)
set_option maxRecDepth 20000 in
theorem gX0_dialAt_J9_floorMod_7cf53 : GoodIn wsX0_dialAt (va_wsS RX0 46 yJ9_floorMod_7cf53 wsJ9_floorMod_7cf53) := goodIn_app (goodIn_of _ (by decide +kernel)) ggX0_dialAt_J9_floorMod_7cf53
theorem dX0_dialAt_0 : decode cX0_dialAt 0 = .ok (.aload_n 0, 1) := by decide +kernel
theorem dX0_dialAt_1 : decode cX0_dialAt 1 = .ok (.iload_n 1, 1) := by decide +kernel
theorem dX0_dialAt_2 : decode cX0_dialAt 2 = .ok (.iload_n 2, 1) := by decide +kernel
theorem dX0_dialAt_3 : decode cX0_dialAt 3 = .ok (.invokevirtual 38, 3) := by decide +kernel
theorem dX0_dialAt_6 : decode cX0_dialAt 6 = .ok (.sipush 1440, 3) := by decide +kernel
theorem dX0_dialAt_9 : decode cX0_dialAt 9 = .ok (.invokestatic 41, 3) := by decide +kernel
theorem dX0_dialAt_12 : decode cX0_dialAt 12 = .ok (.sipush 720, 3) := by decide +kernel
theorem dX0_dialAt_15 : decode cX0_dialAt 15 = .ok (.invokestatic 46, 3) := by decide +kernel
theorem dX0_dialAt_18 : decode cX0_dialAt 18 = .ok (.ireturn, 1) := by decide +kernel
set_option maxRecDepth 20000 in
theorem ggX0_canShow_X0_handAt : GoodIn wsX0_canShow wsX0_handAt := goodIn_r _ [14, 15, 16, 17, 18, 19, 13, 20, 21, 29, 30, 31, 32, 33, 34] (by decide +kernel) (by decide +kernel)
set_option maxRecDepth 20000 in
theorem gX0_canShow_X0_handAt : GoodIn wsX0_canShow (wsV RX0 38 RX0 yX0_handAt wsX0_handAt) := goodIn_app (goodIn_of _ (by decide +kernel)) ggX0_canShow_X0_handAt
set_option maxRecDepth 20000 in
theorem ggX0_canShow_J9_floorDiv_7cf53 : GoodIn wsX0_canShow wsJ9_floorDiv_7cf53 := goodIn_r _ [25] (by decide +kernel) (by decide +kernel)
set_option maxRecDepth 20000 in
theorem gX0_canShow_J9_floorDiv_7cf53 : GoodIn wsX0_canShow (va_wsS RX0 41 yJ9_floorDiv_7cf53 wsJ9_floorDiv_7cf53) := goodIn_app (goodIn_of _ (by decide +kernel)) ggX0_canShow_J9_floorDiv_7cf53
set_option maxRecDepth 20000 in
theorem ggX0_canShow_J9_floorMod_7cf53 : GoodIn wsX0_canShow wsJ9_floorMod_7cf53 := goodIn_r _ [28] (by decide +kernel) (by decide +kernel)
set_option maxRecDepth 20000 in
theorem gX0_canShow_J9_floorMod_7cf53 : GoodIn wsX0_canShow (va_wsS RX0 46 yJ9_floorMod_7cf53 wsJ9_floorMod_7cf53) := goodIn_app (goodIn_of _ (by decide +kernel)) ggX0_canShow_J9_floorMod_7cf53
theorem dX0_canShow_0 : decode cX0_canShow 0 = .ok (.aload_n 0, 1) := by decide +kernel
theorem dX0_canShow_1 : decode cX0_canShow 1 = .ok (.iload_n 1, 1) := by decide +kernel
theorem dX0_canShow_2 : decode cX0_canShow 2 = .ok (.aload_n 0, 1) := by decide +kernel
theorem dX0_canShow_3 : decode cX0_canShow 3 = .ok (.getfield 21, 3) := by decide +kernel
theorem dX0_canShow_6 : decode cX0_canShow 6 = .ok (.invokevirtual 38, 3) := by decide +kernel
theorem dX0_canShow_9 : decode cX0_canShow 9 = .ok (.istore_n 3, 1) := by decide +kernel
theorem dX0_canShow_10 : decode cX0_canShow 10 = .ok (.aload_n 0, 1) := by decide +kernel
theorem dX0_canShow_11 : decode cX0_canShow 11 = .ok (.iload_n 1, 1) := by decide +kernel
theorem dX0_canShow_12 : decode cX0_canShow 12 = .ok (.aload_n 0, 1) := by decide +kernel
theorem dX0_canShow_13 : decode cX0_canShow 13 = .ok (.getfield 24, 3) := by decide +kernel
theorem dX0_canShow_16 : decode cX0_canShow 16 = .ok (.invokevirtual 38, 3) := by decide +kernel
theorem dX0_canShow_19 : decode cX0_canShow 19 = .ok (.istore 4, 2) := by decide +kernel
theorem dX0_canShow_21 : decode cX0_canShow 21 = .ok (.iload_n 3, 1) := by decide +kernel
theorem dX0_canShow_22 : decode cX0_canShow 22 = .ok (.iload 4, 2) := by decide +kernel
theorem dX0_canShow_24 : decode cX0_canShow 24 = .ok (.invokestatic 49, 3) := by decide +kernel
theorem dX0_canShow_27 : decode cX0_canShow 27 = .ok (.sipush 1440, 3) := by decide +kernel
theorem dX0_canShow_30 : decode cX0_canShow 30 = .ok (.invokestatic 41, 3) := by decide +kernel
theorem dX0_canShow_33 : decode cX0_canShow 33 = .ok (.istore 5, 2) := by decide +kernel
theorem dX0_canShow_35 : decode cX0_canShow 35 = .ok (.iload_n 3, 1) := by decide +kernel
theorem dX0_canShow_36 : decode cX0_canShow 36 = .ok (.iload 4, 2) := by decide +kernel
theorem dX0_canShow_38 : decode cX0_canShow 38 = .ok (.invokestatic 52, 3) := by decide +kernel
theorem dX0_canShow_41 : decode cX0_canShow 41 = .ok (.sipush 1440, 3) := by decide +kernel
theorem dX0_canShow_44 : decode cX0_canShow 44 = .ok (.invokestatic 41, 3) := by decide +kernel
theorem dX0_canShow_47 : decode cX0_canShow 47 = .ok (.istore 6, 2) := by decide +kernel
theorem dX0_canShow_49 : decode cX0_canShow 49 = .ok (.iload_n 2, 1) := by decide +kernel
theorem dX0_canShow_50 : decode cX0_canShow 50 = .ok (.iload 5, 2) := by decide +kernel
theorem dX0_canShow_52 : decode cX0_canShow 52 = .ok (.isub, 1) := by decide +kernel
theorem dX0_canShow_53 : decode cX0_canShow 53 = .ok (.sipush 720, 3) := by decide +kernel
theorem dX0_canShow_56 : decode cX0_canShow 56 = .ok (.invokestatic 46, 3) := by decide +kernel
theorem dX0_canShow_59 : decode cX0_canShow 59 = .ok (.iload 6, 2) := by decide +kernel
theorem dX0_canShow_61 : decode cX0_canShow 61 = .ok (.iload 5, 2) := by decide +kernel
theorem dX0_canShow_63 : decode cX0_canShow 63 = .ok (.isub, 1) := by decide +kernel
theorem dX0_canShow_64 : decode cX0_canShow 64 = .ok (.if_icmp .gt 7, 3) := by decide +kernel
theorem dX0_canShow_67 : decode cX0_canShow 67 = .ok (.iconst 1, 1) := by decide +kernel
theorem dX0_canShow_68 : decode cX0_canShow 68 = .ok (.goto 4, 3) := by decide +kernel
theorem dX0_canShow_71 : decode cX0_canShow 71 = .ok (.iconst 0, 1) := by decide +kernel
theorem dX0_canShow_72 : decode cX0_canShow 72 = .ok (.ireturn, 1) := by decide +kernel
set_option maxRecDepth 20000 in
theorem ggX0_partsToWholeMinute_J9_floorMod_7cf53 : GoodIn wsX0_partsToWholeMinute wsJ9_floorMod_7cf53 := goodIn_r _ [6] (by decide +kernel) (by decide +kernel)
set_option maxRecDepth 20000 in
theorem gX0_partsToWholeMinute_J9_floorMod_7cf53 : GoodIn wsX0_partsToWholeMinute (va_wsS RX0 46 yJ9_floorMod_7cf53 wsJ9_floorMod_7cf53) := goodIn_app (goodIn_of _ (by decide +kernel)) ggX0_partsToWholeMinute_J9_floorMod_7cf53
theorem dX0_partsToWholeMinute_0 : decode cX0_partsToWholeMinute 0 = .ok (.iload_n 1, 1) := by decide +kernel
theorem dX0_partsToWholeMinute_1 : decode cX0_partsToWholeMinute 1 = .ok (.aload_n 0, 1) := by decide +kernel
theorem dX0_partsToWholeMinute_2 : decode cX0_partsToWholeMinute 2 = .ok (.getfield 15, 3) := by decide +kernel
theorem dX0_partsToWholeMinute_5 : decode cX0_partsToWholeMinute 5 = .ok (.isub, 1) := by decide +kernel
theorem dX0_partsToWholeMinute_6 : decode cX0_partsToWholeMinute 6 = .ok (.ineg, 1) := by decide +kernel
theorem dX0_partsToWholeMinute_7 : decode cX0_partsToWholeMinute 7 = .ok (.sipush 1440, 3) := by decide +kernel
theorem dX0_partsToWholeMinute_10 : decode cX0_partsToWholeMinute 10 = .ok (.aload_n 0, 1) := by decide +kernel
theorem dX0_partsToWholeMinute_11 : decode cX0_partsToWholeMinute 11 = .ok (.getfield 21, 3) := by decide +kernel
theorem dX0_partsToWholeMinute_14 : decode cX0_partsToWholeMinute 14 = .ok (.iadd, 1) := by decide +kernel
theorem dX0_partsToWholeMinute_15 : decode cX0_partsToWholeMinute 15 = .ok (.imul, 1) := by decide +kernel
theorem dX0_partsToWholeMinute_16 : decode cX0_partsToWholeMinute 16 = .ok (.sipush 1440, 3) := by decide +kernel
theorem dX0_partsToWholeMinute_19 : decode cX0_partsToWholeMinute 19 = .ok (.invokestatic 46, 3) := by decide +kernel
theorem dX0_partsToWholeMinute_22 : decode cX0_partsToWholeMinute 22 = .ok (.ireturn, 1) := by decide +kernel
set_option maxRecDepth 20000 in
theorem ggX1_init_X2_init : GoodIn wsX1_init wsX2_init := goodIn_r _ [14, 15, 2, 3, 16, 17, 18, 19, 20, 33, 34, 35, 36] (by decide +kernel) (by decide +kernel)
set_option maxRecDepth 20000 in
theorem gX1_init_X2_init_n23 : GoodIn wsX1_init (wsX2_init) := ggX1_init_X2_init
set_option maxRecDepth 20000 in
theorem ggX1_init_X0_init : GoodIn wsX1_init wsX0_init := goodIn_r _ [22, 23, 2, 3, 24, 25, 26, 27, 28, 29, 37, 38, 39, 40, 41, 42] (by decide +kernel) (by decide +kernel)
set_option maxRecDepth 20000 in
theorem gX1_init_X0_init_n28 : GoodIn wsX1_init (wsX0_init) := ggX1_init_X0_init
theorem dX1_init_0 : decode cX1_init 0 = .ok (.aload_n 0, 1) := by decide +kernel
theorem dX1_init_1 : decode cX1_init 1 = .ok (.invokespecial 3, 3) := by decide +kernel
theorem dX1_init_4 : decode cX1_init 4 = .ok (.aload_n 0, 1) := by decide +kernel
theorem dX1_init_5 : decode cX1_init 5 = .ok (.iconst 0, 1) := by decide +kernel
theorem dX1_init_6 : decode cX1_init 6 = .ok (.putfield 9, 3) := by decide +kernel
theorem dX1_init_9 : decode cX1_init 9 = .ok (.aload_n 0, 1) := by decide +kernel
theorem dX1_init_10 : decode cX1_init 10 = .ok (.bipush 8, 2) := by decide +kernel
theorem dX1_init_12 : decode cX1_init 12 = .ok (.anewarray 15, 3) := by decide +kernel
theorem dX1_init_15 : decode cX1_init 15 = .ok (.putfield 17, 3) := by decide +kernel
theorem dX1_init_18 : decode cX1_init 18 = .ok (.aload_n 0, 1) := by decide +kernel
theorem dX1_init_19 : decode cX1_init 19 = .ok (.new 21, 3) := by decide +kernel
theorem dX1_init_22 : decode cX1_init 22 = .ok (.dup, 1) := by decide +kernel
theorem dX1_init_23 : decode cX1_init 23 = .ok (.invokespecial 23, 3) := by decide +kernel
theorem dX1_init_26 : decode cX1_init 26 = .ok (.putfield 24, 3) := by decide +kernel
theorem dX1_init_29 : decode cX1_init 29 = .ok (.iconst 0, 1) := by decide +kernel
theorem dX1_init_30 : decode cX1_init 30 = .ok (.istore_n 1, 1) := by decide +kernel
theorem dX1_init_31 : decode cX1_init 31 = .ok (.iload_n 1, 1) := by decide +kernel
theorem dX1_init_32 : decode cX1_init 32 = .ok (.bipush 8, 2) := by decide +kernel
theorem dX1_init_34 : decode cX1_init 34 = .ok (.if_icmp .ge 22, 3) := by decide +kernel
theorem dX1_init_37 : decode cX1_init 37 = .ok (.aload_n 0, 1) := by decide +kernel
theorem dX1_init_38 : decode cX1_init 38 = .ok (.getfield 17, 3) := by decide +kernel
theorem dX1_init_41 : decode cX1_init 41 = .ok (.iload_n 1, 1) := by decide +kernel
theorem dX1_init_42 : decode cX1_init 42 = .ok (.new 15, 3) := by decide +kernel
theorem dX1_init_45 : decode cX1_init 45 = .ok (.dup, 1) := by decide +kernel
theorem dX1_init_46 : decode cX1_init 46 = .ok (.invokespecial 28, 3) := by decide +kernel
theorem dX1_init_49 : decode cX1_init 49 = .ok (.aastore, 1) := by decide +kernel
theorem dX1_init_50 : decode cX1_init 50 = .ok (.iinc 1 1, 3) := by decide +kernel
theorem dX1_init_53 : decode cX1_init 53 = .ok (.goto (-22), 3) := by decide +kernel
theorem dX1_init_56 : decode cX1_init 56 = .ok (.return_, 1) := by decide +kernel
set_option maxRecDepth 20000 in
theorem ggX1_copy_X0_copy : GoodIn wsX1_copy wsX0_copy := goodIn_r _ [7, 8, 9, 10, 11, 12, 13, 14, 15, 16, 6, 17, 34, 35, 36, 37, 38, 39] (by decide +kernel) (by decide +kernel)
set_option maxRecDepth 20000 in
theorem gX1_copy_X0_copy : GoodIn wsX1_copy (wsV RX1 29 RX0 yX0_copy wsX0_copy) := goodIn_app (goodIn_of _ (by decide +kernel)) ggX1_copy_X0_copy
set_option maxRecDepth 20000 in
theorem ggX1_copy_X2_copy : GoodIn wsX1_copy wsX2_copy := goodIn_r _ [22, 23, 24, 25, 26, 27, 28, 29, 21, 30, 40, 41, 42, 43] (by decide +kernel) (by decide +kernel)
set_option maxRecDepth 20000 in
theorem gX1_copy_X2_copy : GoodIn wsX1_copy (wsV RX1 33 RX2 yX2_copy wsX2_copy) := goodIn_app (goodIn_of _ (by decide +kernel)) ggX1_copy_X2_copy
theorem dX1_copy_0 : decode cX1_copy 0 = .ok (.iconst 0, 1) := by decide +kernel
theorem dX1_copy_1 : decode cX1_copy 1 = .ok (.istore_n 2, 1) := by decide +kernel
theorem dX1_copy_2 : decode cX1_copy 2 = .ok (.iload_n 2, 1) := by decide +kernel
theorem dX1_copy_3 : decode cX1_copy 3 = .ok (.bipush 8, 2) := by decide +kernel
theorem dX1_copy_5 : decode cX1_copy 5 = .ok (.if_icmp .ge 24, 3) := by decide +kernel
theorem dX1_copy_8 : decode cX1_copy 8 = .ok (.aload_n 0, 1) := by decide +kernel
theorem dX1_copy_9 : decode cX1_copy 9 = .ok (.getfield 17, 3) := by decide +kernel
theorem dX1_copy_12 : decode cX1_copy 12 = .ok (.iload_n 2, 1) := by decide +kernel
theorem dX1_copy_13 : decode cX1_copy 13 = .ok (.aaload, 1) := by decide +kernel
theorem dX1_copy_14 : decode cX1_copy 14 = .ok (.aload_n 1, 1) := by decide +kernel
theorem dX1_copy_15 : decode cX1_copy 15 = .ok (.getfield 17, 3) := by decide +kernel
theorem dX1_copy_18 : decode cX1_copy 18 = .ok (.iload_n 2, 1) := by decide +kernel
theorem dX1_copy_19 : decode cX1_copy 19 = .ok (.aaload, 1) := by decide +kernel
theorem dX1_copy_20 : decode cX1_copy 20 = .ok (.invokevirtual 29, 3) := by decide +kernel
theorem dX1_copy_23 : decode cX1_copy 23 = .ok (.iinc 2 1, 3) := by decide +kernel
theorem dX1_copy_26 : decode cX1_copy 26 = .ok (.goto (-24), 3) := by decide +kernel
theorem dX1_copy_29 : decode cX1_copy 29 = .ok (.aload_n 0, 1) := by decide +kernel
theorem dX1_copy_30 : decode cX1_copy 30 = .ok (.getfield 24, 3) := by decide +kernel
theorem dX1_copy_33 : decode cX1_copy 33 = .ok (.aload_n 1, 1) := by decide +kernel
theorem dX1_copy_34 : decode cX1_copy 34 = .ok (.getfield 24, 3) := by decide +kernel
theorem dX1_copy_37 : decode cX1_copy 37 = .ok (.invokevirtual 33, 3) := by decide +kernel
theorem dX1_copy_40 : decode cX1_copy 40 = .ok (.return_, 1) := by decide +kernel
set_option maxRecDepth 20000 in
theorem ggX1_toldClock_X6_isBelow : GoodIn wsX1_toldClock wsX6_isBelow := goodIn_r _ [5] (by decide +kernel) (by decide +kernel)
set_option maxRecDepth 20000 in
theorem gX1_toldClock_X6_isBelow_n36 : GoodIn wsX1_toldClock (wsX6_isBelow) := ggX1_toldClock_X6_isBelow
theorem dX1_toldClock_0 : decode cX1_toldClock 0 = .ok (.iload_n 1, 1) := by decide +kernel
theorem dX1_toldClock_1 : decode cX1_toldClock 1 = .ok (.bipush 8, 2) := by decide +kernel
theorem dX1_toldClock_3 : decode cX1_toldClock 3 = .ok (.invokestatic 36, 3) := by decide +kernel
theorem dX1_toldClock_6 : decode cX1_toldClock 6 = .ok (.ifCond .eq 16, 3) := by decide +kernel
theorem dX1_toldClock_9 : decode cX1_toldClock 9 = .ok (.aload_n 0, 1) := by decide +kernel
theorem dX1_toldClock_10 : decode cX1_toldClock 10 = .ok (.getfield 17, 3) := by decide +kernel
theorem dX1_toldClock_13 : decode cX1_toldClock 13 = .ok (.iload_n 1, 1) := by decide +kernel
theorem dX1_toldClock_14 : decode cX1_toldClock 14 = .ok (.aaload, 1) := by decide +kernel
theorem dX1_toldClock_15 : decode cX1_toldClock 15 = .ok (.getfield 40, 3) := by decide +kernel
theorem dX1_toldClock_18 : decode cX1_toldClock 18 = .ok (.iconst (-1), 1) := by decide +kernel
theorem dX1_toldClock_19 : decode cX1_toldClock 19 = .ok (.if_icmp .ne 5, 3) := by decide +kernel
theorem dX1_toldClock_22 : decode cX1_toldClock 22 = .ok (.aconst_null, 1) := by decide +kernel
theorem dX1_toldClock_23 : decode cX1_toldClock 23 = .ok (.areturn, 1) := by decide +kernel
theorem dX1_toldClock_24 : decode cX1_toldClock 24 = .ok (.aload_n 0, 1) := by decide +kernel
theorem dX1_toldClock_25 : decode cX1_toldClock 25 = .ok (.getfield 17, 3) := by decide +kernel
theorem dX1_toldClock_28 : decode cX1_toldClock 28 = .ok (.iload_n 1, 1) := by decide +kernel
theorem dX1_toldClock_29 : decode cX1_toldClock 29 = .ok (.aaload, 1) := by decide +kernel
theorem dX1_toldClock_30 : decode cX1_toldClock 30 = .ok (.areturn, 1) := by decide +kernel
theorem dX1_toldBits_0 : decode cX1_toldBits 0 = .ok (.iconst 0, 1) := by decide +kernel
theorem dX1_toldBits_1 : decode cX1_toldBits 1 = .ok (.istore_n 1, 1) := by decide +kernel
theorem dX1_toldBits_2 : decode cX1_toldBits 2 = .ok (.iconst 0, 1) := by decide +kernel
theorem dX1_toldBits_3 : decode cX1_toldBits 3 = .ok (.istore_n 2, 1) := by decide +kernel
theorem dX1_toldBits_4 : decode cX1_toldBits 4 = .ok (.iload_n 2, 1) := by decide +kernel
theorem dX1_toldBits_5 : decode cX1_toldBits 5 = .ok (.bipush 8, 2) := by decide +kernel
theorem dX1_toldBits_7 : decode cX1_toldBits 7 = .ok (.if_icmp .ge 32, 3) := by decide +kernel
theorem dX1_toldBits_10 : decode cX1_toldBits 10 = .ok (.iload_n 1, 1) := by decide +kernel
theorem dX1_toldBits_11 : decode cX1_toldBits 11 = .ok (.aload_n 0, 1) := by decide +kernel
theorem dX1_toldBits_12 : decode cX1_toldBits 12 = .ok (.getfield 17, 3) := by decide +kernel
theorem dX1_toldBits_15 : decode cX1_toldBits 15 = .ok (.iload_n 2, 1) := by decide +kernel
theorem dX1_toldBits_16 : decode cX1_toldBits 16 = .ok (.aaload, 1) := by decide +kernel
theorem dX1_toldBits_17 : decode cX1_toldBits 17 = .ok (.getfield 40, 3) := by decide +kernel
theorem dX1_toldBits_20 : decode cX1_toldBits 20 = .ok (.iconst (-1), 1) := by decide +kernel
theorem dX1_toldBits_21 : decode cX1_toldBits 21 = .ok (.if_icmp .ne 7, 3) := by decide +kernel
theorem dX1_toldBits_24 : decode cX1_toldBits 24 = .ok (.iconst 0, 1) := by decide +kernel
theorem dX1_toldBits_25 : decode cX1_toldBits 25 = .ok (.goto 6, 3) := by decide +kernel
theorem dX1_toldBits_28 : decode cX1_toldBits 28 = .ok (.iconst 1, 1) := by decide +kernel
theorem dX1_toldBits_29 : decode cX1_toldBits 29 = .ok (.iload_n 2, 1) := by decide +kernel
theorem dX1_toldBits_30 : decode cX1_toldBits 30 = .ok (.ishl, 1) := by decide +kernel
theorem dX1_toldBits_31 : decode cX1_toldBits 31 = .ok (.ior, 1) := by decide +kernel
theorem dX1_toldBits_32 : decode cX1_toldBits 32 = .ok (.istore_n 1, 1) := by decide +kernel
theorem dX1_toldBits_33 : decode cX1_toldBits 33 = .ok (.iinc 2 1, 3) := by decide +kernel
theorem dX1_toldBits_36 : decode cX1_toldBits 36 = .ok (.goto (-32), 3) := by decide +kernel
theorem dX1_toldBits_39 : decode cX1_toldBits 39 = .ok (.iload_n 1, 1) := by decide +kernel
theorem dX1_toldBits_40 : decode cX1_toldBits 40 = .ok (.ireturn, 1) := by decide +kernel
theorem dX1_readBits_0 : decode cX1_readBits 0 = .ok (.iconst 0, 1) := by decide +kernel
theorem dX1_readBits_1 : decode cX1_readBits 1 = .ok (.istore_n 1, 1) := by decide +kernel
theorem dX1_readBits_2 : decode cX1_readBits 2 = .ok (.iconst 0, 1) := by decide +kernel
theorem dX1_readBits_3 : decode cX1_readBits 3 = .ok (.istore_n 2, 1) := by decide +kernel
theorem dX1_readBits_4 : decode cX1_readBits 4 = .ok (.iload_n 2, 1) := by decide +kernel
theorem dX1_readBits_5 : decode cX1_readBits 5 = .ok (.bipush 8, 2) := by decide +kernel
theorem dX1_readBits_7 : decode cX1_readBits 7 = .ok (.if_icmp .ge 32, 3) := by decide +kernel
theorem dX1_readBits_10 : decode cX1_readBits 10 = .ok (.iload_n 1, 1) := by decide +kernel
theorem dX1_readBits_11 : decode cX1_readBits 11 = .ok (.aload_n 0, 1) := by decide +kernel
theorem dX1_readBits_12 : decode cX1_readBits 12 = .ok (.getfield 17, 3) := by decide +kernel
theorem dX1_readBits_15 : decode cX1_readBits 15 = .ok (.iload_n 2, 1) := by decide +kernel
theorem dX1_readBits_16 : decode cX1_readBits 16 = .ok (.aaload, 1) := by decide +kernel
theorem dX1_readBits_17 : decode cX1_readBits 17 = .ok (.getfield 44, 3) := by decide +kernel
theorem dX1_readBits_20 : decode cX1_readBits 20 = .ok (.iconst (-1), 1) := by decide +kernel
theorem dX1_readBits_21 : decode cX1_readBits 21 = .ok (.if_icmp .ne 7, 3) := by decide +kernel
theorem dX1_readBits_24 : decode cX1_readBits 24 = .ok (.iconst 0, 1) := by decide +kernel
theorem dX1_readBits_25 : decode cX1_readBits 25 = .ok (.goto 6, 3) := by decide +kernel
theorem dX1_readBits_28 : decode cX1_readBits 28 = .ok (.iconst 1, 1) := by decide +kernel
theorem dX1_readBits_29 : decode cX1_readBits 29 = .ok (.iload_n 2, 1) := by decide +kernel
theorem dX1_readBits_30 : decode cX1_readBits 30 = .ok (.ishl, 1) := by decide +kernel
theorem dX1_readBits_31 : decode cX1_readBits 31 = .ok (.ior, 1) := by decide +kernel
theorem dX1_readBits_32 : decode cX1_readBits 32 = .ok (.istore_n 1, 1) := by decide +kernel
theorem dX1_readBits_33 : decode cX1_readBits 33 = .ok (.iinc 2 1, 3) := by decide +kernel
theorem dX1_readBits_36 : decode cX1_readBits 36 = .ok (.goto (-32), 3) := by decide +kernel
theorem dX1_readBits_39 : decode cX1_readBits 39 = .ok (.iload_n 1, 1) := by decide +kernel
theorem dX1_readBits_40 : decode cX1_readBits 40 = .ok (.ireturn, 1) := by decide +kernel
set_option maxRecDepth 20000 in
theorem ggX1_misfitsAt_X0_canShow : GoodIn wsX1_misfitsAt wsX0_canShow := goodIn_r _ [7, 8, 9, 10, 11, 12, 13, 14, 15, 16, 17, 18, 19, 6, 20, 21, 22, 23, 24, 25, 26, 27, 28, 29, 30, 31, 32, 33, 34, 38, 39, 40, 41, 42, 43] (by decide +kernel) (by decide +kernel)
set_option maxRecDepth 20000 in
theorem gX1_misfitsAt_X0_canShow : GoodIn wsX1_misfitsAt (wsV RX1 47 RX0 yX0_canShow wsX0_canShow) := goodIn_app (goodIn_of _ (by decide +kernel)) ggX1_misfitsAt_X0_canShow
theorem dX1_misfitsAt_0 : decode cX1_misfitsAt 0 = .ok (.iconst 0, 1) := by decide +kernel
theorem dX1_misfitsAt_1 : decode cX1_misfitsAt 1 = .ok (.istore_n 2, 1) := by decide +kernel
theorem dX1_misfitsAt_2 : decode cX1_misfitsAt 2 = .ok (.iconst 0, 1) := by decide +kernel
theorem dX1_misfitsAt_3 : decode cX1_misfitsAt 3 = .ok (.istore_n 3, 1) := by decide +kernel
theorem dX1_misfitsAt_4 : decode cX1_misfitsAt 4 = .ok (.iload_n 3, 1) := by decide +kernel
theorem dX1_misfitsAt_5 : decode cX1_misfitsAt 5 = .ok (.bipush 8, 2) := by decide +kernel
theorem dX1_misfitsAt_7 : decode cX1_misfitsAt 7 = .ok (.if_icmp .ge 47, 3) := by decide +kernel
theorem dX1_misfitsAt_10 : decode cX1_misfitsAt 10 = .ok (.aload_n 0, 1) := by decide +kernel
theorem dX1_misfitsAt_11 : decode cX1_misfitsAt 11 = .ok (.getfield 17, 3) := by decide +kernel
theorem dX1_misfitsAt_14 : decode cX1_misfitsAt 14 = .ok (.iload_n 3, 1) := by decide +kernel
theorem dX1_misfitsAt_15 : decode cX1_misfitsAt 15 = .ok (.aaload, 1) := by decide +kernel
theorem dX1_misfitsAt_16 : decode cX1_misfitsAt 16 = .ok (.getfield 44, 3) := by decide +kernel
theorem dX1_misfitsAt_19 : decode cX1_misfitsAt 19 = .ok (.istore 4, 2) := by decide +kernel
theorem dX1_misfitsAt_21 : decode cX1_misfitsAt 21 = .ok (.iload 4, 2) := by decide +kernel
theorem dX1_misfitsAt_23 : decode cX1_misfitsAt 23 = .ok (.iconst (-1), 1) := by decide +kernel
theorem dX1_misfitsAt_24 : decode cX1_misfitsAt 24 = .ok (.if_icmp .eq 24, 3) := by decide +kernel
theorem dX1_misfitsAt_27 : decode cX1_misfitsAt 27 = .ok (.aload_n 0, 1) := by decide +kernel
theorem dX1_misfitsAt_28 : decode cX1_misfitsAt 28 = .ok (.getfield 17, 3) := by decide +kernel
theorem dX1_misfitsAt_31 : decode cX1_misfitsAt 31 = .ok (.iload_n 3, 1) := by decide +kernel
theorem dX1_misfitsAt_32 : decode cX1_misfitsAt 32 = .ok (.aaload, 1) := by decide +kernel
theorem dX1_misfitsAt_33 : decode cX1_misfitsAt 33 = .ok (.iload_n 1, 1) := by decide +kernel
theorem dX1_misfitsAt_34 : decode cX1_misfitsAt 34 = .ok (.iload 4, 2) := by decide +kernel
theorem dX1_misfitsAt_36 : decode cX1_misfitsAt 36 = .ok (.invokevirtual 47, 3) := by decide +kernel
theorem dX1_misfitsAt_39 : decode cX1_misfitsAt 39 = .ok (.ifCond .ne 9, 3) := by decide +kernel
theorem dX1_misfitsAt_42 : decode cX1_misfitsAt 42 = .ok (.iload_n 2, 1) := by decide +kernel
theorem dX1_misfitsAt_43 : decode cX1_misfitsAt 43 = .ok (.iconst 1, 1) := by decide +kernel
theorem dX1_misfitsAt_44 : decode cX1_misfitsAt 44 = .ok (.iload_n 3, 1) := by decide +kernel
theorem dX1_misfitsAt_45 : decode cX1_misfitsAt 45 = .ok (.ishl, 1) := by decide +kernel
theorem dX1_misfitsAt_46 : decode cX1_misfitsAt 46 = .ok (.ior, 1) := by decide +kernel
theorem dX1_misfitsAt_47 : decode cX1_misfitsAt 47 = .ok (.istore_n 2, 1) := by decide +kernel
theorem dX1_misfitsAt_48 : decode cX1_misfitsAt 48 = .ok (.iinc 3 1, 3) := by decide +kernel
theorem dX1_misfitsAt_51 : decode cX1_misfitsAt 51 = .ok (.goto (-47), 3) := by decide +kernel
theorem dX1_misfitsAt_54 : decode cX1_misfitsAt 54 = .ok (.iload_n 2, 1) := by decide +kernel
theorem dX1_misfitsAt_55 : decode cX1_misfitsAt 55 = .ok (.ireturn, 1) := by decide +kernel
set_option maxRecDepth 20000 in
theorem ggX1_heed_X5_number : GoodIn wsX1_heed wsX5_number := goodIn_r _ [7, 8, 9, 10, 11, 37, 38, 39, 40, 41, 42] (by decide +kernel) (by decide +kernel)
set_option maxRecDepth 20000 in
theorem gX1_heed_X5_number : GoodIn wsX1_heed (wsV RX1 50 RX5 yX5_number wsX5_number) := goodIn_app (goodIn_of _ (by decide +kernel)) ggX1_heed_X5_number
set_option maxRecDepth 20000 in
theorem ggX1_heed_X1_readNone : GoodIn wsX1_heed wsX1_readNone := goodIn_r _ [16, 1, 2, 28, 29, 30, 31, 32, 33, 34, 35, 36] (by decide +kernel) (by decide +kernel)
set_option maxRecDepth 20000 in
theorem gX1_heed_X1_readNone : GoodIn wsX1_heed (wsV RX1 56 RX1 yX1_readNone wsX1_readNone) := goodIn_app (goodIn_of _ (by decide +kernel)) ggX1_heed_X1_readNone
set_option maxRecDepth 20000 in
theorem ggX1_heed_X6_isBelow : GoodIn wsX1_heed wsX6_isBelow := goodIn_r _ [11] (by decide +kernel) (by decide +kernel)
set_option maxRecDepth 20000 in
theorem gX1_heed_X6_isBelow_n36 : GoodIn wsX1_heed (wsX6_isBelow) := ggX1_heed_X6_isBelow
set_option maxRecDepth 20000 in
theorem ggX1_heed_X0_tell : GoodIn wsX1_heed wsX0_tell := goodIn_r _ [21, 22, 23, 24, 25, 26, 27, 31, 32, 33, 34, 35, 36] (by decide +kernel) (by decide +kernel)
set_option maxRecDepth 20000 in
theorem gX1_heed_X0_tell : GoodIn wsX1_heed (wsV RX1 59 RX0 yX0_tell wsX0_tell) := goodIn_app (goodIn_of _ (by decide +kernel)) ggX1_heed_X0_tell
theorem dX1_heed_0 : decode cX1_heed 0 = .ok (.aload_n 1, 1) := by decide +kernel
theorem dX1_heed_1 : decode cX1_heed 1 = .ok (.iload_n 2, 1) := by decide +kernel
theorem dX1_heed_2 : decode cX1_heed 2 = .ok (.iconst 0, 1) := by decide +kernel
theorem dX1_heed_3 : decode cX1_heed 3 = .ok (.invokevirtual 50, 3) := by decide +kernel
theorem dX1_heed_6 : decode cX1_heed 6 = .ok (.istore_n 3, 1) := by decide +kernel
theorem dX1_heed_7 : decode cX1_heed 7 = .ok (.iload_n 3, 1) := by decide +kernel
theorem dX1_heed_8 : decode cX1_heed 8 = .ok (.iconst 5, 1) := by decide +kernel
theorem dX1_heed_9 : decode cX1_heed 9 = .ok (.if_icmp .ne 8, 3) := by decide +kernel
theorem dX1_heed_12 : decode cX1_heed 12 = .ok (.aload_n 0, 1) := by decide +kernel
theorem dX1_heed_13 : decode cX1_heed 13 = .ok (.invokevirtual 56, 3) := by decide +kernel
theorem dX1_heed_16 : decode cX1_heed 16 = .ok (.return_, 1) := by decide +kernel
theorem dX1_heed_17 : decode cX1_heed 17 = .ok (.aload_n 1, 1) := by decide +kernel
theorem dX1_heed_18 : decode cX1_heed 18 = .ok (.iload_n 2, 1) := by decide +kernel
theorem dX1_heed_19 : decode cX1_heed 19 = .ok (.iconst 1, 1) := by decide +kernel
theorem dX1_heed_20 : decode cX1_heed 20 = .ok (.invokevirtual 50, 3) := by decide +kernel
theorem dX1_heed_23 : decode cX1_heed 23 = .ok (.istore 4, 2) := by decide +kernel
theorem dX1_heed_25 : decode cX1_heed 25 = .ok (.iload 4, 2) := by decide +kernel
theorem dX1_heed_27 : decode cX1_heed 27 = .ok (.bipush 8, 2) := by decide +kernel
theorem dX1_heed_29 : decode cX1_heed 29 = .ok (.invokestatic 36, 3) := by decide +kernel
theorem dX1_heed_32 : decode cX1_heed 32 = .ok (.ifCond .ne 4, 3) := by decide +kernel
theorem dX1_heed_35 : decode cX1_heed 35 = .ok (.return_, 1) := by decide +kernel
theorem dX1_heed_36 : decode cX1_heed 36 = .ok (.aload_n 0, 1) := by decide +kernel
theorem dX1_heed_37 : decode cX1_heed 37 = .ok (.getfield 17, 3) := by decide +kernel
theorem dX1_heed_40 : decode cX1_heed 40 = .ok (.iload 4, 2) := by decide +kernel
theorem dX1_heed_42 : decode cX1_heed 42 = .ok (.aaload, 1) := by decide +kernel
theorem dX1_heed_43 : decode cX1_heed 43 = .ok (.astore 5, 2) := by decide +kernel
theorem dX1_heed_45 : decode cX1_heed 45 = .ok (.iload_n 3, 1) := by decide +kernel
theorem dX1_heed_46 : decode cX1_heed 46 = .ok (.iconst 4, 1) := by decide +kernel
theorem dX1_heed_47 : decode cX1_heed 47 = .ok (.if_icmp .ne 17, 3) := by decide +kernel
theorem dX1_heed_50 : decode cX1_heed 50 = .ok (.aload 5, 2) := by decide +kernel
theorem dX1_heed_52 : decode cX1_heed 52 = .ok (.aload_n 1, 1) := by decide +kernel
theorem dX1_heed_53 : decode cX1_heed 53 = .ok (.iload_n 2, 1) := by decide +kernel
theorem dX1_heed_54 : decode cX1_heed 54 = .ok (.iconst 2, 1) := by decide +kernel
theorem dX1_heed_55 : decode cX1_heed 55 = .ok (.invokevirtual 50, 3) := by decide +kernel
theorem dX1_heed_58 : decode cX1_heed 58 = .ok (.putfield 44, 3) := by decide +kernel
theorem dX1_heed_61 : decode cX1_heed 61 = .ok (.goto 88, 3) := by decide +kernel
theorem dX1_heed_64 : decode cX1_heed 64 = .ok (.iload_n 3, 1) := by decide +kernel
theorem dX1_heed_65 : decode cX1_heed 65 = .ok (.iconst 3, 1) := by decide +kernel
theorem dX1_heed_66 : decode cX1_heed 66 = .ok (.if_icmp .ne 16, 3) := by decide +kernel
theorem dX1_heed_69 : decode cX1_heed 69 = .ok (.aload 5, 2) := by decide +kernel
theorem dX1_heed_71 : decode cX1_heed 71 = .ok (.iconst (-1), 1) := by decide +kernel
theorem dX1_heed_72 : decode cX1_heed 72 = .ok (.iconst 0, 1) := by decide +kernel
theorem dX1_heed_73 : decode cX1_heed 73 = .ok (.iconst 0, 1) := by decide +kernel
theorem dX1_heed_74 : decode cX1_heed 74 = .ok (.iconst 0, 1) := by decide +kernel
theorem dX1_heed_75 : decode cX1_heed 75 = .ok (.iconst 0, 1) := by decide +kernel
theorem dX1_heed_76 : decode cX1_heed 76 = .ok (.invokevirtual 59, 3) := by decide +kernel
theorem dX1_heed_79 : decode cX1_heed 79 = .ok (.goto 70, 3) := by decide +kernel
theorem dX1_heed_82 : decode cX1_heed 82 = .ok (.iload_n 3, 1) := by decide +kernel
theorem dX1_heed_83 : decode cX1_heed 83 = .ok (.iconst 2, 1) := by decide +kernel
theorem dX1_heed_84 : decode cX1_heed 84 = .ok (.if_icmp .ne 21, 3) := by decide +kernel
theorem dX1_heed_87 : decode cX1_heed 87 = .ok (.aload 5, 2) := by decide +kernel
theorem dX1_heed_89 : decode cX1_heed 89 = .ok (.iconst 2, 1) := by decide +kernel
theorem dX1_heed_90 : decode cX1_heed 90 = .ok (.iconst 0, 1) := by decide +kernel
theorem dX1_heed_91 : decode cX1_heed 91 = .ok (.aload_n 1, 1) := by decide +kernel
theorem dX1_heed_92 : decode cX1_heed 92 = .ok (.iload_n 2, 1) := by decide +kernel
theorem dX1_heed_93 : decode cX1_heed 93 = .ok (.iconst 2, 1) := by decide +kernel
theorem dX1_heed_94 : decode cX1_heed 94 = .ok (.invokevirtual 50, 3) := by decide +kernel
theorem dX1_heed_97 : decode cX1_heed 97 = .ok (.iconst 0, 1) := by decide +kernel
theorem dX1_heed_98 : decode cX1_heed 98 = .ok (.iconst 0, 1) := by decide +kernel
theorem dX1_heed_99 : decode cX1_heed 99 = .ok (.invokevirtual 59, 3) := by decide +kernel
theorem dX1_heed_102 : decode cX1_heed 102 = .ok (.goto 47, 3) := by decide +kernel
theorem dX1_heed_105 : decode cX1_heed 105 = .ok (.aload_n 1, 1) := by decide +kernel
theorem dX1_heed_106 : decode cX1_heed 106 = .ok (.iload_n 2, 1) := by decide +kernel
theorem dX1_heed_107 : decode cX1_heed 107 = .ok (.iconst 4, 1) := by decide +kernel
theorem dX1_heed_108 : decode cX1_heed 108 = .ok (.invokevirtual 50, 3) := by decide +kernel
theorem dX1_heed_111 : decode cX1_heed 111 = .ok (.bipush 120, 2) := by decide +kernel
theorem dX1_heed_113 : decode cX1_heed 113 = .ok (.isub, 1) := by decide +kernel
theorem dX1_heed_114 : decode cX1_heed 114 = .ok (.istore 6, 2) := by decide +kernel
theorem dX1_heed_116 : decode cX1_heed 116 = .ok (.aload_n 1, 1) := by decide +kernel
theorem dX1_heed_117 : decode cX1_heed 117 = .ok (.iload_n 2, 1) := by decide +kernel
theorem dX1_heed_118 : decode cX1_heed 118 = .ok (.iconst 5, 1) := by decide +kernel
theorem dX1_heed_119 : decode cX1_heed 119 = .ok (.invokevirtual 50, 3) := by decide +kernel
theorem dX1_heed_122 : decode cX1_heed 122 = .ok (.bipush 120, 2) := by decide +kernel
theorem dX1_heed_124 : decode cX1_heed 124 = .ok (.isub, 1) := by decide +kernel
theorem dX1_heed_125 : decode cX1_heed 125 = .ok (.istore 7, 2) := by decide +kernel
theorem dX1_heed_127 : decode cX1_heed 127 = .ok (.aload 5, 2) := by decide +kernel
theorem dX1_heed_129 : decode cX1_heed 129 = .ok (.iload_n 3, 1) := by decide +kernel
theorem dX1_heed_130 : decode cX1_heed 130 = .ok (.aload_n 1, 1) := by decide +kernel
theorem dX1_heed_131 : decode cX1_heed 131 = .ok (.iload_n 2, 1) := by decide +kernel
theorem dX1_heed_132 : decode cX1_heed 132 = .ok (.iconst 2, 1) := by decide +kernel
theorem dX1_heed_133 : decode cX1_heed 133 = .ok (.invokevirtual 50, 3) := by decide +kernel
theorem dX1_heed_136 : decode cX1_heed 136 = .ok (.aload_n 1, 1) := by decide +kernel
theorem dX1_heed_137 : decode cX1_heed 137 = .ok (.iload_n 2, 1) := by decide +kernel
theorem dX1_heed_138 : decode cX1_heed 138 = .ok (.iconst 3, 1) := by decide +kernel
theorem dX1_heed_139 : decode cX1_heed 139 = .ok (.invokevirtual 50, 3) := by decide +kernel
theorem dX1_heed_142 : decode cX1_heed 142 = .ok (.iload 6, 2) := by decide +kernel
theorem dX1_heed_144 : decode cX1_heed 144 = .ok (.iload 7, 2) := by decide +kernel
theorem dX1_heed_146 : decode cX1_heed 146 = .ok (.invokevirtual 59, 3) := by decide +kernel
theorem dX1_heed_149 : decode cX1_heed 149 = .ok (.return_, 1) := by decide +kernel
theorem dX1_readNone_0 : decode cX1_readNone 0 = .ok (.iconst 0, 1) := by decide +kernel
theorem dX1_readNone_1 : decode cX1_readNone 1 = .ok (.istore_n 1, 1) := by decide +kernel
theorem dX1_readNone_2 : decode cX1_readNone 2 = .ok (.iload_n 1, 1) := by decide +kernel
theorem dX1_readNone_3 : decode cX1_readNone 3 = .ok (.bipush 8, 2) := by decide +kernel
theorem dX1_readNone_5 : decode cX1_readNone 5 = .ok (.if_icmp .ge 19, 3) := by decide +kernel
theorem dX1_readNone_8 : decode cX1_readNone 8 = .ok (.aload_n 0, 1) := by decide +kernel
theorem dX1_readNone_9 : decode cX1_readNone 9 = .ok (.getfield 17, 3) := by decide +kernel
theorem dX1_readNone_12 : decode cX1_readNone 12 = .ok (.iload_n 1, 1) := by decide +kernel
theorem dX1_readNone_13 : decode cX1_readNone 13 = .ok (.aaload, 1) := by decide +kernel
theorem dX1_readNone_14 : decode cX1_readNone 14 = .ok (.iconst (-1), 1) := by decide +kernel
theorem dX1_readNone_15 : decode cX1_readNone 15 = .ok (.putfield 44, 3) := by decide +kernel
theorem dX1_readNone_18 : decode cX1_readNone 18 = .ok (.iinc 1 1, 3) := by decide +kernel
theorem dX1_readNone_21 : decode cX1_readNone 21 = .ok (.goto (-19), 3) := by decide +kernel
theorem dX1_readNone_24 : decode cX1_readNone 24 = .ok (.return_, 1) := by decide +kernel
theorem dX2_init_0 : decode cX2_init 0 = .ok (.aload_n 0, 1) := by decide +kernel
theorem dX2_init_1 : decode cX2_init 1 = .ok (.invokespecial 3, 3) := by decide +kernel
theorem dX2_init_4 : decode cX2_init 4 = .ok (.aload_n 0, 1) := by decide +kernel
theorem dX2_init_5 : decode cX2_init 5 = .ok (.iconst 0, 1) := by decide +kernel
theorem dX2_init_6 : decode cX2_init 6 = .ok (.putfield 9, 3) := by decide +kernel
theorem dX2_init_9 : decode cX2_init 9 = .ok (.aload_n 0, 1) := by decide +kernel
theorem dX2_init_10 : decode cX2_init 10 = .ok (.bipush 12, 2) := by decide +kernel
theorem dX2_init_12 : decode cX2_init 12 = .ok (.newarray .int, 2) := by decide +kernel
theorem dX2_init_14 : decode cX2_init 14 = .ok (.putfield 15, 3) := by decide +kernel
theorem dX2_init_17 : decode cX2_init 17 = .ok (.aload_n 0, 1) := by decide +kernel
theorem dX2_init_18 : decode cX2_init 18 = .ok (.bipush 12, 2) := by decide +kernel
theorem dX2_init_20 : decode cX2_init 20 = .ok (.newarray .int, 2) := by decide +kernel
theorem dX2_init_22 : decode cX2_init 22 = .ok (.putfield 19, 3) := by decide +kernel
theorem dX2_init_25 : decode cX2_init 25 = .ok (.aload_n 0, 1) := by decide +kernel
theorem dX2_init_26 : decode cX2_init 26 = .ok (.bipush 12, 2) := by decide +kernel
theorem dX2_init_28 : decode cX2_init 28 = .ok (.newarray .int, 2) := by decide +kernel
theorem dX2_init_30 : decode cX2_init 30 = .ok (.putfield 22, 3) := by decide +kernel
theorem dX2_init_33 : decode cX2_init 33 = .ok (.return_, 1) := by decide +kernel
theorem dX2_add_0 : decode cX2_add 0 = .ok (.aload_n 0, 1) := by decide +kernel
theorem dX2_add_1 : decode cX2_add 1 = .ok (.getfield 9, 3) := by decide +kernel
theorem dX2_add_4 : decode cX2_add 4 = .ok (.bipush 12, 2) := by decide +kernel
theorem dX2_add_6 : decode cX2_add 6 = .ok (.if_icmp .lt 5, 3) := by decide +kernel
theorem dX2_add_9 : decode cX2_add 9 = .ok (.iconst 0, 1) := by decide +kernel
theorem dX2_add_10 : decode cX2_add 10 = .ok (.ireturn, 1) := by decide +kernel
theorem dX2_add_11 : decode cX2_add 11 = .ok (.aload_n 0, 1) := by decide +kernel
theorem dX2_add_12 : decode cX2_add 12 = .ok (.getfield 15, 3) := by decide +kernel
theorem dX2_add_15 : decode cX2_add 15 = .ok (.aload_n 0, 1) := by decide +kernel
theorem dX2_add_16 : decode cX2_add 16 = .ok (.getfield 9, 3) := by decide +kernel
theorem dX2_add_19 : decode cX2_add 19 = .ok (.iload_n 1, 1) := by decide +kernel
theorem dX2_add_20 : decode cX2_add 20 = .ok (.iastore, 1) := by decide +kernel
theorem dX2_add_21 : decode cX2_add 21 = .ok (.aload_n 0, 1) := by decide +kernel
theorem dX2_add_22 : decode cX2_add 22 = .ok (.getfield 19, 3) := by decide +kernel
theorem dX2_add_25 : decode cX2_add 25 = .ok (.aload_n 0, 1) := by decide +kernel
theorem dX2_add_26 : decode cX2_add 26 = .ok (.getfield 9, 3) := by decide +kernel
theorem dX2_add_29 : decode cX2_add 29 = .ok (.iload_n 2, 1) := by decide +kernel
theorem dX2_add_30 : decode cX2_add 30 = .ok (.iastore, 1) := by decide +kernel
theorem dX2_add_31 : decode cX2_add 31 = .ok (.aload_n 0, 1) := by decide +kernel
theorem dX2_add_32 : decode cX2_add 32 = .ok (.getfield 22, 3) := by decide +kernel
theorem dX2_add_35 : decode cX2_add 35 = .ok (.aload_n 0, 1) := by decide +kernel
theorem dX2_add_36 : decode cX2_add 36 = .ok (.getfield 9, 3) := by decide +kernel
theorem dX2_add_39 : decode cX2_add 39 = .ok (.iload_n 3, 1) := by decide +kernel
theorem dX2_add_40 : decode cX2_add 40 = .ok (.iastore, 1) := by decide +kernel
theorem dX2_add_41 : decode cX2_add 41 = .ok (.aload_n 0, 1) := by decide +kernel
theorem dX2_add_42 : decode cX2_add 42 = .ok (.dup, 1) := by decide +kernel
theorem dX2_add_43 : decode cX2_add 43 = .ok (.getfield 9, 3) := by decide +kernel
theorem dX2_add_46 : decode cX2_add 46 = .ok (.iconst 1, 1) := by decide +kernel
theorem dX2_add_47 : decode cX2_add 47 = .ok (.iadd, 1) := by decide +kernel
theorem dX2_add_48 : decode cX2_add 48 = .ok (.putfield 9, 3) := by decide +kernel
theorem dX2_add_51 : decode cX2_add 51 = .ok (.iconst 1, 1) := by decide +kernel
theorem dX2_add_52 : decode cX2_add 52 = .ok (.ireturn, 1) := by decide +kernel
set_option maxRecDepth 20000 in
theorem ggX2_copy_X2_add : GoodIn wsX2_copy wsX2_add := goodIn_r _ [9, 1, 2, 3, 4, 10, 11, 12, 13] (by decide +kernel) (by decide +kernel)
set_option maxRecDepth 20000 in
theorem gX2_copy_X2_add : GoodIn wsX2_copy (wsV RX2 25 RX2 yX2_add wsX2_add) := goodIn_app (goodIn_of _ (by decide +kernel)) ggX2_copy_X2_add
theorem dX2_copy_0 : decode cX2_copy 0 = .ok (.aload_n 0, 1) := by decide +kernel
theorem dX2_copy_1 : decode cX2_copy 1 = .ok (.iconst 0, 1) := by decide +kernel
theorem dX2_copy_2 : decode cX2_copy 2 = .ok (.putfield 9, 3) := by decide +kernel
theorem dX2_copy_5 : decode cX2_copy 5 = .ok (.iconst 0, 1) := by decide +kernel
theorem dX2_copy_6 : decode cX2_copy 6 = .ok (.istore_n 2, 1) := by decide +kernel
theorem dX2_copy_7 : decode cX2_copy 7 = .ok (.iload_n 2, 1) := by decide +kernel
theorem dX2_copy_8 : decode cX2_copy 8 = .ok (.aload_n 1, 1) := by decide +kernel
theorem dX2_copy_9 : decode cX2_copy 9 = .ok (.getfield 9, 3) := by decide +kernel
theorem dX2_copy_12 : decode cX2_copy 12 = .ok (.if_icmp .ge 38, 3) := by decide +kernel
theorem dX2_copy_15 : decode cX2_copy 15 = .ok (.iload_n 2, 1) := by decide +kernel
theorem dX2_copy_16 : decode cX2_copy 16 = .ok (.bipush 12, 2) := by decide +kernel
theorem dX2_copy_18 : decode cX2_copy 18 = .ok (.if_icmp .ge 32, 3) := by decide +kernel
theorem dX2_copy_21 : decode cX2_copy 21 = .ok (.aload_n 0, 1) := by decide +kernel
theorem dX2_copy_22 : decode cX2_copy 22 = .ok (.aload_n 1, 1) := by decide +kernel
theorem dX2_copy_23 : decode cX2_copy 23 = .ok (.getfield 15, 3) := by decide +kernel
theorem dX2_copy_26 : decode cX2_copy 26 = .ok (.iload_n 2, 1) := by decide +kernel
theorem dX2_copy_27 : decode cX2_copy 27 = .ok (.iaload, 1) := by decide +kernel
theorem dX2_copy_28 : decode cX2_copy 28 = .ok (.aload_n 1, 1) := by decide +kernel
theorem dX2_copy_29 : decode cX2_copy 29 = .ok (.getfield 19, 3) := by decide +kernel
theorem dX2_copy_32 : decode cX2_copy 32 = .ok (.iload_n 2, 1) := by decide +kernel
theorem dX2_copy_33 : decode cX2_copy 33 = .ok (.iaload, 1) := by decide +kernel
theorem dX2_copy_34 : decode cX2_copy 34 = .ok (.aload_n 1, 1) := by decide +kernel
theorem dX2_copy_35 : decode cX2_copy 35 = .ok (.getfield 22, 3) := by decide +kernel
theorem dX2_copy_38 : decode cX2_copy 38 = .ok (.iload_n 2, 1) := by decide +kernel
theorem dX2_copy_39 : decode cX2_copy 39 = .ok (.iaload, 1) := by decide +kernel
theorem dX2_copy_40 : decode cX2_copy 40 = .ok (.invokevirtual 25, 3) := by decide +kernel
theorem dX2_copy_43 : decode cX2_copy 43 = .ok (.pop, 1) := by decide +kernel
theorem dX2_copy_44 : decode cX2_copy 44 = .ok (.iinc 2 1, 3) := by decide +kernel
theorem dX2_copy_47 : decode cX2_copy 47 = .ok (.goto (-40), 3) := by decide +kernel
theorem dX2_copy_50 : decode cX2_copy 50 = .ok (.return_, 1) := by decide +kernel
set_option maxRecDepth 20000 in
theorem ggX2_allow_X0_way : GoodIn wsX2_allow wsX0_way := goodIn_r _ [18, 19, 28, 29, 30, 31, 32, 33] (by decide +kernel) (by decide +kernel)
set_option maxRecDepth 20000 in
theorem gX2_allow_X0_way : GoodIn wsX2_allow (wsV RX2 29 RX0 yX0_way wsX0_way) := goodIn_app (goodIn_of _ (by decide +kernel)) ggX2_allow_X0_way
set_option maxRecDepth 20000 in
theorem ggX2_allow_J9_floorMod_7cf53 : GoodIn wsX2_allow wsJ9_floorMod_7cf53 := goodIn_r _ [23] (by decide +kernel) (by decide +kernel)
set_option maxRecDepth 20000 in
theorem gX2_allow_J9_floorMod_7cf53 : GoodIn wsX2_allow (va_wsS RX2 37 yJ9_floorMod_7cf53 wsJ9_floorMod_7cf53) := goodIn_app (goodIn_of _ (by decide +kernel)) ggX2_allow_J9_floorMod_7cf53
theorem dX2_allow_0 : decode cX2_allow 0 = .ok (.iconst 0, 1) := by decide +kernel
theorem dX2_allow_1 : decode cX2_allow 1 = .ok (.istore 4, 2) := by decide +kernel
theorem dX2_allow_3 : decode cX2_allow 3 = .ok (.iconst 0, 1) := by decide +kernel
theorem dX2_allow_4 : decode cX2_allow 4 = .ok (.istore 5, 2) := by decide +kernel
theorem dX2_allow_6 : decode cX2_allow 6 = .ok (.iconst 0, 1) := by decide +kernel
theorem dX2_allow_7 : decode cX2_allow 7 = .ok (.istore 6, 2) := by decide +kernel
theorem dX2_allow_9 : decode cX2_allow 9 = .ok (.iconst 0, 1) := by decide +kernel
theorem dX2_allow_10 : decode cX2_allow 10 = .ok (.istore 7, 2) := by decide +kernel
theorem dX2_allow_12 : decode cX2_allow 12 = .ok (.iconst 0, 1) := by decide +kernel
theorem dX2_allow_13 : decode cX2_allow 13 = .ok (.istore 8, 2) := by decide +kernel
theorem dX2_allow_15 : decode cX2_allow 15 = .ok (.iload 8, 2) := by decide +kernel
theorem dX2_allow_17 : decode cX2_allow 17 = .ok (.aload_n 0, 1) := by decide +kernel
theorem dX2_allow_18 : decode cX2_allow 18 = .ok (.getfield 9, 3) := by decide +kernel
theorem dX2_allow_21 : decode cX2_allow 21 = .ok (.if_icmp .ge 104, 3) := by decide +kernel
theorem dX2_allow_24 : decode cX2_allow 24 = .ok (.iload 8, 2) := by decide +kernel
theorem dX2_allow_26 : decode cX2_allow 26 = .ok (.bipush 12, 2) := by decide +kernel
theorem dX2_allow_28 : decode cX2_allow 28 = .ok (.if_icmp .ge 97, 3) := by decide +kernel
theorem dX2_allow_31 : decode cX2_allow 31 = .ok (.aload_n 0, 1) := by decide +kernel
theorem dX2_allow_32 : decode cX2_allow 32 = .ok (.getfield 15, 3) := by decide +kernel
theorem dX2_allow_35 : decode cX2_allow 35 = .ok (.iload 8, 2) := by decide +kernel
theorem dX2_allow_37 : decode cX2_allow 37 = .ok (.iaload, 1) := by decide +kernel
theorem dX2_allow_38 : decode cX2_allow 38 = .ok (.iload_n 1, 1) := by decide +kernel
theorem dX2_allow_39 : decode cX2_allow 39 = .ok (.if_icmp .eq 6, 3) := by decide +kernel
theorem dX2_allow_42 : decode cX2_allow 42 = .ok (.goto 77, 3) := by decide +kernel
theorem dX2_allow_45 : decode cX2_allow 45 = .ok (.aload_n 0, 1) := by decide +kernel
theorem dX2_allow_46 : decode cX2_allow 46 = .ok (.getfield 22, 3) := by decide +kernel
theorem dX2_allow_49 : decode cX2_allow 49 = .ok (.iload 8, 2) := by decide +kernel
theorem dX2_allow_51 : decode cX2_allow 51 = .ok (.iaload, 1) := by decide +kernel
theorem dX2_allow_52 : decode cX2_allow 52 = .ok (.sipush 1440, 3) := by decide +kernel
theorem dX2_allow_55 : decode cX2_allow 55 = .ok (.imul, 1) := by decide +kernel
theorem dX2_allow_56 : decode cX2_allow 56 = .ok (.aload_n 2, 1) := by decide +kernel
theorem dX2_allow_57 : decode cX2_allow 57 = .ok (.aload_n 0, 1) := by decide +kernel
theorem dX2_allow_58 : decode cX2_allow 58 = .ok (.getfield 19, 3) := by decide +kernel
theorem dX2_allow_61 : decode cX2_allow 61 = .ok (.iload 8, 2) := by decide +kernel
theorem dX2_allow_63 : decode cX2_allow 63 = .ok (.iaload, 1) := by decide +kernel
theorem dX2_allow_64 : decode cX2_allow 64 = .ok (.iload_n 3, 1) := by decide +kernel
theorem dX2_allow_65 : decode cX2_allow 65 = .ok (.invokevirtual 29, 3) := by decide +kernel
theorem dX2_allow_68 : decode cX2_allow 68 = .ok (.isub, 1) := by decide +kernel
theorem dX2_allow_69 : decode cX2_allow 69 = .ok (.istore 9, 2) := by decide +kernel
theorem dX2_allow_71 : decode cX2_allow 71 = .ok (.iload 4, 2) := by decide +kernel
theorem dX2_allow_73 : decode cX2_allow 73 = .ok (.ifCond .ne 10, 3) := by decide +kernel
theorem dX2_allow_76 : decode cX2_allow 76 = .ok (.iload 9, 2) := by decide +kernel
theorem dX2_allow_78 : decode cX2_allow 78 = .ok (.istore 5, 2) := by decide +kernel
theorem dX2_allow_80 : decode cX2_allow 80 = .ok (.iconst 1, 1) := by decide +kernel
theorem dX2_allow_81 : decode cX2_allow 81 = .ok (.istore 4, 2) := by decide +kernel
theorem dX2_allow_83 : decode cX2_allow 83 = .ok (.iload 9, 2) := by decide +kernel
theorem dX2_allow_85 : decode cX2_allow 85 = .ok (.iload 5, 2) := by decide +kernel
theorem dX2_allow_87 : decode cX2_allow 87 = .ok (.isub, 1) := by decide +kernel
theorem dX2_allow_88 : decode cX2_allow 88 = .ok (.ldc 35, 2) := by decide +kernel
theorem dX2_allow_90 : decode cX2_allow 90 = .ok (.iadd, 1) := by decide +kernel
theorem dX2_allow_91 : decode cX2_allow 91 = .ok (.ldc 36, 2) := by decide +kernel
theorem dX2_allow_93 : decode cX2_allow 93 = .ok (.invokestatic 37, 3) := by decide +kernel
theorem dX2_allow_96 : decode cX2_allow 96 = .ok (.ldc 35, 2) := by decide +kernel
theorem dX2_allow_98 : decode cX2_allow 98 = .ok (.isub, 1) := by decide +kernel
theorem dX2_allow_99 : decode cX2_allow 99 = .ok (.istore 10, 2) := by decide +kernel
theorem dX2_allow_101 : decode cX2_allow 101 = .ok (.iload 6, 2) := by decide +kernel
theorem dX2_allow_103 : decode cX2_allow 103 = .ok (.iload 10, 2) := by decide +kernel
theorem dX2_allow_105 : decode cX2_allow 105 = .ok (.invokestatic 42, 3) := by decide +kernel
theorem dX2_allow_108 : decode cX2_allow 108 = .ok (.istore 6, 2) := by decide +kernel
theorem dX2_allow_110 : decode cX2_allow 110 = .ok (.iload 7, 2) := by decide +kernel
theorem dX2_allow_112 : decode cX2_allow 112 = .ok (.iload 10, 2) := by decide +kernel
theorem dX2_allow_114 : decode cX2_allow 114 = .ok (.invokestatic 45, 3) := by decide +kernel
theorem dX2_allow_117 : decode cX2_allow 117 = .ok (.istore 7, 2) := by decide +kernel
theorem dX2_allow_119 : decode cX2_allow 119 = .ok (.iinc 8 1, 3) := by decide +kernel
theorem dX2_allow_122 : decode cX2_allow 122 = .ok (.goto (-107), 3) := by decide +kernel
theorem dX2_allow_125 : decode cX2_allow 125 = .ok (.iload 7, 2) := by decide +kernel
theorem dX2_allow_127 : decode cX2_allow 127 = .ok (.iload 6, 2) := by decide +kernel
theorem dX2_allow_129 : decode cX2_allow 129 = .ok (.isub, 1) := by decide +kernel
theorem dX2_allow_130 : decode cX2_allow 130 = .ok (.sipush 1440, 3) := by decide +kernel
theorem dX2_allow_133 : decode cX2_allow 133 = .ok (.if_icmp .ge 7, 3) := by decide +kernel
theorem dX2_allow_136 : decode cX2_allow 136 = .ok (.iconst 1, 1) := by decide +kernel
theorem dX2_allow_137 : decode cX2_allow 137 = .ok (.goto 4, 3) := by decide +kernel
theorem dX2_allow_140 : decode cX2_allow 140 = .ok (.iconst 0, 1) := by decide +kernel
theorem dX2_allow_141 : decode cX2_allow 141 = .ok (.ireturn, 1) := by decide +kernel
theorem dX3_init_0 : decode cX3_init 0 = .ok (.aload_n 0, 1) := by decide +kernel
theorem dX3_init_1 : decode cX3_init 1 = .ok (.invokespecial 3, 3) := by decide +kernel
theorem dX3_init_4 : decode cX3_init 4 = .ok (.aload_n 0, 1) := by decide +kernel
theorem dX3_init_5 : decode cX3_init 5 = .ok (.iconst 0, 1) := by decide +kernel
theorem dX3_init_6 : decode cX3_init 6 = .ok (.putfield 9, 3) := by decide +kernel
theorem dX3_init_9 : decode cX3_init 9 = .ok (.aload_n 0, 1) := by decide +kernel
theorem dX3_init_10 : decode cX3_init 10 = .ok (.bipush 8, 2) := by decide +kernel
theorem dX3_init_12 : decode cX3_init 12 = .ok (.newarray .int, 2) := by decide +kernel
theorem dX3_init_14 : decode cX3_init 14 = .ok (.putfield 15, 3) := by decide +kernel
theorem dX3_init_17 : decode cX3_init 17 = .ok (.aload_n 0, 1) := by decide +kernel
theorem dX3_init_18 : decode cX3_init 18 = .ok (.bipush 8, 2) := by decide +kernel
theorem dX3_init_20 : decode cX3_init 20 = .ok (.newarray .int, 2) := by decide +kernel
theorem dX3_init_22 : decode cX3_init 22 = .ok (.putfield 19, 3) := by decide +kernel
theorem dX3_init_25 : decode cX3_init 25 = .ok (.aload_n 0, 1) := by decide +kernel
theorem dX3_init_26 : decode cX3_init 26 = .ok (.bipush 64, 2) := by decide +kernel
theorem dX3_init_28 : decode cX3_init 28 = .ok (.newarray .int, 2) := by decide +kernel
theorem dX3_init_30 : decode cX3_init 30 = .ok (.putfield 22, 3) := by decide +kernel
theorem dX3_init_33 : decode cX3_init 33 = .ok (.return_, 1) := by decide +kernel
theorem dX3_clear_0 : decode cX3_clear 0 = .ok (.aload_n 0, 1) := by decide +kernel
theorem dX3_clear_1 : decode cX3_clear 1 = .ok (.iconst 0, 1) := by decide +kernel
theorem dX3_clear_2 : decode cX3_clear 2 = .ok (.putfield 9, 3) := by decide +kernel
theorem dX3_clear_5 : decode cX3_clear 5 = .ok (.return_, 1) := by decide +kernel
theorem dX3_add_0 : decode cX3_add 0 = .ok (.aload_n 0, 1) := by decide +kernel
theorem dX3_add_1 : decode cX3_add 1 = .ok (.getfield 9, 3) := by decide +kernel
theorem dX3_add_4 : decode cX3_add 4 = .ok (.bipush 8, 2) := by decide +kernel
theorem dX3_add_6 : decode cX3_add 6 = .ok (.if_icmp .ge 33, 3) := by decide +kernel
theorem dX3_add_9 : decode cX3_add 9 = .ok (.aload_n 0, 1) := by decide +kernel
theorem dX3_add_10 : decode cX3_add 10 = .ok (.getfield 15, 3) := by decide +kernel
theorem dX3_add_13 : decode cX3_add 13 = .ok (.aload_n 0, 1) := by decide +kernel
theorem dX3_add_14 : decode cX3_add 14 = .ok (.getfield 9, 3) := by decide +kernel
theorem dX3_add_17 : decode cX3_add 17 = .ok (.iload_n 1, 1) := by decide +kernel
theorem dX3_add_18 : decode cX3_add 18 = .ok (.iastore, 1) := by decide +kernel
theorem dX3_add_19 : decode cX3_add 19 = .ok (.aload_n 0, 1) := by decide +kernel
theorem dX3_add_20 : decode cX3_add 20 = .ok (.getfield 19, 3) := by decide +kernel
theorem dX3_add_23 : decode cX3_add 23 = .ok (.aload_n 0, 1) := by decide +kernel
theorem dX3_add_24 : decode cX3_add 24 = .ok (.getfield 9, 3) := by decide +kernel
theorem dX3_add_27 : decode cX3_add 27 = .ok (.iload_n 2, 1) := by decide +kernel
theorem dX3_add_28 : decode cX3_add 28 = .ok (.iastore, 1) := by decide +kernel
theorem dX3_add_29 : decode cX3_add 29 = .ok (.aload_n 0, 1) := by decide +kernel
theorem dX3_add_30 : decode cX3_add 30 = .ok (.dup, 1) := by decide +kernel
theorem dX3_add_31 : decode cX3_add 31 = .ok (.getfield 9, 3) := by decide +kernel
theorem dX3_add_34 : decode cX3_add 34 = .ok (.iconst 1, 1) := by decide +kernel
theorem dX3_add_35 : decode cX3_add 35 = .ok (.iadd, 1) := by decide +kernel
theorem dX3_add_36 : decode cX3_add 36 = .ok (.putfield 9, 3) := by decide +kernel
theorem dX3_add_39 : decode cX3_add 39 = .ok (.return_, 1) := by decide +kernel
set_option maxRecDepth 20000 in
theorem ggX3_weigh_X3_leastBehind : GoodIn wsX3_weigh wsX3_leastBehind := goodIn_r _ [11, 2, 12, 13, 14, 23, 24, 25, 26] (by decide +kernel) (by decide +kernel)
set_option maxRecDepth 20000 in
theorem gX3_weigh_X3_leastBehind : GoodIn wsX3_weigh (wsV RX3 25 RX3 yX3_leastBehind wsX3_leastBehind) := goodIn_app (goodIn_of _ (by decide +kernel)) ggX3_weigh_X3_leastBehind
set_option maxRecDepth 20000 in
theorem ggX3_weigh_X3_errorBehind : GoodIn wsX3_weigh wsX3_errorBehind := goodIn_r _ [18, 1, 19, 20, 21, 5, 22, 23, 24, 25, 26] (by decide +kernel) (by decide +kernel)
set_option maxRecDepth 20000 in
theorem gX3_weigh_X3_errorBehind : GoodIn wsX3_weigh (wsV RX3 29 RX3 yX3_errorBehind wsX3_errorBehind) := goodIn_app (goodIn_of _ (by decide +kernel)) ggX3_weigh_X3_errorBehind
theorem dX3_weigh_0 : decode cX3_weigh 0 = .ok (.bipush 63, 2) := by decide +kernel
theorem dX3_weigh_2 : decode cX3_weigh 2 = .ok (.istore_n 1, 1) := by decide +kernel
theorem dX3_weigh_3 : decode cX3_weigh 3 = .ok (.iload_n 1, 1) := by decide +kernel
theorem dX3_weigh_4 : decode cX3_weigh 4 = .ok (.ifCond .lt 78, 3) := by decide +kernel
theorem dX3_weigh_7 : decode cX3_weigh 7 = .ok (.iconst (-1), 1) := by decide +kernel
theorem dX3_weigh_8 : decode cX3_weigh 8 = .ok (.istore_n 2, 1) := by decide +kernel
theorem dX3_weigh_9 : decode cX3_weigh 9 = .ok (.iconst 0, 1) := by decide +kernel
theorem dX3_weigh_10 : decode cX3_weigh 10 = .ok (.istore_n 3, 1) := by decide +kernel
theorem dX3_weigh_11 : decode cX3_weigh 11 = .ok (.iload_n 3, 1) := by decide +kernel
theorem dX3_weigh_12 : decode cX3_weigh 12 = .ok (.aload_n 0, 1) := by decide +kernel
theorem dX3_weigh_13 : decode cX3_weigh 13 = .ok (.getfield 9, 3) := by decide +kernel
theorem dX3_weigh_16 : decode cX3_weigh 16 = .ok (.if_icmp .ge 45, 3) := by decide +kernel
theorem dX3_weigh_19 : decode cX3_weigh 19 = .ok (.iload_n 1, 1) := by decide +kernel
theorem dX3_weigh_20 : decode cX3_weigh 20 = .ok (.iload_n 3, 1) := by decide +kernel
theorem dX3_weigh_21 : decode cX3_weigh 21 = .ok (.ishr, 1) := by decide +kernel
theorem dX3_weigh_22 : decode cX3_weigh 22 = .ok (.iconst 1, 1) := by decide +kernel
theorem dX3_weigh_23 : decode cX3_weigh 23 = .ok (.iand, 1) := by decide +kernel
theorem dX3_weigh_24 : decode cX3_weigh 24 = .ok (.ifCond .ne 31, 3) := by decide +kernel
theorem dX3_weigh_27 : decode cX3_weigh 27 = .ok (.iload_n 2, 1) := by decide +kernel
theorem dX3_weigh_28 : decode cX3_weigh 28 = .ok (.iconst (-1), 1) := by decide +kernel
theorem dX3_weigh_29 : decode cX3_weigh 29 = .ok (.if_icmp .eq 16, 3) := by decide +kernel
theorem dX3_weigh_32 : decode cX3_weigh 32 = .ok (.aload_n 0, 1) := by decide +kernel
theorem dX3_weigh_33 : decode cX3_weigh 33 = .ok (.iload_n 1, 1) := by decide +kernel
theorem dX3_weigh_34 : decode cX3_weigh 34 = .ok (.iconst 1, 1) := by decide +kernel
theorem dX3_weigh_35 : decode cX3_weigh 35 = .ok (.iload_n 3, 1) := by decide +kernel
theorem dX3_weigh_36 : decode cX3_weigh 36 = .ok (.ishl, 1) := by decide +kernel
theorem dX3_weigh_37 : decode cX3_weigh 37 = .ok (.ior, 1) := by decide +kernel
theorem dX3_weigh_38 : decode cX3_weigh 38 = .ok (.invokevirtual 25, 3) := by decide +kernel
theorem dX3_weigh_41 : decode cX3_weigh 41 = .ok (.iload_n 2, 1) := by decide +kernel
theorem dX3_weigh_42 : decode cX3_weigh 42 = .ok (.if_icmp .ge 13, 3) := by decide +kernel
theorem dX3_weigh_45 : decode cX3_weigh 45 = .ok (.aload_n 0, 1) := by decide +kernel
theorem dX3_weigh_46 : decode cX3_weigh 46 = .ok (.iload_n 1, 1) := by decide +kernel
theorem dX3_weigh_47 : decode cX3_weigh 47 = .ok (.iconst 1, 1) := by decide +kernel
theorem dX3_weigh_48 : decode cX3_weigh 48 = .ok (.iload_n 3, 1) := by decide +kernel
theorem dX3_weigh_49 : decode cX3_weigh 49 = .ok (.ishl, 1) := by decide +kernel
theorem dX3_weigh_50 : decode cX3_weigh 50 = .ok (.ior, 1) := by decide +kernel
theorem dX3_weigh_51 : decode cX3_weigh 51 = .ok (.invokevirtual 25, 3) := by decide +kernel
theorem dX3_weigh_54 : decode cX3_weigh 54 = .ok (.istore_n 2, 1) := by decide +kernel
theorem dX3_weigh_55 : decode cX3_weigh 55 = .ok (.iinc 3 1, 3) := by decide +kernel
theorem dX3_weigh_58 : decode cX3_weigh 58 = .ok (.goto (-47), 3) := by decide +kernel
theorem dX3_weigh_61 : decode cX3_weigh 61 = .ok (.aload_n 0, 1) := by decide +kernel
theorem dX3_weigh_62 : decode cX3_weigh 62 = .ok (.getfield 22, 3) := by decide +kernel
theorem dX3_weigh_65 : decode cX3_weigh 65 = .ok (.iload_n 1, 1) := by decide +kernel
theorem dX3_weigh_66 : decode cX3_weigh 66 = .ok (.iload_n 2, 1) := by decide +kernel
theorem dX3_weigh_67 : decode cX3_weigh 67 = .ok (.aload_n 0, 1) := by decide +kernel
theorem dX3_weigh_68 : decode cX3_weigh 68 = .ok (.iload_n 1, 1) := by decide +kernel
theorem dX3_weigh_69 : decode cX3_weigh 69 = .ok (.invokevirtual 29, 3) := by decide +kernel
theorem dX3_weigh_72 : decode cX3_weigh 72 = .ok (.invokestatic 32, 3) := by decide +kernel
theorem dX3_weigh_75 : decode cX3_weigh 75 = .ok (.iastore, 1) := by decide +kernel
theorem dX3_weigh_76 : decode cX3_weigh 76 = .ok (.iinc 1 (-1), 3) := by decide +kernel
theorem dX3_weigh_79 : decode cX3_weigh 79 = .ok (.goto (-76), 3) := by decide +kernel
theorem dX3_weigh_82 : decode cX3_weigh 82 = .ok (.return_, 1) := by decide +kernel
theorem dX3_errorBehind_0 : decode cX3_errorBehind 0 = .ok (.iconst 0, 1) := by decide +kernel
theorem dX3_errorBehind_1 : decode cX3_errorBehind 1 = .ok (.istore_n 2, 1) := by decide +kernel
theorem dX3_errorBehind_2 : decode cX3_errorBehind 2 = .ok (.iconst 0, 1) := by decide +kernel
theorem dX3_errorBehind_3 : decode cX3_errorBehind 3 = .ok (.istore_n 3, 1) := by decide +kernel
theorem dX3_errorBehind_4 : decode cX3_errorBehind 4 = .ok (.iload_n 3, 1) := by decide +kernel
theorem dX3_errorBehind_5 : decode cX3_errorBehind 5 = .ok (.aload_n 0, 1) := by decide +kernel
theorem dX3_errorBehind_6 : decode cX3_errorBehind 6 = .ok (.getfield 9, 3) := by decide +kernel
theorem dX3_errorBehind_9 : decode cX3_errorBehind 9 = .ok (.if_icmp .ge 33, 3) := by decide +kernel
theorem dX3_errorBehind_12 : decode cX3_errorBehind 12 = .ok (.iload_n 3, 1) := by decide +kernel
theorem dX3_errorBehind_13 : decode cX3_errorBehind 13 = .ok (.bipush 8, 2) := by decide +kernel
theorem dX3_errorBehind_15 : decode cX3_errorBehind 15 = .ok (.if_icmp .ge 27, 3) := by decide +kernel
theorem dX3_errorBehind_18 : decode cX3_errorBehind 18 = .ok (.iload_n 1, 1) := by decide +kernel
theorem dX3_errorBehind_19 : decode cX3_errorBehind 19 = .ok (.iload_n 3, 1) := by decide +kernel
theorem dX3_errorBehind_20 : decode cX3_errorBehind 20 = .ok (.ishr, 1) := by decide +kernel
theorem dX3_errorBehind_21 : decode cX3_errorBehind 21 = .ok (.iconst 1, 1) := by decide +kernel
theorem dX3_errorBehind_22 : decode cX3_errorBehind 22 = .ok (.iand, 1) := by decide +kernel
theorem dX3_errorBehind_23 : decode cX3_errorBehind 23 = .ok (.iconst 1, 1) := by decide +kernel
theorem dX3_errorBehind_24 : decode cX3_errorBehind 24 = .ok (.if_icmp .ne 12, 3) := by decide +kernel
theorem dX3_errorBehind_27 : decode cX3_errorBehind 27 = .ok (.iload_n 2, 1) := by decide +kernel
theorem dX3_errorBehind_28 : decode cX3_errorBehind 28 = .ok (.aload_n 0, 1) := by decide +kernel
theorem dX3_errorBehind_29 : decode cX3_errorBehind 29 = .ok (.getfield 19, 3) := by decide +kernel
theorem dX3_errorBehind_32 : decode cX3_errorBehind 32 = .ok (.iload_n 3, 1) := by decide +kernel
theorem dX3_errorBehind_33 : decode cX3_errorBehind 33 = .ok (.iaload, 1) := by decide +kernel
theorem dX3_errorBehind_34 : decode cX3_errorBehind 34 = .ok (.iadd, 1) := by decide +kernel
theorem dX3_errorBehind_35 : decode cX3_errorBehind 35 = .ok (.istore_n 2, 1) := by decide +kernel
theorem dX3_errorBehind_36 : decode cX3_errorBehind 36 = .ok (.iinc 3 1, 3) := by decide +kernel
theorem dX3_errorBehind_39 : decode cX3_errorBehind 39 = .ok (.goto (-35), 3) := by decide +kernel
theorem dX3_errorBehind_42 : decode cX3_errorBehind 42 = .ok (.iload_n 2, 1) := by decide +kernel
theorem dX3_errorBehind_43 : decode cX3_errorBehind 43 = .ok (.invokestatic 38, 3) := by decide +kernel
theorem dX3_errorBehind_46 : decode cX3_errorBehind 46 = .ok (.ireturn, 1) := by decide +kernel
set_option maxRecDepth 20000 in
theorem ggX3_leastBehind_X6_isBelow : GoodIn wsX3_leastBehind wsX6_isBelow := goodIn_r _ [4] (by decide +kernel) (by decide +kernel)
set_option maxRecDepth 20000 in
theorem gX3_leastBehind_X6_isBelow_n41 : GoodIn wsX3_leastBehind (wsX6_isBelow) := ggX3_leastBehind_X6_isBelow
theorem dX3_leastBehind_0 : decode cX3_leastBehind 0 = .ok (.iload_n 1, 1) := by decide +kernel
theorem dX3_leastBehind_1 : decode cX3_leastBehind 1 = .ok (.bipush 64, 2) := by decide +kernel
theorem dX3_leastBehind_3 : decode cX3_leastBehind 3 = .ok (.invokestatic 41, 3) := by decide +kernel
theorem dX3_leastBehind_6 : decode cX3_leastBehind 6 = .ok (.ifCond .eq 12, 3) := by decide +kernel
theorem dX3_leastBehind_9 : decode cX3_leastBehind 9 = .ok (.aload_n 0, 1) := by decide +kernel
theorem dX3_leastBehind_10 : decode cX3_leastBehind 10 = .ok (.getfield 22, 3) := by decide +kernel
theorem dX3_leastBehind_13 : decode cX3_leastBehind 13 = .ok (.iload_n 1, 1) := by decide +kernel
theorem dX3_leastBehind_14 : decode cX3_leastBehind 14 = .ok (.iaload, 1) := by decide +kernel
theorem dX3_leastBehind_15 : decode cX3_leastBehind 15 = .ok (.goto 4, 3) := by decide +kernel
theorem dX3_leastBehind_18 : decode cX3_leastBehind 18 = .ok (.iconst 0, 1) := by decide +kernel
theorem dX3_leastBehind_19 : decode cX3_leastBehind 19 = .ok (.ireturn, 1) := by decide +kernel
theorem dX3_leastError_0 : decode cX3_leastError 0 = .ok (.aload_n 0, 1) := by decide +kernel
theorem dX3_leastError_1 : decode cX3_leastError 1 = .ok (.getfield 22, 3) := by decide +kernel
theorem dX3_leastError_4 : decode cX3_leastError 4 = .ok (.iconst 0, 1) := by decide +kernel
theorem dX3_leastError_5 : decode cX3_leastError 5 = .ok (.iaload, 1) := by decide +kernel
theorem dX3_leastError_6 : decode cX3_leastError 6 = .ok (.ireturn, 1) := by decide +kernel
set_option maxRecDepth 20000 in
theorem ggX3_clockAt_X3_firstBehind : GoodIn wsX3_clockAt wsX3_firstBehind := goodIn_r _ [7, 1, 8, 9, 10, 11, 6, 12, 13, 14, 15, 16, 17, 18, 19] (by decide +kernel) (by decide +kernel)
set_option maxRecDepth 20000 in
theorem gX3_clockAt_X3_firstBehind : GoodIn wsX3_clockAt (wsV RX3 45 RX3 yX3_firstBehind wsX3_firstBehind) := goodIn_app (goodIn_of _ (by decide +kernel)) ggX3_clockAt_X3_firstBehind
set_option maxRecDepth 20000 in
theorem ggX3_clockAt_X6_isBelow : GoodIn wsX3_clockAt wsX6_isBelow := goodIn_r _ [15] (by decide +kernel) (by decide +kernel)
set_option maxRecDepth 20000 in
theorem gX3_clockAt_X6_isBelow_n41 : GoodIn wsX3_clockAt (wsX6_isBelow) := ggX3_clockAt_X6_isBelow
theorem dX3_clockAt_0 : decode cX3_clockAt 0 = .ok (.iconst 0, 1) := by decide +kernel
theorem dX3_clockAt_1 : decode cX3_clockAt 1 = .ok (.istore_n 2, 1) := by decide +kernel
theorem dX3_clockAt_2 : decode cX3_clockAt 2 = .ok (.iconst 0, 1) := by decide +kernel
theorem dX3_clockAt_3 : decode cX3_clockAt 3 = .ok (.istore_n 3, 1) := by decide +kernel
theorem dX3_clockAt_4 : decode cX3_clockAt 4 = .ok (.iconst 0, 1) := by decide +kernel
theorem dX3_clockAt_5 : decode cX3_clockAt 5 = .ok (.istore 4, 2) := by decide +kernel
theorem dX3_clockAt_7 : decode cX3_clockAt 7 = .ok (.iload 4, 2) := by decide +kernel
theorem dX3_clockAt_9 : decode cX3_clockAt 9 = .ok (.iload_n 1, 1) := by decide +kernel
theorem dX3_clockAt_10 : decode cX3_clockAt 10 = .ok (.if_icmp .gt 30, 3) := by decide +kernel
theorem dX3_clockAt_13 : decode cX3_clockAt 13 = .ok (.iload 4, 2) := by decide +kernel
theorem dX3_clockAt_15 : decode cX3_clockAt 15 = .ok (.aload_n 0, 1) := by decide +kernel
theorem dX3_clockAt_16 : decode cX3_clockAt 16 = .ok (.getfield 9, 3) := by decide +kernel
theorem dX3_clockAt_19 : decode cX3_clockAt 19 = .ok (.if_icmp .ge 21, 3) := by decide +kernel
theorem dX3_clockAt_22 : decode cX3_clockAt 22 = .ok (.aload_n 0, 1) := by decide +kernel
theorem dX3_clockAt_23 : decode cX3_clockAt 23 = .ok (.iload_n 2, 1) := by decide +kernel
theorem dX3_clockAt_24 : decode cX3_clockAt 24 = .ok (.invokevirtual 45, 3) := by decide +kernel
theorem dX3_clockAt_27 : decode cX3_clockAt 27 = .ok (.istore_n 3, 1) := by decide +kernel
theorem dX3_clockAt_28 : decode cX3_clockAt 28 = .ok (.iload_n 2, 1) := by decide +kernel
theorem dX3_clockAt_29 : decode cX3_clockAt 29 = .ok (.iconst 1, 1) := by decide +kernel
theorem dX3_clockAt_30 : decode cX3_clockAt 30 = .ok (.iload_n 3, 1) := by decide +kernel
theorem dX3_clockAt_31 : decode cX3_clockAt 31 = .ok (.ishl, 1) := by decide +kernel
theorem dX3_clockAt_32 : decode cX3_clockAt 32 = .ok (.ior, 1) := by decide +kernel
theorem dX3_clockAt_33 : decode cX3_clockAt 33 = .ok (.istore_n 2, 1) := by decide +kernel
theorem dX3_clockAt_34 : decode cX3_clockAt 34 = .ok (.iinc 4 1, 3) := by decide +kernel
theorem dX3_clockAt_37 : decode cX3_clockAt 37 = .ok (.goto (-30), 3) := by decide +kernel
theorem dX3_clockAt_40 : decode cX3_clockAt 40 = .ok (.iload_n 3, 1) := by decide +kernel
theorem dX3_clockAt_41 : decode cX3_clockAt 41 = .ok (.bipush 8, 2) := by decide +kernel
theorem dX3_clockAt_43 : decode cX3_clockAt 43 = .ok (.invokestatic 41, 3) := by decide +kernel
theorem dX3_clockAt_46 : decode cX3_clockAt 46 = .ok (.ifCond .eq 12, 3) := by decide +kernel
theorem dX3_clockAt_49 : decode cX3_clockAt 49 = .ok (.aload_n 0, 1) := by decide +kernel
theorem dX3_clockAt_50 : decode cX3_clockAt 50 = .ok (.getfield 15, 3) := by decide +kernel
theorem dX3_clockAt_53 : decode cX3_clockAt 53 = .ok (.iload_n 3, 1) := by decide +kernel
theorem dX3_clockAt_54 : decode cX3_clockAt 54 = .ok (.iaload, 1) := by decide +kernel
theorem dX3_clockAt_55 : decode cX3_clockAt 55 = .ok (.goto 4, 3) := by decide +kernel
theorem dX3_clockAt_58 : decode cX3_clockAt 58 = .ok (.iconst (-1), 1) := by decide +kernel
theorem dX3_clockAt_59 : decode cX3_clockAt 59 = .ok (.ireturn, 1) := by decide +kernel
set_option maxRecDepth 20000 in
theorem ggX3_firstBehind_X3_leastBehind : GoodIn wsX3_firstBehind wsX3_leastBehind := goodIn_r _ [7, 2, 8, 9, 10, 11, 12, 13, 14] (by decide +kernel) (by decide +kernel)
set_option maxRecDepth 20000 in
theorem gX3_firstBehind_X3_leastBehind : GoodIn wsX3_firstBehind (wsV RX3 25 RX3 yX3_leastBehind wsX3_leastBehind) := goodIn_app (goodIn_of _ (by decide +kernel)) ggX3_firstBehind_X3_leastBehind
theorem dX3_firstBehind_0 : decode cX3_firstBehind 0 = .ok (.iconst 0, 1) := by decide +kernel
theorem dX3_firstBehind_1 : decode cX3_firstBehind 1 = .ok (.istore_n 2, 1) := by decide +kernel
theorem dX3_firstBehind_2 : decode cX3_firstBehind 2 = .ok (.iload_n 2, 1) := by decide +kernel
theorem dX3_firstBehind_3 : decode cX3_firstBehind 3 = .ok (.aload_n 0, 1) := by decide +kernel
theorem dX3_firstBehind_4 : decode cX3_firstBehind 4 = .ok (.getfield 9, 3) := by decide +kernel
theorem dX3_firstBehind_7 : decode cX3_firstBehind 7 = .ok (.if_icmp .ge 37, 3) := by decide +kernel
theorem dX3_firstBehind_10 : decode cX3_firstBehind 10 = .ok (.iload_n 1, 1) := by decide +kernel
theorem dX3_firstBehind_11 : decode cX3_firstBehind 11 = .ok (.iload_n 2, 1) := by decide +kernel
theorem dX3_firstBehind_12 : decode cX3_firstBehind 12 = .ok (.ishr, 1) := by decide +kernel
theorem dX3_firstBehind_13 : decode cX3_firstBehind 13 = .ok (.iconst 1, 1) := by decide +kernel
theorem dX3_firstBehind_14 : decode cX3_firstBehind 14 = .ok (.iand, 1) := by decide +kernel
theorem dX3_firstBehind_15 : decode cX3_firstBehind 15 = .ok (.ifCond .ne 23, 3) := by decide +kernel
theorem dX3_firstBehind_18 : decode cX3_firstBehind 18 = .ok (.aload_n 0, 1) := by decide +kernel
theorem dX3_firstBehind_19 : decode cX3_firstBehind 19 = .ok (.iload_n 1, 1) := by decide +kernel
theorem dX3_firstBehind_20 : decode cX3_firstBehind 20 = .ok (.iconst 1, 1) := by decide +kernel
theorem dX3_firstBehind_21 : decode cX3_firstBehind 21 = .ok (.iload_n 2, 1) := by decide +kernel
theorem dX3_firstBehind_22 : decode cX3_firstBehind 22 = .ok (.ishl, 1) := by decide +kernel
theorem dX3_firstBehind_23 : decode cX3_firstBehind 23 = .ok (.ior, 1) := by decide +kernel
theorem dX3_firstBehind_24 : decode cX3_firstBehind 24 = .ok (.invokevirtual 25, 3) := by decide +kernel
theorem dX3_firstBehind_27 : decode cX3_firstBehind 27 = .ok (.aload_n 0, 1) := by decide +kernel
theorem dX3_firstBehind_28 : decode cX3_firstBehind 28 = .ok (.getfield 22, 3) := by decide +kernel
theorem dX3_firstBehind_31 : decode cX3_firstBehind 31 = .ok (.iconst 0, 1) := by decide +kernel
theorem dX3_firstBehind_32 : decode cX3_firstBehind 32 = .ok (.iaload, 1) := by decide +kernel
theorem dX3_firstBehind_33 : decode cX3_firstBehind 33 = .ok (.if_icmp .gt 5, 3) := by decide +kernel
theorem dX3_firstBehind_36 : decode cX3_firstBehind 36 = .ok (.iload_n 2, 1) := by decide +kernel
theorem dX3_firstBehind_37 : decode cX3_firstBehind 37 = .ok (.ireturn, 1) := by decide +kernel
theorem dX3_firstBehind_38 : decode cX3_firstBehind 38 = .ok (.iinc 2 1, 3) := by decide +kernel
theorem dX3_firstBehind_41 : decode cX3_firstBehind 41 = .ok (.goto (-39), 3) := by decide +kernel
theorem dX3_firstBehind_44 : decode cX3_firstBehind 44 = .ok (.iconst 0, 1) := by decide +kernel
theorem dX3_firstBehind_45 : decode cX3_firstBehind 45 = .ok (.ireturn, 1) := by decide +kernel
theorem dX4_init_0 : decode cX4_init 0 = .ok (.aload_n 0, 1) := by decide +kernel
theorem dX4_init_1 : decode cX4_init 1 = .ok (.invokespecial 3, 3) := by decide +kernel
theorem dX4_init_4 : decode cX4_init 4 = .ok (.aload_n 0, 1) := by decide +kernel
theorem dX4_init_5 : decode cX4_init 5 = .ok (.iconst 0, 1) := by decide +kernel
theorem dX4_init_6 : decode cX4_init 6 = .ok (.putfield 9, 3) := by decide +kernel
theorem dX4_init_9 : decode cX4_init 9 = .ok (.aload_n 0, 1) := by decide +kernel
theorem dX4_init_10 : decode cX4_init 10 = .ok (.iconst (-1), 1) := by decide +kernel
theorem dX4_init_11 : decode cX4_init 11 = .ok (.putfield 15, 3) := by decide +kernel
theorem dX4_init_14 : decode cX4_init 14 = .ok (.aload_n 0, 1) := by decide +kernel
theorem dX4_init_15 : decode cX4_init 15 = .ok (.iconst (-1), 1) := by decide +kernel
theorem dX4_init_16 : decode cX4_init 16 = .ok (.putfield 18, 3) := by decide +kernel
theorem dX4_init_19 : decode cX4_init 19 = .ok (.aload_n 0, 1) := by decide +kernel
theorem dX4_init_20 : decode cX4_init 20 = .ok (.iconst 0, 1) := by decide +kernel
theorem dX4_init_21 : decode cX4_init 21 = .ok (.putfield 21, 3) := by decide +kernel
theorem dX4_init_24 : decode cX4_init 24 = .ok (.return_, 1) := by decide +kernel
theorem dX4_clear_0 : decode cX4_clear 0 = .ok (.aload_n 0, 1) := by decide +kernel
theorem dX4_clear_1 : decode cX4_clear 1 = .ok (.iconst 0, 1) := by decide +kernel
theorem dX4_clear_2 : decode cX4_clear 2 = .ok (.putfield 9, 3) := by decide +kernel
theorem dX4_clear_5 : decode cX4_clear 5 = .ok (.aload_n 0, 1) := by decide +kernel
theorem dX4_clear_6 : decode cX4_clear 6 = .ok (.iconst (-1), 1) := by decide +kernel
theorem dX4_clear_7 : decode cX4_clear 7 = .ok (.putfield 15, 3) := by decide +kernel
theorem dX4_clear_10 : decode cX4_clear 10 = .ok (.aload_n 0, 1) := by decide +kernel
theorem dX4_clear_11 : decode cX4_clear 11 = .ok (.iconst (-1), 1) := by decide +kernel
theorem dX4_clear_12 : decode cX4_clear 12 = .ok (.putfield 18, 3) := by decide +kernel
theorem dX4_clear_15 : decode cX4_clear 15 = .ok (.aload_n 0, 1) := by decide +kernel
theorem dX4_clear_16 : decode cX4_clear 16 = .ok (.iconst 0, 1) := by decide +kernel
theorem dX4_clear_17 : decode cX4_clear 17 = .ok (.putfield 21, 3) := by decide +kernel
theorem dX4_clear_20 : decode cX4_clear 20 = .ok (.return_, 1) := by decide +kernel
theorem dX4_add_0 : decode cX4_add 0 = .ok (.aload_n 0, 1) := by decide +kernel
theorem dX4_add_1 : decode cX4_add 1 = .ok (.getfield 9, 3) := by decide +kernel
theorem dX4_add_4 : decode cX4_add 4 = .ok (.ifCond .ne 8, 3) := by decide +kernel
theorem dX4_add_7 : decode cX4_add 7 = .ok (.aload_n 0, 1) := by decide +kernel
theorem dX4_add_8 : decode cX4_add 8 = .ok (.iload_n 1, 1) := by decide +kernel
theorem dX4_add_9 : decode cX4_add 9 = .ok (.putfield 15, 3) := by decide +kernel
theorem dX4_add_12 : decode cX4_add 12 = .ok (.aload_n 0, 1) := by decide +kernel
theorem dX4_add_13 : decode cX4_add 13 = .ok (.getfield 9, 3) := by decide +kernel
theorem dX4_add_16 : decode cX4_add 16 = .ok (.ifCond .eq 13, 3) := by decide +kernel
theorem dX4_add_19 : decode cX4_add 19 = .ok (.aload_n 0, 1) := by decide +kernel
theorem dX4_add_20 : decode cX4_add 20 = .ok (.getfield 18, 3) := by decide +kernel
theorem dX4_add_23 : decode cX4_add 23 = .ok (.iload_n 1, 1) := by decide +kernel
theorem dX4_add_24 : decode cX4_add 24 = .ok (.iconst 1, 1) := by decide +kernel
theorem dX4_add_25 : decode cX4_add 25 = .ok (.isub, 1) := by decide +kernel
theorem dX4_add_26 : decode cX4_add 26 = .ok (.if_icmp .eq 13, 3) := by decide +kernel
theorem dX4_add_29 : decode cX4_add 29 = .ok (.aload_n 0, 1) := by decide +kernel
theorem dX4_add_30 : decode cX4_add 30 = .ok (.dup, 1) := by decide +kernel
theorem dX4_add_31 : decode cX4_add 31 = .ok (.getfield 21, 3) := by decide +kernel
theorem dX4_add_34 : decode cX4_add 34 = .ok (.iconst 1, 1) := by decide +kernel
theorem dX4_add_35 : decode cX4_add 35 = .ok (.iadd, 1) := by decide +kernel
theorem dX4_add_36 : decode cX4_add 36 = .ok (.putfield 21, 3) := by decide +kernel
theorem dX4_add_39 : decode cX4_add 39 = .ok (.aload_n 0, 1) := by decide +kernel
theorem dX4_add_40 : decode cX4_add 40 = .ok (.iload_n 1, 1) := by decide +kernel
theorem dX4_add_41 : decode cX4_add 41 = .ok (.putfield 18, 3) := by decide +kernel
theorem dX4_add_44 : decode cX4_add 44 = .ok (.aload_n 0, 1) := by decide +kernel
theorem dX4_add_45 : decode cX4_add 45 = .ok (.dup, 1) := by decide +kernel
theorem dX4_add_46 : decode cX4_add 46 = .ok (.getfield 9, 3) := by decide +kernel
theorem dX4_add_49 : decode cX4_add 49 = .ok (.iconst 1, 1) := by decide +kernel
theorem dX4_add_50 : decode cX4_add 50 = .ok (.iadd, 1) := by decide +kernel
theorem dX4_add_51 : decode cX4_add 51 = .ok (.putfield 9, 3) := by decide +kernel
theorem dX4_add_54 : decode cX4_add 54 = .ok (.return_, 1) := by decide +kernel
theorem dX4_tell_0 : decode cX4_tell 0 = .ok (.iload_n 1, 1) := by decide +kernel
theorem dX4_tell_1 : decode cX4_tell 1 = .ok (.tableswitch 42 0 2 #[27, 32, 37], 27) := by decide +kernel
theorem dX4_tell_28 : decode cX4_tell 28 = .ok (.aload_n 0, 1) := by decide +kernel
theorem dX4_tell_29 : decode cX4_tell 29 = .ok (.getfield 9, 3) := by decide +kernel
theorem dX4_tell_32 : decode cX4_tell 32 = .ok (.ireturn, 1) := by decide +kernel
theorem dX4_tell_33 : decode cX4_tell 33 = .ok (.aload_n 0, 1) := by decide +kernel
theorem dX4_tell_34 : decode cX4_tell 34 = .ok (.getfield 15, 3) := by decide +kernel
theorem dX4_tell_37 : decode cX4_tell 37 = .ok (.ireturn, 1) := by decide +kernel
theorem dX4_tell_38 : decode cX4_tell 38 = .ok (.aload_n 0, 1) := by decide +kernel
theorem dX4_tell_39 : decode cX4_tell 39 = .ok (.getfield 18, 3) := by decide +kernel
theorem dX4_tell_42 : decode cX4_tell 42 = .ok (.ireturn, 1) := by decide +kernel
theorem dX4_tell_43 : decode cX4_tell 43 = .ok (.aload_n 0, 1) := by decide +kernel
theorem dX4_tell_44 : decode cX4_tell 44 = .ok (.getfield 21, 3) := by decide +kernel
theorem dX4_tell_47 : decode cX4_tell 47 = .ok (.ireturn, 1) := by decide +kernel
theorem dX5_init_0 : decode cX5_init 0 = .ok (.aload_n 0, 1) := by decide +kernel
theorem dX5_init_1 : decode cX5_init 1 = .ok (.invokespecial 3, 3) := by decide +kernel
theorem dX5_init_4 : decode cX5_init 4 = .ok (.aload_n 0, 1) := by decide +kernel
theorem dX5_init_5 : decode cX5_init 5 = .ok (.sipush 200, 3) := by decide +kernel
theorem dX5_init_8 : decode cX5_init 8 = .ok (.newarray .int, 2) := by decide +kernel
theorem dX5_init_10 : decode cX5_init 10 = .ok (.putfield 9, 3) := by decide +kernel
theorem dX5_init_13 : decode cX5_init 13 = .ok (.aload_n 0, 1) := by decide +kernel
theorem dX5_init_14 : decode cX5_init 14 = .ok (.iconst 0, 1) := by decide +kernel
theorem dX5_init_15 : decode cX5_init 15 = .ok (.putfield 15, 3) := by decide +kernel
theorem dX5_init_18 : decode cX5_init 18 = .ok (.aload_n 0, 1) := by decide +kernel
theorem dX5_init_19 : decode cX5_init 19 = .ok (.bipush 48, 2) := by decide +kernel
theorem dX5_init_21 : decode cX5_init 21 = .ok (.newarray .int, 2) := by decide +kernel
theorem dX5_init_23 : decode cX5_init 23 = .ok (.putfield 19, 3) := by decide +kernel
theorem dX5_init_26 : decode cX5_init 26 = .ok (.aload_n 0, 1) := by decide +kernel
theorem dX5_init_27 : decode cX5_init 27 = .ok (.iconst 0, 1) := by decide +kernel
theorem dX5_init_28 : decode cX5_init 28 = .ok (.putfield 22, 3) := by decide +kernel
theorem dX5_init_31 : decode cX5_init 31 = .ok (.aload_n 0, 1) := by decide +kernel
theorem dX5_init_32 : decode cX5_init 32 = .ok (.iconst 0, 1) := by decide +kernel
theorem dX5_init_33 : decode cX5_init 33 = .ok (.putfield 25, 3) := by decide +kernel
theorem dX5_init_36 : decode cX5_init 36 = .ok (.aload_n 0, 1) := by decide +kernel
theorem dX5_init_37 : decode cX5_init 37 = .ok (.iconst 0, 1) := by decide +kernel
theorem dX5_init_38 : decode cX5_init 38 = .ok (.putfield 28, 3) := by decide +kernel
theorem dX5_init_41 : decode cX5_init 41 = .ok (.return_, 1) := by decide +kernel
theorem dX5_put_0 : decode cX5_put 0 = .ok (.aload_n 0, 1) := by decide +kernel
theorem dX5_put_1 : decode cX5_put 1 = .ok (.getfield 15, 3) := by decide +kernel
theorem dX5_put_4 : decode cX5_put 4 = .ok (.sipush 200, 3) := by decide +kernel
theorem dX5_put_7 : decode cX5_put 7 = .ok (.if_icmp .ge 23, 3) := by decide +kernel
theorem dX5_put_10 : decode cX5_put 10 = .ok (.aload_n 0, 1) := by decide +kernel
theorem dX5_put_11 : decode cX5_put 11 = .ok (.getfield 9, 3) := by decide +kernel
theorem dX5_put_14 : decode cX5_put 14 = .ok (.aload_n 0, 1) := by decide +kernel
theorem dX5_put_15 : decode cX5_put 15 = .ok (.getfield 15, 3) := by decide +kernel
theorem dX5_put_18 : decode cX5_put 18 = .ok (.iload_n 1, 1) := by decide +kernel
theorem dX5_put_19 : decode cX5_put 19 = .ok (.iastore, 1) := by decide +kernel
theorem dX5_put_20 : decode cX5_put 20 = .ok (.aload_n 0, 1) := by decide +kernel
theorem dX5_put_21 : decode cX5_put 21 = .ok (.dup, 1) := by decide +kernel
theorem dX5_put_22 : decode cX5_put 22 = .ok (.getfield 15, 3) := by decide +kernel
theorem dX5_put_25 : decode cX5_put 25 = .ok (.iconst 1, 1) := by decide +kernel
theorem dX5_put_26 : decode cX5_put 26 = .ok (.iadd, 1) := by decide +kernel
theorem dX5_put_27 : decode cX5_put 27 = .ok (.putfield 15, 3) := by decide +kernel
theorem dX5_put_30 : decode cX5_put 30 = .ok (.return_, 1) := by decide +kernel
set_option maxRecDepth 20000 in
theorem ggX5_number_X6_isBelow : GoodIn wsX5_number wsX6_isBelow := goodIn_r _ [4] (by decide +kernel) (by decide +kernel)
set_option maxRecDepth 20000 in
theorem gX5_number_X6_isBelow_n31 : GoodIn wsX5_number (wsX6_isBelow) := ggX5_number_X6_isBelow
theorem dX5_number_0 : decode cX5_number 0 = .ok (.iload_n 1, 1) := by decide +kernel
theorem dX5_number_1 : decode cX5_number 1 = .ok (.bipush 8, 2) := by decide +kernel
theorem dX5_number_3 : decode cX5_number 3 = .ok (.invokestatic 31, 3) := by decide +kernel
theorem dX5_number_6 : decode cX5_number 6 = .ok (.ifCond .eq 26, 3) := by decide +kernel
theorem dX5_number_9 : decode cX5_number 9 = .ok (.iload_n 2, 1) := by decide +kernel
theorem dX5_number_10 : decode cX5_number 10 = .ok (.bipush 6, 2) := by decide +kernel
theorem dX5_number_12 : decode cX5_number 12 = .ok (.invokestatic 31, 3) := by decide +kernel
theorem dX5_number_15 : decode cX5_number 15 = .ok (.ifCond .eq 17, 3) := by decide +kernel
theorem dX5_number_18 : decode cX5_number 18 = .ok (.aload_n 0, 1) := by decide +kernel
theorem dX5_number_19 : decode cX5_number 19 = .ok (.getfield 19, 3) := by decide +kernel
theorem dX5_number_22 : decode cX5_number 22 = .ok (.iload_n 1, 1) := by decide +kernel
theorem dX5_number_23 : decode cX5_number 23 = .ok (.bipush 6, 2) := by decide +kernel
theorem dX5_number_25 : decode cX5_number 25 = .ok (.imul, 1) := by decide +kernel
theorem dX5_number_26 : decode cX5_number 26 = .ok (.iload_n 2, 1) := by decide +kernel
theorem dX5_number_27 : decode cX5_number 27 = .ok (.iadd, 1) := by decide +kernel
theorem dX5_number_28 : decode cX5_number 28 = .ok (.iaload, 1) := by decide +kernel
theorem dX5_number_29 : decode cX5_number 29 = .ok (.goto 4, 3) := by decide +kernel
theorem dX5_number_32 : decode cX5_number 32 = .ok (.iconst (-1), 1) := by decide +kernel
theorem dX5_number_33 : decode cX5_number 33 = .ok (.ireturn, 1) := by decide +kernel
set_option maxRecDepth 20000 in
theorem ggX5_findFault_X5_takeLine : GoodIn wsX5_findFault wsX5_takeLine := goodIn_r _ [9, 10, 11, 12, 13, 8, 14, 1, 3, 4, 15, 16, 17, 18, 19, 20, 21, 22, 23, 24, 25, 26, 27, 28, 29, 30, 31, 32, 33, 34, 35, 36, 37, 38, 39, 40, 41, 42, 43, 44, 45, 46, 47, 48, 49, 50, 51, 52, 53, 54, 55, 56, 57, 58, 59, 60, 61, 62, 63, 64, 65, 66, 67, 68, 69, 70, 71, 72, 73, 74, 75, 76, 77, 78, 79, 80, 81, 82, 83, 84, 85, 86, 87, 88, 89, 90, 91, 92, 93, 94, 95, 96, 97, 98, 107, 108, 109, 110, 111, 112] (by decide +kernel) (by decide +kernel)
set_option maxRecDepth 20000 in
theorem gX5_findFault_X5_takeLine : GoodIn wsX5_findFault (wsV RX5 35 RX5 yX5_takeLine wsX5_takeLine) := goodIn_app (goodIn_of _ (by decide +kernel)) ggX5_findFault_X5_takeLine
set_option maxRecDepth 20000 in
theorem ggX5_findFault_X5_knownBehind : GoodIn wsX5_findFault wsX5_knownBehind := goodIn_r _ [102, 103, 104, 105, 8, 106, 10, 86, 87, 88, 107, 108, 109, 110, 111, 112] (by decide +kernel) (by decide +kernel)
set_option maxRecDepth 20000 in
theorem gX5_findFault_X5_knownBehind : GoodIn wsX5_findFault (wsV RX5 38 RX5 yX5_knownBehind wsX5_knownBehind) := goodIn_app (goodIn_of _ (by decide +kernel)) ggX5_findFault_X5_knownBehind
set_option maxRecDepth 20000 in
theorem ggX5_findFault_X5_takeToken : GoodIn wsX5_findFault wsX5_takeToken := goodIn_r _ [14, 1, 3, 4, 15, 16, 17, 8, 18, 19, 20, 21, 22, 23, 24, 25, 107, 108, 109, 110, 111, 112] (by decide +kernel) (by decide +kernel)
set_option maxRecDepth 20000 in
theorem gX5_findFault_X5_takeToken : GoodIn wsX5_findFault (wsV RX5 42 RX5 yX5_takeToken wsX5_takeToken) := goodIn_app (goodIn_of _ (by decide +kernel)) ggX5_findFault_X5_takeToken
set_option maxRecDepth 20000 in
theorem ggX5_findFault_X5_signAt : GoodIn wsX5_findFault wsX5_signAt := goodIn_r _ [18, 4, 19, 107, 108, 109, 110, 111, 112] (by decide +kernel) (by decide +kernel)
set_option maxRecDepth 20000 in
theorem gX5_findFault_X5_signAt : GoodIn wsX5_findFault (wsV RX5 45 RX5 yX5_signAt wsX5_signAt) := goodIn_app (goodIn_of _ (by decide +kernel)) ggX5_findFault_X5_signAt
theorem dX5_findFault_0 : decode cX5_findFault 0 = .ok (.iload_n 1, 1) := by decide +kernel
theorem dX5_findFault_1 : decode cX5_findFault 1 = .ok (.istore_n 2, 1) := by decide +kernel
theorem dX5_findFault_2 : decode cX5_findFault 2 = .ok (.aload_n 0, 1) := by decide +kernel
theorem dX5_findFault_3 : decode cX5_findFault 3 = .ok (.iconst 0, 1) := by decide +kernel
theorem dX5_findFault_4 : decode cX5_findFault 4 = .ok (.putfield 28, 3) := by decide +kernel
theorem dX5_findFault_7 : decode cX5_findFault 7 = .ok (.aload_n 0, 1) := by decide +kernel
theorem dX5_findFault_8 : decode cX5_findFault 8 = .ok (.iconst 0, 1) := by decide +kernel
theorem dX5_findFault_9 : decode cX5_findFault 9 = .ok (.putfield 22, 3) := by decide +kernel
theorem dX5_findFault_12 : decode cX5_findFault 12 = .ok (.iconst 0, 1) := by decide +kernel
theorem dX5_findFault_13 : decode cX5_findFault 13 = .ok (.istore_n 3, 1) := by decide +kernel
theorem dX5_findFault_14 : decode cX5_findFault 14 = .ok (.iload_n 3, 1) := by decide +kernel
theorem dX5_findFault_15 : decode cX5_findFault 15 = .ok (.bipush 8, 2) := by decide +kernel
theorem dX5_findFault_17 : decode cX5_findFault 17 = .ok (.if_icmp .ge 72, 3) := by decide +kernel
theorem dX5_findFault_20 : decode cX5_findFault 20 = .ok (.aload_n 0, 1) := by decide +kernel
theorem dX5_findFault_21 : decode cX5_findFault 21 = .ok (.iload_n 3, 1) := by decide +kernel
theorem dX5_findFault_22 : decode cX5_findFault 22 = .ok (.iload_n 2, 1) := by decide +kernel
theorem dX5_findFault_23 : decode cX5_findFault 23 = .ok (.invokevirtual 35, 3) := by decide +kernel
theorem dX5_findFault_26 : decode cX5_findFault 26 = .ok (.ifCond .ne 8, 3) := by decide +kernel
theorem dX5_findFault_29 : decode cX5_findFault 29 = .ok (.aload_n 0, 1) := by decide +kernel
theorem dX5_findFault_30 : decode cX5_findFault 30 = .ok (.getfield 25, 3) := by decide +kernel
theorem dX5_findFault_33 : decode cX5_findFault 33 = .ok (.ireturn, 1) := by decide +kernel
theorem dX5_findFault_34 : decode cX5_findFault 34 = .ok (.aload_n 0, 1) := by decide +kernel
theorem dX5_findFault_35 : decode cX5_findFault 35 = .ok (.iload_n 3, 1) := by decide +kernel
theorem dX5_findFault_36 : decode cX5_findFault 36 = .ok (.iload_n 2, 1) := by decide +kernel
theorem dX5_findFault_37 : decode cX5_findFault 37 = .ok (.invokevirtual 38, 3) := by decide +kernel
theorem dX5_findFault_40 : decode cX5_findFault 40 = .ok (.istore_n 2, 1) := by decide +kernel
theorem dX5_findFault_41 : decode cX5_findFault 41 = .ok (.aload_n 0, 1) := by decide +kernel
theorem dX5_findFault_42 : decode cX5_findFault 42 = .ok (.iload_n 3, 1) := by decide +kernel
theorem dX5_findFault_43 : decode cX5_findFault 43 = .ok (.iconst 1, 1) := by decide +kernel
theorem dX5_findFault_44 : decode cX5_findFault 44 = .ok (.iadd, 1) := by decide +kernel
theorem dX5_findFault_45 : decode cX5_findFault 45 = .ok (.putfield 22, 3) := by decide +kernel
theorem dX5_findFault_48 : decode cX5_findFault 48 = .ok (.aload_n 0, 1) := by decide +kernel
theorem dX5_findFault_49 : decode cX5_findFault 49 = .ok (.invokevirtual 42, 3) := by decide +kernel
theorem dX5_findFault_52 : decode cX5_findFault 52 = .ok (.aload_n 0, 1) := by decide +kernel
theorem dX5_findFault_53 : decode cX5_findFault 53 = .ok (.getfield 25, 3) := by decide +kernel
theorem dX5_findFault_56 : decode cX5_findFault 56 = .ok (.aload_n 0, 1) := by decide +kernel
theorem dX5_findFault_57 : decode cX5_findFault 57 = .ok (.getfield 15, 3) := by decide +kernel
theorem dX5_findFault_60 : decode cX5_findFault 60 = .ok (.if_icmp .ne 5, 3) := by decide +kernel
theorem dX5_findFault_63 : decode cX5_findFault 63 = .ok (.iconst (-1), 1) := by decide +kernel
theorem dX5_findFault_64 : decode cX5_findFault 64 = .ok (.ireturn, 1) := by decide +kernel
theorem dX5_findFault_65 : decode cX5_findFault 65 = .ok (.aload_n 0, 1) := by decide +kernel
theorem dX5_findFault_66 : decode cX5_findFault 66 = .ok (.aload_n 0, 1) := by decide +kernel
theorem dX5_findFault_67 : decode cX5_findFault 67 = .ok (.getfield 25, 3) := by decide +kernel
theorem dX5_findFault_70 : decode cX5_findFault 70 = .ok (.invokevirtual 45, 3) := by decide +kernel
theorem dX5_findFault_73 : decode cX5_findFault 73 = .ok (.bipush 59, 2) := by decide +kernel
theorem dX5_findFault_75 : decode cX5_findFault 75 = .ok (.if_icmp .eq 8, 3) := by decide +kernel
theorem dX5_findFault_78 : decode cX5_findFault 78 = .ok (.aload_n 0, 1) := by decide +kernel
theorem dX5_findFault_79 : decode cX5_findFault 79 = .ok (.getfield 25, 3) := by decide +kernel
theorem dX5_findFault_82 : decode cX5_findFault 82 = .ok (.ireturn, 1) := by decide +kernel
theorem dX5_findFault_83 : decode cX5_findFault 83 = .ok (.iinc 3 1, 3) := by decide +kernel
theorem dX5_findFault_86 : decode cX5_findFault 86 = .ok (.goto (-72), 3) := by decide +kernel
theorem dX5_findFault_89 : decode cX5_findFault 89 = .ok (.aload_n 0, 1) := by decide +kernel
theorem dX5_findFault_90 : decode cX5_findFault 90 = .ok (.getfield 25, 3) := by decide +kernel
theorem dX5_findFault_93 : decode cX5_findFault 93 = .ok (.ireturn, 1) := by decide +kernel
set_option maxRecDepth 20000 in
theorem ggX5_takeLine_X5_takeToken : GoodIn wsX5_takeLine wsX5_takeToken := goodIn_r _ [6, 7, 8, 9, 10, 11, 12, 5, 13, 14, 15, 16, 17, 18, 19, 20, 94, 95, 96, 97, 98, 99] (by decide +kernel) (by decide +kernel)
set_option maxRecDepth 20000 in
theorem gX5_takeLine_X5_takeToken : GoodIn wsX5_takeLine (wsV RX5 42 RX5 yX5_takeToken wsX5_takeToken) := goodIn_app (goodIn_of _ (by decide +kernel)) ggX5_takeLine_X5_takeToken
set_option maxRecDepth 20000 in
theorem ggX5_takeLine_X5_wordTaken : GoodIn wsX5_takeLine wsX5_wordTaken := goodIn_r _ [24, 25, 26, 5, 27, 28, 29, 30, 31, 7, 8, 32, 33, 34, 35, 36, 37, 38, 39, 40, 41, 42, 43, 10, 11, 12, 13, 9, 14, 44, 45, 46, 47, 48, 49, 50, 51, 52, 53, 54, 55, 56, 57, 58, 59, 60, 61, 62, 63, 64, 65, 66, 67, 68, 69, 70, 71, 72, 73, 74, 75, 76, 77, 78, 79, 80, 94, 95, 96, 97, 98, 99] (by decide +kernel) (by decide +kernel)
set_option maxRecDepth 20000 in
theorem gX5_takeLine_X5_wordTaken : GoodIn wsX5_takeLine (wsV RX5 49 RX5 yX5_wordTaken wsX5_wordTaken) := goodIn_app (goodIn_of _ (by decide +kernel)) ggX5_takeLine_X5_wordTaken
set_option maxRecDepth 20000 in
theorem ggX5_takeLine_X6_isBelow : GoodIn wsX5_takeLine wsX6_isBelow := goodIn_r _ [83] (by decide +kernel) (by decide +kernel)
set_option maxRecDepth 20000 in
theorem gX5_takeLine_X6_isBelow_n31 : GoodIn wsX5_takeLine (wsX6_isBelow) := ggX5_takeLine_X6_isBelow
set_option maxRecDepth 20000 in
theorem ggX5_takeLine_X5_numbersOf : GoodIn wsX5_takeLine wsX5_numbersOf := goodIn_r _ [86] (by decide +kernel) (by decide +kernel)
set_option maxRecDepth 20000 in
theorem gX5_takeLine_X5_numbersOf : GoodIn wsX5_takeLine (va_wsS RX5 53 yX5_numbersOf wsX5_numbersOf) := goodIn_app (goodIn_of _ (by decide +kernel)) ggX5_takeLine_X5_numbersOf
set_option maxRecDepth 20000 in
theorem ggX5_takeLine_J0_length_8abf5 : GoodIn wsX5_takeLine wsJ0_length_8abf5 := goodIn_r _ [36, 37, 38, 39, 40, 35, 41, 42, 43] (by decide +kernel) (by decide +kernel)
set_option maxRecDepth 20000 in
theorem gX5_takeLine_J0_length_8abf5 : GoodIn wsX5_takeLine (wsV RX5 57 RJ0 yJ0_length_8abf5 wsJ0_length_8abf5) := goodIn_app (goodIn_of _ (by decide +kernel)) ggX5_takeLine_J0_length_8abf5
set_option maxRecDepth 20000 in
theorem ggX5_takeLine_J0_charAt_5068e : GoodIn wsX5_takeLine wsJ0_charAt_5068e := goodIn_r _ [47, 37, 48, 49, 50, 35, 51, 42, 43, 52, 53, 54, 55, 56, 57, 58, 59, 60, 61, 62, 63, 64, 65, 66, 67, 68, 69, 70, 71, 72, 73, 74, 75, 76, 77, 78, 79, 80] (by decide +kernel) (by decide +kernel)
set_option maxRecDepth 20000 in
theorem gX5_takeLine_J0_charAt_5068e : GoodIn wsX5_takeLine (wsV RX5 61 RJ0 yJ0_charAt_5068e wsJ0_charAt_5068e) := goodIn_app (goodIn_of _ (by decide +kernel)) ggX5_takeLine_J0_charAt_5068e
set_option maxRecDepth 20000 in
theorem ggX5_takeLine_X5_numberTaken : GoodIn wsX5_takeLine wsX5_numberTaken := goodIn_r _ [90, 7, 8, 10, 11, 12, 5, 13, 9, 14, 18, 19, 20, 94, 95, 96, 97, 98, 99] (by decide +kernel) (by decide +kernel)
set_option maxRecDepth 20000 in
theorem gX5_takeLine_X5_numberTaken : GoodIn wsX5_takeLine (wsV RX5 65 RX5 yX5_numberTaken wsX5_numberTaken) := goodIn_app (goodIn_of _ (by decide +kernel)) ggX5_takeLine_X5_numberTaken
set_option maxRecDepth 20000 in
theorem ggX5_takeLine_X5_mostOf : GoodIn wsX5_takeLine wsX5_mostOf := goodIn_r _ [93] (by decide +kernel) (by decide +kernel)
set_option maxRecDepth 20000 in
theorem gX5_takeLine_X5_mostOf : GoodIn wsX5_takeLine (va_wsS RX5 68 yX5_mostOf wsX5_mostOf) := goodIn_app (goodIn_of _ (by decide +kernel)) ggX5_takeLine_X5_mostOf
theorem dX5_takeLine_0 : decode cX5_takeLine 0 = .ok (.iload_n 1, 1) := by decide +kernel
theorem dX5_takeLine_1 : decode cX5_takeLine 1 = .ok (.bipush 6, 2) := by decide +kernel
theorem dX5_takeLine_3 : decode cX5_takeLine 3 = .ok (.imul, 1) := by decide +kernel
theorem dX5_takeLine_4 : decode cX5_takeLine 4 = .ok (.istore_n 3, 1) := by decide +kernel
theorem dX5_takeLine_5 : decode cX5_takeLine 5 = .ok (.aload_n 0, 1) := by decide +kernel
theorem dX5_takeLine_6 : decode cX5_takeLine 6 = .ok (.invokevirtual 42, 3) := by decide +kernel
theorem dX5_takeLine_9 : decode cX5_takeLine 9 = .ok (.aload_n 0, 1) := by decide +kernel
theorem dX5_takeLine_10 : decode cX5_takeLine 10 = .ok (.invokevirtual 49, 3) := by decide +kernel
theorem dX5_takeLine_13 : decode cX5_takeLine 13 = .ok (.istore 4, 2) := by decide +kernel
theorem dX5_takeLine_15 : decode cX5_takeLine 15 = .ok (.iload 4, 2) := by decide +kernel
theorem dX5_takeLine_17 : decode cX5_takeLine 17 = .ok (.iconst (-1), 1) := by decide +kernel
theorem dX5_takeLine_18 : decode cX5_takeLine 18 = .ok (.if_icmp .eq 12, 3) := by decide +kernel
theorem dX5_takeLine_21 : decode cX5_takeLine 21 = .ok (.iload_n 1, 1) := by decide +kernel
theorem dX5_takeLine_22 : decode cX5_takeLine 22 = .ok (.bipush 8, 2) := by decide +kernel
theorem dX5_takeLine_24 : decode cX5_takeLine 24 = .ok (.invokestatic 31, 3) := by decide +kernel
theorem dX5_takeLine_27 : decode cX5_takeLine 27 = .ok (.ifCond .ne 5, 3) := by decide +kernel
theorem dX5_takeLine_30 : decode cX5_takeLine 30 = .ok (.iconst 0, 1) := by decide +kernel
theorem dX5_takeLine_31 : decode cX5_takeLine 31 = .ok (.ireturn, 1) := by decide +kernel
theorem dX5_takeLine_32 : decode cX5_takeLine 32 = .ok (.aload_n 0, 1) := by decide +kernel
theorem dX5_takeLine_33 : decode cX5_takeLine 33 = .ok (.getfield 19, 3) := by decide +kernel
theorem dX5_takeLine_36 : decode cX5_takeLine 36 = .ok (.iload_n 3, 1) := by decide +kernel
theorem dX5_takeLine_37 : decode cX5_takeLine 37 = .ok (.iload 4, 2) := by decide +kernel
theorem dX5_takeLine_39 : decode cX5_takeLine 39 = .ok (.iastore, 1) := by decide +kernel
theorem dX5_takeLine_40 : decode cX5_takeLine 40 = .ok (.iload 4, 2) := by decide +kernel
theorem dX5_takeLine_42 : decode cX5_takeLine 42 = .ok (.invokestatic 53, 3) := by decide +kernel
theorem dX5_takeLine_45 : decode cX5_takeLine 45 = .ok (.astore 5, 2) := by decide +kernel
theorem dX5_takeLine_47 : decode cX5_takeLine 47 = .ok (.iconst 0, 1) := by decide +kernel
theorem dX5_takeLine_48 : decode cX5_takeLine 48 = .ok (.istore 6, 2) := by decide +kernel
theorem dX5_takeLine_50 : decode cX5_takeLine 50 = .ok (.iload 6, 2) := by decide +kernel
theorem dX5_takeLine_52 : decode cX5_takeLine 52 = .ok (.aload 5, 2) := by decide +kernel
theorem dX5_takeLine_54 : decode cX5_takeLine 54 = .ok (.invokevirtual 57, 3) := by decide +kernel
theorem dX5_takeLine_57 : decode cX5_takeLine 57 = .ok (.if_icmp .ge 112, 3) := by decide +kernel
theorem dX5_takeLine_60 : decode cX5_takeLine 60 = .ok (.iload 6, 2) := by decide +kernel
theorem dX5_takeLine_62 : decode cX5_takeLine 62 = .ok (.iconst 5, 1) := by decide +kernel
theorem dX5_takeLine_63 : decode cX5_takeLine 63 = .ok (.if_icmp .ge 106, 3) := by decide +kernel
theorem dX5_takeLine_66 : decode cX5_takeLine 66 = .ok (.aload 5, 2) := by decide +kernel
theorem dX5_takeLine_68 : decode cX5_takeLine 68 = .ok (.iload 6, 2) := by decide +kernel
theorem dX5_takeLine_70 : decode cX5_takeLine 70 = .ok (.invokevirtual 61, 3) := by decide +kernel
theorem dX5_takeLine_73 : decode cX5_takeLine 73 = .ok (.istore 7, 2) := by decide +kernel
theorem dX5_takeLine_75 : decode cX5_takeLine 75 = .ok (.aload_n 0, 1) := by decide +kernel
theorem dX5_takeLine_76 : decode cX5_takeLine 76 = .ok (.invokevirtual 42, 3) := by decide +kernel
theorem dX5_takeLine_79 : decode cX5_takeLine 79 = .ok (.aload_n 0, 1) := by decide +kernel
theorem dX5_takeLine_80 : decode cX5_takeLine 80 = .ok (.invokevirtual 65, 3) := by decide +kernel
theorem dX5_takeLine_83 : decode cX5_takeLine 83 = .ok (.istore 8, 2) := by decide +kernel
theorem dX5_takeLine_85 : decode cX5_takeLine 85 = .ok (.iload 7, 2) := by decide +kernel
theorem dX5_takeLine_87 : decode cX5_takeLine 87 = .ok (.bipush 72, 2) := by decide +kernel
theorem dX5_takeLine_89 : decode cX5_takeLine 89 = .ok (.if_icmp .ne 15, 3) := by decide +kernel
theorem dX5_takeLine_92 : decode cX5_takeLine 92 = .ok (.aload_n 0, 1) := by decide +kernel
theorem dX5_takeLine_93 : decode cX5_takeLine 93 = .ok (.getfield 19, 3) := by decide +kernel
theorem dX5_takeLine_96 : decode cX5_takeLine 96 = .ok (.iload_n 3, 1) := by decide +kernel
theorem dX5_takeLine_97 : decode cX5_takeLine 97 = .ok (.iload 6, 2) := by decide +kernel
theorem dX5_takeLine_99 : decode cX5_takeLine 99 = .ok (.iadd, 1) := by decide +kernel
theorem dX5_takeLine_100 : decode cX5_takeLine 100 = .ok (.iaload, 1) := by decide +kernel
theorem dX5_takeLine_101 : decode cX5_takeLine 101 = .ok (.goto 4, 3) := by decide +kernel
theorem dX5_takeLine_104 : decode cX5_takeLine 104 = .ok (.iconst 0, 1) := by decide +kernel
theorem dX5_takeLine_105 : decode cX5_takeLine 105 = .ok (.istore 9, 2) := by decide +kernel
theorem dX5_takeLine_107 : decode cX5_takeLine 107 = .ok (.iload 8, 2) := by decide +kernel
theorem dX5_takeLine_109 : decode cX5_takeLine 109 = .ok (.iload 9, 2) := by decide +kernel
theorem dX5_takeLine_111 : decode cX5_takeLine 111 = .ok (.if_icmp .lt 13, 3) := by decide +kernel
theorem dX5_takeLine_114 : decode cX5_takeLine 114 = .ok (.iload 8, 2) := by decide +kernel
theorem dX5_takeLine_116 : decode cX5_takeLine 116 = .ok (.iload 7, 2) := by decide +kernel
theorem dX5_takeLine_118 : decode cX5_takeLine 118 = .ok (.invokestatic 68, 3) := by decide +kernel
theorem dX5_takeLine_121 : decode cX5_takeLine 121 = .ok (.if_icmp .le 5, 3) := by decide +kernel
theorem dX5_takeLine_124 : decode cX5_takeLine 124 = .ok (.iconst 0, 1) := by decide +kernel
theorem dX5_takeLine_125 : decode cX5_takeLine 125 = .ok (.ireturn, 1) := by decide +kernel
theorem dX5_takeLine_126 : decode cX5_takeLine 126 = .ok (.iload 4, 2) := by decide +kernel
theorem dX5_takeLine_128 : decode cX5_takeLine 128 = .ok (.iconst 4, 1) := by decide +kernel
theorem dX5_takeLine_129 : decode cX5_takeLine 129 = .ok (.if_icmp .ne 21, 3) := by decide +kernel
theorem dX5_takeLine_132 : decode cX5_takeLine 132 = .ok (.iload 7, 2) := by decide +kernel
theorem dX5_takeLine_134 : decode cX5_takeLine 134 = .ok (.bipush 75, 2) := by decide +kernel
theorem dX5_takeLine_136 : decode cX5_takeLine 136 = .ok (.if_icmp .ne 14, 3) := by decide +kernel
theorem dX5_takeLine_139 : decode cX5_takeLine 139 = .ok (.iload_n 2, 1) := by decide +kernel
theorem dX5_takeLine_140 : decode cX5_takeLine 140 = .ok (.iload 8, 2) := by decide +kernel
theorem dX5_takeLine_142 : decode cX5_takeLine 142 = .ok (.ishr, 1) := by decide +kernel
theorem dX5_takeLine_143 : decode cX5_takeLine 143 = .ok (.iconst 1, 1) := by decide +kernel
theorem dX5_takeLine_144 : decode cX5_takeLine 144 = .ok (.iand, 1) := by decide +kernel
theorem dX5_takeLine_145 : decode cX5_takeLine 145 = .ok (.ifCond .ne 5, 3) := by decide +kernel
theorem dX5_takeLine_148 : decode cX5_takeLine 148 = .ok (.iconst 0, 1) := by decide +kernel
theorem dX5_takeLine_149 : decode cX5_takeLine 149 = .ok (.ireturn, 1) := by decide +kernel
theorem dX5_takeLine_150 : decode cX5_takeLine 150 = .ok (.aload_n 0, 1) := by decide +kernel
theorem dX5_takeLine_151 : decode cX5_takeLine 151 = .ok (.getfield 19, 3) := by decide +kernel
theorem dX5_takeLine_154 : decode cX5_takeLine 154 = .ok (.iload_n 3, 1) := by decide +kernel
theorem dX5_takeLine_155 : decode cX5_takeLine 155 = .ok (.iload 6, 2) := by decide +kernel
theorem dX5_takeLine_157 : decode cX5_takeLine 157 = .ok (.iadd, 1) := by decide +kernel
theorem dX5_takeLine_158 : decode cX5_takeLine 158 = .ok (.iconst 1, 1) := by decide +kernel
theorem dX5_takeLine_159 : decode cX5_takeLine 159 = .ok (.iadd, 1) := by decide +kernel
theorem dX5_takeLine_160 : decode cX5_takeLine 160 = .ok (.iload 8, 2) := by decide +kernel
theorem dX5_takeLine_162 : decode cX5_takeLine 162 = .ok (.iastore, 1) := by decide +kernel
theorem dX5_takeLine_163 : decode cX5_takeLine 163 = .ok (.iinc 6 1, 3) := by decide +kernel
theorem dX5_takeLine_166 : decode cX5_takeLine 166 = .ok (.goto (-116), 3) := by decide +kernel
theorem dX5_takeLine_169 : decode cX5_takeLine 169 = .ok (.iconst 1, 1) := by decide +kernel
theorem dX5_takeLine_170 : decode cX5_takeLine 170 = .ok (.ireturn, 1) := by decide +kernel
set_option maxRecDepth 20000 in
theorem ggX5_knownBehind_X5_number : GoodIn wsX5_knownBehind wsX5_number := goodIn_r _ [5, 6, 7, 8, 9, 10, 11, 12, 13, 14, 15] (by decide +kernel) (by decide +kernel)
set_option maxRecDepth 20000 in
theorem gX5_knownBehind_X5_number : GoodIn wsX5_knownBehind (wsV RX5 72 RX5 yX5_number wsX5_number) := goodIn_app (goodIn_of _ (by decide +kernel)) ggX5_knownBehind_X5_number
theorem dX5_knownBehind_0 : decode cX5_knownBehind 0 = .ok (.aload_n 0, 1) := by decide +kernel
theorem dX5_knownBehind_1 : decode cX5_knownBehind 1 = .ok (.iload_n 1, 1) := by decide +kernel
theorem dX5_knownBehind_2 : decode cX5_knownBehind 2 = .ok (.iconst 0, 1) := by decide +kernel
theorem dX5_knownBehind_3 : decode cX5_knownBehind 3 = .ok (.invokevirtual 72, 3) := by decide +kernel
theorem dX5_knownBehind_6 : decode cX5_knownBehind 6 = .ok (.istore_n 3, 1) := by decide +kernel
theorem dX5_knownBehind_7 : decode cX5_knownBehind 7 = .ok (.iload_n 3, 1) := by decide +kernel
theorem dX5_knownBehind_8 : decode cX5_knownBehind 8 = .ok (.iconst 3, 1) := by decide +kernel
theorem dX5_knownBehind_9 : decode cX5_knownBehind 9 = .ok (.if_icmp .ne 16, 3) := by decide +kernel
theorem dX5_knownBehind_12 : decode cX5_knownBehind 12 = .ok (.iload_n 2, 1) := by decide +kernel
theorem dX5_knownBehind_13 : decode cX5_knownBehind 13 = .ok (.iconst 1, 1) := by decide +kernel
theorem dX5_knownBehind_14 : decode cX5_knownBehind 14 = .ok (.aload_n 0, 1) := by decide +kernel
theorem dX5_knownBehind_15 : decode cX5_knownBehind 15 = .ok (.iload_n 1, 1) := by decide +kernel
theorem dX5_knownBehind_16 : decode cX5_knownBehind 16 = .ok (.iconst 1, 1) := by decide +kernel
theorem dX5_knownBehind_17 : decode cX5_knownBehind 17 = .ok (.invokevirtual 72, 3) := by decide +kernel
theorem dX5_knownBehind_20 : decode cX5_knownBehind 20 = .ok (.ishl, 1) := by decide +kernel
theorem dX5_knownBehind_21 : decode cX5_knownBehind 21 = .ok (.iconst (-1), 1) := by decide +kernel
theorem dX5_knownBehind_22 : decode cX5_knownBehind 22 = .ok (.ixor, 1) := by decide +kernel
theorem dX5_knownBehind_23 : decode cX5_knownBehind 23 = .ok (.iand, 1) := by decide +kernel
theorem dX5_knownBehind_24 : decode cX5_knownBehind 24 = .ok (.ireturn, 1) := by decide +kernel
theorem dX5_knownBehind_25 : decode cX5_knownBehind 25 = .ok (.iload_n 3, 1) := by decide +kernel
theorem dX5_knownBehind_26 : decode cX5_knownBehind 26 = .ok (.ifCond .eq 13, 3) := by decide +kernel
theorem dX5_knownBehind_29 : decode cX5_knownBehind 29 = .ok (.iload_n 3, 1) := by decide +kernel
theorem dX5_knownBehind_30 : decode cX5_knownBehind 30 = .ok (.iconst 1, 1) := by decide +kernel
theorem dX5_knownBehind_31 : decode cX5_knownBehind 31 = .ok (.if_icmp .eq 8, 3) := by decide +kernel
theorem dX5_knownBehind_34 : decode cX5_knownBehind 34 = .ok (.iload_n 3, 1) := by decide +kernel
theorem dX5_knownBehind_35 : decode cX5_knownBehind 35 = .ok (.iconst 2, 1) := by decide +kernel
theorem dX5_knownBehind_36 : decode cX5_knownBehind 36 = .ok (.if_icmp .ne 14, 3) := by decide +kernel
theorem dX5_knownBehind_39 : decode cX5_knownBehind 39 = .ok (.iload_n 2, 1) := by decide +kernel
theorem dX5_knownBehind_40 : decode cX5_knownBehind 40 = .ok (.iconst 1, 1) := by decide +kernel
theorem dX5_knownBehind_41 : decode cX5_knownBehind 41 = .ok (.aload_n 0, 1) := by decide +kernel
theorem dX5_knownBehind_42 : decode cX5_knownBehind 42 = .ok (.iload_n 1, 1) := by decide +kernel
theorem dX5_knownBehind_43 : decode cX5_knownBehind 43 = .ok (.iconst 1, 1) := by decide +kernel
theorem dX5_knownBehind_44 : decode cX5_knownBehind 44 = .ok (.invokevirtual 72, 3) := by decide +kernel
theorem dX5_knownBehind_47 : decode cX5_knownBehind 47 = .ok (.ishl, 1) := by decide +kernel
theorem dX5_knownBehind_48 : decode cX5_knownBehind 48 = .ok (.ior, 1) := by decide +kernel
theorem dX5_knownBehind_49 : decode cX5_knownBehind 49 = .ok (.ireturn, 1) := by decide +kernel
theorem dX5_knownBehind_50 : decode cX5_knownBehind 50 = .ok (.iload_n 2, 1) := by decide +kernel
theorem dX5_knownBehind_51 : decode cX5_knownBehind 51 = .ok (.ireturn, 1) := by decide +kernel
set_option maxRecDepth 20000 in
theorem ggX5_takeToken_X5_signAt : GoodIn wsX5_takeToken wsX5_signAt := goodIn_r _ [8, 3, 9, 16, 17, 18, 19, 20, 21] (by decide +kernel) (by decide +kernel)
set_option maxRecDepth 20000 in
theorem gX5_takeToken_X5_signAt : GoodIn wsX5_takeToken (wsV RX5 45 RX5 yX5_signAt wsX5_signAt) := goodIn_app (goodIn_of _ (by decide +kernel)) ggX5_takeToken_X5_signAt
set_option maxRecDepth 20000 in
theorem ggX5_takeToken_X5_isLetter : GoodIn wsX5_takeToken wsX5_isLetter := goodIn_r _ [12] (by decide +kernel) (by decide +kernel)
set_option maxRecDepth 20000 in
theorem gX5_takeToken_X5_isLetter : GoodIn wsX5_takeToken (va_wsS RX5 75 yX5_isLetter wsX5_isLetter) := goodIn_app (goodIn_of _ (by decide +kernel)) ggX5_takeToken_X5_isLetter
set_option maxRecDepth 20000 in
theorem ggX5_takeToken_X5_isDigit : GoodIn wsX5_takeToken wsX5_isDigit := goodIn_r _ [15] (by decide +kernel) (by decide +kernel)
set_option maxRecDepth 20000 in
theorem gX5_takeToken_X5_isDigit : GoodIn wsX5_takeToken (va_wsS RX5 79 yX5_isDigit wsX5_isDigit) := goodIn_app (goodIn_of _ (by decide +kernel)) ggX5_takeToken_X5_isDigit
theorem dX5_takeToken_0 : decode cX5_takeToken 0 = .ok (.aload_n 0, 1) := by decide +kernel
theorem dX5_takeToken_1 : decode cX5_takeToken 1 = .ok (.aload_n 0, 1) := by decide +kernel
theorem dX5_takeToken_2 : decode cX5_takeToken 2 = .ok (.getfield 28, 3) := by decide +kernel
theorem dX5_takeToken_5 : decode cX5_takeToken 5 = .ok (.putfield 25, 3) := by decide +kernel
theorem dX5_takeToken_8 : decode cX5_takeToken 8 = .ok (.aload_n 0, 1) := by decide +kernel
theorem dX5_takeToken_9 : decode cX5_takeToken 9 = .ok (.getfield 25, 3) := by decide +kernel
theorem dX5_takeToken_12 : decode cX5_takeToken 12 = .ok (.aload_n 0, 1) := by decide +kernel
theorem dX5_takeToken_13 : decode cX5_takeToken 13 = .ok (.getfield 15, 3) := by decide +kernel
theorem dX5_takeToken_16 : decode cX5_takeToken 16 = .ok (.if_icmp .ge 29, 3) := by decide +kernel
theorem dX5_takeToken_19 : decode cX5_takeToken 19 = .ok (.aload_n 0, 1) := by decide +kernel
theorem dX5_takeToken_20 : decode cX5_takeToken 20 = .ok (.aload_n 0, 1) := by decide +kernel
theorem dX5_takeToken_21 : decode cX5_takeToken 21 = .ok (.getfield 25, 3) := by decide +kernel
theorem dX5_takeToken_24 : decode cX5_takeToken 24 = .ok (.invokevirtual 45, 3) := by decide +kernel
theorem dX5_takeToken_27 : decode cX5_takeToken 27 = .ok (.bipush 32, 2) := by decide +kernel
theorem dX5_takeToken_29 : decode cX5_takeToken 29 = .ok (.if_icmp .ne 16, 3) := by decide +kernel
theorem dX5_takeToken_32 : decode cX5_takeToken 32 = .ok (.aload_n 0, 1) := by decide +kernel
theorem dX5_takeToken_33 : decode cX5_takeToken 33 = .ok (.dup, 1) := by decide +kernel
theorem dX5_takeToken_34 : decode cX5_takeToken 34 = .ok (.getfield 25, 3) := by decide +kernel
theorem dX5_takeToken_37 : decode cX5_takeToken 37 = .ok (.iconst 1, 1) := by decide +kernel
theorem dX5_takeToken_38 : decode cX5_takeToken 38 = .ok (.iadd, 1) := by decide +kernel
theorem dX5_takeToken_39 : decode cX5_takeToken 39 = .ok (.putfield 25, 3) := by decide +kernel
theorem dX5_takeToken_42 : decode cX5_takeToken 42 = .ok (.goto (-34), 3) := by decide +kernel
theorem dX5_takeToken_45 : decode cX5_takeToken 45 = .ok (.aload_n 0, 1) := by decide +kernel
theorem dX5_takeToken_46 : decode cX5_takeToken 46 = .ok (.aload_n 0, 1) := by decide +kernel
theorem dX5_takeToken_47 : decode cX5_takeToken 47 = .ok (.getfield 25, 3) := by decide +kernel
theorem dX5_takeToken_50 : decode cX5_takeToken 50 = .ok (.putfield 28, 3) := by decide +kernel
theorem dX5_takeToken_53 : decode cX5_takeToken 53 = .ok (.aload_n 0, 1) := by decide +kernel
theorem dX5_takeToken_54 : decode cX5_takeToken 54 = .ok (.aload_n 0, 1) := by decide +kernel
theorem dX5_takeToken_55 : decode cX5_takeToken 55 = .ok (.getfield 25, 3) := by decide +kernel
theorem dX5_takeToken_58 : decode cX5_takeToken 58 = .ok (.invokevirtual 45, 3) := by decide +kernel
theorem dX5_takeToken_61 : decode cX5_takeToken 61 = .ok (.invokestatic 75, 3) := by decide +kernel
theorem dX5_takeToken_64 : decode cX5_takeToken 64 = .ok (.ifCond .eq 41, 3) := by decide +kernel
theorem dX5_takeToken_67 : decode cX5_takeToken 67 = .ok (.aload_n 0, 1) := by decide +kernel
theorem dX5_takeToken_68 : decode cX5_takeToken 68 = .ok (.getfield 28, 3) := by decide +kernel
theorem dX5_takeToken_71 : decode cX5_takeToken 71 = .ok (.aload_n 0, 1) := by decide +kernel
theorem dX5_takeToken_72 : decode cX5_takeToken 72 = .ok (.getfield 15, 3) := by decide +kernel
theorem dX5_takeToken_75 : decode cX5_takeToken 75 = .ok (.if_icmp .ge 103, 3) := by decide +kernel
theorem dX5_takeToken_78 : decode cX5_takeToken 78 = .ok (.aload_n 0, 1) := by decide +kernel
theorem dX5_takeToken_79 : decode cX5_takeToken 79 = .ok (.aload_n 0, 1) := by decide +kernel
theorem dX5_takeToken_80 : decode cX5_takeToken 80 = .ok (.getfield 28, 3) := by decide +kernel
theorem dX5_takeToken_83 : decode cX5_takeToken 83 = .ok (.invokevirtual 45, 3) := by decide +kernel
theorem dX5_takeToken_86 : decode cX5_takeToken 86 = .ok (.invokestatic 75, 3) := by decide +kernel
theorem dX5_takeToken_89 : decode cX5_takeToken 89 = .ok (.ifCond .eq 89, 3) := by decide +kernel
theorem dX5_takeToken_92 : decode cX5_takeToken 92 = .ok (.aload_n 0, 1) := by decide +kernel
theorem dX5_takeToken_93 : decode cX5_takeToken 93 = .ok (.dup, 1) := by decide +kernel
theorem dX5_takeToken_94 : decode cX5_takeToken 94 = .ok (.getfield 28, 3) := by decide +kernel
theorem dX5_takeToken_97 : decode cX5_takeToken 97 = .ok (.iconst 1, 1) := by decide +kernel
theorem dX5_takeToken_98 : decode cX5_takeToken 98 = .ok (.iadd, 1) := by decide +kernel
theorem dX5_takeToken_99 : decode cX5_takeToken 99 = .ok (.putfield 28, 3) := by decide +kernel
theorem dX5_takeToken_102 : decode cX5_takeToken 102 = .ok (.goto (-35), 3) := by decide +kernel
theorem dX5_takeToken_105 : decode cX5_takeToken 105 = .ok (.aload_n 0, 1) := by decide +kernel
theorem dX5_takeToken_106 : decode cX5_takeToken 106 = .ok (.aload_n 0, 1) := by decide +kernel
theorem dX5_takeToken_107 : decode cX5_takeToken 107 = .ok (.getfield 25, 3) := by decide +kernel
theorem dX5_takeToken_110 : decode cX5_takeToken 110 = .ok (.invokevirtual 45, 3) := by decide +kernel
theorem dX5_takeToken_113 : decode cX5_takeToken 113 = .ok (.invokestatic 79, 3) := by decide +kernel
theorem dX5_takeToken_116 : decode cX5_takeToken 116 = .ok (.ifCond .eq 41, 3) := by decide +kernel
theorem dX5_takeToken_119 : decode cX5_takeToken 119 = .ok (.aload_n 0, 1) := by decide +kernel
theorem dX5_takeToken_120 : decode cX5_takeToken 120 = .ok (.getfield 28, 3) := by decide +kernel
theorem dX5_takeToken_123 : decode cX5_takeToken 123 = .ok (.aload_n 0, 1) := by decide +kernel
theorem dX5_takeToken_124 : decode cX5_takeToken 124 = .ok (.getfield 15, 3) := by decide +kernel
theorem dX5_takeToken_127 : decode cX5_takeToken 127 = .ok (.if_icmp .ge 51, 3) := by decide +kernel
theorem dX5_takeToken_130 : decode cX5_takeToken 130 = .ok (.aload_n 0, 1) := by decide +kernel
theorem dX5_takeToken_131 : decode cX5_takeToken 131 = .ok (.aload_n 0, 1) := by decide +kernel
theorem dX5_takeToken_132 : decode cX5_takeToken 132 = .ok (.getfield 28, 3) := by decide +kernel
theorem dX5_takeToken_135 : decode cX5_takeToken 135 = .ok (.invokevirtual 45, 3) := by decide +kernel
theorem dX5_takeToken_138 : decode cX5_takeToken 138 = .ok (.invokestatic 79, 3) := by decide +kernel
theorem dX5_takeToken_141 : decode cX5_takeToken 141 = .ok (.ifCond .eq 37, 3) := by decide +kernel
theorem dX5_takeToken_144 : decode cX5_takeToken 144 = .ok (.aload_n 0, 1) := by decide +kernel
theorem dX5_takeToken_145 : decode cX5_takeToken 145 = .ok (.dup, 1) := by decide +kernel
theorem dX5_takeToken_146 : decode cX5_takeToken 146 = .ok (.getfield 28, 3) := by decide +kernel
theorem dX5_takeToken_149 : decode cX5_takeToken 149 = .ok (.iconst 1, 1) := by decide +kernel
theorem dX5_takeToken_150 : decode cX5_takeToken 150 = .ok (.iadd, 1) := by decide +kernel
theorem dX5_takeToken_151 : decode cX5_takeToken 151 = .ok (.putfield 28, 3) := by decide +kernel
theorem dX5_takeToken_154 : decode cX5_takeToken 154 = .ok (.goto (-35), 3) := by decide +kernel
theorem dX5_takeToken_157 : decode cX5_takeToken 157 = .ok (.aload_n 0, 1) := by decide +kernel
theorem dX5_takeToken_158 : decode cX5_takeToken 158 = .ok (.getfield 25, 3) := by decide +kernel
theorem dX5_takeToken_161 : decode cX5_takeToken 161 = .ok (.aload_n 0, 1) := by decide +kernel
theorem dX5_takeToken_162 : decode cX5_takeToken 162 = .ok (.getfield 15, 3) := by decide +kernel
theorem dX5_takeToken_165 : decode cX5_takeToken 165 = .ok (.if_icmp .ge 13, 3) := by decide +kernel
theorem dX5_takeToken_168 : decode cX5_takeToken 168 = .ok (.aload_n 0, 1) := by decide +kernel
theorem dX5_takeToken_169 : decode cX5_takeToken 169 = .ok (.dup, 1) := by decide +kernel
theorem dX5_takeToken_170 : decode cX5_takeToken 170 = .ok (.getfield 28, 3) := by decide +kernel
theorem dX5_takeToken_173 : decode cX5_takeToken 173 = .ok (.iconst 1, 1) := by decide +kernel
theorem dX5_takeToken_174 : decode cX5_takeToken 174 = .ok (.iadd, 1) := by decide +kernel
theorem dX5_takeToken_175 : decode cX5_takeToken 175 = .ok (.putfield 28, 3) := by decide +kernel
theorem dX5_takeToken_178 : decode cX5_takeToken 178 = .ok (.return_, 1) := by decide +kernel
theorem dX5_signAt_0 : decode cX5_signAt 0 = .ok (.iload_n 1, 1) := by decide +kernel
theorem dX5_signAt_1 : decode cX5_signAt 1 = .ok (.ifCond .lt 27, 3) := by decide +kernel
theorem dX5_signAt_4 : decode cX5_signAt 4 = .ok (.iload_n 1, 1) := by decide +kernel
theorem dX5_signAt_5 : decode cX5_signAt 5 = .ok (.aload_n 0, 1) := by decide +kernel
theorem dX5_signAt_6 : decode cX5_signAt 6 = .ok (.getfield 15, 3) := by decide +kernel
theorem dX5_signAt_9 : decode cX5_signAt 9 = .ok (.if_icmp .ge 19, 3) := by decide +kernel
theorem dX5_signAt_12 : decode cX5_signAt 12 = .ok (.iload_n 1, 1) := by decide +kernel
theorem dX5_signAt_13 : decode cX5_signAt 13 = .ok (.sipush 200, 3) := by decide +kernel
theorem dX5_signAt_16 : decode cX5_signAt 16 = .ok (.if_icmp .ge 12, 3) := by decide +kernel
theorem dX5_signAt_19 : decode cX5_signAt 19 = .ok (.aload_n 0, 1) := by decide +kernel
theorem dX5_signAt_20 : decode cX5_signAt 20 = .ok (.getfield 9, 3) := by decide +kernel
theorem dX5_signAt_23 : decode cX5_signAt 23 = .ok (.iload_n 1, 1) := by decide +kernel
theorem dX5_signAt_24 : decode cX5_signAt 24 = .ok (.iaload, 1) := by decide +kernel
theorem dX5_signAt_25 : decode cX5_signAt 25 = .ok (.goto 4, 3) := by decide +kernel
theorem dX5_signAt_28 : decode cX5_signAt 28 = .ok (.iconst (-1), 1) := by decide +kernel
theorem dX5_signAt_29 : decode cX5_signAt 29 = .ok (.ireturn, 1) := by decide +kernel
set_option maxRecDepth 20000 in
theorem ggX5_wordTaken_X5_wordOf : GoodIn wsX5_wordTaken wsX5_wordOf := goodIn_r _ [4] (by decide +kernel) (by decide +kernel)
set_option maxRecDepth 20000 in
theorem gX5_wordTaken_X5_wordOf : GoodIn wsX5_wordTaken (va_wsS RX5 82 yX5_wordOf wsX5_wordOf) := goodIn_app (goodIn_of _ (by decide +kernel)) ggX5_wordTaken_X5_wordOf
set_option maxRecDepth 20000 in
theorem ggX5_wordTaken_X5_isTaken : GoodIn wsX5_wordTaken wsX5_isTaken := goodIn_r _ [8, 9, 10, 11, 12, 13, 14, 15, 16, 17, 18, 19, 20, 21, 22, 23, 24, 25, 3, 26, 27, 28, 29, 30, 31, 32, 33, 34, 35, 36, 37, 38, 39, 40, 41, 42, 43, 44, 45, 46, 47, 48, 49, 50, 51, 52, 53, 54, 55, 56, 57, 58, 59, 60, 61, 62, 63, 64, 65, 66, 67, 68, 69, 70, 71] (by decide +kernel) (by decide +kernel)
set_option maxRecDepth 20000 in
theorem gX5_wordTaken_X5_isTaken : GoodIn wsX5_wordTaken (wsV RX5 85 RX5 yX5_isTaken wsX5_isTaken) := goodIn_app (goodIn_of _ (by decide +kernel)) ggX5_wordTaken_X5_isTaken
theorem dX5_wordTaken_0 : decode cX5_wordTaken 0 = .ok (.iconst 0, 1) := by decide +kernel
theorem dX5_wordTaken_1 : decode cX5_wordTaken 1 = .ok (.istore_n 1, 1) := by decide +kernel
theorem dX5_wordTaken_2 : decode cX5_wordTaken 2 = .ok (.iload_n 1, 1) := by decide +kernel
theorem dX5_wordTaken_3 : decode cX5_wordTaken 3 = .ok (.bipush 6, 2) := by decide +kernel
theorem dX5_wordTaken_5 : decode cX5_wordTaken 5 = .ok (.if_icmp .ge 22, 3) := by decide +kernel
theorem dX5_wordTaken_8 : decode cX5_wordTaken 8 = .ok (.aload_n 0, 1) := by decide +kernel
theorem dX5_wordTaken_9 : decode cX5_wordTaken 9 = .ok (.iload_n 1, 1) := by decide +kernel
theorem dX5_wordTaken_10 : decode cX5_wordTaken 10 = .ok (.invokestatic 82, 3) := by decide +kernel
theorem dX5_wordTaken_13 : decode cX5_wordTaken 13 = .ok (.invokevirtual 85, 3) := by decide +kernel
theorem dX5_wordTaken_16 : decode cX5_wordTaken 16 = .ok (.ifCond .eq 5, 3) := by decide +kernel
theorem dX5_wordTaken_19 : decode cX5_wordTaken 19 = .ok (.iload_n 1, 1) := by decide +kernel
theorem dX5_wordTaken_20 : decode cX5_wordTaken 20 = .ok (.ireturn, 1) := by decide +kernel
theorem dX5_wordTaken_21 : decode cX5_wordTaken 21 = .ok (.iinc 1 1, 3) := by decide +kernel
theorem dX5_wordTaken_24 : decode cX5_wordTaken 24 = .ok (.goto (-22), 3) := by decide +kernel
theorem dX5_wordTaken_27 : decode cX5_wordTaken 27 = .ok (.iconst (-1), 1) := by decide +kernel
theorem dX5_wordTaken_28 : decode cX5_wordTaken 28 = .ok (.ireturn, 1) := by decide +kernel
set_option maxRecDepth 20000 in
theorem ggX5_isTaken_J0_length_8abf5 : GoodIn wsX5_isTaken wsJ0_length_8abf5 := goodIn_r _ [7, 8, 9, 10, 11, 6, 12, 13, 14] (by decide +kernel) (by decide +kernel)
set_option maxRecDepth 20000 in
theorem gX5_isTaken_J0_length_8abf5 : GoodIn wsX5_isTaken (wsV RX5 57 RJ0 yJ0_length_8abf5 wsJ0_length_8abf5) := goodIn_app (goodIn_of _ (by decide +kernel)) ggX5_isTaken_J0_length_8abf5
set_option maxRecDepth 20000 in
theorem ggX5_isTaken_X5_signAt : GoodIn wsX5_isTaken wsX5_signAt := goodIn_r _ [19, 20, 21, 59, 60, 61, 62, 63, 64] (by decide +kernel) (by decide +kernel)
set_option maxRecDepth 20000 in
theorem gX5_isTaken_X5_signAt : GoodIn wsX5_isTaken (wsV RX5 45 RX5 yX5_signAt wsX5_signAt) := goodIn_app (goodIn_of _ (by decide +kernel)) ggX5_isTaken_X5_signAt
set_option maxRecDepth 20000 in
theorem ggX5_isTaken_J0_charAt_5068e : GoodIn wsX5_isTaken wsJ0_charAt_5068e := goodIn_r _ [25, 8, 26, 27, 28, 6, 29, 13, 14, 30, 31, 32, 33, 34, 35, 36, 37, 38, 39, 40, 41, 42, 43, 44, 45, 46, 47, 48, 49, 50, 51, 52, 53, 54, 55, 56, 57, 58] (by decide +kernel) (by decide +kernel)
set_option maxRecDepth 20000 in
theorem gX5_isTaken_J0_charAt_5068e : GoodIn wsX5_isTaken (wsV RX5 61 RJ0 yJ0_charAt_5068e wsJ0_charAt_5068e) := goodIn_app (goodIn_of _ (by decide +kernel)) ggX5_isTaken_J0_charAt_5068e
theorem dX5_isTaken_0 : decode cX5_isTaken 0 = .ok (.aload_n 0, 1) := by decide +kernel
theorem dX5_isTaken_1 : decode cX5_isTaken 1 = .ok (.getfield 28, 3) := by decide +kernel
theorem dX5_isTaken_4 : decode cX5_isTaken 4 = .ok (.aload_n 0, 1) := by decide +kernel
theorem dX5_isTaken_5 : decode cX5_isTaken 5 = .ok (.getfield 25, 3) := by decide +kernel
theorem dX5_isTaken_8 : decode cX5_isTaken 8 = .ok (.isub, 1) := by decide +kernel
theorem dX5_isTaken_9 : decode cX5_isTaken 9 = .ok (.aload_n 1, 1) := by decide +kernel
theorem dX5_isTaken_10 : decode cX5_isTaken 10 = .ok (.invokevirtual 57, 3) := by decide +kernel
theorem dX5_isTaken_13 : decode cX5_isTaken 13 = .ok (.if_icmp .eq 5, 3) := by decide +kernel
theorem dX5_isTaken_16 : decode cX5_isTaken 16 = .ok (.iconst 0, 1) := by decide +kernel
theorem dX5_isTaken_17 : decode cX5_isTaken 17 = .ok (.ireturn, 1) := by decide +kernel
theorem dX5_isTaken_18 : decode cX5_isTaken 18 = .ok (.iconst 0, 1) := by decide +kernel
theorem dX5_isTaken_19 : decode cX5_isTaken 19 = .ok (.istore_n 2, 1) := by decide +kernel
theorem dX5_isTaken_20 : decode cX5_isTaken 20 = .ok (.iload_n 2, 1) := by decide +kernel
theorem dX5_isTaken_21 : decode cX5_isTaken 21 = .ok (.aload_n 1, 1) := by decide +kernel
theorem dX5_isTaken_22 : decode cX5_isTaken 22 = .ok (.invokevirtual 57, 3) := by decide +kernel
theorem dX5_isTaken_25 : decode cX5_isTaken 25 = .ok (.if_icmp .ge 29, 3) := by decide +kernel
theorem dX5_isTaken_28 : decode cX5_isTaken 28 = .ok (.aload_n 0, 1) := by decide +kernel
theorem dX5_isTaken_29 : decode cX5_isTaken 29 = .ok (.aload_n 0, 1) := by decide +kernel
theorem dX5_isTaken_30 : decode cX5_isTaken 30 = .ok (.getfield 25, 3) := by decide +kernel
theorem dX5_isTaken_33 : decode cX5_isTaken 33 = .ok (.iload_n 2, 1) := by decide +kernel
theorem dX5_isTaken_34 : decode cX5_isTaken 34 = .ok (.iadd, 1) := by decide +kernel
theorem dX5_isTaken_35 : decode cX5_isTaken 35 = .ok (.invokevirtual 45, 3) := by decide +kernel
theorem dX5_isTaken_38 : decode cX5_isTaken 38 = .ok (.aload_n 1, 1) := by decide +kernel
theorem dX5_isTaken_39 : decode cX5_isTaken 39 = .ok (.iload_n 2, 1) := by decide +kernel
theorem dX5_isTaken_40 : decode cX5_isTaken 40 = .ok (.invokevirtual 61, 3) := by decide +kernel
theorem dX5_isTaken_43 : decode cX5_isTaken 43 = .ok (.if_icmp .eq 5, 3) := by decide +kernel
theorem dX5_isTaken_46 : decode cX5_isTaken 46 = .ok (.iconst 0, 1) := by decide +kernel
theorem dX5_isTaken_47 : decode cX5_isTaken 47 = .ok (.ireturn, 1) := by decide +kernel
theorem dX5_isTaken_48 : decode cX5_isTaken 48 = .ok (.iinc 2 1, 3) := by decide +kernel
theorem dX5_isTaken_51 : decode cX5_isTaken 51 = .ok (.goto (-31), 3) := by decide +kernel
theorem dX5_isTaken_54 : decode cX5_isTaken 54 = .ok (.iconst 1, 1) := by decide +kernel
theorem dX5_isTaken_55 : decode cX5_isTaken 55 = .ok (.ireturn, 1) := by decide +kernel
set_option maxRecDepth 20000 in
theorem ggX5_numberTaken_X5_signAt : GoodIn wsX5_numberTaken wsX5_signAt := goodIn_r _ [7, 8, 9, 13, 14, 15, 16, 17, 18] (by decide +kernel) (by decide +kernel)
set_option maxRecDepth 20000 in
theorem gX5_numberTaken_X5_signAt : GoodIn wsX5_numberTaken (wsV RX5 45 RX5 yX5_signAt wsX5_signAt) := goodIn_app (goodIn_of _ (by decide +kernel)) ggX5_numberTaken_X5_signAt
set_option maxRecDepth 20000 in
theorem ggX5_numberTaken_X5_isDigit : GoodIn wsX5_numberTaken wsX5_isDigit := goodIn_r _ [12] (by decide +kernel) (by decide +kernel)
set_option maxRecDepth 20000 in
theorem gX5_numberTaken_X5_isDigit : GoodIn wsX5_numberTaken (va_wsS RX5 79 yX5_isDigit wsX5_isDigit) := goodIn_app (goodIn_of _ (by decide +kernel)) ggX5_numberTaken_X5_isDigit
theorem dX5_numberTaken_0 : decode cX5_numberTaken 0 = .ok (.aload_n 0, 1) := by decide +kernel
theorem dX5_numberTaken_1 : decode cX5_numberTaken 1 = .ok (.getfield 28, 3) := by decide +kernel
theorem dX5_numberTaken_4 : decode cX5_numberTaken 4 = .ok (.aload_n 0, 1) := by decide +kernel
theorem dX5_numberTaken_5 : decode cX5_numberTaken 5 = .ok (.getfield 25, 3) := by decide +kernel
theorem dX5_numberTaken_8 : decode cX5_numberTaken 8 = .ok (.isub, 1) := by decide +kernel
theorem dX5_numberTaken_9 : decode cX5_numberTaken 9 = .ok (.iconst 4, 1) := by decide +kernel
theorem dX5_numberTaken_10 : decode cX5_numberTaken 10 = .ok (.if_icmp .gt 17, 3) := by decide +kernel
theorem dX5_numberTaken_13 : decode cX5_numberTaken 13 = .ok (.aload_n 0, 1) := by decide +kernel
theorem dX5_numberTaken_14 : decode cX5_numberTaken 14 = .ok (.aload_n 0, 1) := by decide +kernel
theorem dX5_numberTaken_15 : decode cX5_numberTaken 15 = .ok (.getfield 25, 3) := by decide +kernel
theorem dX5_numberTaken_18 : decode cX5_numberTaken 18 = .ok (.invokevirtual 45, 3) := by decide +kernel
theorem dX5_numberTaken_21 : decode cX5_numberTaken 21 = .ok (.invokestatic 79, 3) := by decide +kernel
theorem dX5_numberTaken_24 : decode cX5_numberTaken 24 = .ok (.ifCond .ne 5, 3) := by decide +kernel
theorem dX5_numberTaken_27 : decode cX5_numberTaken 27 = .ok (.iconst (-1), 1) := by decide +kernel
theorem dX5_numberTaken_28 : decode cX5_numberTaken 28 = .ok (.ireturn, 1) := by decide +kernel
theorem dX5_numberTaken_29 : decode cX5_numberTaken 29 = .ok (.iconst 0, 1) := by decide +kernel
theorem dX5_numberTaken_30 : decode cX5_numberTaken 30 = .ok (.istore_n 1, 1) := by decide +kernel
theorem dX5_numberTaken_31 : decode cX5_numberTaken 31 = .ok (.aload_n 0, 1) := by decide +kernel
theorem dX5_numberTaken_32 : decode cX5_numberTaken 32 = .ok (.getfield 25, 3) := by decide +kernel
theorem dX5_numberTaken_35 : decode cX5_numberTaken 35 = .ok (.istore_n 2, 1) := by decide +kernel
theorem dX5_numberTaken_36 : decode cX5_numberTaken 36 = .ok (.iload_n 2, 1) := by decide +kernel
theorem dX5_numberTaken_37 : decode cX5_numberTaken 37 = .ok (.aload_n 0, 1) := by decide +kernel
theorem dX5_numberTaken_38 : decode cX5_numberTaken 38 = .ok (.getfield 28, 3) := by decide +kernel
theorem dX5_numberTaken_41 : decode cX5_numberTaken 41 = .ok (.if_icmp .ge 23, 3) := by decide +kernel
theorem dX5_numberTaken_44 : decode cX5_numberTaken 44 = .ok (.iload_n 1, 1) := by decide +kernel
theorem dX5_numberTaken_45 : decode cX5_numberTaken 45 = .ok (.bipush 10, 2) := by decide +kernel
theorem dX5_numberTaken_47 : decode cX5_numberTaken 47 = .ok (.imul, 1) := by decide +kernel
theorem dX5_numberTaken_48 : decode cX5_numberTaken 48 = .ok (.aload_n 0, 1) := by decide +kernel
theorem dX5_numberTaken_49 : decode cX5_numberTaken 49 = .ok (.iload_n 2, 1) := by decide +kernel
theorem dX5_numberTaken_50 : decode cX5_numberTaken 50 = .ok (.invokevirtual 45, 3) := by decide +kernel
theorem dX5_numberTaken_53 : decode cX5_numberTaken 53 = .ok (.iadd, 1) := by decide +kernel
theorem dX5_numberTaken_54 : decode cX5_numberTaken 54 = .ok (.bipush 48, 2) := by decide +kernel
theorem dX5_numberTaken_56 : decode cX5_numberTaken 56 = .ok (.isub, 1) := by decide +kernel
theorem dX5_numberTaken_57 : decode cX5_numberTaken 57 = .ok (.istore_n 1, 1) := by decide +kernel
theorem dX5_numberTaken_58 : decode cX5_numberTaken 58 = .ok (.iinc 2 1, 3) := by decide +kernel
theorem dX5_numberTaken_61 : decode cX5_numberTaken 61 = .ok (.goto (-25), 3) := by decide +kernel
theorem dX5_numberTaken_64 : decode cX5_numberTaken 64 = .ok (.iload_n 1, 1) := by decide +kernel
theorem dX5_numberTaken_65 : decode cX5_numberTaken 65 = .ok (.ireturn, 1) := by decide +kernel
theorem dX5_isLetter_0 : decode cX5_isLetter 0 = .ok (.iload_n 0, 1) := by decide +kernel
theorem dX5_isLetter_1 : decode cX5_isLetter 1 = .ok (.bipush 97, 2) := by decide +kernel
theorem dX5_isLetter_3 : decode cX5_isLetter 3 = .ok (.if_icmp .lt 13, 3) := by decide +kernel
theorem dX5_isLetter_6 : decode cX5_isLetter 6 = .ok (.iload_n 0, 1) := by decide +kernel
theorem dX5_isLetter_7 : decode cX5_isLetter 7 = .ok (.bipush 122, 2) := by decide +kernel
theorem dX5_isLetter_9 : decode cX5_isLetter 9 = .ok (.if_icmp .gt 7, 3) := by decide +kernel
theorem dX5_isLetter_12 : decode cX5_isLetter 12 = .ok (.iconst 1, 1) := by decide +kernel
theorem dX5_isLetter_13 : decode cX5_isLetter 13 = .ok (.goto 4, 3) := by decide +kernel
theorem dX5_isLetter_16 : decode cX5_isLetter 16 = .ok (.iconst 0, 1) := by decide +kernel
theorem dX5_isLetter_17 : decode cX5_isLetter 17 = .ok (.ireturn, 1) := by decide +kernel
theorem dX5_isDigit_0 : decode cX5_isDigit 0 = .ok (.iload_n 0, 1) := by decide +kernel
theorem dX5_isDigit_1 : decode cX5_isDigit 1 = .ok (.bipush 48, 2) := by decide +kernel
theorem dX5_isDigit_3 : decode cX5_isDigit 3 = .ok (.if_icmp .lt 13, 3) := by decide +kernel
theorem dX5_isDigit_6 : decode cX5_isDigit 6 = .ok (.iload_n 0, 1) := by decide +kernel
theorem dX5_isDigit_7 : decode cX5_isDigit 7 = .ok (.bipush 57, 2) := by decide +kernel
theorem dX5_isDigit_9 : decode cX5_isDigit 9 = .ok (.if_icmp .gt 7, 3) := by decide +kernel
theorem dX5_isDigit_12 : decode cX5_isDigit 12 = .ok (.iconst 1, 1) := by decide +kernel
theorem dX5_isDigit_13 : decode cX5_isDigit 13 = .ok (.goto 4, 3) := by decide +kernel
theorem dX5_isDigit_16 : decode cX5_isDigit 16 = .ok (.iconst 0, 1) := by decide +kernel
theorem dX5_isDigit_17 : decode cX5_isDigit 17 = .ok (.ireturn, 1) := by decide +kernel
theorem dX5_wordOf_0 : decode cX5_wordOf 0 = .ok (.iload_n 0, 1) := by decide +kernel
theorem dX5_wordOf_1 : decode cX5_wordOf 1 = .ok (.tableswitch 50 0 4 #[35, 38, 41, 44, 47], 35) := by decide +kernel
theorem dX5_wordOf_36 : decode cX5_wordOf 36 = .ok (.ldc 89, 2) := by decide +kernel
theorem dX5_wordOf_38 : decode cX5_wordOf 38 = .ok (.areturn, 1) := by decide +kernel
theorem dX5_wordOf_39 : decode cX5_wordOf 39 = .ok (.ldc 91, 2) := by decide +kernel
theorem dX5_wordOf_41 : decode cX5_wordOf 41 = .ok (.areturn, 1) := by decide +kernel
theorem dX5_wordOf_42 : decode cX5_wordOf 42 = .ok (.ldc 93, 2) := by decide +kernel
theorem dX5_wordOf_44 : decode cX5_wordOf 44 = .ok (.areturn, 1) := by decide +kernel
theorem dX5_wordOf_45 : decode cX5_wordOf 45 = .ok (.ldc 95, 2) := by decide +kernel
theorem dX5_wordOf_47 : decode cX5_wordOf 47 = .ok (.areturn, 1) := by decide +kernel
theorem dX5_wordOf_48 : decode cX5_wordOf 48 = .ok (.ldc 97, 2) := by decide +kernel
theorem dX5_wordOf_50 : decode cX5_wordOf 50 = .ok (.areturn, 1) := by decide +kernel
theorem dX5_wordOf_51 : decode cX5_wordOf 51 = .ok (.ldc 99, 2) := by decide +kernel
theorem dX5_wordOf_53 : decode cX5_wordOf 53 = .ok (.areturn, 1) := by decide +kernel
theorem dX5_numbersOf_0 : decode cX5_numbersOf 0 = .ok (.iload_n 0, 1) := by decide +kernel
theorem dX5_numbersOf_1 : decode cX5_numbersOf 1 = .ok (.tableswitch 47 0 4 #[35, 35, 38, 41, 44], 35) := by decide +kernel
theorem dX5_numbersOf_36 : decode cX5_numbersOf 36 = .ok (.ldc 101, 2) := by decide +kernel
theorem dX5_numbersOf_38 : decode cX5_numbersOf 38 = .ok (.areturn, 1) := by decide +kernel
theorem dX5_numbersOf_39 : decode cX5_numbersOf 39 = .ok (.ldc 103, 2) := by decide +kernel
theorem dX5_numbersOf_41 : decode cX5_numbersOf 41 = .ok (.areturn, 1) := by decide +kernel
theorem dX5_numbersOf_42 : decode cX5_numbersOf 42 = .ok (.ldc 105, 2) := by decide +kernel
theorem dX5_numbersOf_44 : decode cX5_numbersOf 44 = .ok (.areturn, 1) := by decide +kernel
theorem dX5_numbersOf_45 : decode cX5_numbersOf 45 = .ok (.ldc 107, 2) := by decide +kernel
theorem dX5_numbersOf_47 : decode cX5_numbersOf 47 = .ok (.areturn, 1) := by decide +kernel
theorem dX5_numbersOf_48 : decode cX5_numbersOf 48 = .ok (.ldc 109, 2) := by decide +kernel
theorem dX5_numbersOf_50 : decode cX5_numbersOf 50 = .ok (.areturn, 1) := by decide +kernel
theorem dX5_mostOf_0 : decode cX5_mostOf 0 = .ok (.iload_n 0, 1) := by decide +kernel
theorem dX5_mostOf_1 : decode cX5_mostOf 1 = .ok (.lookupswitch 54 #[(65, 50), (75, 43), (77, 50), (83, 46)], 43) := by decide +kernel
theorem dX5_mostOf_44 : decode cX5_mostOf 44 = .ok (.bipush 7, 2) := by decide +kernel
theorem dX5_mostOf_46 : decode cX5_mostOf 46 = .ok (.ireturn, 1) := by decide +kernel
theorem dX5_mostOf_47 : decode cX5_mostOf 47 = .ok (.sipush 4319, 3) := by decide +kernel
theorem dX5_mostOf_50 : decode cX5_mostOf 50 = .ok (.ireturn, 1) := by decide +kernel
theorem dX5_mostOf_51 : decode cX5_mostOf 51 = .ok (.sipush 719, 3) := by decide +kernel
theorem dX5_mostOf_54 : decode cX5_mostOf 54 = .ok (.ireturn, 1) := by decide +kernel
theorem dX5_mostOf_55 : decode cX5_mostOf 55 = .ok (.sipush 240, 3) := by decide +kernel
theorem dX5_mostOf_58 : decode cX5_mostOf 58 = .ok (.ireturn, 1) := by decide +kernel
