theorem dX6_present_28 : decode cX6_present 28 = .ok (.ireturn, 1) := by decide +kernel
theorem dX7_init_0 : decode cX7_init 0 = .ok (.aload_n 0, 1) := by decide +kernel
theorem dX7_init_1 : decode cX7_init 1 = .ok (.invokespecial 3, 3) := by decide +kernel
theorem dX7_init_4 : decode cX7_init 4 = .ok (.aload_n 0, 1) := by decide +kernel
theorem dX7_init_5 : decode cX7_init 5 = .ok (.sipush 400, 3) := by decide +kernel
theorem dX7_init_8 : decode cX7_init 8 = .ok (.newarray .byte, 2) := by decide +kernel
theorem dX7_init_10 : decode cX7_init 10 = .ok (.putfield 9, 3) := by decide +kernel
theorem dX7_init_13 : decode cX7_init 13 = .ok (.return_, 1) := by decide +kernel
theorem dX7_write_0 : decode cX7_write 0 = .ok (.iload_n 3, 1) := by decide +kernel
theorem dX7_write_1 : decode cX7_write 1 = .ok (.iconst 1, 1) := by decide +kernel
theorem dX7_write_2 : decode cX7_write 2 = .ok (.isub, 1) := by decide +kernel
theorem dX7_write_3 : decode cX7_write 3 = .ok (.istore 4, 2) := by decide +kernel
theorem dX7_write_5 : decode cX7_write 5 = .ok (.iload 4, 2) := by decide +kernel
theorem dX7_write_7 : decode cX7_write 7 = .ok (.ifCond .lt 47, 3) := by decide +kernel
theorem dX7_write_10 : decode cX7_write 10 = .ok (.aload_n 0, 1) := by decide +kernel
theorem dX7_write_11 : decode cX7_write 11 = .ok (.getfield 15, 3) := by decide +kernel
theorem dX7_write_14 : decode cX7_write 14 = .ok (.sipush 400, 3) := by decide +kernel
theorem dX7_write_17 : decode cX7_write 17 = .ok (.if_icmp .ge 37, 3) := by decide +kernel
theorem dX7_write_20 : decode cX7_write 20 = .ok (.aload_n 0, 1) := by decide +kernel
theorem dX7_write_21 : decode cX7_write 21 = .ok (.getfield 9, 3) := by decide +kernel
theorem dX7_write_24 : decode cX7_write 24 = .ok (.aload_n 0, 1) := by decide +kernel
theorem dX7_write_25 : decode cX7_write 25 = .ok (.getfield 15, 3) := by decide +kernel
theorem dX7_write_28 : decode cX7_write 28 = .ok (.lload_n 1, 1) := by decide +kernel
theorem dX7_write_29 : decode cX7_write 29 = .ok (.bipush 8, 2) := by decide +kernel
theorem dX7_write_31 : decode cX7_write 31 = .ok (.iload 4, 2) := by decide +kernel
theorem dX7_write_33 : decode cX7_write 33 = .ok (.imul, 1) := by decide +kernel
theorem dX7_write_34 : decode cX7_write 34 = .ok (.lshr, 1) := by decide +kernel
theorem dX7_write_35 : decode cX7_write 35 = .ok (.l2i, 1) := by decide +kernel
theorem dX7_write_36 : decode cX7_write 36 = .ok (.i2b, 1) := by decide +kernel
theorem dX7_write_37 : decode cX7_write 37 = .ok (.bastore, 1) := by decide +kernel
theorem dX7_write_38 : decode cX7_write 38 = .ok (.aload_n 0, 1) := by decide +kernel
theorem dX7_write_39 : decode cX7_write 39 = .ok (.dup, 1) := by decide +kernel
theorem dX7_write_40 : decode cX7_write 40 = .ok (.getfield 15, 3) := by decide +kernel
theorem dX7_write_43 : decode cX7_write 43 = .ok (.iconst 1, 1) := by decide +kernel
theorem dX7_write_44 : decode cX7_write 44 = .ok (.iadd, 1) := by decide +kernel
theorem dX7_write_45 : decode cX7_write 45 = .ok (.putfield 15, 3) := by decide +kernel
theorem dX7_write_48 : decode cX7_write 48 = .ok (.iinc 4 (-1), 3) := by decide +kernel
theorem dX7_write_51 : decode cX7_write 51 = .ok (.goto (-46), 3) := by decide +kernel
theorem dX7_write_54 : decode cX7_write 54 = .ok (.return_, 1) := by decide +kernel
set_option maxRecDepth 20000 in
theorem ggX7_read_X7_step : GoodIn wsX7_read wsX7_step := goodIn_r _ [10, 1, 11, 5, 12, 4, 13, 14, 9, 15, 16, 17, 18, 19, 20, 21, 22, 23, 24, 25, 26, 27, 28, 29, 30, 126, 127, 128, 129, 130, 131, 132] (by decide +kernel) (by decide +kernel)
set_option maxRecDepth 20000 in
theorem gX7_read_X7_step : GoodIn wsX7_read (wsV RX7 30 RX7 yX7_step wsX7_step) := goodIn_app (goodIn_of _ (by decide +kernel)) ggX7_read_X7_step
set_option maxRecDepth 20000 in
theorem ggX7_read_X7_readTide : GoodIn wsX7_read wsX7_readTide := goodIn_r _ [34, 35, 36, 37, 38, 9, 39, 40, 41, 42, 43, 4, 1, 11, 12, 44, 45, 46, 47, 48, 49, 50, 51, 52, 53, 54, 55, 56, 57, 58, 59, 60, 61, 62, 63, 64, 65, 66, 67, 68, 69, 70, 71, 72, 73, 74, 75, 76, 77, 78, 79, 80, 81, 82, 83, 84, 85, 86, 87, 88, 89, 90, 91, 92, 93, 94, 95, 96, 2, 6, 7, 8, 10, 5, 13, 14, 15, 16, 17, 18, 19, 20, 21, 22, 23, 24, 25, 26, 27, 28, 29, 30, 97, 98, 99, 100, 101, 102, 103, 104, 133, 134, 135, 136, 137, 126, 127, 128, 129, 130, 131, 132] (by decide +kernel) (by decide +kernel)
set_option maxRecDepth 20000 in
theorem gX7_read_X7_readTide : GoodIn wsX7_read (wsV RX7 33 RX7 yX7_readTide wsX7_readTide) := goodIn_app (goodIn_of _ (by decide +kernel)) ggX7_read_X7_readTide
set_option maxRecDepth 20000 in
theorem ggX7_read_X7_readWater : GoodIn wsX7_read wsX7_readWater := goodIn_r _ [108, 3, 2, 40, 41, 42, 9, 43, 4, 1, 11, 12, 44, 45, 46, 47, 48, 49, 50, 51, 52, 53, 54, 55, 56, 57, 58, 59, 60, 61, 62, 63, 64, 65, 66, 67, 68, 69, 70, 71, 72, 73, 74, 75, 76, 77, 78, 79, 80, 81, 82, 83, 84, 85, 86, 87, 88, 89, 90, 91, 92, 36, 37, 38, 39, 93, 94, 95, 96, 6, 7, 8, 10, 5, 13, 14, 15, 16, 17, 18, 19, 20, 21, 22, 23, 24, 25, 26, 27, 28, 29, 30, 109, 110, 111, 112, 113, 114, 115, 116, 97, 98, 99, 100, 101, 102, 103, 104, 117, 118, 119, 120, 121, 122, 123, 124, 125, 133, 134, 135, 136, 137, 126, 127, 128, 129, 130, 131, 132] (by decide +kernel) (by decide +kernel)
set_option maxRecDepth 20000 in
theorem gX7_read_X7_readWater : GoodIn wsX7_read (wsV RX7 40 RX7 yX7_readWater wsX7_readWater) := goodIn_app (goodIn_of _ (by decide +kernel)) ggX7_read_X7_readWater
theorem dX7_read_0 : decode cX7_read 0 = .ok (.aload_n 0, 1) := by decide +kernel
theorem dX7_read_1 : decode cX7_read 1 = .ok (.iconst 0, 1) := by decide +kernel
theorem dX7_read_2 : decode cX7_read 2 = .ok (.putfield 19, 3) := by decide +kernel
theorem dX7_read_5 : decode cX7_read 5 = .ok (.aload_n 0, 1) := by decide +kernel
theorem dX7_read_6 : decode cX7_read 6 = .ok (.iconst 0, 1) := by decide +kernel
theorem dX7_read_7 : decode cX7_read 7 = .ok (.putfield 22, 3) := by decide +kernel
theorem dX7_read_10 : decode cX7_read 10 = .ok (.aload_n 1, 1) := by decide +kernel
theorem dX7_read_11 : decode cX7_read 11 = .ok (.iconst 0, 1) := by decide +kernel
theorem dX7_read_12 : decode cX7_read 12 = .ok (.putfield 25, 3) := by decide +kernel
theorem dX7_read_15 : decode cX7_read 15 = .ok (.aload_n 0, 1) := by decide +kernel
theorem dX7_read_16 : decode cX7_read 16 = .ok (.invokevirtual 30, 3) := by decide +kernel
theorem dX7_read_19 : decode cX7_read 19 = .ok (.aload_n 0, 1) := by decide +kernel
theorem dX7_read_20 : decode cX7_read 20 = .ok (.aload_n 1, 1) := by decide +kernel
theorem dX7_read_21 : decode cX7_read 21 = .ok (.invokevirtual 33, 3) := by decide +kernel
theorem dX7_read_24 : decode cX7_read 24 = .ok (.iconst 0, 1) := by decide +kernel
theorem dX7_read_25 : decode cX7_read 25 = .ok (.istore_n 2, 1) := by decide +kernel
theorem dX7_read_26 : decode cX7_read 26 = .ok (.iload_n 2, 1) := by decide +kernel
theorem dX7_read_27 : decode cX7_read 27 = .ok (.bipush 6, 2) := by decide +kernel
theorem dX7_read_29 : decode cX7_read 29 = .ok (.if_icmp .gt 28, 3) := by decide +kernel
theorem dX7_read_32 : decode cX7_read 32 = .ok (.aload_n 0, 1) := by decide +kernel
theorem dX7_read_33 : decode cX7_read 33 = .ok (.getfield 22, 3) := by decide +kernel
theorem dX7_read_36 : decode cX7_read 36 = .ok (.ifCond .ne 21, 3) := by decide +kernel
theorem dX7_read_39 : decode cX7_read 39 = .ok (.aload_n 0, 1) := by decide +kernel
theorem dX7_read_40 : decode cX7_read 40 = .ok (.getfield 37, 3) := by decide +kernel
theorem dX7_read_43 : decode cX7_read 43 = .ok (.ifCond .eq 14, 3) := by decide +kernel
theorem dX7_read_46 : decode cX7_read 46 = .ok (.aload_n 0, 1) := by decide +kernel
theorem dX7_read_47 : decode cX7_read 47 = .ok (.aload_n 1, 1) := by decide +kernel
theorem dX7_read_48 : decode cX7_read 48 = .ok (.invokevirtual 40, 3) := by decide +kernel
theorem dX7_read_51 : decode cX7_read 51 = .ok (.iinc 2 1, 3) := by decide +kernel
theorem dX7_read_54 : decode cX7_read 54 = .ok (.goto (-28), 3) := by decide +kernel
theorem dX7_read_57 : decode cX7_read 57 = .ok (.aload_n 0, 1) := by decide +kernel
theorem dX7_read_58 : decode cX7_read 58 = .ok (.iconst 0, 1) := by decide +kernel
theorem dX7_read_59 : decode cX7_read 59 = .ok (.putfield 15, 3) := by decide +kernel
theorem dX7_read_62 : decode cX7_read 62 = .ok (.aload_n 0, 1) := by decide +kernel
theorem dX7_read_63 : decode cX7_read 63 = .ok (.getfield 22, 3) := by decide +kernel
theorem dX7_read_66 : decode cX7_read 66 = .ok (.ireturn, 1) := by decide +kernel
set_option maxRecDepth 20000 in
theorem ggX7_readTide_X7_takeWord : GoodIn wsX7_readTide wsX7_takeWord := goodIn_r _ [6, 7, 8, 9, 5, 10, 11, 12, 13, 14, 15, 16, 17, 18, 19, 20, 21, 22, 23, 24, 25, 26, 27, 28, 29, 30, 31, 32, 33, 34, 35, 36, 37, 38, 39, 40, 41, 42, 43, 44, 45, 46, 47, 48, 49, 50, 51, 52, 53, 54, 55, 56, 57, 58, 59, 60, 61, 62, 63, 64, 65, 66, 67, 68, 69, 70, 71, 72, 73, 74, 75, 76, 77, 78, 79, 80, 81, 82, 83, 84, 85, 86, 87, 88, 89, 90, 91, 105, 106, 107, 108, 109, 110, 111] (by decide +kernel) (by decide +kernel)
set_option maxRecDepth 20000 in
theorem gX7_readTide_X7_takeWord : GoodIn wsX7_readTide (wsV RX7 45 RX7 yX7_takeWord wsX7_takeWord) := goodIn_app (goodIn_of _ (by decide +kernel)) ggX7_readTide_X7_takeWord
set_option maxRecDepth 20000 in
theorem ggX7_readTide_X7_takeNumber : GoodIn wsX7_readTide wsX7_takeNumber := goodIn_r _ [95, 91, 68, 11, 64, 65, 66, 5, 67, 69, 70, 71, 72, 12, 13, 73, 14, 74, 75, 76, 77, 78, 79, 80, 81, 82, 83, 84, 85, 86, 87, 88, 89, 90, 105, 106, 107, 108, 109, 110, 111] (by decide +kernel) (by decide +kernel)
set_option maxRecDepth 20000 in
theorem gX7_readTide_X7_takeNumber : GoodIn wsX7_readTide (wsV RX7 53 RX7 yX7_takeNumber wsX7_takeNumber) := goodIn_app (goodIn_of _ (by decide +kernel)) ggX7_readTide_X7_takeNumber
set_option maxRecDepth 20000 in
theorem ggX7_readTide_X7_takeSign : GoodIn wsX7_readTide wsX7_takeSign := goodIn_r _ [99, 11, 64, 65, 66, 5, 67, 68, 69, 70, 71, 72, 12, 13, 73, 14, 74, 75, 76, 77, 78, 79, 80, 81, 82, 83, 84, 85, 86, 87, 88, 89, 90, 91, 105, 106, 107, 108, 109, 110, 111] (by decide +kernel) (by decide +kernel)
set_option maxRecDepth 20000 in
theorem gX7_readTide_X7_takeSign : GoodIn wsX7_readTide (wsV RX7 57 RX7 yX7_takeSign wsX7_takeSign) := goodIn_app (goodIn_of _ (by decide +kernel)) ggX7_readTide_X7_takeSign
theorem dX7_readTide_0 : decode cX7_readTide 0 = .ok (.aload_n 0, 1) := by decide +kernel
theorem dX7_readTide_1 : decode cX7_readTide 1 = .ok (.ldc 43, 2) := by decide +kernel
theorem dX7_readTide_3 : decode cX7_readTide 3 = .ok (.invokevirtual 45, 3) := by decide +kernel
theorem dX7_readTide_6 : decode cX7_readTide 6 = .ok (.iconst 0, 1) := by decide +kernel
theorem dX7_readTide_7 : decode cX7_readTide 7 = .ok (.istore_n 2, 1) := by decide +kernel
theorem dX7_readTide_8 : decode cX7_readTide 8 = .ok (.iload_n 2, 1) := by decide +kernel
theorem dX7_readTide_9 : decode cX7_readTide 9 = .ok (.bipush 12, 2) := by decide +kernel
theorem dX7_readTide_11 : decode cX7_readTide 11 = .ok (.if_icmp .ge 21, 3) := by decide +kernel
theorem dX7_readTide_14 : decode cX7_readTide 14 = .ok (.aload_n 1, 1) := by decide +kernel
theorem dX7_readTide_15 : decode cX7_readTide 15 = .ok (.getfield 49, 3) := by decide +kernel
theorem dX7_readTide_18 : decode cX7_readTide 18 = .ok (.iload_n 2, 1) := by decide +kernel
theorem dX7_readTide_19 : decode cX7_readTide 19 = .ok (.aload_n 0, 1) := by decide +kernel
theorem dX7_readTide_20 : decode cX7_readTide 20 = .ok (.bipush 40, 2) := by decide +kernel
theorem dX7_readTide_22 : decode cX7_readTide 22 = .ok (.invokevirtual 53, 3) := by decide +kernel
theorem dX7_readTide_25 : decode cX7_readTide 25 = .ok (.iastore, 1) := by decide +kernel
theorem dX7_readTide_26 : decode cX7_readTide 26 = .ok (.iinc 2 1, 3) := by decide +kernel
theorem dX7_readTide_29 : decode cX7_readTide 29 = .ok (.goto (-21), 3) := by decide +kernel
theorem dX7_readTide_32 : decode cX7_readTide 32 = .ok (.aload_n 0, 1) := by decide +kernel
theorem dX7_readTide_33 : decode cX7_readTide 33 = .ok (.invokevirtual 57, 3) := by decide +kernel
theorem dX7_readTide_36 : decode cX7_readTide 36 = .ok (.return_, 1) := by decide +kernel
set_option maxRecDepth 20000 in
theorem ggX7_readWater_X7_isWord : GoodIn wsX7_readWater wsX7_isWord := goodIn_r _ [7, 8, 9, 10, 11, 12, 13, 14, 15, 16, 17, 18, 19, 20, 21, 22, 23, 24, 25, 26, 27, 28, 29, 30, 31, 32, 33, 34, 35, 36, 37, 38, 39, 40, 41, 42, 43, 44, 45, 46, 47, 48, 49, 50, 51, 52, 53, 54, 55, 56, 57, 58, 59, 60, 122, 123, 124, 125, 126, 127, 128] (by decide +kernel) (by decide +kernel)
set_option maxRecDepth 20000 in
theorem gX7_readWater_X7_isWord : GoodIn wsX7_readWater (wsV RX7 62 RX7 yX7_isWord wsX7_isWord) := goodIn_app (goodIn_of _ (by decide +kernel)) ggX7_readWater_X7_isWord
set_option maxRecDepth 20000 in
theorem ggX7_readWater_X7_takeWord : GoodIn wsX7_readWater wsX7_takeWord := goodIn_r _ [64, 3, 4, 5, 6, 7, 8, 9, 10, 11, 12, 13, 14, 15, 16, 17, 18, 19, 20, 21, 22, 23, 24, 25, 26, 27, 28, 29, 30, 31, 32, 33, 34, 35, 36, 37, 38, 39, 40, 41, 42, 43, 44, 45, 46, 47, 48, 49, 50, 51, 52, 53, 54, 55, 56, 57, 58, 59, 60, 65, 66, 67, 68, 2, 69, 70, 71, 72, 73, 74, 75, 76, 77, 78, 79, 80, 81, 82, 83, 84, 85, 86, 87, 88, 89, 90, 91, 122, 123, 124, 125, 126, 127, 128] (by decide +kernel) (by decide +kernel)
set_option maxRecDepth 20000 in
theorem gX7_readWater_X7_takeWord : GoodIn wsX7_readWater (wsV RX7 45 RX7 yX7_takeWord wsX7_takeWord) := goodIn_app (goodIn_of _ (by decide +kernel)) ggX7_readWater_X7_takeWord
set_option maxRecDepth 20000 in
theorem ggX7_readWater_X7_takeSort : GoodIn wsX7_readWater wsX7_takeSort := goodIn_r _ [95, 96, 97, 98, 6, 99, 3, 4, 5, 7, 8, 9, 10, 11, 12, 13, 14, 15, 16, 17, 18, 19, 20, 21, 22, 23, 24, 25, 26, 27, 28, 29, 30, 31, 32, 33, 34, 35, 36, 37, 38, 39, 40, 41, 42, 43, 44, 45, 46, 47, 48, 49, 50, 51, 52, 53, 54, 55, 56, 57, 58, 59, 60, 65, 66, 67, 68, 2, 69, 70, 71, 72, 73, 74, 75, 76, 77, 78, 79, 80, 81, 82, 83, 84, 85, 86, 87, 88, 89, 90, 91, 122, 123, 124, 125, 126, 127, 128] (by decide +kernel) (by decide +kernel)
set_option maxRecDepth 20000 in
theorem gX7_readWater_X7_takeSort : GoodIn wsX7_readWater (wsV RX7 66 RX7 yX7_takeSort wsX7_takeSort) := goodIn_app (goodIn_of _ (by decide +kernel)) ggX7_readWater_X7_takeSort
set_option maxRecDepth 20000 in
theorem ggX7_readWater_X7_takeNumber : GoodIn wsX7_readWater wsX7_takeNumber := goodIn_r _ [103, 91, 2, 8, 65, 66, 67, 6, 68, 69, 70, 71, 72, 9, 10, 73, 11, 74, 75, 76, 77, 78, 79, 80, 81, 82, 83, 84, 85, 86, 87, 88, 89, 90, 122, 123, 124, 125, 126, 127, 128] (by decide +kernel) (by decide +kernel)
set_option maxRecDepth 20000 in
theorem gX7_readWater_X7_takeNumber : GoodIn wsX7_readWater (wsV RX7 53 RX7 yX7_takeNumber wsX7_takeNumber) := goodIn_app (goodIn_of _ (by decide +kernel)) ggX7_readWater_X7_takeNumber
set_option maxRecDepth 20000 in
theorem ggX7_readWater_X7_takeSign : GoodIn wsX7_readWater wsX7_takeSign := goodIn_r _ [107, 8, 65, 66, 67, 6, 68, 2, 69, 70, 71, 72, 9, 10, 73, 11, 74, 75, 76, 77, 78, 79, 80, 81, 82, 83, 84, 85, 86, 87, 88, 89, 90, 91, 122, 123, 124, 125, 126, 127, 128] (by decide +kernel) (by decide +kernel)
set_option maxRecDepth 20000 in
theorem gX7_readWater_X7_takeSign : GoodIn wsX7_readWater (wsV RX7 57 RX7 yX7_takeSign wsX7_takeSign) := goodIn_app (goodIn_of _ (by decide +kernel)) ggX7_readWater_X7_takeSign
set_option maxRecDepth 20000 in
theorem ggX7_readWater_X2_add : GoodIn wsX7_readWater wsX2_add := goodIn_r _ [112, 113, 114, 115, 116, 117, 118, 119, 120, 121] (by decide +kernel) (by decide +kernel)
set_option maxRecDepth 20000 in
theorem gX7_readWater_X2_add : GoodIn wsX7_readWater (wsV RX7 70 RX2 yX2_add wsX2_add) := goodIn_app (goodIn_of _ (by decide +kernel)) ggX7_readWater_X2_add
theorem dX7_readWater_0 : decode cX7_readWater 0 = .ok (.aload_n 0, 1) := by decide +kernel
theorem dX7_readWater_1 : decode cX7_readWater 1 = .ok (.ldc 60, 2) := by decide +kernel
theorem dX7_readWater_3 : decode cX7_readWater 3 = .ok (.invokevirtual 62, 3) := by decide +kernel
theorem dX7_readWater_6 : decode cX7_readWater 6 = .ok (.ifCond .eq 17, 3) := by decide +kernel
theorem dX7_readWater_9 : decode cX7_readWater 9 = .ok (.aload_n 1, 1) := by decide +kernel
theorem dX7_readWater_10 : decode cX7_readWater 10 = .ok (.getfield 25, 3) := by decide +kernel
theorem dX7_readWater_13 : decode cX7_readWater 13 = .ok (.bipush 6, 2) := by decide +kernel
theorem dX7_readWater_15 : decode cX7_readWater 15 = .ok (.if_icmp .lt 8, 3) := by decide +kernel
theorem dX7_readWater_18 : decode cX7_readWater 18 = .ok (.aload_n 0, 1) := by decide +kernel
theorem dX7_readWater_19 : decode cX7_readWater 19 = .ok (.iconst 3, 1) := by decide +kernel
theorem dX7_readWater_20 : decode cX7_readWater 20 = .ok (.putfield 22, 3) := by decide +kernel
theorem dX7_readWater_23 : decode cX7_readWater 23 = .ok (.aload_n 0, 1) := by decide +kernel
theorem dX7_readWater_24 : decode cX7_readWater 24 = .ok (.ldc 60, 2) := by decide +kernel
theorem dX7_readWater_26 : decode cX7_readWater 26 = .ok (.invokevirtual 45, 3) := by decide +kernel
theorem dX7_readWater_29 : decode cX7_readWater 29 = .ok (.aload_n 0, 1) := by decide +kernel
theorem dX7_readWater_30 : decode cX7_readWater 30 = .ok (.invokevirtual 66, 3) := by decide +kernel
theorem dX7_readWater_33 : decode cX7_readWater 33 = .ok (.istore_n 2, 1) := by decide +kernel
theorem dX7_readWater_34 : decode cX7_readWater 34 = .ok (.aload_n 0, 1) := by decide +kernel
theorem dX7_readWater_35 : decode cX7_readWater 35 = .ok (.sipush 200, 3) := by decide +kernel
theorem dX7_readWater_38 : decode cX7_readWater 38 = .ok (.invokevirtual 53, 3) := by decide +kernel
theorem dX7_readWater_41 : decode cX7_readWater 41 = .ok (.istore_n 3, 1) := by decide +kernel
theorem dX7_readWater_42 : decode cX7_readWater 42 = .ok (.aload_n 0, 1) := by decide +kernel
theorem dX7_readWater_43 : decode cX7_readWater 43 = .ok (.bipush 40, 2) := by decide +kernel
theorem dX7_readWater_45 : decode cX7_readWater 45 = .ok (.invokevirtual 53, 3) := by decide +kernel
theorem dX7_readWater_48 : decode cX7_readWater 48 = .ok (.istore 4, 2) := by decide +kernel
theorem dX7_readWater_50 : decode cX7_readWater 50 = .ok (.aload_n 0, 1) := by decide +kernel
theorem dX7_readWater_51 : decode cX7_readWater 51 = .ok (.invokevirtual 57, 3) := by decide +kernel
theorem dX7_readWater_54 : decode cX7_readWater 54 = .ok (.aload_n 0, 1) := by decide +kernel
theorem dX7_readWater_55 : decode cX7_readWater 55 = .ok (.getfield 22, 3) := by decide +kernel
theorem dX7_readWater_58 : decode cX7_readWater 58 = .ok (.ifCond .ne 11, 3) := by decide +kernel
theorem dX7_readWater_61 : decode cX7_readWater 61 = .ok (.aload_n 1, 1) := by decide +kernel
theorem dX7_readWater_62 : decode cX7_readWater 62 = .ok (.iload_n 2, 1) := by decide +kernel
theorem dX7_readWater_63 : decode cX7_readWater 63 = .ok (.iload_n 3, 1) := by decide +kernel
theorem dX7_readWater_64 : decode cX7_readWater 64 = .ok (.iload 4, 2) := by decide +kernel
theorem dX7_readWater_66 : decode cX7_readWater 66 = .ok (.invokevirtual 70, 3) := by decide +kernel
theorem dX7_readWater_69 : decode cX7_readWater 69 = .ok (.return_, 1) := by decide +kernel
set_option maxRecDepth 20000 in
theorem ggX7_takeWord_X7_isWord : GoodIn wsX7_takeWord wsX7_isWord := goodIn_r _ [5, 6, 7, 8, 9, 10, 11, 12, 13, 14, 15, 16, 17, 18, 19, 20, 21, 22, 23, 24, 25, 26, 27, 28, 29, 30, 31, 32, 33, 34, 35, 36, 37, 38, 39, 40, 41, 42, 43, 44, 45, 46, 47, 48, 49, 50, 51, 52, 53, 54, 55, 56, 57, 58, 87, 88, 89, 90, 91, 92, 93] (by decide +kernel) (by decide +kernel)
set_option maxRecDepth 20000 in
theorem gX7_takeWord_X7_isWord : GoodIn wsX7_takeWord (wsV RX7 62 RX7 yX7_isWord wsX7_isWord) := goodIn_app (goodIn_of _ (by decide +kernel)) ggX7_takeWord_X7_isWord
set_option maxRecDepth 20000 in
theorem ggX7_takeWord_X7_takeIf : GoodIn wsX7_takeWord wsX7_takeIf := goodIn_r _ [62, 63, 64, 65, 66, 4, 67, 7, 8, 68, 9, 6, 69, 70, 71, 72, 73, 74, 75, 76, 77, 78, 79, 80, 81, 82, 83, 84, 85, 86, 87, 88, 89, 90, 91, 92, 93] (by decide +kernel) (by decide +kernel)
set_option maxRecDepth 20000 in
theorem gX7_takeWord_X7_takeIf : GoodIn wsX7_takeWord (wsV RX7 74 RX7 yX7_takeIf wsX7_takeIf) := goodIn_app (goodIn_of _ (by decide +kernel)) ggX7_takeWord_X7_takeIf
theorem dX7_takeWord_0 : decode cX7_takeWord 0 = .ok (.aload_n 0, 1) := by decide +kernel
theorem dX7_takeWord_1 : decode cX7_takeWord 1 = .ok (.aload_n 0, 1) := by decide +kernel
theorem dX7_takeWord_2 : decode cX7_takeWord 2 = .ok (.aload_n 1, 1) := by decide +kernel
theorem dX7_takeWord_3 : decode cX7_takeWord 3 = .ok (.invokevirtual 62, 3) := by decide +kernel
theorem dX7_takeWord_6 : decode cX7_takeWord 6 = .ok (.invokevirtual 74, 3) := by decide +kernel
theorem dX7_takeWord_9 : decode cX7_takeWord 9 = .ok (.return_, 1) := by decide +kernel
set_option maxRecDepth 20000 in
theorem ggX7_takeSign_X7_takeIf : GoodIn wsX7_takeSign wsX7_takeIf := goodIn_r _ [6, 7, 8, 9, 10, 5, 11, 12, 13, 14, 15, 1, 16, 17, 18, 19, 20, 21, 22, 23, 24, 25, 26, 27, 28, 29, 30, 31, 32, 33, 34, 35, 36, 37, 38, 39, 40] (by decide +kernel) (by decide +kernel)
set_option maxRecDepth 20000 in
theorem gX7_takeSign_X7_takeIf : GoodIn wsX7_takeSign (wsV RX7 74 RX7 yX7_takeIf wsX7_takeIf) := goodIn_app (goodIn_of _ (by decide +kernel)) ggX7_takeSign_X7_takeIf
theorem dX7_takeSign_0 : decode cX7_takeSign 0 = .ok (.aload_n 0, 1) := by decide +kernel
theorem dX7_takeSign_1 : decode cX7_takeSign 1 = .ok (.aload_n 0, 1) := by decide +kernel
theorem dX7_takeSign_2 : decode cX7_takeSign 2 = .ok (.getfield 37, 3) := by decide +kernel
theorem dX7_takeSign_5 : decode cX7_takeSign 5 = .ok (.iconst 3, 1) := by decide +kernel
theorem dX7_takeSign_6 : decode cX7_takeSign 6 = .ok (.if_icmp .ne 7, 3) := by decide +kernel
theorem dX7_takeSign_9 : decode cX7_takeSign 9 = .ok (.iconst 1, 1) := by decide +kernel
theorem dX7_takeSign_10 : decode cX7_takeSign 10 = .ok (.goto 4, 3) := by decide +kernel
theorem dX7_takeSign_13 : decode cX7_takeSign 13 = .ok (.iconst 0, 1) := by decide +kernel
theorem dX7_takeSign_14 : decode cX7_takeSign 14 = .ok (.invokevirtual 74, 3) := by decide +kernel
theorem dX7_takeSign_17 : decode cX7_takeSign 17 = .ok (.return_, 1) := by decide +kernel
set_option maxRecDepth 20000 in
theorem ggX7_takeSort_X7_sortOfWord : GoodIn wsX7_takeSort wsX7_sortOfWord := goodIn_r _ [5, 6, 7, 8, 4, 9, 10, 11, 12, 13, 14, 15, 16, 17, 18, 19, 20, 21, 22, 23, 24, 25, 26, 27, 28, 29, 30, 31, 32, 33, 34, 35, 36, 37, 38, 39, 40, 41, 42, 43, 44, 45, 46, 47, 48, 49, 50, 51, 52, 53, 54, 55, 56, 57, 58, 59, 60, 61, 62, 91, 92, 93, 94, 95, 96, 97] (by decide +kernel) (by decide +kernel)
set_option maxRecDepth 20000 in
theorem gX7_takeSort_X7_sortOfWord : GoodIn wsX7_takeSort (wsV RX7 78 RX7 yX7_sortOfWord wsX7_sortOfWord) := goodIn_app (goodIn_of _ (by decide +kernel)) ggX7_takeSort_X7_sortOfWord
set_option maxRecDepth 20000 in
theorem ggX7_takeSort_X7_takeIf : GoodIn wsX7_takeSort wsX7_takeIf := goodIn_r _ [66, 67, 68, 69, 70, 4, 71, 11, 12, 72, 13, 10, 73, 74, 75, 76, 77, 78, 79, 80, 81, 82, 83, 84, 85, 86, 87, 88, 89, 90, 91, 92, 93, 94, 95, 96, 97] (by decide +kernel) (by decide +kernel)
set_option maxRecDepth 20000 in
theorem gX7_takeSort_X7_takeIf : GoodIn wsX7_takeSort (wsV RX7 74 RX7 yX7_takeIf wsX7_takeIf) := goodIn_app (goodIn_of _ (by decide +kernel)) ggX7_takeSort_X7_takeIf
theorem dX7_takeSort_0 : decode cX7_takeSort 0 = .ok (.aload_n 0, 1) := by decide +kernel
theorem dX7_takeSort_1 : decode cX7_takeSort 1 = .ok (.invokevirtual 78, 3) := by decide +kernel
theorem dX7_takeSort_4 : decode cX7_takeSort 4 = .ok (.istore_n 1, 1) := by decide +kernel
theorem dX7_takeSort_5 : decode cX7_takeSort 5 = .ok (.aload_n 0, 1) := by decide +kernel
theorem dX7_takeSort_6 : decode cX7_takeSort 6 = .ok (.iload_n 1, 1) := by decide +kernel
theorem dX7_takeSort_7 : decode cX7_takeSort 7 = .ok (.ifCond .eq 7, 3) := by decide +kernel
theorem dX7_takeSort_10 : decode cX7_takeSort 10 = .ok (.iconst 1, 1) := by decide +kernel
theorem dX7_takeSort_11 : decode cX7_takeSort 11 = .ok (.goto 4, 3) := by decide +kernel
theorem dX7_takeSort_14 : decode cX7_takeSort 14 = .ok (.iconst 0, 1) := by decide +kernel
theorem dX7_takeSort_15 : decode cX7_takeSort 15 = .ok (.invokevirtual 74, 3) := by decide +kernel
theorem dX7_takeSort_18 : decode cX7_takeSort 18 = .ok (.iload_n 1, 1) := by decide +kernel
theorem dX7_takeSort_19 : decode cX7_takeSort 19 = .ok (.ireturn, 1) := by decide +kernel
set_option maxRecDepth 20000 in
theorem ggX7_takeNumber_X7_takeIf : GoodIn wsX7_takeNumber wsX7_takeIf := goodIn_r _ [8, 2, 9, 10, 11, 7, 12, 13, 14, 15, 16, 3, 17, 18, 19, 20, 21, 22, 23, 24, 25, 26, 27, 28, 29, 30, 31, 32, 33, 1, 34, 35, 36, 37, 38, 39, 40] (by decide +kernel) (by decide +kernel)
set_option maxRecDepth 20000 in
theorem gX7_takeNumber_X7_takeIf : GoodIn wsX7_takeNumber (wsV RX7 74 RX7 yX7_takeIf wsX7_takeIf) := goodIn_app (goodIn_of _ (by decide +kernel)) ggX7_takeNumber_X7_takeIf
theorem dX7_takeNumber_0 : decode cX7_takeNumber 0 = .ok (.aload_n 0, 1) := by decide +kernel
theorem dX7_takeNumber_1 : decode cX7_takeNumber 1 = .ok (.getfield 81, 3) := by decide +kernel
theorem dX7_takeNumber_4 : decode cX7_takeNumber 4 = .ok (.istore_n 2, 1) := by decide +kernel
theorem dX7_takeNumber_5 : decode cX7_takeNumber 5 = .ok (.aload_n 0, 1) := by decide +kernel
theorem dX7_takeNumber_6 : decode cX7_takeNumber 6 = .ok (.getfield 22, 3) := by decide +kernel
theorem dX7_takeNumber_9 : decode cX7_takeNumber 9 = .ok (.ifCond .ne 21, 3) := by decide +kernel
theorem dX7_takeNumber_12 : decode cX7_takeNumber 12 = .ok (.aload_n 0, 1) := by decide +kernel
theorem dX7_takeNumber_13 : decode cX7_takeNumber 13 = .ok (.getfield 37, 3) := by decide +kernel
theorem dX7_takeNumber_16 : decode cX7_takeNumber 16 = .ok (.iconst 2, 1) := by decide +kernel
theorem dX7_takeNumber_17 : decode cX7_takeNumber 17 = .ok (.if_icmp .ne 13, 3) := by decide +kernel
theorem dX7_takeNumber_20 : decode cX7_takeNumber 20 = .ok (.iload_n 2, 1) := by decide +kernel
theorem dX7_takeNumber_21 : decode cX7_takeNumber 21 = .ok (.iload_n 1, 1) := by decide +kernel
theorem dX7_takeNumber_22 : decode cX7_takeNumber 22 = .ok (.if_icmp .le 8, 3) := by decide +kernel
theorem dX7_takeNumber_25 : decode cX7_takeNumber 25 = .ok (.aload_n 0, 1) := by decide +kernel
theorem dX7_takeNumber_26 : decode cX7_takeNumber 26 = .ok (.iconst 2, 1) := by decide +kernel
theorem dX7_takeNumber_27 : decode cX7_takeNumber 27 = .ok (.putfield 22, 3) := by decide +kernel
theorem dX7_takeNumber_30 : decode cX7_takeNumber 30 = .ok (.aload_n 0, 1) := by decide +kernel
theorem dX7_takeNumber_31 : decode cX7_takeNumber 31 = .ok (.aload_n 0, 1) := by decide +kernel
theorem dX7_takeNumber_32 : decode cX7_takeNumber 32 = .ok (.getfield 37, 3) := by decide +kernel
theorem dX7_takeNumber_35 : decode cX7_takeNumber 35 = .ok (.iconst 2, 1) := by decide +kernel
theorem dX7_takeNumber_36 : decode cX7_takeNumber 36 = .ok (.if_icmp .ne 7, 3) := by decide +kernel
theorem dX7_takeNumber_39 : decode cX7_takeNumber 39 = .ok (.iconst 1, 1) := by decide +kernel
theorem dX7_takeNumber_40 : decode cX7_takeNumber 40 = .ok (.goto 4, 3) := by decide +kernel
theorem dX7_takeNumber_43 : decode cX7_takeNumber 43 = .ok (.iconst 0, 1) := by decide +kernel
theorem dX7_takeNumber_44 : decode cX7_takeNumber 44 = .ok (.invokevirtual 74, 3) := by decide +kernel
theorem dX7_takeNumber_47 : decode cX7_takeNumber 47 = .ok (.iload_n 2, 1) := by decide +kernel
theorem dX7_takeNumber_48 : decode cX7_takeNumber 48 = .ok (.ireturn, 1) := by decide +kernel
set_option maxRecDepth 20000 in
theorem ggX7_takeIf_X7_step : GoodIn wsX7_takeIf wsX7_step := goodIn_r _ [6, 7, 8, 9, 10, 11, 12, 13, 5, 14, 15, 16, 17, 18, 19, 20, 21, 22, 23, 24, 25, 26, 27, 28, 29, 30, 31, 32, 33, 34, 35, 36] (by decide +kernel) (by decide +kernel)
set_option maxRecDepth 20000 in
theorem gX7_takeIf_X7_step : GoodIn wsX7_takeIf (wsV RX7 30 RX7 yX7_step wsX7_step) := goodIn_app (goodIn_of _ (by decide +kernel)) ggX7_takeIf_X7_step
theorem dX7_takeIf_0 : decode cX7_takeIf 0 = .ok (.aload_n 0, 1) := by decide +kernel
theorem dX7_takeIf_1 : decode cX7_takeIf 1 = .ok (.getfield 22, 3) := by decide +kernel
theorem dX7_takeIf_4 : decode cX7_takeIf 4 = .ok (.ifCond .eq 4, 3) := by decide +kernel
theorem dX7_takeIf_7 : decode cX7_takeIf 7 = .ok (.return_, 1) := by decide +kernel
theorem dX7_takeIf_8 : decode cX7_takeIf 8 = .ok (.iload_n 1, 1) := by decide +kernel
theorem dX7_takeIf_9 : decode cX7_takeIf 9 = .ok (.ifCond .eq 10, 3) := by decide +kernel
theorem dX7_takeIf_12 : decode cX7_takeIf 12 = .ok (.aload_n 0, 1) := by decide +kernel
theorem dX7_takeIf_13 : decode cX7_takeIf 13 = .ok (.invokevirtual 30, 3) := by decide +kernel
theorem dX7_takeIf_16 : decode cX7_takeIf 16 = .ok (.goto 8, 3) := by decide +kernel
theorem dX7_takeIf_19 : decode cX7_takeIf 19 = .ok (.aload_n 0, 1) := by decide +kernel
theorem dX7_takeIf_20 : decode cX7_takeIf 20 = .ok (.iconst 1, 1) := by decide +kernel
theorem dX7_takeIf_21 : decode cX7_takeIf 21 = .ok (.putfield 22, 3) := by decide +kernel
theorem dX7_takeIf_24 : decode cX7_takeIf 24 = .ok (.return_, 1) := by decide +kernel
set_option maxRecDepth 20000 in
theorem ggX7_sortOfWord_X7_isWord : GoodIn wsX7_sortOfWord wsX7_isWord := goodIn_r _ [5, 6, 7, 8, 9, 10, 11, 12, 13, 14, 15, 16, 17, 18, 19, 20, 21, 22, 23, 24, 25, 26, 27, 28, 29, 30, 31, 32, 33, 34, 35, 36, 37, 38, 39, 40, 41, 42, 43, 44, 45, 46, 47, 48, 49, 50, 51, 52, 53, 54, 55, 56, 57, 58, 59, 60, 61, 62, 63, 64, 65] (by decide +kernel) (by decide +kernel)
set_option maxRecDepth 20000 in
theorem gX7_sortOfWord_X7_isWord : GoodIn wsX7_sortOfWord (wsV RX7 62 RX7 yX7_isWord wsX7_isWord) := goodIn_app (goodIn_of _ (by decide +kernel)) ggX7_sortOfWord_X7_isWord
theorem dX7_sortOfWord_0 : decode cX7_sortOfWord 0 = .ok (.aload_n 0, 1) := by decide +kernel
theorem dX7_sortOfWord_1 : decode cX7_sortOfWord 1 = .ok (.ldc 84, 2) := by decide +kernel
theorem dX7_sortOfWord_3 : decode cX7_sortOfWord 3 = .ok (.invokevirtual 62, 3) := by decide +kernel
theorem dX7_sortOfWord_6 : decode cX7_sortOfWord 6 = .ok (.ifCond .eq 5, 3) := by decide +kernel
theorem dX7_sortOfWord_9 : decode cX7_sortOfWord 9 = .ok (.iconst 1, 1) := by decide +kernel
theorem dX7_sortOfWord_10 : decode cX7_sortOfWord 10 = .ok (.ireturn, 1) := by decide +kernel
theorem dX7_sortOfWord_11 : decode cX7_sortOfWord 11 = .ok (.aload_n 0, 1) := by decide +kernel
theorem dX7_sortOfWord_12 : decode cX7_sortOfWord 12 = .ok (.ldc 86, 2) := by decide +kernel
theorem dX7_sortOfWord_14 : decode cX7_sortOfWord 14 = .ok (.invokevirtual 62, 3) := by decide +kernel
theorem dX7_sortOfWord_17 : decode cX7_sortOfWord 17 = .ok (.ifCond .eq 5, 3) := by decide +kernel
theorem dX7_sortOfWord_20 : decode cX7_sortOfWord 20 = .ok (.iconst 2, 1) := by decide +kernel
theorem dX7_sortOfWord_21 : decode cX7_sortOfWord 21 = .ok (.ireturn, 1) := by decide +kernel
theorem dX7_sortOfWord_22 : decode cX7_sortOfWord 22 = .ok (.aload_n 0, 1) := by decide +kernel
theorem dX7_sortOfWord_23 : decode cX7_sortOfWord 23 = .ok (.ldc 88, 2) := by decide +kernel
theorem dX7_sortOfWord_25 : decode cX7_sortOfWord 25 = .ok (.invokevirtual 62, 3) := by decide +kernel
theorem dX7_sortOfWord_28 : decode cX7_sortOfWord 28 = .ok (.ifCond .eq 5, 3) := by decide +kernel
theorem dX7_sortOfWord_31 : decode cX7_sortOfWord 31 = .ok (.iconst 3, 1) := by decide +kernel
theorem dX7_sortOfWord_32 : decode cX7_sortOfWord 32 = .ok (.ireturn, 1) := by decide +kernel
theorem dX7_sortOfWord_33 : decode cX7_sortOfWord 33 = .ok (.aload_n 0, 1) := by decide +kernel
theorem dX7_sortOfWord_34 : decode cX7_sortOfWord 34 = .ok (.ldc 90, 2) := by decide +kernel
theorem dX7_sortOfWord_36 : decode cX7_sortOfWord 36 = .ok (.invokevirtual 62, 3) := by decide +kernel
theorem dX7_sortOfWord_39 : decode cX7_sortOfWord 39 = .ok (.ifCond .eq 5, 3) := by decide +kernel
theorem dX7_sortOfWord_42 : decode cX7_sortOfWord 42 = .ok (.iconst 4, 1) := by decide +kernel
theorem dX7_sortOfWord_43 : decode cX7_sortOfWord 43 = .ok (.ireturn, 1) := by decide +kernel
theorem dX7_sortOfWord_44 : decode cX7_sortOfWord 44 = .ok (.aload_n 0, 1) := by decide +kernel
theorem dX7_sortOfWord_45 : decode cX7_sortOfWord 45 = .ok (.ldc 92, 2) := by decide +kernel
theorem dX7_sortOfWord_47 : decode cX7_sortOfWord 47 = .ok (.invokevirtual 62, 3) := by decide +kernel
theorem dX7_sortOfWord_50 : decode cX7_sortOfWord 50 = .ok (.ifCond .eq 7, 3) := by decide +kernel
theorem dX7_sortOfWord_53 : decode cX7_sortOfWord 53 = .ok (.iconst 5, 1) := by decide +kernel
theorem dX7_sortOfWord_54 : decode cX7_sortOfWord 54 = .ok (.goto 4, 3) := by decide +kernel
theorem dX7_sortOfWord_57 : decode cX7_sortOfWord 57 = .ok (.iconst 0, 1) := by decide +kernel
theorem dX7_sortOfWord_58 : decode cX7_sortOfWord 58 = .ok (.ireturn, 1) := by decide +kernel
set_option maxRecDepth 20000 in
theorem ggX7_isWord_J0_length_8abf5 : GoodIn wsX7_isWord wsJ0_length_8abf5 := goodIn_r _ [9, 10, 11, 12, 13, 8, 14, 15, 16] (by decide +kernel) (by decide +kernel)
set_option maxRecDepth 20000 in
theorem gX7_isWord_J0_length_8abf5 : GoodIn wsX7_isWord (wsV RX7 97 RJ0 yJ0_length_8abf5 wsJ0_length_8abf5) := goodIn_app (goodIn_of _ (by decide +kernel)) ggX7_isWord_J0_length_8abf5
set_option maxRecDepth 20000 in
theorem ggX7_isWord_J0_charAt_5068e : GoodIn wsX7_isWord wsJ0_charAt_5068e := goodIn_r _ [20, 10, 21, 22, 23, 8, 24, 15, 16, 25, 26, 27, 28, 29, 30, 31, 32, 33, 34, 35, 36, 37, 38, 39, 40, 41, 42, 43, 44, 45, 46, 47, 48, 49, 50, 51, 52, 53] (by decide +kernel) (by decide +kernel)
set_option maxRecDepth 20000 in
theorem gX7_isWord_J0_charAt_5068e : GoodIn wsX7_isWord (wsV RX7 101 RJ0 yJ0_charAt_5068e wsJ0_charAt_5068e) := goodIn_app (goodIn_of _ (by decide +kernel)) ggX7_isWord_J0_charAt_5068e
theorem dX7_isWord_0 : decode cX7_isWord 0 = .ok (.aload_n 0, 1) := by decide +kernel
theorem dX7_isWord_1 : decode cX7_isWord 1 = .ok (.getfield 37, 3) := by decide +kernel
theorem dX7_isWord_4 : decode cX7_isWord 4 = .ok (.iconst 1, 1) := by decide +kernel
theorem dX7_isWord_5 : decode cX7_isWord 5 = .ok (.if_icmp .ne 19, 3) := by decide +kernel
theorem dX7_isWord_8 : decode cX7_isWord 8 = .ok (.aload_n 0, 1) := by decide +kernel
theorem dX7_isWord_9 : decode cX7_isWord 9 = .ok (.getfield 19, 3) := by decide +kernel
theorem dX7_isWord_12 : decode cX7_isWord 12 = .ok (.aload_n 0, 1) := by decide +kernel
theorem dX7_isWord_13 : decode cX7_isWord 13 = .ok (.getfield 94, 3) := by decide +kernel
theorem dX7_isWord_16 : decode cX7_isWord 16 = .ok (.isub, 1) := by decide +kernel
theorem dX7_isWord_17 : decode cX7_isWord 17 = .ok (.aload_n 1, 1) := by decide +kernel
theorem dX7_isWord_18 : decode cX7_isWord 18 = .ok (.invokevirtual 97, 3) := by decide +kernel
theorem dX7_isWord_21 : decode cX7_isWord 21 = .ok (.if_icmp .eq 5, 3) := by decide +kernel
theorem dX7_isWord_24 : decode cX7_isWord 24 = .ok (.iconst 0, 1) := by decide +kernel
theorem dX7_isWord_25 : decode cX7_isWord 25 = .ok (.ireturn, 1) := by decide +kernel
theorem dX7_isWord_26 : decode cX7_isWord 26 = .ok (.iconst 0, 1) := by decide +kernel
theorem dX7_isWord_27 : decode cX7_isWord 27 = .ok (.istore_n 2, 1) := by decide +kernel
theorem dX7_isWord_28 : decode cX7_isWord 28 = .ok (.iload_n 2, 1) := by decide +kernel
theorem dX7_isWord_29 : decode cX7_isWord 29 = .ok (.aload_n 1, 1) := by decide +kernel
theorem dX7_isWord_30 : decode cX7_isWord 30 = .ok (.invokevirtual 97, 3) := by decide +kernel
theorem dX7_isWord_33 : decode cX7_isWord 33 = .ok (.if_icmp .ge 30, 3) := by decide +kernel
theorem dX7_isWord_36 : decode cX7_isWord 36 = .ok (.aload_n 0, 1) := by decide +kernel
theorem dX7_isWord_37 : decode cX7_isWord 37 = .ok (.getfield 9, 3) := by decide +kernel
theorem dX7_isWord_40 : decode cX7_isWord 40 = .ok (.aload_n 0, 1) := by decide +kernel
theorem dX7_isWord_41 : decode cX7_isWord 41 = .ok (.getfield 94, 3) := by decide +kernel
theorem dX7_isWord_44 : decode cX7_isWord 44 = .ok (.iload_n 2, 1) := by decide +kernel
theorem dX7_isWord_45 : decode cX7_isWord 45 = .ok (.iadd, 1) := by decide +kernel
theorem dX7_isWord_46 : decode cX7_isWord 46 = .ok (.baload, 1) := by decide +kernel
theorem dX7_isWord_47 : decode cX7_isWord 47 = .ok (.aload_n 1, 1) := by decide +kernel
theorem dX7_isWord_48 : decode cX7_isWord 48 = .ok (.iload_n 2, 1) := by decide +kernel
theorem dX7_isWord_49 : decode cX7_isWord 49 = .ok (.invokevirtual 101, 3) := by decide +kernel
theorem dX7_isWord_52 : decode cX7_isWord 52 = .ok (.if_icmp .eq 5, 3) := by decide +kernel
theorem dX7_isWord_55 : decode cX7_isWord 55 = .ok (.iconst 0, 1) := by decide +kernel
theorem dX7_isWord_56 : decode cX7_isWord 56 = .ok (.ireturn, 1) := by decide +kernel
theorem dX7_isWord_57 : decode cX7_isWord 57 = .ok (.iinc 2 1, 3) := by decide +kernel
theorem dX7_isWord_60 : decode cX7_isWord 60 = .ok (.goto (-32), 3) := by decide +kernel
theorem dX7_isWord_63 : decode cX7_isWord 63 = .ok (.iconst 1, 1) := by decide +kernel
theorem dX7_isWord_64 : decode cX7_isWord 64 = .ok (.ireturn, 1) := by decide +kernel
set_option maxRecDepth 20000 in
theorem ggX7_step_X7_isBlank : GoodIn wsX7_step wsX7_isBlank := goodIn_r _ [9] (by decide +kernel) (by decide +kernel)
set_option maxRecDepth 20000 in
theorem gX7_step_X7_isBlank : GoodIn wsX7_step (va_wsS RX7 105 yX7_isBlank wsX7_isBlank) := goodIn_app (goodIn_of _ (by decide +kernel)) ggX7_step_X7_isBlank
set_option maxRecDepth 20000 in
theorem ggX7_step_X7_isLetter : GoodIn wsX7_step wsX7_isLetter := goodIn_r _ [12] (by decide +kernel) (by decide +kernel)
set_option maxRecDepth 20000 in
theorem gX7_step_X7_isLetter : GoodIn wsX7_step (va_wsS RX7 109 yX7_isLetter wsX7_isLetter) := goodIn_app (goodIn_of _ (by decide +kernel)) ggX7_step_X7_isLetter
set_option maxRecDepth 20000 in
theorem ggX7_step_X7_stepOverLetters : GoodIn wsX7_step wsX7_stepOverLetters := goodIn_r _ [16, 1, 3, 4, 10, 11, 8, 12, 25, 26, 27, 28, 29, 30, 31] (by decide +kernel) (by decide +kernel)
set_option maxRecDepth 20000 in
theorem gX7_step_X7_stepOverLetters : GoodIn wsX7_step (wsV RX7 112 RX7 yX7_stepOverLetters wsX7_stepOverLetters) := goodIn_app (goodIn_of _ (by decide +kernel)) ggX7_step_X7_stepOverLetters
set_option maxRecDepth 20000 in
theorem ggX7_step_X7_isFigure : GoodIn wsX7_step wsX7_isFigure := goodIn_r _ [19] (by decide +kernel) (by decide +kernel)
set_option maxRecDepth 20000 in
theorem gX7_step_X7_isFigure : GoodIn wsX7_step (va_wsS RX7 115 yX7_isFigure wsX7_isFigure) := goodIn_app (goodIn_of _ (by decide +kernel)) ggX7_step_X7_isFigure
set_option maxRecDepth 20000 in
theorem ggX7_step_X7_stepOverFigures : GoodIn wsX7_step wsX7_stepOverFigures := goodIn_r _ [23, 24, 1, 3, 4, 17, 18, 8, 19, 25, 26, 27, 28, 29, 30, 31] (by decide +kernel) (by decide +kernel)
set_option maxRecDepth 20000 in
theorem gX7_step_X7_stepOverFigures : GoodIn wsX7_step (wsV RX7 118 RX7 yX7_stepOverFigures wsX7_stepOverFigures) := goodIn_app (goodIn_of _ (by decide +kernel)) ggX7_step_X7_stepOverFigures
theorem dX7_step_0 : decode cX7_step 0 = .ok (.aload_n 0, 1) := by decide +kernel
theorem dX7_step_1 : decode cX7_step 1 = .ok (.aload_n 0, 1) := by decide +kernel
theorem dX7_step_2 : decode cX7_step 2 = .ok (.getfield 19, 3) := by decide +kernel
theorem dX7_step_5 : decode cX7_step 5 = .ok (.putfield 94, 3) := by decide +kernel
theorem dX7_step_8 : decode cX7_step 8 = .ok (.aload_n 0, 1) := by decide +kernel
theorem dX7_step_9 : decode cX7_step 9 = .ok (.getfield 94, 3) := by decide +kernel
theorem dX7_step_12 : decode cX7_step 12 = .ok (.aload_n 0, 1) := by decide +kernel
theorem dX7_step_13 : decode cX7_step 13 = .ok (.getfield 15, 3) := by decide +kernel
theorem dX7_step_16 : decode cX7_step 16 = .ok (.if_icmp .ge 31, 3) := by decide +kernel
theorem dX7_step_19 : decode cX7_step 19 = .ok (.aload_n 0, 1) := by decide +kernel
theorem dX7_step_20 : decode cX7_step 20 = .ok (.getfield 9, 3) := by decide +kernel
theorem dX7_step_23 : decode cX7_step 23 = .ok (.aload_n 0, 1) := by decide +kernel
theorem dX7_step_24 : decode cX7_step 24 = .ok (.getfield 94, 3) := by decide +kernel
theorem dX7_step_27 : decode cX7_step 27 = .ok (.baload, 1) := by decide +kernel
theorem dX7_step_28 : decode cX7_step 28 = .ok (.invokestatic 105, 3) := by decide +kernel
theorem dX7_step_31 : decode cX7_step 31 = .ok (.ifCond .eq 16, 3) := by decide +kernel
theorem dX7_step_34 : decode cX7_step 34 = .ok (.aload_n 0, 1) := by decide +kernel
theorem dX7_step_35 : decode cX7_step 35 = .ok (.dup, 1) := by decide +kernel
theorem dX7_step_36 : decode cX7_step 36 = .ok (.getfield 94, 3) := by decide +kernel
theorem dX7_step_39 : decode cX7_step 39 = .ok (.iconst 1, 1) := by decide +kernel
theorem dX7_step_40 : decode cX7_step 40 = .ok (.iadd, 1) := by decide +kernel
theorem dX7_step_41 : decode cX7_step 41 = .ok (.putfield 94, 3) := by decide +kernel
theorem dX7_step_44 : decode cX7_step 44 = .ok (.goto (-36), 3) := by decide +kernel
theorem dX7_step_47 : decode cX7_step 47 = .ok (.aload_n 0, 1) := by decide +kernel
theorem dX7_step_48 : decode cX7_step 48 = .ok (.aload_n 0, 1) := by decide +kernel
theorem dX7_step_49 : decode cX7_step 49 = .ok (.getfield 94, 3) := by decide +kernel
theorem dX7_step_52 : decode cX7_step 52 = .ok (.putfield 19, 3) := by decide +kernel
theorem dX7_step_55 : decode cX7_step 55 = .ok (.aload_n 0, 1) := by decide +kernel
theorem dX7_step_56 : decode cX7_step 56 = .ok (.getfield 94, 3) := by decide +kernel
theorem dX7_step_59 : decode cX7_step 59 = .ok (.aload_n 0, 1) := by decide +kernel
theorem dX7_step_60 : decode cX7_step 60 = .ok (.getfield 15, 3) := by decide +kernel
theorem dX7_step_63 : decode cX7_step 63 = .ok (.if_icmp .lt 11, 3) := by decide +kernel
theorem dX7_step_66 : decode cX7_step 66 = .ok (.aload_n 0, 1) := by decide +kernel
theorem dX7_step_67 : decode cX7_step 67 = .ok (.iconst 0, 1) := by decide +kernel
theorem dX7_step_68 : decode cX7_step 68 = .ok (.putfield 37, 3) := by decide +kernel
theorem dX7_step_71 : decode cX7_step 71 = .ok (.goto 107, 3) := by decide +kernel
theorem dX7_step_74 : decode cX7_step 74 = .ok (.aload_n 0, 1) := by decide +kernel
theorem dX7_step_75 : decode cX7_step 75 = .ok (.getfield 9, 3) := by decide +kernel
theorem dX7_step_78 : decode cX7_step 78 = .ok (.aload_n 0, 1) := by decide +kernel
theorem dX7_step_79 : decode cX7_step 79 = .ok (.getfield 94, 3) := by decide +kernel
theorem dX7_step_82 : decode cX7_step 82 = .ok (.baload, 1) := by decide +kernel
theorem dX7_step_83 : decode cX7_step 83 = .ok (.invokestatic 109, 3) := by decide +kernel
theorem dX7_step_86 : decode cX7_step 86 = .ok (.ifCond .eq 15, 3) := by decide +kernel
theorem dX7_step_89 : decode cX7_step 89 = .ok (.aload_n 0, 1) := by decide +kernel
theorem dX7_step_90 : decode cX7_step 90 = .ok (.iconst 1, 1) := by decide +kernel
theorem dX7_step_91 : decode cX7_step 91 = .ok (.putfield 37, 3) := by decide +kernel
theorem dX7_step_94 : decode cX7_step 94 = .ok (.aload_n 0, 1) := by decide +kernel
theorem dX7_step_95 : decode cX7_step 95 = .ok (.invokevirtual 112, 3) := by decide +kernel
theorem dX7_step_98 : decode cX7_step 98 = .ok (.goto 80, 3) := by decide +kernel
theorem dX7_step_101 : decode cX7_step 101 = .ok (.aload_n 0, 1) := by decide +kernel
theorem dX7_step_102 : decode cX7_step 102 = .ok (.getfield 9, 3) := by decide +kernel
theorem dX7_step_105 : decode cX7_step 105 = .ok (.aload_n 0, 1) := by decide +kernel
theorem dX7_step_106 : decode cX7_step 106 = .ok (.getfield 94, 3) := by decide +kernel
theorem dX7_step_109 : decode cX7_step 109 = .ok (.baload, 1) := by decide +kernel
theorem dX7_step_110 : decode cX7_step 110 = .ok (.invokestatic 115, 3) := by decide +kernel
theorem dX7_step_113 : decode cX7_step 113 = .ok (.ifCond .eq 32, 3) := by decide +kernel
theorem dX7_step_116 : decode cX7_step 116 = .ok (.aload_n 0, 1) := by decide +kernel
theorem dX7_step_117 : decode cX7_step 117 = .ok (.invokevirtual 118, 3) := by decide +kernel
theorem dX7_step_120 : decode cX7_step 120 = .ok (.aload_n 0, 1) := by decide +kernel
theorem dX7_step_121 : decode cX7_step 121 = .ok (.aload_n 0, 1) := by decide +kernel
theorem dX7_step_122 : decode cX7_step 122 = .ok (.getfield 19, 3) := by decide +kernel
theorem dX7_step_125 : decode cX7_step 125 = .ok (.aload_n 0, 1) := by decide +kernel
theorem dX7_step_126 : decode cX7_step 126 = .ok (.getfield 94, 3) := by decide +kernel
theorem dX7_step_129 : decode cX7_step 129 = .ok (.isub, 1) := by decide +kernel
theorem dX7_step_130 : decode cX7_step 130 = .ok (.iconst 3, 1) := by decide +kernel
theorem dX7_step_131 : decode cX7_step 131 = .ok (.if_icmp .gt 7, 3) := by decide +kernel
theorem dX7_step_134 : decode cX7_step 134 = .ok (.iconst 2, 1) := by decide +kernel
theorem dX7_step_135 : decode cX7_step 135 = .ok (.goto 4, 3) := by decide +kernel
theorem dX7_step_138 : decode cX7_step 138 = .ok (.iconst 4, 1) := by decide +kernel
theorem dX7_step_139 : decode cX7_step 139 = .ok (.putfield 37, 3) := by decide +kernel
theorem dX7_step_142 : decode cX7_step 142 = .ok (.goto 36, 3) := by decide +kernel
theorem dX7_step_145 : decode cX7_step 145 = .ok (.aload_n 0, 1) := by decide +kernel
theorem dX7_step_146 : decode cX7_step 146 = .ok (.aload_n 0, 1) := by decide +kernel
theorem dX7_step_147 : decode cX7_step 147 = .ok (.getfield 9, 3) := by decide +kernel
theorem dX7_step_150 : decode cX7_step 150 = .ok (.aload_n 0, 1) := by decide +kernel
theorem dX7_step_151 : decode cX7_step 151 = .ok (.getfield 94, 3) := by decide +kernel
theorem dX7_step_154 : decode cX7_step 154 = .ok (.baload, 1) := by decide +kernel
theorem dX7_step_155 : decode cX7_step 155 = .ok (.bipush 59, 2) := by decide +kernel
theorem dX7_step_157 : decode cX7_step 157 = .ok (.if_icmp .ne 7, 3) := by decide +kernel
theorem dX7_step_160 : decode cX7_step 160 = .ok (.iconst 3, 1) := by decide +kernel
theorem dX7_step_161 : decode cX7_step 161 = .ok (.goto 4, 3) := by decide +kernel
theorem dX7_step_164 : decode cX7_step 164 = .ok (.iconst 4, 1) := by decide +kernel
theorem dX7_step_165 : decode cX7_step 165 = .ok (.putfield 37, 3) := by decide +kernel
theorem dX7_step_168 : decode cX7_step 168 = .ok (.aload_n 0, 1) := by decide +kernel
theorem dX7_step_169 : decode cX7_step 169 = .ok (.dup, 1) := by decide +kernel
theorem dX7_step_170 : decode cX7_step 170 = .ok (.getfield 19, 3) := by decide +kernel
theorem dX7_step_173 : decode cX7_step 173 = .ok (.iconst 1, 1) := by decide +kernel
theorem dX7_step_174 : decode cX7_step 174 = .ok (.iadd, 1) := by decide +kernel
theorem dX7_step_175 : decode cX7_step 175 = .ok (.putfield 19, 3) := by decide +kernel
theorem dX7_step_178 : decode cX7_step 178 = .ok (.return_, 1) := by decide +kernel
set_option maxRecDepth 20000 in
theorem ggX7_stepOverLetters_X7_isLetter : GoodIn wsX7_stepOverLetters wsX7_isLetter := goodIn_r _ [7] (by decide +kernel) (by decide +kernel)
set_option maxRecDepth 20000 in
theorem gX7_stepOverLetters_X7_isLetter : GoodIn wsX7_stepOverLetters (va_wsS RX7 109 yX7_isLetter wsX7_isLetter) := goodIn_app (goodIn_of _ (by decide +kernel)) ggX7_stepOverLetters_X7_isLetter
theorem dX7_stepOverLetters_0 : decode cX7_stepOverLetters 0 = .ok (.aload_n 0, 1) := by decide +kernel
theorem dX7_stepOverLetters_1 : decode cX7_stepOverLetters 1 = .ok (.getfield 19, 3) := by decide +kernel
theorem dX7_stepOverLetters_4 : decode cX7_stepOverLetters 4 = .ok (.aload_n 0, 1) := by decide +kernel
theorem dX7_stepOverLetters_5 : decode cX7_stepOverLetters 5 = .ok (.getfield 15, 3) := by decide +kernel
theorem dX7_stepOverLetters_8 : decode cX7_stepOverLetters 8 = .ok (.if_icmp .ge 31, 3) := by decide +kernel
theorem dX7_stepOverLetters_11 : decode cX7_stepOverLetters 11 = .ok (.aload_n 0, 1) := by decide +kernel
theorem dX7_stepOverLetters_12 : decode cX7_stepOverLetters 12 = .ok (.getfield 9, 3) := by decide +kernel
theorem dX7_stepOverLetters_15 : decode cX7_stepOverLetters 15 = .ok (.aload_n 0, 1) := by decide +kernel
theorem dX7_stepOverLetters_16 : decode cX7_stepOverLetters 16 = .ok (.getfield 19, 3) := by decide +kernel
theorem dX7_stepOverLetters_19 : decode cX7_stepOverLetters 19 = .ok (.baload, 1) := by decide +kernel
theorem dX7_stepOverLetters_20 : decode cX7_stepOverLetters 20 = .ok (.invokestatic 109, 3) := by decide +kernel
theorem dX7_stepOverLetters_23 : decode cX7_stepOverLetters 23 = .ok (.ifCond .eq 16, 3) := by decide +kernel
theorem dX7_stepOverLetters_26 : decode cX7_stepOverLetters 26 = .ok (.aload_n 0, 1) := by decide +kernel
theorem dX7_stepOverLetters_27 : decode cX7_stepOverLetters 27 = .ok (.dup, 1) := by decide +kernel
theorem dX7_stepOverLetters_28 : decode cX7_stepOverLetters 28 = .ok (.getfield 19, 3) := by decide +kernel
theorem dX7_stepOverLetters_31 : decode cX7_stepOverLetters 31 = .ok (.iconst 1, 1) := by decide +kernel
theorem dX7_stepOverLetters_32 : decode cX7_stepOverLetters 32 = .ok (.iadd, 1) := by decide +kernel
theorem dX7_stepOverLetters_33 : decode cX7_stepOverLetters 33 = .ok (.putfield 19, 3) := by decide +kernel
theorem dX7_stepOverLetters_36 : decode cX7_stepOverLetters 36 = .ok (.goto (-36), 3) := by decide +kernel
theorem dX7_stepOverLetters_39 : decode cX7_stepOverLetters 39 = .ok (.return_, 1) := by decide +kernel
set_option maxRecDepth 20000 in
theorem ggX7_stepOverFigures_X7_isFigure : GoodIn wsX7_stepOverFigures wsX7_isFigure := goodIn_r _ [8] (by decide +kernel) (by decide +kernel)
set_option maxRecDepth 20000 in
theorem gX7_stepOverFigures_X7_isFigure : GoodIn wsX7_stepOverFigures (va_wsS RX7 115 yX7_isFigure wsX7_isFigure) := goodIn_app (goodIn_of _ (by decide +kernel)) ggX7_stepOverFigures_X7_isFigure
theorem dX7_stepOverFigures_0 : decode cX7_stepOverFigures 0 = .ok (.aload_n 0, 1) := by decide +kernel
theorem dX7_stepOverFigures_1 : decode cX7_stepOverFigures 1 = .ok (.iconst 0, 1) := by decide +kernel
theorem dX7_stepOverFigures_2 : decode cX7_stepOverFigures 2 = .ok (.putfield 81, 3) := by decide +kernel
theorem dX7_stepOverFigures_5 : decode cX7_stepOverFigures 5 = .ok (.aload_n 0, 1) := by decide +kernel
theorem dX7_stepOverFigures_6 : decode cX7_stepOverFigures 6 = .ok (.getfield 19, 3) := by decide +kernel
theorem dX7_stepOverFigures_9 : decode cX7_stepOverFigures 9 = .ok (.aload_n 0, 1) := by decide +kernel
theorem dX7_stepOverFigures_10 : decode cX7_stepOverFigures 10 = .ok (.getfield 15, 3) := by decide +kernel
theorem dX7_stepOverFigures_13 : decode cX7_stepOverFigures 13 = .ok (.if_icmp .ge 55, 3) := by decide +kernel
theorem dX7_stepOverFigures_16 : decode cX7_stepOverFigures 16 = .ok (.aload_n 0, 1) := by decide +kernel
theorem dX7_stepOverFigures_17 : decode cX7_stepOverFigures 17 = .ok (.getfield 9, 3) := by decide +kernel
theorem dX7_stepOverFigures_20 : decode cX7_stepOverFigures 20 = .ok (.aload_n 0, 1) := by decide +kernel
theorem dX7_stepOverFigures_21 : decode cX7_stepOverFigures 21 = .ok (.getfield 19, 3) := by decide +kernel
theorem dX7_stepOverFigures_24 : decode cX7_stepOverFigures 24 = .ok (.baload, 1) := by decide +kernel
theorem dX7_stepOverFigures_25 : decode cX7_stepOverFigures 25 = .ok (.invokestatic 115, 3) := by decide +kernel
theorem dX7_stepOverFigures_28 : decode cX7_stepOverFigures 28 = .ok (.ifCond .eq 40, 3) := by decide +kernel
theorem dX7_stepOverFigures_31 : decode cX7_stepOverFigures 31 = .ok (.aload_n 0, 1) := by decide +kernel
theorem dX7_stepOverFigures_32 : decode cX7_stepOverFigures 32 = .ok (.aload_n 0, 1) := by decide +kernel
theorem dX7_stepOverFigures_33 : decode cX7_stepOverFigures 33 = .ok (.getfield 81, 3) := by decide +kernel
theorem dX7_stepOverFigures_36 : decode cX7_stepOverFigures 36 = .ok (.bipush 10, 2) := by decide +kernel
theorem dX7_stepOverFigures_38 : decode cX7_stepOverFigures 38 = .ok (.imul, 1) := by decide +kernel
theorem dX7_stepOverFigures_39 : decode cX7_stepOverFigures 39 = .ok (.aload_n 0, 1) := by decide +kernel
theorem dX7_stepOverFigures_40 : decode cX7_stepOverFigures 40 = .ok (.getfield 9, 3) := by decide +kernel
theorem dX7_stepOverFigures_43 : decode cX7_stepOverFigures 43 = .ok (.aload_n 0, 1) := by decide +kernel
theorem dX7_stepOverFigures_44 : decode cX7_stepOverFigures 44 = .ok (.getfield 19, 3) := by decide +kernel
theorem dX7_stepOverFigures_47 : decode cX7_stepOverFigures 47 = .ok (.baload, 1) := by decide +kernel
theorem dX7_stepOverFigures_48 : decode cX7_stepOverFigures 48 = .ok (.bipush 48, 2) := by decide +kernel
theorem dX7_stepOverFigures_50 : decode cX7_stepOverFigures 50 = .ok (.isub, 1) := by decide +kernel
theorem dX7_stepOverFigures_51 : decode cX7_stepOverFigures 51 = .ok (.iadd, 1) := by decide +kernel
theorem dX7_stepOverFigures_52 : decode cX7_stepOverFigures 52 = .ok (.putfield 81, 3) := by decide +kernel
theorem dX7_stepOverFigures_55 : decode cX7_stepOverFigures 55 = .ok (.aload_n 0, 1) := by decide +kernel
theorem dX7_stepOverFigures_56 : decode cX7_stepOverFigures 56 = .ok (.dup, 1) := by decide +kernel
theorem dX7_stepOverFigures_57 : decode cX7_stepOverFigures 57 = .ok (.getfield 19, 3) := by decide +kernel
theorem dX7_stepOverFigures_60 : decode cX7_stepOverFigures 60 = .ok (.iconst 1, 1) := by decide +kernel
theorem dX7_stepOverFigures_61 : decode cX7_stepOverFigures 61 = .ok (.iadd, 1) := by decide +kernel
theorem dX7_stepOverFigures_62 : decode cX7_stepOverFigures 62 = .ok (.putfield 19, 3) := by decide +kernel
theorem dX7_stepOverFigures_65 : decode cX7_stepOverFigures 65 = .ok (.goto (-60), 3) := by decide +kernel
theorem dX7_stepOverFigures_68 : decode cX7_stepOverFigures 68 = .ok (.return_, 1) := by decide +kernel
theorem dX7_isBlank_0 : decode cX7_isBlank 0 = .ok (.iload_n 0, 1) := by decide +kernel
theorem dX7_isBlank_1 : decode cX7_isBlank 1 = .ok (.bipush 32, 2) := by decide +kernel
theorem dX7_isBlank_3 : decode cX7_isBlank 3 = .ok (.if_icmp .eq 9, 3) := by decide +kernel
theorem dX7_isBlank_6 : decode cX7_isBlank 6 = .ok (.iload_n 0, 1) := by decide +kernel
theorem dX7_isBlank_7 : decode cX7_isBlank 7 = .ok (.bipush 10, 2) := by decide +kernel
theorem dX7_isBlank_9 : decode cX7_isBlank 9 = .ok (.if_icmp .ne 7, 3) := by decide +kernel
theorem dX7_isBlank_12 : decode cX7_isBlank 12 = .ok (.iconst 1, 1) := by decide +kernel
theorem dX7_isBlank_13 : decode cX7_isBlank 13 = .ok (.goto 4, 3) := by decide +kernel
theorem dX7_isBlank_16 : decode cX7_isBlank 16 = .ok (.iconst 0, 1) := by decide +kernel
theorem dX7_isBlank_17 : decode cX7_isBlank 17 = .ok (.ireturn, 1) := by decide +kernel
theorem dX7_isLetter_0 : decode cX7_isLetter 0 = .ok (.iload_n 0, 1) := by decide +kernel
theorem dX7_isLetter_1 : decode cX7_isLetter 1 = .ok (.bipush 97, 2) := by decide +kernel
theorem dX7_isLetter_3 : decode cX7_isLetter 3 = .ok (.if_icmp .lt 13, 3) := by decide +kernel
theorem dX7_isLetter_6 : decode cX7_isLetter 6 = .ok (.iload_n 0, 1) := by decide +kernel
theorem dX7_isLetter_7 : decode cX7_isLetter 7 = .ok (.bipush 122, 2) := by decide +kernel
theorem dX7_isLetter_9 : decode cX7_isLetter 9 = .ok (.if_icmp .gt 7, 3) := by decide +kernel
theorem dX7_isLetter_12 : decode cX7_isLetter 12 = .ok (.iconst 1, 1) := by decide +kernel
theorem dX7_isLetter_13 : decode cX7_isLetter 13 = .ok (.goto 4, 3) := by decide +kernel
theorem dX7_isLetter_16 : decode cX7_isLetter 16 = .ok (.iconst 0, 1) := by decide +kernel
theorem dX7_isLetter_17 : decode cX7_isLetter 17 = .ok (.ireturn, 1) := by decide +kernel
theorem dX7_isFigure_0 : decode cX7_isFigure 0 = .ok (.iload_n 0, 1) := by decide +kernel
theorem dX7_isFigure_1 : decode cX7_isFigure 1 = .ok (.bipush 48, 2) := by decide +kernel
theorem dX7_isFigure_3 : decode cX7_isFigure 3 = .ok (.if_icmp .lt 13, 3) := by decide +kernel
theorem dX7_isFigure_6 : decode cX7_isFigure 6 = .ok (.iload_n 0, 1) := by decide +kernel
theorem dX7_isFigure_7 : decode cX7_isFigure 7 = .ok (.bipush 57, 2) := by decide +kernel
theorem dX7_isFigure_9 : decode cX7_isFigure 9 = .ok (.if_icmp .gt 7, 3) := by decide +kernel
theorem dX7_isFigure_12 : decode cX7_isFigure 12 = .ok (.iconst 1, 1) := by decide +kernel
theorem dX7_isFigure_13 : decode cX7_isFigure 13 = .ok (.goto 4, 3) := by decide +kernel
theorem dX7_isFigure_16 : decode cX7_isFigure 16 = .ok (.iconst 0, 1) := by decide +kernel
theorem dX7_isFigure_17 : decode cX7_isFigure 17 = .ok (.ireturn, 1) := by decide +kernel
set_option maxRecDepth 20000 in
theorem ggX8_init_X6_init : GoodIn wsX8_init wsX6_init := goodIn_r _ [39, 40, 2, 3, 41, 42, 43, 44, 45, 46, 47, 48, 49, 92, 93, 94] (by decide +kernel) (by decide +kernel)
set_option maxRecDepth 20000 in
theorem gX8_init_X6_init : GoodIn wsX8_init (wsX6_init) := ggX8_init_X6_init
set_option maxRecDepth 20000 in
theorem ggX8_init_X7_init : GoodIn wsX8_init wsX7_init := goodIn_r _ [51, 52, 2, 3, 53, 54, 106, 107, 108, 109, 110, 111, 112] (by decide +kernel) (by decide +kernel)
set_option maxRecDepth 20000 in
theorem gX8_init_X7_init_n18 : GoodIn wsX8_init (wsX7_init) := ggX8_init_X7_init
set_option maxRecDepth 20000 in
theorem ggX8_init_X2_init : GoodIn wsX8_init wsX2_init := goodIn_r _ [56, 57, 2, 3, 42, 58, 59, 60, 61, 113, 114, 115, 116, 117] (by decide +kernel) (by decide +kernel)
set_option maxRecDepth 20000 in
theorem gX8_init_X2_init_n25 : GoodIn wsX8_init (wsX2_init) := ggX8_init_X2_init
set_option maxRecDepth 20000 in
theorem ggX8_init_X1_init : GoodIn wsX8_init wsX1_init := goodIn_r _ [63, 64, 2, 3, 65, 13, 14, 66, 67, 26, 27, 68, 55, 56, 57, 42, 58, 59, 60, 61, 69, 70, 71, 72, 73, 74, 113, 114, 115, 116, 117, 118, 119, 120, 124, 125, 126, 127] (by decide +kernel) (by decide +kernel)
set_option maxRecDepth 20000 in
theorem gX8_init_X1_init_n32 : GoodIn wsX8_init (wsX1_init) := ggX8_init_X1_init
set_option maxRecDepth 20000 in
theorem ggX8_init_X5_init : GoodIn wsX8_init wsX5_init := goodIn_r _ [77, 78, 2, 3, 79, 80, 26, 27, 69, 70, 71, 42, 72, 73, 74, 121, 122, 123, 124, 125, 126, 127] (by decide +kernel) (by decide +kernel)
set_option maxRecDepth 20000 in
theorem gX8_init_X5_init : GoodIn wsX8_init (wsX5_init) := ggX8_init_X5_init
set_option maxRecDepth 20000 in
theorem ggX8_init_X3_init : GoodIn wsX8_init wsX3_init := goodIn_r _ [70, 71, 2, 3, 42, 72, 73, 74, 124, 125, 126, 127] (by decide +kernel) (by decide +kernel)
set_option maxRecDepth 20000 in
theorem gX8_init_X3_init_n50 : GoodIn wsX8_init (wsX3_init) := ggX8_init_X3_init
set_option maxRecDepth 20000 in
theorem ggX8_init_X4_init : GoodIn wsX8_init wsX4_init := goodIn_r _ [82, 83, 2, 3, 42, 84, 85, 86, 87, 128, 129, 130, 131, 132] (by decide +kernel) (by decide +kernel)
set_option maxRecDepth 20000 in
theorem gX8_init_X4_init_n57 : GoodIn wsX8_init (wsX4_init) := ggX8_init_X4_init
set_option maxRecDepth 20000 in
theorem ggX8_init_X0_init : GoodIn wsX8_init wsX0_init := goodIn_r _ [89, 90, 2, 3, 42, 91, 133, 134] (by decide +kernel) (by decide +kernel)
set_option maxRecDepth 20000 in
theorem gX8_init_X0_init_n64 : GoodIn wsX8_init (wsX0_init) := ggX8_init_X0_init
theorem dX8_init_0 : decode cX8_init 0 = .ok (.aload_n 0, 1) := by decide +kernel
theorem dX8_init_1 : decode cX8_init 1 = .ok (.invokespecial 1, 3) := by decide +kernel
theorem dX8_init_4 : decode cX8_init 4 = .ok (.aload_n 0, 1) := by decide +kernel
theorem dX8_init_5 : decode cX8_init 5 = .ok (.new 7, 3) := by decide +kernel
theorem dX8_init_8 : decode cX8_init 8 = .ok (.dup, 1) := by decide +kernel
theorem dX8_init_9 : decode cX8_init 9 = .ok (.invokespecial 9, 3) := by decide +kernel
theorem dX8_init_12 : decode cX8_init 12 = .ok (.putfield 10, 3) := by decide +kernel
theorem dX8_init_15 : decode cX8_init 15 = .ok (.aload_n 0, 1) := by decide +kernel
theorem dX8_init_16 : decode cX8_init 16 = .ok (.new 16, 3) := by decide +kernel
theorem dX8_init_19 : decode cX8_init 19 = .ok (.dup, 1) := by decide +kernel
theorem dX8_init_20 : decode cX8_init 20 = .ok (.invokespecial 18, 3) := by decide +kernel
theorem dX8_init_23 : decode cX8_init 23 = .ok (.putfield 19, 3) := by decide +kernel
theorem dX8_init_26 : decode cX8_init 26 = .ok (.aload_n 0, 1) := by decide +kernel
theorem dX8_init_27 : decode cX8_init 27 = .ok (.new 23, 3) := by decide +kernel
theorem dX8_init_30 : decode cX8_init 30 = .ok (.dup, 1) := by decide +kernel
theorem dX8_init_31 : decode cX8_init 31 = .ok (.invokespecial 25, 3) := by decide +kernel
theorem dX8_init_34 : decode cX8_init 34 = .ok (.putfield 26, 3) := by decide +kernel
theorem dX8_init_37 : decode cX8_init 37 = .ok (.aload_n 0, 1) := by decide +kernel
theorem dX8_init_38 : decode cX8_init 38 = .ok (.new 30, 3) := by decide +kernel
theorem dX8_init_41 : decode cX8_init 41 = .ok (.dup, 1) := by decide +kernel
theorem dX8_init_42 : decode cX8_init 42 = .ok (.invokespecial 32, 3) := by decide +kernel
theorem dX8_init_45 : decode cX8_init 45 = .ok (.putfield 33, 3) := by decide +kernel
theorem dX8_init_48 : decode cX8_init 48 = .ok (.aload_n 0, 1) := by decide +kernel
theorem dX8_init_49 : decode cX8_init 49 = .ok (.iconst 2, 1) := by decide +kernel
theorem dX8_init_50 : decode cX8_init 50 = .ok (.anewarray 30, 3) := by decide +kernel
theorem dX8_init_53 : decode cX8_init 53 = .ok (.putfield 37, 3) := by decide +kernel
theorem dX8_init_56 : decode cX8_init 56 = .ok (.aload_n 0, 1) := by decide +kernel
theorem dX8_init_57 : decode cX8_init 57 = .ok (.new 41, 3) := by decide +kernel
theorem dX8_init_60 : decode cX8_init 60 = .ok (.dup, 1) := by decide +kernel
theorem dX8_init_61 : decode cX8_init 61 = .ok (.invokespecial 43, 3) := by decide +kernel
theorem dX8_init_64 : decode cX8_init 64 = .ok (.putfield 44, 3) := by decide +kernel
theorem dX8_init_67 : decode cX8_init 67 = .ok (.aload_n 0, 1) := by decide +kernel
theorem dX8_init_68 : decode cX8_init 68 = .ok (.new 48, 3) := by decide +kernel
theorem dX8_init_71 : decode cX8_init 71 = .ok (.dup, 1) := by decide +kernel
theorem dX8_init_72 : decode cX8_init 72 = .ok (.invokespecial 50, 3) := by decide +kernel
theorem dX8_init_75 : decode cX8_init 75 = .ok (.putfield 51, 3) := by decide +kernel
theorem dX8_init_78 : decode cX8_init 78 = .ok (.aload_n 0, 1) := by decide +kernel
theorem dX8_init_79 : decode cX8_init 79 = .ok (.new 55, 3) := by decide +kernel
theorem dX8_init_82 : decode cX8_init 82 = .ok (.dup, 1) := by decide +kernel
theorem dX8_init_83 : decode cX8_init 83 = .ok (.invokespecial 57, 3) := by decide +kernel
theorem dX8_init_86 : decode cX8_init 86 = .ok (.putfield 58, 3) := by decide +kernel
theorem dX8_init_89 : decode cX8_init 89 = .ok (.aload_n 0, 1) := by decide +kernel
theorem dX8_init_90 : decode cX8_init 90 = .ok (.new 62, 3) := by decide +kernel
theorem dX8_init_93 : decode cX8_init 93 = .ok (.dup, 1) := by decide +kernel
theorem dX8_init_94 : decode cX8_init 94 = .ok (.invokespecial 64, 3) := by decide +kernel
theorem dX8_init_97 : decode cX8_init 97 = .ok (.putfield 65, 3) := by decide +kernel
theorem dX8_init_100 : decode cX8_init 100 = .ok (.iconst 0, 1) := by decide +kernel
theorem dX8_init_101 : decode cX8_init 101 = .ok (.istore_n 1, 1) := by decide +kernel
theorem dX8_init_102 : decode cX8_init 102 = .ok (.iload_n 1, 1) := by decide +kernel
theorem dX8_init_103 : decode cX8_init 103 = .ok (.iconst 2, 1) := by decide +kernel
theorem dX8_init_104 : decode cX8_init 104 = .ok (.if_icmp .ge 22, 3) := by decide +kernel
theorem dX8_init_107 : decode cX8_init 107 = .ok (.aload_n 0, 1) := by decide +kernel
theorem dX8_init_108 : decode cX8_init 108 = .ok (.getfield 37, 3) := by decide +kernel
theorem dX8_init_111 : decode cX8_init 111 = .ok (.iload_n 1, 1) := by decide +kernel
theorem dX8_init_112 : decode cX8_init 112 = .ok (.new 30, 3) := by decide +kernel
theorem dX8_init_115 : decode cX8_init 115 = .ok (.dup, 1) := by decide +kernel
theorem dX8_init_116 : decode cX8_init 116 = .ok (.invokespecial 32, 3) := by decide +kernel
theorem dX8_init_119 : decode cX8_init 119 = .ok (.aastore, 1) := by decide +kernel
theorem dX8_init_120 : decode cX8_init 120 = .ok (.iinc 1 1, 3) := by decide +kernel
theorem dX8_init_123 : decode cX8_init 123 = .ok (.goto (-21), 3) := by decide +kernel
theorem dX8_init_126 : decode cX8_init 126 = .ok (.return_, 1) := by decide +kernel
set_option maxRecDepth 20000 in
theorem ggX8_row_X8_isRow : GoodIn wsX8_row wsX8_isRow := goodIn_r _ [6] (by decide +kernel) (by decide +kernel)
set_option maxRecDepth 20000 in
theorem gX8_row_X8_isRow : GoodIn wsX8_row (va_wsS RX8 69 yX8_isRow wsX8_isRow) := goodIn_app (goodIn_of _ (by decide +kernel)) ggX8_row_X8_isRow
set_option maxRecDepth 20000 in
theorem ggX8_row_X8_found : GoodIn wsX8_row wsX8_found := goodIn_r _ [10, 11, 12, 29, 30, 31, 32, 33, 34, 35, 36, 37, 38, 39] (by decide +kernel) (by decide +kernel)
set_option maxRecDepth 20000 in
theorem gX8_row_X8_found : GoodIn wsX8_row (wsV RX8 74 RX8 yX8_found wsX8_found) := goodIn_app (goodIn_of _ (by decide +kernel)) ggX8_row_X8_found
set_option maxRecDepth 20000 in
theorem ggX8_row_X6_make : GoodIn wsX8_row wsX6_make := goodIn_r _ [17, 18, 19, 20, 21, 22, 23, 24, 40, 41, 42] (by decide +kernel) (by decide +kernel)
set_option maxRecDepth 20000 in
theorem gX8_row_X6_make : GoodIn wsX8_row (wsV RX8 78 RX6 yX6_make wsX6_make) := goodIn_app (goodIn_of _ (by decide +kernel)) ggX8_row_X6_make
set_option maxRecDepth 20000 in
theorem ggX8_row_X8_fine : GoodIn wsX8_row wsX8_fine := goodIn_r _ [28, 11, 29, 30, 31, 32, 33, 34, 35, 36, 37, 38, 39] (by decide +kernel) (by decide +kernel)
set_option maxRecDepth 20000 in
theorem gX8_row_X8_fine : GoodIn wsX8_row (wsV RX8 82 RX8 yX8_fine wsX8_fine) := goodIn_app (goodIn_of _ (by decide +kernel)) ggX8_row_X8_fine
theorem dX8_row_0 : decode cX8_row 0 = .ok (.iload_n 1, 1) := by decide +kernel
theorem dX8_row_1 : decode cX8_row 1 = .ok (.invokestatic 69, 3) := by decide +kernel
theorem dX8_row_4 : decode cX8_row 4 = .ok (.ifCond .eq 18, 3) := by decide +kernel
theorem dX8_row_7 : decode cX8_row 7 = .ok (.iload_n 2, 1) := by decide +kernel
theorem dX8_row_8 : decode cX8_row 8 = .ok (.ifCond .lt 14, 3) := by decide +kernel
theorem dX8_row_11 : decode cX8_row 11 = .ok (.iload_n 2, 1) := by decide +kernel
theorem dX8_row_12 : decode cX8_row 12 = .ok (.iconst 3, 1) := by decide +kernel
theorem dX8_row_13 : decode cX8_row 13 = .ok (.if_icmp .ge 9, 3) := by decide +kernel
theorem dX8_row_16 : decode cX8_row 16 = .ok (.iload_n 3, 1) := by decide +kernel
theorem dX8_row_17 : decode cX8_row 17 = .ok (.bipush 40, 2) := by decide +kernel
theorem dX8_row_19 : decode cX8_row 19 = .ok (.if_icmp .le 6, 3) := by decide +kernel
theorem dX8_row_22 : decode cX8_row 22 = .ok (.ldc 73, 2) := by decide +kernel
theorem dX8_row_24 : decode cX8_row 24 = .ok (.ireturn, 1) := by decide +kernel
theorem dX8_row_25 : decode cX8_row 25 = .ok (.iload_n 3, 1) := by decide +kernel
theorem dX8_row_26 : decode cX8_row 26 = .ok (.ifCond .ge 9, 3) := by decide +kernel
theorem dX8_row_29 : decode cX8_row 29 = .ok (.aload_n 0, 1) := by decide +kernel
theorem dX8_row_30 : decode cX8_row 30 = .ok (.iconst 4, 1) := by decide +kernel
theorem dX8_row_31 : decode cX8_row 31 = .ok (.invokevirtual 74, 3) := by decide +kernel
theorem dX8_row_34 : decode cX8_row 34 = .ok (.ireturn, 1) := by decide +kernel
theorem dX8_row_35 : decode cX8_row 35 = .ok (.aload_n 0, 1) := by decide +kernel
theorem dX8_row_36 : decode cX8_row 36 = .ok (.getfield 10, 3) := by decide +kernel
theorem dX8_row_39 : decode cX8_row 39 = .ok (.iload_n 1, 1) := by decide +kernel
theorem dX8_row_40 : decode cX8_row 40 = .ok (.iload_n 2, 1) := by decide +kernel
theorem dX8_row_41 : decode cX8_row 41 = .ok (.iload_n 3, 1) := by decide +kernel
theorem dX8_row_42 : decode cX8_row 42 = .ok (.invokevirtual 78, 3) := by decide +kernel
theorem dX8_row_45 : decode cX8_row 45 = .ok (.aload_n 0, 1) := by decide +kernel
theorem dX8_row_46 : decode cX8_row 46 = .ok (.iload_n 3, 1) := by decide +kernel
theorem dX8_row_47 : decode cX8_row 47 = .ok (.invokevirtual 82, 3) := by decide +kernel
theorem dX8_row_50 : decode cX8_row 50 = .ok (.ireturn, 1) := by decide +kernel
set_option maxRecDepth 20000 in
theorem ggX8_set_X8_isRow : GoodIn wsX8_set wsX8_isRow := goodIn_r _ [6] (by decide +kernel) (by decide +kernel)
set_option maxRecDepth 20000 in
theorem gX8_set_X8_isRow : GoodIn wsX8_set (va_wsS RX8 69 yX8_isRow wsX8_isRow) := goodIn_app (goodIn_of _ (by decide +kernel)) ggX8_set_X8_isRow
set_option maxRecDepth 20000 in
theorem ggX8_set_X6_isMissing : GoodIn wsX8_set wsX6_isMissing := goodIn_r _ [11, 12, 44, 45, 46] (by decide +kernel) (by decide +kernel)
set_option maxRecDepth 20000 in
theorem gX8_set_X6_isMissing : GoodIn wsX8_set (wsV RX8 85 RX6 yX6_isMissing wsX6_isMissing) := goodIn_app (goodIn_of _ (by decide +kernel)) ggX8_set_X6_isMissing
set_option maxRecDepth 20000 in
theorem ggX8_set_X8_found : GoodIn wsX8_set wsX8_found := goodIn_r _ [16, 17, 18, 33, 34, 35, 36, 37, 38, 39, 40, 41, 42, 43] (by decide +kernel) (by decide +kernel)
set_option maxRecDepth 20000 in
theorem gX8_set_X8_found : GoodIn wsX8_set (wsV RX8 74 RX8 yX8_found wsX8_found) := goodIn_app (goodIn_of _ (by decide +kernel)) ggX8_set_X8_found
set_option maxRecDepth 20000 in
theorem ggX8_set_X6_hasPlaces : GoodIn wsX8_set wsX6_hasPlaces := goodIn_r _ [22, 23, 44, 45, 46] (by decide +kernel) (by decide +kernel)
set_option maxRecDepth 20000 in
theorem gX8_set_X6_hasPlaces : GoodIn wsX8_set (wsV RX8 88 RX6 yX6_hasPlaces wsX6_hasPlaces) := goodIn_app (goodIn_of _ (by decide +kernel)) ggX8_set_X6_hasPlaces
set_option maxRecDepth 20000 in
theorem ggX8_set_X6_put : GoodIn wsX8_set wsX6_put := goodIn_r _ [27, 12, 28, 44, 45, 46] (by decide +kernel) (by decide +kernel)
set_option maxRecDepth 20000 in
theorem gX8_set_X6_put : GoodIn wsX8_set (wsV RX8 92 RX6 yX6_put wsX6_put) := goodIn_app (goodIn_of _ (by decide +kernel)) ggX8_set_X6_put
set_option maxRecDepth 20000 in
theorem ggX8_set_X8_fine : GoodIn wsX8_set wsX8_fine := goodIn_r _ [32, 17, 33, 34, 35, 36, 37, 38, 39, 40, 41, 42, 43] (by decide +kernel) (by decide +kernel)
set_option maxRecDepth 20000 in
theorem gX8_set_X8_fine : GoodIn wsX8_set (wsV RX8 82 RX8 yX8_fine wsX8_fine) := goodIn_app (goodIn_of _ (by decide +kernel)) ggX8_set_X8_fine
theorem dX8_set_0 : decode cX8_set 0 = .ok (.iload_n 1, 1) := by decide +kernel
theorem dX8_set_1 : decode cX8_set 1 = .ok (.invokestatic 69, 3) := by decide +kernel
theorem dX8_set_4 : decode cX8_set 4 = .ok (.ifCond .ne 6, 3) := by decide +kernel
theorem dX8_set_7 : decode cX8_set 7 = .ok (.ldc 73, 2) := by decide +kernel
theorem dX8_set_9 : decode cX8_set 9 = .ok (.ireturn, 1) := by decide +kernel
theorem dX8_set_10 : decode cX8_set 10 = .ok (.aload_n 0, 1) := by decide +kernel
theorem dX8_set_11 : decode cX8_set 11 = .ok (.getfield 10, 3) := by decide +kernel
theorem dX8_set_14 : decode cX8_set 14 = .ok (.iload_n 1, 1) := by decide +kernel
theorem dX8_set_15 : decode cX8_set 15 = .ok (.invokevirtual 85, 3) := by decide +kernel
theorem dX8_set_18 : decode cX8_set 18 = .ok (.ifCond .eq 9, 3) := by decide +kernel
theorem dX8_set_21 : decode cX8_set 21 = .ok (.aload_n 0, 1) := by decide +kernel
theorem dX8_set_22 : decode cX8_set 22 = .ok (.iconst 1, 1) := by decide +kernel
theorem dX8_set_23 : decode cX8_set 23 = .ok (.invokevirtual 74, 3) := by decide +kernel
theorem dX8_set_26 : decode cX8_set 26 = .ok (.ireturn, 1) := by decide +kernel
theorem dX8_set_27 : decode cX8_set 27 = .ok (.aload_n 0, 1) := by decide +kernel
theorem dX8_set_28 : decode cX8_set 28 = .ok (.getfield 10, 3) := by decide +kernel
theorem dX8_set_31 : decode cX8_set 31 = .ok (.iload_n 1, 1) := by decide +kernel
theorem dX8_set_32 : decode cX8_set 32 = .ok (.iload_n 2, 1) := by decide +kernel
theorem dX8_set_33 : decode cX8_set 33 = .ok (.iconst 1, 1) := by decide +kernel
theorem dX8_set_34 : decode cX8_set 34 = .ok (.invokevirtual 88, 3) := by decide +kernel
theorem dX8_set_37 : decode cX8_set 37 = .ok (.ifCond .ne 9, 3) := by decide +kernel
theorem dX8_set_40 : decode cX8_set 40 = .ok (.aload_n 0, 1) := by decide +kernel
theorem dX8_set_41 : decode cX8_set 41 = .ok (.iconst 2, 1) := by decide +kernel
theorem dX8_set_42 : decode cX8_set 42 = .ok (.invokevirtual 74, 3) := by decide +kernel
theorem dX8_set_45 : decode cX8_set 45 = .ok (.ireturn, 1) := by decide +kernel
theorem dX8_set_46 : decode cX8_set 46 = .ok (.aload_n 0, 1) := by decide +kernel
theorem dX8_set_47 : decode cX8_set 47 = .ok (.aload_n 0, 1) := by decide +kernel
theorem dX8_set_48 : decode cX8_set 48 = .ok (.getfield 10, 3) := by decide +kernel
theorem dX8_set_51 : decode cX8_set 51 = .ok (.iload_n 1, 1) := by decide +kernel
theorem dX8_set_52 : decode cX8_set 52 = .ok (.iload_n 2, 1) := by decide +kernel
theorem dX8_set_53 : decode cX8_set 53 = .ok (.iload_n 3, 1) := by decide +kernel
theorem dX8_set_54 : decode cX8_set 54 = .ok (.invokevirtual 92, 3) := by decide +kernel
theorem dX8_set_57 : decode cX8_set 57 = .ok (.invokevirtual 82, 3) := by decide +kernel
theorem dX8_set_60 : decode cX8_set 60 = .ok (.ireturn, 1) := by decide +kernel
set_option maxRecDepth 20000 in
theorem ggX8_copy_X8_isRow : GoodIn wsX8_copy wsX8_isRow := goodIn_r _ [12] (by decide +kernel) (by decide +kernel)
set_option maxRecDepth 20000 in
theorem gX8_copy_X8_isRow : GoodIn wsX8_copy (va_wsS RX8 69 yX8_isRow wsX8_isRow) := goodIn_app (goodIn_of _ (by decide +kernel)) ggX8_copy_X8_isRow
set_option maxRecDepth 20000 in
theorem ggX8_copy_X6_isMissing : GoodIn wsX8_copy wsX6_isMissing := goodIn_r _ [17, 18, 45, 46, 47] (by decide +kernel) (by decide +kernel)
set_option maxRecDepth 20000 in
theorem gX8_copy_X6_isMissing : GoodIn wsX8_copy (wsV RX8 85 RX6 yX6_isMissing wsX6_isMissing) := goodIn_app (goodIn_of _ (by decide +kernel)) ggX8_copy_X6_isMissing
set_option maxRecDepth 20000 in
theorem ggX8_copy_X8_found : GoodIn wsX8_copy wsX8_found := goodIn_r _ [22, 23, 24, 34, 35, 36, 37, 38, 39, 40, 41, 42, 43, 44] (by decide +kernel) (by decide +kernel)
set_option maxRecDepth 20000 in
theorem gX8_copy_X8_found : GoodIn wsX8_copy (wsV RX8 74 RX8 yX8_found wsX8_found) := goodIn_app (goodIn_of _ (by decide +kernel)) ggX8_copy_X8_found
set_option maxRecDepth 20000 in
theorem ggX8_copy_X6_hasPlaces : GoodIn wsX8_copy wsX6_hasPlaces := goodIn_r _ [28, 29, 45, 46, 47] (by decide +kernel) (by decide +kernel)
set_option maxRecDepth 20000 in
theorem gX8_copy_X6_hasPlaces : GoodIn wsX8_copy (wsV RX8 88 RX6 yX6_hasPlaces wsX6_hasPlaces) := goodIn_app (goodIn_of _ (by decide +kernel)) ggX8_copy_X6_hasPlaces
set_option maxRecDepth 20000 in
theorem ggX8_copy_X8_fine : GoodIn wsX8_copy wsX8_fine := goodIn_r _ [33, 23, 34, 35, 36, 37, 38, 39, 40, 41, 42, 43, 44] (by decide +kernel) (by decide +kernel)
set_option maxRecDepth 20000 in
theorem gX8_copy_X8_fine : GoodIn wsX8_copy (wsV RX8 82 RX8 yX8_fine wsX8_fine) := goodIn_app (goodIn_of _ (by decide +kernel)) ggX8_copy_X8_fine
theorem dX8_copy_0 : decode cX8_copy 0 = .ok (.iload_n 1, 1) := by decide +kernel
theorem dX8_copy_1 : decode cX8_copy 1 = .ok (.invokestatic 69, 3) := by decide +kernel
theorem dX8_copy_4 : decode cX8_copy 4 = .ok (.ifCond .eq 10, 3) := by decide +kernel
theorem dX8_copy_7 : decode cX8_copy 7 = .ok (.iload_n 3, 1) := by decide +kernel
theorem dX8_copy_8 : decode cX8_copy 8 = .ok (.invokestatic 69, 3) := by decide +kernel
theorem dX8_copy_11 : decode cX8_copy 11 = .ok (.ifCond .ne 6, 3) := by decide +kernel
theorem dX8_copy_14 : decode cX8_copy 14 = .ok (.ldc 73, 2) := by decide +kernel
theorem dX8_copy_16 : decode cX8_copy 16 = .ok (.ireturn, 1) := by decide +kernel
theorem dX8_copy_17 : decode cX8_copy 17 = .ok (.aload_n 0, 1) := by decide +kernel
theorem dX8_copy_18 : decode cX8_copy 18 = .ok (.getfield 10, 3) := by decide +kernel
theorem dX8_copy_21 : decode cX8_copy 21 = .ok (.iload_n 1, 1) := by decide +kernel
theorem dX8_copy_22 : decode cX8_copy 22 = .ok (.invokevirtual 85, 3) := by decide +kernel
theorem dX8_copy_25 : decode cX8_copy 25 = .ok (.ifCond .ne 14, 3) := by decide +kernel
theorem dX8_copy_28 : decode cX8_copy 28 = .ok (.aload_n 0, 1) := by decide +kernel
theorem dX8_copy_29 : decode cX8_copy 29 = .ok (.getfield 10, 3) := by decide +kernel
theorem dX8_copy_32 : decode cX8_copy 32 = .ok (.iload_n 3, 1) := by decide +kernel
theorem dX8_copy_33 : decode cX8_copy 33 = .ok (.invokevirtual 85, 3) := by decide +kernel
theorem dX8_copy_36 : decode cX8_copy 36 = .ok (.ifCond .eq 9, 3) := by decide +kernel
theorem dX8_copy_39 : decode cX8_copy 39 = .ok (.aload_n 0, 1) := by decide +kernel
theorem dX8_copy_40 : decode cX8_copy 40 = .ok (.iconst 1, 1) := by decide +kernel
theorem dX8_copy_41 : decode cX8_copy 41 = .ok (.invokevirtual 74, 3) := by decide +kernel
theorem dX8_copy_44 : decode cX8_copy 44 = .ok (.ireturn, 1) := by decide +kernel
theorem dX8_copy_45 : decode cX8_copy 45 = .ok (.aload_n 0, 1) := by decide +kernel
theorem dX8_copy_46 : decode cX8_copy 46 = .ok (.getfield 10, 3) := by decide +kernel
theorem dX8_copy_49 : decode cX8_copy 49 = .ok (.getfield 96, 3) := by decide +kernel
theorem dX8_copy_52 : decode cX8_copy 52 = .ok (.iload_n 1, 1) := by decide +kernel
theorem dX8_copy_53 : decode cX8_copy 53 = .ok (.iaload, 1) := by decide +kernel
theorem dX8_copy_54 : decode cX8_copy 54 = .ok (.aload_n 0, 1) := by decide +kernel
theorem dX8_copy_55 : decode cX8_copy 55 = .ok (.getfield 10, 3) := by decide +kernel
theorem dX8_copy_58 : decode cX8_copy 58 = .ok (.getfield 96, 3) := by decide +kernel
theorem dX8_copy_61 : decode cX8_copy 61 = .ok (.iload_n 3, 1) := by decide +kernel
theorem dX8_copy_62 : decode cX8_copy 62 = .ok (.iaload, 1) := by decide +kernel
theorem dX8_copy_63 : decode cX8_copy 63 = .ok (.if_icmp .eq 9, 3) := by decide +kernel
theorem dX8_copy_66 : decode cX8_copy 66 = .ok (.aload_n 0, 1) := by decide +kernel
theorem dX8_copy_67 : decode cX8_copy 67 = .ok (.iconst 5, 1) := by decide +kernel
theorem dX8_copy_68 : decode cX8_copy 68 = .ok (.invokevirtual 74, 3) := by decide +kernel
theorem dX8_copy_71 : decode cX8_copy 71 = .ok (.ireturn, 1) := by decide +kernel
theorem dX8_copy_72 : decode cX8_copy 72 = .ok (.aload_n 0, 1) := by decide +kernel
theorem dX8_copy_73 : decode cX8_copy 73 = .ok (.getfield 10, 3) := by decide +kernel
theorem dX8_copy_76 : decode cX8_copy 76 = .ok (.iload_n 1, 1) := by decide +kernel
theorem dX8_copy_77 : decode cX8_copy 77 = .ok (.iload_n 2, 1) := by decide +kernel
theorem dX8_copy_78 : decode cX8_copy 78 = .ok (.iload 5, 2) := by decide +kernel
theorem dX8_copy_80 : decode cX8_copy 80 = .ok (.invokevirtual 88, 3) := by decide +kernel
theorem dX8_copy_83 : decode cX8_copy 83 = .ok (.ifCond .eq 18, 3) := by decide +kernel
theorem dX8_copy_86 : decode cX8_copy 86 = .ok (.aload_n 0, 1) := by decide +kernel
theorem dX8_copy_87 : decode cX8_copy 87 = .ok (.getfield 10, 3) := by decide +kernel
theorem dX8_copy_90 : decode cX8_copy 90 = .ok (.iload_n 3, 1) := by decide +kernel
theorem dX8_copy_91 : decode cX8_copy 91 = .ok (.iload 4, 2) := by decide +kernel
theorem dX8_copy_93 : decode cX8_copy 93 = .ok (.iload 5, 2) := by decide +kernel
theorem dX8_copy_95 : decode cX8_copy 95 = .ok (.invokevirtual 88, 3) := by decide +kernel
theorem dX8_copy_98 : decode cX8_copy 98 = .ok (.ifCond .ne 9, 3) := by decide +kernel
theorem dX8_copy_101 : decode cX8_copy 101 = .ok (.aload_n 0, 1) := by decide +kernel
theorem dX8_copy_102 : decode cX8_copy 102 = .ok (.iconst 2, 1) := by decide +kernel
theorem dX8_copy_103 : decode cX8_copy 103 = .ok (.invokevirtual 74, 3) := by decide +kernel
theorem dX8_copy_106 : decode cX8_copy 106 = .ok (.ireturn, 1) := by decide +kernel
theorem dX8_copy_107 : decode cX8_copy 107 = .ok (.aload_n 0, 1) := by decide +kernel
theorem dX8_copy_108 : decode cX8_copy 108 = .ok (.getfield 10, 3) := by decide +kernel
theorem dX8_copy_111 : decode cX8_copy 111 = .ok (.getfield 100, 3) := by decide +kernel
theorem dX8_copy_114 : decode cX8_copy 114 = .ok (.iload_n 1, 1) := by decide +kernel
theorem dX8_copy_115 : decode cX8_copy 115 = .ok (.aaload, 1) := by decide +kernel
theorem dX8_copy_116 : decode cX8_copy 116 = .ok (.iload_n 2, 1) := by decide +kernel
theorem dX8_copy_117 : decode cX8_copy 117 = .ok (.aload_n 0, 1) := by decide +kernel
theorem dX8_copy_118 : decode cX8_copy 118 = .ok (.getfield 10, 3) := by decide +kernel
theorem dX8_copy_121 : decode cX8_copy 121 = .ok (.getfield 100, 3) := by decide +kernel
theorem dX8_copy_124 : decode cX8_copy 124 = .ok (.iload_n 3, 1) := by decide +kernel
theorem dX8_copy_125 : decode cX8_copy 125 = .ok (.aaload, 1) := by decide +kernel
theorem dX8_copy_126 : decode cX8_copy 126 = .ok (.iload 4, 2) := by decide +kernel
theorem dX8_copy_128 : decode cX8_copy 128 = .ok (.iload 5, 2) := by decide +kernel
theorem dX8_copy_130 : decode cX8_copy 130 = .ok (.invokestatic 104, 3) := by decide +kernel
theorem dX8_copy_133 : decode cX8_copy 133 = .ok (.aload_n 0, 1) := by decide +kernel
theorem dX8_copy_134 : decode cX8_copy 134 = .ok (.iload 5, 2) := by decide +kernel
theorem dX8_copy_136 : decode cX8_copy 136 = .ok (.invokevirtual 82, 3) := by decide +kernel
theorem dX8_copy_139 : decode cX8_copy 139 = .ok (.ireturn, 1) := by decide +kernel
set_option maxRecDepth 20000 in
theorem ggX8_drop_X8_isRow : GoodIn wsX8_drop wsX8_isRow := goodIn_r _ [6] (by decide +kernel) (by decide +kernel)
set_option maxRecDepth 20000 in
theorem gX8_drop_X8_isRow : GoodIn wsX8_drop (va_wsS RX8 69 yX8_isRow wsX8_isRow) := goodIn_app (goodIn_of _ (by decide +kernel)) ggX8_drop_X8_isRow
set_option maxRecDepth 20000 in
theorem ggX8_drop_X6_isMissing : GoodIn wsX8_drop wsX6_isMissing := goodIn_r _ [11, 12, 39, 40, 41] (by decide +kernel) (by decide +kernel)
set_option maxRecDepth 20000 in
theorem gX8_drop_X6_isMissing : GoodIn wsX8_drop (wsV RX8 85 RX6 yX6_isMissing wsX6_isMissing) := goodIn_app (goodIn_of _ (by decide +kernel)) ggX8_drop_X6_isMissing
set_option maxRecDepth 20000 in
theorem ggX8_drop_X8_found : GoodIn wsX8_drop wsX8_found := goodIn_r _ [16, 17, 18, 28, 29, 30, 31, 32, 33, 34, 35, 36, 37, 38] (by decide +kernel) (by decide +kernel)
set_option maxRecDepth 20000 in
theorem gX8_drop_X8_found : GoodIn wsX8_drop (wsV RX8 74 RX8 yX8_found wsX8_found) := goodIn_app (goodIn_of _ (by decide +kernel)) ggX8_drop_X8_found
set_option maxRecDepth 20000 in
theorem ggX8_drop_X6_remove : GoodIn wsX8_drop wsX6_remove := goodIn_r _ [22, 12, 23, 39, 40, 41] (by decide +kernel) (by decide +kernel)
set_option maxRecDepth 20000 in
theorem gX8_drop_X6_remove : GoodIn wsX8_drop (wsV RX8 110 RX6 yX6_remove wsX6_remove) := goodIn_app (goodIn_of _ (by decide +kernel)) ggX8_drop_X6_remove
set_option maxRecDepth 20000 in
theorem ggX8_drop_X8_fine : GoodIn wsX8_drop wsX8_fine := goodIn_r _ [27, 17, 28, 29, 30, 31, 32, 33, 34, 35, 36, 37, 38] (by decide +kernel) (by decide +kernel)
set_option maxRecDepth 20000 in
theorem gX8_drop_X8_fine : GoodIn wsX8_drop (wsV RX8 82 RX8 yX8_fine wsX8_fine) := goodIn_app (goodIn_of _ (by decide +kernel)) ggX8_drop_X8_fine
theorem dX8_drop_0 : decode cX8_drop 0 = .ok (.iload_n 1, 1) := by decide +kernel
theorem dX8_drop_1 : decode cX8_drop 1 = .ok (.invokestatic 69, 3) := by decide +kernel
theorem dX8_drop_4 : decode cX8_drop 4 = .ok (.ifCond .ne 6, 3) := by decide +kernel
theorem dX8_drop_7 : decode cX8_drop 7 = .ok (.ldc 73, 2) := by decide +kernel
theorem dX8_drop_9 : decode cX8_drop 9 = .ok (.ireturn, 1) := by decide +kernel
theorem dX8_drop_10 : decode cX8_drop 10 = .ok (.aload_n 0, 1) := by decide +kernel
theorem dX8_drop_11 : decode cX8_drop 11 = .ok (.getfield 10, 3) := by decide +kernel
theorem dX8_drop_14 : decode cX8_drop 14 = .ok (.iload_n 1, 1) := by decide +kernel
theorem dX8_drop_15 : decode cX8_drop 15 = .ok (.invokevirtual 85, 3) := by decide +kernel
theorem dX8_drop_18 : decode cX8_drop 18 = .ok (.ifCond .eq 9, 3) := by decide +kernel
theorem dX8_drop_21 : decode cX8_drop 21 = .ok (.aload_n 0, 1) := by decide +kernel
theorem dX8_drop_22 : decode cX8_drop 22 = .ok (.iconst 1, 1) := by decide +kernel
theorem dX8_drop_23 : decode cX8_drop 23 = .ok (.invokevirtual 74, 3) := by decide +kernel
theorem dX8_drop_26 : decode cX8_drop 26 = .ok (.ireturn, 1) := by decide +kernel
theorem dX8_drop_27 : decode cX8_drop 27 = .ok (.aload_n 0, 1) := by decide +kernel
theorem dX8_drop_28 : decode cX8_drop 28 = .ok (.aload_n 0, 1) := by decide +kernel
theorem dX8_drop_29 : decode cX8_drop 29 = .ok (.getfield 10, 3) := by decide +kernel
theorem dX8_drop_32 : decode cX8_drop 32 = .ok (.iload_n 1, 1) := by decide +kernel
theorem dX8_drop_33 : decode cX8_drop 33 = .ok (.invokevirtual 110, 3) := by decide +kernel
theorem dX8_drop_36 : decode cX8_drop 36 = .ok (.invokevirtual 82, 3) := by decide +kernel
theorem dX8_drop_39 : decode cX8_drop 39 = .ok (.ireturn, 1) := by decide +kernel
set_option maxRecDepth 20000 in
theorem ggX8_feed_X7_write : GoodIn wsX8_feed wsX7_write := goodIn_r _ [9, 10, 11, 23, 24, 25, 26, 27, 28, 29] (by decide +kernel) (by decide +kernel)
set_option maxRecDepth 20000 in
theorem gX8_feed_X7_write : GoodIn wsX8_feed (wsV RX8 118 RX7 yX7_write wsX7_write) := goodIn_app (goodIn_of _ (by decide +kernel)) ggX8_feed_X7_write
theorem dX8_feed_0 : decode cX8_feed 0 = .ok (.iload_n 3, 1) := by decide +kernel
theorem dX8_feed_1 : decode cX8_feed 1 = .ok (.iconst 1, 1) := by decide +kernel
theorem dX8_feed_2 : decode cX8_feed 2 = .ok (.if_icmp .lt 9, 3) := by decide +kernel
theorem dX8_feed_5 : decode cX8_feed 5 = .ok (.iload_n 3, 1) := by decide +kernel
theorem dX8_feed_6 : decode cX8_feed 6 = .ok (.bipush 8, 2) := by decide +kernel
theorem dX8_feed_8 : decode cX8_feed 8 = .ok (.if_icmp .le 6, 3) := by decide +kernel
theorem dX8_feed_11 : decode cX8_feed 11 = .ok (.ldc 73, 2) := by decide +kernel
theorem dX8_feed_13 : decode cX8_feed 13 = .ok (.ireturn, 1) := by decide +kernel
theorem dX8_feed_14 : decode cX8_feed 14 = .ok (.aload_n 0, 1) := by decide +kernel
theorem dX8_feed_15 : decode cX8_feed 15 = .ok (.getfield 19, 3) := by decide +kernel
theorem dX8_feed_18 : decode cX8_feed 18 = .ok (.getfield 113, 3) := by decide +kernel
theorem dX8_feed_21 : decode cX8_feed 21 = .ok (.iload_n 3, 1) := by decide +kernel
theorem dX8_feed_22 : decode cX8_feed 22 = .ok (.iadd, 1) := by decide +kernel
theorem dX8_feed_23 : decode cX8_feed 23 = .ok (.sipush 400, 3) := by decide +kernel
theorem dX8_feed_26 : decode cX8_feed 26 = .ok (.if_icmp .le 6, 3) := by decide +kernel
theorem dX8_feed_29 : decode cX8_feed 29 = .ok (.ldc 117, 2) := by decide +kernel
theorem dX8_feed_31 : decode cX8_feed 31 = .ok (.ireturn, 1) := by decide +kernel
theorem dX8_feed_32 : decode cX8_feed 32 = .ok (.aload_n 0, 1) := by decide +kernel
theorem dX8_feed_33 : decode cX8_feed 33 = .ok (.getfield 19, 3) := by decide +kernel
theorem dX8_feed_36 : decode cX8_feed 36 = .ok (.lload_n 1, 1) := by decide +kernel
theorem dX8_feed_37 : decode cX8_feed 37 = .ok (.iload_n 3, 1) := by decide +kernel
theorem dX8_feed_38 : decode cX8_feed 38 = .ok (.invokevirtual 118, 3) := by decide +kernel
theorem dX8_feed_41 : decode cX8_feed 41 = .ok (.aload_n 0, 1) := by decide +kernel
theorem dX8_feed_42 : decode cX8_feed 42 = .ok (.getfield 19, 3) := by decide +kernel
theorem dX8_feed_45 : decode cX8_feed 45 = .ok (.getfield 113, 3) := by decide +kernel
theorem dX8_feed_48 : decode cX8_feed 48 = .ok (.ireturn, 1) := by decide +kernel
set_option maxRecDepth 20000 in
theorem ggX8_bay_X7_read : GoodIn wsX8_bay wsX7_read := goodIn_r _ [14, 15, 16, 17, 18, 19, 20, 21, 22, 13, 23, 24, 25, 26, 27, 28, 29, 30, 31, 32, 33, 34, 35, 36, 37, 38, 39, 40, 41, 42, 43, 44, 45, 46, 47, 48, 49, 50, 51, 52, 53, 54, 55, 56, 57, 58, 59, 60, 61, 62, 63, 64, 65, 66, 67, 68, 69, 70, 71, 72, 73, 74, 75, 76, 77, 78, 79, 80, 81, 82, 83, 84, 85, 86, 87, 88, 89, 90, 91, 92, 93, 94, 95, 96, 97, 98, 99, 100, 101, 102, 103, 104, 105, 106, 107, 108, 109, 110, 111, 112, 113, 114, 115, 116, 117, 118, 119, 120, 121, 122, 123, 124, 125, 126, 127, 128, 129, 130, 131, 132, 133, 134, 135, 136, 137, 138, 189, 190, 191, 192, 193, 194, 195, 199, 200, 201, 202, 203] (by decide +kernel) (by decide +kernel)
set_option maxRecDepth 20000 in
theorem gX8_bay_X7_read : GoodIn wsX8_bay (wsV RX8 122 RX7 yX7_read wsX7_read) := goodIn_app (goodIn_of _ (by decide +kernel)) ggX8_bay_X7_read
set_option maxRecDepth 20000 in
theorem ggX8_bay_X1_open : GoodIn wsX8_bay wsX1_open := goodIn_r _ [143, 144, 145, 146, 147, 148, 149, 133, 150, 151, 152, 153, 154, 155, 136, 137, 138, 135, 156, 157, 158, 159, 160, 161, 162, 163, 164, 165, 166, 167, 168, 169, 170, 171, 196, 197, 198, 199, 200, 201, 202, 203, 204, 205, 206, 207] (by decide +kernel) (by decide +kernel)
set_option maxRecDepth 20000 in
theorem gX8_bay_X1_open : GoodIn wsX8_bay (wsV RX8 133 RX1 yX1_open wsX1_open) := goodIn_app (goodIn_of _ (by decide +kernel)) ggX8_bay_X1_open
set_option maxRecDepth 20000 in
theorem ggX8_bay_X5_forget : GoodIn wsX8_bay wsX5_forget := goodIn_r _ [176, 177, 208, 209, 210] (by decide +kernel) (by decide +kernel)
set_option maxRecDepth 20000 in
theorem gX8_bay_X5_forget : GoodIn wsX8_bay (wsV RX8 137 RX5 yX5_forget wsX5_forget) := goodIn_app (goodIn_of _ (by decide +kernel)) ggX8_bay_X5_forget
theorem dX8_bay_0 : decode cX8_bay 0 = .ok (.aload_n 0, 1) := by decide +kernel
theorem dX8_bay_1 : decode cX8_bay 1 = .ok (.getfield 19, 3) := by decide +kernel
theorem dX8_bay_4 : decode cX8_bay 4 = .ok (.aload_n 0, 1) := by decide +kernel
theorem dX8_bay_5 : decode cX8_bay 5 = .ok (.getfield 26, 3) := by decide +kernel
theorem dX8_bay_8 : decode cX8_bay 8 = .ok (.invokevirtual 122, 3) := by decide +kernel
theorem dX8_bay_11 : decode cX8_bay 11 = .ok (.istore_n 1, 1) := by decide +kernel
theorem dX8_bay_12 : decode cX8_bay 12 = .ok (.iload_n 1, 1) := by decide +kernel
theorem dX8_bay_13 : decode cX8_bay 13 = .ok (.ifCond .eq 19, 3) := by decide +kernel
theorem dX8_bay_16 : decode cX8_bay 16 = .ok (.aload_n 0, 1) := by decide +kernel
theorem dX8_bay_17 : decode cX8_bay 17 = .ok (.iload_n 1, 1) := by decide +kernel
theorem dX8_bay_18 : decode cX8_bay 18 = .ok (.putfield 126, 3) := by decide +kernel
theorem dX8_bay_21 : decode cX8_bay 21 = .ok (.ldc 129, 2) := by decide +kernel
theorem dX8_bay_23 : decode cX8_bay 23 = .ok (.aload_n 0, 1) := by decide +kernel
theorem dX8_bay_24 : decode cX8_bay 24 = .ok (.getfield 19, 3) := by decide +kernel
theorem dX8_bay_27 : decode cX8_bay 27 = .ok (.getfield 130, 3) := by decide +kernel
theorem dX8_bay_30 : decode cX8_bay 30 = .ok (.isub, 1) := by decide +kernel
theorem dX8_bay_31 : decode cX8_bay 31 = .ok (.ireturn, 1) := by decide +kernel
theorem dX8_bay_32 : decode cX8_bay 32 = .ok (.aload_n 0, 1) := by decide +kernel
theorem dX8_bay_33 : decode cX8_bay 33 = .ok (.getfield 33, 3) := by decide +kernel
theorem dX8_bay_36 : decode cX8_bay 36 = .ok (.aload_n 0, 1) := by decide +kernel
theorem dX8_bay_37 : decode cX8_bay 37 = .ok (.getfield 26, 3) := by decide +kernel
theorem dX8_bay_40 : decode cX8_bay 40 = .ok (.invokevirtual 133, 3) := by decide +kernel
theorem dX8_bay_43 : decode cX8_bay 43 = .ok (.aload_n 0, 1) := by decide +kernel
theorem dX8_bay_44 : decode cX8_bay 44 = .ok (.getfield 44, 3) := by decide +kernel
theorem dX8_bay_47 : decode cX8_bay 47 = .ok (.invokevirtual 137, 3) := by decide +kernel
theorem dX8_bay_50 : decode cX8_bay 50 = .ok (.aload_n 0, 1) := by decide +kernel
theorem dX8_bay_51 : decode cX8_bay 51 = .ok (.getfield 33, 3) := by decide +kernel
theorem dX8_bay_54 : decode cX8_bay 54 = .ok (.getfield 140, 3) := by decide +kernel
theorem dX8_bay_57 : decode cX8_bay 57 = .ok (.getfield 143, 3) := by decide +kernel
theorem dX8_bay_60 : decode cX8_bay 60 = .ok (.ireturn, 1) := by decide +kernel
theorem dX8_fault_0 : decode cX8_fault 0 = .ok (.aload_n 0, 1) := by decide +kernel
theorem dX8_fault_1 : decode cX8_fault 1 = .ok (.getfield 126, 3) := by decide +kernel
theorem dX8_fault_4 : decode cX8_fault 4 = .ok (.ireturn, 1) := by decide +kernel
set_option maxRecDepth 20000 in
theorem ggX8_hours_X5_keep : GoodIn wsX8_hours wsX5_keep := goodIn_r _ [14, 15, 16, 17, 18, 19, 20, 21, 22, 23, 24, 25, 26, 27, 28, 29, 30, 31, 32, 33, 34, 88, 89, 90, 84, 85, 86, 87] (by decide +kernel) (by decide +kernel)
set_option maxRecDepth 20000 in
theorem gX8_hours_X5_keep : GoodIn wsX8_hours (wsV RX8 157 RX5 yX5_keep wsX5_keep) := goodIn_app (goodIn_of _ (by decide +kernel)) ggX8_hours_X5_keep
set_option maxRecDepth 20000 in
theorem ggX8_hours_X3_passHour : GoodIn wsX8_hours wsX3_passHour := goodIn_r _ [38, 34, 39, 40, 41, 42, 43, 44, 45, 46, 47, 48, 49, 50, 51, 52, 53, 54, 55, 56, 57, 58, 59, 60, 61, 62, 63, 25, 64, 32, 65, 19, 20, 21, 27, 66, 67, 68, 69, 33, 84, 85, 86, 87, 91, 92, 93, 94, 95] (by decide +kernel) (by decide +kernel)
set_option maxRecDepth 20000 in
theorem gX8_hours_X3_passHour : GoodIn wsX8_hours (wsV RX8 161 RX3 yX3_passHour wsX3_passHour) := goodIn_app (goodIn_of _ (by decide +kernel)) ggX8_hours_X3_passHour
theorem dX8_hours_0 : decode cX8_hours 0 = .ok (.aload_n 0, 1) := by decide +kernel
theorem dX8_hours_1 : decode cX8_hours 1 = .ok (.getfield 33, 3) := by decide +kernel
theorem dX8_hours_4 : decode cX8_hours 4 = .ok (.getfield 146, 3) := by decide +kernel
theorem dX8_hours_7 : decode cX8_hours 7 = .ok (.ifCond .ne 6, 3) := by decide +kernel
theorem dX8_hours_10 : decode cX8_hours 10 = .ok (.ldc 150, 2) := by decide +kernel
theorem dX8_hours_12 : decode cX8_hours 12 = .ok (.ireturn, 1) := by decide +kernel
theorem dX8_hours_13 : decode cX8_hours 13 = .ok (.iload_n 1, 1) := by decide +kernel
theorem dX8_hours_14 : decode cX8_hours 14 = .ok (.iconst 1, 1) := by decide +kernel
theorem dX8_hours_15 : decode cX8_hours 15 = .ok (.if_icmp .lt 9, 3) := by decide +kernel
theorem dX8_hours_18 : decode cX8_hours 18 = .ok (.iload_n 1, 1) := by decide +kernel
theorem dX8_hours_19 : decode cX8_hours 19 = .ok (.bipush 24, 2) := by decide +kernel
theorem dX8_hours_21 : decode cX8_hours 21 = .ok (.if_icmp .le 6, 3) := by decide +kernel
theorem dX8_hours_24 : decode cX8_hours 24 = .ok (.ldc 73, 2) := by decide +kernel
theorem dX8_hours_26 : decode cX8_hours 26 = .ok (.ireturn, 1) := by decide +kernel
theorem dX8_hours_27 : decode cX8_hours 27 = .ok (.aload_n 0, 1) := by decide +kernel
theorem dX8_hours_28 : decode cX8_hours 28 = .ok (.getfield 33, 3) := by decide +kernel
theorem dX8_hours_31 : decode cX8_hours 31 = .ok (.getfield 151, 3) := by decide +kernel
theorem dX8_hours_34 : decode cX8_hours 34 = .ok (.getfield 154, 3) := by decide +kernel
theorem dX8_hours_37 : decode cX8_hours 37 = .ok (.iload_n 1, 1) := by decide +kernel
theorem dX8_hours_38 : decode cX8_hours 38 = .ok (.iadd, 1) := by decide +kernel
theorem dX8_hours_39 : decode cX8_hours 39 = .ok (.sipush 999, 3) := by decide +kernel
theorem dX8_hours_42 : decode cX8_hours 42 = .ok (.if_icmp .le 6, 3) := by decide +kernel
theorem dX8_hours_45 : decode cX8_hours 45 = .ok (.ldc 117, 2) := by decide +kernel
theorem dX8_hours_47 : decode cX8_hours 47 = .ok (.ireturn, 1) := by decide +kernel
theorem dX8_hours_48 : decode cX8_hours 48 = .ok (.iconst 0, 1) := by decide +kernel
theorem dX8_hours_49 : decode cX8_hours 49 = .ok (.istore_n 2, 1) := by decide +kernel
theorem dX8_hours_50 : decode cX8_hours 50 = .ok (.iconst 0, 1) := by decide +kernel
theorem dX8_hours_51 : decode cX8_hours 51 = .ok (.istore_n 3, 1) := by decide +kernel
theorem dX8_hours_52 : decode cX8_hours 52 = .ok (.iload_n 3, 1) := by decide +kernel
theorem dX8_hours_53 : decode cX8_hours 53 = .ok (.iload_n 1, 1) := by decide +kernel
theorem dX8_hours_54 : decode cX8_hours 54 = .ok (.if_icmp .ge 41, 3) := by decide +kernel
theorem dX8_hours_57 : decode cX8_hours 57 = .ok (.aload_n 0, 1) := by decide +kernel
theorem dX8_hours_58 : decode cX8_hours 58 = .ok (.getfield 44, 3) := by decide +kernel
theorem dX8_hours_61 : decode cX8_hours 61 = .ok (.aload_n 0, 1) := by decide +kernel
theorem dX8_hours_62 : decode cX8_hours 62 = .ok (.getfield 33, 3) := by decide +kernel
theorem dX8_hours_65 : decode cX8_hours 65 = .ok (.getfield 151, 3) := by decide +kernel
theorem dX8_hours_68 : decode cX8_hours 68 = .ok (.invokevirtual 157, 3) := by decide +kernel
theorem dX8_hours_71 : decode cX8_hours 71 = .ok (.aload_n 0, 1) := by decide +kernel
theorem dX8_hours_72 : decode cX8_hours 72 = .ok (.getfield 33, 3) := by decide +kernel
theorem dX8_hours_75 : decode cX8_hours 75 = .ok (.getfield 151, 3) := by decide +kernel
theorem dX8_hours_78 : decode cX8_hours 78 = .ok (.aload_n 0, 1) := by decide +kernel
theorem dX8_hours_79 : decode cX8_hours 79 = .ok (.getfield 33, 3) := by decide +kernel
theorem dX8_hours_82 : decode cX8_hours 82 = .ok (.getfield 140, 3) := by decide +kernel
theorem dX8_hours_85 : decode cX8_hours 85 = .ok (.invokevirtual 161, 3) := by decide +kernel
theorem dX8_hours_88 : decode cX8_hours 88 = .ok (.istore_n 2, 1) := by decide +kernel
theorem dX8_hours_89 : decode cX8_hours 89 = .ok (.iinc 3 1, 3) := by decide +kernel
theorem dX8_hours_92 : decode cX8_hours 92 = .ok (.goto (-40), 3) := by decide +kernel
theorem dX8_hours_95 : decode cX8_hours 95 = .ok (.iload_n 2, 1) := by decide +kernel
theorem dX8_hours_96 : decode cX8_hours 96 = .ok (.ireturn, 1) := by decide +kernel
set_option maxRecDepth 20000 in
theorem ggX8_lend_X8_areTwoWaters : GoodIn wsX8_lend wsX8_areTwoWaters := goodIn_r _ [12, 13, 14, 15, 11, 16, 2, 17, 18, 57, 58, 59, 60, 61, 62, 63, 64, 65, 66, 67, 68, 69, 70, 75, 76, 77, 78, 79] (by decide +kernel) (by decide +kernel)
set_option maxRecDepth 20000 in
theorem gX8_lend_X8_areTwoWaters : GoodIn wsX8_lend (wsV RX8 164 RX8 yX8_areTwoWaters wsX8_areTwoWaters) := goodIn_app (goodIn_of _ (by decide +kernel)) ggX8_lend_X8_areTwoWaters
set_option maxRecDepth 20000 in
theorem ggX8_lend_X3_debt : GoodIn wsX8_lend wsX3_debt := goodIn_r _ [23, 24, 71, 72, 73, 74] (by decide +kernel) (by decide +kernel)
set_option maxRecDepth 20000 in
theorem gX8_lend_X3_debt : GoodIn wsX8_lend (wsV RX8 171 RX3 yX3_debt wsX3_debt) := goodIn_app (goodIn_of _ (by decide +kernel)) ggX8_lend_X3_debt
set_option maxRecDepth 20000 in
theorem ggX8_lend_X5_keep : GoodIn wsX8_lend wsX5_keep := goodIn_r _ [29, 30, 31, 32, 33, 34, 35, 36, 37, 38, 39, 22, 40, 41, 42, 43, 44, 45, 46, 24, 47, 80, 81, 82, 71, 72, 73, 74] (by decide +kernel) (by decide +kernel)
set_option maxRecDepth 20000 in
theorem gX8_lend_X5_keep : GoodIn wsX8_lend (wsV RX8 157 RX5 yX5_keep wsX5_keep) := goodIn_app (goodIn_of _ (by decide +kernel)) ggX8_lend_X5_keep
set_option maxRecDepth 20000 in
theorem ggX8_lend_X3_move : GoodIn wsX8_lend wsX3_move := goodIn_r _ [51, 41, 71, 72, 73, 74] (by decide +kernel) (by decide +kernel)
set_option maxRecDepth 20000 in
theorem gX8_lend_X3_move : GoodIn wsX8_lend (wsV RX8 175 RX3 yX3_move wsX3_move) := goodIn_app (goodIn_of _ (by decide +kernel)) ggX8_lend_X3_move
set_option maxRecDepth 20000 in
theorem ggX8_lend_X3_addDebt : GoodIn wsX8_lend wsX3_addDebt := goodIn_r _ [55, 24, 56, 20, 21, 22, 23, 71, 72, 73, 74] (by decide +kernel) (by decide +kernel)
set_option maxRecDepth 20000 in
theorem gX8_lend_X3_addDebt : GoodIn wsX8_lend (wsV RX8 178 RX3 yX3_addDebt wsX3_addDebt) := goodIn_app (goodIn_of _ (by decide +kernel)) ggX8_lend_X3_addDebt
theorem dX8_lend_0 : decode cX8_lend 0 = .ok (.aload_n 0, 1) := by decide +kernel
theorem dX8_lend_1 : decode cX8_lend 1 = .ok (.iload_n 1, 1) := by decide +kernel
theorem dX8_lend_2 : decode cX8_lend 2 = .ok (.iload_n 2, 1) := by decide +kernel
theorem dX8_lend_3 : decode cX8_lend 3 = .ok (.invokevirtual 164, 3) := by decide +kernel
theorem dX8_lend_6 : decode cX8_lend 6 = .ok (.ifCond .eq 15, 3) := by decide +kernel
theorem dX8_lend_9 : decode cX8_lend 9 = .ok (.iload_n 3, 1) := by decide +kernel
theorem dX8_lend_10 : decode cX8_lend 10 = .ok (.iconst 1, 1) := by decide +kernel
theorem dX8_lend_11 : decode cX8_lend 11 = .ok (.if_icmp .lt 10, 3) := by decide +kernel
theorem dX8_lend_14 : decode cX8_lend 14 = .ok (.iload_n 3, 1) := by decide +kernel
theorem dX8_lend_15 : decode cX8_lend 15 = .ok (.sipush 999, 3) := by decide +kernel
theorem dX8_lend_18 : decode cX8_lend 18 = .ok (.if_icmp .le 6, 3) := by decide +kernel
theorem dX8_lend_21 : decode cX8_lend 21 = .ok (.ldc 73, 2) := by decide +kernel
theorem dX8_lend_23 : decode cX8_lend 23 = .ok (.ireturn, 1) := by decide +kernel
theorem dX8_lend_24 : decode cX8_lend 24 = .ok (.aload_n 0, 1) := by decide +kernel
theorem dX8_lend_25 : decode cX8_lend 25 = .ok (.getfield 33, 3) := by decide +kernel
theorem dX8_lend_28 : decode cX8_lend 28 = .ok (.getfield 151, 3) := by decide +kernel
theorem dX8_lend_31 : decode cX8_lend 31 = .ok (.astore 4, 2) := by decide +kernel
theorem dX8_lend_33 : decode cX8_lend 33 = .ok (.aload 4, 2) := by decide +kernel
theorem dX8_lend_35 : decode cX8_lend 35 = .ok (.getfield 168, 3) := by decide +kernel
theorem dX8_lend_38 : decode cX8_lend 38 = .ok (.iload_n 1, 1) := by decide +kernel
theorem dX8_lend_39 : decode cX8_lend 39 = .ok (.iaload, 1) := by decide +kernel
theorem dX8_lend_40 : decode cX8_lend 40 = .ok (.iload_n 3, 1) := by decide +kernel
theorem dX8_lend_41 : decode cX8_lend 41 = .ok (.if_icmp .ge 6, 3) := by decide +kernel
theorem dX8_lend_44 : decode cX8_lend 44 = .ok (.ldc 150, 2) := by decide +kernel
theorem dX8_lend_46 : decode cX8_lend 46 = .ok (.ireturn, 1) := by decide +kernel
theorem dX8_lend_47 : decode cX8_lend 47 = .ok (.aload 4, 2) := by decide +kernel
theorem dX8_lend_49 : decode cX8_lend 49 = .ok (.iload_n 2, 1) := by decide +kernel
theorem dX8_lend_50 : decode cX8_lend 50 = .ok (.iload_n 1, 1) := by decide +kernel
theorem dX8_lend_51 : decode cX8_lend 51 = .ok (.invokevirtual 171, 3) := by decide +kernel
theorem dX8_lend_54 : decode cX8_lend 54 = .ok (.iload_n 3, 1) := by decide +kernel
theorem dX8_lend_55 : decode cX8_lend 55 = .ok (.iadd, 1) := by decide +kernel
theorem dX8_lend_56 : decode cX8_lend 56 = .ok (.sipush 9999, 3) := by decide +kernel
theorem dX8_lend_59 : decode cX8_lend 59 = .ok (.if_icmp .le 6, 3) := by decide +kernel
theorem dX8_lend_62 : decode cX8_lend 62 = .ok (.ldc 117, 2) := by decide +kernel
theorem dX8_lend_64 : decode cX8_lend 64 = .ok (.ireturn, 1) := by decide +kernel
theorem dX8_lend_65 : decode cX8_lend 65 = .ok (.aload_n 0, 1) := by decide +kernel
theorem dX8_lend_66 : decode cX8_lend 66 = .ok (.getfield 44, 3) := by decide +kernel
theorem dX8_lend_69 : decode cX8_lend 69 = .ok (.aload 4, 2) := by decide +kernel
theorem dX8_lend_71 : decode cX8_lend 71 = .ok (.invokevirtual 157, 3) := by decide +kernel
theorem dX8_lend_74 : decode cX8_lend 74 = .ok (.aload 4, 2) := by decide +kernel
theorem dX8_lend_76 : decode cX8_lend 76 = .ok (.iload_n 1, 1) := by decide +kernel
theorem dX8_lend_77 : decode cX8_lend 77 = .ok (.iload_n 2, 1) := by decide +kernel
theorem dX8_lend_78 : decode cX8_lend 78 = .ok (.iload_n 3, 1) := by decide +kernel
theorem dX8_lend_79 : decode cX8_lend 79 = .ok (.invokevirtual 175, 3) := by decide +kernel
theorem dX8_lend_82 : decode cX8_lend 82 = .ok (.aload 4, 2) := by decide +kernel
theorem dX8_lend_84 : decode cX8_lend 84 = .ok (.iload_n 2, 1) := by decide +kernel
theorem dX8_lend_85 : decode cX8_lend 85 = .ok (.iload_n 1, 1) := by decide +kernel
theorem dX8_lend_86 : decode cX8_lend 86 = .ok (.iload_n 3, 1) := by decide +kernel
theorem dX8_lend_87 : decode cX8_lend 87 = .ok (.invokevirtual 178, 3) := by decide +kernel
theorem dX8_lend_90 : decode cX8_lend 90 = .ok (.ireturn, 1) := by decide +kernel
set_option maxRecDepth 20000 in
theorem ggX8_pay_X8_areTwoWaters : GoodIn wsX8_pay wsX8_areTwoWaters := goodIn_r _ [11, 12, 13, 14, 10, 15, 2, 16, 17, 56, 57, 58, 59, 60, 61, 62, 63, 64, 65, 66, 67, 68, 69, 74, 75, 76, 77, 78] (by decide +kernel) (by decide +kernel)
set_option maxRecDepth 20000 in
theorem gX8_pay_X8_areTwoWaters : GoodIn wsX8_pay (wsV RX8 164 RX8 yX8_areTwoWaters wsX8_areTwoWaters) := goodIn_app (goodIn_of _ (by decide +kernel)) ggX8_pay_X8_areTwoWaters
set_option maxRecDepth 20000 in
theorem ggX8_pay_X3_debt : GoodIn wsX8_pay wsX3_debt := goodIn_r _ [22, 23, 70, 71, 72, 73] (by decide +kernel) (by decide +kernel)
set_option maxRecDepth 20000 in
theorem gX8_pay_X3_debt : GoodIn wsX8_pay (wsV RX8 171 RX3 yX3_debt wsX3_debt) := goodIn_app (goodIn_of _ (by decide +kernel)) ggX8_pay_X3_debt
set_option maxRecDepth 20000 in
theorem ggX8_pay_X5_keep : GoodIn wsX8_pay wsX5_keep := goodIn_r _ [28, 29, 30, 31, 32, 33, 34, 35, 36, 37, 38, 21, 39, 40, 41, 42, 43, 44, 45, 23, 46, 79, 80, 81, 70, 71, 72, 73] (by decide +kernel) (by decide +kernel)
set_option maxRecDepth 20000 in
theorem gX8_pay_X5_keep : GoodIn wsX8_pay (wsV RX8 157 RX5 yX5_keep wsX5_keep) := goodIn_app (goodIn_of _ (by decide +kernel)) ggX8_pay_X5_keep
set_option maxRecDepth 20000 in
theorem ggX8_pay_X3_move : GoodIn wsX8_pay wsX3_move := goodIn_r _ [50, 40, 70, 71, 72, 73] (by decide +kernel) (by decide +kernel)
set_option maxRecDepth 20000 in
theorem gX8_pay_X3_move : GoodIn wsX8_pay (wsV RX8 175 RX3 yX3_move wsX3_move) := goodIn_app (goodIn_of _ (by decide +kernel)) ggX8_pay_X3_move
set_option maxRecDepth 20000 in
theorem ggX8_pay_X3_addDebt : GoodIn wsX8_pay wsX3_addDebt := goodIn_r _ [54, 23, 55, 19, 20, 21, 22, 70, 71, 72, 73] (by decide +kernel) (by decide +kernel)
set_option maxRecDepth 20000 in
theorem gX8_pay_X3_addDebt : GoodIn wsX8_pay (wsV RX8 178 RX3 yX3_addDebt wsX3_addDebt) := goodIn_app (goodIn_of _ (by decide +kernel)) ggX8_pay_X3_addDebt
theorem dX8_pay_0 : decode cX8_pay 0 = .ok (.aload_n 0, 1) := by decide +kernel
theorem dX8_pay_1 : decode cX8_pay 1 = .ok (.iload_n 1, 1) := by decide +kernel
theorem dX8_pay_2 : decode cX8_pay 2 = .ok (.iload_n 2, 1) := by decide +kernel
theorem dX8_pay_3 : decode cX8_pay 3 = .ok (.invokevirtual 164, 3) := by decide +kernel
theorem dX8_pay_6 : decode cX8_pay 6 = .ok (.ifCond .eq 15, 3) := by decide +kernel
theorem dX8_pay_9 : decode cX8_pay 9 = .ok (.iload_n 3, 1) := by decide +kernel
theorem dX8_pay_10 : decode cX8_pay 10 = .ok (.iconst 1, 1) := by decide +kernel
theorem dX8_pay_11 : decode cX8_pay 11 = .ok (.if_icmp .lt 10, 3) := by decide +kernel
theorem dX8_pay_14 : decode cX8_pay 14 = .ok (.iload_n 3, 1) := by decide +kernel
theorem dX8_pay_15 : decode cX8_pay 15 = .ok (.sipush 9999, 3) := by decide +kernel
theorem dX8_pay_18 : decode cX8_pay 18 = .ok (.if_icmp .le 6, 3) := by decide +kernel
theorem dX8_pay_21 : decode cX8_pay 21 = .ok (.ldc 73, 2) := by decide +kernel
theorem dX8_pay_23 : decode cX8_pay 23 = .ok (.ireturn, 1) := by decide +kernel
theorem dX8_pay_24 : decode cX8_pay 24 = .ok (.aload_n 0, 1) := by decide +kernel
theorem dX8_pay_25 : decode cX8_pay 25 = .ok (.getfield 33, 3) := by decide +kernel
theorem dX8_pay_28 : decode cX8_pay 28 = .ok (.getfield 151, 3) := by decide +kernel
theorem dX8_pay_31 : decode cX8_pay 31 = .ok (.astore 4, 2) := by decide +kernel
theorem dX8_pay_33 : decode cX8_pay 33 = .ok (.aload 4, 2) := by decide +kernel
theorem dX8_pay_35 : decode cX8_pay 35 = .ok (.iload_n 1, 1) := by decide +kernel
theorem dX8_pay_36 : decode cX8_pay 36 = .ok (.iload_n 2, 1) := by decide +kernel
theorem dX8_pay_37 : decode cX8_pay 37 = .ok (.invokevirtual 171, 3) := by decide +kernel
theorem dX8_pay_40 : decode cX8_pay 40 = .ok (.iload_n 3, 1) := by decide +kernel
theorem dX8_pay_41 : decode cX8_pay 41 = .ok (.if_icmp .lt 14, 3) := by decide +kernel
theorem dX8_pay_44 : decode cX8_pay 44 = .ok (.aload 4, 2) := by decide +kernel
theorem dX8_pay_46 : decode cX8_pay 46 = .ok (.getfield 168, 3) := by decide +kernel
theorem dX8_pay_49 : decode cX8_pay 49 = .ok (.iload_n 1, 1) := by decide +kernel
theorem dX8_pay_50 : decode cX8_pay 50 = .ok (.iaload, 1) := by decide +kernel
theorem dX8_pay_51 : decode cX8_pay 51 = .ok (.iload_n 3, 1) := by decide +kernel
theorem dX8_pay_52 : decode cX8_pay 52 = .ok (.if_icmp .ge 6, 3) := by decide +kernel
theorem dX8_pay_55 : decode cX8_pay 55 = .ok (.ldc 150, 2) := by decide +kernel
theorem dX8_pay_57 : decode cX8_pay 57 = .ok (.ireturn, 1) := by decide +kernel
theorem dX8_pay_58 : decode cX8_pay 58 = .ok (.aload_n 0, 1) := by decide +kernel
theorem dX8_pay_59 : decode cX8_pay 59 = .ok (.getfield 44, 3) := by decide +kernel
theorem dX8_pay_62 : decode cX8_pay 62 = .ok (.aload 4, 2) := by decide +kernel
theorem dX8_pay_64 : decode cX8_pay 64 = .ok (.invokevirtual 157, 3) := by decide +kernel
theorem dX8_pay_67 : decode cX8_pay 67 = .ok (.aload 4, 2) := by decide +kernel
theorem dX8_pay_69 : decode cX8_pay 69 = .ok (.iload_n 1, 1) := by decide +kernel
theorem dX8_pay_70 : decode cX8_pay 70 = .ok (.iload_n 2, 1) := by decide +kernel
theorem dX8_pay_71 : decode cX8_pay 71 = .ok (.iload_n 3, 1) := by decide +kernel
theorem dX8_pay_72 : decode cX8_pay 72 = .ok (.invokevirtual 175, 3) := by decide +kernel
theorem dX8_pay_75 : decode cX8_pay 75 = .ok (.aload 4, 2) := by decide +kernel
theorem dX8_pay_77 : decode cX8_pay 77 = .ok (.iload_n 1, 1) := by decide +kernel
theorem dX8_pay_78 : decode cX8_pay 78 = .ok (.iload_n 2, 1) := by decide +kernel
theorem dX8_pay_79 : decode cX8_pay 79 = .ok (.iload_n 3, 1) := by decide +kernel
theorem dX8_pay_80 : decode cX8_pay 80 = .ok (.ineg, 1) := by decide +kernel
theorem dX8_pay_81 : decode cX8_pay 81 = .ok (.invokevirtual 178, 3) := by decide +kernel
theorem dX8_pay_84 : decode cX8_pay 84 = .ok (.ireturn, 1) := by decide +kernel
set_option maxRecDepth 20000 in
theorem ggX8_storm_X5_keep : GoodIn wsX8_storm wsX5_keep := goodIn_r _ [14, 15, 16, 17, 18, 19, 20, 21, 22, 23, 24, 25, 26, 27, 28, 29, 30, 31, 32, 33, 34, 61, 62, 63, 64, 65, 66, 67] (by decide +kernel) (by decide +kernel)
set_option maxRecDepth 20000 in
theorem gX8_storm_X5_keep : GoodIn wsX8_storm (wsV RX8 157 RX5 yX5_keep wsX5_keep) := goodIn_app (goodIn_of _ (by decide +kernel)) ggX8_storm_X5_keep
set_option maxRecDepth 20000 in
theorem ggX8_storm_X3_advance : GoodIn wsX8_storm wsX3_advance := goodIn_r _ [38, 39, 40, 41, 27, 32, 64, 65, 66, 67] (by decide +kernel) (by decide +kernel)
set_option maxRecDepth 20000 in
theorem gX8_storm_X3_advance : GoodIn wsX8_storm (wsV RX8 182 RX3 yX3_advance wsX3_advance) := goodIn_app (goodIn_of _ (by decide +kernel)) ggX8_storm_X3_advance
theorem dX8_storm_0 : decode cX8_storm 0 = .ok (.aload_n 0, 1) := by decide +kernel
theorem dX8_storm_1 : decode cX8_storm 1 = .ok (.getfield 33, 3) := by decide +kernel
theorem dX8_storm_4 : decode cX8_storm 4 = .ok (.getfield 146, 3) := by decide +kernel
theorem dX8_storm_7 : decode cX8_storm 7 = .ok (.ifCond .ne 6, 3) := by decide +kernel
theorem dX8_storm_10 : decode cX8_storm 10 = .ok (.ldc 150, 2) := by decide +kernel
theorem dX8_storm_12 : decode cX8_storm 12 = .ok (.ireturn, 1) := by decide +kernel
theorem dX8_storm_13 : decode cX8_storm 13 = .ok (.iload_n 1, 1) := by decide +kernel
theorem dX8_storm_14 : decode cX8_storm 14 = .ok (.iconst 1, 1) := by decide +kernel
theorem dX8_storm_15 : decode cX8_storm 15 = .ok (.if_icmp .lt 9, 3) := by decide +kernel
theorem dX8_storm_18 : decode cX8_storm 18 = .ok (.iload_n 1, 1) := by decide +kernel
theorem dX8_storm_19 : decode cX8_storm 19 = .ok (.ldc 181, 2) := by decide +kernel
theorem dX8_storm_21 : decode cX8_storm 21 = .ok (.if_icmp .le 6, 3) := by decide +kernel
theorem dX8_storm_24 : decode cX8_storm 24 = .ok (.ldc 73, 2) := by decide +kernel
theorem dX8_storm_26 : decode cX8_storm 26 = .ok (.ireturn, 1) := by decide +kernel
theorem dX8_storm_27 : decode cX8_storm 27 = .ok (.aload_n 0, 1) := by decide +kernel
theorem dX8_storm_28 : decode cX8_storm 28 = .ok (.getfield 44, 3) := by decide +kernel
theorem dX8_storm_31 : decode cX8_storm 31 = .ok (.aload_n 0, 1) := by decide +kernel
theorem dX8_storm_32 : decode cX8_storm 32 = .ok (.getfield 33, 3) := by decide +kernel
theorem dX8_storm_35 : decode cX8_storm 35 = .ok (.getfield 151, 3) := by decide +kernel
theorem dX8_storm_38 : decode cX8_storm 38 = .ok (.invokevirtual 157, 3) := by decide +kernel
theorem dX8_storm_41 : decode cX8_storm 41 = .ok (.aload_n 0, 1) := by decide +kernel
theorem dX8_storm_42 : decode cX8_storm 42 = .ok (.getfield 33, 3) := by decide +kernel
theorem dX8_storm_45 : decode cX8_storm 45 = .ok (.getfield 151, 3) := by decide +kernel
theorem dX8_storm_48 : decode cX8_storm 48 = .ok (.iload_n 1, 1) := by decide +kernel
theorem dX8_storm_49 : decode cX8_storm 49 = .ok (.aload_n 0, 1) := by decide +kernel
theorem dX8_storm_50 : decode cX8_storm 50 = .ok (.getfield 33, 3) := by decide +kernel
theorem dX8_storm_53 : decode cX8_storm 53 = .ok (.getfield 140, 3) := by decide +kernel
theorem dX8_storm_56 : decode cX8_storm 56 = .ok (.getfield 143, 3) := by decide +kernel
theorem dX8_storm_59 : decode cX8_storm 59 = .ok (.invokevirtual 182, 3) := by decide +kernel
theorem dX8_storm_62 : decode cX8_storm 62 = .ok (.ireturn, 1) := by decide +kernel
set_option maxRecDepth 20000 in
theorem ggX8_settle_X4_canBe : GoodIn wsX8_settle wsX4_canBe := goodIn_r _ [13, 14, 15, 16, 17, 18, 19, 20, 21, 22, 23, 24, 25, 26, 27, 28, 107, 108, 109, 110] (by decide +kernel) (by decide +kernel)
set_option maxRecDepth 20000 in
theorem gX8_settle_X4_canBe : GoodIn wsX8_settle (wsV RX8 185 RX4 yX4_canBe wsX4_canBe) := goodIn_app (goodIn_of _ (by decide +kernel)) ggX8_settle_X4_canBe
set_option maxRecDepth 20000 in
theorem ggX8_settle_X4_workOut : GoodIn wsX8_settle wsX4_workOut := goodIn_r _ [32, 33, 34, 35, 36, 37, 38, 15, 16, 17, 18, 19, 20, 21, 22, 23, 24, 25, 26, 27, 28, 39, 40, 41, 12, 42, 43, 44, 45, 46, 47, 48, 49, 50, 51, 52, 53, 54, 55, 56, 57, 58, 111, 112, 113, 114, 115, 107, 108, 109, 110] (by decide +kernel) (by decide +kernel)
set_option maxRecDepth 20000 in
theorem gX8_settle_X4_workOut : GoodIn wsX8_settle (wsV RX8 189 RX4 yX4_workOut wsX4_workOut) := goodIn_app (goodIn_of _ (by decide +kernel)) ggX8_settle_X4_workOut
set_option maxRecDepth 20000 in
theorem ggX8_settle_X5_keep : GoodIn wsX8_settle wsX5_keep := goodIn_r _ [63, 64, 65, 66, 67, 53, 54, 55, 68, 69, 70, 18, 71, 72, 73, 74, 75, 76, 77, 28, 78, 116, 117, 118, 107, 108, 109, 110] (by decide +kernel) (by decide +kernel)
set_option maxRecDepth 20000 in
theorem gX8_settle_X5_keep : GoodIn wsX8_settle (wsV RX8 157 RX5 yX5_keep wsX5_keep) := goodIn_app (goodIn_of _ (by decide +kernel)) ggX8_settle_X5_keep
set_option maxRecDepth 20000 in
theorem ggX8_settle_X4_moveAll : GoodIn wsX8_settle wsX4_moveAll := goodIn_r _ [82, 34, 56, 57, 58, 83, 84, 85, 86, 18, 87, 72, 35, 36, 37, 38, 111, 112, 113, 114, 115, 107, 108, 109, 110] (by decide +kernel) (by decide +kernel)
set_option maxRecDepth 20000 in
theorem gX8_settle_X4_moveAll : GoodIn wsX8_settle (wsV RX8 193 RX4 yX4_moveAll wsX4_moveAll) := goodIn_app (goodIn_of _ (by decide +kernel)) ggX8_settle_X4_moveAll
theorem dX8_settle_0 : decode cX8_settle 0 = .ok (.aload_n 0, 1) := by decide +kernel
theorem dX8_settle_1 : decode cX8_settle 1 = .ok (.getfield 33, 3) := by decide +kernel
theorem dX8_settle_4 : decode cX8_settle 4 = .ok (.getfield 146, 3) := by decide +kernel
theorem dX8_settle_7 : decode cX8_settle 7 = .ok (.ifCond .eq 30, 3) := by decide +kernel
theorem dX8_settle_10 : decode cX8_settle 10 = .ok (.aload_n 0, 1) := by decide +kernel
theorem dX8_settle_11 : decode cX8_settle 11 = .ok (.getfield 58, 3) := by decide +kernel
theorem dX8_settle_14 : decode cX8_settle 14 = .ok (.aload_n 0, 1) := by decide +kernel
theorem dX8_settle_15 : decode cX8_settle 15 = .ok (.getfield 33, 3) := by decide +kernel
theorem dX8_settle_18 : decode cX8_settle 18 = .ok (.getfield 151, 3) := by decide +kernel
theorem dX8_settle_21 : decode cX8_settle 21 = .ok (.aload_n 0, 1) := by decide +kernel
theorem dX8_settle_22 : decode cX8_settle 22 = .ok (.getfield 33, 3) := by decide +kernel
theorem dX8_settle_25 : decode cX8_settle 25 = .ok (.getfield 140, 3) := by decide +kernel
theorem dX8_settle_28 : decode cX8_settle 28 = .ok (.getfield 143, 3) := by decide +kernel
theorem dX8_settle_31 : decode cX8_settle 31 = .ok (.invokevirtual 185, 3) := by decide +kernel
theorem dX8_settle_34 : decode cX8_settle 34 = .ok (.ifCond .ne 6, 3) := by decide +kernel
theorem dX8_settle_37 : decode cX8_settle 37 = .ok (.ldc 150, 2) := by decide +kernel
theorem dX8_settle_39 : decode cX8_settle 39 = .ok (.ireturn, 1) := by decide +kernel
theorem dX8_settle_40 : decode cX8_settle 40 = .ok (.aload_n 0, 1) := by decide +kernel
theorem dX8_settle_41 : decode cX8_settle 41 = .ok (.getfield 58, 3) := by decide +kernel
theorem dX8_settle_44 : decode cX8_settle 44 = .ok (.aload_n 0, 1) := by decide +kernel
theorem dX8_settle_45 : decode cX8_settle 45 = .ok (.getfield 33, 3) := by decide +kernel
theorem dX8_settle_48 : decode cX8_settle 48 = .ok (.getfield 151, 3) := by decide +kernel
theorem dX8_settle_51 : decode cX8_settle 51 = .ok (.aload_n 0, 1) := by decide +kernel
theorem dX8_settle_52 : decode cX8_settle 52 = .ok (.getfield 33, 3) := by decide +kernel
theorem dX8_settle_55 : decode cX8_settle 55 = .ok (.getfield 140, 3) := by decide +kernel
theorem dX8_settle_58 : decode cX8_settle 58 = .ok (.getfield 143, 3) := by decide +kernel
theorem dX8_settle_61 : decode cX8_settle 61 = .ok (.invokevirtual 189, 3) := by decide +kernel
theorem dX8_settle_64 : decode cX8_settle 64 = .ok (.aload_n 0, 1) := by decide +kernel
theorem dX8_settle_65 : decode cX8_settle 65 = .ok (.getfield 44, 3) := by decide +kernel
theorem dX8_settle_68 : decode cX8_settle 68 = .ok (.aload_n 0, 1) := by decide +kernel
theorem dX8_settle_69 : decode cX8_settle 69 = .ok (.getfield 33, 3) := by decide +kernel
theorem dX8_settle_72 : decode cX8_settle 72 = .ok (.getfield 151, 3) := by decide +kernel
theorem dX8_settle_75 : decode cX8_settle 75 = .ok (.invokevirtual 157, 3) := by decide +kernel
theorem dX8_settle_78 : decode cX8_settle 78 = .ok (.aload_n 0, 1) := by decide +kernel
theorem dX8_settle_79 : decode cX8_settle 79 = .ok (.getfield 58, 3) := by decide +kernel
theorem dX8_settle_82 : decode cX8_settle 82 = .ok (.aload_n 0, 1) := by decide +kernel
theorem dX8_settle_83 : decode cX8_settle 83 = .ok (.getfield 33, 3) := by decide +kernel
theorem dX8_settle_86 : decode cX8_settle 86 = .ok (.getfield 151, 3) := by decide +kernel
theorem dX8_settle_89 : decode cX8_settle 89 = .ok (.invokevirtual 193, 3) := by decide +kernel
theorem dX8_settle_92 : decode cX8_settle 92 = .ok (.ireturn, 1) := by decide +kernel
set_option maxRecDepth 20000 in
theorem ggX8_undo_X5_giveBack : GoodIn wsX8_undo wsX5_giveBack := goodIn_r _ [10, 11, 12, 13, 14, 15, 16, 17, 18, 19, 20, 21, 22, 23, 24, 25, 26, 38, 39, 40, 44, 45, 46, 47] (by decide +kernel) (by decide +kernel)
set_option maxRecDepth 20000 in
theorem gX8_undo_X5_giveBack : GoodIn wsX8_undo (wsV RX8 200 RX5 yX5_giveBack wsX5_giveBack) := goodIn_app (goodIn_of _ (by decide +kernel)) ggX8_undo_X5_giveBack
theorem dX8_undo_0 : decode cX8_undo 0 = .ok (.aload_n 0, 1) := by decide +kernel
theorem dX8_undo_1 : decode cX8_undo 1 = .ok (.getfield 44, 3) := by decide +kernel
theorem dX8_undo_4 : decode cX8_undo 4 = .ok (.getfield 197, 3) := by decide +kernel
theorem dX8_undo_7 : decode cX8_undo 7 = .ok (.iconst 1, 1) := by decide +kernel
theorem dX8_undo_8 : decode cX8_undo 8 = .ok (.if_icmp .ge 6, 3) := by decide +kernel
theorem dX8_undo_11 : decode cX8_undo 11 = .ok (.ldc 150, 2) := by decide +kernel
theorem dX8_undo_13 : decode cX8_undo 13 = .ok (.ireturn, 1) := by decide +kernel
theorem dX8_undo_14 : decode cX8_undo 14 = .ok (.aload_n 0, 1) := by decide +kernel
theorem dX8_undo_15 : decode cX8_undo 15 = .ok (.getfield 44, 3) := by decide +kernel
theorem dX8_undo_18 : decode cX8_undo 18 = .ok (.aload_n 0, 1) := by decide +kernel
theorem dX8_undo_19 : decode cX8_undo 19 = .ok (.getfield 33, 3) := by decide +kernel
theorem dX8_undo_22 : decode cX8_undo 22 = .ok (.getfield 151, 3) := by decide +kernel
theorem dX8_undo_25 : decode cX8_undo 25 = .ok (.invokevirtual 200, 3) := by decide +kernel
theorem dX8_undo_28 : decode cX8_undo 28 = .ok (.aload_n 0, 1) := by decide +kernel
theorem dX8_undo_29 : decode cX8_undo 29 = .ok (.getfield 44, 3) := by decide +kernel
theorem dX8_undo_32 : decode cX8_undo 32 = .ok (.getfield 197, 3) := by decide +kernel
theorem dX8_undo_35 : decode cX8_undo 35 = .ok (.ireturn, 1) := by decide +kernel
set_option maxRecDepth 20000 in
theorem ggX8_water_X8_isWater : GoodIn wsX8_water wsX8_isWater := goodIn_r _ [12, 2, 6, 13, 28, 29, 30, 31, 32, 33, 34, 35, 36, 37, 38, 39, 40, 41, 46, 47, 48, 49, 50] (by decide +kernel) (by decide +kernel)
set_option maxRecDepth 20000 in
theorem gX8_water_X8_isWater : GoodIn wsX8_water (wsV RX8 203 RX8 yX8_isWater wsX8_isWater) := goodIn_app (goodIn_of _ (by decide +kernel)) ggX8_water_X8_isWater
set_option maxRecDepth 20000 in
theorem ggX8_water_X3_balance : GoodIn wsX8_water wsX3_balance := goodIn_r _ [18, 19, 20, 21, 17, 22, 23, 24, 25, 26, 27, 42, 43, 44, 45] (by decide +kernel) (by decide +kernel)
set_option maxRecDepth 20000 in
theorem gX8_water_X3_balance : GoodIn wsX8_water (wsV RX8 212 RX3 yX3_balance wsX3_balance) := goodIn_app (goodIn_of _ (by decide +kernel)) ggX8_water_X3_balance
theorem dX8_water_0 : decode cX8_water 0 = .ok (.aload_n 0, 1) := by decide +kernel
theorem dX8_water_1 : decode cX8_water 1 = .ok (.iload_n 1, 1) := by decide +kernel
theorem dX8_water_2 : decode cX8_water 2 = .ok (.invokevirtual 203, 3) := by decide +kernel
theorem dX8_water_5 : decode cX8_water 5 = .ok (.ifCond .ne 6, 3) := by decide +kernel
theorem dX8_water_8 : decode cX8_water 8 = .ok (.ldc 73, 2) := by decide +kernel
theorem dX8_water_10 : decode cX8_water 10 = .ok (.ireturn, 1) := by decide +kernel
theorem dX8_water_11 : decode cX8_water 11 = .ok (.iload_n 2, 1) := by decide +kernel
theorem dX8_water_12 : decode cX8_water 12 = .ok (.tableswitch 83 0 3 #[32, 45, 58, 71], 32) := by decide +kernel
theorem dX8_water_44 : decode cX8_water 44 = .ok (.aload_n 0, 1) := by decide +kernel
theorem dX8_water_45 : decode cX8_water 45 = .ok (.getfield 33, 3) := by decide +kernel
theorem dX8_water_48 : decode cX8_water 48 = .ok (.getfield 151, 3) := by decide +kernel
theorem dX8_water_51 : decode cX8_water 51 = .ok (.getfield 168, 3) := by decide +kernel
theorem dX8_water_54 : decode cX8_water 54 = .ok (.iload_n 1, 1) := by decide +kernel
theorem dX8_water_55 : decode cX8_water 55 = .ok (.iaload, 1) := by decide +kernel
theorem dX8_water_56 : decode cX8_water 56 = .ok (.ireturn, 1) := by decide +kernel
theorem dX8_water_57 : decode cX8_water 57 = .ok (.aload_n 0, 1) := by decide +kernel
theorem dX8_water_58 : decode cX8_water 58 = .ok (.getfield 33, 3) := by decide +kernel
theorem dX8_water_61 : decode cX8_water 61 = .ok (.getfield 151, 3) := by decide +kernel
theorem dX8_water_64 : decode cX8_water 64 = .ok (.getfield 206, 3) := by decide +kernel
theorem dX8_water_67 : decode cX8_water 67 = .ok (.iload_n 1, 1) := by decide +kernel
theorem dX8_water_68 : decode cX8_water 68 = .ok (.iaload, 1) := by decide +kernel
theorem dX8_water_69 : decode cX8_water 69 = .ok (.ireturn, 1) := by decide +kernel
theorem dX8_water_70 : decode cX8_water 70 = .ok (.aload_n 0, 1) := by decide +kernel
theorem dX8_water_71 : decode cX8_water 71 = .ok (.getfield 33, 3) := by decide +kernel
theorem dX8_water_74 : decode cX8_water 74 = .ok (.getfield 140, 3) := by decide +kernel
theorem dX8_water_77 : decode cX8_water 77 = .ok (.getfield 209, 3) := by decide +kernel
theorem dX8_water_80 : decode cX8_water 80 = .ok (.iload_n 1, 1) := by decide +kernel
theorem dX8_water_81 : decode cX8_water 81 = .ok (.iaload, 1) := by decide +kernel
theorem dX8_water_82 : decode cX8_water 82 = .ok (.ireturn, 1) := by decide +kernel
theorem dX8_water_83 : decode cX8_water 83 = .ok (.aload_n 0, 1) := by decide +kernel
theorem dX8_water_84 : decode cX8_water 84 = .ok (.getfield 33, 3) := by decide +kernel
theorem dX8_water_87 : decode cX8_water 87 = .ok (.getfield 151, 3) := by decide +kernel
theorem dX8_water_90 : decode cX8_water 90 = .ok (.iload_n 1, 1) := by decide +kernel
theorem dX8_water_91 : decode cX8_water 91 = .ok (.invokevirtual 212, 3) := by decide +kernel
theorem dX8_water_94 : decode cX8_water 94 = .ok (.ireturn, 1) := by decide +kernel
theorem dX8_water_95 : decode cX8_water 95 = .ok (.ldc 73, 2) := by decide +kernel
theorem dX8_water_97 : decode cX8_water 97 = .ok (.ireturn, 1) := by decide +kernel
set_option maxRecDepth 20000 in
theorem ggX8_owes_X8_areTwoWaters : GoodIn wsX8_owes wsX8_areTwoWaters := goodIn_r _ [8, 9, 10, 11, 7, 12, 1, 13, 14, 21, 22, 23, 24, 25, 26, 27, 28, 29, 30, 31, 32, 33, 34, 35, 36, 37, 38, 39] (by decide +kernel) (by decide +kernel)
set_option maxRecDepth 20000 in
theorem gX8_owes_X8_areTwoWaters : GoodIn wsX8_owes (wsV RX8 164 RX8 yX8_areTwoWaters wsX8_areTwoWaters) := goodIn_app (goodIn_of _ (by decide +kernel)) ggX8_owes_X8_areTwoWaters
set_option maxRecDepth 20000 in
theorem ggX8_owes_X3_debt : GoodIn wsX8_owes wsX3_debt := goodIn_r _ [19, 20, 40, 41, 42, 43] (by decide +kernel) (by decide +kernel)
set_option maxRecDepth 20000 in
theorem gX8_owes_X3_debt : GoodIn wsX8_owes (wsV RX8 171 RX3 yX3_debt wsX3_debt) := goodIn_app (goodIn_of _ (by decide +kernel)) ggX8_owes_X3_debt
theorem dX8_owes_0 : decode cX8_owes 0 = .ok (.aload_n 0, 1) := by decide +kernel
theorem dX8_owes_1 : decode cX8_owes 1 = .ok (.iload_n 1, 1) := by decide +kernel
theorem dX8_owes_2 : decode cX8_owes 2 = .ok (.iload_n 2, 1) := by decide +kernel
theorem dX8_owes_3 : decode cX8_owes 3 = .ok (.invokevirtual 164, 3) := by decide +kernel
theorem dX8_owes_6 : decode cX8_owes 6 = .ok (.ifCond .eq 18, 3) := by decide +kernel
theorem dX8_owes_9 : decode cX8_owes 9 = .ok (.aload_n 0, 1) := by decide +kernel
theorem dX8_owes_10 : decode cX8_owes 10 = .ok (.getfield 33, 3) := by decide +kernel
theorem dX8_owes_13 : decode cX8_owes 13 = .ok (.getfield 151, 3) := by decide +kernel
theorem dX8_owes_16 : decode cX8_owes 16 = .ok (.iload_n 1, 1) := by decide +kernel
theorem dX8_owes_17 : decode cX8_owes 17 = .ok (.iload_n 2, 1) := by decide +kernel
theorem dX8_owes_18 : decode cX8_owes 18 = .ok (.invokevirtual 171, 3) := by decide +kernel
theorem dX8_owes_21 : decode cX8_owes 21 = .ok (.goto 5, 3) := by decide +kernel
theorem dX8_owes_24 : decode cX8_owes 24 = .ok (.ldc 73, 2) := by decide +kernel
theorem dX8_owes_26 : decode cX8_owes 26 = .ok (.ireturn, 1) := by decide +kernel
set_option maxRecDepth 20000 in
theorem ggX8_ahead_X8_isWater : GoodIn wsX8_ahead wsX8_isWater := goodIn_r _ [12, 3, 5, 13, 77, 78, 79, 80, 81, 82, 83, 84, 85, 86, 87, 88, 89, 90, 95, 96, 97, 98, 99] (by decide +kernel) (by decide +kernel)
set_option maxRecDepth 20000 in
theorem gX8_ahead_X8_isWater : GoodIn wsX8_ahead (wsV RX8 203 RX8 yX8_isWater wsX8_isWater) := goodIn_app (goodIn_of _ (by decide +kernel)) ggX8_ahead_X8_isWater
