set_option maxRecDepth 20000 in
theorem ggX8_ahead_X3_takeFrom : GoodIn wsX8_ahead wsX3_takeFrom := goodIn_r _ [18, 19, 20, 21, 22, 23, 24, 25, 26, 91, 92, 93, 94] (by decide +kernel) (by decide +kernel)
set_option maxRecDepth 20000 in
theorem gX8_ahead_X3_takeFrom : GoodIn wsX8_ahead (wsV RX8 215 RX3 yX3_takeFrom wsX3_takeFrom) := goodIn_app (goodIn_of _ (by decide +kernel)) ggX8_ahead_X3_takeFrom
set_option maxRecDepth 20000 in
theorem ggX8_ahead_X3_passHours : GoodIn wsX8_ahead wsX3_passHours := goodIn_r _ [30, 31, 32, 33, 17, 34, 26, 35, 36, 37, 38, 39, 40, 41, 42, 43, 44, 45, 46, 47, 48, 49, 50, 51, 52, 53, 54, 55, 56, 57, 58, 59, 60, 24, 61, 62, 63, 64, 19, 65, 66, 67, 68, 25, 91, 92, 93, 94, 95, 96, 97, 98, 99] (by decide +kernel) (by decide +kernel)
set_option maxRecDepth 20000 in
theorem gX8_ahead_X3_passHours : GoodIn wsX8_ahead (wsV RX8 218 RX3 yX3_passHours wsX3_passHours) := goodIn_app (goodIn_of _ (by decide +kernel)) ggX8_ahead_X3_passHours
set_option maxRecDepth 20000 in
theorem ggX8_ahead_X3_owedBy : GoodIn wsX8_ahead wsX3_owedBy := goodIn_r _ [72, 73, 74, 75, 17, 76, 25, 91, 92, 93, 94] (by decide +kernel) (by decide +kernel)
set_option maxRecDepth 20000 in
theorem gX8_ahead_X3_owedBy : GoodIn wsX8_ahead (wsV RX8 222 RX3 yX3_owedBy wsX3_owedBy) := goodIn_app (goodIn_of _ (by decide +kernel)) ggX8_ahead_X3_owedBy
theorem dX8_ahead_0 : decode cX8_ahead 0 = .ok (.aload_n 0, 1) := by decide +kernel
theorem dX8_ahead_1 : decode cX8_ahead 1 = .ok (.iload_n 1, 1) := by decide +kernel
theorem dX8_ahead_2 : decode cX8_ahead 2 = .ok (.invokevirtual 203, 3) := by decide +kernel
theorem dX8_ahead_5 : decode cX8_ahead 5 = .ok (.ifCond .eq 22, 3) := by decide +kernel
theorem dX8_ahead_8 : decode cX8_ahead 8 = .ok (.iload_n 2, 1) := by decide +kernel
theorem dX8_ahead_9 : decode cX8_ahead 9 = .ok (.ifCond .lt 18, 3) := by decide +kernel
theorem dX8_ahead_12 : decode cX8_ahead 12 = .ok (.iload_n 2, 1) := by decide +kernel
theorem dX8_ahead_13 : decode cX8_ahead 13 = .ok (.bipush 48, 2) := by decide +kernel
theorem dX8_ahead_15 : decode cX8_ahead 15 = .ok (.if_icmp .gt 12, 3) := by decide +kernel
theorem dX8_ahead_18 : decode cX8_ahead 18 = .ok (.iload_n 3, 1) := by decide +kernel
theorem dX8_ahead_19 : decode cX8_ahead 19 = .ok (.ifCond .lt 8, 3) := by decide +kernel
theorem dX8_ahead_22 : decode cX8_ahead 22 = .ok (.iload_n 3, 1) := by decide +kernel
theorem dX8_ahead_23 : decode cX8_ahead 23 = .ok (.iconst 2, 1) := by decide +kernel
theorem dX8_ahead_24 : decode cX8_ahead 24 = .ok (.if_icmp .le 6, 3) := by decide +kernel
theorem dX8_ahead_27 : decode cX8_ahead 27 = .ok (.ldc 73, 2) := by decide +kernel
theorem dX8_ahead_29 : decode cX8_ahead 29 = .ok (.ireturn, 1) := by decide +kernel
theorem dX8_ahead_30 : decode cX8_ahead 30 = .ok (.aload_n 0, 1) := by decide +kernel
theorem dX8_ahead_31 : decode cX8_ahead 31 = .ok (.getfield 51, 3) := by decide +kernel
theorem dX8_ahead_34 : decode cX8_ahead 34 = .ok (.aload_n 0, 1) := by decide +kernel
theorem dX8_ahead_35 : decode cX8_ahead 35 = .ok (.getfield 33, 3) := by decide +kernel
theorem dX8_ahead_38 : decode cX8_ahead 38 = .ok (.getfield 151, 3) := by decide +kernel
theorem dX8_ahead_41 : decode cX8_ahead 41 = .ok (.invokevirtual 215, 3) := by decide +kernel
theorem dX8_ahead_44 : decode cX8_ahead 44 = .ok (.aload_n 0, 1) := by decide +kernel
theorem dX8_ahead_45 : decode cX8_ahead 45 = .ok (.getfield 51, 3) := by decide +kernel
theorem dX8_ahead_48 : decode cX8_ahead 48 = .ok (.aload_n 0, 1) := by decide +kernel
theorem dX8_ahead_49 : decode cX8_ahead 49 = .ok (.getfield 33, 3) := by decide +kernel
theorem dX8_ahead_52 : decode cX8_ahead 52 = .ok (.getfield 140, 3) := by decide +kernel
theorem dX8_ahead_55 : decode cX8_ahead 55 = .ok (.iload_n 2, 1) := by decide +kernel
theorem dX8_ahead_56 : decode cX8_ahead 56 = .ok (.invokevirtual 218, 3) := by decide +kernel
theorem dX8_ahead_59 : decode cX8_ahead 59 = .ok (.iload_n 3, 1) := by decide +kernel
theorem dX8_ahead_60 : decode cX8_ahead 60 = .ok (.iconst 2, 1) := by decide +kernel
theorem dX8_ahead_61 : decode cX8_ahead 61 = .ok (.if_icmp .ne 12, 3) := by decide +kernel
theorem dX8_ahead_64 : decode cX8_ahead 64 = .ok (.aload_n 0, 1) := by decide +kernel
theorem dX8_ahead_65 : decode cX8_ahead 65 = .ok (.getfield 51, 3) := by decide +kernel
theorem dX8_ahead_68 : decode cX8_ahead 68 = .ok (.iload_n 1, 1) := by decide +kernel
theorem dX8_ahead_69 : decode cX8_ahead 69 = .ok (.invokevirtual 222, 3) := by decide +kernel
theorem dX8_ahead_72 : decode cX8_ahead 72 = .ok (.ireturn, 1) := by decide +kernel
theorem dX8_ahead_73 : decode cX8_ahead 73 = .ok (.iload_n 3, 1) := by decide +kernel
theorem dX8_ahead_74 : decode cX8_ahead 74 = .ok (.iconst 1, 1) := by decide +kernel
theorem dX8_ahead_75 : decode cX8_ahead 75 = .ok (.if_icmp .ne 15, 3) := by decide +kernel
theorem dX8_ahead_78 : decode cX8_ahead 78 = .ok (.aload_n 0, 1) := by decide +kernel
theorem dX8_ahead_79 : decode cX8_ahead 79 = .ok (.getfield 51, 3) := by decide +kernel
theorem dX8_ahead_82 : decode cX8_ahead 82 = .ok (.getfield 206, 3) := by decide +kernel
theorem dX8_ahead_85 : decode cX8_ahead 85 = .ok (.iload_n 1, 1) := by decide +kernel
theorem dX8_ahead_86 : decode cX8_ahead 86 = .ok (.iaload, 1) := by decide +kernel
theorem dX8_ahead_87 : decode cX8_ahead 87 = .ok (.goto 12, 3) := by decide +kernel
theorem dX8_ahead_90 : decode cX8_ahead 90 = .ok (.aload_n 0, 1) := by decide +kernel
theorem dX8_ahead_91 : decode cX8_ahead 91 = .ok (.getfield 51, 3) := by decide +kernel
theorem dX8_ahead_94 : decode cX8_ahead 94 = .ok (.getfield 168, 3) := by decide +kernel
theorem dX8_ahead_97 : decode cX8_ahead 97 = .ok (.iload_n 1, 1) := by decide +kernel
theorem dX8_ahead_98 : decode cX8_ahead 98 = .ok (.iaload, 1) := by decide +kernel
theorem dX8_ahead_99 : decode cX8_ahead 99 = .ok (.ireturn, 1) := by decide +kernel
set_option maxRecDepth 20000 in
theorem ggX8_sail_X8_isWater : GoodIn wsX8_sail wsX8_isWater := goodIn_r _ [7, 8, 9, 10, 74, 75, 76, 77, 78, 79, 80, 81, 82, 83, 84, 85, 86, 87, 88, 89, 90, 91, 92] (by decide +kernel) (by decide +kernel)
set_option maxRecDepth 20000 in
theorem gX8_sail_X8_isWater : GoodIn wsX8_sail (wsV RX8 203 RX8 yX8_isWater wsX8_isWater) := goodIn_app (goodIn_of _ (by decide +kernel)) ggX8_sail_X8_isWater
set_option maxRecDepth 20000 in
theorem ggX8_sail_X8_firstDeepHour : GoodIn wsX8_sail wsX8_firstDeepHour := goodIn_r _ [14, 15, 8, 16, 9, 17, 2, 18, 19, 20, 21, 22, 23, 24, 25, 26, 27, 28, 29, 30, 31, 32, 33, 34, 35, 36, 37, 38, 39, 40, 41, 42, 43, 44, 45, 46, 47, 48, 49, 50, 51, 52, 53, 54, 55, 56, 57, 58, 59, 60, 61, 62, 63, 64, 65, 66, 67, 68, 69, 70, 71, 72, 73, 74, 75, 76, 77, 78, 79, 80, 81, 82, 83, 84, 85, 86, 87, 93, 94, 95, 96, 88, 89, 90, 91, 92] (by decide +kernel) (by decide +kernel)
set_option maxRecDepth 20000 in
theorem gX8_sail_X8_firstDeepHour : GoodIn wsX8_sail (wsV RX8 225 RX8 yX8_firstDeepHour wsX8_firstDeepHour) := goodIn_app (goodIn_of _ (by decide +kernel)) ggX8_sail_X8_firstDeepHour
theorem dX8_sail_0 : decode cX8_sail 0 = .ok (.aload_n 0, 1) := by decide +kernel
theorem dX8_sail_1 : decode cX8_sail 1 = .ok (.iload_n 1, 1) := by decide +kernel
theorem dX8_sail_2 : decode cX8_sail 2 = .ok (.invokevirtual 203, 3) := by decide +kernel
theorem dX8_sail_5 : decode cX8_sail 5 = .ok (.ifCond .eq 36, 3) := by decide +kernel
theorem dX8_sail_8 : decode cX8_sail 8 = .ok (.iload_n 2, 1) := by decide +kernel
theorem dX8_sail_9 : decode cX8_sail 9 = .ok (.ifCond .lt 32, 3) := by decide +kernel
theorem dX8_sail_12 : decode cX8_sail 12 = .ok (.iload_n 2, 1) := by decide +kernel
theorem dX8_sail_13 : decode cX8_sail 13 = .ok (.sipush 999, 3) := by decide +kernel
theorem dX8_sail_16 : decode cX8_sail 16 = .ok (.if_icmp .gt 25, 3) := by decide +kernel
theorem dX8_sail_19 : decode cX8_sail 19 = .ok (.iload_n 3, 1) := by decide +kernel
theorem dX8_sail_20 : decode cX8_sail 20 = .ok (.iconst 1, 1) := by decide +kernel
theorem dX8_sail_21 : decode cX8_sail 21 = .ok (.if_icmp .lt 20, 3) := by decide +kernel
theorem dX8_sail_24 : decode cX8_sail 24 = .ok (.iload_n 3, 1) := by decide +kernel
theorem dX8_sail_25 : decode cX8_sail 25 = .ok (.bipush 24, 2) := by decide +kernel
theorem dX8_sail_27 : decode cX8_sail 27 = .ok (.if_icmp .gt 14, 3) := by decide +kernel
theorem dX8_sail_30 : decode cX8_sail 30 = .ok (.iload 4, 2) := by decide +kernel
theorem dX8_sail_32 : decode cX8_sail 32 = .ok (.ifCond .lt 9, 3) := by decide +kernel
theorem dX8_sail_35 : decode cX8_sail 35 = .ok (.iload 4, 2) := by decide +kernel
theorem dX8_sail_37 : decode cX8_sail 37 = .ok (.iconst 1, 1) := by decide +kernel
theorem dX8_sail_38 : decode cX8_sail 38 = .ok (.if_icmp .le 6, 3) := by decide +kernel
theorem dX8_sail_41 : decode cX8_sail 41 = .ok (.ldc 73, 2) := by decide +kernel
theorem dX8_sail_43 : decode cX8_sail 43 = .ok (.ireturn, 1) := by decide +kernel
theorem dX8_sail_44 : decode cX8_sail 44 = .ok (.aload_n 0, 1) := by decide +kernel
theorem dX8_sail_45 : decode cX8_sail 45 = .ok (.iload_n 1, 1) := by decide +kernel
theorem dX8_sail_46 : decode cX8_sail 46 = .ok (.iload_n 2, 1) := by decide +kernel
theorem dX8_sail_47 : decode cX8_sail 47 = .ok (.iconst 0, 1) := by decide +kernel
theorem dX8_sail_48 : decode cX8_sail 48 = .ok (.bipush 24, 2) := by decide +kernel
theorem dX8_sail_50 : decode cX8_sail 50 = .ok (.invokevirtual 225, 3) := by decide +kernel
theorem dX8_sail_53 : decode cX8_sail 53 = .ok (.istore 5, 2) := by decide +kernel
theorem dX8_sail_55 : decode cX8_sail 55 = .ok (.iload 4, 2) := by decide +kernel
theorem dX8_sail_57 : decode cX8_sail 57 = .ok (.ifCond .eq 10, 3) := by decide +kernel
theorem dX8_sail_60 : decode cX8_sail 60 = .ok (.iload 5, 2) := by decide +kernel
theorem dX8_sail_62 : decode cX8_sail 62 = .ok (.ldc 229, 2) := by decide +kernel
theorem dX8_sail_64 : decode cX8_sail 64 = .ok (.if_icmp .ne 6, 3) := by decide +kernel
theorem dX8_sail_67 : decode cX8_sail 67 = .ok (.iload 5, 2) := by decide +kernel
theorem dX8_sail_69 : decode cX8_sail 69 = .ok (.ireturn, 1) := by decide +kernel
theorem dX8_sail_70 : decode cX8_sail 70 = .ok (.aload_n 0, 1) := by decide +kernel
theorem dX8_sail_71 : decode cX8_sail 71 = .ok (.iload_n 1, 1) := by decide +kernel
theorem dX8_sail_72 : decode cX8_sail 72 = .ok (.iload_n 2, 1) := by decide +kernel
theorem dX8_sail_73 : decode cX8_sail 73 = .ok (.iload 5, 2) := by decide +kernel
theorem dX8_sail_75 : decode cX8_sail 75 = .ok (.iload_n 3, 1) := by decide +kernel
theorem dX8_sail_76 : decode cX8_sail 76 = .ok (.iadd, 1) := by decide +kernel
theorem dX8_sail_77 : decode cX8_sail 77 = .ok (.bipush 48, 2) := by decide +kernel
theorem dX8_sail_79 : decode cX8_sail 79 = .ok (.invokevirtual 225, 3) := by decide +kernel
theorem dX8_sail_82 : decode cX8_sail 82 = .ok (.ireturn, 1) := by decide +kernel
set_option maxRecDepth 20000 in
theorem ggX8_net_X4_canBe : GoodIn wsX8_net wsX4_canBe := goodIn_r _ [14, 15, 16, 17, 18, 19, 20, 21, 22, 23, 24, 25, 26, 27, 28, 29, 88, 89, 90, 91] (by decide +kernel) (by decide +kernel)
set_option maxRecDepth 20000 in
theorem gX8_net_X4_canBe : GoodIn wsX8_net (wsV RX8 185 RX4 yX4_canBe wsX4_canBe) := goodIn_app (goodIn_of _ (by decide +kernel)) ggX8_net_X4_canBe
set_option maxRecDepth 20000 in
theorem ggX8_net_X4_workOut : GoodIn wsX8_net wsX4_workOut := goodIn_r _ [33, 34, 35, 36, 37, 38, 39, 16, 17, 18, 19, 20, 21, 22, 23, 24, 25, 26, 27, 28, 29, 40, 41, 42, 13, 43, 44, 45, 46, 47, 48, 49, 50, 51, 52, 53, 54, 55, 56, 57, 58, 59, 83, 84, 85, 86, 87, 88, 89, 90, 91] (by decide +kernel) (by decide +kernel)
set_option maxRecDepth 20000 in
theorem gX8_net_X4_workOut : GoodIn wsX8_net (wsV RX8 189 RX4 yX4_workOut wsX4_workOut) := goodIn_app (goodIn_of _ (by decide +kernel)) ggX8_net_X4_workOut
set_option maxRecDepth 20000 in
theorem ggX8_net_X4_tell : GoodIn wsX8_net wsX4_tell := goodIn_r _ [63, 35, 44, 57, 58, 59, 83, 84, 85, 86, 87] (by decide +kernel) (by decide +kernel)
set_option maxRecDepth 20000 in
theorem gX8_net_X4_tell : GoodIn wsX8_net (wsV RX8 233 RX4 yX4_tell wsX4_tell) := goodIn_app (goodIn_of _ (by decide +kernel)) ggX8_net_X4_tell
theorem dX8_net_0 : decode cX8_net 0 = .ok (.aload_n 0, 1) := by decide +kernel
theorem dX8_net_1 : decode cX8_net 1 = .ok (.getfield 33, 3) := by decide +kernel
theorem dX8_net_4 : decode cX8_net 4 = .ok (.getfield 146, 3) := by decide +kernel
theorem dX8_net_7 : decode cX8_net 7 = .ok (.ifCond .ne 6, 3) := by decide +kernel
theorem dX8_net_10 : decode cX8_net 10 = .ok (.ldc 150, 2) := by decide +kernel
theorem dX8_net_12 : decode cX8_net 12 = .ok (.ireturn, 1) := by decide +kernel
theorem dX8_net_13 : decode cX8_net 13 = .ok (.iload_n 1, 1) := by decide +kernel
theorem dX8_net_14 : decode cX8_net 14 = .ok (.bipush (-2), 2) := by decide +kernel
theorem dX8_net_16 : decode cX8_net 16 = .ok (.if_icmp .lt 12, 3) := by decide +kernel
theorem dX8_net_19 : decode cX8_net 19 = .ok (.iload_n 2, 1) := by decide +kernel
theorem dX8_net_20 : decode cX8_net 20 = .ok (.ifCond .lt 8, 3) := by decide +kernel
theorem dX8_net_23 : decode cX8_net 23 = .ok (.iload_n 2, 1) := by decide +kernel
theorem dX8_net_24 : decode cX8_net 24 = .ok (.iconst 2, 1) := by decide +kernel
theorem dX8_net_25 : decode cX8_net 25 = .ok (.if_icmp .le 6, 3) := by decide +kernel
theorem dX8_net_28 : decode cX8_net 28 = .ok (.ldc 73, 2) := by decide +kernel
theorem dX8_net_30 : decode cX8_net 30 = .ok (.ireturn, 1) := by decide +kernel
theorem dX8_net_31 : decode cX8_net 31 = .ok (.iload_n 1, 1) := by decide +kernel
theorem dX8_net_32 : decode cX8_net 32 = .ok (.bipush (-2), 2) := by decide +kernel
theorem dX8_net_34 : decode cX8_net 34 = .ok (.if_icmp .ne 36, 3) := by decide +kernel
theorem dX8_net_37 : decode cX8_net 37 = .ok (.aload_n 0, 1) := by decide +kernel
theorem dX8_net_38 : decode cX8_net 38 = .ok (.getfield 58, 3) := by decide +kernel
theorem dX8_net_41 : decode cX8_net 41 = .ok (.aload_n 0, 1) := by decide +kernel
theorem dX8_net_42 : decode cX8_net 42 = .ok (.getfield 33, 3) := by decide +kernel
theorem dX8_net_45 : decode cX8_net 45 = .ok (.getfield 151, 3) := by decide +kernel
theorem dX8_net_48 : decode cX8_net 48 = .ok (.aload_n 0, 1) := by decide +kernel
theorem dX8_net_49 : decode cX8_net 49 = .ok (.getfield 33, 3) := by decide +kernel
theorem dX8_net_52 : decode cX8_net 52 = .ok (.getfield 140, 3) := by decide +kernel
theorem dX8_net_55 : decode cX8_net 55 = .ok (.getfield 143, 3) := by decide +kernel
theorem dX8_net_58 : decode cX8_net 58 = .ok (.invokevirtual 185, 3) := by decide +kernel
theorem dX8_net_61 : decode cX8_net 61 = .ok (.ifCond .eq 7, 3) := by decide +kernel
theorem dX8_net_64 : decode cX8_net 64 = .ok (.iconst 1, 1) := by decide +kernel
theorem dX8_net_65 : decode cX8_net 65 = .ok (.goto 4, 3) := by decide +kernel
theorem dX8_net_68 : decode cX8_net 68 = .ok (.iconst 0, 1) := by decide +kernel
theorem dX8_net_69 : decode cX8_net 69 = .ok (.ireturn, 1) := by decide +kernel
theorem dX8_net_70 : decode cX8_net 70 = .ok (.aload_n 0, 1) := by decide +kernel
theorem dX8_net_71 : decode cX8_net 71 = .ok (.getfield 58, 3) := by decide +kernel
theorem dX8_net_74 : decode cX8_net 74 = .ok (.aload_n 0, 1) := by decide +kernel
theorem dX8_net_75 : decode cX8_net 75 = .ok (.getfield 33, 3) := by decide +kernel
theorem dX8_net_78 : decode cX8_net 78 = .ok (.getfield 151, 3) := by decide +kernel
theorem dX8_net_81 : decode cX8_net 81 = .ok (.aload_n 0, 1) := by decide +kernel
theorem dX8_net_82 : decode cX8_net 82 = .ok (.getfield 33, 3) := by decide +kernel
theorem dX8_net_85 : decode cX8_net 85 = .ok (.getfield 140, 3) := by decide +kernel
theorem dX8_net_88 : decode cX8_net 88 = .ok (.getfield 143, 3) := by decide +kernel
theorem dX8_net_91 : decode cX8_net 91 = .ok (.invokevirtual 189, 3) := by decide +kernel
theorem dX8_net_94 : decode cX8_net 94 = .ok (.iload_n 1, 1) := by decide +kernel
theorem dX8_net_95 : decode cX8_net 95 = .ok (.iconst (-1), 1) := by decide +kernel
theorem dX8_net_96 : decode cX8_net 96 = .ok (.if_icmp .ne 13, 3) := by decide +kernel
theorem dX8_net_99 : decode cX8_net 99 = .ok (.aload_n 0, 1) := by decide +kernel
theorem dX8_net_100 : decode cX8_net 100 = .ok (.getfield 58, 3) := by decide +kernel
theorem dX8_net_103 : decode cX8_net 103 = .ok (.getfield 230, 3) := by decide +kernel
theorem dX8_net_106 : decode cX8_net 106 = .ok (.goto 12, 3) := by decide +kernel
theorem dX8_net_109 : decode cX8_net 109 = .ok (.aload_n 0, 1) := by decide +kernel
theorem dX8_net_110 : decode cX8_net 110 = .ok (.getfield 58, 3) := by decide +kernel
theorem dX8_net_113 : decode cX8_net 113 = .ok (.iload_n 1, 1) := by decide +kernel
theorem dX8_net_114 : decode cX8_net 114 = .ok (.iload_n 2, 1) := by decide +kernel
theorem dX8_net_115 : decode cX8_net 115 = .ok (.invokevirtual 233, 3) := by decide +kernel
theorem dX8_net_118 : decode cX8_net 118 = .ok (.ireturn, 1) := by decide +kernel
set_option maxRecDepth 20000 in
theorem ggX8_least_X8_areTwoWaters : GoodIn wsX8_least wsX8_areTwoWaters := goodIn_r _ [10, 11, 12, 13, 9, 14, 2, 15, 16, 77, 78, 79, 80, 81, 82, 83, 84, 85, 86, 87, 88, 89, 90, 95, 96, 97, 98, 99] (by decide +kernel) (by decide +kernel)
set_option maxRecDepth 20000 in
theorem gX8_least_X8_areTwoWaters : GoodIn wsX8_least (wsV RX8 164 RX8 yX8_areTwoWaters wsX8_areTwoWaters) := goodIn_app (goodIn_of _ (by decide +kernel)) ggX8_least_X8_areTwoWaters
set_option maxRecDepth 20000 in
theorem ggX8_least_X8_depthByLoan : GoodIn wsX8_least wsX8_depthByLoan := goodIn_r _ [20, 21, 2, 3, 4, 15, 22, 23, 24, 25, 26, 27, 28, 29, 30, 31, 32, 33, 34, 35, 36, 37, 38, 39, 40, 41, 42, 43, 44, 45, 46, 47, 48, 49, 50, 51, 52, 53, 54, 55, 56, 57, 58, 59, 60, 61, 62, 63, 64, 65, 66, 67, 68, 69, 70, 71, 72, 73, 74, 75, 76, 77, 78, 79, 80, 81, 82, 83, 84, 85, 86, 87, 88, 89, 90, 91, 92, 93, 94, 95, 96, 97, 98, 99] (by decide +kernel) (by decide +kernel)
set_option maxRecDepth 20000 in
theorem gX8_least_X8_depthByLoan : GoodIn wsX8_least (wsV RX8 236 RX8 yX8_depthByLoan wsX8_depthByLoan) := goodIn_app (goodIn_of _ (by decide +kernel)) ggX8_least_X8_depthByLoan
theorem dX8_least_0 : decode cX8_least 0 = .ok (.aload_n 0, 1) := by decide +kernel
theorem dX8_least_1 : decode cX8_least 1 = .ok (.iload_n 1, 1) := by decide +kernel
theorem dX8_least_2 : decode cX8_least 2 = .ok (.iload_n 2, 1) := by decide +kernel
theorem dX8_least_3 : decode cX8_least 3 = .ok (.invokevirtual 164, 3) := by decide +kernel
theorem dX8_least_6 : decode cX8_least 6 = .ok (.ifCond .eq 26, 3) := by decide +kernel
theorem dX8_least_9 : decode cX8_least 9 = .ok (.iload_n 3, 1) := by decide +kernel
theorem dX8_least_10 : decode cX8_least 10 = .ok (.ifCond .lt 22, 3) := by decide +kernel
theorem dX8_least_13 : decode cX8_least 13 = .ok (.iload_n 3, 1) := by decide +kernel
theorem dX8_least_14 : decode cX8_least 14 = .ok (.sipush 999, 3) := by decide +kernel
theorem dX8_least_17 : decode cX8_least 17 = .ok (.if_icmp .gt 15, 3) := by decide +kernel
theorem dX8_least_20 : decode cX8_least 20 = .ok (.iload 4, 2) := by decide +kernel
theorem dX8_least_22 : decode cX8_least 22 = .ok (.ifCond .lt 10, 3) := by decide +kernel
theorem dX8_least_25 : decode cX8_least 25 = .ok (.iload 4, 2) := by decide +kernel
theorem dX8_least_27 : decode cX8_least 27 = .ok (.bipush 24, 2) := by decide +kernel
theorem dX8_least_29 : decode cX8_least 29 = .ok (.if_icmp .le 6, 3) := by decide +kernel
theorem dX8_least_32 : decode cX8_least 32 = .ok (.ldc 73, 2) := by decide +kernel
theorem dX8_least_34 : decode cX8_least 34 = .ok (.ireturn, 1) := by decide +kernel
theorem dX8_least_35 : decode cX8_least 35 = .ok (.aload_n 0, 1) := by decide +kernel
theorem dX8_least_36 : decode cX8_least 36 = .ok (.getfield 33, 3) := by decide +kernel
theorem dX8_least_39 : decode cX8_least 39 = .ok (.getfield 151, 3) := by decide +kernel
theorem dX8_least_42 : decode cX8_least 42 = .ok (.getfield 168, 3) := by decide +kernel
theorem dX8_least_45 : decode cX8_least 45 = .ok (.iload_n 2, 1) := by decide +kernel
theorem dX8_least_46 : decode cX8_least 46 = .ok (.iaload, 1) := by decide +kernel
theorem dX8_least_47 : decode cX8_least 47 = .ok (.istore 5, 2) := by decide +kernel
theorem dX8_least_49 : decode cX8_least 49 = .ok (.aload_n 0, 1) := by decide +kernel
theorem dX8_least_50 : decode cX8_least 50 = .ok (.iload_n 1, 1) := by decide +kernel
theorem dX8_least_51 : decode cX8_least 51 = .ok (.iload 5, 2) := by decide +kernel
theorem dX8_least_53 : decode cX8_least 53 = .ok (.iload 4, 2) := by decide +kernel
theorem dX8_least_55 : decode cX8_least 55 = .ok (.invokevirtual 236, 3) := by decide +kernel
theorem dX8_least_58 : decode cX8_least 58 = .ok (.iload_n 3, 1) := by decide +kernel
theorem dX8_least_59 : decode cX8_least 59 = .ok (.if_icmp .ge 6, 3) := by decide +kernel
theorem dX8_least_62 : decode cX8_least 62 = .ok (.ldc 229, 2) := by decide +kernel
theorem dX8_least_64 : decode cX8_least 64 = .ok (.ireturn, 1) := by decide +kernel
theorem dX8_least_65 : decode cX8_least 65 = .ok (.iconst 0, 1) := by decide +kernel
theorem dX8_least_66 : decode cX8_least 66 = .ok (.istore 6, 2) := by decide +kernel
theorem dX8_least_68 : decode cX8_least 68 = .ok (.iconst 0, 1) := by decide +kernel
theorem dX8_least_69 : decode cX8_least 69 = .ok (.istore 7, 2) := by decide +kernel
theorem dX8_least_71 : decode cX8_least 71 = .ok (.iload 7, 2) := by decide +kernel
theorem dX8_least_73 : decode cX8_least 73 = .ok (.bipush 32, 2) := by decide +kernel
theorem dX8_least_75 : decode cX8_least 75 = .ok (.if_icmp .ge 54, 3) := by decide +kernel
theorem dX8_least_78 : decode cX8_least 78 = .ok (.iload 6, 2) := by decide +kernel
theorem dX8_least_80 : decode cX8_least 80 = .ok (.iload 5, 2) := by decide +kernel
theorem dX8_least_82 : decode cX8_least 82 = .ok (.if_icmp .ge 47, 3) := by decide +kernel
theorem dX8_least_85 : decode cX8_least 85 = .ok (.iload 6, 2) := by decide +kernel
theorem dX8_least_87 : decode cX8_least 87 = .ok (.iload 5, 2) := by decide +kernel
theorem dX8_least_89 : decode cX8_least 89 = .ok (.iload 6, 2) := by decide +kernel
theorem dX8_least_91 : decode cX8_least 91 = .ok (.isub, 1) := by decide +kernel
theorem dX8_least_92 : decode cX8_least 92 = .ok (.iconst 2, 1) := by decide +kernel
theorem dX8_least_93 : decode cX8_least 93 = .ok (.idiv, 1) := by decide +kernel
theorem dX8_least_94 : decode cX8_least 94 = .ok (.iadd, 1) := by decide +kernel
theorem dX8_least_95 : decode cX8_least 95 = .ok (.istore 8, 2) := by decide +kernel
theorem dX8_least_97 : decode cX8_least 97 = .ok (.aload_n 0, 1) := by decide +kernel
theorem dX8_least_98 : decode cX8_least 98 = .ok (.iload_n 1, 1) := by decide +kernel
theorem dX8_least_99 : decode cX8_least 99 = .ok (.iload 8, 2) := by decide +kernel
theorem dX8_least_101 : decode cX8_least 101 = .ok (.iload 4, 2) := by decide +kernel
theorem dX8_least_103 : decode cX8_least 103 = .ok (.invokevirtual 236, 3) := by decide +kernel
theorem dX8_least_106 : decode cX8_least 106 = .ok (.iload_n 3, 1) := by decide +kernel
theorem dX8_least_107 : decode cX8_least 107 = .ok (.if_icmp .lt 10, 3) := by decide +kernel
theorem dX8_least_110 : decode cX8_least 110 = .ok (.iload 8, 2) := by decide +kernel
theorem dX8_least_112 : decode cX8_least 112 = .ok (.istore 5, 2) := by decide +kernel
theorem dX8_least_114 : decode cX8_least 114 = .ok (.goto 9, 3) := by decide +kernel
theorem dX8_least_117 : decode cX8_least 117 = .ok (.iload 8, 2) := by decide +kernel
theorem dX8_least_119 : decode cX8_least 119 = .ok (.iconst 1, 1) := by decide +kernel
theorem dX8_least_120 : decode cX8_least 120 = .ok (.iadd, 1) := by decide +kernel
theorem dX8_least_121 : decode cX8_least 121 = .ok (.istore 6, 2) := by decide +kernel
theorem dX8_least_123 : decode cX8_least 123 = .ok (.iinc 7 1, 3) := by decide +kernel
theorem dX8_least_126 : decode cX8_least 126 = .ok (.goto (-55), 3) := by decide +kernel
theorem dX8_least_129 : decode cX8_least 129 = .ok (.iload 5, 2) := by decide +kernel
theorem dX8_least_131 : decode cX8_least 131 = .ok (.ireturn, 1) := by decide +kernel
set_option maxRecDepth 20000 in
theorem ggX8_run_X3_takeFrom : GoodIn wsX8_run wsX3_takeFrom := goodIn_r _ [12, 13, 14, 15, 16, 17, 18, 19, 20, 60, 61, 62, 63] (by decide +kernel) (by decide +kernel)
set_option maxRecDepth 20000 in
theorem gX8_run_X3_takeFrom : GoodIn wsX8_run (wsV RX8 215 RX3 yX3_takeFrom wsX3_takeFrom) := goodIn_app (goodIn_of _ (by decide +kernel)) ggX8_run_X3_takeFrom
set_option maxRecDepth 20000 in
theorem ggX8_run_X3_payAll : GoodIn wsX8_run wsX3_payAll := goodIn_r _ [24, 25, 26, 27, 11, 28, 13, 29, 30, 31, 32, 33, 34, 35, 36, 19, 37, 38, 39, 40, 60, 61, 62, 63] (by decide +kernel) (by decide +kernel)
set_option maxRecDepth 20000 in
theorem gX8_run_X3_payAll : GoodIn wsX8_run (wsV RX8 239 RX3 yX3_payAll wsX3_payAll) := goodIn_app (goodIn_of _ (by decide +kernel)) ggX8_run_X3_payAll
theorem dX8_run_0 : decode cX8_run 0 = .ok (.aload_n 0, 1) := by decide +kernel
theorem dX8_run_1 : decode cX8_run 1 = .ok (.getfield 33, 3) := by decide +kernel
theorem dX8_run_4 : decode cX8_run 4 = .ok (.getfield 146, 3) := by decide +kernel
theorem dX8_run_7 : decode cX8_run 7 = .ok (.ifCond .ne 6, 3) := by decide +kernel
theorem dX8_run_10 : decode cX8_run 10 = .ok (.ldc 150, 2) := by decide +kernel
theorem dX8_run_12 : decode cX8_run 12 = .ok (.ireturn, 1) := by decide +kernel
theorem dX8_run_13 : decode cX8_run 13 = .ok (.aload_n 0, 1) := by decide +kernel
theorem dX8_run_14 : decode cX8_run 14 = .ok (.getfield 51, 3) := by decide +kernel
theorem dX8_run_17 : decode cX8_run 17 = .ok (.aload_n 0, 1) := by decide +kernel
theorem dX8_run_18 : decode cX8_run 18 = .ok (.getfield 33, 3) := by decide +kernel
theorem dX8_run_21 : decode cX8_run 21 = .ok (.getfield 151, 3) := by decide +kernel
theorem dX8_run_24 : decode cX8_run 24 = .ok (.invokevirtual 215, 3) := by decide +kernel
theorem dX8_run_27 : decode cX8_run 27 = .ok (.aload_n 0, 1) := by decide +kernel
theorem dX8_run_28 : decode cX8_run 28 = .ok (.getfield 51, 3) := by decide +kernel
theorem dX8_run_31 : decode cX8_run 31 = .ok (.aload_n 0, 1) := by decide +kernel
theorem dX8_run_32 : decode cX8_run 32 = .ok (.getfield 33, 3) := by decide +kernel
theorem dX8_run_35 : decode cX8_run 35 = .ok (.getfield 140, 3) := by decide +kernel
theorem dX8_run_38 : decode cX8_run 38 = .ok (.getfield 143, 3) := by decide +kernel
theorem dX8_run_41 : decode cX8_run 41 = .ok (.invokevirtual 239, 3) := by decide +kernel
theorem dX8_run_44 : decode cX8_run 44 = .ok (.ireturn, 1) := by decide +kernel
set_option maxRecDepth 20000 in
theorem ggX8_frauds_X8_isRow : GoodIn wsX8_frauds wsX8_isRow := goodIn_r _ [12] (by decide +kernel) (by decide +kernel)
set_option maxRecDepth 20000 in
theorem gX8_frauds_X8_isRow : GoodIn wsX8_frauds (va_wsS RX8 69 yX8_isRow wsX8_isRow) := goodIn_app (goodIn_of _ (by decide +kernel)) ggX8_frauds_X8_isRow
set_option maxRecDepth 20000 in
theorem ggX8_frauds_X6_isMissing : GoodIn wsX8_frauds wsX6_isMissing := goodIn_r _ [17, 18, 116, 117, 118] (by decide +kernel) (by decide +kernel)
set_option maxRecDepth 20000 in
theorem gX8_frauds_X6_isMissing : GoodIn wsX8_frauds (wsV RX8 85 RX6 yX6_isMissing wsX6_isMissing) := goodIn_app (goodIn_of _ (by decide +kernel)) ggX8_frauds_X6_isMissing
set_option maxRecDepth 20000 in
theorem ggX8_frauds_X8_found : GoodIn wsX8_frauds wsX8_found := goodIn_r _ [22, 23, 24, 97, 98, 99, 100, 101, 102, 103, 104, 105, 106, 107] (by decide +kernel) (by decide +kernel)
set_option maxRecDepth 20000 in
theorem gX8_frauds_X8_found : GoodIn wsX8_frauds (wsV RX8 74 RX8 yX8_found wsX8_found) := goodIn_app (goodIn_of _ (by decide +kernel)) ggX8_frauds_X8_found
set_option maxRecDepth 20000 in
theorem ggX8_frauds_X6_hasPlaces : GoodIn wsX8_frauds wsX6_hasPlaces := goodIn_r _ [28, 29, 116, 117, 118] (by decide +kernel) (by decide +kernel)
set_option maxRecDepth 20000 in
theorem gX8_frauds_X6_hasPlaces : GoodIn wsX8_frauds (wsV RX8 88 RX6 yX6_hasPlaces wsX6_hasPlaces) := goodIn_app (goodIn_of _ (by decide +kernel)) ggX8_frauds_X6_hasPlaces
set_option maxRecDepth 20000 in
theorem ggX8_frauds_X6_hasBelowZero : GoodIn wsX8_frauds wsX6_hasBelowZero := goodIn_r _ [33, 34, 116, 117, 118] (by decide +kernel) (by decide +kernel)
set_option maxRecDepth 20000 in
theorem gX8_frauds_X6_hasBelowZero : GoodIn wsX8_frauds (wsV RX8 242 RX6 yX6_hasBelowZero wsX6_hasBelowZero) := goodIn_app (goodIn_of _ (by decide +kernel)) ggX8_frauds_X6_hasBelowZero
set_option maxRecDepth 20000 in
theorem ggX8_frauds_X8_watersToldWrong : GoodIn wsX8_frauds wsX8_watersToldWrong := goodIn_r _ [38, 39, 1, 40, 6, 7, 41, 42, 43, 44, 45, 46, 47, 48, 49, 50, 51, 52, 53, 54, 55, 56, 57, 58, 59, 60, 61, 62, 63, 64, 65, 66, 67, 68, 69, 70, 71, 72, 73, 74, 75, 76, 77, 78, 79, 80, 81, 82, 83, 84, 85, 86, 87, 88, 89, 90, 91, 92, 97, 98, 99, 100, 101, 102, 103, 104, 105, 106, 107, 108, 109, 110, 111, 112, 113, 114, 115, 119, 120, 121, 122] (by decide +kernel) (by decide +kernel)
set_option maxRecDepth 20000 in
theorem gX8_frauds_X8_watersToldWrong : GoodIn wsX8_frauds (wsV RX8 245 RX8 yX8_watersToldWrong wsX8_watersToldWrong) := goodIn_app (goodIn_of _ (by decide +kernel)) ggX8_frauds_X8_watersToldWrong
set_option maxRecDepth 20000 in
theorem ggX8_frauds_X8_fine : GoodIn wsX8_frauds wsX8_fine := goodIn_r _ [96, 23, 97, 98, 99, 100, 101, 102, 103, 104, 105, 106, 107] (by decide +kernel) (by decide +kernel)
set_option maxRecDepth 20000 in
theorem gX8_frauds_X8_fine : GoodIn wsX8_frauds (wsV RX8 82 RX8 yX8_fine wsX8_fine) := goodIn_app (goodIn_of _ (by decide +kernel)) ggX8_frauds_X8_fine
theorem dX8_frauds_0 : decode cX8_frauds 0 = .ok (.aload_n 0, 1) := by decide +kernel
theorem dX8_frauds_1 : decode cX8_frauds 1 = .ok (.getfield 33, 3) := by decide +kernel
theorem dX8_frauds_4 : decode cX8_frauds 4 = .ok (.getfield 146, 3) := by decide +kernel
theorem dX8_frauds_7 : decode cX8_frauds 7 = .ok (.ifCond .ne 6, 3) := by decide +kernel
theorem dX8_frauds_10 : decode cX8_frauds 10 = .ok (.ldc 150, 2) := by decide +kernel
theorem dX8_frauds_12 : decode cX8_frauds 12 = .ok (.ireturn, 1) := by decide +kernel
theorem dX8_frauds_13 : decode cX8_frauds 13 = .ok (.iload_n 1, 1) := by decide +kernel
theorem dX8_frauds_14 : decode cX8_frauds 14 = .ok (.invokestatic 69, 3) := by decide +kernel
theorem dX8_frauds_17 : decode cX8_frauds 17 = .ok (.ifCond .ne 6, 3) := by decide +kernel
theorem dX8_frauds_20 : decode cX8_frauds 20 = .ok (.ldc 73, 2) := by decide +kernel
theorem dX8_frauds_22 : decode cX8_frauds 22 = .ok (.ireturn, 1) := by decide +kernel
theorem dX8_frauds_23 : decode cX8_frauds 23 = .ok (.aload_n 0, 1) := by decide +kernel
theorem dX8_frauds_24 : decode cX8_frauds 24 = .ok (.getfield 10, 3) := by decide +kernel
theorem dX8_frauds_27 : decode cX8_frauds 27 = .ok (.iload_n 1, 1) := by decide +kernel
theorem dX8_frauds_28 : decode cX8_frauds 28 = .ok (.invokevirtual 85, 3) := by decide +kernel
theorem dX8_frauds_31 : decode cX8_frauds 31 = .ok (.ifCond .eq 9, 3) := by decide +kernel
theorem dX8_frauds_34 : decode cX8_frauds 34 = .ok (.aload_n 0, 1) := by decide +kernel
theorem dX8_frauds_35 : decode cX8_frauds 35 = .ok (.iconst 1, 1) := by decide +kernel
theorem dX8_frauds_36 : decode cX8_frauds 36 = .ok (.invokevirtual 74, 3) := by decide +kernel
theorem dX8_frauds_39 : decode cX8_frauds 39 = .ok (.ireturn, 1) := by decide +kernel
theorem dX8_frauds_40 : decode cX8_frauds 40 = .ok (.aload_n 0, 1) := by decide +kernel
theorem dX8_frauds_41 : decode cX8_frauds 41 = .ok (.getfield 10, 3) := by decide +kernel
theorem dX8_frauds_44 : decode cX8_frauds 44 = .ok (.iload_n 1, 1) := by decide +kernel
theorem dX8_frauds_45 : decode cX8_frauds 45 = .ok (.iload_n 2, 1) := by decide +kernel
theorem dX8_frauds_46 : decode cX8_frauds 46 = .ok (.aload_n 0, 1) := by decide +kernel
theorem dX8_frauds_47 : decode cX8_frauds 47 = .ok (.getfield 33, 3) := by decide +kernel
theorem dX8_frauds_50 : decode cX8_frauds 50 = .ok (.getfield 140, 3) := by decide +kernel
theorem dX8_frauds_53 : decode cX8_frauds 53 = .ok (.getfield 143, 3) := by decide +kernel
theorem dX8_frauds_56 : decode cX8_frauds 56 = .ok (.invokevirtual 88, 3) := by decide +kernel
theorem dX8_frauds_59 : decode cX8_frauds 59 = .ok (.ifCond .ne 9, 3) := by decide +kernel
theorem dX8_frauds_62 : decode cX8_frauds 62 = .ok (.aload_n 0, 1) := by decide +kernel
theorem dX8_frauds_63 : decode cX8_frauds 63 = .ok (.iconst 2, 1) := by decide +kernel
theorem dX8_frauds_64 : decode cX8_frauds 64 = .ok (.invokevirtual 74, 3) := by decide +kernel
theorem dX8_frauds_67 : decode cX8_frauds 67 = .ok (.ireturn, 1) := by decide +kernel
theorem dX8_frauds_68 : decode cX8_frauds 68 = .ok (.aload_n 0, 1) := by decide +kernel
theorem dX8_frauds_69 : decode cX8_frauds 69 = .ok (.getfield 10, 3) := by decide +kernel
theorem dX8_frauds_72 : decode cX8_frauds 72 = .ok (.iload_n 1, 1) := by decide +kernel
theorem dX8_frauds_73 : decode cX8_frauds 73 = .ok (.iload_n 2, 1) := by decide +kernel
theorem dX8_frauds_74 : decode cX8_frauds 74 = .ok (.aload_n 0, 1) := by decide +kernel
theorem dX8_frauds_75 : decode cX8_frauds 75 = .ok (.getfield 33, 3) := by decide +kernel
theorem dX8_frauds_78 : decode cX8_frauds 78 = .ok (.getfield 140, 3) := by decide +kernel
theorem dX8_frauds_81 : decode cX8_frauds 81 = .ok (.getfield 143, 3) := by decide +kernel
theorem dX8_frauds_84 : decode cX8_frauds 84 = .ok (.invokevirtual 242, 3) := by decide +kernel
theorem dX8_frauds_87 : decode cX8_frauds 87 = .ok (.ifCond .eq 6, 3) := by decide +kernel
theorem dX8_frauds_90 : decode cX8_frauds 90 = .ok (.ldc 73, 2) := by decide +kernel
theorem dX8_frauds_92 : decode cX8_frauds 92 = .ok (.ireturn, 1) := by decide +kernel
theorem dX8_frauds_93 : decode cX8_frauds 93 = .ok (.aload_n 0, 1) := by decide +kernel
theorem dX8_frauds_94 : decode cX8_frauds 94 = .ok (.aload_n 0, 1) := by decide +kernel
theorem dX8_frauds_95 : decode cX8_frauds 95 = .ok (.aload_n 0, 1) := by decide +kernel
theorem dX8_frauds_96 : decode cX8_frauds 96 = .ok (.getfield 10, 3) := by decide +kernel
theorem dX8_frauds_99 : decode cX8_frauds 99 = .ok (.getfield 100, 3) := by decide +kernel
theorem dX8_frauds_102 : decode cX8_frauds 102 = .ok (.iload_n 1, 1) := by decide +kernel
theorem dX8_frauds_103 : decode cX8_frauds 103 = .ok (.aaload, 1) := by decide +kernel
theorem dX8_frauds_104 : decode cX8_frauds 104 = .ok (.iload_n 2, 1) := by decide +kernel
theorem dX8_frauds_105 : decode cX8_frauds 105 = .ok (.invokevirtual 245, 3) := by decide +kernel
theorem dX8_frauds_108 : decode cX8_frauds 108 = .ok (.invokevirtual 82, 3) := by decide +kernel
theorem dX8_frauds_111 : decode cX8_frauds 111 = .ok (.ireturn, 1) := by decide +kernel
set_option maxRecDepth 20000 in
theorem ggX8_image_X1_takeFrom : GoodIn wsX8_image wsX1_takeFrom := goodIn_r _ [10, 11, 12, 13, 14, 15, 16, 17, 18, 19, 20, 21, 22, 23, 24, 25, 26, 27, 28, 29, 30, 31, 32, 33, 34, 35, 36, 37, 49, 50, 51, 52, 53, 54, 55, 56, 57, 58, 59, 60] (by decide +kernel) (by decide +kernel)
set_option maxRecDepth 20000 in
theorem gX8_image_X1_takeFrom : GoodIn wsX8_image (wsV RX8 249 RX1 yX1_takeFrom wsX1_takeFrom) := goodIn_app (goodIn_of _ (by decide +kernel)) ggX8_image_X1_takeFrom
theorem dX8_image_0 : decode cX8_image 0 = .ok (.iload_n 1, 1) := by decide +kernel
theorem dX8_image_1 : decode cX8_image 1 = .ok (.ifCond .lt 8, 3) := by decide +kernel
theorem dX8_image_4 : decode cX8_image 4 = .ok (.iload_n 1, 1) := by decide +kernel
theorem dX8_image_5 : decode cX8_image 5 = .ok (.iconst 2, 1) := by decide +kernel
theorem dX8_image_6 : decode cX8_image 6 = .ok (.if_icmp .lt 6, 3) := by decide +kernel
theorem dX8_image_9 : decode cX8_image 9 = .ok (.ldc 73, 2) := by decide +kernel
theorem dX8_image_11 : decode cX8_image 11 = .ok (.ireturn, 1) := by decide +kernel
theorem dX8_image_12 : decode cX8_image 12 = .ok (.aload_n 0, 1) := by decide +kernel
theorem dX8_image_13 : decode cX8_image 13 = .ok (.getfield 33, 3) := by decide +kernel
theorem dX8_image_16 : decode cX8_image 16 = .ok (.getfield 146, 3) := by decide +kernel
theorem dX8_image_19 : decode cX8_image 19 = .ok (.ifCond .ne 6, 3) := by decide +kernel
theorem dX8_image_22 : decode cX8_image 22 = .ok (.ldc 150, 2) := by decide +kernel
theorem dX8_image_24 : decode cX8_image 24 = .ok (.ireturn, 1) := by decide +kernel
theorem dX8_image_25 : decode cX8_image 25 = .ok (.aload_n 0, 1) := by decide +kernel
theorem dX8_image_26 : decode cX8_image 26 = .ok (.getfield 37, 3) := by decide +kernel
theorem dX8_image_29 : decode cX8_image 29 = .ok (.iload_n 1, 1) := by decide +kernel
theorem dX8_image_30 : decode cX8_image 30 = .ok (.aaload, 1) := by decide +kernel
theorem dX8_image_31 : decode cX8_image 31 = .ok (.aload_n 0, 1) := by decide +kernel
theorem dX8_image_32 : decode cX8_image 32 = .ok (.getfield 33, 3) := by decide +kernel
theorem dX8_image_35 : decode cX8_image 35 = .ok (.invokevirtual 249, 3) := by decide +kernel
theorem dX8_image_38 : decode cX8_image 38 = .ok (.iconst 1, 1) := by decide +kernel
theorem dX8_image_39 : decode cX8_image 39 = .ok (.ireturn, 1) := by decide +kernel
set_option maxRecDepth 20000 in
theorem ggX8_restore_X1_takeFrom : GoodIn wsX8_restore wsX1_takeFrom := goodIn_r _ [11, 12, 13, 14, 15, 16, 17, 18, 19, 20, 21, 22, 23, 24, 25, 26, 27, 28, 29, 30, 31, 32, 33, 34, 35, 36, 37, 38, 56, 57, 58, 59, 60, 61, 62, 63, 64, 65, 66, 67] (by decide +kernel) (by decide +kernel)
set_option maxRecDepth 20000 in
theorem gX8_restore_X1_takeFrom : GoodIn wsX8_restore (wsV RX8 249 RX1 yX1_takeFrom wsX1_takeFrom) := goodIn_app (goodIn_of _ (by decide +kernel)) ggX8_restore_X1_takeFrom
set_option maxRecDepth 20000 in
theorem ggX8_restore_X5_forget : GoodIn wsX8_restore wsX5_forget := goodIn_r _ [43, 44, 68, 69, 70] (by decide +kernel) (by decide +kernel)
set_option maxRecDepth 20000 in
theorem gX8_restore_X5_forget : GoodIn wsX8_restore (wsV RX8 137 RX5 yX5_forget wsX5_forget) := goodIn_app (goodIn_of _ (by decide +kernel)) ggX8_restore_X5_forget
theorem dX8_restore_0 : decode cX8_restore 0 = .ok (.iload_n 1, 1) := by decide +kernel
theorem dX8_restore_1 : decode cX8_restore 1 = .ok (.ifCond .lt 8, 3) := by decide +kernel
theorem dX8_restore_4 : decode cX8_restore 4 = .ok (.iload_n 1, 1) := by decide +kernel
theorem dX8_restore_5 : decode cX8_restore 5 = .ok (.iconst 2, 1) := by decide +kernel
theorem dX8_restore_6 : decode cX8_restore 6 = .ok (.if_icmp .lt 6, 3) := by decide +kernel
theorem dX8_restore_9 : decode cX8_restore 9 = .ok (.ldc 73, 2) := by decide +kernel
theorem dX8_restore_11 : decode cX8_restore 11 = .ok (.ireturn, 1) := by decide +kernel
theorem dX8_restore_12 : decode cX8_restore 12 = .ok (.aload_n 0, 1) := by decide +kernel
theorem dX8_restore_13 : decode cX8_restore 13 = .ok (.getfield 37, 3) := by decide +kernel
theorem dX8_restore_16 : decode cX8_restore 16 = .ok (.iload_n 1, 1) := by decide +kernel
theorem dX8_restore_17 : decode cX8_restore 17 = .ok (.aaload, 1) := by decide +kernel
theorem dX8_restore_18 : decode cX8_restore 18 = .ok (.getfield 146, 3) := by decide +kernel
theorem dX8_restore_21 : decode cX8_restore 21 = .ok (.ifCond .ne 6, 3) := by decide +kernel
theorem dX8_restore_24 : decode cX8_restore 24 = .ok (.ldc 150, 2) := by decide +kernel
theorem dX8_restore_26 : decode cX8_restore 26 = .ok (.ireturn, 1) := by decide +kernel
theorem dX8_restore_27 : decode cX8_restore 27 = .ok (.aload_n 0, 1) := by decide +kernel
theorem dX8_restore_28 : decode cX8_restore 28 = .ok (.getfield 33, 3) := by decide +kernel
theorem dX8_restore_31 : decode cX8_restore 31 = .ok (.aload_n 0, 1) := by decide +kernel
theorem dX8_restore_32 : decode cX8_restore 32 = .ok (.getfield 37, 3) := by decide +kernel
theorem dX8_restore_35 : decode cX8_restore 35 = .ok (.iload_n 1, 1) := by decide +kernel
theorem dX8_restore_36 : decode cX8_restore 36 = .ok (.aaload, 1) := by decide +kernel
theorem dX8_restore_37 : decode cX8_restore 37 = .ok (.invokevirtual 249, 3) := by decide +kernel
theorem dX8_restore_40 : decode cX8_restore 40 = .ok (.aload_n 0, 1) := by decide +kernel
theorem dX8_restore_41 : decode cX8_restore 41 = .ok (.getfield 44, 3) := by decide +kernel
theorem dX8_restore_44 : decode cX8_restore 44 = .ok (.invokevirtual 137, 3) := by decide +kernel
theorem dX8_restore_47 : decode cX8_restore 47 = .ok (.iconst 1, 1) := by decide +kernel
theorem dX8_restore_48 : decode cX8_restore 48 = .ok (.ireturn, 1) := by decide +kernel
set_option maxRecDepth 20000 in
theorem ggX8_kind_X8_isWater : GoodIn wsX8_kind wsX8_isWater := goodIn_r _ [9, 1, 2, 10, 11, 12, 13, 14, 15, 16, 17, 18, 19, 20, 21, 22, 23, 24, 25, 26, 27, 28, 29] (by decide +kernel) (by decide +kernel)
set_option maxRecDepth 20000 in
theorem gX8_kind_X8_isWater : GoodIn wsX8_kind (wsV RX8 203 RX8 yX8_isWater wsX8_isWater) := goodIn_app (goodIn_of _ (by decide +kernel)) ggX8_kind_X8_isWater
theorem dX8_kind_0 : decode cX8_kind 0 = .ok (.aload_n 0, 1) := by decide +kernel
theorem dX8_kind_1 : decode cX8_kind 1 = .ok (.iload_n 1, 1) := by decide +kernel
theorem dX8_kind_2 : decode cX8_kind 2 = .ok (.invokevirtual 203, 3) := by decide +kernel
theorem dX8_kind_5 : decode cX8_kind 5 = .ok (.ifCond .eq 18, 3) := by decide +kernel
theorem dX8_kind_8 : decode cX8_kind 8 = .ok (.aload_n 0, 1) := by decide +kernel
theorem dX8_kind_9 : decode cX8_kind 9 = .ok (.getfield 33, 3) := by decide +kernel
theorem dX8_kind_12 : decode cX8_kind 12 = .ok (.getfield 140, 3) := by decide +kernel
theorem dX8_kind_15 : decode cX8_kind 15 = .ok (.getfield 252, 3) := by decide +kernel
theorem dX8_kind_18 : decode cX8_kind 18 = .ok (.iload_n 1, 1) := by decide +kernel
theorem dX8_kind_19 : decode cX8_kind 19 = .ok (.iaload, 1) := by decide +kernel
theorem dX8_kind_20 : decode cX8_kind 20 = .ok (.goto 5, 3) := by decide +kernel
theorem dX8_kind_23 : decode cX8_kind 23 = .ok (.ldc 73, 2) := by decide +kernel
theorem dX8_kind_25 : decode cX8_kind 25 = .ok (.ireturn, 1) := by decide +kernel
set_option maxRecDepth 20000 in
theorem ggX8_as_X8_isWater : GoodIn wsX8_as wsX8_isWater := goodIn_r _ [9, 2, 3, 10, 26, 27, 28, 29, 30, 31, 32, 33, 34, 35, 36, 37, 38, 39, 40, 41, 42, 43, 44] (by decide +kernel) (by decide +kernel)
set_option maxRecDepth 20000 in
theorem gX8_as_X8_isWater : GoodIn wsX8_as (wsV RX8 203 RX8 yX8_isWater wsX8_isWater) := goodIn_app (goodIn_of _ (by decide +kernel)) ggX8_as_X8_isWater
set_option maxRecDepth 20000 in
theorem ggX8_as_X2_isOne : GoodIn wsX8_as wsX2_isOne := goodIn_r _ [14, 15] (by decide +kernel) (by decide +kernel)
set_option maxRecDepth 20000 in
theorem gX8_as_X2_isOne : GoodIn wsX8_as (va_wsS RX8 255 yX2_isOne wsX2_isOne) := goodIn_app (goodIn_of _ (by decide +kernel)) ggX8_as_X2_isOne
set_option maxRecDepth 20000 in
theorem ggX8_as_X8_fine : GoodIn wsX8_as wsX8_fine := goodIn_r _ [19, 20, 26, 27, 28, 29, 30, 31, 32, 33, 34, 35, 36] (by decide +kernel) (by decide +kernel)
set_option maxRecDepth 20000 in
theorem gX8_as_X8_fine : GoodIn wsX8_as (wsV RX8 82 RX8 yX8_fine wsX8_fine) := goodIn_app (goodIn_of _ (by decide +kernel)) ggX8_as_X8_fine
set_option maxRecDepth 20000 in
theorem ggX8_as_X8_found : GoodIn wsX8_as wsX8_found := goodIn_r _ [24, 20, 25, 26, 27, 28, 29, 30, 31, 32, 33, 34, 35, 36] (by decide +kernel) (by decide +kernel)
set_option maxRecDepth 20000 in
theorem gX8_as_X8_found : GoodIn wsX8_as (wsV RX8 74 RX8 yX8_found wsX8_found) := goodIn_app (goodIn_of _ (by decide +kernel)) ggX8_as_X8_found
theorem dX8_as_0 : decode cX8_as 0 = .ok (.aload_n 0, 1) := by decide +kernel
theorem dX8_as_1 : decode cX8_as 1 = .ok (.iload_n 1, 1) := by decide +kernel
theorem dX8_as_2 : decode cX8_as 2 = .ok (.invokevirtual 203, 3) := by decide +kernel
theorem dX8_as_5 : decode cX8_as 5 = .ok (.ifCond .eq 13, 3) := by decide +kernel
theorem dX8_as_8 : decode cX8_as 8 = .ok (.iload_n 2, 1) := by decide +kernel
theorem dX8_as_9 : decode cX8_as 9 = .ok (.ifCond .lt 9, 3) := by decide +kernel
theorem dX8_as_12 : decode cX8_as 12 = .ok (.iload_n 2, 1) := by decide +kernel
theorem dX8_as_13 : decode cX8_as 13 = .ok (.bipush 6, 2) := by decide +kernel
theorem dX8_as_15 : decode cX8_as 15 = .ok (.if_icmp .lt 6, 3) := by decide +kernel
theorem dX8_as_18 : decode cX8_as 18 = .ok (.ldc 73, 2) := by decide +kernel
theorem dX8_as_20 : decode cX8_as 20 = .ok (.ireturn, 1) := by decide +kernel
theorem dX8_as_21 : decode cX8_as 21 = .ok (.aload_n 0, 1) := by decide +kernel
theorem dX8_as_22 : decode cX8_as 22 = .ok (.getfield 33, 3) := by decide +kernel
theorem dX8_as_25 : decode cX8_as 25 = .ok (.getfield 140, 3) := by decide +kernel
theorem dX8_as_28 : decode cX8_as 28 = .ok (.getfield 252, 3) := by decide +kernel
theorem dX8_as_31 : decode cX8_as 31 = .ok (.iload_n 1, 1) := by decide +kernel
theorem dX8_as_32 : decode cX8_as 32 = .ok (.iaload, 1) := by decide +kernel
theorem dX8_as_33 : decode cX8_as 33 = .ok (.iload_n 2, 1) := by decide +kernel
theorem dX8_as_34 : decode cX8_as 34 = .ok (.invokestatic 255, 3) := by decide +kernel
theorem dX8_as_37 : decode cX8_as 37 = .ok (.ifCond .eq 11, 3) := by decide +kernel
theorem dX8_as_40 : decode cX8_as 40 = .ok (.aload_n 0, 1) := by decide +kernel
theorem dX8_as_41 : decode cX8_as 41 = .ok (.iload_n 1, 1) := by decide +kernel
theorem dX8_as_42 : decode cX8_as 42 = .ok (.invokevirtual 82, 3) := by decide +kernel
theorem dX8_as_45 : decode cX8_as 45 = .ok (.goto 8, 3) := by decide +kernel
theorem dX8_as_48 : decode cX8_as 48 = .ok (.aload_n 0, 1) := by decide +kernel
theorem dX8_as_49 : decode cX8_as 49 = .ok (.iconst 3, 1) := by decide +kernel
theorem dX8_as_50 : decode cX8_as 50 = .ok (.invokevirtual 74, 3) := by decide +kernel
theorem dX8_as_53 : decode cX8_as 53 = .ok (.ireturn, 1) := by decide +kernel
set_option maxRecDepth 20000 in
theorem ggX8_ask_X8_isWater : GoodIn wsX8_ask wsX8_isWater := goodIn_r _ [9, 4, 10, 11, 40, 41, 42, 43, 44, 45, 46, 47, 48, 49, 50, 53, 54, 55, 56, 57, 58, 59, 60] (by decide +kernel) (by decide +kernel)
set_option maxRecDepth 20000 in
theorem gX8_ask_X8_isWater : GoodIn wsX8_ask (wsV RX8 203 RX8 yX8_isWater wsX8_isWater) := goodIn_app (goodIn_of _ (by decide +kernel)) ggX8_ask_X8_isWater
set_option maxRecDepth 20000 in
theorem ggX8_ask_X0_size : GoodIn wsX8_ask wsX0_size := goodIn_r _ [16, 17, 18, 19, 20, 21, 22, 15, 23, 24, 25, 26, 27, 28, 29, 30, 31, 32, 33, 34, 35, 36, 13, 14, 37, 38, 53, 54, 55, 61, 62, 63, 64, 56, 57, 58, 59, 60, 51, 52] (by decide +kernel) (by decide +kernel)
set_option maxRecDepth 20000 in
theorem gX8_ask_X0_size : GoodIn wsX8_ask (wsV RX8 261 RX0 yX0_size wsX0_size) := goodIn_app (goodIn_of _ (by decide +kernel)) ggX8_ask_X0_size
set_option maxRecDepth 20000 in
theorem ggX8_ask_X0_mark : GoodIn wsX8_ask wsX0_mark := goodIn_r _ [37, 38, 18, 19, 20, 21, 22, 15, 23, 24, 25, 26, 27, 28, 29, 30, 31, 32, 33, 34, 35, 36, 13, 14, 16, 17, 53, 54, 55, 61, 62, 63, 64, 56, 57, 58, 59, 60, 51, 52] (by decide +kernel) (by decide +kernel)
set_option maxRecDepth 20000 in
theorem gX8_ask_X0_mark : GoodIn wsX8_ask (wsV RX8 265 RX0 yX0_mark wsX0_mark) := goodIn_app (goodIn_of _ (by decide +kernel)) ggX8_ask_X0_mark
theorem dX8_ask_0 : decode cX8_ask 0 = .ok (.aload_n 0, 1) := by decide +kernel
theorem dX8_ask_1 : decode cX8_ask 1 = .ok (.iload_n 1, 1) := by decide +kernel
theorem dX8_ask_2 : decode cX8_ask 2 = .ok (.invokevirtual 203, 3) := by decide +kernel
theorem dX8_ask_5 : decode cX8_ask 5 = .ok (.ifCond .eq 12, 3) := by decide +kernel
theorem dX8_ask_8 : decode cX8_ask 8 = .ok (.iload_n 2, 1) := by decide +kernel
theorem dX8_ask_9 : decode cX8_ask 9 = .ok (.ifCond .lt 8, 3) := by decide +kernel
theorem dX8_ask_12 : decode cX8_ask 12 = .ok (.iload_n 2, 1) := by decide +kernel
theorem dX8_ask_13 : decode cX8_ask 13 = .ok (.iconst 1, 1) := by decide +kernel
theorem dX8_ask_14 : decode cX8_ask 14 = .ok (.if_icmp .le 6, 3) := by decide +kernel
theorem dX8_ask_17 : decode cX8_ask 17 = .ok (.ldc 73, 2) := by decide +kernel
theorem dX8_ask_19 : decode cX8_ask 19 = .ok (.ireturn, 1) := by decide +kernel
theorem dX8_ask_20 : decode cX8_ask 20 = .ok (.aload_n 0, 1) := by decide +kernel
theorem dX8_ask_21 : decode cX8_ask 21 = .ok (.getfield 65, 3) := by decide +kernel
theorem dX8_ask_24 : decode cX8_ask 24 = .ok (.iconst 0, 1) := by decide +kernel
theorem dX8_ask_25 : decode cX8_ask 25 = .ok (.putfield 258, 3) := by decide +kernel
theorem dX8_ask_28 : decode cX8_ask 28 = .ok (.iload_n 2, 1) := by decide +kernel
theorem dX8_ask_29 : decode cX8_ask 29 = .ok (.ifCond .ne 19, 3) := by decide +kernel
theorem dX8_ask_32 : decode cX8_ask 32 = .ok (.aload_n 0, 1) := by decide +kernel
theorem dX8_ask_33 : decode cX8_ask 33 = .ok (.getfield 65, 3) := by decide +kernel
theorem dX8_ask_36 : decode cX8_ask 36 = .ok (.aload_n 0, 1) := by decide +kernel
theorem dX8_ask_37 : decode cX8_ask 37 = .ok (.getfield 33, 3) := by decide +kernel
theorem dX8_ask_40 : decode cX8_ask 40 = .ok (.iload_n 1, 1) := by decide +kernel
theorem dX8_ask_41 : decode cX8_ask 41 = .ok (.iconst 0, 1) := by decide +kernel
theorem dX8_ask_42 : decode cX8_ask 42 = .ok (.invokevirtual 261, 3) := by decide +kernel
theorem dX8_ask_45 : decode cX8_ask 45 = .ok (.goto 16, 3) := by decide +kernel
theorem dX8_ask_48 : decode cX8_ask 48 = .ok (.aload_n 0, 1) := by decide +kernel
theorem dX8_ask_49 : decode cX8_ask 49 = .ok (.getfield 65, 3) := by decide +kernel
theorem dX8_ask_52 : decode cX8_ask 52 = .ok (.aload_n 0, 1) := by decide +kernel
theorem dX8_ask_53 : decode cX8_ask 53 = .ok (.getfield 33, 3) := by decide +kernel
theorem dX8_ask_56 : decode cX8_ask 56 = .ok (.iload_n 1, 1) := by decide +kernel
theorem dX8_ask_57 : decode cX8_ask 57 = .ok (.iconst 0, 1) := by decide +kernel
theorem dX8_ask_58 : decode cX8_ask 58 = .ok (.invokevirtual 265, 3) := by decide +kernel
theorem dX8_ask_61 : decode cX8_ask 61 = .ok (.ireturn, 1) := by decide +kernel
theorem dX8_trace_0 : decode cX8_trace 0 = .ok (.iload_n 1, 1) := by decide +kernel
theorem dX8_trace_1 : decode cX8_trace 1 = .ok (.ifCond .lt 26, 3) := by decide +kernel
theorem dX8_trace_4 : decode cX8_trace 4 = .ok (.iload_n 1, 1) := by decide +kernel
theorem dX8_trace_5 : decode cX8_trace 5 = .ok (.aload_n 0, 1) := by decide +kernel
theorem dX8_trace_6 : decode cX8_trace 6 = .ok (.getfield 65, 3) := by decide +kernel
theorem dX8_trace_9 : decode cX8_trace 9 = .ok (.getfield 258, 3) := by decide +kernel
theorem dX8_trace_12 : decode cX8_trace 12 = .ok (.if_icmp .ge 15, 3) := by decide +kernel
theorem dX8_trace_15 : decode cX8_trace 15 = .ok (.aload_n 0, 1) := by decide +kernel
theorem dX8_trace_16 : decode cX8_trace 16 = .ok (.getfield 65, 3) := by decide +kernel
theorem dX8_trace_19 : decode cX8_trace 19 = .ok (.getfield 268, 3) := by decide +kernel
theorem dX8_trace_22 : decode cX8_trace 22 = .ok (.iload_n 1, 1) := by decide +kernel
theorem dX8_trace_23 : decode cX8_trace 23 = .ok (.iaload, 1) := by decide +kernel
theorem dX8_trace_24 : decode cX8_trace 24 = .ok (.goto 5, 3) := by decide +kernel
theorem dX8_trace_27 : decode cX8_trace 27 = .ok (.ldc 229, 2) := by decide +kernel
theorem dX8_trace_29 : decode cX8_trace 29 = .ok (.ireturn, 1) := by decide +kernel
set_option maxRecDepth 20000 in
theorem ggX8_count_X6_present : GoodIn wsX8_count wsX6_present := goodIn_r _ [16, 17, 18, 19, 15, 20, 21, 66, 67, 68] (by decide +kernel) (by decide +kernel)
set_option maxRecDepth 20000 in
theorem gX8_count_X6_present : GoodIn wsX8_count (wsV RX8 271 RX6 yX6_present wsX6_present) := goodIn_app (goodIn_of _ (by decide +kernel)) ggX8_count_X6_present
set_option maxRecDepth 20000 in
theorem ggX8_count_X3_depthInAll : GoodIn wsX8_count wsX3_depthInAll := goodIn_r _ [26, 27, 52, 53, 54, 55] (by decide +kernel) (by decide +kernel)
set_option maxRecDepth 20000 in
theorem gX8_count_X3_depthInAll : GoodIn wsX8_count (wsV RX8 275 RX3 yX3_depthInAll wsX3_depthInAll) := goodIn_app (goodIn_of _ (by decide +kernel)) ggX8_count_X3_depthInAll
set_option maxRecDepth 20000 in
theorem ggX8_count_X3_debtsAboveNone : GoodIn wsX8_count wsX3_debtsAboveNone := goodIn_r _ [31, 32, 52, 53, 54, 55] (by decide +kernel) (by decide +kernel)
set_option maxRecDepth 20000 in
theorem gX8_count_X3_debtsAboveNone : GoodIn wsX8_count (wsV RX8 278 RX3 yX3_debtsAboveNone wsX3_debtsAboveNone) := goodIn_app (goodIn_of _ (by decide +kernel)) ggX8_count_X3_debtsAboveNone
theorem dX8_count_0 : decode cX8_count 0 = .ok (.iload_n 1, 1) := by decide +kernel
theorem dX8_count_1 : decode cX8_count 1 = .ok (.tableswitch 111 0 6 #[43, 51, 62, 73, 84, 92, 103], 43) := by decide +kernel
theorem dX8_count_44 : decode cX8_count 44 = .ok (.aload_n 0, 1) := by decide +kernel
theorem dX8_count_45 : decode cX8_count 45 = .ok (.getfield 10, 3) := by decide +kernel
theorem dX8_count_48 : decode cX8_count 48 = .ok (.invokevirtual 271, 3) := by decide +kernel
theorem dX8_count_51 : decode cX8_count 51 = .ok (.ireturn, 1) := by decide +kernel
theorem dX8_count_52 : decode cX8_count 52 = .ok (.aload_n 0, 1) := by decide +kernel
theorem dX8_count_53 : decode cX8_count 53 = .ok (.getfield 33, 3) := by decide +kernel
theorem dX8_count_56 : decode cX8_count 56 = .ok (.getfield 140, 3) := by decide +kernel
theorem dX8_count_59 : decode cX8_count 59 = .ok (.getfield 143, 3) := by decide +kernel
theorem dX8_count_62 : decode cX8_count 62 = .ok (.ireturn, 1) := by decide +kernel
theorem dX8_count_63 : decode cX8_count 63 = .ok (.aload_n 0, 1) := by decide +kernel
theorem dX8_count_64 : decode cX8_count 64 = .ok (.getfield 33, 3) := by decide +kernel
theorem dX8_count_67 : decode cX8_count 67 = .ok (.getfield 151, 3) := by decide +kernel
theorem dX8_count_70 : decode cX8_count 70 = .ok (.getfield 154, 3) := by decide +kernel
theorem dX8_count_73 : decode cX8_count 73 = .ok (.ireturn, 1) := by decide +kernel
theorem dX8_count_74 : decode cX8_count 74 = .ok (.aload_n 0, 1) := by decide +kernel
theorem dX8_count_75 : decode cX8_count 75 = .ok (.getfield 33, 3) := by decide +kernel
theorem dX8_count_78 : decode cX8_count 78 = .ok (.getfield 151, 3) := by decide +kernel
theorem dX8_count_81 : decode cX8_count 81 = .ok (.invokevirtual 275, 3) := by decide +kernel
theorem dX8_count_84 : decode cX8_count 84 = .ok (.ireturn, 1) := by decide +kernel
theorem dX8_count_85 : decode cX8_count 85 = .ok (.aload_n 0, 1) := by decide +kernel
theorem dX8_count_86 : decode cX8_count 86 = .ok (.getfield 44, 3) := by decide +kernel
theorem dX8_count_89 : decode cX8_count 89 = .ok (.getfield 197, 3) := by decide +kernel
theorem dX8_count_92 : decode cX8_count 92 = .ok (.ireturn, 1) := by decide +kernel
theorem dX8_count_93 : decode cX8_count 93 = .ok (.aload_n 0, 1) := by decide +kernel
theorem dX8_count_94 : decode cX8_count 94 = .ok (.getfield 33, 3) := by decide +kernel
theorem dX8_count_97 : decode cX8_count 97 = .ok (.getfield 151, 3) := by decide +kernel
theorem dX8_count_100 : decode cX8_count 100 = .ok (.invokevirtual 278, 3) := by decide +kernel
theorem dX8_count_103 : decode cX8_count 103 = .ok (.ireturn, 1) := by decide +kernel
theorem dX8_count_104 : decode cX8_count 104 = .ok (.aload_n 0, 1) := by decide +kernel
theorem dX8_count_105 : decode cX8_count 105 = .ok (.getfield 19, 3) := by decide +kernel
theorem dX8_count_108 : decode cX8_count 108 = .ok (.getfield 113, 3) := by decide +kernel
theorem dX8_count_111 : decode cX8_count 111 = .ok (.ireturn, 1) := by decide +kernel
theorem dX8_count_112 : decode cX8_count 112 = .ok (.ldc 73, 2) := by decide +kernel
theorem dX8_count_114 : decode cX8_count 114 = .ok (.ireturn, 1) := by decide +kernel
theorem dX8_status_0 : decode cX8_status 0 = .ok (.aload_n 0, 1) := by decide +kernel
theorem dX8_status_1 : decode cX8_status 1 = .ok (.getfield 281, 3) := by decide +kernel
theorem dX8_status_4 : decode cX8_status 4 = .ok (.ireturn, 1) := by decide +kernel
theorem dX8_isRow_0 : decode cX8_isRow 0 = .ok (.iload_n 0, 1) := by decide +kernel
theorem dX8_isRow_1 : decode cX8_isRow 1 = .ok (.ifCond .lt 13, 3) := by decide +kernel
theorem dX8_isRow_4 : decode cX8_isRow 4 = .ok (.iload_n 0, 1) := by decide +kernel
theorem dX8_isRow_5 : decode cX8_isRow 5 = .ok (.bipush 8, 2) := by decide +kernel
theorem dX8_isRow_7 : decode cX8_isRow 7 = .ok (.if_icmp .ge 7, 3) := by decide +kernel
theorem dX8_isRow_10 : decode cX8_isRow 10 = .ok (.iconst 1, 1) := by decide +kernel
theorem dX8_isRow_11 : decode cX8_isRow 11 = .ok (.goto 4, 3) := by decide +kernel
theorem dX8_isRow_14 : decode cX8_isRow 14 = .ok (.iconst 0, 1) := by decide +kernel
theorem dX8_isRow_15 : decode cX8_isRow 15 = .ok (.ireturn, 1) := by decide +kernel
theorem dX8_isWater_0 : decode cX8_isWater 0 = .ok (.iload_n 1, 1) := by decide +kernel
theorem dX8_isWater_1 : decode cX8_isWater 1 = .ok (.ifCond .lt 21, 3) := by decide +kernel
theorem dX8_isWater_4 : decode cX8_isWater 4 = .ok (.iload_n 1, 1) := by decide +kernel
theorem dX8_isWater_5 : decode cX8_isWater 5 = .ok (.aload_n 0, 1) := by decide +kernel
theorem dX8_isWater_6 : decode cX8_isWater 6 = .ok (.getfield 33, 3) := by decide +kernel
theorem dX8_isWater_9 : decode cX8_isWater 9 = .ok (.getfield 140, 3) := by decide +kernel
theorem dX8_isWater_12 : decode cX8_isWater 12 = .ok (.getfield 143, 3) := by decide +kernel
theorem dX8_isWater_15 : decode cX8_isWater 15 = .ok (.if_icmp .ge 7, 3) := by decide +kernel
theorem dX8_isWater_18 : decode cX8_isWater 18 = .ok (.iconst 1, 1) := by decide +kernel
theorem dX8_isWater_19 : decode cX8_isWater 19 = .ok (.goto 4, 3) := by decide +kernel
theorem dX8_isWater_22 : decode cX8_isWater 22 = .ok (.iconst 0, 1) := by decide +kernel
theorem dX8_isWater_23 : decode cX8_isWater 23 = .ok (.ireturn, 1) := by decide +kernel
set_option maxRecDepth 20000 in
theorem ggX8_areTwoWaters_X8_isWater : GoodIn wsX8_areTwoWaters wsX8_isWater := goodIn_r _ [5, 6, 7, 8, 9, 10, 11, 12, 13, 14, 15, 16, 17, 18, 19, 20, 21, 22, 23, 24, 25, 26, 27] (by decide +kernel) (by decide +kernel)
set_option maxRecDepth 20000 in
theorem gX8_areTwoWaters_X8_isWater : GoodIn wsX8_areTwoWaters (wsV RX8 203 RX8 yX8_isWater wsX8_isWater) := goodIn_app (goodIn_of _ (by decide +kernel)) ggX8_areTwoWaters_X8_isWater
theorem dX8_areTwoWaters_0 : decode cX8_areTwoWaters 0 = .ok (.aload_n 0, 1) := by decide +kernel
theorem dX8_areTwoWaters_1 : decode cX8_areTwoWaters 1 = .ok (.iload_n 1, 1) := by decide +kernel
theorem dX8_areTwoWaters_2 : decode cX8_areTwoWaters 2 = .ok (.invokevirtual 203, 3) := by decide +kernel
theorem dX8_areTwoWaters_5 : decode cX8_areTwoWaters 5 = .ok (.ifCond .eq 20, 3) := by decide +kernel
theorem dX8_areTwoWaters_8 : decode cX8_areTwoWaters 8 = .ok (.aload_n 0, 1) := by decide +kernel
theorem dX8_areTwoWaters_9 : decode cX8_areTwoWaters 9 = .ok (.iload_n 2, 1) := by decide +kernel
theorem dX8_areTwoWaters_10 : decode cX8_areTwoWaters 10 = .ok (.invokevirtual 203, 3) := by decide +kernel
theorem dX8_areTwoWaters_13 : decode cX8_areTwoWaters 13 = .ok (.ifCond .eq 12, 3) := by decide +kernel
theorem dX8_areTwoWaters_16 : decode cX8_areTwoWaters 16 = .ok (.iload_n 1, 1) := by decide +kernel
theorem dX8_areTwoWaters_17 : decode cX8_areTwoWaters 17 = .ok (.iload_n 2, 1) := by decide +kernel
theorem dX8_areTwoWaters_18 : decode cX8_areTwoWaters 18 = .ok (.if_icmp .eq 7, 3) := by decide +kernel
theorem dX8_areTwoWaters_21 : decode cX8_areTwoWaters 21 = .ok (.iconst 1, 1) := by decide +kernel
theorem dX8_areTwoWaters_22 : decode cX8_areTwoWaters 22 = .ok (.goto 4, 3) := by decide +kernel
theorem dX8_areTwoWaters_25 : decode cX8_areTwoWaters 25 = .ok (.iconst 0, 1) := by decide +kernel
theorem dX8_areTwoWaters_26 : decode cX8_areTwoWaters 26 = .ok (.ireturn, 1) := by decide +kernel
theorem dX8_found_0 : decode cX8_found 0 = .ok (.aload_n 0, 1) := by decide +kernel
theorem dX8_found_1 : decode cX8_found 1 = .ok (.iload_n 1, 1) := by decide +kernel
theorem dX8_found_2 : decode cX8_found 2 = .ok (.putfield 281, 3) := by decide +kernel
theorem dX8_found_5 : decode cX8_found 5 = .ok (.ldc_w 284, 3) := by decide +kernel
theorem dX8_found_8 : decode cX8_found 8 = .ok (.iload_n 1, 1) := by decide +kernel
theorem dX8_found_9 : decode cX8_found 9 = .ok (.isub, 1) := by decide +kernel
theorem dX8_found_10 : decode cX8_found 10 = .ok (.ireturn, 1) := by decide +kernel
theorem dX8_fine_0 : decode cX8_fine 0 = .ok (.aload_n 0, 1) := by decide +kernel
theorem dX8_fine_1 : decode cX8_fine 1 = .ok (.iconst 0, 1) := by decide +kernel
theorem dX8_fine_2 : decode cX8_fine 2 = .ok (.putfield 281, 3) := by decide +kernel
theorem dX8_fine_5 : decode cX8_fine 5 = .ok (.iload_n 1, 1) := by decide +kernel
theorem dX8_fine_6 : decode cX8_fine 6 = .ok (.ireturn, 1) := by decide +kernel
set_option maxRecDepth 20000 in
theorem ggX8_firstDeepHour_X3_takeFrom : GoodIn wsX8_firstDeepHour wsX3_takeFrom := goodIn_r _ [11, 12, 13, 14, 15, 16, 17, 18, 19, 77, 78, 79, 80] (by decide +kernel) (by decide +kernel)
set_option maxRecDepth 20000 in
theorem gX8_firstDeepHour_X3_takeFrom : GoodIn wsX8_firstDeepHour (wsV RX8 215 RX3 yX3_takeFrom wsX3_takeFrom) := goodIn_app (goodIn_of _ (by decide +kernel)) ggX8_firstDeepHour_X3_takeFrom
set_option maxRecDepth 20000 in
theorem ggX8_firstDeepHour_X3_passHours : GoodIn wsX8_firstDeepHour wsX3_passHours := goodIn_r _ [23, 24, 25, 26, 10, 27, 19, 28, 29, 30, 31, 32, 33, 34, 35, 36, 37, 38, 39, 40, 41, 42, 43, 44, 45, 46, 47, 48, 49, 50, 51, 52, 53, 17, 54, 55, 56, 57, 12, 58, 59, 60, 61, 18, 77, 78, 79, 80, 81, 82, 83, 84, 85] (by decide +kernel) (by decide +kernel)
set_option maxRecDepth 20000 in
theorem gX8_firstDeepHour_X3_passHours : GoodIn wsX8_firstDeepHour (wsV RX8 218 RX3 yX3_passHours wsX3_passHours) := goodIn_app (goodIn_of _ (by decide +kernel)) ggX8_firstDeepHour_X3_passHours
set_option maxRecDepth 20000 in
theorem ggX8_firstDeepHour_X3_passHour : GoodIn wsX8_firstDeepHour wsX3_passHour := goodIn_r _ [27, 19, 28, 29, 30, 31, 32, 33, 34, 35, 36, 37, 38, 39, 40, 41, 42, 43, 44, 45, 46, 47, 48, 49, 50, 51, 52, 10, 53, 17, 54, 55, 56, 57, 12, 58, 59, 60, 61, 18, 77, 78, 79, 80, 81, 82, 83, 84, 85] (by decide +kernel) (by decide +kernel)
set_option maxRecDepth 20000 in
theorem gX8_firstDeepHour_X3_passHour : GoodIn wsX8_firstDeepHour (wsV RX8 161 RX3 yX3_passHour wsX3_passHour) := goodIn_app (goodIn_of _ (by decide +kernel)) ggX8_firstDeepHour_X3_passHour
theorem dX8_firstDeepHour_0 : decode cX8_firstDeepHour 0 = .ok (.aload_n 0, 1) := by decide +kernel
theorem dX8_firstDeepHour_1 : decode cX8_firstDeepHour 1 = .ok (.getfield 51, 3) := by decide +kernel
theorem dX8_firstDeepHour_4 : decode cX8_firstDeepHour 4 = .ok (.aload_n 0, 1) := by decide +kernel
theorem dX8_firstDeepHour_5 : decode cX8_firstDeepHour 5 = .ok (.getfield 33, 3) := by decide +kernel
theorem dX8_firstDeepHour_8 : decode cX8_firstDeepHour 8 = .ok (.getfield 151, 3) := by decide +kernel
theorem dX8_firstDeepHour_11 : decode cX8_firstDeepHour 11 = .ok (.invokevirtual 215, 3) := by decide +kernel
theorem dX8_firstDeepHour_14 : decode cX8_firstDeepHour 14 = .ok (.aload_n 0, 1) := by decide +kernel
theorem dX8_firstDeepHour_15 : decode cX8_firstDeepHour 15 = .ok (.getfield 51, 3) := by decide +kernel
theorem dX8_firstDeepHour_18 : decode cX8_firstDeepHour 18 = .ok (.aload_n 0, 1) := by decide +kernel
theorem dX8_firstDeepHour_19 : decode cX8_firstDeepHour 19 = .ok (.getfield 33, 3) := by decide +kernel
theorem dX8_firstDeepHour_22 : decode cX8_firstDeepHour 22 = .ok (.getfield 140, 3) := by decide +kernel
theorem dX8_firstDeepHour_25 : decode cX8_firstDeepHour 25 = .ok (.iload_n 3, 1) := by decide +kernel
theorem dX8_firstDeepHour_26 : decode cX8_firstDeepHour 26 = .ok (.invokevirtual 218, 3) := by decide +kernel
theorem dX8_firstDeepHour_29 : decode cX8_firstDeepHour 29 = .ok (.iload_n 3, 1) := by decide +kernel
theorem dX8_firstDeepHour_30 : decode cX8_firstDeepHour 30 = .ok (.istore 5, 2) := by decide +kernel
theorem dX8_firstDeepHour_32 : decode cX8_firstDeepHour 32 = .ok (.iload 5, 2) := by decide +kernel
theorem dX8_firstDeepHour_34 : decode cX8_firstDeepHour 34 = .ok (.iload 4, 2) := by decide +kernel
theorem dX8_firstDeepHour_36 : decode cX8_firstDeepHour 36 = .ok (.if_icmp .gt 40, 3) := by decide +kernel
theorem dX8_firstDeepHour_39 : decode cX8_firstDeepHour 39 = .ok (.aload_n 0, 1) := by decide +kernel
theorem dX8_firstDeepHour_40 : decode cX8_firstDeepHour 40 = .ok (.getfield 51, 3) := by decide +kernel
theorem dX8_firstDeepHour_43 : decode cX8_firstDeepHour 43 = .ok (.getfield 168, 3) := by decide +kernel
theorem dX8_firstDeepHour_46 : decode cX8_firstDeepHour 46 = .ok (.iload_n 1, 1) := by decide +kernel
theorem dX8_firstDeepHour_47 : decode cX8_firstDeepHour 47 = .ok (.iaload, 1) := by decide +kernel
theorem dX8_firstDeepHour_48 : decode cX8_firstDeepHour 48 = .ok (.iload_n 2, 1) := by decide +kernel
theorem dX8_firstDeepHour_49 : decode cX8_firstDeepHour 49 = .ok (.if_icmp .lt 6, 3) := by decide +kernel
theorem dX8_firstDeepHour_52 : decode cX8_firstDeepHour 52 = .ok (.iload 5, 2) := by decide +kernel
theorem dX8_firstDeepHour_54 : decode cX8_firstDeepHour 54 = .ok (.ireturn, 1) := by decide +kernel
theorem dX8_firstDeepHour_55 : decode cX8_firstDeepHour 55 = .ok (.aload_n 0, 1) := by decide +kernel
theorem dX8_firstDeepHour_56 : decode cX8_firstDeepHour 56 = .ok (.getfield 51, 3) := by decide +kernel
theorem dX8_firstDeepHour_59 : decode cX8_firstDeepHour 59 = .ok (.aload_n 0, 1) := by decide +kernel
theorem dX8_firstDeepHour_60 : decode cX8_firstDeepHour 60 = .ok (.getfield 33, 3) := by decide +kernel
theorem dX8_firstDeepHour_63 : decode cX8_firstDeepHour 63 = .ok (.getfield 140, 3) := by decide +kernel
theorem dX8_firstDeepHour_66 : decode cX8_firstDeepHour 66 = .ok (.invokevirtual 161, 3) := by decide +kernel
theorem dX8_firstDeepHour_69 : decode cX8_firstDeepHour 69 = .ok (.pop, 1) := by decide +kernel
theorem dX8_firstDeepHour_70 : decode cX8_firstDeepHour 70 = .ok (.iinc 5 1, 3) := by decide +kernel
theorem dX8_firstDeepHour_73 : decode cX8_firstDeepHour 73 = .ok (.goto (-41), 3) := by decide +kernel
theorem dX8_firstDeepHour_76 : decode cX8_firstDeepHour 76 = .ok (.ldc 229, 2) := by decide +kernel
theorem dX8_firstDeepHour_78 : decode cX8_firstDeepHour 78 = .ok (.ireturn, 1) := by decide +kernel
set_option maxRecDepth 20000 in
theorem ggX8_depthByLoan_X3_takeFrom : GoodIn wsX8_depthByLoan wsX3_takeFrom := goodIn_r _ [10, 11, 12, 13, 14, 15, 16, 17, 18, 75, 76, 77, 78] (by decide +kernel) (by decide +kernel)
set_option maxRecDepth 20000 in
theorem gX8_depthByLoan_X3_takeFrom : GoodIn wsX8_depthByLoan (wsV RX8 215 RX3 yX3_takeFrom wsX3_takeFrom) := goodIn_app (goodIn_of _ (by decide +kernel)) ggX8_depthByLoan_X3_takeFrom
set_option maxRecDepth 20000 in
theorem ggX8_depthByLoan_X3_passHours : GoodIn wsX8_depthByLoan wsX3_passHours := goodIn_r _ [22, 23, 24, 25, 9, 26, 18, 27, 28, 29, 30, 31, 32, 33, 34, 35, 36, 37, 38, 39, 40, 41, 42, 43, 44, 45, 46, 47, 48, 49, 50, 51, 52, 16, 53, 54, 55, 56, 11, 57, 58, 59, 60, 17, 75, 76, 77, 78, 79, 80, 81, 82, 83] (by decide +kernel) (by decide +kernel)
set_option maxRecDepth 20000 in
theorem gX8_depthByLoan_X3_passHours : GoodIn wsX8_depthByLoan (wsV RX8 218 RX3 yX3_passHours wsX3_passHours) := goodIn_app (goodIn_of _ (by decide +kernel)) ggX8_depthByLoan_X3_passHours
theorem dX8_depthByLoan_0 : decode cX8_depthByLoan 0 = .ok (.aload_n 0, 1) := by decide +kernel
theorem dX8_depthByLoan_1 : decode cX8_depthByLoan 1 = .ok (.getfield 51, 3) := by decide +kernel
theorem dX8_depthByLoan_4 : decode cX8_depthByLoan 4 = .ok (.aload_n 0, 1) := by decide +kernel
theorem dX8_depthByLoan_5 : decode cX8_depthByLoan 5 = .ok (.getfield 33, 3) := by decide +kernel
theorem dX8_depthByLoan_8 : decode cX8_depthByLoan 8 = .ok (.getfield 151, 3) := by decide +kernel
theorem dX8_depthByLoan_11 : decode cX8_depthByLoan 11 = .ok (.invokevirtual 215, 3) := by decide +kernel
theorem dX8_depthByLoan_14 : decode cX8_depthByLoan 14 = .ok (.aload_n 0, 1) := by decide +kernel
theorem dX8_depthByLoan_15 : decode cX8_depthByLoan 15 = .ok (.getfield 51, 3) := by decide +kernel
theorem dX8_depthByLoan_18 : decode cX8_depthByLoan 18 = .ok (.getfield 168, 3) := by decide +kernel
theorem dX8_depthByLoan_21 : decode cX8_depthByLoan 21 = .ok (.iload_n 1, 1) := by decide +kernel
theorem dX8_depthByLoan_22 : decode cX8_depthByLoan 22 = .ok (.dup2, 1) := by decide +kernel
theorem dX8_depthByLoan_23 : decode cX8_depthByLoan 23 = .ok (.iaload, 1) := by decide +kernel
theorem dX8_depthByLoan_24 : decode cX8_depthByLoan 24 = .ok (.iload_n 2, 1) := by decide +kernel
theorem dX8_depthByLoan_25 : decode cX8_depthByLoan 25 = .ok (.iadd, 1) := by decide +kernel
theorem dX8_depthByLoan_26 : decode cX8_depthByLoan 26 = .ok (.iastore, 1) := by decide +kernel
theorem dX8_depthByLoan_27 : decode cX8_depthByLoan 27 = .ok (.aload_n 0, 1) := by decide +kernel
theorem dX8_depthByLoan_28 : decode cX8_depthByLoan 28 = .ok (.getfield 51, 3) := by decide +kernel
theorem dX8_depthByLoan_31 : decode cX8_depthByLoan 31 = .ok (.aload_n 0, 1) := by decide +kernel
theorem dX8_depthByLoan_32 : decode cX8_depthByLoan 32 = .ok (.getfield 33, 3) := by decide +kernel
theorem dX8_depthByLoan_35 : decode cX8_depthByLoan 35 = .ok (.getfield 140, 3) := by decide +kernel
theorem dX8_depthByLoan_38 : decode cX8_depthByLoan 38 = .ok (.iload_n 3, 1) := by decide +kernel
theorem dX8_depthByLoan_39 : decode cX8_depthByLoan 39 = .ok (.invokevirtual 218, 3) := by decide +kernel
theorem dX8_depthByLoan_42 : decode cX8_depthByLoan 42 = .ok (.aload_n 0, 1) := by decide +kernel
theorem dX8_depthByLoan_43 : decode cX8_depthByLoan 43 = .ok (.getfield 51, 3) := by decide +kernel
theorem dX8_depthByLoan_46 : decode cX8_depthByLoan 46 = .ok (.getfield 168, 3) := by decide +kernel
theorem dX8_depthByLoan_49 : decode cX8_depthByLoan 49 = .ok (.iload_n 1, 1) := by decide +kernel
theorem dX8_depthByLoan_50 : decode cX8_depthByLoan 50 = .ok (.iaload, 1) := by decide +kernel
theorem dX8_depthByLoan_51 : decode cX8_depthByLoan 51 = .ok (.ireturn, 1) := by decide +kernel
set_option maxRecDepth 20000 in
theorem ggX8_watersToldWrong_X3_takeFrom : GoodIn wsX8_watersToldWrong wsX3_takeFrom := goodIn_r _ [11, 12, 13, 14, 15, 16, 17, 18, 19, 77, 78, 79, 80] (by decide +kernel) (by decide +kernel)
set_option maxRecDepth 20000 in
theorem gX8_watersToldWrong_X3_takeFrom : GoodIn wsX8_watersToldWrong (wsV RX8 215 RX3 yX3_takeFrom wsX3_takeFrom) := goodIn_app (goodIn_of _ (by decide +kernel)) ggX8_watersToldWrong_X3_takeFrom
set_option maxRecDepth 20000 in
theorem ggX8_watersToldWrong_X3_passHour : GoodIn wsX8_watersToldWrong wsX3_passHour := goodIn_r _ [23, 19, 24, 25, 26, 27, 28, 29, 30, 31, 32, 33, 34, 35, 36, 37, 38, 39, 40, 41, 42, 43, 44, 45, 46, 47, 48, 10, 49, 17, 50, 51, 52, 53, 12, 54, 55, 56, 57, 18, 77, 78, 79, 80, 72, 73, 74, 75, 76] (by decide +kernel) (by decide +kernel)
set_option maxRecDepth 20000 in
theorem gX8_watersToldWrong_X3_passHour : GoodIn wsX8_watersToldWrong (wsV RX8 161 RX3 yX3_passHour wsX3_passHour) := goodIn_app (goodIn_of _ (by decide +kernel)) ggX8_watersToldWrong_X3_passHour
theorem dX8_watersToldWrong_0 : decode cX8_watersToldWrong 0 = .ok (.aload_n 0, 1) := by decide +kernel
theorem dX8_watersToldWrong_1 : decode cX8_watersToldWrong 1 = .ok (.getfield 51, 3) := by decide +kernel
theorem dX8_watersToldWrong_4 : decode cX8_watersToldWrong 4 = .ok (.aload_n 0, 1) := by decide +kernel
theorem dX8_watersToldWrong_5 : decode cX8_watersToldWrong 5 = .ok (.getfield 33, 3) := by decide +kernel
theorem dX8_watersToldWrong_8 : decode cX8_watersToldWrong 8 = .ok (.getfield 151, 3) := by decide +kernel
theorem dX8_watersToldWrong_11 : decode cX8_watersToldWrong 11 = .ok (.invokevirtual 215, 3) := by decide +kernel
theorem dX8_watersToldWrong_14 : decode cX8_watersToldWrong 14 = .ok (.aload_n 0, 1) := by decide +kernel
theorem dX8_watersToldWrong_15 : decode cX8_watersToldWrong 15 = .ok (.getfield 51, 3) := by decide +kernel
theorem dX8_watersToldWrong_18 : decode cX8_watersToldWrong 18 = .ok (.aload_n 0, 1) := by decide +kernel
theorem dX8_watersToldWrong_19 : decode cX8_watersToldWrong 19 = .ok (.getfield 33, 3) := by decide +kernel
theorem dX8_watersToldWrong_22 : decode cX8_watersToldWrong 22 = .ok (.getfield 140, 3) := by decide +kernel
theorem dX8_watersToldWrong_25 : decode cX8_watersToldWrong 25 = .ok (.invokevirtual 161, 3) := by decide +kernel
theorem dX8_watersToldWrong_28 : decode cX8_watersToldWrong 28 = .ok (.pop, 1) := by decide +kernel
theorem dX8_watersToldWrong_29 : decode cX8_watersToldWrong 29 = .ok (.iconst 0, 1) := by decide +kernel
theorem dX8_watersToldWrong_30 : decode cX8_watersToldWrong 30 = .ok (.istore_n 3, 1) := by decide +kernel
theorem dX8_watersToldWrong_31 : decode cX8_watersToldWrong 31 = .ok (.iconst 0, 1) := by decide +kernel
theorem dX8_watersToldWrong_32 : decode cX8_watersToldWrong 32 = .ok (.istore 4, 2) := by decide +kernel
theorem dX8_watersToldWrong_34 : decode cX8_watersToldWrong 34 = .ok (.iload 4, 2) := by decide +kernel
theorem dX8_watersToldWrong_36 : decode cX8_watersToldWrong 36 = .ok (.aload_n 0, 1) := by decide +kernel
theorem dX8_watersToldWrong_37 : decode cX8_watersToldWrong 37 = .ok (.getfield 33, 3) := by decide +kernel
theorem dX8_watersToldWrong_40 : decode cX8_watersToldWrong 40 = .ok (.getfield 140, 3) := by decide +kernel
theorem dX8_watersToldWrong_43 : decode cX8_watersToldWrong 43 = .ok (.getfield 143, 3) := by decide +kernel
theorem dX8_watersToldWrong_46 : decode cX8_watersToldWrong 46 = .ok (.if_icmp .ge 35, 3) := by decide +kernel
theorem dX8_watersToldWrong_49 : decode cX8_watersToldWrong 49 = .ok (.aload_n 1, 1) := by decide +kernel
theorem dX8_watersToldWrong_50 : decode cX8_watersToldWrong 50 = .ok (.iload_n 2, 1) := by decide +kernel
theorem dX8_watersToldWrong_51 : decode cX8_watersToldWrong 51 = .ok (.iload 4, 2) := by decide +kernel
theorem dX8_watersToldWrong_53 : decode cX8_watersToldWrong 53 = .ok (.iadd, 1) := by decide +kernel
theorem dX8_watersToldWrong_54 : decode cX8_watersToldWrong 54 = .ok (.iaload, 1) := by decide +kernel
theorem dX8_watersToldWrong_55 : decode cX8_watersToldWrong 55 = .ok (.aload_n 0, 1) := by decide +kernel
theorem dX8_watersToldWrong_56 : decode cX8_watersToldWrong 56 = .ok (.getfield 51, 3) := by decide +kernel
theorem dX8_watersToldWrong_59 : decode cX8_watersToldWrong 59 = .ok (.getfield 168, 3) := by decide +kernel
theorem dX8_watersToldWrong_62 : decode cX8_watersToldWrong 62 = .ok (.iload 4, 2) := by decide +kernel
theorem dX8_watersToldWrong_64 : decode cX8_watersToldWrong 64 = .ok (.iaload, 1) := by decide +kernel
theorem dX8_watersToldWrong_65 : decode cX8_watersToldWrong 65 = .ok (.if_icmp .eq 10, 3) := by decide +kernel
theorem dX8_watersToldWrong_68 : decode cX8_watersToldWrong 68 = .ok (.iload_n 3, 1) := by decide +kernel
theorem dX8_watersToldWrong_69 : decode cX8_watersToldWrong 69 = .ok (.iconst 1, 1) := by decide +kernel
theorem dX8_watersToldWrong_70 : decode cX8_watersToldWrong 70 = .ok (.iload 4, 2) := by decide +kernel
theorem dX8_watersToldWrong_72 : decode cX8_watersToldWrong 72 = .ok (.ishl, 1) := by decide +kernel
theorem dX8_watersToldWrong_73 : decode cX8_watersToldWrong 73 = .ok (.ior, 1) := by decide +kernel
theorem dX8_watersToldWrong_74 : decode cX8_watersToldWrong 74 = .ok (.istore_n 3, 1) := by decide +kernel
theorem dX8_watersToldWrong_75 : decode cX8_watersToldWrong 75 = .ok (.iinc 4 1, 3) := by decide +kernel
theorem dX8_watersToldWrong_78 : decode cX8_watersToldWrong 78 = .ok (.goto (-44), 3) := by decide +kernel
theorem dX8_watersToldWrong_81 : decode cX8_watersToldWrong 81 = .ok (.iload_n 3, 1) := by decide +kernel
theorem dX8_watersToldWrong_82 : decode cX8_watersToldWrong 82 = .ok (.ireturn, 1) := by decide +kernel
theorem dX9_init_0 : decode cX9_init 0 = .ok (.aload_n 0, 1) := by decide +kernel
theorem dX9_init_1 : decode cX9_init 1 = .ok (.invokespecial 1, 3) := by decide +kernel
theorem dX9_init_4 : decode cX9_init 4 = .ok (.aload_n 0, 1) := by decide +kernel
theorem dX9_init_5 : decode cX9_init 5 = .ok (.bipush 8, 2) := by decide +kernel
theorem dX9_init_7 : decode cX9_init 7 = .ok (.newarray .int, 2) := by decide +kernel
theorem dX9_init_9 : decode cX9_init 9 = .ok (.dup, 1) := by decide +kernel
theorem dX9_init_10 : decode cX9_init 10 = .ok (.iconst 0, 1) := by decide +kernel
theorem dX9_init_11 : decode cX9_init 11 = .ok (.iconst (-1), 1) := by decide +kernel
theorem dX9_init_12 : decode cX9_init 12 = .ok (.iastore, 1) := by decide +kernel
theorem dX9_init_13 : decode cX9_init 13 = .ok (.dup, 1) := by decide +kernel
theorem dX9_init_14 : decode cX9_init 14 = .ok (.iconst 1, 1) := by decide +kernel
theorem dX9_init_15 : decode cX9_init 15 = .ok (.iconst (-1), 1) := by decide +kernel
theorem dX9_init_16 : decode cX9_init 16 = .ok (.iastore, 1) := by decide +kernel
theorem dX9_init_17 : decode cX9_init 17 = .ok (.dup, 1) := by decide +kernel
theorem dX9_init_18 : decode cX9_init 18 = .ok (.iconst 2, 1) := by decide +kernel
theorem dX9_init_19 : decode cX9_init 19 = .ok (.iconst (-1), 1) := by decide +kernel
theorem dX9_init_20 : decode cX9_init 20 = .ok (.iastore, 1) := by decide +kernel
theorem dX9_init_21 : decode cX9_init 21 = .ok (.dup, 1) := by decide +kernel
theorem dX9_init_22 : decode cX9_init 22 = .ok (.iconst 3, 1) := by decide +kernel
theorem dX9_init_23 : decode cX9_init 23 = .ok (.iconst (-1), 1) := by decide +kernel
theorem dX9_init_24 : decode cX9_init 24 = .ok (.iastore, 1) := by decide +kernel
theorem dX9_init_25 : decode cX9_init 25 = .ok (.dup, 1) := by decide +kernel
theorem dX9_init_26 : decode cX9_init 26 = .ok (.iconst 4, 1) := by decide +kernel
theorem dX9_init_27 : decode cX9_init 27 = .ok (.iconst (-1), 1) := by decide +kernel
theorem dX9_init_28 : decode cX9_init 28 = .ok (.iastore, 1) := by decide +kernel
theorem dX9_init_29 : decode cX9_init 29 = .ok (.dup, 1) := by decide +kernel
theorem dX9_init_30 : decode cX9_init 30 = .ok (.iconst 5, 1) := by decide +kernel
theorem dX9_init_31 : decode cX9_init 31 = .ok (.iconst (-1), 1) := by decide +kernel
theorem dX9_init_32 : decode cX9_init 32 = .ok (.iastore, 1) := by decide +kernel
theorem dX9_init_33 : decode cX9_init 33 = .ok (.dup, 1) := by decide +kernel
theorem dX9_init_34 : decode cX9_init 34 = .ok (.bipush 6, 2) := by decide +kernel
theorem dX9_init_36 : decode cX9_init 36 = .ok (.iconst (-1), 1) := by decide +kernel
theorem dX9_init_37 : decode cX9_init 37 = .ok (.iastore, 1) := by decide +kernel
theorem dX9_init_38 : decode cX9_init 38 = .ok (.dup, 1) := by decide +kernel
theorem dX9_init_39 : decode cX9_init 39 = .ok (.bipush 7, 2) := by decide +kernel
theorem dX9_init_41 : decode cX9_init 41 = .ok (.iconst (-1), 1) := by decide +kernel
theorem dX9_init_42 : decode cX9_init 42 = .ok (.iastore, 1) := by decide +kernel
theorem dX9_init_43 : decode cX9_init 43 = .ok (.putfield 7, 3) := by decide +kernel
theorem dX9_init_46 : decode cX9_init 46 = .ok (.aload_n 0, 1) := by decide +kernel
theorem dX9_init_47 : decode cX9_init 47 = .ok (.bipush 8, 2) := by decide +kernel
theorem dX9_init_49 : decode cX9_init 49 = .ok (.newarray .int, 2) := by decide +kernel
theorem dX9_init_51 : decode cX9_init 51 = .ok (.putfield 13, 3) := by decide +kernel
theorem dX9_init_54 : decode cX9_init 54 = .ok (.aload_n 0, 1) := by decide +kernel
theorem dX9_init_55 : decode cX9_init 55 = .ok (.sipush 320, 3) := by decide +kernel
theorem dX9_init_58 : decode cX9_init 58 = .ok (.newarray .int, 2) := by decide +kernel
theorem dX9_init_60 : decode cX9_init 60 = .ok (.putfield 16, 3) := by decide +kernel
theorem dX9_init_63 : decode cX9_init 63 = .ok (.aload_n 0, 1) := by decide +kernel
theorem dX9_init_64 : decode cX9_init 64 = .ok (.bipush 75, 2) := by decide +kernel
theorem dX9_init_66 : decode cX9_init 66 = .ok (.newarray .int, 2) := by decide +kernel
theorem dX9_init_68 : decode cX9_init 68 = .ok (.putfield 19, 3) := by decide +kernel
theorem dX9_init_71 : decode cX9_init 71 = .ok (.aload_n 0, 1) := by decide +kernel
theorem dX9_init_72 : decode cX9_init 72 = .ok (.bipush 75, 2) := by decide +kernel
theorem dX9_init_74 : decode cX9_init 74 = .ok (.newarray .int, 2) := by decide +kernel
theorem dX9_init_76 : decode cX9_init 76 = .ok (.putfield 22, 3) := by decide +kernel
theorem dX9_init_79 : decode cX9_init 79 = .ok (.aload_n 0, 1) := by decide +kernel
theorem dX9_init_80 : decode cX9_init 80 = .ok (.bipush 75, 2) := by decide +kernel
theorem dX9_init_82 : decode cX9_init 82 = .ok (.newarray .int, 2) := by decide +kernel
theorem dX9_init_84 : decode cX9_init 84 = .ok (.putfield 25, 3) := by decide +kernel
theorem dX9_init_87 : decode cX9_init 87 = .ok (.aload_n 0, 1) := by decide +kernel
theorem dX9_init_88 : decode cX9_init 88 = .ok (.sipush 1800, 3) := by decide +kernel
theorem dX9_init_91 : decode cX9_init 91 = .ok (.newarray .int, 2) := by decide +kernel
theorem dX9_init_93 : decode cX9_init 93 = .ok (.putfield 28, 3) := by decide +kernel
theorem dX9_init_96 : decode cX9_init 96 = .ok (.aload_n 0, 1) := by decide +kernel
theorem dX9_init_97 : decode cX9_init 97 = .ok (.sipush 400, 3) := by decide +kernel
theorem dX9_init_100 : decode cX9_init 100 = .ok (.newarray .int, 2) := by decide +kernel
theorem dX9_init_102 : decode cX9_init 102 = .ok (.putfield 31, 3) := by decide +kernel
theorem dX9_init_105 : decode cX9_init 105 = .ok (.aload_n 0, 1) := by decide +kernel
theorem dX9_init_106 : decode cX9_init 106 = .ok (.bipush 6, 2) := by decide +kernel
theorem dX9_init_108 : decode cX9_init 108 = .ok (.newarray .int, 2) := by decide +kernel
theorem dX9_init_110 : decode cX9_init 110 = .ok (.putfield 34, 3) := by decide +kernel
theorem dX9_init_113 : decode cX9_init 113 = .ok (.aload_n 0, 1) := by decide +kernel
theorem dX9_init_114 : decode cX9_init 114 = .ok (.bipush 36, 2) := by decide +kernel
theorem dX9_init_116 : decode cX9_init 116 = .ok (.newarray .int, 2) := by decide +kernel
theorem dX9_init_118 : decode cX9_init 118 = .ok (.putfield 37, 3) := by decide +kernel
theorem dX9_init_121 : decode cX9_init 121 = .ok (.aload_n 0, 1) := by decide +kernel
theorem dX9_init_122 : decode cX9_init 122 = .ok (.iconst 2, 1) := by decide +kernel
theorem dX9_init_123 : decode cX9_init 123 = .ok (.newarray .boolean, 2) := by decide +kernel
theorem dX9_init_125 : decode cX9_init 125 = .ok (.putfield 40, 3) := by decide +kernel
theorem dX9_init_128 : decode cX9_init 128 = .ok (.aload_n 0, 1) := by decide +kernel
theorem dX9_init_129 : decode cX9_init 129 = .ok (.sipush 150, 3) := by decide +kernel
theorem dX9_init_132 : decode cX9_init 132 = .ok (.newarray .int, 2) := by decide +kernel
theorem dX9_init_134 : decode cX9_init 134 = .ok (.putfield 44, 3) := by decide +kernel
theorem dX9_init_137 : decode cX9_init 137 = .ok (.aload_n 0, 1) := by decide +kernel
theorem dX9_init_138 : decode cX9_init 138 = .ok (.bipush 16, 2) := by decide +kernel
theorem dX9_init_140 : decode cX9_init 140 = .ok (.newarray .int, 2) := by decide +kernel
theorem dX9_init_142 : decode cX9_init 142 = .ok (.putfield 47, 3) := by decide +kernel
theorem dX9_init_145 : decode cX9_init 145 = .ok (.return_, 1) := by decide +kernel
theorem dX9_in_0 : decode cX9_in 0 = .ok (.lload_n 0, 1) := by decide +kernel
theorem dX9_in_1 : decode cX9_in 1 = .ok (.lload_n 2, 1) := by decide +kernel
theorem dX9_in_2 : decode cX9_in 2 = .ok (.lcmp, 1) := by decide +kernel
theorem dX9_in_3 : decode cX9_in 3 = .ok (.ifCond .lt 14, 3) := by decide +kernel
theorem dX9_in_6 : decode cX9_in 6 = .ok (.lload_n 0, 1) := by decide +kernel
theorem dX9_in_7 : decode cX9_in 7 = .ok (.lload 4, 2) := by decide +kernel
theorem dX9_in_9 : decode cX9_in 9 = .ok (.lcmp, 1) := by decide +kernel
theorem dX9_in_10 : decode cX9_in 10 = .ok (.ifCond .gt 7, 3) := by decide +kernel
theorem dX9_in_13 : decode cX9_in 13 = .ok (.iconst 1, 1) := by decide +kernel
theorem dX9_in_14 : decode cX9_in 14 = .ok (.goto 4, 3) := by decide +kernel
theorem dX9_in_17 : decode cX9_in 17 = .ok (.iconst 0, 1) := by decide +kernel
theorem dX9_in_18 : decode cX9_in 18 = .ok (.ireturn, 1) := by decide +kernel
theorem dX9_finding_0 : decode cX9_finding 0 = .ok (.aload_n 0, 1) := by decide +kernel
theorem dX9_finding_1 : decode cX9_finding 1 = .ok (.iload_n 1, 1) := by decide +kernel
theorem dX9_finding_2 : decode cX9_finding 2 = .ok (.putfield 54, 3) := by decide +kernel
theorem dX9_finding_5 : decode cX9_finding 5 = .ok (.ldc 57, 2) := by decide +kernel
theorem dX9_finding_7 : decode cX9_finding 7 = .ok (.iload_n 1, 1) := by decide +kernel
theorem dX9_finding_8 : decode cX9_finding 8 = .ok (.isub, 1) := by decide +kernel
theorem dX9_finding_9 : decode cX9_finding 9 = .ok (.ireturn, 1) := by decide +kernel
set_option maxRecDepth 20000 in
theorem ggX9_isRow_X9_in : GoodIn wsX9_isRow wsX9_in := goodIn_r _ [5] (by decide +kernel) (by decide +kernel)
set_option maxRecDepth 20000 in
theorem gX9_isRow_X9_in : GoodIn wsX9_isRow (va_wsS RX9 60 yX9_in wsX9_in) := goodIn_app (goodIn_of _ (by decide +kernel)) ggX9_isRow_X9_in
theorem dX9_isRow_0 : decode cX9_isRow 0 = .ok (.iload_n 0, 1) := by decide +kernel
theorem dX9_isRow_1 : decode cX9_isRow 1 = .ok (.i2l, 1) := by decide +kernel
theorem dX9_isRow_2 : decode cX9_isRow 2 = .ok (.lconst 0, 1) := by decide +kernel
theorem dX9_isRow_3 : decode cX9_isRow 3 = .ok (.ldc2_w 58, 3) := by decide +kernel
theorem dX9_isRow_6 : decode cX9_isRow 6 = .ok (.invokestatic 60, 3) := by decide +kernel
theorem dX9_isRow_9 : decode cX9_isRow 9 = .ok (.ireturn, 1) := by decide +kernel
set_option maxRecDepth 20000 in
theorem ggX9_row_X9_isRow : GoodIn wsX9_row wsX9_isRow := goodIn_r _ [11, 12, 13, 14, 10, 15] (by decide +kernel) (by decide +kernel)
set_option maxRecDepth 20000 in
theorem gX9_row_X9_isRow : GoodIn wsX9_row (va_wsS RX9 64 yX9_isRow wsX9_isRow) := goodIn_app (goodIn_of _ (by decide +kernel)) ggX9_row_X9_isRow
set_option maxRecDepth 20000 in
theorem ggX9_row_X9_in : GoodIn wsX9_row wsX9_in := goodIn_r _ [15] (by decide +kernel) (by decide +kernel)
set_option maxRecDepth 20000 in
theorem gX9_row_X9_in : GoodIn wsX9_row (va_wsS RX9 60 yX9_in wsX9_in) := goodIn_app (goodIn_of _ (by decide +kernel)) ggX9_row_X9_in
set_option maxRecDepth 20000 in
theorem ggX9_row_X9_finding : GoodIn wsX9_row wsX9_finding := goodIn_r _ [19, 4, 20, 21, 22, 23, 24, 25, 26, 27, 28, 29, 30, 31, 32, 33, 34, 35, 36, 37, 38, 39, 40, 41, 42, 43, 44, 45, 46, 47] (by decide +kernel) (by decide +kernel)
set_option maxRecDepth 20000 in
theorem gX9_row_X9_finding : GoodIn wsX9_row (wsV RX9 71 RX9 yX9_finding wsX9_finding) := goodIn_app (goodIn_of _ (by decide +kernel)) ggX9_row_X9_finding
theorem dX9_row_0 : decode cX9_row 0 = .ok (.aload_n 0, 1) := by decide +kernel
theorem dX9_row_1 : decode cX9_row 1 = .ok (.iconst 0, 1) := by decide +kernel
theorem dX9_row_2 : decode cX9_row 2 = .ok (.putfield 50, 3) := by decide +kernel
theorem dX9_row_5 : decode cX9_row 5 = .ok (.iload_n 1, 1) := by decide +kernel
theorem dX9_row_6 : decode cX9_row 6 = .ok (.invokestatic 64, 3) := by decide +kernel
theorem dX9_row_9 : decode cX9_row 9 = .ok (.ifCond .eq 21, 3) := by decide +kernel
theorem dX9_row_12 : decode cX9_row 12 = .ok (.iload_n 2, 1) := by decide +kernel
theorem dX9_row_13 : decode cX9_row 13 = .ok (.i2l, 1) := by decide +kernel
theorem dX9_row_14 : decode cX9_row 14 = .ok (.lconst 0, 1) := by decide +kernel
theorem dX9_row_15 : decode cX9_row 15 = .ok (.ldc2_w 68, 3) := by decide +kernel
theorem dX9_row_18 : decode cX9_row 18 = .ok (.invokestatic 60, 3) := by decide +kernel
theorem dX9_row_21 : decode cX9_row 21 = .ok (.ifCond .eq 9, 3) := by decide +kernel
theorem dX9_row_24 : decode cX9_row 24 = .ok (.iload_n 3, 1) := by decide +kernel
theorem dX9_row_25 : decode cX9_row 25 = .ok (.bipush 40, 2) := by decide +kernel
theorem dX9_row_27 : decode cX9_row 27 = .ok (.if_icmp .le 6, 3) := by decide +kernel
theorem dX9_row_30 : decode cX9_row 30 = .ok (.ldc 70, 2) := by decide +kernel
theorem dX9_row_32 : decode cX9_row 32 = .ok (.ireturn, 1) := by decide +kernel
theorem dX9_row_33 : decode cX9_row 33 = .ok (.aload_n 0, 1) := by decide +kernel
theorem dX9_row_34 : decode cX9_row 34 = .ok (.iconst 0, 1) := by decide +kernel
theorem dX9_row_35 : decode cX9_row 35 = .ok (.putfield 54, 3) := by decide +kernel
theorem dX9_row_38 : decode cX9_row 38 = .ok (.iload_n 3, 1) := by decide +kernel
theorem dX9_row_39 : decode cX9_row 39 = .ok (.ifCond .ge 9, 3) := by decide +kernel
theorem dX9_row_42 : decode cX9_row 42 = .ok (.aload_n 0, 1) := by decide +kernel
theorem dX9_row_43 : decode cX9_row 43 = .ok (.iconst 4, 1) := by decide +kernel
theorem dX9_row_44 : decode cX9_row 44 = .ok (.invokevirtual 71, 3) := by decide +kernel
theorem dX9_row_47 : decode cX9_row 47 = .ok (.ireturn, 1) := by decide +kernel
theorem dX9_row_48 : decode cX9_row 48 = .ok (.aload_n 0, 1) := by decide +kernel
theorem dX9_row_49 : decode cX9_row 49 = .ok (.getfield 7, 3) := by decide +kernel
theorem dX9_row_52 : decode cX9_row 52 = .ok (.iload_n 1, 1) := by decide +kernel
theorem dX9_row_53 : decode cX9_row 53 = .ok (.iload_n 2, 1) := by decide +kernel
theorem dX9_row_54 : decode cX9_row 54 = .ok (.iastore, 1) := by decide +kernel
theorem dX9_row_55 : decode cX9_row 55 = .ok (.aload_n 0, 1) := by decide +kernel
theorem dX9_row_56 : decode cX9_row 56 = .ok (.getfield 13, 3) := by decide +kernel
theorem dX9_row_59 : decode cX9_row 59 = .ok (.iload_n 1, 1) := by decide +kernel
theorem dX9_row_60 : decode cX9_row 60 = .ok (.iload_n 3, 1) := by decide +kernel
theorem dX9_row_61 : decode cX9_row 61 = .ok (.iastore, 1) := by decide +kernel
theorem dX9_row_62 : decode cX9_row 62 = .ok (.iconst 0, 1) := by decide +kernel
theorem dX9_row_63 : decode cX9_row 63 = .ok (.istore 4, 2) := by decide +kernel
theorem dX9_row_65 : decode cX9_row 65 = .ok (.iload 4, 2) := by decide +kernel
theorem dX9_row_67 : decode cX9_row 67 = .ok (.bipush 40, 2) := by decide +kernel
theorem dX9_row_69 : decode cX9_row 69 = .ok (.if_icmp .ge 22, 3) := by decide +kernel
theorem dX9_row_72 : decode cX9_row 72 = .ok (.aload_n 0, 1) := by decide +kernel
theorem dX9_row_73 : decode cX9_row 73 = .ok (.getfield 16, 3) := by decide +kernel
theorem dX9_row_76 : decode cX9_row 76 = .ok (.bipush 40, 2) := by decide +kernel
theorem dX9_row_78 : decode cX9_row 78 = .ok (.iload_n 1, 1) := by decide +kernel
theorem dX9_row_79 : decode cX9_row 79 = .ok (.imul, 1) := by decide +kernel
theorem dX9_row_80 : decode cX9_row 80 = .ok (.iload 4, 2) := by decide +kernel
theorem dX9_row_82 : decode cX9_row 82 = .ok (.iadd, 1) := by decide +kernel
theorem dX9_row_83 : decode cX9_row 83 = .ok (.iconst 0, 1) := by decide +kernel
theorem dX9_row_84 : decode cX9_row 84 = .ok (.iastore, 1) := by decide +kernel
theorem dX9_row_85 : decode cX9_row 85 = .ok (.iinc 4 1, 3) := by decide +kernel
theorem dX9_row_88 : decode cX9_row 88 = .ok (.goto (-23), 3) := by decide +kernel
theorem dX9_row_91 : decode cX9_row 91 = .ok (.iload_n 3, 1) := by decide +kernel
theorem dX9_row_92 : decode cX9_row 92 = .ok (.ireturn, 1) := by decide +kernel
set_option maxRecDepth 20000 in
theorem ggX9_set_X9_isRow : GoodIn wsX9_set wsX9_isRow := goodIn_r _ [10, 11, 12, 13, 9, 14] (by decide +kernel) (by decide +kernel)
set_option maxRecDepth 20000 in
theorem gX9_set_X9_isRow : GoodIn wsX9_set (va_wsS RX9 64 yX9_isRow wsX9_isRow) := goodIn_app (goodIn_of _ (by decide +kernel)) ggX9_set_X9_isRow
set_option maxRecDepth 20000 in
theorem ggX9_set_X9_finding : GoodIn wsX9_set wsX9_finding := goodIn_r _ [18, 3, 19, 20, 21, 22, 23, 24, 25, 26, 27, 28, 29, 30, 31, 32, 33, 34, 35, 36, 37, 38, 39, 40, 41, 42, 43, 44, 45, 46] (by decide +kernel) (by decide +kernel)
set_option maxRecDepth 20000 in
theorem gX9_set_X9_finding : GoodIn wsX9_set (wsV RX9 71 RX9 yX9_finding wsX9_finding) := goodIn_app (goodIn_of _ (by decide +kernel)) ggX9_set_X9_finding
set_option maxRecDepth 20000 in
theorem ggX9_set_X9_in : GoodIn wsX9_set wsX9_in := goodIn_r _ [14] (by decide +kernel) (by decide +kernel)
set_option maxRecDepth 20000 in
theorem gX9_set_X9_in : GoodIn wsX9_set (va_wsS RX9 60 yX9_in wsX9_in) := goodIn_app (goodIn_of _ (by decide +kernel)) ggX9_set_X9_in
theorem dX9_set_0 : decode cX9_set 0 = .ok (.aload_n 0, 1) := by decide +kernel
theorem dX9_set_1 : decode cX9_set 1 = .ok (.iconst 0, 1) := by decide +kernel
theorem dX9_set_2 : decode cX9_set 2 = .ok (.putfield 50, 3) := by decide +kernel
theorem dX9_set_5 : decode cX9_set 5 = .ok (.iload_n 1, 1) := by decide +kernel
theorem dX9_set_6 : decode cX9_set 6 = .ok (.invokestatic 64, 3) := by decide +kernel
theorem dX9_set_9 : decode cX9_set 9 = .ok (.ifCond .ne 6, 3) := by decide +kernel
theorem dX9_set_12 : decode cX9_set 12 = .ok (.ldc 70, 2) := by decide +kernel
theorem dX9_set_14 : decode cX9_set 14 = .ok (.ireturn, 1) := by decide +kernel
theorem dX9_set_15 : decode cX9_set 15 = .ok (.aload_n 0, 1) := by decide +kernel
theorem dX9_set_16 : decode cX9_set 16 = .ok (.iconst 0, 1) := by decide +kernel
theorem dX9_set_17 : decode cX9_set 17 = .ok (.putfield 54, 3) := by decide +kernel
theorem dX9_set_20 : decode cX9_set 20 = .ok (.aload_n 0, 1) := by decide +kernel
theorem dX9_set_21 : decode cX9_set 21 = .ok (.getfield 7, 3) := by decide +kernel
theorem dX9_set_24 : decode cX9_set 24 = .ok (.iload_n 1, 1) := by decide +kernel
theorem dX9_set_25 : decode cX9_set 25 = .ok (.iaload, 1) := by decide +kernel
theorem dX9_set_26 : decode cX9_set 26 = .ok (.ifCond .ge 9, 3) := by decide +kernel
theorem dX9_set_29 : decode cX9_set 29 = .ok (.aload_n 0, 1) := by decide +kernel
theorem dX9_set_30 : decode cX9_set 30 = .ok (.iconst 1, 1) := by decide +kernel
theorem dX9_set_31 : decode cX9_set 31 = .ok (.invokevirtual 71, 3) := by decide +kernel
theorem dX9_set_34 : decode cX9_set 34 = .ok (.ireturn, 1) := by decide +kernel
theorem dX9_set_35 : decode cX9_set 35 = .ok (.iload_n 2, 1) := by decide +kernel
theorem dX9_set_36 : decode cX9_set 36 = .ok (.i2l, 1) := by decide +kernel
theorem dX9_set_37 : decode cX9_set 37 = .ok (.lconst 0, 1) := by decide +kernel
theorem dX9_set_38 : decode cX9_set 38 = .ok (.aload_n 0, 1) := by decide +kernel
theorem dX9_set_39 : decode cX9_set 39 = .ok (.getfield 13, 3) := by decide +kernel
theorem dX9_set_42 : decode cX9_set 42 = .ok (.iload_n 1, 1) := by decide +kernel
theorem dX9_set_43 : decode cX9_set 43 = .ok (.iaload, 1) := by decide +kernel
theorem dX9_set_44 : decode cX9_set 44 = .ok (.iconst 1, 1) := by decide +kernel
theorem dX9_set_45 : decode cX9_set 45 = .ok (.isub, 1) := by decide +kernel
theorem dX9_set_46 : decode cX9_set 46 = .ok (.i2l, 1) := by decide +kernel
theorem dX9_set_47 : decode cX9_set 47 = .ok (.invokestatic 60, 3) := by decide +kernel
theorem dX9_set_50 : decode cX9_set 50 = .ok (.ifCond .ne 9, 3) := by decide +kernel
theorem dX9_set_53 : decode cX9_set 53 = .ok (.aload_n 0, 1) := by decide +kernel
theorem dX9_set_54 : decode cX9_set 54 = .ok (.iconst 2, 1) := by decide +kernel
theorem dX9_set_55 : decode cX9_set 55 = .ok (.invokevirtual 71, 3) := by decide +kernel
theorem dX9_set_58 : decode cX9_set 58 = .ok (.ireturn, 1) := by decide +kernel
theorem dX9_set_59 : decode cX9_set 59 = .ok (.aload_n 0, 1) := by decide +kernel
theorem dX9_set_60 : decode cX9_set 60 = .ok (.getfield 16, 3) := by decide +kernel
theorem dX9_set_63 : decode cX9_set 63 = .ok (.bipush 40, 2) := by decide +kernel
theorem dX9_set_65 : decode cX9_set 65 = .ok (.iload_n 1, 1) := by decide +kernel
theorem dX9_set_66 : decode cX9_set 66 = .ok (.imul, 1) := by decide +kernel
theorem dX9_set_67 : decode cX9_set 67 = .ok (.iload_n 2, 1) := by decide +kernel
theorem dX9_set_68 : decode cX9_set 68 = .ok (.iadd, 1) := by decide +kernel
theorem dX9_set_69 : decode cX9_set 69 = .ok (.aload_n 0, 1) := by decide +kernel
theorem dX9_set_70 : decode cX9_set 70 = .ok (.getfield 7, 3) := by decide +kernel
theorem dX9_set_73 : decode cX9_set 73 = .ok (.iload_n 1, 1) := by decide +kernel
theorem dX9_set_74 : decode cX9_set 74 = .ok (.iaload, 1) := by decide +kernel
theorem dX9_set_75 : decode cX9_set 75 = .ok (.ifCond .ne 8, 3) := by decide +kernel
theorem dX9_set_78 : decode cX9_set 78 = .ok (.iload_n 3, 1) := by decide +kernel
theorem dX9_set_79 : decode cX9_set 79 = .ok (.i2b, 1) := by decide +kernel
theorem dX9_set_80 : decode cX9_set 80 = .ok (.goto 19, 3) := by decide +kernel
theorem dX9_set_83 : decode cX9_set 83 = .ok (.aload_n 0, 1) := by decide +kernel
theorem dX9_set_84 : decode cX9_set 84 = .ok (.getfield 7, 3) := by decide +kernel
theorem dX9_set_87 : decode cX9_set 87 = .ok (.iload_n 1, 1) := by decide +kernel
theorem dX9_set_88 : decode cX9_set 88 = .ok (.iaload, 1) := by decide +kernel
theorem dX9_set_89 : decode cX9_set 89 = .ok (.iconst 1, 1) := by decide +kernel
theorem dX9_set_90 : decode cX9_set 90 = .ok (.if_icmp .ne 8, 3) := by decide +kernel
theorem dX9_set_93 : decode cX9_set 93 = .ok (.iload_n 3, 1) := by decide +kernel
theorem dX9_set_94 : decode cX9_set 94 = .ok (.i2s, 1) := by decide +kernel
theorem dX9_set_95 : decode cX9_set 95 = .ok (.goto 4, 3) := by decide +kernel
theorem dX9_set_98 : decode cX9_set 98 = .ok (.iload_n 3, 1) := by decide +kernel
theorem dX9_set_99 : decode cX9_set 99 = .ok (.iastore, 1) := by decide +kernel
theorem dX9_set_100 : decode cX9_set 100 = .ok (.aload_n 0, 1) := by decide +kernel
theorem dX9_set_101 : decode cX9_set 101 = .ok (.getfield 16, 3) := by decide +kernel
theorem dX9_set_104 : decode cX9_set 104 = .ok (.bipush 40, 2) := by decide +kernel
theorem dX9_set_106 : decode cX9_set 106 = .ok (.iload_n 1, 1) := by decide +kernel
theorem dX9_set_107 : decode cX9_set 107 = .ok (.imul, 1) := by decide +kernel
theorem dX9_set_108 : decode cX9_set 108 = .ok (.iload_n 2, 1) := by decide +kernel
theorem dX9_set_109 : decode cX9_set 109 = .ok (.iadd, 1) := by decide +kernel
theorem dX9_set_110 : decode cX9_set 110 = .ok (.iaload, 1) := by decide +kernel
theorem dX9_set_111 : decode cX9_set 111 = .ok (.ireturn, 1) := by decide +kernel
set_option maxRecDepth 20000 in
theorem ggX9_copy_X9_isRow : GoodIn wsX9_copy wsX9_isRow := goodIn_r _ [10, 11, 12, 13, 9, 14] (by decide +kernel) (by decide +kernel)
set_option maxRecDepth 20000 in
theorem gX9_copy_X9_isRow : GoodIn wsX9_copy (va_wsS RX9 64 yX9_isRow wsX9_isRow) := goodIn_app (goodIn_of _ (by decide +kernel)) ggX9_copy_X9_isRow
set_option maxRecDepth 20000 in
theorem ggX9_copy_X9_finding : GoodIn wsX9_copy wsX9_finding := goodIn_r _ [18, 3, 19, 20, 21, 22, 23, 24, 25, 26, 27, 28, 29, 30, 31, 32, 33, 34, 35, 36, 37, 38, 39, 40, 41, 42, 43, 44, 45, 46] (by decide +kernel) (by decide +kernel)
set_option maxRecDepth 20000 in
theorem gX9_copy_X9_finding : GoodIn wsX9_copy (wsV RX9 71 RX9 yX9_finding wsX9_finding) := goodIn_app (goodIn_of _ (by decide +kernel)) ggX9_copy_X9_finding
theorem dX9_copy_0 : decode cX9_copy 0 = .ok (.aload_n 0, 1) := by decide +kernel
theorem dX9_copy_1 : decode cX9_copy 1 = .ok (.iconst 0, 1) := by decide +kernel
theorem dX9_copy_2 : decode cX9_copy 2 = .ok (.putfield 50, 3) := by decide +kernel
theorem dX9_copy_5 : decode cX9_copy 5 = .ok (.iload_n 1, 1) := by decide +kernel
theorem dX9_copy_6 : decode cX9_copy 6 = .ok (.invokestatic 64, 3) := by decide +kernel
theorem dX9_copy_9 : decode cX9_copy 9 = .ok (.ifCond .eq 10, 3) := by decide +kernel
theorem dX9_copy_12 : decode cX9_copy 12 = .ok (.iload_n 3, 1) := by decide +kernel
theorem dX9_copy_13 : decode cX9_copy 13 = .ok (.invokestatic 64, 3) := by decide +kernel
theorem dX9_copy_16 : decode cX9_copy 16 = .ok (.ifCond .ne 6, 3) := by decide +kernel
theorem dX9_copy_19 : decode cX9_copy 19 = .ok (.ldc 70, 2) := by decide +kernel
theorem dX9_copy_21 : decode cX9_copy 21 = .ok (.ireturn, 1) := by decide +kernel
theorem dX9_copy_22 : decode cX9_copy 22 = .ok (.aload_n 0, 1) := by decide +kernel
theorem dX9_copy_23 : decode cX9_copy 23 = .ok (.iconst 0, 1) := by decide +kernel
theorem dX9_copy_24 : decode cX9_copy 24 = .ok (.putfield 54, 3) := by decide +kernel
theorem dX9_copy_27 : decode cX9_copy 27 = .ok (.aload_n 0, 1) := by decide +kernel
theorem dX9_copy_28 : decode cX9_copy 28 = .ok (.getfield 7, 3) := by decide +kernel
theorem dX9_copy_31 : decode cX9_copy 31 = .ok (.iload_n 1, 1) := by decide +kernel
theorem dX9_copy_32 : decode cX9_copy 32 = .ok (.iaload, 1) := by decide +kernel
theorem dX9_copy_33 : decode cX9_copy 33 = .ok (.ifCond .lt 12, 3) := by decide +kernel
theorem dX9_copy_36 : decode cX9_copy 36 = .ok (.aload_n 0, 1) := by decide +kernel
theorem dX9_copy_37 : decode cX9_copy 37 = .ok (.getfield 7, 3) := by decide +kernel
theorem dX9_copy_40 : decode cX9_copy 40 = .ok (.iload_n 3, 1) := by decide +kernel
theorem dX9_copy_41 : decode cX9_copy 41 = .ok (.iaload, 1) := by decide +kernel
theorem dX9_copy_42 : decode cX9_copy 42 = .ok (.ifCond .ge 9, 3) := by decide +kernel
theorem dX9_copy_45 : decode cX9_copy 45 = .ok (.aload_n 0, 1) := by decide +kernel
theorem dX9_copy_46 : decode cX9_copy 46 = .ok (.iconst 1, 1) := by decide +kernel
theorem dX9_copy_47 : decode cX9_copy 47 = .ok (.invokevirtual 71, 3) := by decide +kernel
theorem dX9_copy_50 : decode cX9_copy 50 = .ok (.ireturn, 1) := by decide +kernel
theorem dX9_copy_51 : decode cX9_copy 51 = .ok (.aload_n 0, 1) := by decide +kernel
theorem dX9_copy_52 : decode cX9_copy 52 = .ok (.getfield 7, 3) := by decide +kernel
theorem dX9_copy_55 : decode cX9_copy 55 = .ok (.iload_n 1, 1) := by decide +kernel
theorem dX9_copy_56 : decode cX9_copy 56 = .ok (.iaload, 1) := by decide +kernel
theorem dX9_copy_57 : decode cX9_copy 57 = .ok (.aload_n 0, 1) := by decide +kernel
theorem dX9_copy_58 : decode cX9_copy 58 = .ok (.getfield 7, 3) := by decide +kernel
theorem dX9_copy_61 : decode cX9_copy 61 = .ok (.iload_n 3, 1) := by decide +kernel
theorem dX9_copy_62 : decode cX9_copy 62 = .ok (.iaload, 1) := by decide +kernel
theorem dX9_copy_63 : decode cX9_copy 63 = .ok (.if_icmp .eq 9, 3) := by decide +kernel
theorem dX9_copy_66 : decode cX9_copy 66 = .ok (.aload_n 0, 1) := by decide +kernel
theorem dX9_copy_67 : decode cX9_copy 67 = .ok (.iconst 5, 1) := by decide +kernel
theorem dX9_copy_68 : decode cX9_copy 68 = .ok (.invokevirtual 71, 3) := by decide +kernel
theorem dX9_copy_71 : decode cX9_copy 71 = .ok (.ireturn, 1) := by decide +kernel
theorem dX9_copy_72 : decode cX9_copy 72 = .ok (.iload_n 2, 1) := by decide +kernel
theorem dX9_copy_73 : decode cX9_copy 73 = .ok (.ifCond .lt 48, 3) := by decide +kernel
theorem dX9_copy_76 : decode cX9_copy 76 = .ok (.iload 4, 2) := by decide +kernel
theorem dX9_copy_78 : decode cX9_copy 78 = .ok (.ifCond .lt 43, 3) := by decide +kernel
theorem dX9_copy_81 : decode cX9_copy 81 = .ok (.iload 5, 2) := by decide +kernel
theorem dX9_copy_83 : decode cX9_copy 83 = .ok (.ifCond .lt 38, 3) := by decide +kernel
theorem dX9_copy_86 : decode cX9_copy 86 = .ok (.iload_n 2, 1) := by decide +kernel
theorem dX9_copy_87 : decode cX9_copy 87 = .ok (.i2l, 1) := by decide +kernel
theorem dX9_copy_88 : decode cX9_copy 88 = .ok (.iload 5, 2) := by decide +kernel
theorem dX9_copy_90 : decode cX9_copy 90 = .ok (.i2l, 1) := by decide +kernel
theorem dX9_copy_91 : decode cX9_copy 91 = .ok (.ladd, 1) := by decide +kernel
theorem dX9_copy_92 : decode cX9_copy 92 = .ok (.aload_n 0, 1) := by decide +kernel
theorem dX9_copy_93 : decode cX9_copy 93 = .ok (.getfield 13, 3) := by decide +kernel
theorem dX9_copy_96 : decode cX9_copy 96 = .ok (.iload_n 1, 1) := by decide +kernel
theorem dX9_copy_97 : decode cX9_copy 97 = .ok (.iaload, 1) := by decide +kernel
theorem dX9_copy_98 : decode cX9_copy 98 = .ok (.i2l, 1) := by decide +kernel
theorem dX9_copy_99 : decode cX9_copy 99 = .ok (.lcmp, 1) := by decide +kernel
theorem dX9_copy_100 : decode cX9_copy 100 = .ok (.ifCond .gt 21, 3) := by decide +kernel
theorem dX9_copy_103 : decode cX9_copy 103 = .ok (.iload 4, 2) := by decide +kernel
theorem dX9_copy_105 : decode cX9_copy 105 = .ok (.i2l, 1) := by decide +kernel
theorem dX9_copy_106 : decode cX9_copy 106 = .ok (.iload 5, 2) := by decide +kernel
theorem dX9_copy_108 : decode cX9_copy 108 = .ok (.i2l, 1) := by decide +kernel
theorem dX9_copy_109 : decode cX9_copy 109 = .ok (.ladd, 1) := by decide +kernel
theorem dX9_copy_110 : decode cX9_copy 110 = .ok (.aload_n 0, 1) := by decide +kernel
theorem dX9_copy_111 : decode cX9_copy 111 = .ok (.getfield 13, 3) := by decide +kernel
theorem dX9_copy_114 : decode cX9_copy 114 = .ok (.iload_n 3, 1) := by decide +kernel
theorem dX9_copy_115 : decode cX9_copy 115 = .ok (.iaload, 1) := by decide +kernel
theorem dX9_copy_116 : decode cX9_copy 116 = .ok (.i2l, 1) := by decide +kernel
theorem dX9_copy_117 : decode cX9_copy 117 = .ok (.lcmp, 1) := by decide +kernel
theorem dX9_copy_118 : decode cX9_copy 118 = .ok (.ifCond .le 9, 3) := by decide +kernel
theorem dX9_copy_121 : decode cX9_copy 121 = .ok (.aload_n 0, 1) := by decide +kernel
theorem dX9_copy_122 : decode cX9_copy 122 = .ok (.iconst 2, 1) := by decide +kernel
theorem dX9_copy_123 : decode cX9_copy 123 = .ok (.invokevirtual 71, 3) := by decide +kernel
theorem dX9_copy_126 : decode cX9_copy 126 = .ok (.ireturn, 1) := by decide +kernel
theorem dX9_copy_127 : decode cX9_copy 127 = .ok (.iload_n 2, 1) := by decide +kernel
theorem dX9_copy_128 : decode cX9_copy 128 = .ok (.iload 4, 2) := by decide +kernel
theorem dX9_copy_130 : decode cX9_copy 130 = .ok (.if_icmp .lt 7, 3) := by decide +kernel
theorem dX9_copy_133 : decode cX9_copy 133 = .ok (.iconst 1, 1) := by decide +kernel
theorem dX9_copy_134 : decode cX9_copy 134 = .ok (.goto 4, 3) := by decide +kernel
theorem dX9_copy_137 : decode cX9_copy 137 = .ok (.iconst 0, 1) := by decide +kernel
theorem dX9_copy_138 : decode cX9_copy 138 = .ok (.istore 6, 2) := by decide +kernel
theorem dX9_copy_140 : decode cX9_copy 140 = .ok (.iconst 0, 1) := by decide +kernel
theorem dX9_copy_141 : decode cX9_copy 141 = .ok (.istore 7, 2) := by decide +kernel
theorem dX9_copy_143 : decode cX9_copy 143 = .ok (.iload 7, 2) := by decide +kernel
theorem dX9_copy_145 : decode cX9_copy 145 = .ok (.iload 5, 2) := by decide +kernel
theorem dX9_copy_147 : decode cX9_copy 147 = .ok (.if_icmp .ge 57, 3) := by decide +kernel
theorem dX9_copy_150 : decode cX9_copy 150 = .ok (.iload 6, 2) := by decide +kernel
theorem dX9_copy_152 : decode cX9_copy 152 = .ok (.ifCond .eq 8, 3) := by decide +kernel
theorem dX9_copy_155 : decode cX9_copy 155 = .ok (.iload 7, 2) := by decide +kernel
theorem dX9_copy_157 : decode cX9_copy 157 = .ok (.goto 10, 3) := by decide +kernel
theorem dX9_copy_160 : decode cX9_copy 160 = .ok (.iload 5, 2) := by decide +kernel
theorem dX9_copy_162 : decode cX9_copy 162 = .ok (.iconst 1, 1) := by decide +kernel
theorem dX9_copy_163 : decode cX9_copy 163 = .ok (.isub, 1) := by decide +kernel
theorem dX9_copy_164 : decode cX9_copy 164 = .ok (.iload 7, 2) := by decide +kernel
theorem dX9_copy_166 : decode cX9_copy 166 = .ok (.isub, 1) := by decide +kernel
theorem dX9_copy_167 : decode cX9_copy 167 = .ok (.istore 8, 2) := by decide +kernel
theorem dX9_copy_169 : decode cX9_copy 169 = .ok (.aload_n 0, 1) := by decide +kernel
theorem dX9_copy_170 : decode cX9_copy 170 = .ok (.getfield 16, 3) := by decide +kernel
theorem dX9_copy_173 : decode cX9_copy 173 = .ok (.bipush 40, 2) := by decide +kernel
theorem dX9_copy_175 : decode cX9_copy 175 = .ok (.iload_n 3, 1) := by decide +kernel
theorem dX9_copy_176 : decode cX9_copy 176 = .ok (.imul, 1) := by decide +kernel
theorem dX9_copy_177 : decode cX9_copy 177 = .ok (.iload 4, 2) := by decide +kernel
theorem dX9_copy_179 : decode cX9_copy 179 = .ok (.iadd, 1) := by decide +kernel
theorem dX9_copy_180 : decode cX9_copy 180 = .ok (.iload 8, 2) := by decide +kernel
theorem dX9_copy_182 : decode cX9_copy 182 = .ok (.iadd, 1) := by decide +kernel
theorem dX9_copy_183 : decode cX9_copy 183 = .ok (.aload_n 0, 1) := by decide +kernel
theorem dX9_copy_184 : decode cX9_copy 184 = .ok (.getfield 16, 3) := by decide +kernel
theorem dX9_copy_187 : decode cX9_copy 187 = .ok (.bipush 40, 2) := by decide +kernel
theorem dX9_copy_189 : decode cX9_copy 189 = .ok (.iload_n 1, 1) := by decide +kernel
theorem dX9_copy_190 : decode cX9_copy 190 = .ok (.imul, 1) := by decide +kernel
theorem dX9_copy_191 : decode cX9_copy 191 = .ok (.iload_n 2, 1) := by decide +kernel
theorem dX9_copy_192 : decode cX9_copy 192 = .ok (.iadd, 1) := by decide +kernel
theorem dX9_copy_193 : decode cX9_copy 193 = .ok (.iload 8, 2) := by decide +kernel
theorem dX9_copy_195 : decode cX9_copy 195 = .ok (.iadd, 1) := by decide +kernel
theorem dX9_copy_196 : decode cX9_copy 196 = .ok (.iaload, 1) := by decide +kernel
theorem dX9_copy_197 : decode cX9_copy 197 = .ok (.iastore, 1) := by decide +kernel
theorem dX9_copy_198 : decode cX9_copy 198 = .ok (.iinc 7 1, 3) := by decide +kernel
theorem dX9_copy_201 : decode cX9_copy 201 = .ok (.goto (-58), 3) := by decide +kernel
theorem dX9_copy_204 : decode cX9_copy 204 = .ok (.iload 5, 2) := by decide +kernel
theorem dX9_copy_206 : decode cX9_copy 206 = .ok (.ireturn, 1) := by decide +kernel
set_option maxRecDepth 20000 in
theorem ggX9_drop_X9_isRow : GoodIn wsX9_drop wsX9_isRow := goodIn_r _ [9, 10, 11, 12, 8, 13] (by decide +kernel) (by decide +kernel)
set_option maxRecDepth 20000 in
theorem gX9_drop_X9_isRow : GoodIn wsX9_drop (va_wsS RX9 64 yX9_isRow wsX9_isRow) := goodIn_app (goodIn_of _ (by decide +kernel)) ggX9_drop_X9_isRow
set_option maxRecDepth 20000 in
theorem ggX9_drop_X9_finding : GoodIn wsX9_drop wsX9_finding := goodIn_r _ [17, 3, 18, 19, 20, 21, 22, 23, 24, 25, 26, 27, 28, 29, 30, 31, 32, 33, 34, 35, 36, 37, 38, 39, 40, 41, 42, 43, 44, 45] (by decide +kernel) (by decide +kernel)
set_option maxRecDepth 20000 in
theorem gX9_drop_X9_finding : GoodIn wsX9_drop (wsV RX9 71 RX9 yX9_finding wsX9_finding) := goodIn_app (goodIn_of _ (by decide +kernel)) ggX9_drop_X9_finding
theorem dX9_drop_0 : decode cX9_drop 0 = .ok (.aload_n 0, 1) := by decide +kernel
theorem dX9_drop_1 : decode cX9_drop 1 = .ok (.iconst 0, 1) := by decide +kernel
theorem dX9_drop_2 : decode cX9_drop 2 = .ok (.putfield 50, 3) := by decide +kernel
theorem dX9_drop_5 : decode cX9_drop 5 = .ok (.iload_n 1, 1) := by decide +kernel
theorem dX9_drop_6 : decode cX9_drop 6 = .ok (.invokestatic 64, 3) := by decide +kernel
theorem dX9_drop_9 : decode cX9_drop 9 = .ok (.ifCond .ne 6, 3) := by decide +kernel
theorem dX9_drop_12 : decode cX9_drop 12 = .ok (.ldc 70, 2) := by decide +kernel
theorem dX9_drop_14 : decode cX9_drop 14 = .ok (.ireturn, 1) := by decide +kernel
theorem dX9_drop_15 : decode cX9_drop 15 = .ok (.aload_n 0, 1) := by decide +kernel
theorem dX9_drop_16 : decode cX9_drop 16 = .ok (.iconst 0, 1) := by decide +kernel
theorem dX9_drop_17 : decode cX9_drop 17 = .ok (.putfield 54, 3) := by decide +kernel
theorem dX9_drop_20 : decode cX9_drop 20 = .ok (.aload_n 0, 1) := by decide +kernel
theorem dX9_drop_21 : decode cX9_drop 21 = .ok (.getfield 7, 3) := by decide +kernel
theorem dX9_drop_24 : decode cX9_drop 24 = .ok (.iload_n 1, 1) := by decide +kernel
theorem dX9_drop_25 : decode cX9_drop 25 = .ok (.iaload, 1) := by decide +kernel
theorem dX9_drop_26 : decode cX9_drop 26 = .ok (.ifCond .ge 9, 3) := by decide +kernel
theorem dX9_drop_29 : decode cX9_drop 29 = .ok (.aload_n 0, 1) := by decide +kernel
theorem dX9_drop_30 : decode cX9_drop 30 = .ok (.iconst 1, 1) := by decide +kernel
theorem dX9_drop_31 : decode cX9_drop 31 = .ok (.invokevirtual 71, 3) := by decide +kernel
theorem dX9_drop_34 : decode cX9_drop 34 = .ok (.ireturn, 1) := by decide +kernel
theorem dX9_drop_35 : decode cX9_drop 35 = .ok (.aload_n 0, 1) := by decide +kernel
theorem dX9_drop_36 : decode cX9_drop 36 = .ok (.getfield 7, 3) := by decide +kernel
theorem dX9_drop_39 : decode cX9_drop 39 = .ok (.iload_n 1, 1) := by decide +kernel
theorem dX9_drop_40 : decode cX9_drop 40 = .ok (.iconst (-1), 1) := by decide +kernel
theorem dX9_drop_41 : decode cX9_drop 41 = .ok (.iastore, 1) := by decide +kernel
theorem dX9_drop_42 : decode cX9_drop 42 = .ok (.aload_n 0, 1) := by decide +kernel
theorem dX9_drop_43 : decode cX9_drop 43 = .ok (.getfield 13, 3) := by decide +kernel
theorem dX9_drop_46 : decode cX9_drop 46 = .ok (.iload_n 1, 1) := by decide +kernel
theorem dX9_drop_47 : decode cX9_drop 47 = .ok (.iaload, 1) := by decide +kernel
theorem dX9_drop_48 : decode cX9_drop 48 = .ok (.ireturn, 1) := by decide +kernel
set_option maxRecDepth 20000 in
theorem ggX9_feed_X9_in : GoodIn wsX9_feed wsX9_in := goodIn_r _ [11] (by decide +kernel) (by decide +kernel)
set_option maxRecDepth 20000 in
theorem gX9_feed_X9_in : GoodIn wsX9_feed (va_wsS RX9 60 yX9_in wsX9_in) := goodIn_app (goodIn_of _ (by decide +kernel)) ggX9_feed_X9_in
theorem dX9_feed_0 : decode cX9_feed 0 = .ok (.aload_n 0, 1) := by decide +kernel
theorem dX9_feed_1 : decode cX9_feed 1 = .ok (.iconst 0, 1) := by decide +kernel
theorem dX9_feed_2 : decode cX9_feed 2 = .ok (.putfield 50, 3) := by decide +kernel
theorem dX9_feed_5 : decode cX9_feed 5 = .ok (.iload_n 3, 1) := by decide +kernel
theorem dX9_feed_6 : decode cX9_feed 6 = .ok (.i2l, 1) := by decide +kernel
theorem dX9_feed_7 : decode cX9_feed 7 = .ok (.lconst 1, 1) := by decide +kernel
theorem dX9_feed_8 : decode cX9_feed 8 = .ok (.ldc2_w 75, 3) := by decide +kernel
theorem dX9_feed_11 : decode cX9_feed 11 = .ok (.invokestatic 60, 3) := by decide +kernel
theorem dX9_feed_14 : decode cX9_feed 14 = .ok (.ifCond .ne 6, 3) := by decide +kernel
theorem dX9_feed_17 : decode cX9_feed 17 = .ok (.ldc 70, 2) := by decide +kernel
theorem dX9_feed_19 : decode cX9_feed 19 = .ok (.ireturn, 1) := by decide +kernel
theorem dX9_feed_20 : decode cX9_feed 20 = .ok (.aload_n 0, 1) := by decide +kernel
theorem dX9_feed_21 : decode cX9_feed 21 = .ok (.getfield 77, 3) := by decide +kernel
theorem dX9_feed_24 : decode cX9_feed 24 = .ok (.iload_n 3, 1) := by decide +kernel
theorem dX9_feed_25 : decode cX9_feed 25 = .ok (.iadd, 1) := by decide +kernel
theorem dX9_feed_26 : decode cX9_feed 26 = .ok (.sipush 400, 3) := by decide +kernel
theorem dX9_feed_29 : decode cX9_feed 29 = .ok (.if_icmp .le 6, 3) := by decide +kernel
theorem dX9_feed_32 : decode cX9_feed 32 = .ok (.ldc 80, 2) := by decide +kernel
theorem dX9_feed_34 : decode cX9_feed 34 = .ok (.ireturn, 1) := by decide +kernel
theorem dX9_feed_35 : decode cX9_feed 35 = .ok (.iload_n 3, 1) := by decide +kernel
theorem dX9_feed_36 : decode cX9_feed 36 = .ok (.iconst 1, 1) := by decide +kernel
theorem dX9_feed_37 : decode cX9_feed 37 = .ok (.isub, 1) := by decide +kernel
theorem dX9_feed_38 : decode cX9_feed 38 = .ok (.istore 4, 2) := by decide +kernel
theorem dX9_feed_40 : decode cX9_feed 40 = .ok (.iload 4, 2) := by decide +kernel
theorem dX9_feed_42 : decode cX9_feed 42 = .ok (.ifCond .lt 40, 3) := by decide +kernel
theorem dX9_feed_45 : decode cX9_feed 45 = .ok (.aload_n 0, 1) := by decide +kernel
theorem dX9_feed_46 : decode cX9_feed 46 = .ok (.getfield 31, 3) := by decide +kernel
theorem dX9_feed_49 : decode cX9_feed 49 = .ok (.aload_n 0, 1) := by decide +kernel
theorem dX9_feed_50 : decode cX9_feed 50 = .ok (.getfield 77, 3) := by decide +kernel
theorem dX9_feed_53 : decode cX9_feed 53 = .ok (.lload_n 1, 1) := by decide +kernel
theorem dX9_feed_54 : decode cX9_feed 54 = .ok (.bipush 8, 2) := by decide +kernel
theorem dX9_feed_56 : decode cX9_feed 56 = .ok (.iload 4, 2) := by decide +kernel
theorem dX9_feed_58 : decode cX9_feed 58 = .ok (.imul, 1) := by decide +kernel
theorem dX9_feed_59 : decode cX9_feed 59 = .ok (.lshr, 1) := by decide +kernel
theorem dX9_feed_60 : decode cX9_feed 60 = .ok (.ldc2_w 81, 3) := by decide +kernel
theorem dX9_feed_63 : decode cX9_feed 63 = .ok (.land, 1) := by decide +kernel
theorem dX9_feed_64 : decode cX9_feed 64 = .ok (.l2i, 1) := by decide +kernel
theorem dX9_feed_65 : decode cX9_feed 65 = .ok (.iastore, 1) := by decide +kernel
theorem dX9_feed_66 : decode cX9_feed 66 = .ok (.aload_n 0, 1) := by decide +kernel
theorem dX9_feed_67 : decode cX9_feed 67 = .ok (.dup, 1) := by decide +kernel
theorem dX9_feed_68 : decode cX9_feed 68 = .ok (.getfield 77, 3) := by decide +kernel
theorem dX9_feed_71 : decode cX9_feed 71 = .ok (.iconst 1, 1) := by decide +kernel
theorem dX9_feed_72 : decode cX9_feed 72 = .ok (.iadd, 1) := by decide +kernel
theorem dX9_feed_73 : decode cX9_feed 73 = .ok (.putfield 77, 3) := by decide +kernel
theorem dX9_feed_76 : decode cX9_feed 76 = .ok (.iinc 4 (-1), 3) := by decide +kernel
theorem dX9_feed_79 : decode cX9_feed 79 = .ok (.goto (-39), 3) := by decide +kernel
theorem dX9_feed_82 : decode cX9_feed 82 = .ok (.aload_n 0, 1) := by decide +kernel
theorem dX9_feed_83 : decode cX9_feed 83 = .ok (.getfield 77, 3) := by decide +kernel
theorem dX9_feed_86 : decode cX9_feed 86 = .ok (.ireturn, 1) := by decide +kernel
theorem dX9_byteAt_0 : decode cX9_byteAt 0 = .ok (.iload_n 1, 1) := by decide +kernel
theorem dX9_byteAt_1 : decode cX9_byteAt 1 = .ok (.aload_n 0, 1) := by decide +kernel
theorem dX9_byteAt_2 : decode cX9_byteAt 2 = .ok (.getfield 83, 3) := by decide +kernel
theorem dX9_byteAt_5 : decode cX9_byteAt 5 = .ok (.if_icmp .ge 12, 3) := by decide +kernel
theorem dX9_byteAt_8 : decode cX9_byteAt 8 = .ok (.aload_n 0, 1) := by decide +kernel
theorem dX9_byteAt_9 : decode cX9_byteAt 9 = .ok (.getfield 31, 3) := by decide +kernel
theorem dX9_byteAt_12 : decode cX9_byteAt 12 = .ok (.iload_n 1, 1) := by decide +kernel
theorem dX9_byteAt_13 : decode cX9_byteAt 13 = .ok (.iaload, 1) := by decide +kernel
theorem dX9_byteAt_14 : decode cX9_byteAt 14 = .ok (.goto 5, 3) := by decide +kernel
theorem dX9_byteAt_17 : decode cX9_byteAt 17 = .ok (.ldc 86, 2) := by decide +kernel
theorem dX9_byteAt_19 : decode cX9_byteAt 19 = .ok (.ireturn, 1) := by decide +kernel
theorem dX9_isLetter_0 : decode cX9_isLetter 0 = .ok (.iload_n 0, 1) := by decide +kernel
theorem dX9_isLetter_1 : decode cX9_isLetter 1 = .ok (.bipush 97, 2) := by decide +kernel
theorem dX9_isLetter_3 : decode cX9_isLetter 3 = .ok (.if_icmp .lt 13, 3) := by decide +kernel
theorem dX9_isLetter_6 : decode cX9_isLetter 6 = .ok (.iload_n 0, 1) := by decide +kernel
theorem dX9_isLetter_7 : decode cX9_isLetter 7 = .ok (.bipush 122, 2) := by decide +kernel
theorem dX9_isLetter_9 : decode cX9_isLetter 9 = .ok (.if_icmp .gt 7, 3) := by decide +kernel
theorem dX9_isLetter_12 : decode cX9_isLetter 12 = .ok (.iconst 1, 1) := by decide +kernel
theorem dX9_isLetter_13 : decode cX9_isLetter 13 = .ok (.goto 4, 3) := by decide +kernel
theorem dX9_isLetter_16 : decode cX9_isLetter 16 = .ok (.iconst 0, 1) := by decide +kernel
theorem dX9_isLetter_17 : decode cX9_isLetter 17 = .ok (.ireturn, 1) := by decide +kernel
theorem dX9_isFigure_0 : decode cX9_isFigure 0 = .ok (.iload_n 0, 1) := by decide +kernel
theorem dX9_isFigure_1 : decode cX9_isFigure 1 = .ok (.bipush 48, 2) := by decide +kernel
theorem dX9_isFigure_3 : decode cX9_isFigure 3 = .ok (.if_icmp .lt 13, 3) := by decide +kernel
theorem dX9_isFigure_6 : decode cX9_isFigure 6 = .ok (.iload_n 0, 1) := by decide +kernel
theorem dX9_isFigure_7 : decode cX9_isFigure 7 = .ok (.bipush 57, 2) := by decide +kernel
theorem dX9_isFigure_9 : decode cX9_isFigure 9 = .ok (.if_icmp .gt 7, 3) := by decide +kernel
theorem dX9_isFigure_12 : decode cX9_isFigure 12 = .ok (.iconst 1, 1) := by decide +kernel
theorem dX9_isFigure_13 : decode cX9_isFigure 13 = .ok (.goto 4, 3) := by decide +kernel
theorem dX9_isFigure_16 : decode cX9_isFigure 16 = .ok (.iconst 0, 1) := by decide +kernel
theorem dX9_isFigure_17 : decode cX9_isFigure 17 = .ok (.ireturn, 1) := by decide +kernel
set_option maxRecDepth 20000 in
theorem ggX9_next_X9_byteAt : GoodIn wsX9_next wsX9_byteAt := goodIn_r _ [10, 11, 12, 3, 19, 20, 21, 22, 23, 24, 25, 26, 27, 28, 29, 30, 31, 32, 33, 34, 35, 36, 37, 38, 39, 40, 41, 42, 43, 44, 45] (by decide +kernel) (by decide +kernel)
set_option maxRecDepth 20000 in
theorem gX9_next_X9_byteAt : GoodIn wsX9_next (wsV RX9 90 RX9 yX9_byteAt wsX9_byteAt) := goodIn_app (goodIn_of _ (by decide +kernel)) ggX9_next_X9_byteAt
set_option maxRecDepth 20000 in
theorem ggX9_next_X9_isLetter : GoodIn wsX9_next wsX9_isLetter := goodIn_r _ [15] (by decide +kernel) (by decide +kernel)
set_option maxRecDepth 20000 in
theorem gX9_next_X9_isLetter : GoodIn wsX9_next (va_wsS RX9 99 yX9_isLetter wsX9_isLetter) := goodIn_app (goodIn_of _ (by decide +kernel)) ggX9_next_X9_isLetter
set_option maxRecDepth 20000 in
theorem ggX9_next_X9_isFigure : GoodIn wsX9_next wsX9_isFigure := goodIn_r _ [18] (by decide +kernel) (by decide +kernel)
set_option maxRecDepth 20000 in
theorem gX9_next_X9_isFigure : GoodIn wsX9_next (va_wsS RX9 102 yX9_isFigure wsX9_isFigure) := goodIn_app (goodIn_of _ (by decide +kernel)) ggX9_next_X9_isFigure
theorem dX9_next_0 : decode cX9_next 0 = .ok (.aload_n 0, 1) := by decide +kernel
theorem dX9_next_1 : decode cX9_next 1 = .ok (.aload_n 0, 1) := by decide +kernel
theorem dX9_next_2 : decode cX9_next 2 = .ok (.getfield 87, 3) := by decide +kernel
theorem dX9_next_5 : decode cX9_next 5 = .ok (.invokevirtual 90, 3) := by decide +kernel
theorem dX9_next_8 : decode cX9_next 8 = .ok (.bipush 32, 2) := by decide +kernel
theorem dX9_next_10 : decode cX9_next 10 = .ok (.if_icmp .eq 16, 3) := by decide +kernel
theorem dX9_next_13 : decode cX9_next 13 = .ok (.aload_n 0, 1) := by decide +kernel
theorem dX9_next_14 : decode cX9_next 14 = .ok (.aload_n 0, 1) := by decide +kernel
theorem dX9_next_15 : decode cX9_next 15 = .ok (.getfield 87, 3) := by decide +kernel
theorem dX9_next_18 : decode cX9_next 18 = .ok (.invokevirtual 90, 3) := by decide +kernel
theorem dX9_next_21 : decode cX9_next 21 = .ok (.bipush 10, 2) := by decide +kernel
theorem dX9_next_23 : decode cX9_next 23 = .ok (.if_icmp .ne 16, 3) := by decide +kernel
theorem dX9_next_26 : decode cX9_next 26 = .ok (.aload_n 0, 1) := by decide +kernel
theorem dX9_next_27 : decode cX9_next 27 = .ok (.dup, 1) := by decide +kernel
theorem dX9_next_28 : decode cX9_next 28 = .ok (.getfield 87, 3) := by decide +kernel
theorem dX9_next_31 : decode cX9_next 31 = .ok (.iconst 1, 1) := by decide +kernel
theorem dX9_next_32 : decode cX9_next 32 = .ok (.iadd, 1) := by decide +kernel
theorem dX9_next_33 : decode cX9_next 33 = .ok (.putfield 87, 3) := by decide +kernel
theorem dX9_next_36 : decode cX9_next 36 = .ok (.goto (-36), 3) := by decide +kernel
theorem dX9_next_39 : decode cX9_next 39 = .ok (.aload_n 0, 1) := by decide +kernel
theorem dX9_next_40 : decode cX9_next 40 = .ok (.aload_n 0, 1) := by decide +kernel
theorem dX9_next_41 : decode cX9_next 41 = .ok (.getfield 87, 3) := by decide +kernel
theorem dX9_next_44 : decode cX9_next 44 = .ok (.putfield 93, 3) := by decide +kernel
theorem dX9_next_47 : decode cX9_next 47 = .ok (.aload_n 0, 1) := by decide +kernel
theorem dX9_next_48 : decode cX9_next 48 = .ok (.aload_n 0, 1) := by decide +kernel
theorem dX9_next_49 : decode cX9_next 49 = .ok (.getfield 87, 3) := by decide +kernel
theorem dX9_next_52 : decode cX9_next 52 = .ok (.invokevirtual 90, 3) := by decide +kernel
theorem dX9_next_55 : decode cX9_next 55 = .ok (.istore_n 1, 1) := by decide +kernel
theorem dX9_next_56 : decode cX9_next 56 = .ok (.iload_n 1, 1) := by decide +kernel
theorem dX9_next_57 : decode cX9_next 57 = .ok (.ldc 86, 2) := by decide +kernel
theorem dX9_next_59 : decode cX9_next 59 = .ok (.if_icmp .ne 11, 3) := by decide +kernel
theorem dX9_next_62 : decode cX9_next 62 = .ok (.aload_n 0, 1) := by decide +kernel
theorem dX9_next_63 : decode cX9_next 63 = .ok (.iconst 1, 1) := by decide +kernel
theorem dX9_next_64 : decode cX9_next 64 = .ok (.putfield 96, 3) := by decide +kernel
theorem dX9_next_67 : decode cX9_next 67 = .ok (.goto 129, 3) := by decide +kernel
theorem dX9_next_70 : decode cX9_next 70 = .ok (.iload_n 1, 1) := by decide +kernel
theorem dX9_next_71 : decode cX9_next 71 = .ok (.invokestatic 99, 3) := by decide +kernel
theorem dX9_next_74 : decode cX9_next 74 = .ok (.ifCond .eq 38, 3) := by decide +kernel
theorem dX9_next_77 : decode cX9_next 77 = .ok (.aload_n 0, 1) := by decide +kernel
theorem dX9_next_78 : decode cX9_next 78 = .ok (.aload_n 0, 1) := by decide +kernel
theorem dX9_next_79 : decode cX9_next 79 = .ok (.getfield 87, 3) := by decide +kernel
theorem dX9_next_82 : decode cX9_next 82 = .ok (.invokevirtual 90, 3) := by decide +kernel
theorem dX9_next_85 : decode cX9_next 85 = .ok (.invokestatic 99, 3) := by decide +kernel
theorem dX9_next_88 : decode cX9_next 88 = .ok (.ifCond .eq 16, 3) := by decide +kernel
theorem dX9_next_91 : decode cX9_next 91 = .ok (.aload_n 0, 1) := by decide +kernel
theorem dX9_next_92 : decode cX9_next 92 = .ok (.dup, 1) := by decide +kernel
theorem dX9_next_93 : decode cX9_next 93 = .ok (.getfield 87, 3) := by decide +kernel
theorem dX9_next_96 : decode cX9_next 96 = .ok (.iconst 1, 1) := by decide +kernel
theorem dX9_next_97 : decode cX9_next 97 = .ok (.iadd, 1) := by decide +kernel
theorem dX9_next_98 : decode cX9_next 98 = .ok (.putfield 87, 3) := by decide +kernel
theorem dX9_next_101 : decode cX9_next 101 = .ok (.goto (-24), 3) := by decide +kernel
theorem dX9_next_104 : decode cX9_next 104 = .ok (.aload_n 0, 1) := by decide +kernel
theorem dX9_next_105 : decode cX9_next 105 = .ok (.iconst 2, 1) := by decide +kernel
theorem dX9_next_106 : decode cX9_next 106 = .ok (.putfield 96, 3) := by decide +kernel
theorem dX9_next_109 : decode cX9_next 109 = .ok (.goto 87, 3) := by decide +kernel
theorem dX9_next_112 : decode cX9_next 112 = .ok (.iload_n 1, 1) := by decide +kernel
theorem dX9_next_113 : decode cX9_next 113 = .ok (.invokestatic 102, 3) := by decide +kernel
theorem dX9_next_116 : decode cX9_next 116 = .ok (.ifCond .eq 55, 3) := by decide +kernel
theorem dX9_next_119 : decode cX9_next 119 = .ok (.aload_n 0, 1) := by decide +kernel
theorem dX9_next_120 : decode cX9_next 120 = .ok (.aload_n 0, 1) := by decide +kernel
theorem dX9_next_121 : decode cX9_next 121 = .ok (.getfield 87, 3) := by decide +kernel
theorem dX9_next_124 : decode cX9_next 124 = .ok (.invokevirtual 90, 3) := by decide +kernel
theorem dX9_next_127 : decode cX9_next 127 = .ok (.invokestatic 102, 3) := by decide +kernel
theorem dX9_next_130 : decode cX9_next 130 = .ok (.ifCond .eq 16, 3) := by decide +kernel
theorem dX9_next_133 : decode cX9_next 133 = .ok (.aload_n 0, 1) := by decide +kernel
theorem dX9_next_134 : decode cX9_next 134 = .ok (.dup, 1) := by decide +kernel
theorem dX9_next_135 : decode cX9_next 135 = .ok (.getfield 87, 3) := by decide +kernel
theorem dX9_next_138 : decode cX9_next 138 = .ok (.iconst 1, 1) := by decide +kernel
