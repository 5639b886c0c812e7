theorem dX9_layGifts_72 : decode cX9_layGifts 72 = .ok (.iload_n 1, 1) := by decide +kernel
theorem dX9_layGifts_73 : decode cX9_layGifts 73 = .ok (.iaload, 1) := by decide +kernel
theorem dX9_layGifts_74 : decode cX9_layGifts 74 = .ok (.goto 10, 3) := by decide +kernel
theorem dX9_layGifts_77 : decode cX9_layGifts 77 = .ok (.aload_n 0, 1) := by decide +kernel
theorem dX9_layGifts_78 : decode cX9_layGifts 78 = .ok (.getfield 34, 3) := by decide +kernel
theorem dX9_layGifts_81 : decode cX9_layGifts 81 = .ok (.iload_n 2, 1) := by decide +kernel
theorem dX9_layGifts_82 : decode cX9_layGifts 82 = .ok (.iaload, 1) := by decide +kernel
theorem dX9_layGifts_83 : decode cX9_layGifts 83 = .ok (.ineg, 1) := by decide +kernel
theorem dX9_layGifts_84 : decode cX9_layGifts 84 = .ok (.istore_n 3, 1) := by decide +kernel
theorem dX9_layGifts_85 : decode cX9_layGifts 85 = .ok (.aload_n 0, 1) := by decide +kernel
theorem dX9_layGifts_86 : decode cX9_layGifts 86 = .ok (.getfield 37, 3) := by decide +kernel
theorem dX9_layGifts_89 : decode cX9_layGifts 89 = .ok (.iconst 3, 1) := by decide +kernel
theorem dX9_layGifts_90 : decode cX9_layGifts 90 = .ok (.aload_n 0, 1) := by decide +kernel
theorem dX9_layGifts_91 : decode cX9_layGifts 91 = .ok (.getfield 230, 3) := by decide +kernel
theorem dX9_layGifts_94 : decode cX9_layGifts 94 = .ok (.imul, 1) := by decide +kernel
theorem dX9_layGifts_95 : decode cX9_layGifts 95 = .ok (.iload_n 1, 1) := by decide +kernel
theorem dX9_layGifts_96 : decode cX9_layGifts 96 = .ok (.iastore, 1) := by decide +kernel
theorem dX9_layGifts_97 : decode cX9_layGifts 97 = .ok (.aload_n 0, 1) := by decide +kernel
theorem dX9_layGifts_98 : decode cX9_layGifts 98 = .ok (.getfield 37, 3) := by decide +kernel
theorem dX9_layGifts_101 : decode cX9_layGifts 101 = .ok (.iconst 3, 1) := by decide +kernel
theorem dX9_layGifts_102 : decode cX9_layGifts 102 = .ok (.aload_n 0, 1) := by decide +kernel
theorem dX9_layGifts_103 : decode cX9_layGifts 103 = .ok (.getfield 230, 3) := by decide +kernel
theorem dX9_layGifts_106 : decode cX9_layGifts 106 = .ok (.imul, 1) := by decide +kernel
theorem dX9_layGifts_107 : decode cX9_layGifts 107 = .ok (.iconst 1, 1) := by decide +kernel
theorem dX9_layGifts_108 : decode cX9_layGifts 108 = .ok (.iadd, 1) := by decide +kernel
theorem dX9_layGifts_109 : decode cX9_layGifts 109 = .ok (.iload_n 2, 1) := by decide +kernel
theorem dX9_layGifts_110 : decode cX9_layGifts 110 = .ok (.iastore, 1) := by decide +kernel
theorem dX9_layGifts_111 : decode cX9_layGifts 111 = .ok (.aload_n 0, 1) := by decide +kernel
theorem dX9_layGifts_112 : decode cX9_layGifts 112 = .ok (.getfield 37, 3) := by decide +kernel
theorem dX9_layGifts_115 : decode cX9_layGifts 115 = .ok (.iconst 3, 1) := by decide +kernel
theorem dX9_layGifts_116 : decode cX9_layGifts 116 = .ok (.aload_n 0, 1) := by decide +kernel
theorem dX9_layGifts_117 : decode cX9_layGifts 117 = .ok (.getfield 230, 3) := by decide +kernel
theorem dX9_layGifts_120 : decode cX9_layGifts 120 = .ok (.imul, 1) := by decide +kernel
theorem dX9_layGifts_121 : decode cX9_layGifts 121 = .ok (.iconst 2, 1) := by decide +kernel
theorem dX9_layGifts_122 : decode cX9_layGifts 122 = .ok (.iadd, 1) := by decide +kernel
theorem dX9_layGifts_123 : decode cX9_layGifts 123 = .ok (.iload_n 3, 1) := by decide +kernel
theorem dX9_layGifts_124 : decode cX9_layGifts 124 = .ok (.iastore, 1) := by decide +kernel
theorem dX9_layGifts_125 : decode cX9_layGifts 125 = .ok (.aload_n 0, 1) := by decide +kernel
theorem dX9_layGifts_126 : decode cX9_layGifts 126 = .ok (.dup, 1) := by decide +kernel
theorem dX9_layGifts_127 : decode cX9_layGifts 127 = .ok (.getfield 230, 3) := by decide +kernel
theorem dX9_layGifts_130 : decode cX9_layGifts 130 = .ok (.iconst 1, 1) := by decide +kernel
theorem dX9_layGifts_131 : decode cX9_layGifts 131 = .ok (.iadd, 1) := by decide +kernel
theorem dX9_layGifts_132 : decode cX9_layGifts 132 = .ok (.putfield 230, 3) := by decide +kernel
theorem dX9_layGifts_135 : decode cX9_layGifts 135 = .ok (.aload_n 0, 1) := by decide +kernel
theorem dX9_layGifts_136 : decode cX9_layGifts 136 = .ok (.getfield 34, 3) := by decide +kernel
theorem dX9_layGifts_139 : decode cX9_layGifts 139 = .ok (.iload_n 1, 1) := by decide +kernel
theorem dX9_layGifts_140 : decode cX9_layGifts 140 = .ok (.dup2, 1) := by decide +kernel
theorem dX9_layGifts_141 : decode cX9_layGifts 141 = .ok (.iaload, 1) := by decide +kernel
theorem dX9_layGifts_142 : decode cX9_layGifts 142 = .ok (.iload_n 3, 1) := by decide +kernel
theorem dX9_layGifts_143 : decode cX9_layGifts 143 = .ok (.isub, 1) := by decide +kernel
theorem dX9_layGifts_144 : decode cX9_layGifts 144 = .ok (.iastore, 1) := by decide +kernel
theorem dX9_layGifts_145 : decode cX9_layGifts 145 = .ok (.aload_n 0, 1) := by decide +kernel
theorem dX9_layGifts_146 : decode cX9_layGifts 146 = .ok (.getfield 34, 3) := by decide +kernel
theorem dX9_layGifts_149 : decode cX9_layGifts 149 = .ok (.iload_n 2, 1) := by decide +kernel
theorem dX9_layGifts_150 : decode cX9_layGifts 150 = .ok (.dup2, 1) := by decide +kernel
theorem dX9_layGifts_151 : decode cX9_layGifts 151 = .ok (.iaload, 1) := by decide +kernel
theorem dX9_layGifts_152 : decode cX9_layGifts 152 = .ok (.iload_n 3, 1) := by decide +kernel
theorem dX9_layGifts_153 : decode cX9_layGifts 153 = .ok (.iadd, 1) := by decide +kernel
theorem dX9_layGifts_154 : decode cX9_layGifts 154 = .ok (.iastore, 1) := by decide +kernel
theorem dX9_layGifts_155 : decode cX9_layGifts 155 = .ok (.aload_n 0, 1) := by decide +kernel
theorem dX9_layGifts_156 : decode cX9_layGifts 156 = .ok (.iconst 1, 1) := by decide +kernel
theorem dX9_layGifts_157 : decode cX9_layGifts 157 = .ok (.invokevirtual 233, 3) := by decide +kernel
theorem dX9_layGifts_160 : decode cX9_layGifts 160 = .ok (.istore_n 1, 1) := by decide +kernel
theorem dX9_layGifts_161 : decode cX9_layGifts 161 = .ok (.goto (-121), 3) := by decide +kernel
theorem dX9_layGifts_164 : decode cX9_layGifts 164 = .ok (.return_, 1) := by decide +kernel
set_option maxRecDepth 20000 in
theorem ggX9_settle_X9_isThere : GoodIn wsX9_settle wsX9_isThere := goodIn_r _ [10, 4, 41, 42, 43, 44, 45, 46, 47, 48, 49, 50, 51, 52, 53, 54, 55, 56, 57, 58, 59, 60, 61, 62, 63, 64, 65, 66, 67] (by decide +kernel) (by decide +kernel)
set_option maxRecDepth 20000 in
theorem gX9_settle_X9_isThere : GoodIn wsX9_settle (wsV RX9 192 RX9 yX9_isThere wsX9_isThere) := goodIn_app (goodIn_of _ (by decide +kernel)) ggX9_settle_X9_isThere
set_option maxRecDepth 20000 in
theorem ggX9_settle_X9_canNet : GoodIn wsX9_settle wsX9_canNet := goodIn_r _ [14, 4, 15, 16, 9, 17, 18, 19, 20, 21, 22, 23, 24, 41, 42, 43, 44, 45, 46, 47, 48, 49, 50, 51, 52, 53, 54, 55, 56, 57, 58, 59, 60, 61, 62, 63, 64, 65, 66, 67] (by decide +kernel) (by decide +kernel)
set_option maxRecDepth 20000 in
theorem gX9_settle_X9_canNet : GoodIn wsX9_settle (wsV RX9 236 RX9 yX9_canNet wsX9_canNet) := goodIn_app (goodIn_of _ (by decide +kernel)) ggX9_settle_X9_canNet
set_option maxRecDepth 20000 in
theorem ggX9_settle_X9_keep : GoodIn wsX9_settle wsX9_keep := goodIn_r _ [28, 29, 30, 4, 41, 42, 43, 44, 45, 46, 47, 48, 49, 50, 51, 52, 53, 54, 55, 56, 57, 58, 59, 60, 61, 62, 63, 64, 65, 66, 67] (by decide +kernel) (by decide +kernel)
set_option maxRecDepth 20000 in
theorem gX9_settle_X9_keep : GoodIn wsX9_settle (wsV RX9 199 RX9 yX9_keep wsX9_keep) := goodIn_app (goodIn_of _ (by decide +kernel)) ggX9_settle_X9_keep
set_option maxRecDepth 20000 in
theorem ggX9_settle_X9_layGifts : GoodIn wsX9_settle wsX9_layGifts := goodIn_r _ [34, 3, 4, 35, 36, 5, 18, 19, 20, 9, 21, 22, 23, 24, 37, 38, 39, 40, 41, 42, 43, 44, 45, 46, 47, 48, 49, 50, 51, 52, 53, 54, 55, 56, 57, 58, 59, 60, 61, 62, 63, 64, 65, 66, 67] (by decide +kernel) (by decide +kernel)
set_option maxRecDepth 20000 in
theorem gX9_settle_X9_layGifts : GoodIn wsX9_settle (wsV RX9 239 RX9 yX9_layGifts wsX9_layGifts) := goodIn_app (goodIn_of _ (by decide +kernel)) ggX9_settle_X9_layGifts
set_option maxRecDepth 20000 in
theorem ggX9_settle_X9_at : GoodIn wsX9_settle wsX9_at := goodIn_r _ [17] (by decide +kernel) (by decide +kernel)
set_option maxRecDepth 20000 in
theorem gX9_settle_X9_at : GoodIn wsX9_settle (va_wsS RX9 180 yX9_at wsX9_at) := goodIn_app (goodIn_of _ (by decide +kernel)) ggX9_settle_X9_at
theorem dX9_settle_0 : decode cX9_settle 0 = .ok (.aload_n 0, 1) := by decide +kernel
theorem dX9_settle_1 : decode cX9_settle 1 = .ok (.iconst 0, 1) := by decide +kernel
theorem dX9_settle_2 : decode cX9_settle 2 = .ok (.putfield 50, 3) := by decide +kernel
theorem dX9_settle_5 : decode cX9_settle 5 = .ok (.aload_n 0, 1) := by decide +kernel
theorem dX9_settle_6 : decode cX9_settle 6 = .ok (.invokevirtual 192, 3) := by decide +kernel
theorem dX9_settle_9 : decode cX9_settle 9 = .ok (.ifCond .eq 10, 3) := by decide +kernel
theorem dX9_settle_12 : decode cX9_settle 12 = .ok (.aload_n 0, 1) := by decide +kernel
theorem dX9_settle_13 : decode cX9_settle 13 = .ok (.invokevirtual 236, 3) := by decide +kernel
theorem dX9_settle_16 : decode cX9_settle 16 = .ok (.ifCond .ne 6, 3) := by decide +kernel
theorem dX9_settle_19 : decode cX9_settle 19 = .ok (.ldc 196, 2) := by decide +kernel
theorem dX9_settle_21 : decode cX9_settle 21 = .ok (.ireturn, 1) := by decide +kernel
theorem dX9_settle_22 : decode cX9_settle 22 = .ok (.aload_n 0, 1) := by decide +kernel
theorem dX9_settle_23 : decode cX9_settle 23 = .ok (.invokevirtual 199, 3) := by decide +kernel
theorem dX9_settle_26 : decode cX9_settle 26 = .ok (.aload_n 0, 1) := by decide +kernel
theorem dX9_settle_27 : decode cX9_settle 27 = .ok (.invokevirtual 239, 3) := by decide +kernel
theorem dX9_settle_30 : decode cX9_settle 30 = .ok (.iconst 0, 1) := by decide +kernel
theorem dX9_settle_31 : decode cX9_settle 31 = .ok (.istore_n 1, 1) := by decide +kernel
theorem dX9_settle_32 : decode cX9_settle 32 = .ok (.iconst 0, 1) := by decide +kernel
theorem dX9_settle_33 : decode cX9_settle 33 = .ok (.istore_n 2, 1) := by decide +kernel
theorem dX9_settle_34 : decode cX9_settle 34 = .ok (.iload_n 2, 1) := by decide +kernel
theorem dX9_settle_35 : decode cX9_settle 35 = .ok (.aload_n 0, 1) := by decide +kernel
theorem dX9_settle_36 : decode cX9_settle 36 = .ok (.getfield 230, 3) := by decide +kernel
theorem dX9_settle_39 : decode cX9_settle 39 = .ok (.if_icmp .ge 84, 3) := by decide +kernel
theorem dX9_settle_42 : decode cX9_settle 42 = .ok (.aload_n 0, 1) := by decide +kernel
theorem dX9_settle_43 : decode cX9_settle 43 = .ok (.getfield 19, 3) := by decide +kernel
theorem dX9_settle_46 : decode cX9_settle 46 = .ok (.aload_n 0, 1) := by decide +kernel
theorem dX9_settle_47 : decode cX9_settle 47 = .ok (.getfield 37, 3) := by decide +kernel
theorem dX9_settle_50 : decode cX9_settle 50 = .ok (.iconst 3, 1) := by decide +kernel
theorem dX9_settle_51 : decode cX9_settle 51 = .ok (.iload_n 2, 1) := by decide +kernel
theorem dX9_settle_52 : decode cX9_settle 52 = .ok (.imul, 1) := by decide +kernel
theorem dX9_settle_53 : decode cX9_settle 53 = .ok (.iaload, 1) := by decide +kernel
theorem dX9_settle_54 : decode cX9_settle 54 = .ok (.iconst 1, 1) := by decide +kernel
theorem dX9_settle_55 : decode cX9_settle 55 = .ok (.invokestatic 180, 3) := by decide +kernel
theorem dX9_settle_58 : decode cX9_settle 58 = .ok (.dup2, 1) := by decide +kernel
theorem dX9_settle_59 : decode cX9_settle 59 = .ok (.iaload, 1) := by decide +kernel
theorem dX9_settle_60 : decode cX9_settle 60 = .ok (.aload_n 0, 1) := by decide +kernel
theorem dX9_settle_61 : decode cX9_settle 61 = .ok (.getfield 37, 3) := by decide +kernel
theorem dX9_settle_64 : decode cX9_settle 64 = .ok (.iconst 3, 1) := by decide +kernel
theorem dX9_settle_65 : decode cX9_settle 65 = .ok (.iload_n 2, 1) := by decide +kernel
theorem dX9_settle_66 : decode cX9_settle 66 = .ok (.imul, 1) := by decide +kernel
theorem dX9_settle_67 : decode cX9_settle 67 = .ok (.iconst 2, 1) := by decide +kernel
theorem dX9_settle_68 : decode cX9_settle 68 = .ok (.iadd, 1) := by decide +kernel
theorem dX9_settle_69 : decode cX9_settle 69 = .ok (.iaload, 1) := by decide +kernel
theorem dX9_settle_70 : decode cX9_settle 70 = .ok (.isub, 1) := by decide +kernel
theorem dX9_settle_71 : decode cX9_settle 71 = .ok (.iastore, 1) := by decide +kernel
theorem dX9_settle_72 : decode cX9_settle 72 = .ok (.aload_n 0, 1) := by decide +kernel
theorem dX9_settle_73 : decode cX9_settle 73 = .ok (.getfield 19, 3) := by decide +kernel
theorem dX9_settle_76 : decode cX9_settle 76 = .ok (.aload_n 0, 1) := by decide +kernel
theorem dX9_settle_77 : decode cX9_settle 77 = .ok (.getfield 37, 3) := by decide +kernel
theorem dX9_settle_80 : decode cX9_settle 80 = .ok (.iconst 3, 1) := by decide +kernel
theorem dX9_settle_81 : decode cX9_settle 81 = .ok (.iload_n 2, 1) := by decide +kernel
theorem dX9_settle_82 : decode cX9_settle 82 = .ok (.imul, 1) := by decide +kernel
theorem dX9_settle_83 : decode cX9_settle 83 = .ok (.iconst 1, 1) := by decide +kernel
theorem dX9_settle_84 : decode cX9_settle 84 = .ok (.iadd, 1) := by decide +kernel
theorem dX9_settle_85 : decode cX9_settle 85 = .ok (.iaload, 1) := by decide +kernel
theorem dX9_settle_86 : decode cX9_settle 86 = .ok (.iconst 1, 1) := by decide +kernel
theorem dX9_settle_87 : decode cX9_settle 87 = .ok (.invokestatic 180, 3) := by decide +kernel
theorem dX9_settle_90 : decode cX9_settle 90 = .ok (.dup2, 1) := by decide +kernel
theorem dX9_settle_91 : decode cX9_settle 91 = .ok (.iaload, 1) := by decide +kernel
theorem dX9_settle_92 : decode cX9_settle 92 = .ok (.aload_n 0, 1) := by decide +kernel
theorem dX9_settle_93 : decode cX9_settle 93 = .ok (.getfield 37, 3) := by decide +kernel
theorem dX9_settle_96 : decode cX9_settle 96 = .ok (.iconst 3, 1) := by decide +kernel
theorem dX9_settle_97 : decode cX9_settle 97 = .ok (.iload_n 2, 1) := by decide +kernel
theorem dX9_settle_98 : decode cX9_settle 98 = .ok (.imul, 1) := by decide +kernel
theorem dX9_settle_99 : decode cX9_settle 99 = .ok (.iconst 2, 1) := by decide +kernel
theorem dX9_settle_100 : decode cX9_settle 100 = .ok (.iadd, 1) := by decide +kernel
theorem dX9_settle_101 : decode cX9_settle 101 = .ok (.iaload, 1) := by decide +kernel
theorem dX9_settle_102 : decode cX9_settle 102 = .ok (.iadd, 1) := by decide +kernel
theorem dX9_settle_103 : decode cX9_settle 103 = .ok (.iastore, 1) := by decide +kernel
theorem dX9_settle_104 : decode cX9_settle 104 = .ok (.iload_n 1, 1) := by decide +kernel
theorem dX9_settle_105 : decode cX9_settle 105 = .ok (.aload_n 0, 1) := by decide +kernel
theorem dX9_settle_106 : decode cX9_settle 106 = .ok (.getfield 37, 3) := by decide +kernel
theorem dX9_settle_109 : decode cX9_settle 109 = .ok (.iconst 3, 1) := by decide +kernel
theorem dX9_settle_110 : decode cX9_settle 110 = .ok (.iload_n 2, 1) := by decide +kernel
theorem dX9_settle_111 : decode cX9_settle 111 = .ok (.imul, 1) := by decide +kernel
theorem dX9_settle_112 : decode cX9_settle 112 = .ok (.iconst 2, 1) := by decide +kernel
theorem dX9_settle_113 : decode cX9_settle 113 = .ok (.iadd, 1) := by decide +kernel
theorem dX9_settle_114 : decode cX9_settle 114 = .ok (.iaload, 1) := by decide +kernel
theorem dX9_settle_115 : decode cX9_settle 115 = .ok (.iadd, 1) := by decide +kernel
theorem dX9_settle_116 : decode cX9_settle 116 = .ok (.istore_n 1, 1) := by decide +kernel
theorem dX9_settle_117 : decode cX9_settle 117 = .ok (.iinc 2 1, 3) := by decide +kernel
theorem dX9_settle_120 : decode cX9_settle 120 = .ok (.goto (-86), 3) := by decide +kernel
theorem dX9_settle_123 : decode cX9_settle 123 = .ok (.bipush 39, 2) := by decide +kernel
theorem dX9_settle_125 : decode cX9_settle 125 = .ok (.istore_n 2, 1) := by decide +kernel
theorem dX9_settle_126 : decode cX9_settle 126 = .ok (.iload_n 2, 1) := by decide +kernel
theorem dX9_settle_127 : decode cX9_settle 127 = .ok (.bipush 75, 2) := by decide +kernel
theorem dX9_settle_129 : decode cX9_settle 129 = .ok (.if_icmp .ge 16, 3) := by decide +kernel
theorem dX9_settle_132 : decode cX9_settle 132 = .ok (.aload_n 0, 1) := by decide +kernel
theorem dX9_settle_133 : decode cX9_settle 133 = .ok (.getfield 19, 3) := by decide +kernel
theorem dX9_settle_136 : decode cX9_settle 136 = .ok (.iload_n 2, 1) := by decide +kernel
theorem dX9_settle_137 : decode cX9_settle 137 = .ok (.iconst 0, 1) := by decide +kernel
theorem dX9_settle_138 : decode cX9_settle 138 = .ok (.iastore, 1) := by decide +kernel
theorem dX9_settle_139 : decode cX9_settle 139 = .ok (.iinc 2 1, 3) := by decide +kernel
theorem dX9_settle_142 : decode cX9_settle 142 = .ok (.goto (-16), 3) := by decide +kernel
theorem dX9_settle_145 : decode cX9_settle 145 = .ok (.iload_n 1, 1) := by decide +kernel
theorem dX9_settle_146 : decode cX9_settle 146 = .ok (.ireturn, 1) := by decide +kernel
theorem dX9_undo_0 : decode cX9_undo 0 = .ok (.aload_n 0, 1) := by decide +kernel
theorem dX9_undo_1 : decode cX9_undo 1 = .ok (.iconst 0, 1) := by decide +kernel
theorem dX9_undo_2 : decode cX9_undo 2 = .ok (.putfield 50, 3) := by decide +kernel
theorem dX9_undo_5 : decode cX9_undo 5 = .ok (.aload_n 0, 1) := by decide +kernel
theorem dX9_undo_6 : decode cX9_undo 6 = .ok (.getfield 171, 3) := by decide +kernel
theorem dX9_undo_9 : decode cX9_undo 9 = .ok (.ifCond .ne 6, 3) := by decide +kernel
theorem dX9_undo_12 : decode cX9_undo 12 = .ok (.ldc 196, 2) := by decide +kernel
theorem dX9_undo_14 : decode cX9_undo 14 = .ok (.ireturn, 1) := by decide +kernel
theorem dX9_undo_15 : decode cX9_undo 15 = .ok (.aload_n 0, 1) := by decide +kernel
theorem dX9_undo_16 : decode cX9_undo 16 = .ok (.dup, 1) := by decide +kernel
theorem dX9_undo_17 : decode cX9_undo 17 = .ok (.getfield 171, 3) := by decide +kernel
theorem dX9_undo_20 : decode cX9_undo 20 = .ok (.iconst 1, 1) := by decide +kernel
theorem dX9_undo_21 : decode cX9_undo 21 = .ok (.isub, 1) := by decide +kernel
theorem dX9_undo_22 : decode cX9_undo 22 = .ok (.putfield 171, 3) := by decide +kernel
theorem dX9_undo_25 : decode cX9_undo 25 = .ok (.iconst 0, 1) := by decide +kernel
theorem dX9_undo_26 : decode cX9_undo 26 = .ok (.istore_n 1, 1) := by decide +kernel
theorem dX9_undo_27 : decode cX9_undo 27 = .ok (.iload_n 1, 1) := by decide +kernel
theorem dX9_undo_28 : decode cX9_undo 28 = .ok (.bipush 75, 2) := by decide +kernel
theorem dX9_undo_30 : decode cX9_undo 30 = .ok (.if_icmp .ge 29, 3) := by decide +kernel
theorem dX9_undo_33 : decode cX9_undo 33 = .ok (.aload_n 0, 1) := by decide +kernel
theorem dX9_undo_34 : decode cX9_undo 34 = .ok (.getfield 19, 3) := by decide +kernel
theorem dX9_undo_37 : decode cX9_undo 37 = .ok (.iload_n 1, 1) := by decide +kernel
theorem dX9_undo_38 : decode cX9_undo 38 = .ok (.aload_n 0, 1) := by decide +kernel
theorem dX9_undo_39 : decode cX9_undo 39 = .ok (.getfield 28, 3) := by decide +kernel
theorem dX9_undo_42 : decode cX9_undo 42 = .ok (.bipush 75, 2) := by decide +kernel
theorem dX9_undo_44 : decode cX9_undo 44 = .ok (.aload_n 0, 1) := by decide +kernel
theorem dX9_undo_45 : decode cX9_undo 45 = .ok (.getfield 171, 3) := by decide +kernel
theorem dX9_undo_48 : decode cX9_undo 48 = .ok (.imul, 1) := by decide +kernel
theorem dX9_undo_49 : decode cX9_undo 49 = .ok (.iload_n 1, 1) := by decide +kernel
theorem dX9_undo_50 : decode cX9_undo 50 = .ok (.iadd, 1) := by decide +kernel
theorem dX9_undo_51 : decode cX9_undo 51 = .ok (.iaload, 1) := by decide +kernel
theorem dX9_undo_52 : decode cX9_undo 52 = .ok (.iastore, 1) := by decide +kernel
theorem dX9_undo_53 : decode cX9_undo 53 = .ok (.iinc 1 1, 3) := by decide +kernel
theorem dX9_undo_56 : decode cX9_undo 56 = .ok (.goto (-29), 3) := by decide +kernel
theorem dX9_undo_59 : decode cX9_undo 59 = .ok (.aload_n 0, 1) := by decide +kernel
theorem dX9_undo_60 : decode cX9_undo 60 = .ok (.getfield 171, 3) := by decide +kernel
theorem dX9_undo_63 : decode cX9_undo 63 = .ok (.ireturn, 1) := by decide +kernel
set_option maxRecDepth 20000 in
theorem ggX9_water_X9_isWater : GoodIn wsX9_water wsX9_isWater := goodIn_r _ [9, 4, 10, 11, 8, 12, 23, 24, 25, 26, 27, 28, 29, 30, 31, 32, 33, 34, 35, 36, 37, 38, 39, 40, 41, 42, 43, 44, 45, 46, 47, 48, 49] (by decide +kernel) (by decide +kernel)
set_option maxRecDepth 20000 in
theorem gX9_water_X9_isWater : GoodIn wsX9_water (wsV RX9 174 RX9 yX9_isWater wsX9_isWater) := goodIn_app (goodIn_of _ (by decide +kernel)) ggX9_water_X9_isWater
set_option maxRecDepth 20000 in
theorem ggX9_water_X9_in : GoodIn wsX9_water wsX9_in := goodIn_r _ [12] (by decide +kernel) (by decide +kernel)
set_option maxRecDepth 20000 in
theorem gX9_water_X9_in : GoodIn wsX9_water (va_wsS RX9 60 yX9_in wsX9_in) := goodIn_app (goodIn_of _ (by decide +kernel)) ggX9_water_X9_in
set_option maxRecDepth 20000 in
theorem ggX9_water_X9_balanceOf : GoodIn wsX9_water wsX9_balanceOf := goodIn_r _ [16, 4, 17, 18, 8, 19, 23, 24, 25, 26, 27, 28, 29, 30, 31, 32, 33, 34, 35, 36, 37, 38, 39, 40, 41, 42, 43, 44, 45, 46, 47, 48, 49] (by decide +kernel) (by decide +kernel)
set_option maxRecDepth 20000 in
theorem gX9_water_X9_balanceOf : GoodIn wsX9_water (wsV RX9 227 RX9 yX9_balanceOf wsX9_balanceOf) := goodIn_app (goodIn_of _ (by decide +kernel)) ggX9_water_X9_balanceOf
set_option maxRecDepth 20000 in
theorem ggX9_water_X9_at : GoodIn wsX9_water wsX9_at := goodIn_r _ [22] (by decide +kernel) (by decide +kernel)
set_option maxRecDepth 20000 in
theorem gX9_water_X9_at : GoodIn wsX9_water (va_wsS RX9 180 yX9_at wsX9_at) := goodIn_app (goodIn_of _ (by decide +kernel)) ggX9_water_X9_at
theorem dX9_water_0 : decode cX9_water 0 = .ok (.aload_n 0, 1) := by decide +kernel
theorem dX9_water_1 : decode cX9_water 1 = .ok (.iconst 0, 1) := by decide +kernel
theorem dX9_water_2 : decode cX9_water 2 = .ok (.putfield 50, 3) := by decide +kernel
theorem dX9_water_5 : decode cX9_water 5 = .ok (.aload_n 0, 1) := by decide +kernel
theorem dX9_water_6 : decode cX9_water 6 = .ok (.iload_n 1, 1) := by decide +kernel
theorem dX9_water_7 : decode cX9_water 7 = .ok (.invokevirtual 174, 3) := by decide +kernel
theorem dX9_water_10 : decode cX9_water 10 = .ok (.ifCond .eq 15, 3) := by decide +kernel
theorem dX9_water_13 : decode cX9_water 13 = .ok (.iload_n 2, 1) := by decide +kernel
theorem dX9_water_14 : decode cX9_water 14 = .ok (.i2l, 1) := by decide +kernel
theorem dX9_water_15 : decode cX9_water 15 = .ok (.lconst 0, 1) := by decide +kernel
theorem dX9_water_16 : decode cX9_water 16 = .ok (.ldc2_w 242, 3) := by decide +kernel
theorem dX9_water_19 : decode cX9_water 19 = .ok (.invokestatic 60, 3) := by decide +kernel
theorem dX9_water_22 : decode cX9_water 22 = .ok (.ifCond .ne 6, 3) := by decide +kernel
theorem dX9_water_25 : decode cX9_water 25 = .ok (.ldc 70, 2) := by decide +kernel
theorem dX9_water_27 : decode cX9_water 27 = .ok (.ireturn, 1) := by decide +kernel
theorem dX9_water_28 : decode cX9_water 28 = .ok (.iload_n 2, 1) := by decide +kernel
theorem dX9_water_29 : decode cX9_water 29 = .ok (.iconst 3, 1) := by decide +kernel
theorem dX9_water_30 : decode cX9_water 30 = .ok (.if_icmp .ne 11, 3) := by decide +kernel
theorem dX9_water_33 : decode cX9_water 33 = .ok (.aload_n 0, 1) := by decide +kernel
theorem dX9_water_34 : decode cX9_water 34 = .ok (.iload_n 1, 1) := by decide +kernel
theorem dX9_water_35 : decode cX9_water 35 = .ok (.invokevirtual 227, 3) := by decide +kernel
theorem dX9_water_38 : decode cX9_water 38 = .ok (.goto 15, 3) := by decide +kernel
theorem dX9_water_41 : decode cX9_water 41 = .ok (.aload_n 0, 1) := by decide +kernel
theorem dX9_water_42 : decode cX9_water 42 = .ok (.getfield 19, 3) := by decide +kernel
theorem dX9_water_45 : decode cX9_water 45 = .ok (.iload_n 1, 1) := by decide +kernel
theorem dX9_water_46 : decode cX9_water 46 = .ok (.iconst 1, 1) := by decide +kernel
theorem dX9_water_47 : decode cX9_water 47 = .ok (.iload_n 2, 1) := by decide +kernel
theorem dX9_water_48 : decode cX9_water 48 = .ok (.iadd, 1) := by decide +kernel
theorem dX9_water_49 : decode cX9_water 49 = .ok (.invokestatic 180, 3) := by decide +kernel
theorem dX9_water_52 : decode cX9_water 52 = .ok (.iaload, 1) := by decide +kernel
theorem dX9_water_53 : decode cX9_water 53 = .ok (.ireturn, 1) := by decide +kernel
set_option maxRecDepth 20000 in
theorem ggX9_owes_X9_areTwo : GoodIn wsX9_owes wsX9_areTwo := goodIn_r _ [8, 9, 10, 11, 7, 12, 2, 13, 14, 15, 19, 20, 21, 22, 23, 24, 25, 26, 27, 28, 29, 30, 31, 32, 33, 34, 35, 36, 37, 38, 39, 40, 41, 42, 43, 44, 45] (by decide +kernel) (by decide +kernel)
set_option maxRecDepth 20000 in
theorem gX9_owes_X9_areTwo : GoodIn wsX9_owes (wsV RX9 208 RX9 yX9_areTwo wsX9_areTwo) := goodIn_app (goodIn_of _ (by decide +kernel)) ggX9_owes_X9_areTwo
set_option maxRecDepth 20000 in
theorem ggX9_owes_X9_debt : GoodIn wsX9_owes wsX9_debt := goodIn_r _ [18] (by decide +kernel) (by decide +kernel)
set_option maxRecDepth 20000 in
theorem gX9_owes_X9_debt : GoodIn wsX9_owes (va_wsS RX9 214 yX9_debt wsX9_debt) := goodIn_app (goodIn_of _ (by decide +kernel)) ggX9_owes_X9_debt
theorem dX9_owes_0 : decode cX9_owes 0 = .ok (.aload_n 0, 1) := by decide +kernel
theorem dX9_owes_1 : decode cX9_owes 1 = .ok (.iconst 0, 1) := by decide +kernel
theorem dX9_owes_2 : decode cX9_owes 2 = .ok (.putfield 50, 3) := by decide +kernel
theorem dX9_owes_5 : decode cX9_owes 5 = .ok (.aload_n 0, 1) := by decide +kernel
theorem dX9_owes_6 : decode cX9_owes 6 = .ok (.iload_n 1, 1) := by decide +kernel
theorem dX9_owes_7 : decode cX9_owes 7 = .ok (.iload_n 2, 1) := by decide +kernel
theorem dX9_owes_8 : decode cX9_owes 8 = .ok (.invokevirtual 208, 3) := by decide +kernel
theorem dX9_owes_11 : decode cX9_owes 11 = .ok (.ifCond .eq 16, 3) := by decide +kernel
theorem dX9_owes_14 : decode cX9_owes 14 = .ok (.aload_n 0, 1) := by decide +kernel
theorem dX9_owes_15 : decode cX9_owes 15 = .ok (.getfield 19, 3) := by decide +kernel
theorem dX9_owes_18 : decode cX9_owes 18 = .ok (.iload_n 1, 1) := by decide +kernel
theorem dX9_owes_19 : decode cX9_owes 19 = .ok (.iload_n 2, 1) := by decide +kernel
theorem dX9_owes_20 : decode cX9_owes 20 = .ok (.invokestatic 214, 3) := by decide +kernel
theorem dX9_owes_23 : decode cX9_owes 23 = .ok (.iaload, 1) := by decide +kernel
theorem dX9_owes_24 : decode cX9_owes 24 = .ok (.goto 5, 3) := by decide +kernel
theorem dX9_owes_27 : decode cX9_owes 27 = .ok (.ldc 70, 2) := by decide +kernel
theorem dX9_owes_29 : decode cX9_owes 29 = .ok (.ireturn, 1) := by decide +kernel
set_option maxRecDepth 20000 in
theorem ggX9_ahead_X9_isWater : GoodIn wsX9_ahead wsX9_isWater := goodIn_r _ [11, 5, 12, 13, 10, 14, 42, 43, 44, 45, 46, 47, 48, 49, 50, 51, 52, 53, 54, 55, 56, 57, 58, 59, 60, 61, 62, 63, 64, 65, 66, 67, 68] (by decide +kernel) (by decide +kernel)
set_option maxRecDepth 20000 in
theorem gX9_ahead_X9_isWater : GoodIn wsX9_ahead (wsV RX9 174 RX9 yX9_isWater wsX9_isWater) := goodIn_app (goodIn_of _ (by decide +kernel)) ggX9_ahead_X9_isWater
set_option maxRecDepth 20000 in
theorem ggX9_ahead_X9_in : GoodIn wsX9_ahead wsX9_in := goodIn_r _ [14] (by decide +kernel) (by decide +kernel)
set_option maxRecDepth 20000 in
theorem gX9_ahead_X9_in : GoodIn wsX9_ahead (va_wsS RX9 60 yX9_in wsX9_in) := goodIn_app (goodIn_of _ (by decide +kernel)) ggX9_ahead_X9_in
set_option maxRecDepth 20000 in
theorem ggX9_ahead_X9_layNow : GoodIn wsX9_ahead wsX9_layNow := goodIn_r _ [18, 6, 5, 42, 43, 44, 45, 46, 47, 48, 49, 50, 51, 52, 53, 54, 55, 56, 57, 58, 59, 60, 61, 62, 63, 64, 65, 66, 67, 68] (by decide +kernel) (by decide +kernel)
set_option maxRecDepth 20000 in
theorem gX9_ahead_X9_layNow : GoodIn wsX9_ahead (wsV RX9 202 RX9 yX9_layNow wsX9_layNow) := goodIn_app (goodIn_of _ (by decide +kernel)) ggX9_ahead_X9_layNow
set_option maxRecDepth 20000 in
theorem ggX9_ahead_X9_goHour : GoodIn wsX9_ahead wsX9_goHour := goodIn_r _ [22, 6, 5, 23, 24, 25, 26, 10, 27, 28, 29, 30, 31, 32, 33, 34, 35, 36, 37, 38, 12, 13, 14, 42, 43, 44, 45, 46, 47, 48, 49, 50, 51, 52, 53, 54, 55, 56, 57, 58, 59, 60, 61, 62, 63, 64, 65, 66, 67, 68] (by decide +kernel) (by decide +kernel)
set_option maxRecDepth 20000 in
theorem gX9_ahead_X9_goHour : GoodIn wsX9_ahead (wsV RX9 205 RX9 yX9_goHour wsX9_goHour) := goodIn_app (goodIn_of _ (by decide +kernel)) ggX9_ahead_X9_goHour
set_option maxRecDepth 20000 in
theorem ggX9_ahead_X9_debt : GoodIn wsX9_ahead wsX9_debt := goodIn_r _ [41] (by decide +kernel) (by decide +kernel)
set_option maxRecDepth 20000 in
theorem gX9_ahead_X9_debt : GoodIn wsX9_ahead (va_wsS RX9 214 yX9_debt wsX9_debt) := goodIn_app (goodIn_of _ (by decide +kernel)) ggX9_ahead_X9_debt
set_option maxRecDepth 20000 in
theorem ggX9_ahead_X9_at : GoodIn wsX9_ahead wsX9_at := goodIn_r _ [34] (by decide +kernel) (by decide +kernel)
set_option maxRecDepth 20000 in
theorem gX9_ahead_X9_at : GoodIn wsX9_ahead (va_wsS RX9 180 yX9_at wsX9_at) := goodIn_app (goodIn_of _ (by decide +kernel)) ggX9_ahead_X9_at
theorem dX9_ahead_0 : decode cX9_ahead 0 = .ok (.aload_n 0, 1) := by decide +kernel
theorem dX9_ahead_1 : decode cX9_ahead 1 = .ok (.iconst 0, 1) := by decide +kernel
theorem dX9_ahead_2 : decode cX9_ahead 2 = .ok (.putfield 50, 3) := by decide +kernel
theorem dX9_ahead_5 : decode cX9_ahead 5 = .ok (.aload_n 0, 1) := by decide +kernel
theorem dX9_ahead_6 : decode cX9_ahead 6 = .ok (.iload_n 1, 1) := by decide +kernel
theorem dX9_ahead_7 : decode cX9_ahead 7 = .ok (.invokevirtual 174, 3) := by decide +kernel
theorem dX9_ahead_10 : decode cX9_ahead 10 = .ok (.ifCond .eq 27, 3) := by decide +kernel
theorem dX9_ahead_13 : decode cX9_ahead 13 = .ok (.iload_n 2, 1) := by decide +kernel
theorem dX9_ahead_14 : decode cX9_ahead 14 = .ok (.i2l, 1) := by decide +kernel
theorem dX9_ahead_15 : decode cX9_ahead 15 = .ok (.lconst 0, 1) := by decide +kernel
theorem dX9_ahead_16 : decode cX9_ahead 16 = .ok (.ldc2_w 244, 3) := by decide +kernel
theorem dX9_ahead_19 : decode cX9_ahead 19 = .ok (.invokestatic 60, 3) := by decide +kernel
theorem dX9_ahead_22 : decode cX9_ahead 22 = .ok (.ifCond .eq 15, 3) := by decide +kernel
theorem dX9_ahead_25 : decode cX9_ahead 25 = .ok (.iload_n 3, 1) := by decide +kernel
theorem dX9_ahead_26 : decode cX9_ahead 26 = .ok (.i2l, 1) := by decide +kernel
theorem dX9_ahead_27 : decode cX9_ahead 27 = .ok (.lconst 0, 1) := by decide +kernel
theorem dX9_ahead_28 : decode cX9_ahead 28 = .ok (.ldc2_w 68, 3) := by decide +kernel
theorem dX9_ahead_31 : decode cX9_ahead 31 = .ok (.invokestatic 60, 3) := by decide +kernel
theorem dX9_ahead_34 : decode cX9_ahead 34 = .ok (.ifCond .ne 6, 3) := by decide +kernel
theorem dX9_ahead_37 : decode cX9_ahead 37 = .ok (.ldc 70, 2) := by decide +kernel
theorem dX9_ahead_39 : decode cX9_ahead 39 = .ok (.ireturn, 1) := by decide +kernel
theorem dX9_ahead_40 : decode cX9_ahead 40 = .ok (.aload_n 0, 1) := by decide +kernel
theorem dX9_ahead_41 : decode cX9_ahead 41 = .ok (.invokevirtual 202, 3) := by decide +kernel
theorem dX9_ahead_44 : decode cX9_ahead 44 = .ok (.iconst 0, 1) := by decide +kernel
theorem dX9_ahead_45 : decode cX9_ahead 45 = .ok (.istore 4, 2) := by decide +kernel
theorem dX9_ahead_47 : decode cX9_ahead 47 = .ok (.iload 4, 2) := by decide +kernel
theorem dX9_ahead_49 : decode cX9_ahead 49 = .ok (.iload_n 2, 1) := by decide +kernel
theorem dX9_ahead_50 : decode cX9_ahead 50 = .ok (.if_icmp .ge 13, 3) := by decide +kernel
theorem dX9_ahead_53 : decode cX9_ahead 53 = .ok (.aload_n 0, 1) := by decide +kernel
theorem dX9_ahead_54 : decode cX9_ahead 54 = .ok (.invokevirtual 205, 3) := by decide +kernel
theorem dX9_ahead_57 : decode cX9_ahead 57 = .ok (.iinc 4 1, 3) := by decide +kernel
theorem dX9_ahead_60 : decode cX9_ahead 60 = .ok (.goto (-13), 3) := by decide +kernel
theorem dX9_ahead_63 : decode cX9_ahead 63 = .ok (.iconst 0, 1) := by decide +kernel
theorem dX9_ahead_64 : decode cX9_ahead 64 = .ok (.istore 4, 2) := by decide +kernel
theorem dX9_ahead_66 : decode cX9_ahead 66 = .ok (.iconst 0, 1) := by decide +kernel
theorem dX9_ahead_67 : decode cX9_ahead 67 = .ok (.istore 5, 2) := by decide +kernel
theorem dX9_ahead_69 : decode cX9_ahead 69 = .ok (.iload 5, 2) := by decide +kernel
theorem dX9_ahead_71 : decode cX9_ahead 71 = .ok (.aload_n 0, 1) := by decide +kernel
theorem dX9_ahead_72 : decode cX9_ahead 72 = .ok (.getfield 19, 3) := by decide +kernel
theorem dX9_ahead_75 : decode cX9_ahead 75 = .ok (.iconst 1, 1) := by decide +kernel
theorem dX9_ahead_76 : decode cX9_ahead 76 = .ok (.iaload, 1) := by decide +kernel
theorem dX9_ahead_77 : decode cX9_ahead 77 = .ok (.if_icmp .ge 25, 3) := by decide +kernel
theorem dX9_ahead_80 : decode cX9_ahead 80 = .ok (.iload 4, 2) := by decide +kernel
theorem dX9_ahead_82 : decode cX9_ahead 82 = .ok (.aload_n 0, 1) := by decide +kernel
theorem dX9_ahead_83 : decode cX9_ahead 83 = .ok (.getfield 25, 3) := by decide +kernel
theorem dX9_ahead_86 : decode cX9_ahead 86 = .ok (.iload_n 1, 1) := by decide +kernel
theorem dX9_ahead_87 : decode cX9_ahead 87 = .ok (.iload 5, 2) := by decide +kernel
theorem dX9_ahead_89 : decode cX9_ahead 89 = .ok (.invokestatic 214, 3) := by decide +kernel
theorem dX9_ahead_92 : decode cX9_ahead 92 = .ok (.iaload, 1) := by decide +kernel
theorem dX9_ahead_93 : decode cX9_ahead 93 = .ok (.iadd, 1) := by decide +kernel
theorem dX9_ahead_94 : decode cX9_ahead 94 = .ok (.istore 4, 2) := by decide +kernel
theorem dX9_ahead_96 : decode cX9_ahead 96 = .ok (.iinc 5 1, 3) := by decide +kernel
theorem dX9_ahead_99 : decode cX9_ahead 99 = .ok (.goto (-30), 3) := by decide +kernel
theorem dX9_ahead_102 : decode cX9_ahead 102 = .ok (.iload_n 3, 1) := by decide +kernel
theorem dX9_ahead_103 : decode cX9_ahead 103 = .ok (.iconst 2, 1) := by decide +kernel
theorem dX9_ahead_104 : decode cX9_ahead 104 = .ok (.if_icmp .ne 8, 3) := by decide +kernel
theorem dX9_ahead_107 : decode cX9_ahead 107 = .ok (.iload 4, 2) := by decide +kernel
theorem dX9_ahead_109 : decode cX9_ahead 109 = .ok (.goto 15, 3) := by decide +kernel
theorem dX9_ahead_112 : decode cX9_ahead 112 = .ok (.aload_n 0, 1) := by decide +kernel
theorem dX9_ahead_113 : decode cX9_ahead 113 = .ok (.getfield 25, 3) := by decide +kernel
theorem dX9_ahead_116 : decode cX9_ahead 116 = .ok (.iload_n 1, 1) := by decide +kernel
theorem dX9_ahead_117 : decode cX9_ahead 117 = .ok (.iconst 1, 1) := by decide +kernel
theorem dX9_ahead_118 : decode cX9_ahead 118 = .ok (.iload_n 3, 1) := by decide +kernel
theorem dX9_ahead_119 : decode cX9_ahead 119 = .ok (.iadd, 1) := by decide +kernel
theorem dX9_ahead_120 : decode cX9_ahead 120 = .ok (.invokestatic 180, 3) := by decide +kernel
theorem dX9_ahead_123 : decode cX9_ahead 123 = .ok (.iaload, 1) := by decide +kernel
theorem dX9_ahead_124 : decode cX9_ahead 124 = .ok (.ireturn, 1) := by decide +kernel
set_option maxRecDepth 20000 in
theorem ggX9_deepFrom_X9_layNow : GoodIn wsX9_deepFrom wsX9_layNow := goodIn_r _ [7, 1, 8, 32, 33, 34, 35, 36, 37, 38, 39, 40, 41, 42, 43, 44, 45, 46, 47, 48, 49, 50, 51, 52, 53, 54, 55, 56, 57, 58] (by decide +kernel) (by decide +kernel)
set_option maxRecDepth 20000 in
theorem gX9_deepFrom_X9_layNow : GoodIn wsX9_deepFrom (wsV RX9 202 RX9 yX9_layNow wsX9_layNow) := goodIn_app (goodIn_of _ (by decide +kernel)) ggX9_deepFrom_X9_layNow
set_option maxRecDepth 20000 in
theorem ggX9_deepFrom_X9_at : GoodIn wsX9_deepFrom wsX9_at := goodIn_r _ [11] (by decide +kernel) (by decide +kernel)
set_option maxRecDepth 20000 in
theorem gX9_deepFrom_X9_at : GoodIn wsX9_deepFrom (va_wsS RX9 180 yX9_at wsX9_at) := goodIn_app (goodIn_of _ (by decide +kernel)) ggX9_deepFrom_X9_at
set_option maxRecDepth 20000 in
theorem ggX9_deepFrom_X9_goHour : GoodIn wsX9_deepFrom wsX9_goHour := goodIn_r _ [15, 1, 8, 16, 17, 18, 19, 6, 20, 21, 22, 23, 24, 9, 10, 11, 25, 26, 27, 28, 29, 30, 31, 32, 33, 34, 35, 36, 37, 38, 39, 40, 41, 42, 43, 44, 45, 46, 47, 48, 49, 50, 51, 52, 53, 54, 55, 56, 57, 58] (by decide +kernel) (by decide +kernel)
set_option maxRecDepth 20000 in
theorem gX9_deepFrom_X9_goHour : GoodIn wsX9_deepFrom (wsV RX9 205 RX9 yX9_goHour wsX9_goHour) := goodIn_app (goodIn_of _ (by decide +kernel)) ggX9_deepFrom_X9_goHour
theorem dX9_deepFrom_0 : decode cX9_deepFrom 0 = .ok (.aload_n 0, 1) := by decide +kernel
theorem dX9_deepFrom_1 : decode cX9_deepFrom 1 = .ok (.invokevirtual 202, 3) := by decide +kernel
theorem dX9_deepFrom_4 : decode cX9_deepFrom 4 = .ok (.iconst 0, 1) := by decide +kernel
theorem dX9_deepFrom_5 : decode cX9_deepFrom 5 = .ok (.istore 5, 2) := by decide +kernel
theorem dX9_deepFrom_7 : decode cX9_deepFrom 7 = .ok (.iload 5, 2) := by decide +kernel
theorem dX9_deepFrom_9 : decode cX9_deepFrom 9 = .ok (.iload 4, 2) := by decide +kernel
theorem dX9_deepFrom_11 : decode cX9_deepFrom 11 = .ok (.if_icmp .gt 36, 3) := by decide +kernel
theorem dX9_deepFrom_14 : decode cX9_deepFrom 14 = .ok (.iload 5, 2) := by decide +kernel
theorem dX9_deepFrom_16 : decode cX9_deepFrom 16 = .ok (.iload_n 3, 1) := by decide +kernel
theorem dX9_deepFrom_17 : decode cX9_deepFrom 17 = .ok (.if_icmp .lt 20, 3) := by decide +kernel
theorem dX9_deepFrom_20 : decode cX9_deepFrom 20 = .ok (.aload_n 0, 1) := by decide +kernel
theorem dX9_deepFrom_21 : decode cX9_deepFrom 21 = .ok (.getfield 25, 3) := by decide +kernel
theorem dX9_deepFrom_24 : decode cX9_deepFrom 24 = .ok (.iload_n 1, 1) := by decide +kernel
theorem dX9_deepFrom_25 : decode cX9_deepFrom 25 = .ok (.iconst 1, 1) := by decide +kernel
theorem dX9_deepFrom_26 : decode cX9_deepFrom 26 = .ok (.invokestatic 180, 3) := by decide +kernel
theorem dX9_deepFrom_29 : decode cX9_deepFrom 29 = .ok (.iaload, 1) := by decide +kernel
theorem dX9_deepFrom_30 : decode cX9_deepFrom 30 = .ok (.iload_n 2, 1) := by decide +kernel
theorem dX9_deepFrom_31 : decode cX9_deepFrom 31 = .ok (.if_icmp .lt 6, 3) := by decide +kernel
theorem dX9_deepFrom_34 : decode cX9_deepFrom 34 = .ok (.iload 5, 2) := by decide +kernel
theorem dX9_deepFrom_36 : decode cX9_deepFrom 36 = .ok (.ireturn, 1) := by decide +kernel
theorem dX9_deepFrom_37 : decode cX9_deepFrom 37 = .ok (.aload_n 0, 1) := by decide +kernel
theorem dX9_deepFrom_38 : decode cX9_deepFrom 38 = .ok (.invokevirtual 205, 3) := by decide +kernel
theorem dX9_deepFrom_41 : decode cX9_deepFrom 41 = .ok (.iinc 5 1, 3) := by decide +kernel
theorem dX9_deepFrom_44 : decode cX9_deepFrom 44 = .ok (.goto (-37), 3) := by decide +kernel
theorem dX9_deepFrom_47 : decode cX9_deepFrom 47 = .ok (.ldc 86, 2) := by decide +kernel
theorem dX9_deepFrom_49 : decode cX9_deepFrom 49 = .ok (.ireturn, 1) := by decide +kernel
set_option maxRecDepth 20000 in
theorem ggX9_sail_X9_isWater : GoodIn wsX9_sail wsX9_isWater := goodIn_r _ [10, 11, 12, 13, 9, 14, 44, 45, 46, 47, 48, 49, 50, 51, 52, 53, 54, 55, 56, 57, 58, 59, 60, 61, 62, 63, 64, 65, 66, 67, 68, 69, 70] (by decide +kernel) (by decide +kernel)
set_option maxRecDepth 20000 in
theorem gX9_sail_X9_isWater : GoodIn wsX9_sail (wsV RX9 174 RX9 yX9_isWater wsX9_isWater) := goodIn_app (goodIn_of _ (by decide +kernel)) ggX9_sail_X9_isWater
set_option maxRecDepth 20000 in
theorem ggX9_sail_X9_in : GoodIn wsX9_sail wsX9_in := goodIn_r _ [14] (by decide +kernel) (by decide +kernel)
set_option maxRecDepth 20000 in
theorem gX9_sail_X9_in : GoodIn wsX9_sail (va_wsS RX9 60 yX9_in wsX9_in) := goodIn_app (goodIn_of _ (by decide +kernel)) ggX9_sail_X9_in
set_option maxRecDepth 20000 in
theorem ggX9_sail_X9_deepFrom : GoodIn wsX9_sail wsX9_deepFrom := goodIn_r _ [18, 19, 5, 20, 21, 22, 9, 23, 11, 24, 25, 26, 27, 28, 29, 30, 31, 32, 33, 34, 35, 36, 37, 38, 39, 40, 41, 42, 43, 12, 13, 14, 44, 45, 46, 47, 48, 49, 50, 51, 52, 53, 54, 55, 56, 57, 58, 59, 60, 61, 62, 63, 64, 65, 66, 67, 68, 69, 70] (by decide +kernel) (by decide +kernel)
set_option maxRecDepth 20000 in
theorem gX9_sail_X9_deepFrom : GoodIn wsX9_sail (wsV RX9 246 RX9 yX9_deepFrom wsX9_deepFrom) := goodIn_app (goodIn_of _ (by decide +kernel)) ggX9_sail_X9_deepFrom
theorem dX9_sail_0 : decode cX9_sail 0 = .ok (.aload_n 0, 1) := by decide +kernel
theorem dX9_sail_1 : decode cX9_sail 1 = .ok (.iconst 0, 1) := by decide +kernel
theorem dX9_sail_2 : decode cX9_sail 2 = .ok (.putfield 50, 3) := by decide +kernel
theorem dX9_sail_5 : decode cX9_sail 5 = .ok (.aload_n 0, 1) := by decide +kernel
theorem dX9_sail_6 : decode cX9_sail 6 = .ok (.iload_n 1, 1) := by decide +kernel
theorem dX9_sail_7 : decode cX9_sail 7 = .ok (.invokevirtual 174, 3) := by decide +kernel
theorem dX9_sail_10 : decode cX9_sail 10 = .ok (.ifCond .eq 38, 3) := by decide +kernel
theorem dX9_sail_13 : decode cX9_sail 13 = .ok (.iload_n 2, 1) := by decide +kernel
theorem dX9_sail_14 : decode cX9_sail 14 = .ok (.i2l, 1) := by decide +kernel
theorem dX9_sail_15 : decode cX9_sail 15 = .ok (.lconst 0, 1) := by decide +kernel
theorem dX9_sail_16 : decode cX9_sail 16 = .ok (.ldc2_w 212, 3) := by decide +kernel
theorem dX9_sail_19 : decode cX9_sail 19 = .ok (.invokestatic 60, 3) := by decide +kernel
theorem dX9_sail_22 : decode cX9_sail 22 = .ok (.ifCond .eq 26, 3) := by decide +kernel
theorem dX9_sail_25 : decode cX9_sail 25 = .ok (.iload_n 3, 1) := by decide +kernel
theorem dX9_sail_26 : decode cX9_sail 26 = .ok (.i2l, 1) := by decide +kernel
theorem dX9_sail_27 : decode cX9_sail 27 = .ok (.lconst 1, 1) := by decide +kernel
theorem dX9_sail_28 : decode cX9_sail 28 = .ok (.ldc2_w 197, 3) := by decide +kernel
theorem dX9_sail_31 : decode cX9_sail 31 = .ok (.invokestatic 60, 3) := by decide +kernel
theorem dX9_sail_34 : decode cX9_sail 34 = .ok (.ifCond .eq 14, 3) := by decide +kernel
theorem dX9_sail_37 : decode cX9_sail 37 = .ok (.iload 4, 2) := by decide +kernel
theorem dX9_sail_39 : decode cX9_sail 39 = .ok (.i2l, 1) := by decide +kernel
theorem dX9_sail_40 : decode cX9_sail 40 = .ok (.lconst 0, 1) := by decide +kernel
theorem dX9_sail_41 : decode cX9_sail 41 = .ok (.lconst 1, 1) := by decide +kernel
theorem dX9_sail_42 : decode cX9_sail 42 = .ok (.invokestatic 60, 3) := by decide +kernel
theorem dX9_sail_45 : decode cX9_sail 45 = .ok (.ifCond .ne 6, 3) := by decide +kernel
theorem dX9_sail_48 : decode cX9_sail 48 = .ok (.ldc 70, 2) := by decide +kernel
theorem dX9_sail_50 : decode cX9_sail 50 = .ok (.ireturn, 1) := by decide +kernel
theorem dX9_sail_51 : decode cX9_sail 51 = .ok (.aload_n 0, 1) := by decide +kernel
theorem dX9_sail_52 : decode cX9_sail 52 = .ok (.iload_n 1, 1) := by decide +kernel
theorem dX9_sail_53 : decode cX9_sail 53 = .ok (.iload_n 2, 1) := by decide +kernel
theorem dX9_sail_54 : decode cX9_sail 54 = .ok (.iconst 0, 1) := by decide +kernel
theorem dX9_sail_55 : decode cX9_sail 55 = .ok (.bipush 24, 2) := by decide +kernel
theorem dX9_sail_57 : decode cX9_sail 57 = .ok (.invokevirtual 246, 3) := by decide +kernel
theorem dX9_sail_60 : decode cX9_sail 60 = .ok (.istore 5, 2) := by decide +kernel
theorem dX9_sail_62 : decode cX9_sail 62 = .ok (.iload 4, 2) := by decide +kernel
theorem dX9_sail_64 : decode cX9_sail 64 = .ok (.ifCond .eq 10, 3) := by decide +kernel
theorem dX9_sail_67 : decode cX9_sail 67 = .ok (.iload 5, 2) := by decide +kernel
theorem dX9_sail_69 : decode cX9_sail 69 = .ok (.ldc 86, 2) := by decide +kernel
theorem dX9_sail_71 : decode cX9_sail 71 = .ok (.if_icmp .ne 8, 3) := by decide +kernel
theorem dX9_sail_74 : decode cX9_sail 74 = .ok (.iload 5, 2) := by decide +kernel
theorem dX9_sail_76 : decode cX9_sail 76 = .ok (.goto 15, 3) := by decide +kernel
theorem dX9_sail_79 : decode cX9_sail 79 = .ok (.aload_n 0, 1) := by decide +kernel
theorem dX9_sail_80 : decode cX9_sail 80 = .ok (.iload_n 1, 1) := by decide +kernel
theorem dX9_sail_81 : decode cX9_sail 81 = .ok (.iload_n 2, 1) := by decide +kernel
theorem dX9_sail_82 : decode cX9_sail 82 = .ok (.iload 5, 2) := by decide +kernel
theorem dX9_sail_84 : decode cX9_sail 84 = .ok (.iload_n 3, 1) := by decide +kernel
theorem dX9_sail_85 : decode cX9_sail 85 = .ok (.iadd, 1) := by decide +kernel
theorem dX9_sail_86 : decode cX9_sail 86 = .ok (.bipush 48, 2) := by decide +kernel
theorem dX9_sail_88 : decode cX9_sail 88 = .ok (.invokevirtual 246, 3) := by decide +kernel
theorem dX9_sail_91 : decode cX9_sail 91 = .ok (.ireturn, 1) := by decide +kernel
set_option maxRecDepth 20000 in
theorem ggX9_net_X9_isThere : GoodIn wsX9_net wsX9_isThere := goodIn_r _ [12, 13, 40, 41, 42, 43, 44, 45, 46, 47, 48, 49, 50, 51, 52, 53, 54, 55, 56, 57, 58, 59, 60, 61, 62, 63, 64, 65, 66] (by decide +kernel) (by decide +kernel)
set_option maxRecDepth 20000 in
theorem gX9_net_X9_isThere : GoodIn wsX9_net (wsV RX9 192 RX9 yX9_isThere wsX9_isThere) := goodIn_app (goodIn_of _ (by decide +kernel)) ggX9_net_X9_isThere
set_option maxRecDepth 20000 in
theorem ggX9_net_X9_in : GoodIn wsX9_net wsX9_in := goodIn_r _ [16] (by decide +kernel) (by decide +kernel)
set_option maxRecDepth 20000 in
theorem gX9_net_X9_in : GoodIn wsX9_net (va_wsS RX9 60 yX9_in wsX9_in) := goodIn_app (goodIn_of _ (by decide +kernel)) ggX9_net_X9_in
set_option maxRecDepth 20000 in
theorem ggX9_net_X9_canNet : GoodIn wsX9_net wsX9_canNet := goodIn_r _ [20, 13, 21, 22, 11, 23, 24, 25, 26, 27, 28, 29, 30, 40, 41, 42, 43, 44, 45, 46, 47, 48, 49, 50, 51, 52, 53, 54, 55, 56, 57, 58, 59, 60, 61, 62, 63, 64, 65, 66] (by decide +kernel) (by decide +kernel)
set_option maxRecDepth 20000 in
theorem gX9_net_X9_canNet : GoodIn wsX9_net (wsV RX9 236 RX9 yX9_canNet wsX9_canNet) := goodIn_app (goodIn_of _ (by decide +kernel)) ggX9_net_X9_canNet
set_option maxRecDepth 20000 in
theorem ggX9_net_X9_layGifts : GoodIn wsX9_net wsX9_layGifts := goodIn_r _ [34, 5, 13, 35, 7, 6, 24, 25, 26, 11, 27, 28, 29, 30, 36, 37, 38, 39, 40, 41, 42, 43, 44, 45, 46, 47, 48, 49, 50, 51, 52, 53, 54, 55, 56, 57, 58, 59, 60, 61, 62, 63, 64, 65, 66] (by decide +kernel) (by decide +kernel)
set_option maxRecDepth 20000 in
theorem gX9_net_X9_layGifts : GoodIn wsX9_net (wsV RX9 239 RX9 yX9_layGifts wsX9_layGifts) := goodIn_app (goodIn_of _ (by decide +kernel)) ggX9_net_X9_layGifts
theorem dX9_net_0 : decode cX9_net 0 = .ok (.aload_n 0, 1) := by decide +kernel
theorem dX9_net_1 : decode cX9_net 1 = .ok (.iconst 0, 1) := by decide +kernel
theorem dX9_net_2 : decode cX9_net 2 = .ok (.putfield 50, 3) := by decide +kernel
theorem dX9_net_5 : decode cX9_net 5 = .ok (.aload_n 0, 1) := by decide +kernel
theorem dX9_net_6 : decode cX9_net 6 = .ok (.invokevirtual 192, 3) := by decide +kernel
theorem dX9_net_9 : decode cX9_net 9 = .ok (.ifCond .ne 6, 3) := by decide +kernel
theorem dX9_net_12 : decode cX9_net 12 = .ok (.ldc 196, 2) := by decide +kernel
theorem dX9_net_14 : decode cX9_net 14 = .ok (.ireturn, 1) := by decide +kernel
theorem dX9_net_15 : decode cX9_net 15 = .ok (.iload_n 1, 1) := by decide +kernel
theorem dX9_net_16 : decode cX9_net 16 = .ok (.bipush (-2), 2) := by decide +kernel
theorem dX9_net_18 : decode cX9_net 18 = .ok (.if_icmp .lt 15, 3) := by decide +kernel
theorem dX9_net_21 : decode cX9_net 21 = .ok (.iload_n 2, 1) := by decide +kernel
theorem dX9_net_22 : decode cX9_net 22 = .ok (.i2l, 1) := by decide +kernel
theorem dX9_net_23 : decode cX9_net 23 = .ok (.lconst 0, 1) := by decide +kernel
theorem dX9_net_24 : decode cX9_net 24 = .ok (.ldc2_w 68, 3) := by decide +kernel
theorem dX9_net_27 : decode cX9_net 27 = .ok (.invokestatic 60, 3) := by decide +kernel
theorem dX9_net_30 : decode cX9_net 30 = .ok (.ifCond .ne 6, 3) := by decide +kernel
theorem dX9_net_33 : decode cX9_net 33 = .ok (.ldc 70, 2) := by decide +kernel
theorem dX9_net_35 : decode cX9_net 35 = .ok (.ireturn, 1) := by decide +kernel
theorem dX9_net_36 : decode cX9_net 36 = .ok (.iload_n 1, 1) := by decide +kernel
theorem dX9_net_37 : decode cX9_net 37 = .ok (.bipush (-2), 2) := by decide +kernel
theorem dX9_net_39 : decode cX9_net 39 = .ok (.if_icmp .ne 16, 3) := by decide +kernel
theorem dX9_net_42 : decode cX9_net 42 = .ok (.aload_n 0, 1) := by decide +kernel
theorem dX9_net_43 : decode cX9_net 43 = .ok (.invokevirtual 236, 3) := by decide +kernel
theorem dX9_net_46 : decode cX9_net 46 = .ok (.ifCond .eq 7, 3) := by decide +kernel
theorem dX9_net_49 : decode cX9_net 49 = .ok (.iconst 1, 1) := by decide +kernel
theorem dX9_net_50 : decode cX9_net 50 = .ok (.goto 4, 3) := by decide +kernel
theorem dX9_net_53 : decode cX9_net 53 = .ok (.iconst 0, 1) := by decide +kernel
theorem dX9_net_54 : decode cX9_net 54 = .ok (.ireturn, 1) := by decide +kernel
theorem dX9_net_55 : decode cX9_net 55 = .ok (.aload_n 0, 1) := by decide +kernel
theorem dX9_net_56 : decode cX9_net 56 = .ok (.invokevirtual 239, 3) := by decide +kernel
theorem dX9_net_59 : decode cX9_net 59 = .ok (.iload_n 1, 1) := by decide +kernel
theorem dX9_net_60 : decode cX9_net 60 = .ok (.iconst (-1), 1) := by decide +kernel
theorem dX9_net_61 : decode cX9_net 61 = .ok (.if_icmp .ne 10, 3) := by decide +kernel
theorem dX9_net_64 : decode cX9_net 64 = .ok (.aload_n 0, 1) := by decide +kernel
theorem dX9_net_65 : decode cX9_net 65 = .ok (.getfield 230, 3) := by decide +kernel
theorem dX9_net_68 : decode cX9_net 68 = .ok (.goto 26, 3) := by decide +kernel
theorem dX9_net_71 : decode cX9_net 71 = .ok (.iload_n 1, 1) := by decide +kernel
theorem dX9_net_72 : decode cX9_net 72 = .ok (.aload_n 0, 1) := by decide +kernel
theorem dX9_net_73 : decode cX9_net 73 = .ok (.getfield 230, 3) := by decide +kernel
theorem dX9_net_76 : decode cX9_net 76 = .ok (.if_icmp .ge 16, 3) := by decide +kernel
theorem dX9_net_79 : decode cX9_net 79 = .ok (.aload_n 0, 1) := by decide +kernel
theorem dX9_net_80 : decode cX9_net 80 = .ok (.getfield 37, 3) := by decide +kernel
theorem dX9_net_83 : decode cX9_net 83 = .ok (.iconst 3, 1) := by decide +kernel
theorem dX9_net_84 : decode cX9_net 84 = .ok (.iload_n 1, 1) := by decide +kernel
theorem dX9_net_85 : decode cX9_net 85 = .ok (.imul, 1) := by decide +kernel
theorem dX9_net_86 : decode cX9_net 86 = .ok (.iload_n 2, 1) := by decide +kernel
theorem dX9_net_87 : decode cX9_net 87 = .ok (.iadd, 1) := by decide +kernel
theorem dX9_net_88 : decode cX9_net 88 = .ok (.iaload, 1) := by decide +kernel
theorem dX9_net_89 : decode cX9_net 89 = .ok (.goto 5, 3) := by decide +kernel
theorem dX9_net_92 : decode cX9_net 92 = .ok (.ldc 86, 2) := by decide +kernel
theorem dX9_net_94 : decode cX9_net 94 = .ok (.ireturn, 1) := by decide +kernel
set_option maxRecDepth 20000 in
theorem ggX9_least_X9_areTwo : GoodIn wsX9_least wsX9_areTwo := goodIn_r _ [12, 13, 14, 15, 11, 16, 5, 17, 18, 19, 39, 40, 41, 42, 43, 44, 45, 46, 47, 48, 49, 50, 51, 52, 53, 54, 55, 56, 57, 58, 59, 60, 61, 62, 63, 64, 65] (by decide +kernel) (by decide +kernel)
set_option maxRecDepth 20000 in
theorem gX9_least_X9_areTwo : GoodIn wsX9_least (wsV RX9 208 RX9 yX9_areTwo wsX9_areTwo) := goodIn_app (goodIn_of _ (by decide +kernel)) ggX9_least_X9_areTwo
set_option maxRecDepth 20000 in
theorem ggX9_least_X9_in : GoodIn wsX9_least wsX9_in := goodIn_r _ [19] (by decide +kernel) (by decide +kernel)
set_option maxRecDepth 20000 in
theorem gX9_least_X9_in : GoodIn wsX9_least (va_wsS RX9 60 yX9_in wsX9_in) := goodIn_app (goodIn_of _ (by decide +kernel)) ggX9_least_X9_in
set_option maxRecDepth 20000 in
theorem ggX9_least_X9_at : GoodIn wsX9_least wsX9_at := goodIn_r _ [22] (by decide +kernel) (by decide +kernel)
set_option maxRecDepth 20000 in
theorem gX9_least_X9_at : GoodIn wsX9_least (va_wsS RX9 180 yX9_at wsX9_at) := goodIn_app (goodIn_of _ (by decide +kernel)) ggX9_least_X9_at
set_option maxRecDepth 20000 in
theorem ggX9_least_X9_layNow : GoodIn wsX9_least wsX9_layNow := goodIn_r _ [26, 6, 5, 39, 40, 41, 42, 43, 44, 45, 46, 47, 48, 49, 50, 51, 52, 53, 54, 55, 56, 57, 58, 59, 60, 61, 62, 63, 64, 65] (by decide +kernel) (by decide +kernel)
set_option maxRecDepth 20000 in
theorem gX9_least_X9_layNow : GoodIn wsX9_least (wsV RX9 202 RX9 yX9_layNow wsX9_layNow) := goodIn_app (goodIn_of _ (by decide +kernel)) ggX9_least_X9_layNow
set_option maxRecDepth 20000 in
theorem ggX9_least_X9_flowOf : GoodIn wsX9_least wsX9_flowOf := goodIn_r _ [30, 5, 31, 32, 33, 11, 34, 20, 21, 22, 39, 40, 41, 42, 43, 44, 45, 46, 47, 48, 49, 50, 51, 52, 53, 54, 55, 56, 57, 58, 59, 60, 61, 62, 63, 64, 65] (by decide +kernel) (by decide +kernel)
set_option maxRecDepth 20000 in
theorem gX9_least_X9_flowOf : GoodIn wsX9_least (wsV RX9 183 RX9 yX9_flowOf wsX9_flowOf) := goodIn_app (goodIn_of _ (by decide +kernel)) ggX9_least_X9_flowOf
set_option maxRecDepth 20000 in
theorem ggX9_least_X9_flows : GoodIn wsX9_least wsX9_flows := goodIn_r _ [38, 6, 20, 21, 11, 22, 39, 40, 41, 42, 43, 44, 45, 46, 47, 48, 49, 50, 51, 52, 53, 54, 55, 56, 57, 58, 59, 60, 61, 62, 63, 64, 65] (by decide +kernel) (by decide +kernel)
set_option maxRecDepth 20000 in
theorem gX9_least_X9_flows : GoodIn wsX9_least (wsV RX9 186 RX9 yX9_flows wsX9_flows) := goodIn_app (goodIn_of _ (by decide +kernel)) ggX9_least_X9_flows
theorem dX9_least_0 : decode cX9_least 0 = .ok (.aload_n 0, 1) := by decide +kernel
theorem dX9_least_1 : decode cX9_least 1 = .ok (.iconst 0, 1) := by decide +kernel
theorem dX9_least_2 : decode cX9_least 2 = .ok (.putfield 50, 3) := by decide +kernel
theorem dX9_least_5 : decode cX9_least 5 = .ok (.aload_n 0, 1) := by decide +kernel
theorem dX9_least_6 : decode cX9_least 6 = .ok (.iload_n 1, 1) := by decide +kernel
theorem dX9_least_7 : decode cX9_least 7 = .ok (.iload_n 2, 1) := by decide +kernel
theorem dX9_least_8 : decode cX9_least 8 = .ok (.invokevirtual 208, 3) := by decide +kernel
theorem dX9_least_11 : decode cX9_least 11 = .ok (.ifCond .eq 28, 3) := by decide +kernel
theorem dX9_least_14 : decode cX9_least 14 = .ok (.iload_n 3, 1) := by decide +kernel
theorem dX9_least_15 : decode cX9_least 15 = .ok (.i2l, 1) := by decide +kernel
theorem dX9_least_16 : decode cX9_least 16 = .ok (.lconst 0, 1) := by decide +kernel
theorem dX9_least_17 : decode cX9_least 17 = .ok (.ldc2_w 212, 3) := by decide +kernel
theorem dX9_least_20 : decode cX9_least 20 = .ok (.invokestatic 60, 3) := by decide +kernel
theorem dX9_least_23 : decode cX9_least 23 = .ok (.ifCond .eq 16, 3) := by decide +kernel
theorem dX9_least_26 : decode cX9_least 26 = .ok (.iload 4, 2) := by decide +kernel
theorem dX9_least_28 : decode cX9_least 28 = .ok (.i2l, 1) := by decide +kernel
theorem dX9_least_29 : decode cX9_least 29 = .ok (.lconst 0, 1) := by decide +kernel
theorem dX9_least_30 : decode cX9_least 30 = .ok (.ldc2_w 197, 3) := by decide +kernel
theorem dX9_least_33 : decode cX9_least 33 = .ok (.invokestatic 60, 3) := by decide +kernel
theorem dX9_least_36 : decode cX9_least 36 = .ok (.ifCond .ne 6, 3) := by decide +kernel
theorem dX9_least_39 : decode cX9_least 39 = .ok (.ldc 70, 2) := by decide +kernel
theorem dX9_least_41 : decode cX9_least 41 = .ok (.ireturn, 1) := by decide +kernel
theorem dX9_least_42 : decode cX9_least 42 = .ok (.iconst 0, 1) := by decide +kernel
theorem dX9_least_43 : decode cX9_least 43 = .ok (.istore 5, 2) := by decide +kernel
theorem dX9_least_45 : decode cX9_least 45 = .ok (.iload 5, 2) := by decide +kernel
theorem dX9_least_47 : decode cX9_least 47 = .ok (.aload_n 0, 1) := by decide +kernel
theorem dX9_least_48 : decode cX9_least 48 = .ok (.getfield 19, 3) := by decide +kernel
theorem dX9_least_51 : decode cX9_least 51 = .ok (.iload_n 2, 1) := by decide +kernel
theorem dX9_least_52 : decode cX9_least 52 = .ok (.iconst 1, 1) := by decide +kernel
theorem dX9_least_53 : decode cX9_least 53 = .ok (.invokestatic 180, 3) := by decide +kernel
theorem dX9_least_56 : decode cX9_least 56 = .ok (.iaload, 1) := by decide +kernel
theorem dX9_least_57 : decode cX9_least 57 = .ok (.if_icmp .gt 80, 3) := by decide +kernel
theorem dX9_least_60 : decode cX9_least 60 = .ok (.aload_n 0, 1) := by decide +kernel
theorem dX9_least_61 : decode cX9_least 61 = .ok (.invokevirtual 202, 3) := by decide +kernel
theorem dX9_least_64 : decode cX9_least 64 = .ok (.aload_n 0, 1) := by decide +kernel
theorem dX9_least_65 : decode cX9_least 65 = .ok (.getfield 25, 3) := by decide +kernel
theorem dX9_least_68 : decode cX9_least 68 = .ok (.iload_n 1, 1) := by decide +kernel
theorem dX9_least_69 : decode cX9_least 69 = .ok (.iconst 1, 1) := by decide +kernel
theorem dX9_least_70 : decode cX9_least 70 = .ok (.invokestatic 180, 3) := by decide +kernel
theorem dX9_least_73 : decode cX9_least 73 = .ok (.dup2, 1) := by decide +kernel
theorem dX9_least_74 : decode cX9_least 74 = .ok (.iaload, 1) := by decide +kernel
theorem dX9_least_75 : decode cX9_least 75 = .ok (.iload 5, 2) := by decide +kernel
theorem dX9_least_77 : decode cX9_least 77 = .ok (.iadd, 1) := by decide +kernel
theorem dX9_least_78 : decode cX9_least 78 = .ok (.iastore, 1) := by decide +kernel
theorem dX9_least_79 : decode cX9_least 79 = .ok (.iconst 0, 1) := by decide +kernel
theorem dX9_least_80 : decode cX9_least 80 = .ok (.istore 6, 2) := by decide +kernel
theorem dX9_least_82 : decode cX9_least 82 = .ok (.iload 6, 2) := by decide +kernel
theorem dX9_least_84 : decode cX9_least 84 = .ok (.iload 4, 2) := by decide +kernel
theorem dX9_least_86 : decode cX9_least 86 = .ok (.if_icmp .ge 28, 3) := by decide +kernel
theorem dX9_least_89 : decode cX9_least 89 = .ok (.aload_n 0, 1) := by decide +kernel
theorem dX9_least_90 : decode cX9_least 90 = .ok (.iload_n 1, 1) := by decide +kernel
theorem dX9_least_91 : decode cX9_least 91 = .ok (.aload_n 0, 1) := by decide +kernel
theorem dX9_least_92 : decode cX9_least 92 = .ok (.iload_n 1, 1) := by decide +kernel
theorem dX9_least_93 : decode cX9_least 93 = .ok (.aload_n 0, 1) := by decide +kernel
theorem dX9_least_94 : decode cX9_least 94 = .ok (.getfield 19, 3) := by decide +kernel
theorem dX9_least_97 : decode cX9_least 97 = .ok (.iconst 2, 1) := by decide +kernel
theorem dX9_least_98 : decode cX9_least 98 = .ok (.iaload, 1) := by decide +kernel
theorem dX9_least_99 : decode cX9_least 99 = .ok (.iload 6, 2) := by decide +kernel
theorem dX9_least_101 : decode cX9_least 101 = .ok (.iadd, 1) := by decide +kernel
theorem dX9_least_102 : decode cX9_least 102 = .ok (.invokevirtual 183, 3) := by decide +kernel
theorem dX9_least_105 : decode cX9_least 105 = .ok (.invokevirtual 186, 3) := by decide +kernel
theorem dX9_least_108 : decode cX9_least 108 = .ok (.iinc 6 1, 3) := by decide +kernel
theorem dX9_least_111 : decode cX9_least 111 = .ok (.goto (-29), 3) := by decide +kernel
theorem dX9_least_114 : decode cX9_least 114 = .ok (.aload_n 0, 1) := by decide +kernel
theorem dX9_least_115 : decode cX9_least 115 = .ok (.getfield 25, 3) := by decide +kernel
theorem dX9_least_118 : decode cX9_least 118 = .ok (.iload_n 1, 1) := by decide +kernel
theorem dX9_least_119 : decode cX9_least 119 = .ok (.iconst 1, 1) := by decide +kernel
theorem dX9_least_120 : decode cX9_least 120 = .ok (.invokestatic 180, 3) := by decide +kernel
theorem dX9_least_123 : decode cX9_least 123 = .ok (.iaload, 1) := by decide +kernel
theorem dX9_least_124 : decode cX9_least 124 = .ok (.iload_n 3, 1) := by decide +kernel
theorem dX9_least_125 : decode cX9_least 125 = .ok (.if_icmp .lt 6, 3) := by decide +kernel
theorem dX9_least_128 : decode cX9_least 128 = .ok (.iload 5, 2) := by decide +kernel
theorem dX9_least_130 : decode cX9_least 130 = .ok (.ireturn, 1) := by decide +kernel
theorem dX9_least_131 : decode cX9_least 131 = .ok (.iinc 5 1, 3) := by decide +kernel
theorem dX9_least_134 : decode cX9_least 134 = .ok (.goto (-89), 3) := by decide +kernel
theorem dX9_least_137 : decode cX9_least 137 = .ok (.ldc 86, 2) := by decide +kernel
theorem dX9_least_139 : decode cX9_least 139 = .ok (.ireturn, 1) := by decide +kernel
set_option maxRecDepth 20000 in
theorem ggX9_run_X9_isThere : GoodIn wsX9_run wsX9_isThere := goodIn_r _ [9, 3, 20, 21, 22, 23, 24, 25, 26, 27, 28, 29, 30, 31, 32, 33, 34, 35, 36, 37, 38, 39, 40, 41, 42, 43, 44, 45, 46] (by decide +kernel) (by decide +kernel)
set_option maxRecDepth 20000 in
theorem gX9_run_X9_isThere : GoodIn wsX9_run (wsV RX9 192 RX9 yX9_isThere wsX9_isThere) := goodIn_app (goodIn_of _ (by decide +kernel)) ggX9_run_X9_isThere
set_option maxRecDepth 20000 in
theorem ggX9_run_X9_layNow : GoodIn wsX9_run wsX9_layNow := goodIn_r _ [13, 4, 3, 20, 21, 22, 23, 24, 25, 26, 27, 28, 29, 30, 31, 32, 33, 34, 35, 36, 37, 38, 39, 40, 41, 42, 43, 44, 45, 46] (by decide +kernel) (by decide +kernel)
set_option maxRecDepth 20000 in
theorem gX9_run_X9_layNow : GoodIn wsX9_run (wsV RX9 202 RX9 yX9_layNow wsX9_layNow) := goodIn_app (goodIn_of _ (by decide +kernel)) ggX9_run_X9_layNow
set_option maxRecDepth 20000 in
theorem ggX9_run_X9_debt : GoodIn wsX9_run wsX9_debt := goodIn_r _ [16] (by decide +kernel) (by decide +kernel)
set_option maxRecDepth 20000 in
theorem gX9_run_X9_debt : GoodIn wsX9_run (va_wsS RX9 214 yX9_debt wsX9_debt) := goodIn_app (goodIn_of _ (by decide +kernel)) ggX9_run_X9_debt
set_option maxRecDepth 20000 in
theorem ggX9_run_X9_at : GoodIn wsX9_run wsX9_at := goodIn_r _ [19] (by decide +kernel) (by decide +kernel)
set_option maxRecDepth 20000 in
theorem gX9_run_X9_at : GoodIn wsX9_run (va_wsS RX9 180 yX9_at wsX9_at) := goodIn_app (goodIn_of _ (by decide +kernel)) ggX9_run_X9_at
theorem dX9_run_0 : decode cX9_run 0 = .ok (.aload_n 0, 1) := by decide +kernel
theorem dX9_run_1 : decode cX9_run 1 = .ok (.iconst 0, 1) := by decide +kernel
theorem dX9_run_2 : decode cX9_run 2 = .ok (.putfield 50, 3) := by decide +kernel
theorem dX9_run_5 : decode cX9_run 5 = .ok (.aload_n 0, 1) := by decide +kernel
theorem dX9_run_6 : decode cX9_run 6 = .ok (.invokevirtual 192, 3) := by decide +kernel
theorem dX9_run_9 : decode cX9_run 9 = .ok (.ifCond .ne 6, 3) := by decide +kernel
theorem dX9_run_12 : decode cX9_run 12 = .ok (.ldc 196, 2) := by decide +kernel
theorem dX9_run_14 : decode cX9_run 14 = .ok (.ireturn, 1) := by decide +kernel
theorem dX9_run_15 : decode cX9_run 15 = .ok (.aload_n 0, 1) := by decide +kernel
theorem dX9_run_16 : decode cX9_run 16 = .ok (.invokevirtual 202, 3) := by decide +kernel
theorem dX9_run_19 : decode cX9_run 19 = .ok (.iconst 0, 1) := by decide +kernel
theorem dX9_run_20 : decode cX9_run 20 = .ok (.istore_n 1, 1) := by decide +kernel
theorem dX9_run_21 : decode cX9_run 21 = .ok (.iconst 0, 1) := by decide +kernel
theorem dX9_run_22 : decode cX9_run 22 = .ok (.istore_n 2, 1) := by decide +kernel
theorem dX9_run_23 : decode cX9_run 23 = .ok (.iload_n 2, 1) := by decide +kernel
theorem dX9_run_24 : decode cX9_run 24 = .ok (.aload_n 0, 1) := by decide +kernel
theorem dX9_run_25 : decode cX9_run 25 = .ok (.getfield 19, 3) := by decide +kernel
theorem dX9_run_28 : decode cX9_run 28 = .ok (.iconst 1, 1) := by decide +kernel
theorem dX9_run_29 : decode cX9_run 29 = .ok (.iaload, 1) := by decide +kernel
theorem dX9_run_30 : decode cX9_run 30 = .ok (.if_icmp .ge 118, 3) := by decide +kernel
theorem dX9_run_33 : decode cX9_run 33 = .ok (.iconst 0, 1) := by decide +kernel
theorem dX9_run_34 : decode cX9_run 34 = .ok (.istore_n 3, 1) := by decide +kernel
theorem dX9_run_35 : decode cX9_run 35 = .ok (.iload_n 3, 1) := by decide +kernel
theorem dX9_run_36 : decode cX9_run 36 = .ok (.aload_n 0, 1) := by decide +kernel
theorem dX9_run_37 : decode cX9_run 37 = .ok (.getfield 19, 3) := by decide +kernel
theorem dX9_run_40 : decode cX9_run 40 = .ok (.iconst 1, 1) := by decide +kernel
theorem dX9_run_41 : decode cX9_run 41 = .ok (.iaload, 1) := by decide +kernel
theorem dX9_run_42 : decode cX9_run 42 = .ok (.if_icmp .ge 100, 3) := by decide +kernel
theorem dX9_run_45 : decode cX9_run 45 = .ok (.aload_n 0, 1) := by decide +kernel
theorem dX9_run_46 : decode cX9_run 46 = .ok (.getfield 19, 3) := by decide +kernel
theorem dX9_run_49 : decode cX9_run 49 = .ok (.iload_n 2, 1) := by decide +kernel
theorem dX9_run_50 : decode cX9_run 50 = .ok (.iload_n 3, 1) := by decide +kernel
theorem dX9_run_51 : decode cX9_run 51 = .ok (.invokestatic 214, 3) := by decide +kernel
theorem dX9_run_54 : decode cX9_run 54 = .ok (.iaload, 1) := by decide +kernel
theorem dX9_run_55 : decode cX9_run 55 = .ok (.istore 4, 2) := by decide +kernel
theorem dX9_run_57 : decode cX9_run 57 = .ok (.iload 4, 2) := by decide +kernel
theorem dX9_run_59 : decode cX9_run 59 = .ok (.aload_n 0, 1) := by decide +kernel
theorem dX9_run_60 : decode cX9_run 60 = .ok (.getfield 25, 3) := by decide +kernel
theorem dX9_run_63 : decode cX9_run 63 = .ok (.iload_n 2, 1) := by decide +kernel
theorem dX9_run_64 : decode cX9_run 64 = .ok (.iconst 1, 1) := by decide +kernel
theorem dX9_run_65 : decode cX9_run 65 = .ok (.invokestatic 180, 3) := by decide +kernel
theorem dX9_run_68 : decode cX9_run 68 = .ok (.iaload, 1) := by decide +kernel
theorem dX9_run_69 : decode cX9_run 69 = .ok (.if_icmp .ge 8, 3) := by decide +kernel
theorem dX9_run_72 : decode cX9_run 72 = .ok (.iload 4, 2) := by decide +kernel
theorem dX9_run_74 : decode cX9_run 74 = .ok (.goto 13, 3) := by decide +kernel
theorem dX9_run_77 : decode cX9_run 77 = .ok (.aload_n 0, 1) := by decide +kernel
theorem dX9_run_78 : decode cX9_run 78 = .ok (.getfield 25, 3) := by decide +kernel
theorem dX9_run_81 : decode cX9_run 81 = .ok (.iload_n 2, 1) := by decide +kernel
theorem dX9_run_82 : decode cX9_run 82 = .ok (.iconst 1, 1) := by decide +kernel
theorem dX9_run_83 : decode cX9_run 83 = .ok (.invokestatic 180, 3) := by decide +kernel
theorem dX9_run_86 : decode cX9_run 86 = .ok (.iaload, 1) := by decide +kernel
theorem dX9_run_87 : decode cX9_run 87 = .ok (.istore 5, 2) := by decide +kernel
theorem dX9_run_89 : decode cX9_run 89 = .ok (.aload_n 0, 1) := by decide +kernel
theorem dX9_run_90 : decode cX9_run 90 = .ok (.getfield 25, 3) := by decide +kernel
theorem dX9_run_93 : decode cX9_run 93 = .ok (.iload_n 2, 1) := by decide +kernel
theorem dX9_run_94 : decode cX9_run 94 = .ok (.iconst 1, 1) := by decide +kernel
theorem dX9_run_95 : decode cX9_run 95 = .ok (.invokestatic 180, 3) := by decide +kernel
theorem dX9_run_98 : decode cX9_run 98 = .ok (.dup2, 1) := by decide +kernel
theorem dX9_run_99 : decode cX9_run 99 = .ok (.iaload, 1) := by decide +kernel
theorem dX9_run_100 : decode cX9_run 100 = .ok (.iload 5, 2) := by decide +kernel
theorem dX9_run_102 : decode cX9_run 102 = .ok (.isub, 1) := by decide +kernel
theorem dX9_run_103 : decode cX9_run 103 = .ok (.iastore, 1) := by decide +kernel
theorem dX9_run_104 : decode cX9_run 104 = .ok (.aload_n 0, 1) := by decide +kernel
theorem dX9_run_105 : decode cX9_run 105 = .ok (.getfield 25, 3) := by decide +kernel
theorem dX9_run_108 : decode cX9_run 108 = .ok (.iload_n 3, 1) := by decide +kernel
theorem dX9_run_109 : decode cX9_run 109 = .ok (.iconst 1, 1) := by decide +kernel
theorem dX9_run_110 : decode cX9_run 110 = .ok (.invokestatic 180, 3) := by decide +kernel
theorem dX9_run_113 : decode cX9_run 113 = .ok (.dup2, 1) := by decide +kernel
theorem dX9_run_114 : decode cX9_run 114 = .ok (.iaload, 1) := by decide +kernel
theorem dX9_run_115 : decode cX9_run 115 = .ok (.iload 5, 2) := by decide +kernel
theorem dX9_run_117 : decode cX9_run 117 = .ok (.iadd, 1) := by decide +kernel
theorem dX9_run_118 : decode cX9_run 118 = .ok (.iastore, 1) := by decide +kernel
theorem dX9_run_119 : decode cX9_run 119 = .ok (.iload_n 1, 1) := by decide +kernel
theorem dX9_run_120 : decode cX9_run 120 = .ok (.iload 5, 2) := by decide +kernel
theorem dX9_run_122 : decode cX9_run 122 = .ok (.iload 4, 2) := by decide +kernel
theorem dX9_run_124 : decode cX9_run 124 = .ok (.if_icmp .ge 9, 3) := by decide +kernel
theorem dX9_run_127 : decode cX9_run 127 = .ok (.iconst 1, 1) := by decide +kernel
theorem dX9_run_128 : decode cX9_run 128 = .ok (.iload_n 2, 1) := by decide +kernel
theorem dX9_run_129 : decode cX9_run 129 = .ok (.ishl, 1) := by decide +kernel
theorem dX9_run_130 : decode cX9_run 130 = .ok (.goto 4, 3) := by decide +kernel
theorem dX9_run_133 : decode cX9_run 133 = .ok (.iconst 0, 1) := by decide +kernel
theorem dX9_run_134 : decode cX9_run 134 = .ok (.ior, 1) := by decide +kernel
theorem dX9_run_135 : decode cX9_run 135 = .ok (.istore_n 1, 1) := by decide +kernel
theorem dX9_run_136 : decode cX9_run 136 = .ok (.iinc 3 1, 3) := by decide +kernel
theorem dX9_run_139 : decode cX9_run 139 = .ok (.goto (-104), 3) := by decide +kernel
theorem dX9_run_142 : decode cX9_run 142 = .ok (.iinc 2 1, 3) := by decide +kernel
theorem dX9_run_145 : decode cX9_run 145 = .ok (.goto (-122), 3) := by decide +kernel
theorem dX9_run_148 : decode cX9_run 148 = .ok (.iload_n 1, 1) := by decide +kernel
theorem dX9_run_149 : decode cX9_run 149 = .ok (.ireturn, 1) := by decide +kernel
set_option maxRecDepth 20000 in
theorem ggX9_frauds_X9_isThere : GoodIn wsX9_frauds wsX9_isThere := goodIn_r _ [14, 5, 51, 52, 53, 54, 55, 56, 57, 58, 59, 60, 61, 62, 63, 64, 65, 66, 67, 68, 69, 70, 71, 72, 73, 74, 75, 76, 77] (by decide +kernel) (by decide +kernel)
set_option maxRecDepth 20000 in
theorem gX9_frauds_X9_isThere : GoodIn wsX9_frauds (wsV RX9 192 RX9 yX9_isThere wsX9_isThere) := goodIn_app (goodIn_of _ (by decide +kernel)) ggX9_frauds_X9_isThere
set_option maxRecDepth 20000 in
theorem ggX9_frauds_X9_isRow : GoodIn wsX9_frauds wsX9_isRow := goodIn_r _ [17, 18, 19, 20, 13, 21] (by decide +kernel) (by decide +kernel)
set_option maxRecDepth 20000 in
theorem gX9_frauds_X9_isRow : GoodIn wsX9_frauds (va_wsS RX9 64 yX9_isRow wsX9_isRow) := goodIn_app (goodIn_of _ (by decide +kernel)) ggX9_frauds_X9_isRow
set_option maxRecDepth 20000 in
theorem ggX9_frauds_X9_finding : GoodIn wsX9_frauds wsX9_finding := goodIn_r _ [25, 8, 26, 51, 52, 53, 54, 55, 56, 57, 58, 59, 60, 61, 62, 63, 64, 65, 66, 67, 68, 69, 70, 71, 72, 73, 74, 75, 76, 77] (by decide +kernel) (by decide +kernel)
set_option maxRecDepth 20000 in
theorem gX9_frauds_X9_finding : GoodIn wsX9_frauds (wsV RX9 71 RX9 yX9_finding wsX9_finding) := goodIn_app (goodIn_of _ (by decide +kernel)) ggX9_frauds_X9_finding
set_option maxRecDepth 20000 in
theorem ggX9_frauds_X9_layNow : GoodIn wsX9_frauds wsX9_layNow := goodIn_r _ [30, 9, 5, 51, 52, 53, 54, 55, 56, 57, 58, 59, 60, 61, 62, 63, 64, 65, 66, 67, 68, 69, 70, 71, 72, 73, 74, 75, 76, 77] (by decide +kernel) (by decide +kernel)
set_option maxRecDepth 20000 in
theorem gX9_frauds_X9_layNow : GoodIn wsX9_frauds (wsV RX9 202 RX9 yX9_layNow wsX9_layNow) := goodIn_app (goodIn_of _ (by decide +kernel)) ggX9_frauds_X9_layNow
set_option maxRecDepth 20000 in
theorem ggX9_frauds_X9_goHour : GoodIn wsX9_frauds wsX9_goHour := goodIn_r _ [34, 9, 5, 35, 36, 37, 38, 13, 39, 40, 41, 42, 43, 44, 45, 46, 47, 48, 49, 50, 19, 20, 21, 51, 52, 53, 54, 55, 56, 57, 58, 59, 60, 61, 62, 63, 64, 65, 66, 67, 68, 69, 70, 71, 72, 73, 74, 75, 76, 77] (by decide +kernel) (by decide +kernel)
set_option maxRecDepth 20000 in
theorem gX9_frauds_X9_goHour : GoodIn wsX9_frauds (wsV RX9 205 RX9 yX9_goHour wsX9_goHour) := goodIn_app (goodIn_of _ (by decide +kernel)) ggX9_frauds_X9_goHour
set_option maxRecDepth 20000 in
theorem ggX9_frauds_X9_at : GoodIn wsX9_frauds wsX9_at := goodIn_r _ [46] (by decide +kernel) (by decide +kernel)
set_option maxRecDepth 20000 in
theorem gX9_frauds_X9_at : GoodIn wsX9_frauds (va_wsS RX9 180 yX9_at wsX9_at) := goodIn_app (goodIn_of _ (by decide +kernel)) ggX9_frauds_X9_at
theorem dX9_frauds_0 : decode cX9_frauds 0 = .ok (.aload_n 0, 1) := by decide +kernel
theorem dX9_frauds_1 : decode cX9_frauds 1 = .ok (.iconst 0, 1) := by decide +kernel
theorem dX9_frauds_2 : decode cX9_frauds 2 = .ok (.putfield 50, 3) := by decide +kernel
theorem dX9_frauds_5 : decode cX9_frauds 5 = .ok (.aload_n 0, 1) := by decide +kernel
theorem dX9_frauds_6 : decode cX9_frauds 6 = .ok (.invokevirtual 192, 3) := by decide +kernel
theorem dX9_frauds_9 : decode cX9_frauds 9 = .ok (.ifCond .ne 6, 3) := by decide +kernel
theorem dX9_frauds_12 : decode cX9_frauds 12 = .ok (.ldc 196, 2) := by decide +kernel
theorem dX9_frauds_14 : decode cX9_frauds 14 = .ok (.ireturn, 1) := by decide +kernel
theorem dX9_frauds_15 : decode cX9_frauds 15 = .ok (.iload_n 1, 1) := by decide +kernel
theorem dX9_frauds_16 : decode cX9_frauds 16 = .ok (.invokestatic 64, 3) := by decide +kernel
theorem dX9_frauds_19 : decode cX9_frauds 19 = .ok (.ifCond .ne 6, 3) := by decide +kernel
theorem dX9_frauds_22 : decode cX9_frauds 22 = .ok (.ldc 70, 2) := by decide +kernel
theorem dX9_frauds_24 : decode cX9_frauds 24 = .ok (.ireturn, 1) := by decide +kernel
theorem dX9_frauds_25 : decode cX9_frauds 25 = .ok (.aload_n 0, 1) := by decide +kernel
theorem dX9_frauds_26 : decode cX9_frauds 26 = .ok (.getfield 7, 3) := by decide +kernel
theorem dX9_frauds_29 : decode cX9_frauds 29 = .ok (.iload_n 1, 1) := by decide +kernel
theorem dX9_frauds_30 : decode cX9_frauds 30 = .ok (.iaload, 1) := by decide +kernel
theorem dX9_frauds_31 : decode cX9_frauds 31 = .ok (.ifCond .ge 9, 3) := by decide +kernel
theorem dX9_frauds_34 : decode cX9_frauds 34 = .ok (.aload_n 0, 1) := by decide +kernel
theorem dX9_frauds_35 : decode cX9_frauds 35 = .ok (.iconst 1, 1) := by decide +kernel
theorem dX9_frauds_36 : decode cX9_frauds 36 = .ok (.invokevirtual 71, 3) := by decide +kernel
theorem dX9_frauds_39 : decode cX9_frauds 39 = .ok (.ireturn, 1) := by decide +kernel
theorem dX9_frauds_40 : decode cX9_frauds 40 = .ok (.iload_n 2, 1) := by decide +kernel
theorem dX9_frauds_41 : decode cX9_frauds 41 = .ok (.ifCond .lt 24, 3) := by decide +kernel
theorem dX9_frauds_44 : decode cX9_frauds 44 = .ok (.iload_n 2, 1) := by decide +kernel
theorem dX9_frauds_45 : decode cX9_frauds 45 = .ok (.i2l, 1) := by decide +kernel
theorem dX9_frauds_46 : decode cX9_frauds 46 = .ok (.aload_n 0, 1) := by decide +kernel
theorem dX9_frauds_47 : decode cX9_frauds 47 = .ok (.getfield 19, 3) := by decide +kernel
theorem dX9_frauds_50 : decode cX9_frauds 50 = .ok (.iconst 1, 1) := by decide +kernel
theorem dX9_frauds_51 : decode cX9_frauds 51 = .ok (.iaload, 1) := by decide +kernel
theorem dX9_frauds_52 : decode cX9_frauds 52 = .ok (.i2l, 1) := by decide +kernel
theorem dX9_frauds_53 : decode cX9_frauds 53 = .ok (.ladd, 1) := by decide +kernel
theorem dX9_frauds_54 : decode cX9_frauds 54 = .ok (.aload_n 0, 1) := by decide +kernel
theorem dX9_frauds_55 : decode cX9_frauds 55 = .ok (.getfield 13, 3) := by decide +kernel
theorem dX9_frauds_58 : decode cX9_frauds 58 = .ok (.iload_n 1, 1) := by decide +kernel
theorem dX9_frauds_59 : decode cX9_frauds 59 = .ok (.iaload, 1) := by decide +kernel
theorem dX9_frauds_60 : decode cX9_frauds 60 = .ok (.i2l, 1) := by decide +kernel
theorem dX9_frauds_61 : decode cX9_frauds 61 = .ok (.lcmp, 1) := by decide +kernel
theorem dX9_frauds_62 : decode cX9_frauds 62 = .ok (.ifCond .le 9, 3) := by decide +kernel
theorem dX9_frauds_65 : decode cX9_frauds 65 = .ok (.aload_n 0, 1) := by decide +kernel
theorem dX9_frauds_66 : decode cX9_frauds 66 = .ok (.iconst 2, 1) := by decide +kernel
theorem dX9_frauds_67 : decode cX9_frauds 67 = .ok (.invokevirtual 71, 3) := by decide +kernel
theorem dX9_frauds_70 : decode cX9_frauds 70 = .ok (.ireturn, 1) := by decide +kernel
theorem dX9_frauds_71 : decode cX9_frauds 71 = .ok (.iconst 0, 1) := by decide +kernel
theorem dX9_frauds_72 : decode cX9_frauds 72 = .ok (.istore_n 3, 1) := by decide +kernel
theorem dX9_frauds_73 : decode cX9_frauds 73 = .ok (.iload_n 3, 1) := by decide +kernel
theorem dX9_frauds_74 : decode cX9_frauds 74 = .ok (.aload_n 0, 1) := by decide +kernel
theorem dX9_frauds_75 : decode cX9_frauds 75 = .ok (.getfield 19, 3) := by decide +kernel
theorem dX9_frauds_78 : decode cX9_frauds 78 = .ok (.iconst 1, 1) := by decide +kernel
theorem dX9_frauds_79 : decode cX9_frauds 79 = .ok (.iaload, 1) := by decide +kernel
theorem dX9_frauds_80 : decode cX9_frauds 80 = .ok (.if_icmp .ge 28, 3) := by decide +kernel
theorem dX9_frauds_83 : decode cX9_frauds 83 = .ok (.aload_n 0, 1) := by decide +kernel
theorem dX9_frauds_84 : decode cX9_frauds 84 = .ok (.getfield 16, 3) := by decide +kernel
theorem dX9_frauds_87 : decode cX9_frauds 87 = .ok (.bipush 40, 2) := by decide +kernel
theorem dX9_frauds_89 : decode cX9_frauds 89 = .ok (.iload_n 1, 1) := by decide +kernel
theorem dX9_frauds_90 : decode cX9_frauds 90 = .ok (.imul, 1) := by decide +kernel
theorem dX9_frauds_91 : decode cX9_frauds 91 = .ok (.iload_n 2, 1) := by decide +kernel
theorem dX9_frauds_92 : decode cX9_frauds 92 = .ok (.iadd, 1) := by decide +kernel
theorem dX9_frauds_93 : decode cX9_frauds 93 = .ok (.iload_n 3, 1) := by decide +kernel
theorem dX9_frauds_94 : decode cX9_frauds 94 = .ok (.iadd, 1) := by decide +kernel
theorem dX9_frauds_95 : decode cX9_frauds 95 = .ok (.iaload, 1) := by decide +kernel
theorem dX9_frauds_96 : decode cX9_frauds 96 = .ok (.ifCond .ge 6, 3) := by decide +kernel
theorem dX9_frauds_99 : decode cX9_frauds 99 = .ok (.ldc 70, 2) := by decide +kernel
theorem dX9_frauds_101 : decode cX9_frauds 101 = .ok (.ireturn, 1) := by decide +kernel
theorem dX9_frauds_102 : decode cX9_frauds 102 = .ok (.iinc 3 1, 3) := by decide +kernel
theorem dX9_frauds_105 : decode cX9_frauds 105 = .ok (.goto (-32), 3) := by decide +kernel
theorem dX9_frauds_108 : decode cX9_frauds 108 = .ok (.aload_n 0, 1) := by decide +kernel
theorem dX9_frauds_109 : decode cX9_frauds 109 = .ok (.iconst 0, 1) := by decide +kernel
theorem dX9_frauds_110 : decode cX9_frauds 110 = .ok (.putfield 54, 3) := by decide +kernel
theorem dX9_frauds_113 : decode cX9_frauds 113 = .ok (.aload_n 0, 1) := by decide +kernel
theorem dX9_frauds_114 : decode cX9_frauds 114 = .ok (.invokevirtual 202, 3) := by decide +kernel
theorem dX9_frauds_117 : decode cX9_frauds 117 = .ok (.aload_n 0, 1) := by decide +kernel
theorem dX9_frauds_118 : decode cX9_frauds 118 = .ok (.invokevirtual 205, 3) := by decide +kernel
theorem dX9_frauds_121 : decode cX9_frauds 121 = .ok (.iconst 0, 1) := by decide +kernel
theorem dX9_frauds_122 : decode cX9_frauds 122 = .ok (.istore_n 3, 1) := by decide +kernel
theorem dX9_frauds_123 : decode cX9_frauds 123 = .ok (.iconst 0, 1) := by decide +kernel
theorem dX9_frauds_124 : decode cX9_frauds 124 = .ok (.istore 4, 2) := by decide +kernel
theorem dX9_frauds_126 : decode cX9_frauds 126 = .ok (.iload 4, 2) := by decide +kernel
theorem dX9_frauds_128 : decode cX9_frauds 128 = .ok (.aload_n 0, 1) := by decide +kernel
theorem dX9_frauds_129 : decode cX9_frauds 129 = .ok (.getfield 19, 3) := by decide +kernel
theorem dX9_frauds_132 : decode cX9_frauds 132 = .ok (.iconst 1, 1) := by decide +kernel
theorem dX9_frauds_133 : decode cX9_frauds 133 = .ok (.iaload, 1) := by decide +kernel
theorem dX9_frauds_134 : decode cX9_frauds 134 = .ok (.if_icmp .ge 48, 3) := by decide +kernel
theorem dX9_frauds_137 : decode cX9_frauds 137 = .ok (.iload_n 3, 1) := by decide +kernel
theorem dX9_frauds_138 : decode cX9_frauds 138 = .ok (.aload_n 0, 1) := by decide +kernel
theorem dX9_frauds_139 : decode cX9_frauds 139 = .ok (.getfield 25, 3) := by decide +kernel
theorem dX9_frauds_142 : decode cX9_frauds 142 = .ok (.iload 4, 2) := by decide +kernel
theorem dX9_frauds_144 : decode cX9_frauds 144 = .ok (.iconst 1, 1) := by decide +kernel
theorem dX9_frauds_145 : decode cX9_frauds 145 = .ok (.invokestatic 180, 3) := by decide +kernel
theorem dX9_frauds_148 : decode cX9_frauds 148 = .ok (.iaload, 1) := by decide +kernel
theorem dX9_frauds_149 : decode cX9_frauds 149 = .ok (.aload_n 0, 1) := by decide +kernel
theorem dX9_frauds_150 : decode cX9_frauds 150 = .ok (.getfield 16, 3) := by decide +kernel
theorem dX9_frauds_153 : decode cX9_frauds 153 = .ok (.bipush 40, 2) := by decide +kernel
theorem dX9_frauds_155 : decode cX9_frauds 155 = .ok (.iload_n 1, 1) := by decide +kernel
theorem dX9_frauds_156 : decode cX9_frauds 156 = .ok (.imul, 1) := by decide +kernel
theorem dX9_frauds_157 : decode cX9_frauds 157 = .ok (.iload_n 2, 1) := by decide +kernel
theorem dX9_frauds_158 : decode cX9_frauds 158 = .ok (.iadd, 1) := by decide +kernel
theorem dX9_frauds_159 : decode cX9_frauds 159 = .ok (.iload 4, 2) := by decide +kernel
theorem dX9_frauds_161 : decode cX9_frauds 161 = .ok (.iadd, 1) := by decide +kernel
theorem dX9_frauds_162 : decode cX9_frauds 162 = .ok (.iaload, 1) := by decide +kernel
theorem dX9_frauds_163 : decode cX9_frauds 163 = .ok (.if_icmp .eq 10, 3) := by decide +kernel
theorem dX9_frauds_166 : decode cX9_frauds 166 = .ok (.iconst 1, 1) := by decide +kernel
theorem dX9_frauds_167 : decode cX9_frauds 167 = .ok (.iload 4, 2) := by decide +kernel
theorem dX9_frauds_169 : decode cX9_frauds 169 = .ok (.ishl, 1) := by decide +kernel
theorem dX9_frauds_170 : decode cX9_frauds 170 = .ok (.goto 4, 3) := by decide +kernel
theorem dX9_frauds_173 : decode cX9_frauds 173 = .ok (.iconst 0, 1) := by decide +kernel
theorem dX9_frauds_174 : decode cX9_frauds 174 = .ok (.ior, 1) := by decide +kernel
theorem dX9_frauds_175 : decode cX9_frauds 175 = .ok (.istore_n 3, 1) := by decide +kernel
theorem dX9_frauds_176 : decode cX9_frauds 176 = .ok (.iinc 4 1, 3) := by decide +kernel
theorem dX9_frauds_179 : decode cX9_frauds 179 = .ok (.goto (-53), 3) := by decide +kernel
theorem dX9_frauds_182 : decode cX9_frauds 182 = .ok (.iload_n 3, 1) := by decide +kernel
theorem dX9_frauds_183 : decode cX9_frauds 183 = .ok (.ireturn, 1) := by decide +kernel
set_option maxRecDepth 20000 in
theorem ggX9_image_X9_in : GoodIn wsX9_image wsX9_in := goodIn_r _ [10] (by decide +kernel) (by decide +kernel)
set_option maxRecDepth 20000 in
theorem gX9_image_X9_in : GoodIn wsX9_image (va_wsS RX9 60 yX9_in wsX9_in) := goodIn_app (goodIn_of _ (by decide +kernel)) ggX9_image_X9_in
set_option maxRecDepth 20000 in
theorem ggX9_image_X9_isThere : GoodIn wsX9_image wsX9_isThere := goodIn_r _ [14, 5, 15, 16, 17, 18, 19, 20, 21, 22, 23, 24, 25, 26, 27, 28, 29, 30, 31, 32, 33, 34, 35, 36, 37, 38, 39, 40, 41] (by decide +kernel) (by decide +kernel)
set_option maxRecDepth 20000 in
theorem gX9_image_X9_isThere : GoodIn wsX9_image (wsV RX9 192 RX9 yX9_isThere wsX9_isThere) := goodIn_app (goodIn_of _ (by decide +kernel)) ggX9_image_X9_isThere
theorem dX9_image_0 : decode cX9_image 0 = .ok (.aload_n 0, 1) := by decide +kernel
theorem dX9_image_1 : decode cX9_image 1 = .ok (.iconst 0, 1) := by decide +kernel
theorem dX9_image_2 : decode cX9_image 2 = .ok (.putfield 50, 3) := by decide +kernel
theorem dX9_image_5 : decode cX9_image 5 = .ok (.iload_n 1, 1) := by decide +kernel
theorem dX9_image_6 : decode cX9_image 6 = .ok (.i2l, 1) := by decide +kernel
theorem dX9_image_7 : decode cX9_image 7 = .ok (.lconst 0, 1) := by decide +kernel
theorem dX9_image_8 : decode cX9_image 8 = .ok (.lconst 1, 1) := by decide +kernel
theorem dX9_image_9 : decode cX9_image 9 = .ok (.invokestatic 60, 3) := by decide +kernel
theorem dX9_image_12 : decode cX9_image 12 = .ok (.ifCond .ne 6, 3) := by decide +kernel
theorem dX9_image_15 : decode cX9_image 15 = .ok (.ldc 70, 2) := by decide +kernel
theorem dX9_image_17 : decode cX9_image 17 = .ok (.ireturn, 1) := by decide +kernel
theorem dX9_image_18 : decode cX9_image 18 = .ok (.aload_n 0, 1) := by decide +kernel
theorem dX9_image_19 : decode cX9_image 19 = .ok (.invokevirtual 192, 3) := by decide +kernel
theorem dX9_image_22 : decode cX9_image 22 = .ok (.ifCond .ne 6, 3) := by decide +kernel
theorem dX9_image_25 : decode cX9_image 25 = .ok (.ldc 196, 2) := by decide +kernel
theorem dX9_image_27 : decode cX9_image 27 = .ok (.ireturn, 1) := by decide +kernel
theorem dX9_image_28 : decode cX9_image 28 = .ok (.iconst 0, 1) := by decide +kernel
theorem dX9_image_29 : decode cX9_image 29 = .ok (.istore_n 2, 1) := by decide +kernel
theorem dX9_image_30 : decode cX9_image 30 = .ok (.iload_n 2, 1) := by decide +kernel
theorem dX9_image_31 : decode cX9_image 31 = .ok (.bipush 75, 2) := by decide +kernel
theorem dX9_image_33 : decode cX9_image 33 = .ok (.if_icmp .ge 26, 3) := by decide +kernel
theorem dX9_image_36 : decode cX9_image 36 = .ok (.aload_n 0, 1) := by decide +kernel
theorem dX9_image_37 : decode cX9_image 37 = .ok (.getfield 44, 3) := by decide +kernel
theorem dX9_image_40 : decode cX9_image 40 = .ok (.bipush 75, 2) := by decide +kernel
theorem dX9_image_42 : decode cX9_image 42 = .ok (.iload_n 1, 1) := by decide +kernel
theorem dX9_image_43 : decode cX9_image 43 = .ok (.imul, 1) := by decide +kernel
theorem dX9_image_44 : decode cX9_image 44 = .ok (.iload_n 2, 1) := by decide +kernel
theorem dX9_image_45 : decode cX9_image 45 = .ok (.iadd, 1) := by decide +kernel
theorem dX9_image_46 : decode cX9_image 46 = .ok (.aload_n 0, 1) := by decide +kernel
theorem dX9_image_47 : decode cX9_image 47 = .ok (.getfield 19, 3) := by decide +kernel
theorem dX9_image_50 : decode cX9_image 50 = .ok (.iload_n 2, 1) := by decide +kernel
theorem dX9_image_51 : decode cX9_image 51 = .ok (.iaload, 1) := by decide +kernel
theorem dX9_image_52 : decode cX9_image 52 = .ok (.iastore, 1) := by decide +kernel
theorem dX9_image_53 : decode cX9_image 53 = .ok (.iinc 2 1, 3) := by decide +kernel
theorem dX9_image_56 : decode cX9_image 56 = .ok (.goto (-26), 3) := by decide +kernel
theorem dX9_image_59 : decode cX9_image 59 = .ok (.aload_n 0, 1) := by decide +kernel
theorem dX9_image_60 : decode cX9_image 60 = .ok (.getfield 40, 3) := by decide +kernel
theorem dX9_image_63 : decode cX9_image 63 = .ok (.iload_n 1, 1) := by decide +kernel
theorem dX9_image_64 : decode cX9_image 64 = .ok (.iconst 1, 1) := by decide +kernel
theorem dX9_image_65 : decode cX9_image 65 = .ok (.bastore, 1) := by decide +kernel
theorem dX9_image_66 : decode cX9_image 66 = .ok (.iconst 1, 1) := by decide +kernel
theorem dX9_image_67 : decode cX9_image 67 = .ok (.ireturn, 1) := by decide +kernel
set_option maxRecDepth 20000 in
theorem ggX9_restore_X9_in : GoodIn wsX9_restore wsX9_in := goodIn_r _ [11] (by decide +kernel) (by decide +kernel)
set_option maxRecDepth 20000 in
theorem gX9_restore_X9_in : GoodIn wsX9_restore (va_wsS RX9 60 yX9_in wsX9_in) := goodIn_app (goodIn_of _ (by decide +kernel)) ggX9_restore_X9_in
theorem dX9_restore_0 : decode cX9_restore 0 = .ok (.aload_n 0, 1) := by decide +kernel
theorem dX9_restore_1 : decode cX9_restore 1 = .ok (.iconst 0, 1) := by decide +kernel
theorem dX9_restore_2 : decode cX9_restore 2 = .ok (.putfield 50, 3) := by decide +kernel
theorem dX9_restore_5 : decode cX9_restore 5 = .ok (.iload_n 1, 1) := by decide +kernel
theorem dX9_restore_6 : decode cX9_restore 6 = .ok (.i2l, 1) := by decide +kernel
theorem dX9_restore_7 : decode cX9_restore 7 = .ok (.lconst 0, 1) := by decide +kernel
theorem dX9_restore_8 : decode cX9_restore 8 = .ok (.lconst 1, 1) := by decide +kernel
theorem dX9_restore_9 : decode cX9_restore 9 = .ok (.invokestatic 60, 3) := by decide +kernel
theorem dX9_restore_12 : decode cX9_restore 12 = .ok (.ifCond .ne 6, 3) := by decide +kernel
theorem dX9_restore_15 : decode cX9_restore 15 = .ok (.ldc 70, 2) := by decide +kernel
theorem dX9_restore_17 : decode cX9_restore 17 = .ok (.ireturn, 1) := by decide +kernel
theorem dX9_restore_18 : decode cX9_restore 18 = .ok (.aload_n 0, 1) := by decide +kernel
theorem dX9_restore_19 : decode cX9_restore 19 = .ok (.getfield 40, 3) := by decide +kernel
theorem dX9_restore_22 : decode cX9_restore 22 = .ok (.iload_n 1, 1) := by decide +kernel
theorem dX9_restore_23 : decode cX9_restore 23 = .ok (.baload, 1) := by decide +kernel
theorem dX9_restore_24 : decode cX9_restore 24 = .ok (.ifCond .ne 6, 3) := by decide +kernel
theorem dX9_restore_27 : decode cX9_restore 27 = .ok (.ldc 196, 2) := by decide +kernel
theorem dX9_restore_29 : decode cX9_restore 29 = .ok (.ireturn, 1) := by decide +kernel
theorem dX9_restore_30 : decode cX9_restore 30 = .ok (.iconst 0, 1) := by decide +kernel
theorem dX9_restore_31 : decode cX9_restore 31 = .ok (.istore_n 2, 1) := by decide +kernel
theorem dX9_restore_32 : decode cX9_restore 32 = .ok (.iload_n 2, 1) := by decide +kernel
theorem dX9_restore_33 : decode cX9_restore 33 = .ok (.bipush 75, 2) := by decide +kernel
theorem dX9_restore_35 : decode cX9_restore 35 = .ok (.if_icmp .ge 26, 3) := by decide +kernel
theorem dX9_restore_38 : decode cX9_restore 38 = .ok (.aload_n 0, 1) := by decide +kernel
theorem dX9_restore_39 : decode cX9_restore 39 = .ok (.getfield 19, 3) := by decide +kernel
theorem dX9_restore_42 : decode cX9_restore 42 = .ok (.iload_n 2, 1) := by decide +kernel
theorem dX9_restore_43 : decode cX9_restore 43 = .ok (.aload_n 0, 1) := by decide +kernel
theorem dX9_restore_44 : decode cX9_restore 44 = .ok (.getfield 44, 3) := by decide +kernel
theorem dX9_restore_47 : decode cX9_restore 47 = .ok (.bipush 75, 2) := by decide +kernel
theorem dX9_restore_49 : decode cX9_restore 49 = .ok (.iload_n 1, 1) := by decide +kernel
theorem dX9_restore_50 : decode cX9_restore 50 = .ok (.imul, 1) := by decide +kernel
theorem dX9_restore_51 : decode cX9_restore 51 = .ok (.iload_n 2, 1) := by decide +kernel
theorem dX9_restore_52 : decode cX9_restore 52 = .ok (.iadd, 1) := by decide +kernel
theorem dX9_restore_53 : decode cX9_restore 53 = .ok (.iaload, 1) := by decide +kernel
theorem dX9_restore_54 : decode cX9_restore 54 = .ok (.iastore, 1) := by decide +kernel
theorem dX9_restore_55 : decode cX9_restore 55 = .ok (.iinc 2 1, 3) := by decide +kernel
theorem dX9_restore_58 : decode cX9_restore 58 = .ok (.goto (-26), 3) := by decide +kernel
theorem dX9_restore_61 : decode cX9_restore 61 = .ok (.aload_n 0, 1) := by decide +kernel
theorem dX9_restore_62 : decode cX9_restore 62 = .ok (.iconst 0, 1) := by decide +kernel
theorem dX9_restore_63 : decode cX9_restore 63 = .ok (.putfield 171, 3) := by decide +kernel
theorem dX9_restore_66 : decode cX9_restore 66 = .ok (.iconst 1, 1) := by decide +kernel
theorem dX9_restore_67 : decode cX9_restore 67 = .ok (.ireturn, 1) := by decide +kernel
theorem dX9_isOf_0 : decode cX9_isOf 0 = .ok (.iload_n 1, 1) := by decide +kernel
theorem dX9_isOf_1 : decode cX9_isOf 1 = .ok (.ifCond .eq 28, 3) := by decide +kernel
theorem dX9_isOf_4 : decode cX9_isOf 4 = .ok (.iload_n 0, 1) := by decide +kernel
theorem dX9_isOf_5 : decode cX9_isOf 5 = .ok (.iload_n 1, 1) := by decide +kernel
theorem dX9_isOf_6 : decode cX9_isOf 6 = .ok (.if_icmp .eq 23, 3) := by decide +kernel
theorem dX9_isOf_9 : decode cX9_isOf 9 = .ok (.iload_n 1, 1) := by decide +kernel
theorem dX9_isOf_10 : decode cX9_isOf 10 = .ok (.iconst 1, 1) := by decide +kernel
theorem dX9_isOf_11 : decode cX9_isOf 11 = .ok (.if_icmp .ne 8, 3) := by decide +kernel
theorem dX9_isOf_14 : decode cX9_isOf 14 = .ok (.iload_n 0, 1) := by decide +kernel
theorem dX9_isOf_15 : decode cX9_isOf 15 = .ok (.iconst 4, 1) := by decide +kernel
theorem dX9_isOf_16 : decode cX9_isOf 16 = .ok (.if_icmp .lt 13, 3) := by decide +kernel
theorem dX9_isOf_19 : decode cX9_isOf 19 = .ok (.iload_n 1, 1) := by decide +kernel
theorem dX9_isOf_20 : decode cX9_isOf 20 = .ok (.iconst 4, 1) := by decide +kernel
theorem dX9_isOf_21 : decode cX9_isOf 21 = .ok (.if_icmp .ne 12, 3) := by decide +kernel
theorem dX9_isOf_24 : decode cX9_isOf 24 = .ok (.iload_n 0, 1) := by decide +kernel
theorem dX9_isOf_25 : decode cX9_isOf 25 = .ok (.iconst 5, 1) := by decide +kernel
theorem dX9_isOf_26 : decode cX9_isOf 26 = .ok (.if_icmp .ne 7, 3) := by decide +kernel
theorem dX9_isOf_29 : decode cX9_isOf 29 = .ok (.iconst 1, 1) := by decide +kernel
theorem dX9_isOf_30 : decode cX9_isOf 30 = .ok (.goto 4, 3) := by decide +kernel
theorem dX9_isOf_33 : decode cX9_isOf 33 = .ok (.iconst 0, 1) := by decide +kernel
theorem dX9_isOf_34 : decode cX9_isOf 34 = .ok (.ireturn, 1) := by decide +kernel
set_option maxRecDepth 20000 in
theorem ggX9_kind_X9_isWater : GoodIn wsX9_kind wsX9_isWater := goodIn_r _ [8, 2, 9, 10, 7, 11, 15, 16, 17, 18, 19, 20, 21, 22, 23, 24, 25, 26, 27, 28, 29, 30, 31, 32, 33, 34, 35, 36, 37, 38, 39, 40, 41] (by decide +kernel) (by decide +kernel)
set_option maxRecDepth 20000 in
theorem gX9_kind_X9_isWater : GoodIn wsX9_kind (wsV RX9 174 RX9 yX9_isWater wsX9_isWater) := goodIn_app (goodIn_of _ (by decide +kernel)) ggX9_kind_X9_isWater
set_option maxRecDepth 20000 in
theorem ggX9_kind_X9_at : GoodIn wsX9_kind wsX9_at := goodIn_r _ [14] (by decide +kernel) (by decide +kernel)
set_option maxRecDepth 20000 in
theorem gX9_kind_X9_at : GoodIn wsX9_kind (va_wsS RX9 180 yX9_at wsX9_at) := goodIn_app (goodIn_of _ (by decide +kernel)) ggX9_kind_X9_at
theorem dX9_kind_0 : decode cX9_kind 0 = .ok (.aload_n 0, 1) := by decide +kernel
theorem dX9_kind_1 : decode cX9_kind 1 = .ok (.iconst 0, 1) := by decide +kernel
theorem dX9_kind_2 : decode cX9_kind 2 = .ok (.putfield 50, 3) := by decide +kernel
theorem dX9_kind_5 : decode cX9_kind 5 = .ok (.aload_n 0, 1) := by decide +kernel
theorem dX9_kind_6 : decode cX9_kind 6 = .ok (.iload_n 1, 1) := by decide +kernel
theorem dX9_kind_7 : decode cX9_kind 7 = .ok (.invokevirtual 174, 3) := by decide +kernel
theorem dX9_kind_10 : decode cX9_kind 10 = .ok (.ifCond .eq 16, 3) := by decide +kernel
theorem dX9_kind_13 : decode cX9_kind 13 = .ok (.aload_n 0, 1) := by decide +kernel
theorem dX9_kind_14 : decode cX9_kind 14 = .ok (.getfield 19, 3) := by decide +kernel
theorem dX9_kind_17 : decode cX9_kind 17 = .ok (.iload_n 1, 1) := by decide +kernel
theorem dX9_kind_18 : decode cX9_kind 18 = .ok (.iconst 0, 1) := by decide +kernel
theorem dX9_kind_19 : decode cX9_kind 19 = .ok (.invokestatic 180, 3) := by decide +kernel
theorem dX9_kind_22 : decode cX9_kind 22 = .ok (.iaload, 1) := by decide +kernel
theorem dX9_kind_23 : decode cX9_kind 23 = .ok (.goto 5, 3) := by decide +kernel
theorem dX9_kind_26 : decode cX9_kind 26 = .ok (.ldc 70, 2) := by decide +kernel
theorem dX9_kind_28 : decode cX9_kind 28 = .ok (.ireturn, 1) := by decide +kernel
set_option maxRecDepth 20000 in
theorem ggX9_as_X9_isWater : GoodIn wsX9_as wsX9_isWater := goodIn_r _ [10, 5, 11, 12, 9, 13, 25, 26, 27, 28, 29, 30, 31, 32, 33, 34, 35, 36, 37, 38, 39, 40, 41, 42, 43, 44, 45, 46, 47, 48, 49, 50, 51] (by decide +kernel) (by decide +kernel)
set_option maxRecDepth 20000 in
theorem gX9_as_X9_isWater : GoodIn wsX9_as (wsV RX9 174 RX9 yX9_isWater wsX9_isWater) := goodIn_app (goodIn_of _ (by decide +kernel)) ggX9_as_X9_isWater
set_option maxRecDepth 20000 in
theorem ggX9_as_X9_in : GoodIn wsX9_as wsX9_in := goodIn_r _ [13] (by decide +kernel) (by decide +kernel)
set_option maxRecDepth 20000 in
theorem gX9_as_X9_in : GoodIn wsX9_as (va_wsS RX9 60 yX9_in wsX9_in) := goodIn_app (goodIn_of _ (by decide +kernel)) ggX9_as_X9_in
set_option maxRecDepth 20000 in
theorem ggX9_as_X9_at : GoodIn wsX9_as wsX9_at := goodIn_r _ [16] (by decide +kernel) (by decide +kernel)
set_option maxRecDepth 20000 in
theorem gX9_as_X9_at : GoodIn wsX9_as (va_wsS RX9 180 yX9_at wsX9_at) := goodIn_app (goodIn_of _ (by decide +kernel)) ggX9_as_X9_at
set_option maxRecDepth 20000 in
theorem ggX9_as_X9_isOf : GoodIn wsX9_as wsX9_isOf := goodIn_r _ [19] (by decide +kernel) (by decide +kernel)
set_option maxRecDepth 20000 in
theorem gX9_as_X9_isOf : GoodIn wsX9_as (va_wsS RX9 252 yX9_isOf wsX9_isOf) := goodIn_app (goodIn_of _ (by decide +kernel)) ggX9_as_X9_isOf
set_option maxRecDepth 20000 in
theorem ggX9_as_X9_finding : GoodIn wsX9_as wsX9_finding := goodIn_r _ [23, 4, 24, 25, 26, 27, 28, 29, 30, 31, 32, 33, 34, 35, 36, 37, 38, 39, 40, 41, 42, 43, 44, 45, 46, 47, 48, 49, 50, 51] (by decide +kernel) (by decide +kernel)
set_option maxRecDepth 20000 in
theorem gX9_as_X9_finding : GoodIn wsX9_as (wsV RX9 71 RX9 yX9_finding wsX9_finding) := goodIn_app (goodIn_of _ (by decide +kernel)) ggX9_as_X9_finding
theorem dX9_as_0 : decode cX9_as 0 = .ok (.aload_n 0, 1) := by decide +kernel
theorem dX9_as_1 : decode cX9_as 1 = .ok (.iconst 0, 1) := by decide +kernel
theorem dX9_as_2 : decode cX9_as 2 = .ok (.putfield 50, 3) := by decide +kernel
theorem dX9_as_5 : decode cX9_as 5 = .ok (.aload_n 0, 1) := by decide +kernel
theorem dX9_as_6 : decode cX9_as 6 = .ok (.iload_n 1, 1) := by decide +kernel
theorem dX9_as_7 : decode cX9_as 7 = .ok (.invokevirtual 174, 3) := by decide +kernel
theorem dX9_as_10 : decode cX9_as 10 = .ok (.ifCond .eq 15, 3) := by decide +kernel
theorem dX9_as_13 : decode cX9_as 13 = .ok (.iload_n 2, 1) := by decide +kernel
theorem dX9_as_14 : decode cX9_as 14 = .ok (.i2l, 1) := by decide +kernel
theorem dX9_as_15 : decode cX9_as 15 = .ok (.lconst 0, 1) := by decide +kernel
theorem dX9_as_16 : decode cX9_as 16 = .ok (.ldc2_w 250, 3) := by decide +kernel
theorem dX9_as_19 : decode cX9_as 19 = .ok (.invokestatic 60, 3) := by decide +kernel
theorem dX9_as_22 : decode cX9_as 22 = .ok (.ifCond .ne 6, 3) := by decide +kernel
theorem dX9_as_25 : decode cX9_as 25 = .ok (.ldc 70, 2) := by decide +kernel
theorem dX9_as_27 : decode cX9_as 27 = .ok (.ireturn, 1) := by decide +kernel
theorem dX9_as_28 : decode cX9_as 28 = .ok (.aload_n 0, 1) := by decide +kernel
theorem dX9_as_29 : decode cX9_as 29 = .ok (.iconst 0, 1) := by decide +kernel
theorem dX9_as_30 : decode cX9_as 30 = .ok (.putfield 54, 3) := by decide +kernel
theorem dX9_as_33 : decode cX9_as 33 = .ok (.aload_n 0, 1) := by decide +kernel
theorem dX9_as_34 : decode cX9_as 34 = .ok (.getfield 19, 3) := by decide +kernel
theorem dX9_as_37 : decode cX9_as 37 = .ok (.iload_n 1, 1) := by decide +kernel
theorem dX9_as_38 : decode cX9_as 38 = .ok (.iconst 0, 1) := by decide +kernel
theorem dX9_as_39 : decode cX9_as 39 = .ok (.invokestatic 180, 3) := by decide +kernel
theorem dX9_as_42 : decode cX9_as 42 = .ok (.iaload, 1) := by decide +kernel
theorem dX9_as_43 : decode cX9_as 43 = .ok (.iload_n 2, 1) := by decide +kernel
theorem dX9_as_44 : decode cX9_as 44 = .ok (.invokestatic 252, 3) := by decide +kernel
theorem dX9_as_47 : decode cX9_as 47 = .ok (.ifCond .eq 7, 3) := by decide +kernel
theorem dX9_as_50 : decode cX9_as 50 = .ok (.iload_n 1, 1) := by decide +kernel
theorem dX9_as_51 : decode cX9_as 51 = .ok (.goto 8, 3) := by decide +kernel
theorem dX9_as_54 : decode cX9_as 54 = .ok (.aload_n 0, 1) := by decide +kernel
theorem dX9_as_55 : decode cX9_as 55 = .ok (.iconst 3, 1) := by decide +kernel
theorem dX9_as_56 : decode cX9_as 56 = .ok (.invokevirtual 71, 3) := by decide +kernel
theorem dX9_as_59 : decode cX9_as 59 = .ok (.ireturn, 1) := by decide +kernel
theorem dX9_began_0 : decode cX9_began 0 = .ok (.aload_n 0, 1) := by decide +kernel
theorem dX9_began_1 : decode cX9_began 1 = .ok (.getfield 255, 3) := by decide +kernel
theorem dX9_began_4 : decode cX9_began 4 = .ok (.bipush 16, 2) := by decide +kernel
theorem dX9_began_6 : decode cX9_began 6 = .ok (.if_icmp .ge 23, 3) := by decide +kernel
theorem dX9_began_9 : decode cX9_began 9 = .ok (.aload_n 0, 1) := by decide +kernel
theorem dX9_began_10 : decode cX9_began 10 = .ok (.getfield 47, 3) := by decide +kernel
theorem dX9_began_13 : decode cX9_began 13 = .ok (.aload_n 0, 1) := by decide +kernel
theorem dX9_began_14 : decode cX9_began 14 = .ok (.getfield 255, 3) := by decide +kernel
theorem dX9_began_17 : decode cX9_began 17 = .ok (.iload_n 1, 1) := by decide +kernel
theorem dX9_began_18 : decode cX9_began 18 = .ok (.iastore, 1) := by decide +kernel
theorem dX9_began_19 : decode cX9_began 19 = .ok (.aload_n 0, 1) := by decide +kernel
theorem dX9_began_20 : decode cX9_began 20 = .ok (.dup, 1) := by decide +kernel
theorem dX9_began_21 : decode cX9_began 21 = .ok (.getfield 255, 3) := by decide +kernel
theorem dX9_began_24 : decode cX9_began 24 = .ok (.iconst 1, 1) := by decide +kernel
theorem dX9_began_25 : decode cX9_began 25 = .ok (.iadd, 1) := by decide +kernel
theorem dX9_began_26 : decode cX9_began 26 = .ok (.putfield 255, 3) := by decide +kernel
theorem dX9_began_29 : decode cX9_began 29 = .ok (.return_, 1) := by decide +kernel
set_option maxRecDepth 20000 in
theorem ggX9_plainSize_X9_began : GoodIn wsX9_plainSize wsX9_began := goodIn_r _ [6, 7, 8, 12, 13, 14, 15, 16, 17, 18, 19, 20, 21, 22, 23, 24, 25, 26, 27, 28, 29, 30, 31, 32, 33, 34, 35, 36, 37, 38] (by decide +kernel) (by decide +kernel)
set_option maxRecDepth 20000 in
theorem gX9_plainSize_X9_began : GoodIn wsX9_plainSize (wsV RX9 258 RX9 yX9_began wsX9_began) := goodIn_app (goodIn_of _ (by decide +kernel)) ggX9_plainSize_X9_began
set_option maxRecDepth 20000 in
theorem ggX9_plainSize_X9_at : GoodIn wsX9_plainSize wsX9_at := goodIn_r _ [11] (by decide +kernel) (by decide +kernel)
set_option maxRecDepth 20000 in
theorem gX9_plainSize_X9_at : GoodIn wsX9_plainSize (va_wsS RX9 180 yX9_at wsX9_at) := goodIn_app (goodIn_of _ (by decide +kernel)) ggX9_plainSize_X9_at
theorem dX9_plainSize_0 : decode cX9_plainSize 0 = .ok (.aload_n 0, 1) := by decide +kernel
theorem dX9_plainSize_1 : decode cX9_plainSize 1 = .ok (.bipush 10, 2) := by decide +kernel
theorem dX9_plainSize_3 : decode cX9_plainSize 3 = .ok (.invokevirtual 258, 3) := by decide +kernel
theorem dX9_plainSize_6 : decode cX9_plainSize 6 = .ok (.aload_n 0, 1) := by decide +kernel
theorem dX9_plainSize_7 : decode cX9_plainSize 7 = .ok (.getfield 19, 3) := by decide +kernel
theorem dX9_plainSize_10 : decode cX9_plainSize 10 = .ok (.iload_n 1, 1) := by decide +kernel
theorem dX9_plainSize_11 : decode cX9_plainSize 11 = .ok (.iconst 1, 1) := by decide +kernel
theorem dX9_plainSize_12 : decode cX9_plainSize 12 = .ok (.invokestatic 180, 3) := by decide +kernel
theorem dX9_plainSize_15 : decode cX9_plainSize 15 = .ok (.iaload, 1) := by decide +kernel
theorem dX9_plainSize_16 : decode cX9_plainSize 16 = .ok (.ireturn, 1) := by decide +kernel
set_option maxRecDepth 20000 in
theorem ggX9_dykeSize_X9_at : GoodIn wsX9_dykeSize wsX9_at := goodIn_r _ [5] (by decide +kernel) (by decide +kernel)
set_option maxRecDepth 20000 in
theorem gX9_dykeSize_X9_at : GoodIn wsX9_dykeSize (va_wsS RX9 180 yX9_at wsX9_at) := goodIn_app (goodIn_of _ (by decide +kernel)) ggX9_dykeSize_X9_at
set_option maxRecDepth 20000 in
theorem ggX9_dykeSize_X9_began : GoodIn wsX9_dykeSize wsX9_began := goodIn_r _ [9, 10, 11, 16, 17, 18, 19, 20, 21, 22, 23, 24, 25, 26, 27, 28, 29, 30, 31, 32, 33, 34, 35, 36, 37, 38, 39, 40, 41, 42] (by decide +kernel) (by decide +kernel)
set_option maxRecDepth 20000 in
theorem gX9_dykeSize_X9_began : GoodIn wsX9_dykeSize (wsV RX9 258 RX9 yX9_began wsX9_began) := goodIn_app (goodIn_of _ (by decide +kernel)) ggX9_dykeSize_X9_began
set_option maxRecDepth 20000 in
theorem ggX9_dykeSize_X9_plainSize : GoodIn wsX9_dykeSize wsX9_plainSize := goodIn_r _ [15, 1, 6, 7, 8, 4, 9, 10, 11, 2, 3, 5, 16, 17, 18, 19, 20, 21, 22, 23, 24, 25, 26, 27, 28, 29, 30, 31, 32, 33, 34, 35, 36, 37, 38, 39, 40, 41, 42] (by decide +kernel) (by decide +kernel)
set_option maxRecDepth 20000 in
theorem gX9_dykeSize_X9_plainSize : GoodIn wsX9_dykeSize (wsV RX9 261 RX9 yX9_plainSize wsX9_plainSize) := goodIn_app (goodIn_of _ (by decide +kernel)) ggX9_dykeSize_X9_plainSize
theorem dX9_dykeSize_0 : decode cX9_dykeSize 0 = .ok (.aload_n 0, 1) := by decide +kernel
theorem dX9_dykeSize_1 : decode cX9_dykeSize 1 = .ok (.getfield 19, 3) := by decide +kernel
theorem dX9_dykeSize_4 : decode cX9_dykeSize 4 = .ok (.iload_n 1, 1) := by decide +kernel
theorem dX9_dykeSize_5 : decode cX9_dykeSize 5 = .ok (.iconst 0, 1) := by decide +kernel
theorem dX9_dykeSize_6 : decode cX9_dykeSize 6 = .ok (.invokestatic 180, 3) := by decide +kernel
theorem dX9_dykeSize_9 : decode cX9_dykeSize 9 = .ok (.iaload, 1) := by decide +kernel
theorem dX9_dykeSize_10 : decode cX9_dykeSize 10 = .ok (.istore_n 2, 1) := by decide +kernel
theorem dX9_dykeSize_11 : decode cX9_dykeSize 11 = .ok (.iload_n 2, 1) := by decide +kernel
theorem dX9_dykeSize_12 : decode cX9_dykeSize 12 = .ok (.iconst 5, 1) := by decide +kernel
theorem dX9_dykeSize_13 : decode cX9_dykeSize 13 = .ok (.if_icmp .ne 9, 3) := by decide +kernel
theorem dX9_dykeSize_16 : decode cX9_dykeSize 16 = .ok (.aload_n 0, 1) := by decide +kernel
theorem dX9_dykeSize_17 : decode cX9_dykeSize 17 = .ok (.bipush 14, 2) := by decide +kernel
theorem dX9_dykeSize_19 : decode cX9_dykeSize 19 = .ok (.invokevirtual 258, 3) := by decide +kernel
theorem dX9_dykeSize_22 : decode cX9_dykeSize 22 = .ok (.aload_n 0, 1) := by decide +kernel
theorem dX9_dykeSize_23 : decode cX9_dykeSize 23 = .ok (.bipush 13, 2) := by decide +kernel
theorem dX9_dykeSize_25 : decode cX9_dykeSize 25 = .ok (.invokevirtual 258, 3) := by decide +kernel
theorem dX9_dykeSize_28 : decode cX9_dykeSize 28 = .ok (.aload_n 0, 1) := by decide +kernel
theorem dX9_dykeSize_29 : decode cX9_dykeSize 29 = .ok (.iload_n 1, 1) := by decide +kernel
theorem dX9_dykeSize_30 : decode cX9_dykeSize 30 = .ok (.invokevirtual 261, 3) := by decide +kernel
theorem dX9_dykeSize_33 : decode cX9_dykeSize 33 = .ok (.bipush 100, 2) := by decide +kernel
theorem dX9_dykeSize_35 : decode cX9_dykeSize 35 = .ok (.isub, 1) := by decide +kernel
theorem dX9_dykeSize_36 : decode cX9_dykeSize 36 = .ok (.istore_n 3, 1) := by decide +kernel
theorem dX9_dykeSize_37 : decode cX9_dykeSize 37 = .ok (.iload_n 2, 1) := by decide +kernel
theorem dX9_dykeSize_38 : decode cX9_dykeSize 38 = .ok (.iconst 5, 1) := by decide +kernel
theorem dX9_dykeSize_39 : decode cX9_dykeSize 39 = .ok (.if_icmp .ne 9, 3) := by decide +kernel
theorem dX9_dykeSize_42 : decode cX9_dykeSize 42 = .ok (.iconst 2, 1) := by decide +kernel
theorem dX9_dykeSize_43 : decode cX9_dykeSize 43 = .ok (.iload_n 3, 1) := by decide +kernel
theorem dX9_dykeSize_44 : decode cX9_dykeSize 44 = .ok (.imul, 1) := by decide +kernel
theorem dX9_dykeSize_45 : decode cX9_dykeSize 45 = .ok (.goto 4, 3) := by decide +kernel
theorem dX9_dykeSize_48 : decode cX9_dykeSize 48 = .ok (.iload_n 3, 1) := by decide +kernel
theorem dX9_dykeSize_49 : decode cX9_dykeSize 49 = .ok (.ireturn, 1) := by decide +kernel
set_option maxRecDepth 20000 in
theorem ggX9_markOf_X9_at : GoodIn wsX9_markOf wsX9_at := goodIn_r _ [5] (by decide +kernel) (by decide +kernel)
set_option maxRecDepth 20000 in
theorem gX9_markOf_X9_at : GoodIn wsX9_markOf (va_wsS RX9 180 yX9_at wsX9_at) := goodIn_app (goodIn_of _ (by decide +kernel)) ggX9_markOf_X9_at
set_option maxRecDepth 20000 in
theorem ggX9_markOf_X9_began : GoodIn wsX9_markOf wsX9_began := goodIn_r _ [9, 10, 11, 20, 21, 22, 23, 24, 25, 26, 27, 28, 29, 30, 31, 32, 33, 34, 35, 36, 37, 38, 39, 40, 41, 42, 43, 44, 45, 46] (by decide +kernel) (by decide +kernel)
set_option maxRecDepth 20000 in
theorem gX9_markOf_X9_began : GoodIn wsX9_markOf (wsV RX9 258 RX9 yX9_began wsX9_began) := goodIn_app (goodIn_of _ (by decide +kernel)) ggX9_markOf_X9_began
set_option maxRecDepth 20000 in
theorem ggX9_markOf_X9_dykeSize : GoodIn wsX9_markOf wsX9_dykeSize := goodIn_r _ [15, 1, 2, 3, 4, 5, 6, 7, 8, 9, 10, 11, 16, 17, 18, 19, 20, 21, 22, 23, 24, 25, 26, 27, 28, 29, 30, 31, 32, 33, 34, 35, 36, 37, 38, 39, 40, 41, 42, 43, 44, 45, 46] (by decide +kernel) (by decide +kernel)
set_option maxRecDepth 20000 in
theorem gX9_markOf_X9_dykeSize : GoodIn wsX9_markOf (wsV RX9 264 RX9 yX9_dykeSize wsX9_dykeSize) := goodIn_app (goodIn_of _ (by decide +kernel)) ggX9_markOf_X9_dykeSize
theorem dX9_markOf_0 : decode cX9_markOf 0 = .ok (.aload_n 0, 1) := by decide +kernel
theorem dX9_markOf_1 : decode cX9_markOf 1 = .ok (.getfield 19, 3) := by decide +kernel
theorem dX9_markOf_4 : decode cX9_markOf 4 = .ok (.iload_n 1, 1) := by decide +kernel
theorem dX9_markOf_5 : decode cX9_markOf 5 = .ok (.iconst 0, 1) := by decide +kernel
theorem dX9_markOf_6 : decode cX9_markOf 6 = .ok (.invokestatic 180, 3) := by decide +kernel
theorem dX9_markOf_9 : decode cX9_markOf 9 = .ok (.iaload, 1) := by decide +kernel
theorem dX9_markOf_10 : decode cX9_markOf 10 = .ok (.istore_n 2, 1) := by decide +kernel
theorem dX9_markOf_11 : decode cX9_markOf 11 = .ok (.iload_n 2, 1) := by decide +kernel
theorem dX9_markOf_12 : decode cX9_markOf 12 = .ok (.iconst 4, 1) := by decide +kernel
theorem dX9_markOf_13 : decode cX9_markOf 13 = .ok (.if_icmp .lt 23, 3) := by decide +kernel
theorem dX9_markOf_16 : decode cX9_markOf 16 = .ok (.aload_n 0, 1) := by decide +kernel
theorem dX9_markOf_17 : decode cX9_markOf 17 = .ok (.bipush 23, 2) := by decide +kernel
theorem dX9_markOf_19 : decode cX9_markOf 19 = .ok (.invokevirtual 258, 3) := by decide +kernel
theorem dX9_markOf_22 : decode cX9_markOf 22 = .ok (.aload_n 0, 1) := by decide +kernel
theorem dX9_markOf_23 : decode cX9_markOf 23 = .ok (.bipush 20, 2) := by decide +kernel
theorem dX9_markOf_25 : decode cX9_markOf 25 = .ok (.invokevirtual 258, 3) := by decide +kernel
theorem dX9_markOf_28 : decode cX9_markOf 28 = .ok (.iload_n 1, 1) := by decide +kernel
theorem dX9_markOf_29 : decode cX9_markOf 29 = .ok (.aload_n 0, 1) := by decide +kernel
theorem dX9_markOf_30 : decode cX9_markOf 30 = .ok (.iload_n 1, 1) := by decide +kernel
theorem dX9_markOf_31 : decode cX9_markOf 31 = .ok (.invokevirtual 264, 3) := by decide +kernel
theorem dX9_markOf_34 : decode cX9_markOf 34 = .ok (.isub, 1) := by decide +kernel
theorem dX9_markOf_35 : decode cX9_markOf 35 = .ok (.ireturn, 1) := by decide +kernel
theorem dX9_markOf_36 : decode cX9_markOf 36 = .ok (.iload_n 2, 1) := by decide +kernel
theorem dX9_markOf_37 : decode cX9_markOf 37 = .ok (.iconst 1, 1) := by decide +kernel
theorem dX9_markOf_38 : decode cX9_markOf 38 = .ok (.if_icmp .eq 19, 3) := by decide +kernel
theorem dX9_markOf_41 : decode cX9_markOf 41 = .ok (.aload_n 0, 1) := by decide +kernel
theorem dX9_markOf_42 : decode cX9_markOf 42 = .ok (.iload_n 2, 1) := by decide +kernel
theorem dX9_markOf_43 : decode cX9_markOf 43 = .ok (.iconst 3, 1) := by decide +kernel
theorem dX9_markOf_44 : decode cX9_markOf 44 = .ok (.if_icmp .ne 8, 3) := by decide +kernel
theorem dX9_markOf_47 : decode cX9_markOf 47 = .ok (.bipush 22, 2) := by decide +kernel
theorem dX9_markOf_49 : decode cX9_markOf 49 = .ok (.goto 5, 3) := by decide +kernel
theorem dX9_markOf_52 : decode cX9_markOf 52 = .ok (.bipush 24, 2) := by decide +kernel
theorem dX9_markOf_54 : decode cX9_markOf 54 = .ok (.invokevirtual 258, 3) := by decide +kernel
theorem dX9_markOf_57 : decode cX9_markOf 57 = .ok (.aload_n 0, 1) := by decide +kernel
theorem dX9_markOf_58 : decode cX9_markOf 58 = .ok (.bipush 21, 2) := by decide +kernel
theorem dX9_markOf_60 : decode cX9_markOf 60 = .ok (.invokevirtual 258, 3) := by decide +kernel
theorem dX9_markOf_63 : decode cX9_markOf 63 = .ok (.aload_n 0, 1) := by decide +kernel
theorem dX9_markOf_64 : decode cX9_markOf 64 = .ok (.bipush 20, 2) := by decide +kernel
theorem dX9_markOf_66 : decode cX9_markOf 66 = .ok (.invokevirtual 258, 3) := by decide +kernel
theorem dX9_markOf_69 : decode cX9_markOf 69 = .ok (.iload_n 1, 1) := by decide +kernel
theorem dX9_markOf_70 : decode cX9_markOf 70 = .ok (.aload_n 0, 1) := by decide +kernel
theorem dX9_markOf_71 : decode cX9_markOf 71 = .ok (.getfield 19, 3) := by decide +kernel
theorem dX9_markOf_74 : decode cX9_markOf 74 = .ok (.iload_n 1, 1) := by decide +kernel
theorem dX9_markOf_75 : decode cX9_markOf 75 = .ok (.iconst 3, 1) := by decide +kernel
theorem dX9_markOf_76 : decode cX9_markOf 76 = .ok (.invokestatic 180, 3) := by decide +kernel
theorem dX9_markOf_79 : decode cX9_markOf 79 = .ok (.iaload, 1) := by decide +kernel
theorem dX9_markOf_80 : decode cX9_markOf 80 = .ok (.iadd, 1) := by decide +kernel
theorem dX9_markOf_81 : decode cX9_markOf 81 = .ok (.istore_n 3, 1) := by decide +kernel
theorem dX9_markOf_82 : decode cX9_markOf 82 = .ok (.iload_n 2, 1) := by decide +kernel
theorem dX9_markOf_83 : decode cX9_markOf 83 = .ok (.iconst 1, 1) := by decide +kernel
theorem dX9_markOf_84 : decode cX9_markOf 84 = .ok (.if_icmp .ne 7, 3) := by decide +kernel
theorem dX9_markOf_87 : decode cX9_markOf 87 = .ok (.iload_n 3, 1) := by decide +kernel
theorem dX9_markOf_88 : decode cX9_markOf 88 = .ok (.goto 19, 3) := by decide +kernel
theorem dX9_markOf_91 : decode cX9_markOf 91 = .ok (.iload_n 2, 1) := by decide +kernel
theorem dX9_markOf_92 : decode cX9_markOf 92 = .ok (.iconst 3, 1) := by decide +kernel
theorem dX9_markOf_93 : decode cX9_markOf 93 = .ok (.if_icmp .ne 11, 3) := by decide +kernel
theorem dX9_markOf_96 : decode cX9_markOf 96 = .ok (.iload_n 3, 1) := by decide +kernel
theorem dX9_markOf_97 : decode cX9_markOf 97 = .ok (.sipush 1000, 3) := by decide +kernel
theorem dX9_markOf_100 : decode cX9_markOf 100 = .ok (.isub, 1) := by decide +kernel
theorem dX9_markOf_101 : decode cX9_markOf 101 = .ok (.goto 6, 3) := by decide +kernel
theorem dX9_markOf_104 : decode cX9_markOf 104 = .ok (.iconst 2, 1) := by decide +kernel
theorem dX9_markOf_105 : decode cX9_markOf 105 = .ok (.iload_n 3, 1) := by decide +kernel
theorem dX9_markOf_106 : decode cX9_markOf 106 = .ok (.imul, 1) := by decide +kernel
theorem dX9_markOf_107 : decode cX9_markOf 107 = .ok (.ireturn, 1) := by decide +kernel
set_option maxRecDepth 20000 in
theorem ggX9_sizeOf_X9_at : GoodIn wsX9_sizeOf wsX9_at := goodIn_r _ [5] (by decide +kernel) (by decide +kernel)
set_option maxRecDepth 20000 in
theorem gX9_sizeOf_X9_at : GoodIn wsX9_sizeOf (va_wsS RX9 180 yX9_at wsX9_at) := goodIn_app (goodIn_of _ (by decide +kernel)) ggX9_sizeOf_X9_at
set_option maxRecDepth 20000 in
theorem ggX9_sizeOf_X9_dykeSize : GoodIn wsX9_sizeOf wsX9_dykeSize := goodIn_r _ [9, 1, 2, 3, 4, 5, 10, 11, 12, 13, 14, 15, 16, 17, 18, 19, 24, 25, 26, 27, 28, 29, 30, 31, 32, 33, 34, 35, 36, 37, 38, 39, 40, 41, 42, 43, 44, 45, 46, 47, 48, 49, 50] (by decide +kernel) (by decide +kernel)
set_option maxRecDepth 20000 in
theorem gX9_sizeOf_X9_dykeSize : GoodIn wsX9_sizeOf (wsV RX9 264 RX9 yX9_dykeSize wsX9_dykeSize) := goodIn_app (goodIn_of _ (by decide +kernel)) ggX9_sizeOf_X9_dykeSize
set_option maxRecDepth 20000 in
theorem ggX9_sizeOf_X9_began : GoodIn wsX9_sizeOf wsX9_began := goodIn_r _ [13, 14, 15, 24, 25, 26, 27, 28, 29, 30, 31, 32, 33, 34, 35, 36, 37, 38, 39, 40, 41, 42, 43, 44, 45, 46, 47, 48, 49, 50] (by decide +kernel) (by decide +kernel)
set_option maxRecDepth 20000 in
theorem gX9_sizeOf_X9_began : GoodIn wsX9_sizeOf (wsV RX9 258 RX9 yX9_began wsX9_began) := goodIn_app (goodIn_of _ (by decide +kernel)) ggX9_sizeOf_X9_began
set_option maxRecDepth 20000 in
theorem ggX9_sizeOf_X9_plainSize : GoodIn wsX9_sizeOf wsX9_plainSize := goodIn_r _ [19, 1, 10, 11, 12, 4, 13, 14, 15, 2, 3, 5, 24, 25, 26, 27, 28, 29, 30, 31, 32, 33, 34, 35, 36, 37, 38, 39, 40, 41, 42, 43, 44, 45, 46, 47, 48, 49, 50] (by decide +kernel) (by decide +kernel)
set_option maxRecDepth 20000 in
theorem gX9_sizeOf_X9_plainSize : GoodIn wsX9_sizeOf (wsV RX9 261 RX9 yX9_plainSize wsX9_plainSize) := goodIn_app (goodIn_of _ (by decide +kernel)) ggX9_sizeOf_X9_plainSize
set_option maxRecDepth 20000 in
theorem ggX9_sizeOf_X9_markOf : GoodIn wsX9_sizeOf wsX9_markOf := goodIn_r _ [23, 1, 2, 3, 4, 5, 10, 11, 12, 13, 14, 15, 6, 7, 8, 9, 16, 17, 18, 19, 24, 25, 26, 27, 28, 29, 30, 31, 32, 33, 34, 35, 36, 37, 38, 39, 40, 41, 42, 43, 44, 45, 46, 47, 48, 49, 50] (by decide +kernel) (by decide +kernel)
set_option maxRecDepth 20000 in
theorem gX9_sizeOf_X9_markOf : GoodIn wsX9_sizeOf (wsV RX9 267 RX9 yX9_markOf wsX9_markOf) := goodIn_app (goodIn_of _ (by decide +kernel)) ggX9_sizeOf_X9_markOf
theorem dX9_sizeOf_0 : decode cX9_sizeOf 0 = .ok (.aload_n 0, 1) := by decide +kernel
theorem dX9_sizeOf_1 : decode cX9_sizeOf 1 = .ok (.getfield 19, 3) := by decide +kernel
theorem dX9_sizeOf_4 : decode cX9_sizeOf 4 = .ok (.iload_n 1, 1) := by decide +kernel
theorem dX9_sizeOf_5 : decode cX9_sizeOf 5 = .ok (.iconst 0, 1) := by decide +kernel
theorem dX9_sizeOf_6 : decode cX9_sizeOf 6 = .ok (.invokestatic 180, 3) := by decide +kernel
theorem dX9_sizeOf_9 : decode cX9_sizeOf 9 = .ok (.iaload, 1) := by decide +kernel
theorem dX9_sizeOf_10 : decode cX9_sizeOf 10 = .ok (.istore_n 2, 1) := by decide +kernel
theorem dX9_sizeOf_11 : decode cX9_sizeOf 11 = .ok (.iload_n 2, 1) := by decide +kernel
theorem dX9_sizeOf_12 : decode cX9_sizeOf 12 = .ok (.iconst 4, 1) := by decide +kernel
theorem dX9_sizeOf_13 : decode cX9_sizeOf 13 = .ok (.if_icmp .lt 9, 3) := by decide +kernel
theorem dX9_sizeOf_16 : decode cX9_sizeOf 16 = .ok (.aload_n 0, 1) := by decide +kernel
theorem dX9_sizeOf_17 : decode cX9_sizeOf 17 = .ok (.iload_n 1, 1) := by decide +kernel
theorem dX9_sizeOf_18 : decode cX9_sizeOf 18 = .ok (.invokevirtual 264, 3) := by decide +kernel
theorem dX9_sizeOf_21 : decode cX9_sizeOf 21 = .ok (.ireturn, 1) := by decide +kernel
theorem dX9_sizeOf_22 : decode cX9_sizeOf 22 = .ok (.iload_n 2, 1) := by decide +kernel
theorem dX9_sizeOf_23 : decode cX9_sizeOf 23 = .ok (.iconst 2, 1) := by decide +kernel
theorem dX9_sizeOf_24 : decode cX9_sizeOf 24 = .ok (.if_icmp .ne 9, 3) := by decide +kernel
theorem dX9_sizeOf_27 : decode cX9_sizeOf 27 = .ok (.aload_n 0, 1) := by decide +kernel
theorem dX9_sizeOf_28 : decode cX9_sizeOf 28 = .ok (.bipush 12, 2) := by decide +kernel
theorem dX9_sizeOf_30 : decode cX9_sizeOf 30 = .ok (.invokevirtual 258, 3) := by decide +kernel
theorem dX9_sizeOf_33 : decode cX9_sizeOf 33 = .ok (.aload_n 0, 1) := by decide +kernel
theorem dX9_sizeOf_34 : decode cX9_sizeOf 34 = .ok (.bipush 11, 2) := by decide +kernel
theorem dX9_sizeOf_36 : decode cX9_sizeOf 36 = .ok (.invokevirtual 258, 3) := by decide +kernel
theorem dX9_sizeOf_39 : decode cX9_sizeOf 39 = .ok (.aload_n 0, 1) := by decide +kernel
theorem dX9_sizeOf_40 : decode cX9_sizeOf 40 = .ok (.iload_n 1, 1) := by decide +kernel
theorem dX9_sizeOf_41 : decode cX9_sizeOf 41 = .ok (.invokevirtual 261, 3) := by decide +kernel
theorem dX9_sizeOf_44 : decode cX9_sizeOf 44 = .ok (.istore_n 3, 1) := by decide +kernel
theorem dX9_sizeOf_45 : decode cX9_sizeOf 45 = .ok (.iload_n 3, 1) := by decide +kernel
theorem dX9_sizeOf_46 : decode cX9_sizeOf 46 = .ok (.aload_n 0, 1) := by decide +kernel
theorem dX9_sizeOf_47 : decode cX9_sizeOf 47 = .ok (.iload_n 1, 1) := by decide +kernel
theorem dX9_sizeOf_48 : decode cX9_sizeOf 48 = .ok (.invokevirtual 267, 3) := by decide +kernel
theorem dX9_sizeOf_51 : decode cX9_sizeOf 51 = .ok (.iadd, 1) := by decide +kernel
theorem dX9_sizeOf_52 : decode cX9_sizeOf 52 = .ok (.istore_n 3, 1) := by decide +kernel
theorem dX9_sizeOf_53 : decode cX9_sizeOf 53 = .ok (.iload_n 2, 1) := by decide +kernel
theorem dX9_sizeOf_54 : decode cX9_sizeOf 54 = .ok (.iconst 2, 1) := by decide +kernel
theorem dX9_sizeOf_55 : decode cX9_sizeOf 55 = .ok (.if_icmp .ne 8, 3) := by decide +kernel
theorem dX9_sizeOf_58 : decode cX9_sizeOf 58 = .ok (.iload_n 3, 1) := by decide +kernel
theorem dX9_sizeOf_59 : decode cX9_sizeOf 59 = .ok (.ineg, 1) := by decide +kernel
theorem dX9_sizeOf_60 : decode cX9_sizeOf 60 = .ok (.goto 4, 3) := by decide +kernel
theorem dX9_sizeOf_63 : decode cX9_sizeOf 63 = .ok (.iload_n 3, 1) := by decide +kernel
theorem dX9_sizeOf_64 : decode cX9_sizeOf 64 = .ok (.ireturn, 1) := by decide +kernel
set_option maxRecDepth 20000 in
theorem ggX9_ask_X9_isWater : GoodIn wsX9_ask wsX9_isWater := goodIn_r _ [8, 9, 10, 11, 7, 12, 37, 38, 39, 40, 41, 42, 43, 44, 45, 46, 47, 48, 49, 50, 51, 52, 53, 54, 55, 56, 57, 58, 59, 60, 61, 62, 63] (by decide +kernel) (by decide +kernel)
set_option maxRecDepth 20000 in
theorem gX9_ask_X9_isWater : GoodIn wsX9_ask (wsV RX9 174 RX9 yX9_isWater wsX9_isWater) := goodIn_app (goodIn_of _ (by decide +kernel)) ggX9_ask_X9_isWater
set_option maxRecDepth 20000 in
theorem ggX9_ask_X9_in : GoodIn wsX9_ask wsX9_in := goodIn_r _ [12] (by decide +kernel) (by decide +kernel)
set_option maxRecDepth 20000 in
theorem gX9_ask_X9_in : GoodIn wsX9_ask (va_wsS RX9 60 yX9_in wsX9_in) := goodIn_app (goodIn_of _ (by decide +kernel)) ggX9_ask_X9_in
set_option maxRecDepth 20000 in
theorem ggX9_ask_X9_sizeOf : GoodIn wsX9_ask wsX9_sizeOf := goodIn_r _ [16, 9, 17, 18, 7, 19, 20, 21, 22, 23, 24, 25, 26, 27, 3, 28, 29, 30, 31, 32, 33, 34, 35, 36, 37, 38, 39, 40, 41, 42, 43, 44, 45, 46, 47, 48, 49, 50, 51, 52, 53, 54, 55, 56, 57, 58, 59, 60, 61, 62, 63] (by decide +kernel) (by decide +kernel)
set_option maxRecDepth 20000 in
theorem gX9_ask_X9_sizeOf : GoodIn wsX9_ask (wsV RX9 270 RX9 yX9_sizeOf wsX9_sizeOf) := goodIn_app (goodIn_of _ (by decide +kernel)) ggX9_ask_X9_sizeOf
set_option maxRecDepth 20000 in
theorem ggX9_ask_X9_markOf : GoodIn wsX9_ask wsX9_markOf := goodIn_r _ [36, 9, 17, 18, 7, 19, 24, 25, 26, 27, 3, 28, 20, 21, 22, 23, 29, 30, 31, 32, 37, 38, 39, 40, 41, 42, 43, 44, 45, 46, 47, 48, 49, 50, 51, 52, 53, 54, 55, 56, 57, 58, 59, 60, 61, 62, 63] (by decide +kernel) (by decide +kernel)
set_option maxRecDepth 20000 in
theorem gX9_ask_X9_markOf : GoodIn wsX9_ask (wsV RX9 267 RX9 yX9_markOf wsX9_markOf) := goodIn_app (goodIn_of _ (by decide +kernel)) ggX9_ask_X9_markOf
theorem dX9_ask_0 : decode cX9_ask 0 = .ok (.aload_n 0, 1) := by decide +kernel
theorem dX9_ask_1 : decode cX9_ask 1 = .ok (.iconst 0, 1) := by decide +kernel
theorem dX9_ask_2 : decode cX9_ask 2 = .ok (.putfield 50, 3) := by decide +kernel
theorem dX9_ask_5 : decode cX9_ask 5 = .ok (.aload_n 0, 1) := by decide +kernel
theorem dX9_ask_6 : decode cX9_ask 6 = .ok (.iload_n 1, 1) := by decide +kernel
theorem dX9_ask_7 : decode cX9_ask 7 = .ok (.invokevirtual 174, 3) := by decide +kernel
theorem dX9_ask_10 : decode cX9_ask 10 = .ok (.ifCond .eq 13, 3) := by decide +kernel
theorem dX9_ask_13 : decode cX9_ask 13 = .ok (.iload_n 2, 1) := by decide +kernel
theorem dX9_ask_14 : decode cX9_ask 14 = .ok (.i2l, 1) := by decide +kernel
theorem dX9_ask_15 : decode cX9_ask 15 = .ok (.lconst 0, 1) := by decide +kernel
theorem dX9_ask_16 : decode cX9_ask 16 = .ok (.lconst 1, 1) := by decide +kernel
theorem dX9_ask_17 : decode cX9_ask 17 = .ok (.invokestatic 60, 3) := by decide +kernel
theorem dX9_ask_20 : decode cX9_ask 20 = .ok (.ifCond .ne 6, 3) := by decide +kernel
theorem dX9_ask_23 : decode cX9_ask 23 = .ok (.ldc 70, 2) := by decide +kernel
theorem dX9_ask_25 : decode cX9_ask 25 = .ok (.ireturn, 1) := by decide +kernel
theorem dX9_ask_26 : decode cX9_ask 26 = .ok (.aload_n 0, 1) := by decide +kernel
theorem dX9_ask_27 : decode cX9_ask 27 = .ok (.iconst 0, 1) := by decide +kernel
theorem dX9_ask_28 : decode cX9_ask 28 = .ok (.putfield 255, 3) := by decide +kernel
theorem dX9_ask_31 : decode cX9_ask 31 = .ok (.iload_n 2, 1) := by decide +kernel
theorem dX9_ask_32 : decode cX9_ask 32 = .ok (.ifCond .ne 11, 3) := by decide +kernel
theorem dX9_ask_35 : decode cX9_ask 35 = .ok (.aload_n 0, 1) := by decide +kernel
theorem dX9_ask_36 : decode cX9_ask 36 = .ok (.iload_n 1, 1) := by decide +kernel
theorem dX9_ask_37 : decode cX9_ask 37 = .ok (.invokevirtual 270, 3) := by decide +kernel
theorem dX9_ask_40 : decode cX9_ask 40 = .ok (.goto 8, 3) := by decide +kernel
theorem dX9_ask_43 : decode cX9_ask 43 = .ok (.aload_n 0, 1) := by decide +kernel
theorem dX9_ask_44 : decode cX9_ask 44 = .ok (.iload_n 1, 1) := by decide +kernel
theorem dX9_ask_45 : decode cX9_ask 45 = .ok (.invokevirtual 267, 3) := by decide +kernel
theorem dX9_ask_48 : decode cX9_ask 48 = .ok (.ireturn, 1) := by decide +kernel
set_option maxRecDepth 20000 in
theorem ggX9_trace_X9_in : GoodIn wsX9_trace wsX9_in := goodIn_r _ [8] (by decide +kernel) (by decide +kernel)
set_option maxRecDepth 20000 in
theorem gX9_trace_X9_in : GoodIn wsX9_trace (va_wsS RX9 60 yX9_in wsX9_in) := goodIn_app (goodIn_of _ (by decide +kernel)) ggX9_trace_X9_in
theorem dX9_trace_0 : decode cX9_trace 0 = .ok (.aload_n 0, 1) := by decide +kernel
theorem dX9_trace_1 : decode cX9_trace 1 = .ok (.iconst 0, 1) := by decide +kernel
theorem dX9_trace_2 : decode cX9_trace 2 = .ok (.putfield 50, 3) := by decide +kernel
theorem dX9_trace_5 : decode cX9_trace 5 = .ok (.iload_n 1, 1) := by decide +kernel
theorem dX9_trace_6 : decode cX9_trace 6 = .ok (.i2l, 1) := by decide +kernel
theorem dX9_trace_7 : decode cX9_trace 7 = .ok (.lconst 0, 1) := by decide +kernel
theorem dX9_trace_8 : decode cX9_trace 8 = .ok (.aload_n 0, 1) := by decide +kernel
theorem dX9_trace_9 : decode cX9_trace 9 = .ok (.getfield 255, 3) := by decide +kernel
theorem dX9_trace_12 : decode cX9_trace 12 = .ok (.iconst 1, 1) := by decide +kernel
theorem dX9_trace_13 : decode cX9_trace 13 = .ok (.isub, 1) := by decide +kernel
theorem dX9_trace_14 : decode cX9_trace 14 = .ok (.i2l, 1) := by decide +kernel
theorem dX9_trace_15 : decode cX9_trace 15 = .ok (.invokestatic 60, 3) := by decide +kernel
theorem dX9_trace_18 : decode cX9_trace 18 = .ok (.ifCond .eq 12, 3) := by decide +kernel
theorem dX9_trace_21 : decode cX9_trace 21 = .ok (.aload_n 0, 1) := by decide +kernel
theorem dX9_trace_22 : decode cX9_trace 22 = .ok (.getfield 47, 3) := by decide +kernel
theorem dX9_trace_25 : decode cX9_trace 25 = .ok (.iload_n 1, 1) := by decide +kernel
theorem dX9_trace_26 : decode cX9_trace 26 = .ok (.iaload, 1) := by decide +kernel
theorem dX9_trace_27 : decode cX9_trace 27 = .ok (.goto 5, 3) := by decide +kernel
theorem dX9_trace_30 : decode cX9_trace 30 = .ok (.ldc 86, 2) := by decide +kernel
theorem dX9_trace_32 : decode cX9_trace 32 = .ok (.ireturn, 1) := by decide +kernel
set_option maxRecDepth 20000 in
theorem ggX9_count_X9_at : GoodIn wsX9_count wsX9_at := goodIn_r _ [10] (by decide +kernel) (by decide +kernel)
set_option maxRecDepth 20000 in
theorem gX9_count_X9_at : GoodIn wsX9_count (va_wsS RX9 180 yX9_at wsX9_at) := goodIn_app (goodIn_of _ (by decide +kernel)) ggX9_count_X9_at
theorem dX9_count_0 : decode cX9_count 0 = .ok (.aload_n 0, 1) := by decide +kernel
theorem dX9_count_1 : decode cX9_count 1 = .ok (.iconst 0, 1) := by decide +kernel
theorem dX9_count_2 : decode cX9_count 2 = .ok (.putfield 50, 3) := by decide +kernel
theorem dX9_count_5 : decode cX9_count 5 = .ok (.iconst 0, 1) := by decide +kernel
theorem dX9_count_6 : decode cX9_count 6 = .ok (.istore_n 2, 1) := by decide +kernel
theorem dX9_count_7 : decode cX9_count 7 = .ok (.iload_n 1, 1) := by decide +kernel
theorem dX9_count_8 : decode cX9_count 8 = .ok (.tableswitch 161 0 6 #[44, 77, 77, 84, 117, 122, 156], 44) := by decide +kernel
theorem dX9_count_52 : decode cX9_count 52 = .ok (.iconst 0, 1) := by decide +kernel
theorem dX9_count_53 : decode cX9_count 53 = .ok (.istore_n 3, 1) := by decide +kernel
theorem dX9_count_54 : decode cX9_count 54 = .ok (.iload_n 3, 1) := by decide +kernel
theorem dX9_count_55 : decode cX9_count 55 = .ok (.bipush 8, 2) := by decide +kernel
theorem dX9_count_57 : decode cX9_count 57 = .ok (.if_icmp .ge 26, 3) := by decide +kernel
theorem dX9_count_60 : decode cX9_count 60 = .ok (.iload_n 2, 1) := by decide +kernel
theorem dX9_count_61 : decode cX9_count 61 = .ok (.aload_n 0, 1) := by decide +kernel
theorem dX9_count_62 : decode cX9_count 62 = .ok (.getfield 7, 3) := by decide +kernel
theorem dX9_count_65 : decode cX9_count 65 = .ok (.iload_n 3, 1) := by decide +kernel
theorem dX9_count_66 : decode cX9_count 66 = .ok (.iaload, 1) := by decide +kernel
theorem dX9_count_67 : decode cX9_count 67 = .ok (.ifCond .lt 7, 3) := by decide +kernel
theorem dX9_count_70 : decode cX9_count 70 = .ok (.iconst 1, 1) := by decide +kernel
theorem dX9_count_71 : decode cX9_count 71 = .ok (.goto 4, 3) := by decide +kernel
theorem dX9_count_74 : decode cX9_count 74 = .ok (.iconst 0, 1) := by decide +kernel
theorem dX9_count_75 : decode cX9_count 75 = .ok (.iadd, 1) := by decide +kernel
theorem dX9_count_76 : decode cX9_count 76 = .ok (.istore_n 2, 1) := by decide +kernel
