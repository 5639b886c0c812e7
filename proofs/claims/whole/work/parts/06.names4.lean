theorem dX9_next_139 : decode cX9_next 139 = .ok (.iadd, 1) := by decide +kernel
theorem dX9_next_140 : decode cX9_next 140 = .ok (.putfield 87, 3) := by decide +kernel
theorem dX9_next_143 : decode cX9_next 143 = .ok (.goto (-24), 3) := by decide +kernel
theorem dX9_next_146 : decode cX9_next 146 = .ok (.aload_n 0, 1) := by decide +kernel
theorem dX9_next_147 : decode cX9_next 147 = .ok (.aload_n 0, 1) := by decide +kernel
theorem dX9_next_148 : decode cX9_next 148 = .ok (.getfield 87, 3) := by decide +kernel
theorem dX9_next_151 : decode cX9_next 151 = .ok (.aload_n 0, 1) := by decide +kernel
theorem dX9_next_152 : decode cX9_next 152 = .ok (.getfield 93, 3) := by decide +kernel
theorem dX9_next_155 : decode cX9_next 155 = .ok (.isub, 1) := by decide +kernel
theorem dX9_next_156 : decode cX9_next 156 = .ok (.iconst 3, 1) := by decide +kernel
theorem dX9_next_157 : decode cX9_next 157 = .ok (.if_icmp .le 7, 3) := by decide +kernel
theorem dX9_next_160 : decode cX9_next 160 = .ok (.iconst 0, 1) := by decide +kernel
theorem dX9_next_161 : decode cX9_next 161 = .ok (.goto 4, 3) := by decide +kernel
theorem dX9_next_164 : decode cX9_next 164 = .ok (.iconst 3, 1) := by decide +kernel
theorem dX9_next_165 : decode cX9_next 165 = .ok (.putfield 96, 3) := by decide +kernel
theorem dX9_next_168 : decode cX9_next 168 = .ok (.goto 28, 3) := by decide +kernel
theorem dX9_next_171 : decode cX9_next 171 = .ok (.aload_n 0, 1) := by decide +kernel
theorem dX9_next_172 : decode cX9_next 172 = .ok (.dup, 1) := by decide +kernel
theorem dX9_next_173 : decode cX9_next 173 = .ok (.getfield 87, 3) := by decide +kernel
theorem dX9_next_176 : decode cX9_next 176 = .ok (.iconst 1, 1) := by decide +kernel
theorem dX9_next_177 : decode cX9_next 177 = .ok (.iadd, 1) := by decide +kernel
theorem dX9_next_178 : decode cX9_next 178 = .ok (.putfield 87, 3) := by decide +kernel
theorem dX9_next_181 : decode cX9_next 181 = .ok (.aload_n 0, 1) := by decide +kernel
theorem dX9_next_182 : decode cX9_next 182 = .ok (.iload_n 1, 1) := by decide +kernel
theorem dX9_next_183 : decode cX9_next 183 = .ok (.bipush 59, 2) := by decide +kernel
theorem dX9_next_185 : decode cX9_next 185 = .ok (.if_icmp .ne 7, 3) := by decide +kernel
theorem dX9_next_188 : decode cX9_next 188 = .ok (.iconst 4, 1) := by decide +kernel
theorem dX9_next_189 : decode cX9_next 189 = .ok (.goto 4, 3) := by decide +kernel
theorem dX9_next_192 : decode cX9_next 192 = .ok (.iconst 0, 1) := by decide +kernel
theorem dX9_next_193 : decode cX9_next 193 = .ok (.putfield 96, 3) := by decide +kernel
theorem dX9_next_196 : decode cX9_next 196 = .ok (.aload_n 0, 1) := by decide +kernel
theorem dX9_next_197 : decode cX9_next 197 = .ok (.aload_n 0, 1) := by decide +kernel
theorem dX9_next_198 : decode cX9_next 198 = .ok (.getfield 87, 3) := by decide +kernel
theorem dX9_next_201 : decode cX9_next 201 = .ok (.putfield 105, 3) := by decide +kernel
theorem dX9_next_204 : decode cX9_next 204 = .ok (.return_, 1) := by decide +kernel
set_option maxRecDepth 20000 in
theorem ggX9_begin_X9_next : GoodIn wsX9_begin wsX9_next := goodIn_r _ [9, 3, 10, 11, 12, 13, 14, 15, 16, 8, 17, 2, 18, 19, 20, 21, 22, 23, 24, 25, 26, 27, 28, 29, 30, 31, 32, 33, 34, 35, 36, 37, 38, 39, 40, 41, 42, 43, 44, 45, 46, 47, 48, 49, 50, 51] (by decide +kernel) (by decide +kernel)
set_option maxRecDepth 20000 in
theorem gX9_begin_X9_next : GoodIn wsX9_begin (wsV RX9 111 RX9 yX9_next wsX9_next) := goodIn_app (goodIn_of _ (by decide +kernel)) ggX9_begin_X9_next
theorem dX9_begin_0 : decode cX9_begin 0 = .ok (.aload_n 0, 1) := by decide +kernel
theorem dX9_begin_1 : decode cX9_begin 1 = .ok (.aload_n 0, 1) := by decide +kernel
theorem dX9_begin_2 : decode cX9_begin 2 = .ok (.getfield 77, 3) := by decide +kernel
theorem dX9_begin_5 : decode cX9_begin 5 = .ok (.putfield 83, 3) := by decide +kernel
theorem dX9_begin_8 : decode cX9_begin 8 = .ok (.aload_n 0, 1) := by decide +kernel
theorem dX9_begin_9 : decode cX9_begin 9 = .ok (.iconst 0, 1) := by decide +kernel
theorem dX9_begin_10 : decode cX9_begin 10 = .ok (.putfield 77, 3) := by decide +kernel
theorem dX9_begin_13 : decode cX9_begin 13 = .ok (.aload_n 0, 1) := by decide +kernel
theorem dX9_begin_14 : decode cX9_begin 14 = .ok (.iconst 0, 1) := by decide +kernel
theorem dX9_begin_15 : decode cX9_begin 15 = .ok (.putfield 87, 3) := by decide +kernel
theorem dX9_begin_18 : decode cX9_begin 18 = .ok (.aload_n 0, 1) := by decide +kernel
theorem dX9_begin_19 : decode cX9_begin 19 = .ok (.iconst 0, 1) := by decide +kernel
theorem dX9_begin_20 : decode cX9_begin 20 = .ok (.putfield 108, 3) := by decide +kernel
theorem dX9_begin_23 : decode cX9_begin 23 = .ok (.aload_n 0, 1) := by decide +kernel
theorem dX9_begin_24 : decode cX9_begin 24 = .ok (.invokevirtual 111, 3) := by decide +kernel
theorem dX9_begin_27 : decode cX9_begin 27 = .ok (.return_, 1) := by decide +kernel
theorem dX9_bad_0 : decode cX9_bad 0 = .ok (.aload_n 0, 1) := by decide +kernel
theorem dX9_bad_1 : decode cX9_bad 1 = .ok (.getfield 108, 3) := by decide +kernel
theorem dX9_bad_4 : decode cX9_bad 4 = .ok (.ifCond .ne 16, 3) := by decide +kernel
theorem dX9_bad_7 : decode cX9_bad 7 = .ok (.aload_n 0, 1) := by decide +kernel
theorem dX9_bad_8 : decode cX9_bad 8 = .ok (.iload_n 1, 1) := by decide +kernel
theorem dX9_bad_9 : decode cX9_bad 9 = .ok (.putfield 108, 3) := by decide +kernel
theorem dX9_bad_12 : decode cX9_bad 12 = .ok (.aload_n 0, 1) := by decide +kernel
theorem dX9_bad_13 : decode cX9_bad 13 = .ok (.aload_n 0, 1) := by decide +kernel
theorem dX9_bad_14 : decode cX9_bad 14 = .ok (.getfield 93, 3) := by decide +kernel
theorem dX9_bad_17 : decode cX9_bad 17 = .ok (.putfield 114, 3) := by decide +kernel
theorem dX9_bad_20 : decode cX9_bad 20 = .ok (.return_, 1) := by decide +kernel
set_option maxRecDepth 20000 in
theorem ggX9_must_X9_bad : GoodIn wsX9_must wsX9_bad := goodIn_r _ [6, 1, 7, 8, 29, 30, 31, 32, 33, 34, 35, 36, 37, 38, 39, 40, 41, 42, 43, 44, 45, 46, 47, 48, 49, 50, 51, 52, 53, 54, 55] (by decide +kernel) (by decide +kernel)
set_option maxRecDepth 20000 in
theorem gX9_must_X9_bad : GoodIn wsX9_must (wsV RX9 117 RX9 yX9_bad wsX9_bad) := goodIn_app (goodIn_of _ (by decide +kernel)) ggX9_must_X9_bad
set_option maxRecDepth 20000 in
theorem ggX9_must_X9_next : GoodIn wsX9_must wsX9_next := goodIn_r _ [12, 13, 7, 14, 15, 16, 17, 18, 19, 5, 20, 21, 22, 23, 24, 25, 26, 27, 28, 29, 30, 31, 32, 33, 34, 35, 36, 37, 38, 39, 40, 41, 42, 43, 44, 45, 46, 47, 48, 49, 50, 51, 52, 53, 54, 55] (by decide +kernel) (by decide +kernel)
set_option maxRecDepth 20000 in
theorem gX9_must_X9_next : GoodIn wsX9_must (wsV RX9 111 RX9 yX9_next wsX9_next) := goodIn_app (goodIn_of _ (by decide +kernel)) ggX9_must_X9_next
theorem dX9_must_0 : decode cX9_must 0 = .ok (.iload_n 1, 1) := by decide +kernel
theorem dX9_must_1 : decode cX9_must 1 = .ok (.ifCond .ne 8, 3) := by decide +kernel
theorem dX9_must_4 : decode cX9_must 4 = .ok (.aload_n 0, 1) := by decide +kernel
theorem dX9_must_5 : decode cX9_must 5 = .ok (.iconst 1, 1) := by decide +kernel
theorem dX9_must_6 : decode cX9_must 6 = .ok (.invokevirtual 117, 3) := by decide +kernel
theorem dX9_must_9 : decode cX9_must 9 = .ok (.aload_n 0, 1) := by decide +kernel
theorem dX9_must_10 : decode cX9_must 10 = .ok (.getfield 108, 3) := by decide +kernel
theorem dX9_must_13 : decode cX9_must 13 = .ok (.ifCond .ne 7, 3) := by decide +kernel
theorem dX9_must_16 : decode cX9_must 16 = .ok (.aload_n 0, 1) := by decide +kernel
theorem dX9_must_17 : decode cX9_must 17 = .ok (.invokevirtual 111, 3) := by decide +kernel
theorem dX9_must_20 : decode cX9_must 20 = .ok (.return_, 1) := by decide +kernel
theorem dX9_name_0 : decode cX9_name 0 = .ok (.lconst 0, 1) := by decide +kernel
theorem dX9_name_1 : decode cX9_name 1 = .ok (.lstore_n 1, 1) := by decide +kernel
theorem dX9_name_2 : decode cX9_name 2 = .ok (.aload_n 0, 1) := by decide +kernel
theorem dX9_name_3 : decode cX9_name 3 = .ok (.getfield 93, 3) := by decide +kernel
theorem dX9_name_6 : decode cX9_name 6 = .ok (.istore_n 3, 1) := by decide +kernel
theorem dX9_name_7 : decode cX9_name 7 = .ok (.iload_n 3, 1) := by decide +kernel
theorem dX9_name_8 : decode cX9_name 8 = .ok (.aload_n 0, 1) := by decide +kernel
theorem dX9_name_9 : decode cX9_name 9 = .ok (.getfield 105, 3) := by decide +kernel
theorem dX9_name_12 : decode cX9_name 12 = .ok (.if_icmp .ge 44, 3) := by decide +kernel
theorem dX9_name_15 : decode cX9_name 15 = .ok (.aload_n 0, 1) := by decide +kernel
theorem dX9_name_16 : decode cX9_name 16 = .ok (.getfield 96, 3) := by decide +kernel
theorem dX9_name_19 : decode cX9_name 19 = .ok (.iconst 2, 1) := by decide +kernel
theorem dX9_name_20 : decode cX9_name 20 = .ok (.if_icmp .ne 36, 3) := by decide +kernel
theorem dX9_name_23 : decode cX9_name 23 = .ok (.aload_n 0, 1) := by decide +kernel
theorem dX9_name_24 : decode cX9_name 24 = .ok (.getfield 105, 3) := by decide +kernel
theorem dX9_name_27 : decode cX9_name 27 = .ok (.aload_n 0, 1) := by decide +kernel
theorem dX9_name_28 : decode cX9_name 28 = .ok (.getfield 93, 3) := by decide +kernel
theorem dX9_name_31 : decode cX9_name 31 = .ok (.isub, 1) := by decide +kernel
theorem dX9_name_32 : decode cX9_name 32 = .ok (.bipush 8, 2) := by decide +kernel
theorem dX9_name_34 : decode cX9_name 34 = .ok (.if_icmp .ge 22, 3) := by decide +kernel
theorem dX9_name_37 : decode cX9_name 37 = .ok (.lload_n 1, 1) := by decide +kernel
theorem dX9_name_38 : decode cX9_name 38 = .ok (.bipush 8, 2) := by decide +kernel
theorem dX9_name_40 : decode cX9_name 40 = .ok (.lshl, 1) := by decide +kernel
theorem dX9_name_41 : decode cX9_name 41 = .ok (.aload_n 0, 1) := by decide +kernel
theorem dX9_name_42 : decode cX9_name 42 = .ok (.getfield 31, 3) := by decide +kernel
theorem dX9_name_45 : decode cX9_name 45 = .ok (.iload_n 3, 1) := by decide +kernel
theorem dX9_name_46 : decode cX9_name 46 = .ok (.iaload, 1) := by decide +kernel
theorem dX9_name_47 : decode cX9_name 47 = .ok (.i2l, 1) := by decide +kernel
theorem dX9_name_48 : decode cX9_name 48 = .ok (.lor, 1) := by decide +kernel
theorem dX9_name_49 : decode cX9_name 49 = .ok (.lstore_n 1, 1) := by decide +kernel
theorem dX9_name_50 : decode cX9_name 50 = .ok (.iinc 3 1, 3) := by decide +kernel
theorem dX9_name_53 : decode cX9_name 53 = .ok (.goto (-46), 3) := by decide +kernel
theorem dX9_name_56 : decode cX9_name 56 = .ok (.aload_n 0, 1) := by decide +kernel
theorem dX9_name_57 : decode cX9_name 57 = .ok (.getfield 108, 3) := by decide +kernel
theorem dX9_name_60 : decode cX9_name 60 = .ok (.ifCond .ne 7, 3) := by decide +kernel
theorem dX9_name_63 : decode cX9_name 63 = .ok (.lload_n 1, 1) := by decide +kernel
theorem dX9_name_64 : decode cX9_name 64 = .ok (.goto 4, 3) := by decide +kernel
theorem dX9_name_67 : decode cX9_name 67 = .ok (.lconst 0, 1) := by decide +kernel
theorem dX9_name_68 : decode cX9_name 68 = .ok (.lreturn, 1) := by decide +kernel
theorem dX9_figures_0 : decode cX9_figures 0 = .ok (.iconst 0, 1) := by decide +kernel
theorem dX9_figures_1 : decode cX9_figures 1 = .ok (.istore_n 1, 1) := by decide +kernel
theorem dX9_figures_2 : decode cX9_figures 2 = .ok (.aload_n 0, 1) := by decide +kernel
theorem dX9_figures_3 : decode cX9_figures 3 = .ok (.getfield 93, 3) := by decide +kernel
theorem dX9_figures_6 : decode cX9_figures 6 = .ok (.istore_n 2, 1) := by decide +kernel
theorem dX9_figures_7 : decode cX9_figures 7 = .ok (.iload_n 2, 1) := by decide +kernel
theorem dX9_figures_8 : decode cX9_figures 8 = .ok (.aload_n 0, 1) := by decide +kernel
theorem dX9_figures_9 : decode cX9_figures 9 = .ok (.getfield 105, 3) := by decide +kernel
theorem dX9_figures_12 : decode cX9_figures 12 = .ok (.if_icmp .ge 32, 3) := by decide +kernel
theorem dX9_figures_15 : decode cX9_figures 15 = .ok (.aload_n 0, 1) := by decide +kernel
theorem dX9_figures_16 : decode cX9_figures 16 = .ok (.getfield 96, 3) := by decide +kernel
theorem dX9_figures_19 : decode cX9_figures 19 = .ok (.iconst 3, 1) := by decide +kernel
theorem dX9_figures_20 : decode cX9_figures 20 = .ok (.if_icmp .ne 24, 3) := by decide +kernel
theorem dX9_figures_23 : decode cX9_figures 23 = .ok (.bipush 10, 2) := by decide +kernel
theorem dX9_figures_25 : decode cX9_figures 25 = .ok (.iload_n 1, 1) := by decide +kernel
theorem dX9_figures_26 : decode cX9_figures 26 = .ok (.imul, 1) := by decide +kernel
theorem dX9_figures_27 : decode cX9_figures 27 = .ok (.aload_n 0, 1) := by decide +kernel
theorem dX9_figures_28 : decode cX9_figures 28 = .ok (.getfield 31, 3) := by decide +kernel
theorem dX9_figures_31 : decode cX9_figures 31 = .ok (.iload_n 2, 1) := by decide +kernel
theorem dX9_figures_32 : decode cX9_figures 32 = .ok (.iaload, 1) := by decide +kernel
theorem dX9_figures_33 : decode cX9_figures 33 = .ok (.iadd, 1) := by decide +kernel
theorem dX9_figures_34 : decode cX9_figures 34 = .ok (.bipush 48, 2) := by decide +kernel
theorem dX9_figures_36 : decode cX9_figures 36 = .ok (.isub, 1) := by decide +kernel
theorem dX9_figures_37 : decode cX9_figures 37 = .ok (.istore_n 1, 1) := by decide +kernel
theorem dX9_figures_38 : decode cX9_figures 38 = .ok (.iinc 2 1, 3) := by decide +kernel
theorem dX9_figures_41 : decode cX9_figures 41 = .ok (.goto (-34), 3) := by decide +kernel
theorem dX9_figures_44 : decode cX9_figures 44 = .ok (.iload_n 1, 1) := by decide +kernel
theorem dX9_figures_45 : decode cX9_figures 45 = .ok (.ireturn, 1) := by decide +kernel
set_option maxRecDepth 20000 in
theorem ggX9_number_X9_figures : GoodIn wsX9_number wsX9_figures := goodIn_r _ [7, 8, 9, 2, 10, 40, 41, 42, 43, 44, 45, 46, 47, 48, 49, 50, 51, 52, 53, 54, 55, 56, 57, 58, 59, 60, 61, 62, 63, 64, 65, 66] (by decide +kernel) (by decide +kernel)
set_option maxRecDepth 20000 in
theorem gX9_number_X9_figures : GoodIn wsX9_number (wsV RX9 121 RX9 yX9_figures wsX9_figures) := goodIn_app (goodIn_of _ (by decide +kernel)) ggX9_number_X9_figures
set_option maxRecDepth 20000 in
theorem ggX9_number_X9_in : GoodIn wsX9_number wsX9_in := goodIn_r _ [13] (by decide +kernel) (by decide +kernel)
set_option maxRecDepth 20000 in
theorem gX9_number_X9_in : GoodIn wsX9_number (va_wsS RX9 60 yX9_in wsX9_in) := goodIn_app (goodIn_of _ (by decide +kernel)) ggX9_number_X9_in
set_option maxRecDepth 20000 in
theorem ggX9_number_X9_bad : GoodIn wsX9_number wsX9_bad := goodIn_r _ [17, 1, 8, 18, 40, 41, 42, 43, 44, 45, 46, 47, 48, 49, 50, 51, 52, 53, 54, 55, 56, 57, 58, 59, 60, 61, 62, 63, 64, 65, 66] (by decide +kernel) (by decide +kernel)
set_option maxRecDepth 20000 in
theorem gX9_number_X9_bad : GoodIn wsX9_number (wsV RX9 117 RX9 yX9_bad wsX9_bad) := goodIn_app (goodIn_of _ (by decide +kernel)) ggX9_number_X9_bad
set_option maxRecDepth 20000 in
theorem ggX9_number_X9_must : GoodIn wsX9_number wsX9_must := goodIn_r _ [22, 1, 14, 15, 16, 6, 17, 8, 18, 23, 24, 25, 26, 27, 28, 2, 9, 29, 30, 31, 32, 33, 10, 34, 35, 36, 37, 38, 39, 40, 41, 42, 43, 44, 45, 46, 47, 48, 49, 50, 51, 52, 53, 54, 55, 56, 57, 58, 59, 60, 61, 62, 63, 64, 65, 66] (by decide +kernel) (by decide +kernel)
set_option maxRecDepth 20000 in
theorem gX9_number_X9_must : GoodIn wsX9_number (wsV RX9 125 RX9 yX9_must wsX9_must) := goodIn_app (goodIn_of _ (by decide +kernel)) ggX9_number_X9_must
theorem dX9_number_0 : decode cX9_number 0 = .ok (.aload_n 0, 1) := by decide +kernel
theorem dX9_number_1 : decode cX9_number 1 = .ok (.getfield 108, 3) := by decide +kernel
theorem dX9_number_4 : decode cX9_number 4 = .ok (.ifCond .le 5, 3) := by decide +kernel
theorem dX9_number_7 : decode cX9_number 7 = .ok (.iconst 0, 1) := by decide +kernel
theorem dX9_number_8 : decode cX9_number 8 = .ok (.ireturn, 1) := by decide +kernel
theorem dX9_number_9 : decode cX9_number 9 = .ok (.aload_n 0, 1) := by decide +kernel
theorem dX9_number_10 : decode cX9_number 10 = .ok (.invokevirtual 121, 3) := by decide +kernel
theorem dX9_number_13 : decode cX9_number 13 = .ok (.istore_n 3, 1) := by decide +kernel
theorem dX9_number_14 : decode cX9_number 14 = .ok (.aload_n 0, 1) := by decide +kernel
theorem dX9_number_15 : decode cX9_number 15 = .ok (.getfield 96, 3) := by decide +kernel
theorem dX9_number_18 : decode cX9_number 18 = .ok (.iconst 3, 1) := by decide +kernel
theorem dX9_number_19 : decode cX9_number 19 = .ok (.if_icmp .ne 20, 3) := by decide +kernel
theorem dX9_number_22 : decode cX9_number 22 = .ok (.iload_n 3, 1) := by decide +kernel
theorem dX9_number_23 : decode cX9_number 23 = .ok (.i2l, 1) := by decide +kernel
theorem dX9_number_24 : decode cX9_number 24 = .ok (.iload_n 1, 1) := by decide +kernel
theorem dX9_number_25 : decode cX9_number 25 = .ok (.i2l, 1) := by decide +kernel
theorem dX9_number_26 : decode cX9_number 26 = .ok (.iload_n 2, 1) := by decide +kernel
theorem dX9_number_27 : decode cX9_number 27 = .ok (.i2l, 1) := by decide +kernel
theorem dX9_number_28 : decode cX9_number 28 = .ok (.invokestatic 60, 3) := by decide +kernel
theorem dX9_number_31 : decode cX9_number 31 = .ok (.ifCond .ne 8, 3) := by decide +kernel
theorem dX9_number_34 : decode cX9_number 34 = .ok (.aload_n 0, 1) := by decide +kernel
theorem dX9_number_35 : decode cX9_number 35 = .ok (.iconst 2, 1) := by decide +kernel
theorem dX9_number_36 : decode cX9_number 36 = .ok (.invokevirtual 117, 3) := by decide +kernel
theorem dX9_number_39 : decode cX9_number 39 = .ok (.aload_n 0, 1) := by decide +kernel
theorem dX9_number_40 : decode cX9_number 40 = .ok (.aload_n 0, 1) := by decide +kernel
theorem dX9_number_41 : decode cX9_number 41 = .ok (.getfield 96, 3) := by decide +kernel
theorem dX9_number_44 : decode cX9_number 44 = .ok (.iconst 3, 1) := by decide +kernel
theorem dX9_number_45 : decode cX9_number 45 = .ok (.if_icmp .ne 7, 3) := by decide +kernel
theorem dX9_number_48 : decode cX9_number 48 = .ok (.iconst 1, 1) := by decide +kernel
theorem dX9_number_49 : decode cX9_number 49 = .ok (.goto 4, 3) := by decide +kernel
theorem dX9_number_52 : decode cX9_number 52 = .ok (.iconst 0, 1) := by decide +kernel
theorem dX9_number_53 : decode cX9_number 53 = .ok (.invokevirtual 125, 3) := by decide +kernel
theorem dX9_number_56 : decode cX9_number 56 = .ok (.iload_n 3, 1) := by decide +kernel
theorem dX9_number_57 : decode cX9_number 57 = .ok (.ireturn, 1) := by decide +kernel
theorem dX9_kindBy_0 : decode cX9_kindBy 0 = .ok (.lload_n 0, 1) := by decide +kernel
theorem dX9_kindBy_1 : decode cX9_kindBy 1 = .ok (.ldc2_w 129, 3) := by decide +kernel
theorem dX9_kindBy_4 : decode cX9_kindBy 4 = .ok (.lcmp, 1) := by decide +kernel
theorem dX9_kindBy_5 : decode cX9_kindBy 5 = .ok (.ifCond .ne 7, 3) := by decide +kernel
theorem dX9_kindBy_8 : decode cX9_kindBy 8 = .ok (.iconst 1, 1) := by decide +kernel
theorem dX9_kindBy_9 : decode cX9_kindBy 9 = .ok (.goto 53, 3) := by decide +kernel
theorem dX9_kindBy_12 : decode cX9_kindBy 12 = .ok (.lload_n 0, 1) := by decide +kernel
theorem dX9_kindBy_13 : decode cX9_kindBy 13 = .ok (.ldc2_w 131, 3) := by decide +kernel
theorem dX9_kindBy_16 : decode cX9_kindBy 16 = .ok (.lcmp, 1) := by decide +kernel
theorem dX9_kindBy_17 : decode cX9_kindBy 17 = .ok (.ifCond .ne 7, 3) := by decide +kernel
theorem dX9_kindBy_20 : decode cX9_kindBy 20 = .ok (.iconst 3, 1) := by decide +kernel
theorem dX9_kindBy_21 : decode cX9_kindBy 21 = .ok (.goto 41, 3) := by decide +kernel
theorem dX9_kindBy_24 : decode cX9_kindBy 24 = .ok (.lload_n 0, 1) := by decide +kernel
theorem dX9_kindBy_25 : decode cX9_kindBy 25 = .ok (.ldc2_w 133, 3) := by decide +kernel
theorem dX9_kindBy_28 : decode cX9_kindBy 28 = .ok (.lcmp, 1) := by decide +kernel
theorem dX9_kindBy_29 : decode cX9_kindBy 29 = .ok (.ifCond .ne 7, 3) := by decide +kernel
theorem dX9_kindBy_32 : decode cX9_kindBy 32 = .ok (.iconst 2, 1) := by decide +kernel
theorem dX9_kindBy_33 : decode cX9_kindBy 33 = .ok (.goto 29, 3) := by decide +kernel
theorem dX9_kindBy_36 : decode cX9_kindBy 36 = .ok (.lload_n 0, 1) := by decide +kernel
theorem dX9_kindBy_37 : decode cX9_kindBy 37 = .ok (.ldc2_w 135, 3) := by decide +kernel
theorem dX9_kindBy_40 : decode cX9_kindBy 40 = .ok (.lcmp, 1) := by decide +kernel
theorem dX9_kindBy_41 : decode cX9_kindBy 41 = .ok (.ifCond .ne 7, 3) := by decide +kernel
theorem dX9_kindBy_44 : decode cX9_kindBy 44 = .ok (.iconst 5, 1) := by decide +kernel
theorem dX9_kindBy_45 : decode cX9_kindBy 45 = .ok (.goto 17, 3) := by decide +kernel
theorem dX9_kindBy_48 : decode cX9_kindBy 48 = .ok (.lload_n 0, 1) := by decide +kernel
theorem dX9_kindBy_49 : decode cX9_kindBy 49 = .ok (.ldc2_w 137, 3) := by decide +kernel
theorem dX9_kindBy_52 : decode cX9_kindBy 52 = .ok (.lcmp, 1) := by decide +kernel
theorem dX9_kindBy_53 : decode cX9_kindBy 53 = .ok (.ifCond .ne 7, 3) := by decide +kernel
theorem dX9_kindBy_56 : decode cX9_kindBy 56 = .ok (.iconst 4, 1) := by decide +kernel
theorem dX9_kindBy_57 : decode cX9_kindBy 57 = .ok (.goto 5, 3) := by decide +kernel
theorem dX9_kindBy_60 : decode cX9_kindBy 60 = .ok (.ldc 86, 2) := by decide +kernel
theorem dX9_kindBy_62 : decode cX9_kindBy 62 = .ok (.ireturn, 1) := by decide +kernel
set_option maxRecDepth 20000 in
theorem ggX9_mustEnd_X9_must : GoodIn wsX9_mustEnd wsX9_must := goodIn_r _ [7, 1, 8, 9, 10, 6, 11, 12, 13, 14, 15, 16, 17, 18, 19, 2, 20, 21, 22, 23, 24, 25, 26, 27, 28, 29, 30, 31, 32, 33, 34, 35, 36, 37, 38, 39, 40, 41, 42, 43, 44, 45, 46, 47, 48, 49, 50, 51, 52, 53, 54, 55, 56, 57, 58, 59] (by decide +kernel) (by decide +kernel)
set_option maxRecDepth 20000 in
theorem gX9_mustEnd_X9_must : GoodIn wsX9_mustEnd (wsV RX9 125 RX9 yX9_must wsX9_must) := goodIn_app (goodIn_of _ (by decide +kernel)) ggX9_mustEnd_X9_must
theorem dX9_mustEnd_0 : decode cX9_mustEnd 0 = .ok (.aload_n 0, 1) := by decide +kernel
theorem dX9_mustEnd_1 : decode cX9_mustEnd 1 = .ok (.getfield 108, 3) := by decide +kernel
theorem dX9_mustEnd_4 : decode cX9_mustEnd 4 = .ok (.ifCond .ne 20, 3) := by decide +kernel
theorem dX9_mustEnd_7 : decode cX9_mustEnd 7 = .ok (.aload_n 0, 1) := by decide +kernel
theorem dX9_mustEnd_8 : decode cX9_mustEnd 8 = .ok (.aload_n 0, 1) := by decide +kernel
theorem dX9_mustEnd_9 : decode cX9_mustEnd 9 = .ok (.getfield 96, 3) := by decide +kernel
theorem dX9_mustEnd_12 : decode cX9_mustEnd 12 = .ok (.iconst 4, 1) := by decide +kernel
theorem dX9_mustEnd_13 : decode cX9_mustEnd 13 = .ok (.if_icmp .ne 7, 3) := by decide +kernel
theorem dX9_mustEnd_16 : decode cX9_mustEnd 16 = .ok (.iconst 1, 1) := by decide +kernel
theorem dX9_mustEnd_17 : decode cX9_mustEnd 17 = .ok (.goto 4, 3) := by decide +kernel
theorem dX9_mustEnd_20 : decode cX9_mustEnd 20 = .ok (.iconst 0, 1) := by decide +kernel
theorem dX9_mustEnd_21 : decode cX9_mustEnd 21 = .ok (.invokevirtual 125, 3) := by decide +kernel
theorem dX9_mustEnd_24 : decode cX9_mustEnd 24 = .ok (.return_, 1) := by decide +kernel
set_option maxRecDepth 20000 in
theorem ggX9_readTide_X9_name : GoodIn wsX9_readTide wsX9_name := goodIn_r _ [7, 8, 9, 10, 11, 12, 54, 55, 56, 57, 58, 59, 60, 61, 62, 63, 64, 65, 66, 67, 68, 69, 70, 71, 72, 73, 74, 75, 76, 77, 78, 79, 80] (by decide +kernel) (by decide +kernel)
set_option maxRecDepth 20000 in
theorem gX9_readTide_X9_name : GoodIn wsX9_readTide (wsV RX9 139 RX9 yX9_name wsX9_name) := goodIn_app (goodIn_of _ (by decide +kernel)) ggX9_readTide_X9_name
set_option maxRecDepth 20000 in
theorem ggX9_readTide_X9_must : GoodIn wsX9_readTide wsX9_must := goodIn_r _ [16, 12, 17, 18, 19, 6, 20, 8, 21, 22, 23, 24, 25, 26, 27, 10, 9, 28, 29, 30, 31, 32, 11, 33, 34, 35, 36, 37, 38, 54, 55, 56, 57, 58, 59, 60, 61, 62, 63, 64, 65, 66, 67, 68, 69, 70, 71, 72, 73, 74, 75, 76, 77, 78, 79, 80] (by decide +kernel) (by decide +kernel)
set_option maxRecDepth 20000 in
theorem gX9_readTide_X9_must : GoodIn wsX9_readTide (wsV RX9 125 RX9 yX9_must wsX9_must) := goodIn_app (goodIn_of _ (by decide +kernel)) ggX9_readTide_X9_must
set_option maxRecDepth 20000 in
theorem ggX9_readTide_X9_number : GoodIn wsX9_readTide wsX9_number := goodIn_r _ [42, 12, 10, 43, 44, 45, 6, 46, 8, 9, 11, 47, 48, 49, 17, 18, 19, 20, 21, 13, 14, 15, 16, 22, 23, 24, 25, 26, 27, 28, 29, 30, 31, 32, 33, 34, 35, 36, 37, 38, 54, 55, 56, 57, 58, 59, 60, 61, 62, 63, 64, 65, 66, 67, 68, 69, 70, 71, 72, 73, 74, 75, 76, 77, 78, 79, 80] (by decide +kernel) (by decide +kernel)
set_option maxRecDepth 20000 in
theorem gX9_readTide_X9_number : GoodIn wsX9_readTide (wsV RX9 145 RX9 yX9_number wsX9_number) := goodIn_app (goodIn_of _ (by decide +kernel)) ggX9_readTide_X9_number
set_option maxRecDepth 20000 in
theorem ggX9_readTide_X9_mustEnd : GoodIn wsX9_readTide wsX9_mustEnd := goodIn_r _ [53, 12, 10, 13, 14, 15, 6, 16, 17, 18, 19, 20, 8, 21, 22, 23, 24, 25, 26, 27, 9, 28, 29, 30, 31, 32, 11, 33, 34, 35, 36, 37, 38, 54, 55, 56, 57, 58, 59, 60, 61, 62, 63, 64, 65, 66, 67, 68, 69, 70, 71, 72, 73, 74, 75, 76, 77, 78, 79, 80] (by decide +kernel) (by decide +kernel)
set_option maxRecDepth 20000 in
theorem gX9_readTide_X9_mustEnd : GoodIn wsX9_readTide (wsV RX9 149 RX9 yX9_mustEnd wsX9_mustEnd) := goodIn_app (goodIn_of _ (by decide +kernel)) ggX9_readTide_X9_mustEnd
theorem dX9_readTide_0 : decode cX9_readTide 0 = .ok (.aload_n 0, 1) := by decide +kernel
theorem dX9_readTide_1 : decode cX9_readTide 1 = .ok (.aload_n 0, 1) := by decide +kernel
theorem dX9_readTide_2 : decode cX9_readTide 2 = .ok (.invokevirtual 139, 3) := by decide +kernel
theorem dX9_readTide_5 : decode cX9_readTide 5 = .ok (.ldc2_w 143, 3) := by decide +kernel
theorem dX9_readTide_8 : decode cX9_readTide 8 = .ok (.lcmp, 1) := by decide +kernel
theorem dX9_readTide_9 : decode cX9_readTide 9 = .ok (.ifCond .ne 7, 3) := by decide +kernel
theorem dX9_readTide_12 : decode cX9_readTide 12 = .ok (.iconst 1, 1) := by decide +kernel
theorem dX9_readTide_13 : decode cX9_readTide 13 = .ok (.goto 4, 3) := by decide +kernel
theorem dX9_readTide_16 : decode cX9_readTide 16 = .ok (.iconst 0, 1) := by decide +kernel
theorem dX9_readTide_17 : decode cX9_readTide 17 = .ok (.invokevirtual 125, 3) := by decide +kernel
theorem dX9_readTide_20 : decode cX9_readTide 20 = .ok (.iconst 0, 1) := by decide +kernel
theorem dX9_readTide_21 : decode cX9_readTide 21 = .ok (.istore_n 1, 1) := by decide +kernel
theorem dX9_readTide_22 : decode cX9_readTide 22 = .ok (.iload_n 1, 1) := by decide +kernel
theorem dX9_readTide_23 : decode cX9_readTide 23 = .ok (.bipush 12, 2) := by decide +kernel
theorem dX9_readTide_25 : decode cX9_readTide 25 = .ok (.if_icmp .ge 24, 3) := by decide +kernel
theorem dX9_readTide_28 : decode cX9_readTide 28 = .ok (.aload_n 0, 1) := by decide +kernel
theorem dX9_readTide_29 : decode cX9_readTide 29 = .ok (.getfield 22, 3) := by decide +kernel
theorem dX9_readTide_32 : decode cX9_readTide 32 = .ok (.iconst 3, 1) := by decide +kernel
theorem dX9_readTide_33 : decode cX9_readTide 33 = .ok (.iload_n 1, 1) := by decide +kernel
theorem dX9_readTide_34 : decode cX9_readTide 34 = .ok (.iadd, 1) := by decide +kernel
theorem dX9_readTide_35 : decode cX9_readTide 35 = .ok (.aload_n 0, 1) := by decide +kernel
theorem dX9_readTide_36 : decode cX9_readTide 36 = .ok (.iconst 0, 1) := by decide +kernel
theorem dX9_readTide_37 : decode cX9_readTide 37 = .ok (.bipush 40, 2) := by decide +kernel
theorem dX9_readTide_39 : decode cX9_readTide 39 = .ok (.invokevirtual 145, 3) := by decide +kernel
theorem dX9_readTide_42 : decode cX9_readTide 42 = .ok (.iastore, 1) := by decide +kernel
theorem dX9_readTide_43 : decode cX9_readTide 43 = .ok (.iinc 1 1, 3) := by decide +kernel
theorem dX9_readTide_46 : decode cX9_readTide 46 = .ok (.goto (-24), 3) := by decide +kernel
theorem dX9_readTide_49 : decode cX9_readTide 49 = .ok (.aload_n 0, 1) := by decide +kernel
theorem dX9_readTide_50 : decode cX9_readTide 50 = .ok (.invokevirtual 149, 3) := by decide +kernel
theorem dX9_readTide_53 : decode cX9_readTide 53 = .ok (.return_, 1) := by decide +kernel
set_option maxRecDepth 20000 in
theorem ggX9_readWater_X9_bad : GoodIn wsX9_readWater wsX9_bad := goodIn_r _ [8, 2, 9, 10, 61, 62, 63, 64, 65, 66, 67, 68, 69, 70, 71, 72, 73, 74, 75, 76, 77, 78, 79, 80, 81, 82, 83, 84, 85, 86, 87] (by decide +kernel) (by decide +kernel)
set_option maxRecDepth 20000 in
theorem gX9_readWater_X9_bad : GoodIn wsX9_readWater (wsV RX9 117 RX9 yX9_bad wsX9_bad) := goodIn_app (goodIn_of _ (by decide +kernel)) ggX9_readWater_X9_bad
set_option maxRecDepth 20000 in
theorem ggX9_readWater_X9_must : GoodIn wsX9_readWater wsX9_must := goodIn_r _ [14, 2, 4, 5, 6, 7, 8, 9, 10, 15, 16, 17, 18, 19, 3, 20, 21, 22, 23, 24, 25, 26, 27, 28, 29, 30, 31, 32, 33, 61, 62, 63, 64, 65, 66, 67, 68, 69, 70, 71, 72, 73, 74, 75, 76, 77, 78, 79, 80, 81, 82, 83, 84, 85, 86, 87] (by decide +kernel) (by decide +kernel)
set_option maxRecDepth 20000 in
theorem gX9_readWater_X9_must : GoodIn wsX9_readWater (wsV RX9 125 RX9 yX9_must wsX9_must) := goodIn_app (goodIn_of _ (by decide +kernel)) ggX9_readWater_X9_must
set_option maxRecDepth 20000 in
theorem ggX9_readWater_X9_name : GoodIn wsX9_readWater wsX9_name := goodIn_r _ [37, 9, 21, 20, 27, 2, 61, 62, 63, 64, 65, 66, 67, 68, 69, 70, 71, 72, 73, 74, 75, 76, 77, 78, 79, 80, 81, 82, 83, 84, 85, 86, 87] (by decide +kernel) (by decide +kernel)
set_option maxRecDepth 20000 in
theorem gX9_readWater_X9_name : GoodIn wsX9_readWater (wsV RX9 139 RX9 yX9_name wsX9_name) := goodIn_app (goodIn_of _ (by decide +kernel)) ggX9_readWater_X9_name
set_option maxRecDepth 20000 in
theorem ggX9_readWater_X9_kindBy : GoodIn wsX9_readWater wsX9_kindBy := goodIn_r _ [40, 41, 42, 43, 44, 45, 3] (by decide +kernel) (by decide +kernel)
set_option maxRecDepth 20000 in
theorem gX9_readWater_X9_kindBy : GoodIn wsX9_readWater (va_wsS RX9 152 yX9_kindBy wsX9_kindBy) := goodIn_app (goodIn_of _ (by decide +kernel)) ggX9_readWater_X9_kindBy
set_option maxRecDepth 20000 in
theorem ggX9_readWater_X9_number : GoodIn wsX9_readWater wsX9_number := goodIn_r _ [49, 2, 20, 50, 51, 52, 7, 53, 9, 21, 27, 54, 55, 56, 4, 5, 6, 8, 10, 11, 12, 13, 14, 15, 16, 17, 18, 19, 3, 22, 23, 24, 25, 26, 28, 29, 30, 31, 32, 33, 61, 62, 63, 64, 65, 66, 67, 68, 69, 70, 71, 72, 73, 74, 75, 76, 77, 78, 79, 80, 81, 82, 83, 84, 85, 86, 87] (by decide +kernel) (by decide +kernel)
set_option maxRecDepth 20000 in
theorem gX9_readWater_X9_number : GoodIn wsX9_readWater (wsV RX9 145 RX9 yX9_number wsX9_number) := goodIn_app (goodIn_of _ (by decide +kernel)) ggX9_readWater_X9_number
set_option maxRecDepth 20000 in
theorem ggX9_readWater_X9_mustEnd : GoodIn wsX9_readWater wsX9_mustEnd := goodIn_r _ [60, 2, 20, 11, 12, 13, 7, 14, 4, 5, 6, 8, 9, 10, 15, 16, 17, 18, 19, 3, 21, 22, 23, 24, 25, 26, 27, 28, 29, 30, 31, 32, 33, 61, 62, 63, 64, 65, 66, 67, 68, 69, 70, 71, 72, 73, 74, 75, 76, 77, 78, 79, 80, 81, 82, 83, 84, 85, 86, 87] (by decide +kernel) (by decide +kernel)
set_option maxRecDepth 20000 in
theorem gX9_readWater_X9_mustEnd : GoodIn wsX9_readWater (wsV RX9 149 RX9 yX9_mustEnd wsX9_mustEnd) := goodIn_app (goodIn_of _ (by decide +kernel)) ggX9_readWater_X9_mustEnd
theorem dX9_readWater_0 : decode cX9_readWater 0 = .ok (.aload_n 0, 1) := by decide +kernel
theorem dX9_readWater_1 : decode cX9_readWater 1 = .ok (.getfield 22, 3) := by decide +kernel
theorem dX9_readWater_4 : decode cX9_readWater 4 = .ok (.iconst 1, 1) := by decide +kernel
theorem dX9_readWater_5 : decode cX9_readWater 5 = .ok (.iaload, 1) := by decide +kernel
theorem dX9_readWater_6 : decode cX9_readWater 6 = .ok (.bipush 6, 2) := by decide +kernel
theorem dX9_readWater_8 : decode cX9_readWater 8 = .ok (.if_icmp .ne 8, 3) := by decide +kernel
theorem dX9_readWater_11 : decode cX9_readWater 11 = .ok (.aload_n 0, 1) := by decide +kernel
theorem dX9_readWater_12 : decode cX9_readWater 12 = .ok (.iconst 3, 1) := by decide +kernel
theorem dX9_readWater_13 : decode cX9_readWater 13 = .ok (.invokevirtual 117, 3) := by decide +kernel
theorem dX9_readWater_16 : decode cX9_readWater 16 = .ok (.aload_n 0, 1) := by decide +kernel
theorem dX9_readWater_17 : decode cX9_readWater 17 = .ok (.iconst 1, 1) := by decide +kernel
theorem dX9_readWater_18 : decode cX9_readWater 18 = .ok (.invokevirtual 125, 3) := by decide +kernel
theorem dX9_readWater_21 : decode cX9_readWater 21 = .ok (.aload_n 0, 1) := by decide +kernel
theorem dX9_readWater_22 : decode cX9_readWater 22 = .ok (.invokevirtual 139, 3) := by decide +kernel
theorem dX9_readWater_25 : decode cX9_readWater 25 = .ok (.invokestatic 152, 3) := by decide +kernel
theorem dX9_readWater_28 : decode cX9_readWater 28 = .ok (.istore_n 1, 1) := by decide +kernel
theorem dX9_readWater_29 : decode cX9_readWater 29 = .ok (.aload_n 0, 1) := by decide +kernel
theorem dX9_readWater_30 : decode cX9_readWater 30 = .ok (.getfield 108, 3) := by decide +kernel
theorem dX9_readWater_33 : decode cX9_readWater 33 = .ok (.ifCond .ne 18, 3) := by decide +kernel
theorem dX9_readWater_36 : decode cX9_readWater 36 = .ok (.aload_n 0, 1) := by decide +kernel
theorem dX9_readWater_37 : decode cX9_readWater 37 = .ok (.iload_n 1, 1) := by decide +kernel
theorem dX9_readWater_38 : decode cX9_readWater 38 = .ok (.ldc 86, 2) := by decide +kernel
theorem dX9_readWater_40 : decode cX9_readWater 40 = .ok (.if_icmp .eq 7, 3) := by decide +kernel
theorem dX9_readWater_43 : decode cX9_readWater 43 = .ok (.iconst 1, 1) := by decide +kernel
theorem dX9_readWater_44 : decode cX9_readWater 44 = .ok (.goto 4, 3) := by decide +kernel
theorem dX9_readWater_47 : decode cX9_readWater 47 = .ok (.iconst 0, 1) := by decide +kernel
theorem dX9_readWater_48 : decode cX9_readWater 48 = .ok (.invokevirtual 125, 3) := by decide +kernel
theorem dX9_readWater_51 : decode cX9_readWater 51 = .ok (.aload_n 0, 1) := by decide +kernel
theorem dX9_readWater_52 : decode cX9_readWater 52 = .ok (.iconst 0, 1) := by decide +kernel
theorem dX9_readWater_53 : decode cX9_readWater 53 = .ok (.sipush 200, 3) := by decide +kernel
theorem dX9_readWater_56 : decode cX9_readWater 56 = .ok (.invokevirtual 145, 3) := by decide +kernel
theorem dX9_readWater_59 : decode cX9_readWater 59 = .ok (.istore_n 2, 1) := by decide +kernel
theorem dX9_readWater_60 : decode cX9_readWater 60 = .ok (.aload_n 0, 1) := by decide +kernel
theorem dX9_readWater_61 : decode cX9_readWater 61 = .ok (.iconst 0, 1) := by decide +kernel
theorem dX9_readWater_62 : decode cX9_readWater 62 = .ok (.bipush 40, 2) := by decide +kernel
theorem dX9_readWater_64 : decode cX9_readWater 64 = .ok (.invokevirtual 145, 3) := by decide +kernel
theorem dX9_readWater_67 : decode cX9_readWater 67 = .ok (.istore_n 3, 1) := by decide +kernel
theorem dX9_readWater_68 : decode cX9_readWater 68 = .ok (.aload_n 0, 1) := by decide +kernel
theorem dX9_readWater_69 : decode cX9_readWater 69 = .ok (.invokevirtual 149, 3) := by decide +kernel
theorem dX9_readWater_72 : decode cX9_readWater 72 = .ok (.aload_n 0, 1) := by decide +kernel
theorem dX9_readWater_73 : decode cX9_readWater 73 = .ok (.getfield 108, 3) := by decide +kernel
theorem dX9_readWater_76 : decode cX9_readWater 76 = .ok (.ifCond .ne 54, 3) := by decide +kernel
theorem dX9_readWater_79 : decode cX9_readWater 79 = .ok (.bipush 15, 2) := by decide +kernel
theorem dX9_readWater_81 : decode cX9_readWater 81 = .ok (.iconst 4, 1) := by decide +kernel
theorem dX9_readWater_82 : decode cX9_readWater 82 = .ok (.aload_n 0, 1) := by decide +kernel
theorem dX9_readWater_83 : decode cX9_readWater 83 = .ok (.getfield 22, 3) := by decide +kernel
theorem dX9_readWater_86 : decode cX9_readWater 86 = .ok (.iconst 1, 1) := by decide +kernel
theorem dX9_readWater_87 : decode cX9_readWater 87 = .ok (.iaload, 1) := by decide +kernel
theorem dX9_readWater_88 : decode cX9_readWater 88 = .ok (.imul, 1) := by decide +kernel
theorem dX9_readWater_89 : decode cX9_readWater 89 = .ok (.iadd, 1) := by decide +kernel
theorem dX9_readWater_90 : decode cX9_readWater 90 = .ok (.istore 4, 2) := by decide +kernel
theorem dX9_readWater_92 : decode cX9_readWater 92 = .ok (.aload_n 0, 1) := by decide +kernel
theorem dX9_readWater_93 : decode cX9_readWater 93 = .ok (.getfield 22, 3) := by decide +kernel
theorem dX9_readWater_96 : decode cX9_readWater 96 = .ok (.iload 4, 2) := by decide +kernel
theorem dX9_readWater_98 : decode cX9_readWater 98 = .ok (.iload_n 1, 1) := by decide +kernel
theorem dX9_readWater_99 : decode cX9_readWater 99 = .ok (.iastore, 1) := by decide +kernel
theorem dX9_readWater_100 : decode cX9_readWater 100 = .ok (.aload_n 0, 1) := by decide +kernel
theorem dX9_readWater_101 : decode cX9_readWater 101 = .ok (.getfield 22, 3) := by decide +kernel
theorem dX9_readWater_104 : decode cX9_readWater 104 = .ok (.iload 4, 2) := by decide +kernel
theorem dX9_readWater_106 : decode cX9_readWater 106 = .ok (.iconst 1, 1) := by decide +kernel
theorem dX9_readWater_107 : decode cX9_readWater 107 = .ok (.iadd, 1) := by decide +kernel
theorem dX9_readWater_108 : decode cX9_readWater 108 = .ok (.iload_n 2, 1) := by decide +kernel
theorem dX9_readWater_109 : decode cX9_readWater 109 = .ok (.iastore, 1) := by decide +kernel
theorem dX9_readWater_110 : decode cX9_readWater 110 = .ok (.aload_n 0, 1) := by decide +kernel
theorem dX9_readWater_111 : decode cX9_readWater 111 = .ok (.getfield 22, 3) := by decide +kernel
theorem dX9_readWater_114 : decode cX9_readWater 114 = .ok (.iload 4, 2) := by decide +kernel
theorem dX9_readWater_116 : decode cX9_readWater 116 = .ok (.iconst 3, 1) := by decide +kernel
theorem dX9_readWater_117 : decode cX9_readWater 117 = .ok (.iadd, 1) := by decide +kernel
theorem dX9_readWater_118 : decode cX9_readWater 118 = .ok (.iload_n 3, 1) := by decide +kernel
theorem dX9_readWater_119 : decode cX9_readWater 119 = .ok (.iastore, 1) := by decide +kernel
theorem dX9_readWater_120 : decode cX9_readWater 120 = .ok (.aload_n 0, 1) := by decide +kernel
theorem dX9_readWater_121 : decode cX9_readWater 121 = .ok (.getfield 22, 3) := by decide +kernel
theorem dX9_readWater_124 : decode cX9_readWater 124 = .ok (.iconst 1, 1) := by decide +kernel
theorem dX9_readWater_125 : decode cX9_readWater 125 = .ok (.dup2, 1) := by decide +kernel
theorem dX9_readWater_126 : decode cX9_readWater 126 = .ok (.iaload, 1) := by decide +kernel
theorem dX9_readWater_127 : decode cX9_readWater 127 = .ok (.iconst 1, 1) := by decide +kernel
theorem dX9_readWater_128 : decode cX9_readWater 128 = .ok (.iadd, 1) := by decide +kernel
theorem dX9_readWater_129 : decode cX9_readWater 129 = .ok (.iastore, 1) := by decide +kernel
theorem dX9_readWater_130 : decode cX9_readWater 130 = .ok (.return_, 1) := by decide +kernel
set_option maxRecDepth 20000 in
theorem ggX9_bay_X9_begin : GoodIn wsX9_bay wsX9_begin := goodIn_r _ [15, 16, 17, 18, 4, 19, 20, 21, 14, 22, 23, 24, 5, 25, 26, 27, 28, 29, 30, 31, 32, 33, 34, 35, 36, 81, 82, 83, 84, 85, 86, 87, 88, 89, 90, 91, 92, 93, 94, 95, 96, 97, 98, 99, 100, 101, 102, 103, 104, 105, 106, 107] (by decide +kernel) (by decide +kernel)
set_option maxRecDepth 20000 in
theorem gX9_bay_X9_begin : GoodIn wsX9_bay (wsV RX9 156 RX9 yX9_begin wsX9_begin) := goodIn_app (goodIn_of _ (by decide +kernel)) ggX9_bay_X9_begin
set_option maxRecDepth 20000 in
theorem ggX9_bay_X9_readTide : GoodIn wsX9_bay wsX9_readTide := goodIn_r _ [40, 41, 2, 42, 43, 44, 14, 45, 23, 25, 5, 30, 4, 46, 47, 48, 49, 50, 51, 52, 53, 8, 19, 20, 21, 22, 18, 24, 26, 27, 28, 29, 17, 31, 32, 33, 34, 35, 36, 54, 55, 56, 57, 58, 59, 60, 61, 62, 63, 64, 65, 66, 67, 68, 81, 82, 83, 84, 85, 86, 87, 88, 89, 90, 91, 92, 93, 94, 95, 96, 97, 98, 99, 100, 101, 102, 103, 104, 105, 106, 107] (by decide +kernel) (by decide +kernel)
set_option maxRecDepth 20000 in
theorem gX9_bay_X9_readTide : GoodIn wsX9_bay (wsV RX9 159 RX9 yX9_readTide wsX9_readTide) := goodIn_app (goodIn_of _ (by decide +kernel)) ggX9_bay_X9_readTide
set_option maxRecDepth 20000 in
theorem ggX9_bay_X9_name : GoodIn wsX9_bay wsX9_name := goodIn_r _ [45, 23, 25, 5, 30, 4, 81, 82, 83, 84, 85, 86, 87, 88, 89, 90, 91, 92, 93, 94, 95, 96, 97, 98, 99, 100, 101, 102, 103, 104, 105, 106, 107] (by decide +kernel) (by decide +kernel)
set_option maxRecDepth 20000 in
theorem gX9_bay_X9_name : GoodIn wsX9_bay (wsV RX9 139 RX9 yX9_name wsX9_name) := goodIn_app (goodIn_of _ (by decide +kernel)) ggX9_bay_X9_name
set_option maxRecDepth 20000 in
theorem ggX9_bay_X9_readWater : GoodIn wsX9_bay wsX9_readWater := goodIn_r _ [72, 2, 4, 24, 50, 51, 52, 14, 53, 23, 8, 46, 47, 48, 49, 19, 20, 21, 22, 18, 5, 25, 26, 27, 28, 29, 17, 30, 31, 32, 33, 34, 35, 36, 42, 43, 44, 45, 73, 74, 75, 76, 77, 78, 79, 80, 54, 55, 56, 57, 58, 59, 60, 61, 62, 63, 64, 65, 66, 67, 68, 81, 82, 83, 84, 85, 86, 87, 88, 89, 90, 91, 92, 93, 94, 95, 96, 97, 98, 99, 100, 101, 102, 103, 104, 105, 106, 107] (by decide +kernel) (by decide +kernel)
set_option maxRecDepth 20000 in
theorem gX9_bay_X9_readWater : GoodIn wsX9_bay (wsV RX9 164 RX9 yX9_readWater wsX9_readWater) := goodIn_app (goodIn_of _ (by decide +kernel)) ggX9_bay_X9_readWater
set_option maxRecDepth 20000 in
theorem ggX9_bay_X9_bad : GoodIn wsX9_bay wsX9_bad := goodIn_r _ [53, 4, 23, 8, 81, 82, 83, 84, 85, 86, 87, 88, 89, 90, 91, 92, 93, 94, 95, 96, 97, 98, 99, 100, 101, 102, 103, 104, 105, 106, 107] (by decide +kernel) (by decide +kernel)
set_option maxRecDepth 20000 in
theorem gX9_bay_X9_bad : GoodIn wsX9_bay (wsV RX9 117 RX9 yX9_bad wsX9_bad) := goodIn_app (goodIn_of _ (by decide +kernel)) ggX9_bay_X9_bad
theorem dX9_bay_0 : decode cX9_bay 0 = .ok (.aload_n 0, 1) := by decide +kernel
theorem dX9_bay_1 : decode cX9_bay 1 = .ok (.iconst 0, 1) := by decide +kernel
theorem dX9_bay_2 : decode cX9_bay 2 = .ok (.putfield 50, 3) := by decide +kernel
theorem dX9_bay_5 : decode cX9_bay 5 = .ok (.aload_n 0, 1) := by decide +kernel
theorem dX9_bay_6 : decode cX9_bay 6 = .ok (.invokevirtual 156, 3) := by decide +kernel
theorem dX9_bay_9 : decode cX9_bay 9 = .ok (.iconst 0, 1) := by decide +kernel
theorem dX9_bay_10 : decode cX9_bay 10 = .ok (.istore_n 1, 1) := by decide +kernel
theorem dX9_bay_11 : decode cX9_bay 11 = .ok (.iload_n 1, 1) := by decide +kernel
theorem dX9_bay_12 : decode cX9_bay 12 = .ok (.bipush 75, 2) := by decide +kernel
theorem dX9_bay_14 : decode cX9_bay 14 = .ok (.if_icmp .ge 16, 3) := by decide +kernel
theorem dX9_bay_17 : decode cX9_bay 17 = .ok (.aload_n 0, 1) := by decide +kernel
theorem dX9_bay_18 : decode cX9_bay 18 = .ok (.getfield 22, 3) := by decide +kernel
theorem dX9_bay_21 : decode cX9_bay 21 = .ok (.iload_n 1, 1) := by decide +kernel
theorem dX9_bay_22 : decode cX9_bay 22 = .ok (.iconst 0, 1) := by decide +kernel
theorem dX9_bay_23 : decode cX9_bay 23 = .ok (.iastore, 1) := by decide +kernel
theorem dX9_bay_24 : decode cX9_bay 24 = .ok (.iinc 1 1, 3) := by decide +kernel
theorem dX9_bay_27 : decode cX9_bay 27 = .ok (.goto (-16), 3) := by decide +kernel
theorem dX9_bay_30 : decode cX9_bay 30 = .ok (.aload_n 0, 1) := by decide +kernel
theorem dX9_bay_31 : decode cX9_bay 31 = .ok (.invokevirtual 159, 3) := by decide +kernel
theorem dX9_bay_34 : decode cX9_bay 34 = .ok (.aload_n 0, 1) := by decide +kernel
theorem dX9_bay_35 : decode cX9_bay 35 = .ok (.invokevirtual 139, 3) := by decide +kernel
theorem dX9_bay_38 : decode cX9_bay 38 = .ok (.ldc2_w 162, 3) := by decide +kernel
theorem dX9_bay_41 : decode cX9_bay 41 = .ok (.lcmp, 1) := by decide +kernel
theorem dX9_bay_42 : decode cX9_bay 42 = .ok (.ifCond .ne 10, 3) := by decide +kernel
theorem dX9_bay_45 : decode cX9_bay 45 = .ok (.aload_n 0, 1) := by decide +kernel
theorem dX9_bay_46 : decode cX9_bay 46 = .ok (.invokevirtual 164, 3) := by decide +kernel
theorem dX9_bay_49 : decode cX9_bay 49 = .ok (.goto (-15), 3) := by decide +kernel
theorem dX9_bay_52 : decode cX9_bay 52 = .ok (.aload_n 0, 1) := by decide +kernel
theorem dX9_bay_53 : decode cX9_bay 53 = .ok (.getfield 108, 3) := by decide +kernel
theorem dX9_bay_56 : decode cX9_bay 56 = .ok (.ifCond .ne 16, 3) := by decide +kernel
theorem dX9_bay_59 : decode cX9_bay 59 = .ok (.aload_n 0, 1) := by decide +kernel
theorem dX9_bay_60 : decode cX9_bay 60 = .ok (.getfield 96, 3) := by decide +kernel
theorem dX9_bay_63 : decode cX9_bay 63 = .ok (.iconst 1, 1) := by decide +kernel
theorem dX9_bay_64 : decode cX9_bay 64 = .ok (.if_icmp .eq 8, 3) := by decide +kernel
theorem dX9_bay_67 : decode cX9_bay 67 = .ok (.aload_n 0, 1) := by decide +kernel
theorem dX9_bay_68 : decode cX9_bay 68 = .ok (.iconst 1, 1) := by decide +kernel
theorem dX9_bay_69 : decode cX9_bay 69 = .ok (.invokevirtual 117, 3) := by decide +kernel
theorem dX9_bay_72 : decode cX9_bay 72 = .ok (.aload_n 0, 1) := by decide +kernel
theorem dX9_bay_73 : decode cX9_bay 73 = .ok (.getfield 108, 3) := by decide +kernel
theorem dX9_bay_76 : decode cX9_bay 76 = .ok (.ifCond .le 19, 3) := by decide +kernel
theorem dX9_bay_79 : decode cX9_bay 79 = .ok (.aload_n 0, 1) := by decide +kernel
theorem dX9_bay_80 : decode cX9_bay 80 = .ok (.aload_n 0, 1) := by decide +kernel
theorem dX9_bay_81 : decode cX9_bay 81 = .ok (.getfield 108, 3) := by decide +kernel
theorem dX9_bay_84 : decode cX9_bay 84 = .ok (.putfield 167, 3) := by decide +kernel
theorem dX9_bay_87 : decode cX9_bay 87 = .ok (.ldc 170, 2) := by decide +kernel
theorem dX9_bay_89 : decode cX9_bay 89 = .ok (.aload_n 0, 1) := by decide +kernel
theorem dX9_bay_90 : decode cX9_bay 90 = .ok (.getfield 114, 3) := by decide +kernel
theorem dX9_bay_93 : decode cX9_bay 93 = .ok (.isub, 1) := by decide +kernel
theorem dX9_bay_94 : decode cX9_bay 94 = .ok (.ireturn, 1) := by decide +kernel
theorem dX9_bay_95 : decode cX9_bay 95 = .ok (.aload_n 0, 1) := by decide +kernel
theorem dX9_bay_96 : decode cX9_bay 96 = .ok (.iconst 0, 1) := by decide +kernel
theorem dX9_bay_97 : decode cX9_bay 97 = .ok (.putfield 171, 3) := by decide +kernel
theorem dX9_bay_100 : decode cX9_bay 100 = .ok (.iconst 0, 1) := by decide +kernel
theorem dX9_bay_101 : decode cX9_bay 101 = .ok (.istore_n 1, 1) := by decide +kernel
theorem dX9_bay_102 : decode cX9_bay 102 = .ok (.iload_n 1, 1) := by decide +kernel
theorem dX9_bay_103 : decode cX9_bay 103 = .ok (.bipush 75, 2) := by decide +kernel
theorem dX9_bay_105 : decode cX9_bay 105 = .ok (.if_icmp .ge 21, 3) := by decide +kernel
theorem dX9_bay_108 : decode cX9_bay 108 = .ok (.aload_n 0, 1) := by decide +kernel
theorem dX9_bay_109 : decode cX9_bay 109 = .ok (.getfield 19, 3) := by decide +kernel
theorem dX9_bay_112 : decode cX9_bay 112 = .ok (.iload_n 1, 1) := by decide +kernel
theorem dX9_bay_113 : decode cX9_bay 113 = .ok (.aload_n 0, 1) := by decide +kernel
theorem dX9_bay_114 : decode cX9_bay 114 = .ok (.getfield 22, 3) := by decide +kernel
theorem dX9_bay_117 : decode cX9_bay 117 = .ok (.iload_n 1, 1) := by decide +kernel
theorem dX9_bay_118 : decode cX9_bay 118 = .ok (.iaload, 1) := by decide +kernel
theorem dX9_bay_119 : decode cX9_bay 119 = .ok (.iastore, 1) := by decide +kernel
theorem dX9_bay_120 : decode cX9_bay 120 = .ok (.iinc 1 1, 3) := by decide +kernel
theorem dX9_bay_123 : decode cX9_bay 123 = .ok (.goto (-21), 3) := by decide +kernel
theorem dX9_bay_126 : decode cX9_bay 126 = .ok (.aload_n 0, 1) := by decide +kernel
theorem dX9_bay_127 : decode cX9_bay 127 = .ok (.getfield 19, 3) := by decide +kernel
theorem dX9_bay_130 : decode cX9_bay 130 = .ok (.iconst 0, 1) := by decide +kernel
theorem dX9_bay_131 : decode cX9_bay 131 = .ok (.iconst 1, 1) := by decide +kernel
theorem dX9_bay_132 : decode cX9_bay 132 = .ok (.iastore, 1) := by decide +kernel
theorem dX9_bay_133 : decode cX9_bay 133 = .ok (.aload_n 0, 1) := by decide +kernel
theorem dX9_bay_134 : decode cX9_bay 134 = .ok (.getfield 19, 3) := by decide +kernel
theorem dX9_bay_137 : decode cX9_bay 137 = .ok (.iconst 1, 1) := by decide +kernel
theorem dX9_bay_138 : decode cX9_bay 138 = .ok (.iaload, 1) := by decide +kernel
theorem dX9_bay_139 : decode cX9_bay 139 = .ok (.ireturn, 1) := by decide +kernel
theorem dX9_fault_0 : decode cX9_fault 0 = .ok (.aload_n 0, 1) := by decide +kernel
theorem dX9_fault_1 : decode cX9_fault 1 = .ok (.iconst 0, 1) := by decide +kernel
theorem dX9_fault_2 : decode cX9_fault 2 = .ok (.putfield 50, 3) := by decide +kernel
theorem dX9_fault_5 : decode cX9_fault 5 = .ok (.aload_n 0, 1) := by decide +kernel
theorem dX9_fault_6 : decode cX9_fault 6 = .ok (.getfield 167, 3) := by decide +kernel
theorem dX9_fault_9 : decode cX9_fault 9 = .ok (.ireturn, 1) := by decide +kernel
theorem dX9_isThere_0 : decode cX9_isThere 0 = .ok (.aload_n 0, 1) := by decide +kernel
theorem dX9_isThere_1 : decode cX9_isThere 1 = .ok (.getfield 19, 3) := by decide +kernel
theorem dX9_isThere_4 : decode cX9_isThere 4 = .ok (.iconst 0, 1) := by decide +kernel
theorem dX9_isThere_5 : decode cX9_isThere 5 = .ok (.iaload, 1) := by decide +kernel
theorem dX9_isThere_6 : decode cX9_isThere 6 = .ok (.iconst 1, 1) := by decide +kernel
theorem dX9_isThere_7 : decode cX9_isThere 7 = .ok (.if_icmp .ne 7, 3) := by decide +kernel
theorem dX9_isThere_10 : decode cX9_isThere 10 = .ok (.iconst 1, 1) := by decide +kernel
theorem dX9_isThere_11 : decode cX9_isThere 11 = .ok (.goto 4, 3) := by decide +kernel
theorem dX9_isThere_14 : decode cX9_isThere 14 = .ok (.iconst 0, 1) := by decide +kernel
theorem dX9_isThere_15 : decode cX9_isThere 15 = .ok (.ireturn, 1) := by decide +kernel
set_option maxRecDepth 20000 in
theorem ggX9_isWater_X9_in : GoodIn wsX9_isWater wsX9_in := goodIn_r _ [5] (by decide +kernel) (by decide +kernel)
set_option maxRecDepth 20000 in
theorem gX9_isWater_X9_in : GoodIn wsX9_isWater (va_wsS RX9 60 yX9_in wsX9_in) := goodIn_app (goodIn_of _ (by decide +kernel)) ggX9_isWater_X9_in
theorem dX9_isWater_0 : decode cX9_isWater 0 = .ok (.iload_n 1, 1) := by decide +kernel
theorem dX9_isWater_1 : decode cX9_isWater 1 = .ok (.i2l, 1) := by decide +kernel
theorem dX9_isWater_2 : decode cX9_isWater 2 = .ok (.lconst 0, 1) := by decide +kernel
theorem dX9_isWater_3 : decode cX9_isWater 3 = .ok (.aload_n 0, 1) := by decide +kernel
theorem dX9_isWater_4 : decode cX9_isWater 4 = .ok (.getfield 19, 3) := by decide +kernel
theorem dX9_isWater_7 : decode cX9_isWater 7 = .ok (.iconst 1, 1) := by decide +kernel
theorem dX9_isWater_8 : decode cX9_isWater 8 = .ok (.iaload, 1) := by decide +kernel
theorem dX9_isWater_9 : decode cX9_isWater 9 = .ok (.iconst 1, 1) := by decide +kernel
theorem dX9_isWater_10 : decode cX9_isWater 10 = .ok (.isub, 1) := by decide +kernel
theorem dX9_isWater_11 : decode cX9_isWater 11 = .ok (.i2l, 1) := by decide +kernel
theorem dX9_isWater_12 : decode cX9_isWater 12 = .ok (.invokestatic 60, 3) := by decide +kernel
theorem dX9_isWater_15 : decode cX9_isWater 15 = .ok (.ireturn, 1) := by decide +kernel
set_option maxRecDepth 20000 in
theorem ggX9_areTwo_X9_isWater : GoodIn wsX9_areTwo wsX9_isWater := goodIn_r _ [5, 6, 7, 8, 4, 9, 10, 11, 12, 13, 14, 15, 16, 17, 18, 19, 20, 21, 22, 23, 24, 25, 26, 27, 28, 29, 30, 31, 32, 33, 34, 35, 36] (by decide +kernel) (by decide +kernel)
set_option maxRecDepth 20000 in
theorem gX9_areTwo_X9_isWater : GoodIn wsX9_areTwo (wsV RX9 174 RX9 yX9_isWater wsX9_isWater) := goodIn_app (goodIn_of _ (by decide +kernel)) ggX9_areTwo_X9_isWater
theorem dX9_areTwo_0 : decode cX9_areTwo 0 = .ok (.aload_n 0, 1) := by decide +kernel
theorem dX9_areTwo_1 : decode cX9_areTwo 1 = .ok (.iload_n 1, 1) := by decide +kernel
theorem dX9_areTwo_2 : decode cX9_areTwo 2 = .ok (.invokevirtual 174, 3) := by decide +kernel
theorem dX9_areTwo_5 : decode cX9_areTwo 5 = .ok (.ifCond .eq 20, 3) := by decide +kernel
theorem dX9_areTwo_8 : decode cX9_areTwo 8 = .ok (.aload_n 0, 1) := by decide +kernel
theorem dX9_areTwo_9 : decode cX9_areTwo 9 = .ok (.iload_n 2, 1) := by decide +kernel
theorem dX9_areTwo_10 : decode cX9_areTwo 10 = .ok (.invokevirtual 174, 3) := by decide +kernel
theorem dX9_areTwo_13 : decode cX9_areTwo 13 = .ok (.ifCond .eq 12, 3) := by decide +kernel
theorem dX9_areTwo_16 : decode cX9_areTwo 16 = .ok (.iload_n 1, 1) := by decide +kernel
theorem dX9_areTwo_17 : decode cX9_areTwo 17 = .ok (.iload_n 2, 1) := by decide +kernel
theorem dX9_areTwo_18 : decode cX9_areTwo 18 = .ok (.if_icmp .eq 7, 3) := by decide +kernel
theorem dX9_areTwo_21 : decode cX9_areTwo 21 = .ok (.iconst 1, 1) := by decide +kernel
theorem dX9_areTwo_22 : decode cX9_areTwo 22 = .ok (.goto 4, 3) := by decide +kernel
theorem dX9_areTwo_25 : decode cX9_areTwo 25 = .ok (.iconst 0, 1) := by decide +kernel
theorem dX9_areTwo_26 : decode cX9_areTwo 26 = .ok (.ireturn, 1) := by decide +kernel
theorem dX9_at_0 : decode cX9_at 0 = .ok (.bipush 15, 2) := by decide +kernel
theorem dX9_at_2 : decode cX9_at 2 = .ok (.iconst 4, 1) := by decide +kernel
theorem dX9_at_3 : decode cX9_at 3 = .ok (.iload_n 0, 1) := by decide +kernel
theorem dX9_at_4 : decode cX9_at 4 = .ok (.imul, 1) := by decide +kernel
theorem dX9_at_5 : decode cX9_at 5 = .ok (.iadd, 1) := by decide +kernel
theorem dX9_at_6 : decode cX9_at 6 = .ok (.iload_n 1, 1) := by decide +kernel
theorem dX9_at_7 : decode cX9_at 7 = .ok (.iadd, 1) := by decide +kernel
theorem dX9_at_8 : decode cX9_at 8 = .ok (.ireturn, 1) := by decide +kernel
theorem dX9_debt_0 : decode cX9_debt 0 = .ok (.bipush 39, 2) := by decide +kernel
theorem dX9_debt_2 : decode cX9_debt 2 = .ok (.bipush 6, 2) := by decide +kernel
theorem dX9_debt_4 : decode cX9_debt 4 = .ok (.iload_n 0, 1) := by decide +kernel
theorem dX9_debt_5 : decode cX9_debt 5 = .ok (.imul, 1) := by decide +kernel
theorem dX9_debt_6 : decode cX9_debt 6 = .ok (.iadd, 1) := by decide +kernel
theorem dX9_debt_7 : decode cX9_debt 7 = .ok (.iload_n 1, 1) := by decide +kernel
theorem dX9_debt_8 : decode cX9_debt 8 = .ok (.iadd, 1) := by decide +kernel
theorem dX9_debt_9 : decode cX9_debt 9 = .ok (.ireturn, 1) := by decide +kernel
theorem dX9_layNow_0 : decode cX9_layNow 0 = .ok (.iconst 0, 1) := by decide +kernel
theorem dX9_layNow_1 : decode cX9_layNow 1 = .ok (.istore_n 1, 1) := by decide +kernel
theorem dX9_layNow_2 : decode cX9_layNow 2 = .ok (.iload_n 1, 1) := by decide +kernel
theorem dX9_layNow_3 : decode cX9_layNow 3 = .ok (.bipush 75, 2) := by decide +kernel
theorem dX9_layNow_5 : decode cX9_layNow 5 = .ok (.if_icmp .ge 21, 3) := by decide +kernel
theorem dX9_layNow_8 : decode cX9_layNow 8 = .ok (.aload_n 0, 1) := by decide +kernel
theorem dX9_layNow_9 : decode cX9_layNow 9 = .ok (.getfield 25, 3) := by decide +kernel
theorem dX9_layNow_12 : decode cX9_layNow 12 = .ok (.iload_n 1, 1) := by decide +kernel
theorem dX9_layNow_13 : decode cX9_layNow 13 = .ok (.aload_n 0, 1) := by decide +kernel
theorem dX9_layNow_14 : decode cX9_layNow 14 = .ok (.getfield 19, 3) := by decide +kernel
theorem dX9_layNow_17 : decode cX9_layNow 17 = .ok (.iload_n 1, 1) := by decide +kernel
theorem dX9_layNow_18 : decode cX9_layNow 18 = .ok (.iaload, 1) := by decide +kernel
theorem dX9_layNow_19 : decode cX9_layNow 19 = .ok (.iastore, 1) := by decide +kernel
theorem dX9_layNow_20 : decode cX9_layNow 20 = .ok (.iinc 1 1, 3) := by decide +kernel
theorem dX9_layNow_23 : decode cX9_layNow 23 = .ok (.goto (-21), 3) := by decide +kernel
theorem dX9_layNow_26 : decode cX9_layNow 26 = .ok (.return_, 1) := by decide +kernel
theorem dX9_riseAt_0 : decode cX9_riseAt 0 = .ok (.aload_n 0, 1) := by decide +kernel
theorem dX9_riseAt_1 : decode cX9_riseAt 1 = .ok (.getfield 19, 3) := by decide +kernel
theorem dX9_riseAt_4 : decode cX9_riseAt 4 = .ok (.iconst 3, 1) := by decide +kernel
theorem dX9_riseAt_5 : decode cX9_riseAt 5 = .ok (.iload_n 1, 1) := by decide +kernel
theorem dX9_riseAt_6 : decode cX9_riseAt 6 = .ok (.iconst 1, 1) := by decide +kernel
theorem dX9_riseAt_7 : decode cX9_riseAt 7 = .ok (.iadd, 1) := by decide +kernel
theorem dX9_riseAt_8 : decode cX9_riseAt 8 = .ok (.bipush 12, 2) := by decide +kernel
theorem dX9_riseAt_10 : decode cX9_riseAt 10 = .ok (.irem, 1) := by decide +kernel
theorem dX9_riseAt_11 : decode cX9_riseAt 11 = .ok (.iadd, 1) := by decide +kernel
theorem dX9_riseAt_12 : decode cX9_riseAt 12 = .ok (.iaload, 1) := by decide +kernel
theorem dX9_riseAt_13 : decode cX9_riseAt 13 = .ok (.aload_n 0, 1) := by decide +kernel
theorem dX9_riseAt_14 : decode cX9_riseAt 14 = .ok (.getfield 19, 3) := by decide +kernel
theorem dX9_riseAt_17 : decode cX9_riseAt 17 = .ok (.iconst 3, 1) := by decide +kernel
theorem dX9_riseAt_18 : decode cX9_riseAt 18 = .ok (.iload_n 1, 1) := by decide +kernel
theorem dX9_riseAt_19 : decode cX9_riseAt 19 = .ok (.bipush 12, 2) := by decide +kernel
theorem dX9_riseAt_21 : decode cX9_riseAt 21 = .ok (.irem, 1) := by decide +kernel
theorem dX9_riseAt_22 : decode cX9_riseAt 22 = .ok (.iadd, 1) := by decide +kernel
theorem dX9_riseAt_23 : decode cX9_riseAt 23 = .ok (.iaload, 1) := by decide +kernel
theorem dX9_riseAt_24 : decode cX9_riseAt 24 = .ok (.isub, 1) := by decide +kernel
theorem dX9_riseAt_25 : decode cX9_riseAt 25 = .ok (.ireturn, 1) := by decide +kernel
set_option maxRecDepth 20000 in
theorem ggX9_flowOf_X9_riseAt : GoodIn wsX9_flowOf wsX9_riseAt := goodIn_r _ [6, 1, 10, 11, 12, 13, 14, 15, 16, 17, 18, 19, 20, 21, 22, 23, 24, 25, 26, 27, 28, 29, 30, 31, 32, 33, 34, 35, 36] (by decide +kernel) (by decide +kernel)
set_option maxRecDepth 20000 in
theorem gX9_flowOf_X9_riseAt : GoodIn wsX9_flowOf (wsV RX9 177 RX9 yX9_riseAt wsX9_riseAt) := goodIn_app (goodIn_of _ (by decide +kernel)) ggX9_flowOf_X9_riseAt
set_option maxRecDepth 20000 in
theorem ggX9_flowOf_X9_at : GoodIn wsX9_flowOf wsX9_at := goodIn_r _ [9] (by decide +kernel) (by decide +kernel)
set_option maxRecDepth 20000 in
theorem gX9_flowOf_X9_at : GoodIn wsX9_flowOf (va_wsS RX9 180 yX9_at wsX9_at) := goodIn_app (goodIn_of _ (by decide +kernel)) ggX9_flowOf_X9_at
theorem dX9_flowOf_0 : decode cX9_flowOf 0 = .ok (.aload_n 0, 1) := by decide +kernel
theorem dX9_flowOf_1 : decode cX9_flowOf 1 = .ok (.iload_n 2, 1) := by decide +kernel
theorem dX9_flowOf_2 : decode cX9_flowOf 2 = .ok (.invokevirtual 177, 3) := by decide +kernel
theorem dX9_flowOf_5 : decode cX9_flowOf 5 = .ok (.istore_n 3, 1) := by decide +kernel
theorem dX9_flowOf_6 : decode cX9_flowOf 6 = .ok (.aload_n 0, 1) := by decide +kernel
theorem dX9_flowOf_7 : decode cX9_flowOf 7 = .ok (.getfield 19, 3) := by decide +kernel
theorem dX9_flowOf_10 : decode cX9_flowOf 10 = .ok (.iload_n 1, 1) := by decide +kernel
theorem dX9_flowOf_11 : decode cX9_flowOf 11 = .ok (.iconst 0, 1) := by decide +kernel
theorem dX9_flowOf_12 : decode cX9_flowOf 12 = .ok (.invokestatic 180, 3) := by decide +kernel
theorem dX9_flowOf_15 : decode cX9_flowOf 15 = .ok (.iaload, 1) := by decide +kernel
theorem dX9_flowOf_16 : decode cX9_flowOf 16 = .ok (.tableswitch 83 1 5 #[36, 38, 42, 83, 74], 36) := by decide +kernel
theorem dX9_flowOf_52 : decode cX9_flowOf 52 = .ok (.iload_n 3, 1) := by decide +kernel
theorem dX9_flowOf_53 : decode cX9_flowOf 53 = .ok (.ireturn, 1) := by decide +kernel
theorem dX9_flowOf_54 : decode cX9_flowOf 54 = .ok (.iload_n 3, 1) := by decide +kernel
theorem dX9_flowOf_55 : decode cX9_flowOf 55 = .ok (.iconst 2, 1) := by decide +kernel
theorem dX9_flowOf_56 : decode cX9_flowOf 56 = .ok (.idiv, 1) := by decide +kernel
theorem dX9_flowOf_57 : decode cX9_flowOf 57 = .ok (.ireturn, 1) := by decide +kernel
theorem dX9_flowOf_58 : decode cX9_flowOf 58 = .ok (.aload_n 0, 1) := by decide +kernel
theorem dX9_flowOf_59 : decode cX9_flowOf 59 = .ok (.getfield 19, 3) := by decide +kernel
theorem dX9_flowOf_62 : decode cX9_flowOf 62 = .ok (.iconst 3, 1) := by decide +kernel
theorem dX9_flowOf_63 : decode cX9_flowOf 63 = .ok (.iload_n 2, 1) := by decide +kernel
theorem dX9_flowOf_64 : decode cX9_flowOf 64 = .ok (.iconst 1, 1) := by decide +kernel
theorem dX9_flowOf_65 : decode cX9_flowOf 65 = .ok (.iadd, 1) := by decide +kernel
theorem dX9_flowOf_66 : decode cX9_flowOf 66 = .ok (.bipush 12, 2) := by decide +kernel
theorem dX9_flowOf_68 : decode cX9_flowOf 68 = .ok (.irem, 1) := by decide +kernel
theorem dX9_flowOf_69 : decode cX9_flowOf 69 = .ok (.iadd, 1) := by decide +kernel
theorem dX9_flowOf_70 : decode cX9_flowOf 70 = .ok (.iaload, 1) := by decide +kernel
theorem dX9_flowOf_71 : decode cX9_flowOf 71 = .ok (.aload_n 0, 1) := by decide +kernel
theorem dX9_flowOf_72 : decode cX9_flowOf 72 = .ok (.getfield 19, 3) := by decide +kernel
theorem dX9_flowOf_75 : decode cX9_flowOf 75 = .ok (.iload_n 1, 1) := by decide +kernel
theorem dX9_flowOf_76 : decode cX9_flowOf 76 = .ok (.iconst 3, 1) := by decide +kernel
theorem dX9_flowOf_77 : decode cX9_flowOf 77 = .ok (.invokestatic 180, 3) := by decide +kernel
theorem dX9_flowOf_80 : decode cX9_flowOf 80 = .ok (.iaload, 1) := by decide +kernel
theorem dX9_flowOf_81 : decode cX9_flowOf 81 = .ok (.if_icmp .lt 7, 3) := by decide +kernel
theorem dX9_flowOf_84 : decode cX9_flowOf 84 = .ok (.iload_n 3, 1) := by decide +kernel
theorem dX9_flowOf_85 : decode cX9_flowOf 85 = .ok (.goto 4, 3) := by decide +kernel
theorem dX9_flowOf_88 : decode cX9_flowOf 88 = .ok (.iconst 0, 1) := by decide +kernel
theorem dX9_flowOf_89 : decode cX9_flowOf 89 = .ok (.ireturn, 1) := by decide +kernel
theorem dX9_flowOf_90 : decode cX9_flowOf 90 = .ok (.aload_n 0, 1) := by decide +kernel
theorem dX9_flowOf_91 : decode cX9_flowOf 91 = .ok (.iload_n 2, 1) := by decide +kernel
theorem dX9_flowOf_92 : decode cX9_flowOf 92 = .ok (.bipush 11, 2) := by decide +kernel
theorem dX9_flowOf_94 : decode cX9_flowOf 94 = .ok (.iadd, 1) := by decide +kernel
theorem dX9_flowOf_95 : decode cX9_flowOf 95 = .ok (.invokevirtual 177, 3) := by decide +kernel
theorem dX9_flowOf_98 : decode cX9_flowOf 98 = .ok (.ireturn, 1) := by decide +kernel
theorem dX9_flowOf_99 : decode cX9_flowOf 99 = .ok (.iconst 0, 1) := by decide +kernel
theorem dX9_flowOf_100 : decode cX9_flowOf 100 = .ok (.ireturn, 1) := by decide +kernel
set_option maxRecDepth 20000 in
theorem ggX9_flows_X9_at : GoodIn wsX9_flows wsX9_at := goodIn_r _ [5] (by decide +kernel) (by decide +kernel)
set_option maxRecDepth 20000 in
theorem gX9_flows_X9_at : GoodIn wsX9_flows (va_wsS RX9 180 yX9_at wsX9_at) := goodIn_app (goodIn_of _ (by decide +kernel)) ggX9_flows_X9_at
theorem dX9_flows_0 : decode cX9_flows 0 = .ok (.iload_n 1, 1) := by decide +kernel
theorem dX9_flows_1 : decode cX9_flows 1 = .ok (.iconst 1, 1) := by decide +kernel
theorem dX9_flows_2 : decode cX9_flows 2 = .ok (.invokestatic 180, 3) := by decide +kernel
theorem dX9_flows_5 : decode cX9_flows 5 = .ok (.istore_n 3, 1) := by decide +kernel
theorem dX9_flows_6 : decode cX9_flows 6 = .ok (.iload_n 1, 1) := by decide +kernel
theorem dX9_flows_7 : decode cX9_flows 7 = .ok (.iconst 2, 1) := by decide +kernel
theorem dX9_flows_8 : decode cX9_flows 8 = .ok (.invokestatic 180, 3) := by decide +kernel
theorem dX9_flows_11 : decode cX9_flows 11 = .ok (.istore 4, 2) := by decide +kernel
theorem dX9_flows_13 : decode cX9_flows 13 = .ok (.iload_n 2, 1) := by decide +kernel
theorem dX9_flows_14 : decode cX9_flows 14 = .ok (.ifCond .le 55, 3) := by decide +kernel
theorem dX9_flows_17 : decode cX9_flows 17 = .ok (.iload_n 2, 1) := by decide +kernel
theorem dX9_flows_18 : decode cX9_flows 18 = .ok (.aload_n 0, 1) := by decide +kernel
theorem dX9_flows_19 : decode cX9_flows 19 = .ok (.getfield 25, 3) := by decide +kernel
theorem dX9_flows_22 : decode cX9_flows 22 = .ok (.iload 4, 2) := by decide +kernel
theorem dX9_flows_24 : decode cX9_flows 24 = .ok (.iaload, 1) := by decide +kernel
theorem dX9_flows_25 : decode cX9_flows 25 = .ok (.if_icmp .ge 7, 3) := by decide +kernel
theorem dX9_flows_28 : decode cX9_flows 28 = .ok (.iload_n 2, 1) := by decide +kernel
theorem dX9_flows_29 : decode cX9_flows 29 = .ok (.goto 10, 3) := by decide +kernel
theorem dX9_flows_32 : decode cX9_flows 32 = .ok (.aload_n 0, 1) := by decide +kernel
theorem dX9_flows_33 : decode cX9_flows 33 = .ok (.getfield 25, 3) := by decide +kernel
theorem dX9_flows_36 : decode cX9_flows 36 = .ok (.iload 4, 2) := by decide +kernel
theorem dX9_flows_38 : decode cX9_flows 38 = .ok (.iaload, 1) := by decide +kernel
theorem dX9_flows_39 : decode cX9_flows 39 = .ok (.istore 5, 2) := by decide +kernel
theorem dX9_flows_41 : decode cX9_flows 41 = .ok (.aload_n 0, 1) := by decide +kernel
theorem dX9_flows_42 : decode cX9_flows 42 = .ok (.getfield 25, 3) := by decide +kernel
theorem dX9_flows_45 : decode cX9_flows 45 = .ok (.iload 4, 2) := by decide +kernel
theorem dX9_flows_47 : decode cX9_flows 47 = .ok (.dup2, 1) := by decide +kernel
theorem dX9_flows_48 : decode cX9_flows 48 = .ok (.iaload, 1) := by decide +kernel
theorem dX9_flows_49 : decode cX9_flows 49 = .ok (.iload 5, 2) := by decide +kernel
theorem dX9_flows_51 : decode cX9_flows 51 = .ok (.isub, 1) := by decide +kernel
theorem dX9_flows_52 : decode cX9_flows 52 = .ok (.iastore, 1) := by decide +kernel
theorem dX9_flows_53 : decode cX9_flows 53 = .ok (.aload_n 0, 1) := by decide +kernel
theorem dX9_flows_54 : decode cX9_flows 54 = .ok (.getfield 25, 3) := by decide +kernel
theorem dX9_flows_57 : decode cX9_flows 57 = .ok (.iload_n 3, 1) := by decide +kernel
theorem dX9_flows_58 : decode cX9_flows 58 = .ok (.dup2, 1) := by decide +kernel
theorem dX9_flows_59 : decode cX9_flows 59 = .ok (.iaload, 1) := by decide +kernel
theorem dX9_flows_60 : decode cX9_flows 60 = .ok (.iload_n 2, 1) := by decide +kernel
theorem dX9_flows_61 : decode cX9_flows 61 = .ok (.iload 5, 2) := by decide +kernel
theorem dX9_flows_63 : decode cX9_flows 63 = .ok (.isub, 1) := by decide +kernel
theorem dX9_flows_64 : decode cX9_flows 64 = .ok (.iadd, 1) := by decide +kernel
theorem dX9_flows_65 : decode cX9_flows 65 = .ok (.iastore, 1) := by decide +kernel
theorem dX9_flows_66 : decode cX9_flows 66 = .ok (.goto 53, 3) := by decide +kernel
theorem dX9_flows_69 : decode cX9_flows 69 = .ok (.iload_n 2, 1) := by decide +kernel
theorem dX9_flows_70 : decode cX9_flows 70 = .ok (.ineg, 1) := by decide +kernel
theorem dX9_flows_71 : decode cX9_flows 71 = .ok (.aload_n 0, 1) := by decide +kernel
theorem dX9_flows_72 : decode cX9_flows 72 = .ok (.getfield 25, 3) := by decide +kernel
theorem dX9_flows_75 : decode cX9_flows 75 = .ok (.iload_n 3, 1) := by decide +kernel
theorem dX9_flows_76 : decode cX9_flows 76 = .ok (.iaload, 1) := by decide +kernel
theorem dX9_flows_77 : decode cX9_flows 77 = .ok (.if_icmp .ge 8, 3) := by decide +kernel
theorem dX9_flows_80 : decode cX9_flows 80 = .ok (.iload_n 2, 1) := by decide +kernel
theorem dX9_flows_81 : decode cX9_flows 81 = .ok (.ineg, 1) := by decide +kernel
theorem dX9_flows_82 : decode cX9_flows 82 = .ok (.goto 9, 3) := by decide +kernel
theorem dX9_flows_85 : decode cX9_flows 85 = .ok (.aload_n 0, 1) := by decide +kernel
theorem dX9_flows_86 : decode cX9_flows 86 = .ok (.getfield 25, 3) := by decide +kernel
theorem dX9_flows_89 : decode cX9_flows 89 = .ok (.iload_n 3, 1) := by decide +kernel
theorem dX9_flows_90 : decode cX9_flows 90 = .ok (.iaload, 1) := by decide +kernel
theorem dX9_flows_91 : decode cX9_flows 91 = .ok (.istore 5, 2) := by decide +kernel
theorem dX9_flows_93 : decode cX9_flows 93 = .ok (.aload_n 0, 1) := by decide +kernel
theorem dX9_flows_94 : decode cX9_flows 94 = .ok (.getfield 25, 3) := by decide +kernel
theorem dX9_flows_97 : decode cX9_flows 97 = .ok (.iload_n 3, 1) := by decide +kernel
theorem dX9_flows_98 : decode cX9_flows 98 = .ok (.dup2, 1) := by decide +kernel
theorem dX9_flows_99 : decode cX9_flows 99 = .ok (.iaload, 1) := by decide +kernel
theorem dX9_flows_100 : decode cX9_flows 100 = .ok (.iload 5, 2) := by decide +kernel
theorem dX9_flows_102 : decode cX9_flows 102 = .ok (.isub, 1) := by decide +kernel
theorem dX9_flows_103 : decode cX9_flows 103 = .ok (.iastore, 1) := by decide +kernel
theorem dX9_flows_104 : decode cX9_flows 104 = .ok (.aload_n 0, 1) := by decide +kernel
theorem dX9_flows_105 : decode cX9_flows 105 = .ok (.getfield 25, 3) := by decide +kernel
theorem dX9_flows_108 : decode cX9_flows 108 = .ok (.iload 4, 2) := by decide +kernel
theorem dX9_flows_110 : decode cX9_flows 110 = .ok (.dup2, 1) := by decide +kernel
theorem dX9_flows_111 : decode cX9_flows 111 = .ok (.iaload, 1) := by decide +kernel
theorem dX9_flows_112 : decode cX9_flows 112 = .ok (.iload_n 2, 1) := by decide +kernel
theorem dX9_flows_113 : decode cX9_flows 113 = .ok (.ineg, 1) := by decide +kernel
theorem dX9_flows_114 : decode cX9_flows 114 = .ok (.iload 5, 2) := by decide +kernel
theorem dX9_flows_116 : decode cX9_flows 116 = .ok (.isub, 1) := by decide +kernel
theorem dX9_flows_117 : decode cX9_flows 117 = .ok (.iadd, 1) := by decide +kernel
theorem dX9_flows_118 : decode cX9_flows 118 = .ok (.iastore, 1) := by decide +kernel
theorem dX9_flows_119 : decode cX9_flows 119 = .ok (.return_, 1) := by decide +kernel
set_option maxRecDepth 20000 in
theorem ggX9_goHour_X9_riseAt : GoodIn wsX9_goHour wsX9_riseAt := goodIn_r _ [8, 2, 23, 24, 25, 26, 27, 28, 29, 30, 31, 32, 33, 34, 35, 36, 37, 38, 39, 40, 41, 42, 43, 44, 45, 46, 47, 48, 49] (by decide +kernel) (by decide +kernel)
set_option maxRecDepth 20000 in
theorem gX9_goHour_X9_riseAt : GoodIn wsX9_goHour (wsV RX9 177 RX9 yX9_riseAt wsX9_riseAt) := goodIn_app (goodIn_of _ (by decide +kernel)) ggX9_goHour_X9_riseAt
set_option maxRecDepth 20000 in
theorem ggX9_goHour_X9_flowOf : GoodIn wsX9_goHour wsX9_flowOf := goodIn_r _ [12, 2, 4, 5, 6, 7, 8, 13, 14, 15, 23, 24, 25, 26, 27, 28, 29, 30, 31, 32, 33, 34, 35, 36, 37, 38, 39, 40, 41, 42, 43, 44, 45, 46, 47, 48, 49] (by decide +kernel) (by decide +kernel)
set_option maxRecDepth 20000 in
theorem gX9_goHour_X9_flowOf : GoodIn wsX9_goHour (wsV RX9 183 RX9 yX9_flowOf wsX9_flowOf) := goodIn_app (goodIn_of _ (by decide +kernel)) ggX9_goHour_X9_flowOf
set_option maxRecDepth 20000 in
theorem ggX9_goHour_X9_flows : GoodIn wsX9_goHour wsX9_flows := goodIn_r _ [19, 1, 13, 14, 7, 15, 23, 24, 25, 26, 27, 28, 29, 30, 31, 32, 33, 34, 35, 36, 37, 38, 39, 40, 41, 42, 43, 44, 45, 46, 47, 48, 49] (by decide +kernel) (by decide +kernel)
set_option maxRecDepth 20000 in
theorem gX9_goHour_X9_flows : GoodIn wsX9_goHour (wsV RX9 186 RX9 yX9_flows wsX9_flows) := goodIn_app (goodIn_of _ (by decide +kernel)) ggX9_goHour_X9_flows
set_option maxRecDepth 20000 in
theorem ggX9_goHour_X9_in : GoodIn wsX9_goHour wsX9_in := goodIn_r _ [22] (by decide +kernel) (by decide +kernel)
set_option maxRecDepth 20000 in
theorem gX9_goHour_X9_in : GoodIn wsX9_goHour (va_wsS RX9 60 yX9_in wsX9_in) := goodIn_app (goodIn_of _ (by decide +kernel)) ggX9_goHour_X9_in
theorem dX9_goHour_0 : decode cX9_goHour 0 = .ok (.aload_n 0, 1) := by decide +kernel
theorem dX9_goHour_1 : decode cX9_goHour 1 = .ok (.aload_n 0, 1) := by decide +kernel
theorem dX9_goHour_2 : decode cX9_goHour 2 = .ok (.getfield 25, 3) := by decide +kernel
theorem dX9_goHour_5 : decode cX9_goHour 5 = .ok (.iconst 2, 1) := by decide +kernel
theorem dX9_goHour_6 : decode cX9_goHour 6 = .ok (.iaload, 1) := by decide +kernel
theorem dX9_goHour_7 : decode cX9_goHour 7 = .ok (.invokevirtual 177, 3) := by decide +kernel
theorem dX9_goHour_10 : decode cX9_goHour 10 = .ok (.istore_n 1, 1) := by decide +kernel
theorem dX9_goHour_11 : decode cX9_goHour 11 = .ok (.iconst 0, 1) := by decide +kernel
theorem dX9_goHour_12 : decode cX9_goHour 12 = .ok (.istore_n 2, 1) := by decide +kernel
theorem dX9_goHour_13 : decode cX9_goHour 13 = .ok (.iload_n 2, 1) := by decide +kernel
theorem dX9_goHour_14 : decode cX9_goHour 14 = .ok (.aload_n 0, 1) := by decide +kernel
theorem dX9_goHour_15 : decode cX9_goHour 15 = .ok (.getfield 19, 3) := by decide +kernel
theorem dX9_goHour_18 : decode cX9_goHour 18 = .ok (.iconst 1, 1) := by decide +kernel
theorem dX9_goHour_19 : decode cX9_goHour 19 = .ok (.iaload, 1) := by decide +kernel
theorem dX9_goHour_20 : decode cX9_goHour 20 = .ok (.if_icmp .ge 25, 3) := by decide +kernel
theorem dX9_goHour_23 : decode cX9_goHour 23 = .ok (.aload_n 0, 1) := by decide +kernel
theorem dX9_goHour_24 : decode cX9_goHour 24 = .ok (.iload_n 2, 1) := by decide +kernel
theorem dX9_goHour_25 : decode cX9_goHour 25 = .ok (.aload_n 0, 1) := by decide +kernel
theorem dX9_goHour_26 : decode cX9_goHour 26 = .ok (.iload_n 2, 1) := by decide +kernel
theorem dX9_goHour_27 : decode cX9_goHour 27 = .ok (.aload_n 0, 1) := by decide +kernel
theorem dX9_goHour_28 : decode cX9_goHour 28 = .ok (.getfield 25, 3) := by decide +kernel
theorem dX9_goHour_31 : decode cX9_goHour 31 = .ok (.iconst 2, 1) := by decide +kernel
theorem dX9_goHour_32 : decode cX9_goHour 32 = .ok (.iaload, 1) := by decide +kernel
theorem dX9_goHour_33 : decode cX9_goHour 33 = .ok (.invokevirtual 183, 3) := by decide +kernel
theorem dX9_goHour_36 : decode cX9_goHour 36 = .ok (.invokevirtual 186, 3) := by decide +kernel
theorem dX9_goHour_39 : decode cX9_goHour 39 = .ok (.iinc 2 1, 3) := by decide +kernel
theorem dX9_goHour_42 : decode cX9_goHour 42 = .ok (.goto (-29), 3) := by decide +kernel
theorem dX9_goHour_45 : decode cX9_goHour 45 = .ok (.iload_n 1, 1) := by decide +kernel
theorem dX9_goHour_46 : decode cX9_goHour 46 = .ok (.i2l, 1) := by decide +kernel
theorem dX9_goHour_47 : decode cX9_goHour 47 = .ok (.ldc2_w 190, 3) := by decide +kernel
theorem dX9_goHour_50 : decode cX9_goHour 50 = .ok (.lconst 1, 1) := by decide +kernel
theorem dX9_goHour_51 : decode cX9_goHour 51 = .ok (.invokestatic 60, 3) := by decide +kernel
theorem dX9_goHour_54 : decode cX9_goHour 54 = .ok (.ifCond .eq 55, 3) := by decide +kernel
theorem dX9_goHour_57 : decode cX9_goHour 57 = .ok (.bipush 39, 2) := by decide +kernel
theorem dX9_goHour_59 : decode cX9_goHour 59 = .ok (.istore_n 2, 1) := by decide +kernel
theorem dX9_goHour_60 : decode cX9_goHour 60 = .ok (.iload_n 2, 1) := by decide +kernel
theorem dX9_goHour_61 : decode cX9_goHour 61 = .ok (.bipush 75, 2) := by decide +kernel
theorem dX9_goHour_63 : decode cX9_goHour 63 = .ok (.if_icmp .ge 46, 3) := by decide +kernel
theorem dX9_goHour_66 : decode cX9_goHour 66 = .ok (.aload_n 0, 1) := by decide +kernel
theorem dX9_goHour_67 : decode cX9_goHour 67 = .ok (.getfield 25, 3) := by decide +kernel
theorem dX9_goHour_70 : decode cX9_goHour 70 = .ok (.iload_n 2, 1) := by decide +kernel
theorem dX9_goHour_71 : decode cX9_goHour 71 = .ok (.iaload, 1) := by decide +kernel
theorem dX9_goHour_72 : decode cX9_goHour 72 = .ok (.aload_n 0, 1) := by decide +kernel
theorem dX9_goHour_73 : decode cX9_goHour 73 = .ok (.getfield 25, 3) := by decide +kernel
theorem dX9_goHour_76 : decode cX9_goHour 76 = .ok (.iload_n 2, 1) := by decide +kernel
theorem dX9_goHour_77 : decode cX9_goHour 77 = .ok (.iaload, 1) := by decide +kernel
theorem dX9_goHour_78 : decode cX9_goHour 78 = .ok (.bipush 10, 2) := by decide +kernel
theorem dX9_goHour_80 : decode cX9_goHour 80 = .ok (.idiv, 1) := by decide +kernel
theorem dX9_goHour_81 : decode cX9_goHour 81 = .ok (.iadd, 1) := by decide +kernel
theorem dX9_goHour_82 : decode cX9_goHour 82 = .ok (.istore_n 3, 1) := by decide +kernel
theorem dX9_goHour_83 : decode cX9_goHour 83 = .ok (.aload_n 0, 1) := by decide +kernel
theorem dX9_goHour_84 : decode cX9_goHour 84 = .ok (.getfield 25, 3) := by decide +kernel
theorem dX9_goHour_87 : decode cX9_goHour 87 = .ok (.iload_n 2, 1) := by decide +kernel
theorem dX9_goHour_88 : decode cX9_goHour 88 = .ok (.iload_n 3, 1) := by decide +kernel
theorem dX9_goHour_89 : decode cX9_goHour 89 = .ok (.sipush 9999, 3) := by decide +kernel
theorem dX9_goHour_92 : decode cX9_goHour 92 = .ok (.if_icmp .ge 7, 3) := by decide +kernel
theorem dX9_goHour_95 : decode cX9_goHour 95 = .ok (.iload_n 3, 1) := by decide +kernel
theorem dX9_goHour_96 : decode cX9_goHour 96 = .ok (.goto 6, 3) := by decide +kernel
theorem dX9_goHour_99 : decode cX9_goHour 99 = .ok (.sipush 9999, 3) := by decide +kernel
theorem dX9_goHour_102 : decode cX9_goHour 102 = .ok (.iastore, 1) := by decide +kernel
theorem dX9_goHour_103 : decode cX9_goHour 103 = .ok (.iinc 2 1, 3) := by decide +kernel
theorem dX9_goHour_106 : decode cX9_goHour 106 = .ok (.goto (-46), 3) := by decide +kernel
theorem dX9_goHour_109 : decode cX9_goHour 109 = .ok (.aload_n 0, 1) := by decide +kernel
theorem dX9_goHour_110 : decode cX9_goHour 110 = .ok (.getfield 25, 3) := by decide +kernel
theorem dX9_goHour_113 : decode cX9_goHour 113 = .ok (.iconst 2, 1) := by decide +kernel
theorem dX9_goHour_114 : decode cX9_goHour 114 = .ok (.dup2, 1) := by decide +kernel
theorem dX9_goHour_115 : decode cX9_goHour 115 = .ok (.iaload, 1) := by decide +kernel
theorem dX9_goHour_116 : decode cX9_goHour 116 = .ok (.iconst 1, 1) := by decide +kernel
theorem dX9_goHour_117 : decode cX9_goHour 117 = .ok (.iadd, 1) := by decide +kernel
theorem dX9_goHour_118 : decode cX9_goHour 118 = .ok (.iastore, 1) := by decide +kernel
theorem dX9_goHour_119 : decode cX9_goHour 119 = .ok (.return_, 1) := by decide +kernel
theorem dX9_keep_0 : decode cX9_keep 0 = .ok (.aload_n 0, 1) := by decide +kernel
theorem dX9_keep_1 : decode cX9_keep 1 = .ok (.getfield 171, 3) := by decide +kernel
theorem dX9_keep_4 : decode cX9_keep 4 = .ok (.bipush 24, 2) := by decide +kernel
theorem dX9_keep_6 : decode cX9_keep 6 = .ok (.if_icmp .ne 43, 3) := by decide +kernel
theorem dX9_keep_9 : decode cX9_keep 9 = .ok (.iconst 0, 1) := by decide +kernel
theorem dX9_keep_10 : decode cX9_keep 10 = .ok (.istore_n 1, 1) := by decide +kernel
theorem dX9_keep_11 : decode cX9_keep 11 = .ok (.iload_n 1, 1) := by decide +kernel
theorem dX9_keep_12 : decode cX9_keep 12 = .ok (.sipush 1725, 3) := by decide +kernel
theorem dX9_keep_15 : decode cX9_keep 15 = .ok (.if_icmp .ge 24, 3) := by decide +kernel
theorem dX9_keep_18 : decode cX9_keep 18 = .ok (.aload_n 0, 1) := by decide +kernel
theorem dX9_keep_19 : decode cX9_keep 19 = .ok (.getfield 28, 3) := by decide +kernel
theorem dX9_keep_22 : decode cX9_keep 22 = .ok (.iload_n 1, 1) := by decide +kernel
theorem dX9_keep_23 : decode cX9_keep 23 = .ok (.aload_n 0, 1) := by decide +kernel
theorem dX9_keep_24 : decode cX9_keep 24 = .ok (.getfield 28, 3) := by decide +kernel
theorem dX9_keep_27 : decode cX9_keep 27 = .ok (.iload_n 1, 1) := by decide +kernel
theorem dX9_keep_28 : decode cX9_keep 28 = .ok (.bipush 75, 2) := by decide +kernel
theorem dX9_keep_30 : decode cX9_keep 30 = .ok (.iadd, 1) := by decide +kernel
theorem dX9_keep_31 : decode cX9_keep 31 = .ok (.iaload, 1) := by decide +kernel
theorem dX9_keep_32 : decode cX9_keep 32 = .ok (.iastore, 1) := by decide +kernel
theorem dX9_keep_33 : decode cX9_keep 33 = .ok (.iinc 1 1, 3) := by decide +kernel
theorem dX9_keep_36 : decode cX9_keep 36 = .ok (.goto (-25), 3) := by decide +kernel
theorem dX9_keep_39 : decode cX9_keep 39 = .ok (.aload_n 0, 1) := by decide +kernel
theorem dX9_keep_40 : decode cX9_keep 40 = .ok (.dup, 1) := by decide +kernel
theorem dX9_keep_41 : decode cX9_keep 41 = .ok (.getfield 171, 3) := by decide +kernel
theorem dX9_keep_44 : decode cX9_keep 44 = .ok (.iconst 1, 1) := by decide +kernel
theorem dX9_keep_45 : decode cX9_keep 45 = .ok (.isub, 1) := by decide +kernel
theorem dX9_keep_46 : decode cX9_keep 46 = .ok (.putfield 171, 3) := by decide +kernel
theorem dX9_keep_49 : decode cX9_keep 49 = .ok (.iconst 0, 1) := by decide +kernel
theorem dX9_keep_50 : decode cX9_keep 50 = .ok (.istore_n 1, 1) := by decide +kernel
theorem dX9_keep_51 : decode cX9_keep 51 = .ok (.iload_n 1, 1) := by decide +kernel
theorem dX9_keep_52 : decode cX9_keep 52 = .ok (.bipush 75, 2) := by decide +kernel
theorem dX9_keep_54 : decode cX9_keep 54 = .ok (.if_icmp .ge 29, 3) := by decide +kernel
theorem dX9_keep_57 : decode cX9_keep 57 = .ok (.aload_n 0, 1) := by decide +kernel
theorem dX9_keep_58 : decode cX9_keep 58 = .ok (.getfield 28, 3) := by decide +kernel
theorem dX9_keep_61 : decode cX9_keep 61 = .ok (.bipush 75, 2) := by decide +kernel
theorem dX9_keep_63 : decode cX9_keep 63 = .ok (.aload_n 0, 1) := by decide +kernel
theorem dX9_keep_64 : decode cX9_keep 64 = .ok (.getfield 171, 3) := by decide +kernel
theorem dX9_keep_67 : decode cX9_keep 67 = .ok (.imul, 1) := by decide +kernel
theorem dX9_keep_68 : decode cX9_keep 68 = .ok (.iload_n 1, 1) := by decide +kernel
theorem dX9_keep_69 : decode cX9_keep 69 = .ok (.iadd, 1) := by decide +kernel
theorem dX9_keep_70 : decode cX9_keep 70 = .ok (.aload_n 0, 1) := by decide +kernel
theorem dX9_keep_71 : decode cX9_keep 71 = .ok (.getfield 19, 3) := by decide +kernel
theorem dX9_keep_74 : decode cX9_keep 74 = .ok (.iload_n 1, 1) := by decide +kernel
theorem dX9_keep_75 : decode cX9_keep 75 = .ok (.iaload, 1) := by decide +kernel
theorem dX9_keep_76 : decode cX9_keep 76 = .ok (.iastore, 1) := by decide +kernel
theorem dX9_keep_77 : decode cX9_keep 77 = .ok (.iinc 1 1, 3) := by decide +kernel
theorem dX9_keep_80 : decode cX9_keep 80 = .ok (.goto (-29), 3) := by decide +kernel
theorem dX9_keep_83 : decode cX9_keep 83 = .ok (.aload_n 0, 1) := by decide +kernel
theorem dX9_keep_84 : decode cX9_keep 84 = .ok (.dup, 1) := by decide +kernel
theorem dX9_keep_85 : decode cX9_keep 85 = .ok (.getfield 171, 3) := by decide +kernel
theorem dX9_keep_88 : decode cX9_keep 88 = .ok (.iconst 1, 1) := by decide +kernel
theorem dX9_keep_89 : decode cX9_keep 89 = .ok (.iadd, 1) := by decide +kernel
theorem dX9_keep_90 : decode cX9_keep 90 = .ok (.putfield 171, 3) := by decide +kernel
theorem dX9_keep_93 : decode cX9_keep 93 = .ok (.return_, 1) := by decide +kernel
set_option maxRecDepth 20000 in
theorem ggX9_hours_X9_isThere : GoodIn wsX9_hours wsX9_isThere := goodIn_r _ [12, 5, 46, 47, 48, 49, 50, 51, 52, 53, 54, 55, 56, 57, 58, 59, 60, 61, 62, 63, 64, 65, 66, 67, 68, 69, 70, 71, 72] (by decide +kernel) (by decide +kernel)
set_option maxRecDepth 20000 in
theorem gX9_hours_X9_isThere : GoodIn wsX9_hours (wsV RX9 192 RX9 yX9_isThere wsX9_isThere) := goodIn_app (goodIn_of _ (by decide +kernel)) ggX9_hours_X9_isThere
set_option maxRecDepth 20000 in
theorem ggX9_hours_X9_in : GoodIn wsX9_hours wsX9_in := goodIn_r _ [15] (by decide +kernel) (by decide +kernel)
set_option maxRecDepth 20000 in
theorem gX9_hours_X9_in : GoodIn wsX9_hours (va_wsS RX9 60 yX9_in wsX9_in) := goodIn_app (goodIn_of _ (by decide +kernel)) ggX9_hours_X9_in
set_option maxRecDepth 20000 in
theorem ggX9_hours_X9_keep : GoodIn wsX9_hours wsX9_keep := goodIn_r _ [19, 20, 21, 5, 46, 47, 48, 49, 50, 51, 52, 53, 54, 55, 56, 57, 58, 59, 60, 61, 62, 63, 64, 65, 66, 67, 68, 69, 70, 71, 72] (by decide +kernel) (by decide +kernel)
set_option maxRecDepth 20000 in
theorem gX9_hours_X9_keep : GoodIn wsX9_hours (wsV RX9 199 RX9 yX9_keep wsX9_keep) := goodIn_app (goodIn_of _ (by decide +kernel)) ggX9_hours_X9_keep
set_option maxRecDepth 20000 in
theorem ggX9_hours_X9_layNow : GoodIn wsX9_hours wsX9_layNow := goodIn_r _ [25, 7, 5, 46, 47, 48, 49, 50, 51, 52, 53, 54, 55, 56, 57, 58, 59, 60, 61, 62, 63, 64, 65, 66, 67, 68, 69, 70, 71, 72] (by decide +kernel) (by decide +kernel)
set_option maxRecDepth 20000 in
theorem gX9_hours_X9_layNow : GoodIn wsX9_hours (wsV RX9 202 RX9 yX9_layNow wsX9_layNow) := goodIn_app (goodIn_of _ (by decide +kernel)) ggX9_hours_X9_layNow
set_option maxRecDepth 20000 in
theorem ggX9_hours_X9_goHour : GoodIn wsX9_hours wsX9_goHour := goodIn_r _ [29, 7, 5, 30, 31, 32, 33, 11, 34, 35, 36, 37, 38, 39, 40, 41, 42, 43, 44, 45, 13, 14, 15, 46, 47, 48, 49, 50, 51, 52, 53, 54, 55, 56, 57, 58, 59, 60, 61, 62, 63, 64, 65, 66, 67, 68, 69, 70, 71, 72] (by decide +kernel) (by decide +kernel)
set_option maxRecDepth 20000 in
theorem gX9_hours_X9_goHour : GoodIn wsX9_hours (wsV RX9 205 RX9 yX9_goHour wsX9_goHour) := goodIn_app (goodIn_of _ (by decide +kernel)) ggX9_hours_X9_goHour
set_option maxRecDepth 20000 in
theorem ggX9_hours_X9_riseAt : GoodIn wsX9_hours wsX9_riseAt := goodIn_r _ [34, 5, 46, 47, 48, 49, 50, 51, 52, 53, 54, 55, 56, 57, 58, 59, 60, 61, 62, 63, 64, 65, 66, 67, 68, 69, 70, 71, 72] (by decide +kernel) (by decide +kernel)
set_option maxRecDepth 20000 in
theorem gX9_hours_X9_riseAt : GoodIn wsX9_hours (wsV RX9 177 RX9 yX9_riseAt wsX9_riseAt) := goodIn_app (goodIn_of _ (by decide +kernel)) ggX9_hours_X9_riseAt
theorem dX9_hours_0 : decode cX9_hours 0 = .ok (.aload_n 0, 1) := by decide +kernel
theorem dX9_hours_1 : decode cX9_hours 1 = .ok (.iconst 0, 1) := by decide +kernel
theorem dX9_hours_2 : decode cX9_hours 2 = .ok (.putfield 50, 3) := by decide +kernel
theorem dX9_hours_5 : decode cX9_hours 5 = .ok (.aload_n 0, 1) := by decide +kernel
theorem dX9_hours_6 : decode cX9_hours 6 = .ok (.invokevirtual 192, 3) := by decide +kernel
theorem dX9_hours_9 : decode cX9_hours 9 = .ok (.ifCond .ne 6, 3) := by decide +kernel
theorem dX9_hours_12 : decode cX9_hours 12 = .ok (.ldc 196, 2) := by decide +kernel
theorem dX9_hours_14 : decode cX9_hours 14 = .ok (.ireturn, 1) := by decide +kernel
theorem dX9_hours_15 : decode cX9_hours 15 = .ok (.iload_n 1, 1) := by decide +kernel
theorem dX9_hours_16 : decode cX9_hours 16 = .ok (.i2l, 1) := by decide +kernel
theorem dX9_hours_17 : decode cX9_hours 17 = .ok (.lconst 1, 1) := by decide +kernel
theorem dX9_hours_18 : decode cX9_hours 18 = .ok (.ldc2_w 197, 3) := by decide +kernel
theorem dX9_hours_21 : decode cX9_hours 21 = .ok (.invokestatic 60, 3) := by decide +kernel
theorem dX9_hours_24 : decode cX9_hours 24 = .ok (.ifCond .ne 6, 3) := by decide +kernel
theorem dX9_hours_27 : decode cX9_hours 27 = .ok (.ldc 70, 2) := by decide +kernel
theorem dX9_hours_29 : decode cX9_hours 29 = .ok (.ireturn, 1) := by decide +kernel
theorem dX9_hours_30 : decode cX9_hours 30 = .ok (.aload_n 0, 1) := by decide +kernel
theorem dX9_hours_31 : decode cX9_hours 31 = .ok (.getfield 19, 3) := by decide +kernel
theorem dX9_hours_34 : decode cX9_hours 34 = .ok (.iconst 2, 1) := by decide +kernel
theorem dX9_hours_35 : decode cX9_hours 35 = .ok (.iaload, 1) := by decide +kernel
theorem dX9_hours_36 : decode cX9_hours 36 = .ok (.iload_n 1, 1) := by decide +kernel
theorem dX9_hours_37 : decode cX9_hours 37 = .ok (.iadd, 1) := by decide +kernel
theorem dX9_hours_38 : decode cX9_hours 38 = .ok (.sipush 999, 3) := by decide +kernel
theorem dX9_hours_41 : decode cX9_hours 41 = .ok (.if_icmp .le 6, 3) := by decide +kernel
theorem dX9_hours_44 : decode cX9_hours 44 = .ok (.ldc 80, 2) := by decide +kernel
theorem dX9_hours_46 : decode cX9_hours 46 = .ok (.ireturn, 1) := by decide +kernel
theorem dX9_hours_47 : decode cX9_hours 47 = .ok (.iconst 0, 1) := by decide +kernel
theorem dX9_hours_48 : decode cX9_hours 48 = .ok (.istore_n 2, 1) := by decide +kernel
theorem dX9_hours_49 : decode cX9_hours 49 = .ok (.iload_n 2, 1) := by decide +kernel
theorem dX9_hours_50 : decode cX9_hours 50 = .ok (.iload_n 1, 1) := by decide +kernel
theorem dX9_hours_51 : decode cX9_hours 51 = .ok (.if_icmp .ge 47, 3) := by decide +kernel
theorem dX9_hours_54 : decode cX9_hours 54 = .ok (.aload_n 0, 1) := by decide +kernel
theorem dX9_hours_55 : decode cX9_hours 55 = .ok (.invokevirtual 199, 3) := by decide +kernel
theorem dX9_hours_58 : decode cX9_hours 58 = .ok (.aload_n 0, 1) := by decide +kernel
theorem dX9_hours_59 : decode cX9_hours 59 = .ok (.invokevirtual 202, 3) := by decide +kernel
theorem dX9_hours_62 : decode cX9_hours 62 = .ok (.aload_n 0, 1) := by decide +kernel
theorem dX9_hours_63 : decode cX9_hours 63 = .ok (.invokevirtual 205, 3) := by decide +kernel
theorem dX9_hours_66 : decode cX9_hours 66 = .ok (.iconst 0, 1) := by decide +kernel
theorem dX9_hours_67 : decode cX9_hours 67 = .ok (.istore_n 3, 1) := by decide +kernel
theorem dX9_hours_68 : decode cX9_hours 68 = .ok (.iload_n 3, 1) := by decide +kernel
theorem dX9_hours_69 : decode cX9_hours 69 = .ok (.bipush 75, 2) := by decide +kernel
theorem dX9_hours_71 : decode cX9_hours 71 = .ok (.if_icmp .ge 21, 3) := by decide +kernel
theorem dX9_hours_74 : decode cX9_hours 74 = .ok (.aload_n 0, 1) := by decide +kernel
theorem dX9_hours_75 : decode cX9_hours 75 = .ok (.getfield 19, 3) := by decide +kernel
theorem dX9_hours_78 : decode cX9_hours 78 = .ok (.iload_n 3, 1) := by decide +kernel
theorem dX9_hours_79 : decode cX9_hours 79 = .ok (.aload_n 0, 1) := by decide +kernel
theorem dX9_hours_80 : decode cX9_hours 80 = .ok (.getfield 25, 3) := by decide +kernel
theorem dX9_hours_83 : decode cX9_hours 83 = .ok (.iload_n 3, 1) := by decide +kernel
theorem dX9_hours_84 : decode cX9_hours 84 = .ok (.iaload, 1) := by decide +kernel
theorem dX9_hours_85 : decode cX9_hours 85 = .ok (.iastore, 1) := by decide +kernel
theorem dX9_hours_86 : decode cX9_hours 86 = .ok (.iinc 3 1, 3) := by decide +kernel
theorem dX9_hours_89 : decode cX9_hours 89 = .ok (.goto (-21), 3) := by decide +kernel
theorem dX9_hours_92 : decode cX9_hours 92 = .ok (.iinc 2 1, 3) := by decide +kernel
theorem dX9_hours_95 : decode cX9_hours 95 = .ok (.goto (-46), 3) := by decide +kernel
theorem dX9_hours_98 : decode cX9_hours 98 = .ok (.aload_n 0, 1) := by decide +kernel
theorem dX9_hours_99 : decode cX9_hours 99 = .ok (.aload_n 0, 1) := by decide +kernel
theorem dX9_hours_100 : decode cX9_hours 100 = .ok (.getfield 19, 3) := by decide +kernel
theorem dX9_hours_103 : decode cX9_hours 103 = .ok (.iconst 2, 1) := by decide +kernel
theorem dX9_hours_104 : decode cX9_hours 104 = .ok (.iaload, 1) := by decide +kernel
theorem dX9_hours_105 : decode cX9_hours 105 = .ok (.bipush 11, 2) := by decide +kernel
theorem dX9_hours_107 : decode cX9_hours 107 = .ok (.iadd, 1) := by decide +kernel
theorem dX9_hours_108 : decode cX9_hours 108 = .ok (.invokevirtual 177, 3) := by decide +kernel
theorem dX9_hours_111 : decode cX9_hours 111 = .ok (.ireturn, 1) := by decide +kernel
set_option maxRecDepth 20000 in
theorem ggX9_lend_X9_areTwo : GoodIn wsX9_lend wsX9_areTwo := goodIn_r _ [11, 12, 13, 14, 10, 15, 4, 16, 17, 18, 31, 32, 33, 34, 35, 36, 37, 38, 39, 40, 41, 42, 43, 44, 45, 46, 47, 48, 49, 50, 51, 52, 53, 54, 55, 56, 57] (by decide +kernel) (by decide +kernel)
set_option maxRecDepth 20000 in
theorem gX9_lend_X9_areTwo : GoodIn wsX9_lend (wsV RX9 208 RX9 yX9_areTwo wsX9_areTwo) := goodIn_app (goodIn_of _ (by decide +kernel)) ggX9_lend_X9_areTwo
set_option maxRecDepth 20000 in
theorem ggX9_lend_X9_in : GoodIn wsX9_lend wsX9_in := goodIn_r _ [18] (by decide +kernel) (by decide +kernel)
set_option maxRecDepth 20000 in
theorem gX9_lend_X9_in : GoodIn wsX9_lend (va_wsS RX9 60 yX9_in wsX9_in) := goodIn_app (goodIn_of _ (by decide +kernel)) ggX9_lend_X9_in
set_option maxRecDepth 20000 in
theorem ggX9_lend_X9_at : GoodIn wsX9_lend wsX9_at := goodIn_r _ [21] (by decide +kernel) (by decide +kernel)
set_option maxRecDepth 20000 in
theorem gX9_lend_X9_at : GoodIn wsX9_lend (va_wsS RX9 180 yX9_at wsX9_at) := goodIn_app (goodIn_of _ (by decide +kernel)) ggX9_lend_X9_at
set_option maxRecDepth 20000 in
theorem ggX9_lend_X9_debt : GoodIn wsX9_lend wsX9_debt := goodIn_r _ [24] (by decide +kernel) (by decide +kernel)
set_option maxRecDepth 20000 in
theorem gX9_lend_X9_debt : GoodIn wsX9_lend (va_wsS RX9 214 yX9_debt wsX9_debt) := goodIn_app (goodIn_of _ (by decide +kernel)) ggX9_lend_X9_debt
set_option maxRecDepth 20000 in
theorem ggX9_lend_X9_keep : GoodIn wsX9_lend wsX9_keep := goodIn_r _ [28, 29, 30, 4, 31, 32, 33, 34, 35, 36, 37, 38, 39, 40, 41, 42, 43, 44, 45, 46, 47, 48, 49, 50, 51, 52, 53, 54, 55, 56, 57] (by decide +kernel) (by decide +kernel)
set_option maxRecDepth 20000 in
theorem gX9_lend_X9_keep : GoodIn wsX9_lend (wsV RX9 199 RX9 yX9_keep wsX9_keep) := goodIn_app (goodIn_of _ (by decide +kernel)) ggX9_lend_X9_keep
theorem dX9_lend_0 : decode cX9_lend 0 = .ok (.aload_n 0, 1) := by decide +kernel
theorem dX9_lend_1 : decode cX9_lend 1 = .ok (.iconst 0, 1) := by decide +kernel
theorem dX9_lend_2 : decode cX9_lend 2 = .ok (.putfield 50, 3) := by decide +kernel
theorem dX9_lend_5 : decode cX9_lend 5 = .ok (.aload_n 0, 1) := by decide +kernel
theorem dX9_lend_6 : decode cX9_lend 6 = .ok (.iload_n 1, 1) := by decide +kernel
theorem dX9_lend_7 : decode cX9_lend 7 = .ok (.iload_n 2, 1) := by decide +kernel
theorem dX9_lend_8 : decode cX9_lend 8 = .ok (.invokevirtual 208, 3) := by decide +kernel
theorem dX9_lend_11 : decode cX9_lend 11 = .ok (.ifCond .eq 15, 3) := by decide +kernel
theorem dX9_lend_14 : decode cX9_lend 14 = .ok (.iload_n 3, 1) := by decide +kernel
theorem dX9_lend_15 : decode cX9_lend 15 = .ok (.i2l, 1) := by decide +kernel
theorem dX9_lend_16 : decode cX9_lend 16 = .ok (.lconst 1, 1) := by decide +kernel
theorem dX9_lend_17 : decode cX9_lend 17 = .ok (.ldc2_w 212, 3) := by decide +kernel
theorem dX9_lend_20 : decode cX9_lend 20 = .ok (.invokestatic 60, 3) := by decide +kernel
theorem dX9_lend_23 : decode cX9_lend 23 = .ok (.ifCond .ne 6, 3) := by decide +kernel
theorem dX9_lend_26 : decode cX9_lend 26 = .ok (.ldc 70, 2) := by decide +kernel
theorem dX9_lend_28 : decode cX9_lend 28 = .ok (.ireturn, 1) := by decide +kernel
theorem dX9_lend_29 : decode cX9_lend 29 = .ok (.aload_n 0, 1) := by decide +kernel
theorem dX9_lend_30 : decode cX9_lend 30 = .ok (.getfield 19, 3) := by decide +kernel
theorem dX9_lend_33 : decode cX9_lend 33 = .ok (.iload_n 1, 1) := by decide +kernel
theorem dX9_lend_34 : decode cX9_lend 34 = .ok (.iconst 1, 1) := by decide +kernel
theorem dX9_lend_35 : decode cX9_lend 35 = .ok (.invokestatic 180, 3) := by decide +kernel
theorem dX9_lend_38 : decode cX9_lend 38 = .ok (.iaload, 1) := by decide +kernel
theorem dX9_lend_39 : decode cX9_lend 39 = .ok (.iload_n 3, 1) := by decide +kernel
theorem dX9_lend_40 : decode cX9_lend 40 = .ok (.if_icmp .ge 6, 3) := by decide +kernel
theorem dX9_lend_43 : decode cX9_lend 43 = .ok (.ldc 196, 2) := by decide +kernel
theorem dX9_lend_45 : decode cX9_lend 45 = .ok (.ireturn, 1) := by decide +kernel
theorem dX9_lend_46 : decode cX9_lend 46 = .ok (.aload_n 0, 1) := by decide +kernel
theorem dX9_lend_47 : decode cX9_lend 47 = .ok (.getfield 19, 3) := by decide +kernel
theorem dX9_lend_50 : decode cX9_lend 50 = .ok (.iload_n 2, 1) := by decide +kernel
theorem dX9_lend_51 : decode cX9_lend 51 = .ok (.iload_n 1, 1) := by decide +kernel
theorem dX9_lend_52 : decode cX9_lend 52 = .ok (.invokestatic 214, 3) := by decide +kernel
theorem dX9_lend_55 : decode cX9_lend 55 = .ok (.iaload, 1) := by decide +kernel
theorem dX9_lend_56 : decode cX9_lend 56 = .ok (.iload_n 3, 1) := by decide +kernel
theorem dX9_lend_57 : decode cX9_lend 57 = .ok (.iadd, 1) := by decide +kernel
theorem dX9_lend_58 : decode cX9_lend 58 = .ok (.sipush 9999, 3) := by decide +kernel
theorem dX9_lend_61 : decode cX9_lend 61 = .ok (.if_icmp .le 6, 3) := by decide +kernel
theorem dX9_lend_64 : decode cX9_lend 64 = .ok (.ldc 80, 2) := by decide +kernel
theorem dX9_lend_66 : decode cX9_lend 66 = .ok (.ireturn, 1) := by decide +kernel
theorem dX9_lend_67 : decode cX9_lend 67 = .ok (.aload_n 0, 1) := by decide +kernel
theorem dX9_lend_68 : decode cX9_lend 68 = .ok (.invokevirtual 199, 3) := by decide +kernel
theorem dX9_lend_71 : decode cX9_lend 71 = .ok (.aload_n 0, 1) := by decide +kernel
theorem dX9_lend_72 : decode cX9_lend 72 = .ok (.getfield 19, 3) := by decide +kernel
theorem dX9_lend_75 : decode cX9_lend 75 = .ok (.iload_n 1, 1) := by decide +kernel
theorem dX9_lend_76 : decode cX9_lend 76 = .ok (.iconst 1, 1) := by decide +kernel
theorem dX9_lend_77 : decode cX9_lend 77 = .ok (.invokestatic 180, 3) := by decide +kernel
theorem dX9_lend_80 : decode cX9_lend 80 = .ok (.dup2, 1) := by decide +kernel
theorem dX9_lend_81 : decode cX9_lend 81 = .ok (.iaload, 1) := by decide +kernel
theorem dX9_lend_82 : decode cX9_lend 82 = .ok (.iload_n 3, 1) := by decide +kernel
theorem dX9_lend_83 : decode cX9_lend 83 = .ok (.isub, 1) := by decide +kernel
theorem dX9_lend_84 : decode cX9_lend 84 = .ok (.iastore, 1) := by decide +kernel
theorem dX9_lend_85 : decode cX9_lend 85 = .ok (.aload_n 0, 1) := by decide +kernel
theorem dX9_lend_86 : decode cX9_lend 86 = .ok (.getfield 19, 3) := by decide +kernel
theorem dX9_lend_89 : decode cX9_lend 89 = .ok (.iload_n 2, 1) := by decide +kernel
theorem dX9_lend_90 : decode cX9_lend 90 = .ok (.iconst 1, 1) := by decide +kernel
theorem dX9_lend_91 : decode cX9_lend 91 = .ok (.invokestatic 180, 3) := by decide +kernel
theorem dX9_lend_94 : decode cX9_lend 94 = .ok (.dup2, 1) := by decide +kernel
theorem dX9_lend_95 : decode cX9_lend 95 = .ok (.iaload, 1) := by decide +kernel
theorem dX9_lend_96 : decode cX9_lend 96 = .ok (.iload_n 3, 1) := by decide +kernel
theorem dX9_lend_97 : decode cX9_lend 97 = .ok (.iadd, 1) := by decide +kernel
theorem dX9_lend_98 : decode cX9_lend 98 = .ok (.iastore, 1) := by decide +kernel
theorem dX9_lend_99 : decode cX9_lend 99 = .ok (.aload_n 0, 1) := by decide +kernel
theorem dX9_lend_100 : decode cX9_lend 100 = .ok (.getfield 19, 3) := by decide +kernel
theorem dX9_lend_103 : decode cX9_lend 103 = .ok (.iload_n 2, 1) := by decide +kernel
theorem dX9_lend_104 : decode cX9_lend 104 = .ok (.iload_n 1, 1) := by decide +kernel
theorem dX9_lend_105 : decode cX9_lend 105 = .ok (.invokestatic 214, 3) := by decide +kernel
theorem dX9_lend_108 : decode cX9_lend 108 = .ok (.dup2, 1) := by decide +kernel
theorem dX9_lend_109 : decode cX9_lend 109 = .ok (.iaload, 1) := by decide +kernel
theorem dX9_lend_110 : decode cX9_lend 110 = .ok (.iload_n 3, 1) := by decide +kernel
theorem dX9_lend_111 : decode cX9_lend 111 = .ok (.iadd, 1) := by decide +kernel
theorem dX9_lend_112 : decode cX9_lend 112 = .ok (.iastore, 1) := by decide +kernel
theorem dX9_lend_113 : decode cX9_lend 113 = .ok (.aload_n 0, 1) := by decide +kernel
theorem dX9_lend_114 : decode cX9_lend 114 = .ok (.getfield 19, 3) := by decide +kernel
theorem dX9_lend_117 : decode cX9_lend 117 = .ok (.iload_n 2, 1) := by decide +kernel
theorem dX9_lend_118 : decode cX9_lend 118 = .ok (.iload_n 1, 1) := by decide +kernel
theorem dX9_lend_119 : decode cX9_lend 119 = .ok (.invokestatic 214, 3) := by decide +kernel
theorem dX9_lend_122 : decode cX9_lend 122 = .ok (.iaload, 1) := by decide +kernel
theorem dX9_lend_123 : decode cX9_lend 123 = .ok (.ireturn, 1) := by decide +kernel
set_option maxRecDepth 20000 in
theorem ggX9_pay_X9_areTwo : GoodIn wsX9_pay wsX9_areTwo := goodIn_r _ [10, 11, 12, 13, 9, 14, 4, 15, 16, 17, 30, 31, 32, 33, 34, 35, 36, 37, 38, 39, 40, 41, 42, 43, 44, 45, 46, 47, 48, 49, 50, 51, 52, 53, 54, 55, 56] (by decide +kernel) (by decide +kernel)
set_option maxRecDepth 20000 in
theorem gX9_pay_X9_areTwo : GoodIn wsX9_pay (wsV RX9 208 RX9 yX9_areTwo wsX9_areTwo) := goodIn_app (goodIn_of _ (by decide +kernel)) ggX9_pay_X9_areTwo
set_option maxRecDepth 20000 in
theorem ggX9_pay_X9_in : GoodIn wsX9_pay wsX9_in := goodIn_r _ [17] (by decide +kernel) (by decide +kernel)
set_option maxRecDepth 20000 in
theorem gX9_pay_X9_in : GoodIn wsX9_pay (va_wsS RX9 60 yX9_in wsX9_in) := goodIn_app (goodIn_of _ (by decide +kernel)) ggX9_pay_X9_in
set_option maxRecDepth 20000 in
theorem ggX9_pay_X9_debt : GoodIn wsX9_pay wsX9_debt := goodIn_r _ [20] (by decide +kernel) (by decide +kernel)
set_option maxRecDepth 20000 in
theorem gX9_pay_X9_debt : GoodIn wsX9_pay (va_wsS RX9 214 yX9_debt wsX9_debt) := goodIn_app (goodIn_of _ (by decide +kernel)) ggX9_pay_X9_debt
set_option maxRecDepth 20000 in
theorem ggX9_pay_X9_at : GoodIn wsX9_pay wsX9_at := goodIn_r _ [23] (by decide +kernel) (by decide +kernel)
set_option maxRecDepth 20000 in
theorem gX9_pay_X9_at : GoodIn wsX9_pay (va_wsS RX9 180 yX9_at wsX9_at) := goodIn_app (goodIn_of _ (by decide +kernel)) ggX9_pay_X9_at
set_option maxRecDepth 20000 in
theorem ggX9_pay_X9_keep : GoodIn wsX9_pay wsX9_keep := goodIn_r _ [27, 28, 29, 4, 30, 31, 32, 33, 34, 35, 36, 37, 38, 39, 40, 41, 42, 43, 44, 45, 46, 47, 48, 49, 50, 51, 52, 53, 54, 55, 56] (by decide +kernel) (by decide +kernel)
set_option maxRecDepth 20000 in
theorem gX9_pay_X9_keep : GoodIn wsX9_pay (wsV RX9 199 RX9 yX9_keep wsX9_keep) := goodIn_app (goodIn_of _ (by decide +kernel)) ggX9_pay_X9_keep
theorem dX9_pay_0 : decode cX9_pay 0 = .ok (.aload_n 0, 1) := by decide +kernel
theorem dX9_pay_1 : decode cX9_pay 1 = .ok (.iconst 0, 1) := by decide +kernel
theorem dX9_pay_2 : decode cX9_pay 2 = .ok (.putfield 50, 3) := by decide +kernel
theorem dX9_pay_5 : decode cX9_pay 5 = .ok (.aload_n 0, 1) := by decide +kernel
theorem dX9_pay_6 : decode cX9_pay 6 = .ok (.iload_n 1, 1) := by decide +kernel
theorem dX9_pay_7 : decode cX9_pay 7 = .ok (.iload_n 2, 1) := by decide +kernel
theorem dX9_pay_8 : decode cX9_pay 8 = .ok (.invokevirtual 208, 3) := by decide +kernel
theorem dX9_pay_11 : decode cX9_pay 11 = .ok (.ifCond .eq 15, 3) := by decide +kernel
theorem dX9_pay_14 : decode cX9_pay 14 = .ok (.iload_n 3, 1) := by decide +kernel
theorem dX9_pay_15 : decode cX9_pay 15 = .ok (.i2l, 1) := by decide +kernel
theorem dX9_pay_16 : decode cX9_pay 16 = .ok (.lconst 1, 1) := by decide +kernel
theorem dX9_pay_17 : decode cX9_pay 17 = .ok (.ldc2_w 217, 3) := by decide +kernel
theorem dX9_pay_20 : decode cX9_pay 20 = .ok (.invokestatic 60, 3) := by decide +kernel
theorem dX9_pay_23 : decode cX9_pay 23 = .ok (.ifCond .ne 6, 3) := by decide +kernel
theorem dX9_pay_26 : decode cX9_pay 26 = .ok (.ldc 70, 2) := by decide +kernel
theorem dX9_pay_28 : decode cX9_pay 28 = .ok (.ireturn, 1) := by decide +kernel
theorem dX9_pay_29 : decode cX9_pay 29 = .ok (.aload_n 0, 1) := by decide +kernel
theorem dX9_pay_30 : decode cX9_pay 30 = .ok (.getfield 19, 3) := by decide +kernel
theorem dX9_pay_33 : decode cX9_pay 33 = .ok (.iload_n 1, 1) := by decide +kernel
theorem dX9_pay_34 : decode cX9_pay 34 = .ok (.iload_n 2, 1) := by decide +kernel
theorem dX9_pay_35 : decode cX9_pay 35 = .ok (.invokestatic 214, 3) := by decide +kernel
theorem dX9_pay_38 : decode cX9_pay 38 = .ok (.iaload, 1) := by decide +kernel
theorem dX9_pay_39 : decode cX9_pay 39 = .ok (.iload_n 3, 1) := by decide +kernel
theorem dX9_pay_40 : decode cX9_pay 40 = .ok (.if_icmp .lt 17, 3) := by decide +kernel
theorem dX9_pay_43 : decode cX9_pay 43 = .ok (.aload_n 0, 1) := by decide +kernel
theorem dX9_pay_44 : decode cX9_pay 44 = .ok (.getfield 19, 3) := by decide +kernel
theorem dX9_pay_47 : decode cX9_pay 47 = .ok (.iload_n 1, 1) := by decide +kernel
theorem dX9_pay_48 : decode cX9_pay 48 = .ok (.iconst 1, 1) := by decide +kernel
theorem dX9_pay_49 : decode cX9_pay 49 = .ok (.invokestatic 180, 3) := by decide +kernel
theorem dX9_pay_52 : decode cX9_pay 52 = .ok (.iaload, 1) := by decide +kernel
theorem dX9_pay_53 : decode cX9_pay 53 = .ok (.iload_n 3, 1) := by decide +kernel
theorem dX9_pay_54 : decode cX9_pay 54 = .ok (.if_icmp .ge 6, 3) := by decide +kernel
theorem dX9_pay_57 : decode cX9_pay 57 = .ok (.ldc 196, 2) := by decide +kernel
theorem dX9_pay_59 : decode cX9_pay 59 = .ok (.ireturn, 1) := by decide +kernel
theorem dX9_pay_60 : decode cX9_pay 60 = .ok (.aload_n 0, 1) := by decide +kernel
theorem dX9_pay_61 : decode cX9_pay 61 = .ok (.invokevirtual 199, 3) := by decide +kernel
theorem dX9_pay_64 : decode cX9_pay 64 = .ok (.aload_n 0, 1) := by decide +kernel
theorem dX9_pay_65 : decode cX9_pay 65 = .ok (.getfield 19, 3) := by decide +kernel
theorem dX9_pay_68 : decode cX9_pay 68 = .ok (.iload_n 1, 1) := by decide +kernel
theorem dX9_pay_69 : decode cX9_pay 69 = .ok (.iconst 1, 1) := by decide +kernel
theorem dX9_pay_70 : decode cX9_pay 70 = .ok (.invokestatic 180, 3) := by decide +kernel
theorem dX9_pay_73 : decode cX9_pay 73 = .ok (.dup2, 1) := by decide +kernel
theorem dX9_pay_74 : decode cX9_pay 74 = .ok (.iaload, 1) := by decide +kernel
theorem dX9_pay_75 : decode cX9_pay 75 = .ok (.iload_n 3, 1) := by decide +kernel
theorem dX9_pay_76 : decode cX9_pay 76 = .ok (.isub, 1) := by decide +kernel
theorem dX9_pay_77 : decode cX9_pay 77 = .ok (.iastore, 1) := by decide +kernel
theorem dX9_pay_78 : decode cX9_pay 78 = .ok (.aload_n 0, 1) := by decide +kernel
theorem dX9_pay_79 : decode cX9_pay 79 = .ok (.getfield 19, 3) := by decide +kernel
theorem dX9_pay_82 : decode cX9_pay 82 = .ok (.iload_n 2, 1) := by decide +kernel
theorem dX9_pay_83 : decode cX9_pay 83 = .ok (.iconst 1, 1) := by decide +kernel
theorem dX9_pay_84 : decode cX9_pay 84 = .ok (.invokestatic 180, 3) := by decide +kernel
theorem dX9_pay_87 : decode cX9_pay 87 = .ok (.dup2, 1) := by decide +kernel
theorem dX9_pay_88 : decode cX9_pay 88 = .ok (.iaload, 1) := by decide +kernel
theorem dX9_pay_89 : decode cX9_pay 89 = .ok (.iload_n 3, 1) := by decide +kernel
theorem dX9_pay_90 : decode cX9_pay 90 = .ok (.iadd, 1) := by decide +kernel
theorem dX9_pay_91 : decode cX9_pay 91 = .ok (.iastore, 1) := by decide +kernel
theorem dX9_pay_92 : decode cX9_pay 92 = .ok (.aload_n 0, 1) := by decide +kernel
theorem dX9_pay_93 : decode cX9_pay 93 = .ok (.getfield 19, 3) := by decide +kernel
theorem dX9_pay_96 : decode cX9_pay 96 = .ok (.iload_n 1, 1) := by decide +kernel
theorem dX9_pay_97 : decode cX9_pay 97 = .ok (.iload_n 2, 1) := by decide +kernel
theorem dX9_pay_98 : decode cX9_pay 98 = .ok (.invokestatic 214, 3) := by decide +kernel
theorem dX9_pay_101 : decode cX9_pay 101 = .ok (.dup2, 1) := by decide +kernel
theorem dX9_pay_102 : decode cX9_pay 102 = .ok (.iaload, 1) := by decide +kernel
theorem dX9_pay_103 : decode cX9_pay 103 = .ok (.iload_n 3, 1) := by decide +kernel
theorem dX9_pay_104 : decode cX9_pay 104 = .ok (.isub, 1) := by decide +kernel
theorem dX9_pay_105 : decode cX9_pay 105 = .ok (.iastore, 1) := by decide +kernel
theorem dX9_pay_106 : decode cX9_pay 106 = .ok (.aload_n 0, 1) := by decide +kernel
theorem dX9_pay_107 : decode cX9_pay 107 = .ok (.getfield 19, 3) := by decide +kernel
theorem dX9_pay_110 : decode cX9_pay 110 = .ok (.iload_n 1, 1) := by decide +kernel
theorem dX9_pay_111 : decode cX9_pay 111 = .ok (.iload_n 2, 1) := by decide +kernel
theorem dX9_pay_112 : decode cX9_pay 112 = .ok (.invokestatic 214, 3) := by decide +kernel
theorem dX9_pay_115 : decode cX9_pay 115 = .ok (.iaload, 1) := by decide +kernel
theorem dX9_pay_116 : decode cX9_pay 116 = .ok (.ireturn, 1) := by decide +kernel
set_option maxRecDepth 20000 in
theorem ggX9_storm_X9_isThere : GoodIn wsX9_storm wsX9_isThere := goodIn_r _ [13, 5, 26, 27, 28, 29, 30, 31, 32, 33, 34, 35, 36, 37, 38, 39, 40, 41, 42, 43, 44, 45, 46, 47, 48, 49, 50, 51, 52] (by decide +kernel) (by decide +kernel)
set_option maxRecDepth 20000 in
theorem gX9_storm_X9_isThere : GoodIn wsX9_storm (wsV RX9 192 RX9 yX9_isThere wsX9_isThere) := goodIn_app (goodIn_of _ (by decide +kernel)) ggX9_storm_X9_isThere
set_option maxRecDepth 20000 in
theorem ggX9_storm_X9_in : GoodIn wsX9_storm wsX9_in := goodIn_r _ [16] (by decide +kernel) (by decide +kernel)
set_option maxRecDepth 20000 in
theorem gX9_storm_X9_in : GoodIn wsX9_storm (va_wsS RX9 60 yX9_in wsX9_in) := goodIn_app (goodIn_of _ (by decide +kernel)) ggX9_storm_X9_in
set_option maxRecDepth 20000 in
theorem ggX9_storm_X9_keep : GoodIn wsX9_storm wsX9_keep := goodIn_r _ [20, 21, 22, 5, 26, 27, 28, 29, 30, 31, 32, 33, 34, 35, 36, 37, 38, 39, 40, 41, 42, 43, 44, 45, 46, 47, 48, 49, 50, 51, 52] (by decide +kernel) (by decide +kernel)
set_option maxRecDepth 20000 in
theorem gX9_storm_X9_keep : GoodIn wsX9_storm (wsV RX9 199 RX9 yX9_keep wsX9_keep) := goodIn_app (goodIn_of _ (by decide +kernel)) ggX9_storm_X9_keep
set_option maxRecDepth 20000 in
theorem ggX9_storm_X9_at : GoodIn wsX9_storm wsX9_at := goodIn_r _ [25] (by decide +kernel) (by decide +kernel)
set_option maxRecDepth 20000 in
theorem gX9_storm_X9_at : GoodIn wsX9_storm (va_wsS RX9 180 yX9_at wsX9_at) := goodIn_app (goodIn_of _ (by decide +kernel)) ggX9_storm_X9_at
theorem dX9_storm_0 : decode cX9_storm 0 = .ok (.aload_n 0, 1) := by decide +kernel
theorem dX9_storm_1 : decode cX9_storm 1 = .ok (.iconst 0, 1) := by decide +kernel
theorem dX9_storm_2 : decode cX9_storm 2 = .ok (.putfield 50, 3) := by decide +kernel
theorem dX9_storm_5 : decode cX9_storm 5 = .ok (.aload_n 0, 1) := by decide +kernel
theorem dX9_storm_6 : decode cX9_storm 6 = .ok (.invokevirtual 192, 3) := by decide +kernel
theorem dX9_storm_9 : decode cX9_storm 9 = .ok (.ifCond .ne 6, 3) := by decide +kernel
theorem dX9_storm_12 : decode cX9_storm 12 = .ok (.ldc 196, 2) := by decide +kernel
theorem dX9_storm_14 : decode cX9_storm 14 = .ok (.ireturn, 1) := by decide +kernel
theorem dX9_storm_15 : decode cX9_storm 15 = .ok (.iload_n 1, 1) := by decide +kernel
theorem dX9_storm_16 : decode cX9_storm 16 = .ok (.i2l, 1) := by decide +kernel
theorem dX9_storm_17 : decode cX9_storm 17 = .ok (.lconst 1, 1) := by decide +kernel
theorem dX9_storm_18 : decode cX9_storm 18 = .ok (.ldc2_w 219, 3) := by decide +kernel
theorem dX9_storm_21 : decode cX9_storm 21 = .ok (.invokestatic 60, 3) := by decide +kernel
theorem dX9_storm_24 : decode cX9_storm 24 = .ok (.ifCond .ne 6, 3) := by decide +kernel
theorem dX9_storm_27 : decode cX9_storm 27 = .ok (.ldc 70, 2) := by decide +kernel
theorem dX9_storm_29 : decode cX9_storm 29 = .ok (.ireturn, 1) := by decide +kernel
theorem dX9_storm_30 : decode cX9_storm 30 = .ok (.aload_n 0, 1) := by decide +kernel
theorem dX9_storm_31 : decode cX9_storm 31 = .ok (.invokevirtual 199, 3) := by decide +kernel
theorem dX9_storm_34 : decode cX9_storm 34 = .ok (.iload_n 1, 1) := by decide +kernel
theorem dX9_storm_35 : decode cX9_storm 35 = .ok (.i2l, 1) := by decide +kernel
theorem dX9_storm_36 : decode cX9_storm 36 = .ok (.lstore_n 2, 1) := by decide +kernel
theorem dX9_storm_37 : decode cX9_storm 37 = .ok (.iconst 0, 1) := by decide +kernel
theorem dX9_storm_38 : decode cX9_storm 38 = .ok (.istore 4, 2) := by decide +kernel
theorem dX9_storm_40 : decode cX9_storm 40 = .ok (.iconst 0, 1) := by decide +kernel
theorem dX9_storm_41 : decode cX9_storm 41 = .ok (.istore 5, 2) := by decide +kernel
theorem dX9_storm_43 : decode cX9_storm 43 = .ok (.iload 5, 2) := by decide +kernel
theorem dX9_storm_45 : decode cX9_storm 45 = .ok (.aload_n 0, 1) := by decide +kernel
theorem dX9_storm_46 : decode cX9_storm 46 = .ok (.getfield 19, 3) := by decide +kernel
theorem dX9_storm_49 : decode cX9_storm 49 = .ok (.iconst 1, 1) := by decide +kernel
theorem dX9_storm_50 : decode cX9_storm 50 = .ok (.iaload, 1) := by decide +kernel
theorem dX9_storm_51 : decode cX9_storm 51 = .ok (.if_icmp .ge 66, 3) := by decide +kernel
theorem dX9_storm_54 : decode cX9_storm 54 = .ok (.lload_n 2, 1) := by decide +kernel
theorem dX9_storm_55 : decode cX9_storm 55 = .ok (.ldc2_w 221, 3) := by decide +kernel
theorem dX9_storm_58 : decode cX9_storm 58 = .ok (.lmul, 1) := by decide +kernel
theorem dX9_storm_59 : decode cX9_storm 59 = .ok (.ldc2_w 223, 3) := by decide +kernel
theorem dX9_storm_62 : decode cX9_storm 62 = .ok (.lrem, 1) := by decide +kernel
theorem dX9_storm_63 : decode cX9_storm 63 = .ok (.lstore_n 2, 1) := by decide +kernel
theorem dX9_storm_64 : decode cX9_storm 64 = .ok (.lload_n 2, 1) := by decide +kernel
theorem dX9_storm_65 : decode cX9_storm 65 = .ok (.ldc2_w 225, 3) := by decide +kernel
theorem dX9_storm_68 : decode cX9_storm 68 = .ok (.lrem, 1) := by decide +kernel
theorem dX9_storm_69 : decode cX9_storm 69 = .ok (.l2i, 1) := by decide +kernel
theorem dX9_storm_70 : decode cX9_storm 70 = .ok (.istore 6, 2) := by decide +kernel
theorem dX9_storm_72 : decode cX9_storm 72 = .ok (.aload_n 0, 1) := by decide +kernel
theorem dX9_storm_73 : decode cX9_storm 73 = .ok (.getfield 19, 3) := by decide +kernel
theorem dX9_storm_76 : decode cX9_storm 76 = .ok (.iload 5, 2) := by decide +kernel
theorem dX9_storm_78 : decode cX9_storm 78 = .ok (.iconst 1, 1) := by decide +kernel
theorem dX9_storm_79 : decode cX9_storm 79 = .ok (.invokestatic 180, 3) := by decide +kernel
theorem dX9_storm_82 : decode cX9_storm 82 = .ok (.dup2, 1) := by decide +kernel
theorem dX9_storm_83 : decode cX9_storm 83 = .ok (.iaload, 1) := by decide +kernel
theorem dX9_storm_84 : decode cX9_storm 84 = .ok (.iload 6, 2) := by decide +kernel
theorem dX9_storm_86 : decode cX9_storm 86 = .ok (.iadd, 1) := by decide +kernel
theorem dX9_storm_87 : decode cX9_storm 87 = .ok (.iastore, 1) := by decide +kernel
theorem dX9_storm_88 : decode cX9_storm 88 = .ok (.aload_n 0, 1) := by decide +kernel
theorem dX9_storm_89 : decode cX9_storm 89 = .ok (.getfield 19, 3) := by decide +kernel
theorem dX9_storm_92 : decode cX9_storm 92 = .ok (.iload 5, 2) := by decide +kernel
theorem dX9_storm_94 : decode cX9_storm 94 = .ok (.iconst 2, 1) := by decide +kernel
theorem dX9_storm_95 : decode cX9_storm 95 = .ok (.invokestatic 180, 3) := by decide +kernel
theorem dX9_storm_98 : decode cX9_storm 98 = .ok (.dup2, 1) := by decide +kernel
theorem dX9_storm_99 : decode cX9_storm 99 = .ok (.iaload, 1) := by decide +kernel
theorem dX9_storm_100 : decode cX9_storm 100 = .ok (.iload 6, 2) := by decide +kernel
theorem dX9_storm_102 : decode cX9_storm 102 = .ok (.iadd, 1) := by decide +kernel
theorem dX9_storm_103 : decode cX9_storm 103 = .ok (.iastore, 1) := by decide +kernel
theorem dX9_storm_104 : decode cX9_storm 104 = .ok (.iload 4, 2) := by decide +kernel
theorem dX9_storm_106 : decode cX9_storm 106 = .ok (.iload 6, 2) := by decide +kernel
theorem dX9_storm_108 : decode cX9_storm 108 = .ok (.iadd, 1) := by decide +kernel
theorem dX9_storm_109 : decode cX9_storm 109 = .ok (.istore 4, 2) := by decide +kernel
theorem dX9_storm_111 : decode cX9_storm 111 = .ok (.iinc 5 1, 3) := by decide +kernel
theorem dX9_storm_114 : decode cX9_storm 114 = .ok (.goto (-71), 3) := by decide +kernel
theorem dX9_storm_117 : decode cX9_storm 117 = .ok (.iload 4, 2) := by decide +kernel
theorem dX9_storm_119 : decode cX9_storm 119 = .ok (.ireturn, 1) := by decide +kernel
set_option maxRecDepth 20000 in
theorem ggX9_balanceOf_X9_debt : GoodIn wsX9_balanceOf wsX9_debt := goodIn_r _ [5] (by decide +kernel) (by decide +kernel)
set_option maxRecDepth 20000 in
theorem gX9_balanceOf_X9_debt : GoodIn wsX9_balanceOf (va_wsS RX9 214 yX9_debt wsX9_debt) := goodIn_app (goodIn_of _ (by decide +kernel)) ggX9_balanceOf_X9_debt
theorem dX9_balanceOf_0 : decode cX9_balanceOf 0 = .ok (.iconst 0, 1) := by decide +kernel
theorem dX9_balanceOf_1 : decode cX9_balanceOf 1 = .ok (.istore_n 2, 1) := by decide +kernel
theorem dX9_balanceOf_2 : decode cX9_balanceOf 2 = .ok (.iconst 0, 1) := by decide +kernel
theorem dX9_balanceOf_3 : decode cX9_balanceOf 3 = .ok (.istore_n 3, 1) := by decide +kernel
theorem dX9_balanceOf_4 : decode cX9_balanceOf 4 = .ok (.iload_n 3, 1) := by decide +kernel
theorem dX9_balanceOf_5 : decode cX9_balanceOf 5 = .ok (.aload_n 0, 1) := by decide +kernel
theorem dX9_balanceOf_6 : decode cX9_balanceOf 6 = .ok (.getfield 19, 3) := by decide +kernel
theorem dX9_balanceOf_9 : decode cX9_balanceOf 9 = .ok (.iconst 1, 1) := by decide +kernel
theorem dX9_balanceOf_10 : decode cX9_balanceOf 10 = .ok (.iaload, 1) := by decide +kernel
theorem dX9_balanceOf_11 : decode cX9_balanceOf 11 = .ok (.if_icmp .ge 33, 3) := by decide +kernel
theorem dX9_balanceOf_14 : decode cX9_balanceOf 14 = .ok (.iload_n 2, 1) := by decide +kernel
theorem dX9_balanceOf_15 : decode cX9_balanceOf 15 = .ok (.aload_n 0, 1) := by decide +kernel
theorem dX9_balanceOf_16 : decode cX9_balanceOf 16 = .ok (.getfield 19, 3) := by decide +kernel
theorem dX9_balanceOf_19 : decode cX9_balanceOf 19 = .ok (.iload_n 1, 1) := by decide +kernel
theorem dX9_balanceOf_20 : decode cX9_balanceOf 20 = .ok (.iload_n 3, 1) := by decide +kernel
theorem dX9_balanceOf_21 : decode cX9_balanceOf 21 = .ok (.invokestatic 214, 3) := by decide +kernel
theorem dX9_balanceOf_24 : decode cX9_balanceOf 24 = .ok (.iaload, 1) := by decide +kernel
theorem dX9_balanceOf_25 : decode cX9_balanceOf 25 = .ok (.aload_n 0, 1) := by decide +kernel
theorem dX9_balanceOf_26 : decode cX9_balanceOf 26 = .ok (.getfield 19, 3) := by decide +kernel
theorem dX9_balanceOf_29 : decode cX9_balanceOf 29 = .ok (.iload_n 3, 1) := by decide +kernel
theorem dX9_balanceOf_30 : decode cX9_balanceOf 30 = .ok (.iload_n 1, 1) := by decide +kernel
theorem dX9_balanceOf_31 : decode cX9_balanceOf 31 = .ok (.invokestatic 214, 3) := by decide +kernel
theorem dX9_balanceOf_34 : decode cX9_balanceOf 34 = .ok (.iaload, 1) := by decide +kernel
theorem dX9_balanceOf_35 : decode cX9_balanceOf 35 = .ok (.isub, 1) := by decide +kernel
theorem dX9_balanceOf_36 : decode cX9_balanceOf 36 = .ok (.iadd, 1) := by decide +kernel
theorem dX9_balanceOf_37 : decode cX9_balanceOf 37 = .ok (.istore_n 2, 1) := by decide +kernel
theorem dX9_balanceOf_38 : decode cX9_balanceOf 38 = .ok (.iinc 3 1, 3) := by decide +kernel
theorem dX9_balanceOf_41 : decode cX9_balanceOf 41 = .ok (.goto (-37), 3) := by decide +kernel
theorem dX9_balanceOf_44 : decode cX9_balanceOf 44 = .ok (.iload_n 2, 1) := by decide +kernel
theorem dX9_balanceOf_45 : decode cX9_balanceOf 45 = .ok (.ireturn, 1) := by decide +kernel
set_option maxRecDepth 20000 in
theorem ggX9_canNet_X9_at : GoodIn wsX9_canNet wsX9_at := goodIn_r _ [5] (by decide +kernel) (by decide +kernel)
set_option maxRecDepth 20000 in
theorem gX9_canNet_X9_at : GoodIn wsX9_canNet (va_wsS RX9 180 yX9_at wsX9_at) := goodIn_app (goodIn_of _ (by decide +kernel)) ggX9_canNet_X9_at
set_option maxRecDepth 20000 in
theorem ggX9_canNet_X9_balanceOf : GoodIn wsX9_canNet wsX9_balanceOf := goodIn_r _ [9, 1, 10, 11, 4, 12, 13, 14, 15, 16, 17, 18, 19, 20, 21, 22, 23, 24, 25, 26, 27, 28, 29, 30, 31, 32, 33, 34, 35, 36, 37, 38, 39] (by decide +kernel) (by decide +kernel)
set_option maxRecDepth 20000 in
theorem gX9_canNet_X9_balanceOf : GoodIn wsX9_canNet (wsV RX9 227 RX9 yX9_balanceOf wsX9_balanceOf) := goodIn_app (goodIn_of _ (by decide +kernel)) ggX9_canNet_X9_balanceOf
theorem dX9_canNet_0 : decode cX9_canNet 0 = .ok (.iconst 1, 1) := by decide +kernel
theorem dX9_canNet_1 : decode cX9_canNet 1 = .ok (.istore_n 1, 1) := by decide +kernel
theorem dX9_canNet_2 : decode cX9_canNet 2 = .ok (.iconst 0, 1) := by decide +kernel
theorem dX9_canNet_3 : decode cX9_canNet 3 = .ok (.istore_n 2, 1) := by decide +kernel
theorem dX9_canNet_4 : decode cX9_canNet 4 = .ok (.iload_n 2, 1) := by decide +kernel
theorem dX9_canNet_5 : decode cX9_canNet 5 = .ok (.aload_n 0, 1) := by decide +kernel
theorem dX9_canNet_6 : decode cX9_canNet 6 = .ok (.getfield 19, 3) := by decide +kernel
theorem dX9_canNet_9 : decode cX9_canNet 9 = .ok (.iconst 1, 1) := by decide +kernel
theorem dX9_canNet_10 : decode cX9_canNet 10 = .ok (.iaload, 1) := by decide +kernel
theorem dX9_canNet_11 : decode cX9_canNet 11 = .ok (.if_icmp .ge 37, 3) := by decide +kernel
theorem dX9_canNet_14 : decode cX9_canNet 14 = .ok (.iload_n 1, 1) := by decide +kernel
theorem dX9_canNet_15 : decode cX9_canNet 15 = .ok (.ifCond .eq 25, 3) := by decide +kernel
theorem dX9_canNet_18 : decode cX9_canNet 18 = .ok (.aload_n 0, 1) := by decide +kernel
theorem dX9_canNet_19 : decode cX9_canNet 19 = .ok (.getfield 19, 3) := by decide +kernel
theorem dX9_canNet_22 : decode cX9_canNet 22 = .ok (.iload_n 2, 1) := by decide +kernel
theorem dX9_canNet_23 : decode cX9_canNet 23 = .ok (.iconst 1, 1) := by decide +kernel
theorem dX9_canNet_24 : decode cX9_canNet 24 = .ok (.invokestatic 180, 3) := by decide +kernel
theorem dX9_canNet_27 : decode cX9_canNet 27 = .ok (.iaload, 1) := by decide +kernel
theorem dX9_canNet_28 : decode cX9_canNet 28 = .ok (.aload_n 0, 1) := by decide +kernel
theorem dX9_canNet_29 : decode cX9_canNet 29 = .ok (.iload_n 2, 1) := by decide +kernel
theorem dX9_canNet_30 : decode cX9_canNet 30 = .ok (.invokevirtual 227, 3) := by decide +kernel
theorem dX9_canNet_33 : decode cX9_canNet 33 = .ok (.if_icmp .lt 7, 3) := by decide +kernel
theorem dX9_canNet_36 : decode cX9_canNet 36 = .ok (.iconst 1, 1) := by decide +kernel
theorem dX9_canNet_37 : decode cX9_canNet 37 = .ok (.goto 4, 3) := by decide +kernel
theorem dX9_canNet_40 : decode cX9_canNet 40 = .ok (.iconst 0, 1) := by decide +kernel
theorem dX9_canNet_41 : decode cX9_canNet 41 = .ok (.istore_n 1, 1) := by decide +kernel
theorem dX9_canNet_42 : decode cX9_canNet 42 = .ok (.iinc 2 1, 3) := by decide +kernel
theorem dX9_canNet_45 : decode cX9_canNet 45 = .ok (.goto (-41), 3) := by decide +kernel
theorem dX9_canNet_48 : decode cX9_canNet 48 = .ok (.iload_n 1, 1) := by decide +kernel
theorem dX9_canNet_49 : decode cX9_canNet 49 = .ok (.ireturn, 1) := by decide +kernel
theorem dX9_firstWith_0 : decode cX9_firstWith 0 = .ok (.iconst 0, 1) := by decide +kernel
theorem dX9_firstWith_1 : decode cX9_firstWith 1 = .ok (.istore_n 2, 1) := by decide +kernel
theorem dX9_firstWith_2 : decode cX9_firstWith 2 = .ok (.iload_n 2, 1) := by decide +kernel
theorem dX9_firstWith_3 : decode cX9_firstWith 3 = .ok (.aload_n 0, 1) := by decide +kernel
theorem dX9_firstWith_4 : decode cX9_firstWith 4 = .ok (.getfield 19, 3) := by decide +kernel
theorem dX9_firstWith_7 : decode cX9_firstWith 7 = .ok (.iconst 1, 1) := by decide +kernel
theorem dX9_firstWith_8 : decode cX9_firstWith 8 = .ok (.iaload, 1) := by decide +kernel
theorem dX9_firstWith_9 : decode cX9_firstWith 9 = .ok (.if_icmp .ge 22, 3) := by decide +kernel
theorem dX9_firstWith_12 : decode cX9_firstWith 12 = .ok (.iload_n 1, 1) := by decide +kernel
theorem dX9_firstWith_13 : decode cX9_firstWith 13 = .ok (.aload_n 0, 1) := by decide +kernel
theorem dX9_firstWith_14 : decode cX9_firstWith 14 = .ok (.getfield 34, 3) := by decide +kernel
theorem dX9_firstWith_17 : decode cX9_firstWith 17 = .ok (.iload_n 2, 1) := by decide +kernel
theorem dX9_firstWith_18 : decode cX9_firstWith 18 = .ok (.iaload, 1) := by decide +kernel
theorem dX9_firstWith_19 : decode cX9_firstWith 19 = .ok (.imul, 1) := by decide +kernel
theorem dX9_firstWith_20 : decode cX9_firstWith 20 = .ok (.ifCond .le 5, 3) := by decide +kernel
theorem dX9_firstWith_23 : decode cX9_firstWith 23 = .ok (.iload_n 2, 1) := by decide +kernel
theorem dX9_firstWith_24 : decode cX9_firstWith 24 = .ok (.ireturn, 1) := by decide +kernel
theorem dX9_firstWith_25 : decode cX9_firstWith 25 = .ok (.iinc 2 1, 3) := by decide +kernel
theorem dX9_firstWith_28 : decode cX9_firstWith 28 = .ok (.goto (-26), 3) := by decide +kernel
theorem dX9_firstWith_31 : decode cX9_firstWith 31 = .ok (.ldc 86, 2) := by decide +kernel
theorem dX9_firstWith_33 : decode cX9_firstWith 33 = .ok (.ireturn, 1) := by decide +kernel
set_option maxRecDepth 20000 in
theorem ggX9_layGifts_X9_balanceOf : GoodIn wsX9_layGifts wsX9_balanceOf := goodIn_r _ [10, 2, 11, 12, 9, 13, 18, 19, 20, 21, 22, 23, 24, 25, 26, 27, 28, 29, 30, 31, 32, 33, 34, 35, 36, 37, 38, 39, 40, 41, 42, 43, 44] (by decide +kernel) (by decide +kernel)
set_option maxRecDepth 20000 in
theorem gX9_layGifts_X9_balanceOf : GoodIn wsX9_layGifts (wsV RX9 227 RX9 yX9_balanceOf wsX9_balanceOf) := goodIn_app (goodIn_of _ (by decide +kernel)) ggX9_layGifts_X9_balanceOf
set_option maxRecDepth 20000 in
theorem ggX9_layGifts_X9_firstWith : GoodIn wsX9_layGifts wsX9_firstWith := goodIn_r _ [17, 2, 3, 4, 18, 19, 20, 21, 22, 23, 24, 25, 26, 27, 28, 29, 30, 31, 32, 33, 34, 35, 36, 37, 38, 39, 40, 41, 42, 43, 44] (by decide +kernel) (by decide +kernel)
set_option maxRecDepth 20000 in
theorem gX9_layGifts_X9_firstWith : GoodIn wsX9_layGifts (wsV RX9 233 RX9 yX9_firstWith wsX9_firstWith) := goodIn_app (goodIn_of _ (by decide +kernel)) ggX9_layGifts_X9_firstWith
theorem dX9_layGifts_0 : decode cX9_layGifts 0 = .ok (.aload_n 0, 1) := by decide +kernel
theorem dX9_layGifts_1 : decode cX9_layGifts 1 = .ok (.iconst 0, 1) := by decide +kernel
theorem dX9_layGifts_2 : decode cX9_layGifts 2 = .ok (.putfield 230, 3) := by decide +kernel
theorem dX9_layGifts_5 : decode cX9_layGifts 5 = .ok (.iconst 0, 1) := by decide +kernel
theorem dX9_layGifts_6 : decode cX9_layGifts 6 = .ok (.istore_n 1, 1) := by decide +kernel
theorem dX9_layGifts_7 : decode cX9_layGifts 7 = .ok (.iload_n 1, 1) := by decide +kernel
theorem dX9_layGifts_8 : decode cX9_layGifts 8 = .ok (.aload_n 0, 1) := by decide +kernel
theorem dX9_layGifts_9 : decode cX9_layGifts 9 = .ok (.getfield 19, 3) := by decide +kernel
theorem dX9_layGifts_12 : decode cX9_layGifts 12 = .ok (.iconst 1, 1) := by decide +kernel
theorem dX9_layGifts_13 : decode cX9_layGifts 13 = .ok (.iaload, 1) := by decide +kernel
theorem dX9_layGifts_14 : decode cX9_layGifts 14 = .ok (.if_icmp .ge 20, 3) := by decide +kernel
theorem dX9_layGifts_17 : decode cX9_layGifts 17 = .ok (.aload_n 0, 1) := by decide +kernel
theorem dX9_layGifts_18 : decode cX9_layGifts 18 = .ok (.getfield 34, 3) := by decide +kernel
theorem dX9_layGifts_21 : decode cX9_layGifts 21 = .ok (.iload_n 1, 1) := by decide +kernel
theorem dX9_layGifts_22 : decode cX9_layGifts 22 = .ok (.aload_n 0, 1) := by decide +kernel
theorem dX9_layGifts_23 : decode cX9_layGifts 23 = .ok (.iload_n 1, 1) := by decide +kernel
theorem dX9_layGifts_24 : decode cX9_layGifts 24 = .ok (.invokevirtual 227, 3) := by decide +kernel
theorem dX9_layGifts_27 : decode cX9_layGifts 27 = .ok (.iastore, 1) := by decide +kernel
theorem dX9_layGifts_28 : decode cX9_layGifts 28 = .ok (.iinc 1 1, 3) := by decide +kernel
theorem dX9_layGifts_31 : decode cX9_layGifts 31 = .ok (.goto (-24), 3) := by decide +kernel
theorem dX9_layGifts_34 : decode cX9_layGifts 34 = .ok (.aload_n 0, 1) := by decide +kernel
theorem dX9_layGifts_35 : decode cX9_layGifts 35 = .ok (.iconst 1, 1) := by decide +kernel
theorem dX9_layGifts_36 : decode cX9_layGifts 36 = .ok (.invokevirtual 233, 3) := by decide +kernel
theorem dX9_layGifts_39 : decode cX9_layGifts 39 = .ok (.istore_n 1, 1) := by decide +kernel
theorem dX9_layGifts_40 : decode cX9_layGifts 40 = .ok (.iload_n 1, 1) := by decide +kernel
theorem dX9_layGifts_41 : decode cX9_layGifts 41 = .ok (.ldc 86, 2) := by decide +kernel
theorem dX9_layGifts_43 : decode cX9_layGifts 43 = .ok (.if_icmp .eq 121, 3) := by decide +kernel
theorem dX9_layGifts_46 : decode cX9_layGifts 46 = .ok (.aload_n 0, 1) := by decide +kernel
theorem dX9_layGifts_47 : decode cX9_layGifts 47 = .ok (.iconst (-1), 1) := by decide +kernel
theorem dX9_layGifts_48 : decode cX9_layGifts 48 = .ok (.invokevirtual 233, 3) := by decide +kernel
theorem dX9_layGifts_51 : decode cX9_layGifts 51 = .ok (.istore_n 2, 1) := by decide +kernel
theorem dX9_layGifts_52 : decode cX9_layGifts 52 = .ok (.aload_n 0, 1) := by decide +kernel
theorem dX9_layGifts_53 : decode cX9_layGifts 53 = .ok (.getfield 34, 3) := by decide +kernel
theorem dX9_layGifts_56 : decode cX9_layGifts 56 = .ok (.iload_n 1, 1) := by decide +kernel
theorem dX9_layGifts_57 : decode cX9_layGifts 57 = .ok (.iaload, 1) := by decide +kernel
theorem dX9_layGifts_58 : decode cX9_layGifts 58 = .ok (.aload_n 0, 1) := by decide +kernel
theorem dX9_layGifts_59 : decode cX9_layGifts 59 = .ok (.getfield 34, 3) := by decide +kernel
theorem dX9_layGifts_62 : decode cX9_layGifts 62 = .ok (.iload_n 2, 1) := by decide +kernel
theorem dX9_layGifts_63 : decode cX9_layGifts 63 = .ok (.iaload, 1) := by decide +kernel
theorem dX9_layGifts_64 : decode cX9_layGifts 64 = .ok (.ineg, 1) := by decide +kernel
theorem dX9_layGifts_65 : decode cX9_layGifts 65 = .ok (.if_icmp .ge 12, 3) := by decide +kernel
theorem dX9_layGifts_68 : decode cX9_layGifts 68 = .ok (.aload_n 0, 1) := by decide +kernel
theorem dX9_layGifts_69 : decode cX9_layGifts 69 = .ok (.getfield 34, 3) := by decide +kernel
