theorem dX0_init_0 : decode cX0_init 0 = .ok (.aload_n 0, 1) := by decide +kernel
theorem dX0_init_1 : decode cX0_init 1 = .ok (.invokespecial 1, 3) := by decide +kernel
theorem dX0_init_4 : decode cX0_init 4 = .ok (.aload_n 0, 1) := by decide +kernel
theorem dX0_init_5 : decode cX0_init 5 = .ok (.bipush 16, 2) := by decide +kernel
theorem dX0_init_7 : decode cX0_init 7 = .ok (.newarray .int, 2) := by decide +kernel
theorem dX0_init_9 : decode cX0_init 9 = .ok (.putfield 7, 3) := by decide +kernel
theorem dX0_init_12 : decode cX0_init 12 = .ok (.return_, 1) := by decide +kernel
set_option maxRecDepth 20000 in
theorem ggX0_size_X0_begin : GoodIn wsX0_size wsX0_begin := goodIn_r _ [8, 9, 10, 2, 11, 12, 13, 14, 7, 15, 16, 17, 4, 5, 6, 18, 19, 20, 21, 22, 23, 24, 25, 3, 0, 1, 26, 27, 28, 29, 30, 31, 32, 33, 34, 35, 36, 37, 38, 39] (by decide +kernel) (by decide +kernel)
set_option maxRecDepth 20000 in
theorem gX0_size_X0_begin : GoodIn wsX0_size (wsV RX0 27 RX0 yX0_begin wsX0_begin) := goodIn_app (goodIn_of _ (by decide +kernel)) ggX0_size_X0_begin
theorem dX0_size_0 : decode cX0_size 0 = .ok (.aload_n 0, 1) := by decide +kernel
theorem dX0_size_1 : decode cX0_size 1 = .ok (.getstatic 13, 3) := by decide +kernel
theorem dX0_size_4 : decode cX0_size 4 = .ok (.aload_n 1, 1) := by decide +kernel
theorem dX0_size_5 : decode cX0_size 5 = .ok (.getfield 16, 3) := by decide +kernel
theorem dX0_size_8 : decode cX0_size 8 = .ok (.getfield 22, 3) := by decide +kernel
theorem dX0_size_11 : decode cX0_size 11 = .ok (.iload_n 2, 1) := by decide +kernel
theorem dX0_size_12 : decode cX0_size 12 = .ok (.iaload, 1) := by decide +kernel
theorem dX0_size_13 : decode cX0_size 13 = .ok (.iaload, 1) := by decide +kernel
theorem dX0_size_14 : decode cX0_size 14 = .ok (.aload_n 1, 1) := by decide +kernel
theorem dX0_size_15 : decode cX0_size 15 = .ok (.iload_n 2, 1) := by decide +kernel
theorem dX0_size_16 : decode cX0_size 16 = .ok (.iload_n 3, 1) := by decide +kernel
theorem dX0_size_17 : decode cX0_size 17 = .ok (.invokevirtual 27, 3) := by decide +kernel
theorem dX0_size_20 : decode cX0_size 20 = .ok (.ireturn, 1) := by decide +kernel
set_option maxRecDepth 20000 in
theorem ggX0_mark_X0_begin : GoodIn wsX0_mark wsX0_begin := goodIn_r _ [8, 9, 10, 2, 11, 12, 13, 14, 7, 15, 16, 17, 4, 5, 6, 18, 19, 20, 21, 22, 23, 0, 1, 3, 24, 25, 26, 27, 28, 29, 30, 31, 32, 33, 34, 35, 36, 37, 38, 39] (by decide +kernel) (by decide +kernel)
set_option maxRecDepth 20000 in
theorem gX0_mark_X0_begin : GoodIn wsX0_mark (wsV RX0 27 RX0 yX0_begin wsX0_begin) := goodIn_app (goodIn_of _ (by decide +kernel)) ggX0_mark_X0_begin
theorem dX0_mark_0 : decode cX0_mark 0 = .ok (.aload_n 0, 1) := by decide +kernel
theorem dX0_mark_1 : decode cX0_mark 1 = .ok (.getstatic 31, 3) := by decide +kernel
theorem dX0_mark_4 : decode cX0_mark 4 = .ok (.aload_n 1, 1) := by decide +kernel
theorem dX0_mark_5 : decode cX0_mark 5 = .ok (.getfield 16, 3) := by decide +kernel
theorem dX0_mark_8 : decode cX0_mark 8 = .ok (.getfield 22, 3) := by decide +kernel
theorem dX0_mark_11 : decode cX0_mark 11 = .ok (.iload_n 2, 1) := by decide +kernel
theorem dX0_mark_12 : decode cX0_mark 12 = .ok (.iaload, 1) := by decide +kernel
theorem dX0_mark_13 : decode cX0_mark 13 = .ok (.iaload, 1) := by decide +kernel
theorem dX0_mark_14 : decode cX0_mark 14 = .ok (.aload_n 1, 1) := by decide +kernel
theorem dX0_mark_15 : decode cX0_mark 15 = .ok (.iload_n 2, 1) := by decide +kernel
theorem dX0_mark_16 : decode cX0_mark 16 = .ok (.iload_n 3, 1) := by decide +kernel
theorem dX0_mark_17 : decode cX0_mark 17 = .ok (.invokevirtual 27, 3) := by decide +kernel
theorem dX0_mark_20 : decode cX0_mark 20 = .ok (.ireturn, 1) := by decide +kernel
set_option maxRecDepth 20000 in
theorem ggX0_begin_X0_note : GoodIn wsX0_begin wsX0_note := goodIn_r _ [9, 10, 11, 38, 39] (by decide +kernel) (by decide +kernel)
set_option maxRecDepth 20000 in
theorem gX0_begin_X0_note : GoodIn wsX0_begin (wsV RX0 34 RX0 yX0_note wsX0_note) := goodIn_app (goodIn_of _ (by decide +kernel)) ggX0_begin_X0_note
set_option maxRecDepth 20000 in
theorem ggX0_begin_X0_begin : GoodIn wsX0_begin wsX0_begin := goodIn_r _ [0, 1, 2, 3, 4, 5, 6, 7, 8, 9, 10, 11, 12, 13, 14, 15, 16, 17, 18, 19, 20, 21, 22, 23, 24, 25, 26, 27, 28, 29, 30, 31, 32, 33, 34, 35, 36, 37, 38, 39] (by decide +kernel) (by decide +kernel)
set_option maxRecDepth 20000 in
theorem gX0_begin_X0_begin : GoodIn wsX0_begin (wsV RX0 27 RX0 yX0_begin wsX0_begin) := goodIn_app (goodIn_of _ (by decide +kernel)) ggX0_begin_X0_begin
set_option maxRecDepth 20000 in
theorem ggX0_begin_X0_mark : GoodIn wsX0_begin wsX0_mark := goodIn_r _ [21, 22, 3, 23, 12, 13, 14, 8, 0, 1, 2, 4, 5, 6, 7, 9, 10, 11, 15, 16, 17, 18, 19, 20, 24, 25, 26, 27, 28, 29, 30, 31, 32, 33, 34, 35, 36, 37, 38, 39] (by decide +kernel) (by decide +kernel)
set_option maxRecDepth 20000 in
theorem gX0_begin_X0_mark : GoodIn wsX0_begin (wsV RX0 47 RX0 yX0_mark wsX0_mark) := goodIn_app (goodIn_of _ (by decide +kernel)) ggX0_begin_X0_mark
set_option maxRecDepth 20000 in
theorem ggX0_begin_X0_size : GoodIn wsX0_begin wsX0_size := goodIn_r _ [24, 25, 3, 23, 12, 13, 14, 8, 0, 1, 2, 4, 5, 6, 7, 9, 10, 11, 15, 16, 17, 18, 19, 20, 21, 22, 26, 27, 28, 29, 30, 31, 32, 33, 34, 35, 36, 37, 38, 39] (by decide +kernel) (by decide +kernel)
set_option maxRecDepth 20000 in
theorem gX0_begin_X0_size : GoodIn wsX0_begin (wsV RX0 54 RX0 yX0_size wsX0_size) := goodIn_app (goodIn_of _ (by decide +kernel)) ggX0_begin_X0_size
theorem dX0_begin_0 : decode cX0_begin 0 = .ok (.iload 4, 2) := by decide +kernel
theorem dX0_begin_2 : decode cX0_begin 2 = .ok (.bipush 20, 2) := by decide +kernel
theorem dX0_begin_4 : decode cX0_begin 4 = .ok (.if_icmp .le 5, 3) := by decide +kernel
theorem dX0_begin_7 : decode cX0_begin 7 = .ok (.iconst 0, 1) := by decide +kernel
theorem dX0_begin_8 : decode cX0_begin 8 = .ok (.ireturn, 1) := by decide +kernel
theorem dX0_begin_9 : decode cX0_begin 9 = .ok (.aload_n 0, 1) := by decide +kernel
theorem dX0_begin_10 : decode cX0_begin 10 = .ok (.iload_n 1, 1) := by decide +kernel
theorem dX0_begin_11 : decode cX0_begin 11 = .ok (.invokevirtual 34, 3) := by decide +kernel
theorem dX0_begin_14 : decode cX0_begin 14 = .ok (.iload 4, 2) := by decide +kernel
theorem dX0_begin_16 : decode cX0_begin 16 = .ok (.iconst 1, 1) := by decide +kernel
theorem dX0_begin_17 : decode cX0_begin 17 = .ok (.iadd, 1) := by decide +kernel
theorem dX0_begin_18 : decode cX0_begin 18 = .ok (.istore 5, 2) := by decide +kernel
theorem dX0_begin_20 : decode cX0_begin 20 = .ok (.iload_n 1, 1) := by decide +kernel
theorem dX0_begin_21 : decode cX0_begin 21 = .ok (.tableswitch 215 10 24 #[75, 85, 105, 117, 131, 215, 215, 215, 215, 215, 144, 146, 167, 182, 202], 75) := by decide +kernel
theorem dX0_begin_96 : decode cX0_begin 96 = .ok (.aload_n 2, 1) := by decide +kernel
theorem dX0_begin_97 : decode cX0_begin 97 = .ok (.getfield 38, 3) := by decide +kernel
theorem dX0_begin_100 : decode cX0_begin 100 = .ok (.getfield 42, 3) := by decide +kernel
theorem dX0_begin_103 : decode cX0_begin 103 = .ok (.iload_n 3, 1) := by decide +kernel
theorem dX0_begin_104 : decode cX0_begin 104 = .ok (.iaload, 1) := by decide +kernel
theorem dX0_begin_105 : decode cX0_begin 105 = .ok (.ireturn, 1) := by decide +kernel
theorem dX0_begin_106 : decode cX0_begin 106 = .ok (.aload_n 0, 1) := by decide +kernel
theorem dX0_begin_107 : decode cX0_begin 107 = .ok (.bipush 10, 2) := by decide +kernel
theorem dX0_begin_109 : decode cX0_begin 109 = .ok (.aload_n 2, 1) := by decide +kernel
theorem dX0_begin_110 : decode cX0_begin 110 = .ok (.iload_n 3, 1) := by decide +kernel
theorem dX0_begin_111 : decode cX0_begin 111 = .ok (.iload 5, 2) := by decide +kernel
theorem dX0_begin_113 : decode cX0_begin 113 = .ok (.invokevirtual 27, 3) := by decide +kernel
theorem dX0_begin_116 : decode cX0_begin 116 = .ok (.aload_n 0, 1) := by decide +kernel
theorem dX0_begin_117 : decode cX0_begin 117 = .ok (.aload_n 2, 1) := by decide +kernel
theorem dX0_begin_118 : decode cX0_begin 118 = .ok (.iload_n 3, 1) := by decide +kernel
theorem dX0_begin_119 : decode cX0_begin 119 = .ok (.iload 5, 2) := by decide +kernel
theorem dX0_begin_121 : decode cX0_begin 121 = .ok (.invokevirtual 47, 3) := by decide +kernel
theorem dX0_begin_124 : decode cX0_begin 124 = .ok (.iadd, 1) := by decide +kernel
theorem dX0_begin_125 : decode cX0_begin 125 = .ok (.ireturn, 1) := by decide +kernel
theorem dX0_begin_126 : decode cX0_begin 126 = .ok (.aload_n 0, 1) := by decide +kernel
theorem dX0_begin_127 : decode cX0_begin 127 = .ok (.bipush 11, 2) := by decide +kernel
theorem dX0_begin_129 : decode cX0_begin 129 = .ok (.aload_n 2, 1) := by decide +kernel
theorem dX0_begin_130 : decode cX0_begin 130 = .ok (.iload_n 3, 1) := by decide +kernel
theorem dX0_begin_131 : decode cX0_begin 131 = .ok (.iload 5, 2) := by decide +kernel
theorem dX0_begin_133 : decode cX0_begin 133 = .ok (.invokevirtual 27, 3) := by decide +kernel
theorem dX0_begin_136 : decode cX0_begin 136 = .ok (.ineg, 1) := by decide +kernel
theorem dX0_begin_137 : decode cX0_begin 137 = .ok (.ireturn, 1) := by decide +kernel
theorem dX0_begin_138 : decode cX0_begin 138 = .ok (.aload_n 0, 1) := by decide +kernel
theorem dX0_begin_139 : decode cX0_begin 139 = .ok (.bipush 10, 2) := by decide +kernel
theorem dX0_begin_141 : decode cX0_begin 141 = .ok (.aload_n 2, 1) := by decide +kernel
theorem dX0_begin_142 : decode cX0_begin 142 = .ok (.iload_n 3, 1) := by decide +kernel
theorem dX0_begin_143 : decode cX0_begin 143 = .ok (.iload 5, 2) := by decide +kernel
theorem dX0_begin_145 : decode cX0_begin 145 = .ok (.invokevirtual 27, 3) := by decide +kernel
theorem dX0_begin_148 : decode cX0_begin 148 = .ok (.bipush 100, 2) := by decide +kernel
theorem dX0_begin_150 : decode cX0_begin 150 = .ok (.isub, 1) := by decide +kernel
theorem dX0_begin_151 : decode cX0_begin 151 = .ok (.ireturn, 1) := by decide +kernel
theorem dX0_begin_152 : decode cX0_begin 152 = .ok (.iconst 2, 1) := by decide +kernel
theorem dX0_begin_153 : decode cX0_begin 153 = .ok (.aload_n 0, 1) := by decide +kernel
theorem dX0_begin_154 : decode cX0_begin 154 = .ok (.bipush 13, 2) := by decide +kernel
theorem dX0_begin_156 : decode cX0_begin 156 = .ok (.aload_n 2, 1) := by decide +kernel
theorem dX0_begin_157 : decode cX0_begin 157 = .ok (.iload_n 3, 1) := by decide +kernel
theorem dX0_begin_158 : decode cX0_begin 158 = .ok (.iload 5, 2) := by decide +kernel
theorem dX0_begin_160 : decode cX0_begin 160 = .ok (.invokevirtual 27, 3) := by decide +kernel
theorem dX0_begin_163 : decode cX0_begin 163 = .ok (.imul, 1) := by decide +kernel
theorem dX0_begin_164 : decode cX0_begin 164 = .ok (.ireturn, 1) := by decide +kernel
theorem dX0_begin_165 : decode cX0_begin 165 = .ok (.iload_n 3, 1) := by decide +kernel
theorem dX0_begin_166 : decode cX0_begin 166 = .ok (.ireturn, 1) := by decide +kernel
theorem dX0_begin_167 : decode cX0_begin 167 = .ok (.aload_n 0, 1) := by decide +kernel
theorem dX0_begin_168 : decode cX0_begin 168 = .ok (.bipush 20, 2) := by decide +kernel
theorem dX0_begin_170 : decode cX0_begin 170 = .ok (.aload_n 2, 1) := by decide +kernel
theorem dX0_begin_171 : decode cX0_begin 171 = .ok (.iload_n 3, 1) := by decide +kernel
theorem dX0_begin_172 : decode cX0_begin 172 = .ok (.iload 5, 2) := by decide +kernel
theorem dX0_begin_174 : decode cX0_begin 174 = .ok (.invokevirtual 27, 3) := by decide +kernel
theorem dX0_begin_177 : decode cX0_begin 177 = .ok (.aload_n 2, 1) := by decide +kernel
theorem dX0_begin_178 : decode cX0_begin 178 = .ok (.getfield 16, 3) := by decide +kernel
theorem dX0_begin_181 : decode cX0_begin 181 = .ok (.getfield 51, 3) := by decide +kernel
theorem dX0_begin_184 : decode cX0_begin 184 = .ok (.iload_n 3, 1) := by decide +kernel
theorem dX0_begin_185 : decode cX0_begin 185 = .ok (.iaload, 1) := by decide +kernel
theorem dX0_begin_186 : decode cX0_begin 186 = .ok (.iadd, 1) := by decide +kernel
theorem dX0_begin_187 : decode cX0_begin 187 = .ok (.ireturn, 1) := by decide +kernel
theorem dX0_begin_188 : decode cX0_begin 188 = .ok (.aload_n 0, 1) := by decide +kernel
theorem dX0_begin_189 : decode cX0_begin 189 = .ok (.bipush 21, 2) := by decide +kernel
theorem dX0_begin_191 : decode cX0_begin 191 = .ok (.aload_n 2, 1) := by decide +kernel
theorem dX0_begin_192 : decode cX0_begin 192 = .ok (.iload_n 3, 1) := by decide +kernel
theorem dX0_begin_193 : decode cX0_begin 193 = .ok (.iload 5, 2) := by decide +kernel
theorem dX0_begin_195 : decode cX0_begin 195 = .ok (.invokevirtual 27, 3) := by decide +kernel
theorem dX0_begin_198 : decode cX0_begin 198 = .ok (.sipush 1000, 3) := by decide +kernel
theorem dX0_begin_201 : decode cX0_begin 201 = .ok (.isub, 1) := by decide +kernel
theorem dX0_begin_202 : decode cX0_begin 202 = .ok (.ireturn, 1) := by decide +kernel
theorem dX0_begin_203 : decode cX0_begin 203 = .ok (.aload_n 0, 1) := by decide +kernel
theorem dX0_begin_204 : decode cX0_begin 204 = .ok (.bipush 20, 2) := by decide +kernel
theorem dX0_begin_206 : decode cX0_begin 206 = .ok (.aload_n 2, 1) := by decide +kernel
theorem dX0_begin_207 : decode cX0_begin 207 = .ok (.iload_n 3, 1) := by decide +kernel
theorem dX0_begin_208 : decode cX0_begin 208 = .ok (.iload 5, 2) := by decide +kernel
theorem dX0_begin_210 : decode cX0_begin 210 = .ok (.invokevirtual 27, 3) := by decide +kernel
theorem dX0_begin_213 : decode cX0_begin 213 = .ok (.aload_n 0, 1) := by decide +kernel
theorem dX0_begin_214 : decode cX0_begin 214 = .ok (.aload_n 2, 1) := by decide +kernel
theorem dX0_begin_215 : decode cX0_begin 215 = .ok (.iload_n 3, 1) := by decide +kernel
theorem dX0_begin_216 : decode cX0_begin 216 = .ok (.iload 5, 2) := by decide +kernel
theorem dX0_begin_218 : decode cX0_begin 218 = .ok (.invokevirtual 54, 3) := by decide +kernel
theorem dX0_begin_221 : decode cX0_begin 221 = .ok (.isub, 1) := by decide +kernel
theorem dX0_begin_222 : decode cX0_begin 222 = .ok (.ireturn, 1) := by decide +kernel
theorem dX0_begin_223 : decode cX0_begin 223 = .ok (.iconst 2, 1) := by decide +kernel
theorem dX0_begin_224 : decode cX0_begin 224 = .ok (.aload_n 0, 1) := by decide +kernel
theorem dX0_begin_225 : decode cX0_begin 225 = .ok (.bipush 21, 2) := by decide +kernel
theorem dX0_begin_227 : decode cX0_begin 227 = .ok (.aload_n 2, 1) := by decide +kernel
theorem dX0_begin_228 : decode cX0_begin 228 = .ok (.iload_n 3, 1) := by decide +kernel
theorem dX0_begin_229 : decode cX0_begin 229 = .ok (.iload 5, 2) := by decide +kernel
theorem dX0_begin_231 : decode cX0_begin 231 = .ok (.invokevirtual 27, 3) := by decide +kernel
theorem dX0_begin_234 : decode cX0_begin 234 = .ok (.imul, 1) := by decide +kernel
theorem dX0_begin_235 : decode cX0_begin 235 = .ok (.ireturn, 1) := by decide +kernel
theorem dX0_begin_236 : decode cX0_begin 236 = .ok (.iconst 0, 1) := by decide +kernel
theorem dX0_begin_237 : decode cX0_begin 237 = .ok (.ireturn, 1) := by decide +kernel
theorem dX0_note_0 : decode cX0_note 0 = .ok (.aload_n 0, 1) := by decide +kernel
theorem dX0_note_1 : decode cX0_note 1 = .ok (.getfield 57, 3) := by decide +kernel
theorem dX0_note_4 : decode cX0_note 4 = .ok (.aload_n 0, 1) := by decide +kernel
theorem dX0_note_5 : decode cX0_note 5 = .ok (.getfield 7, 3) := by decide +kernel
theorem dX0_note_8 : decode cX0_note 8 = .ok (.arraylength, 1) := by decide +kernel
theorem dX0_note_9 : decode cX0_note 9 = .ok (.if_icmp .ge 23, 3) := by decide +kernel
theorem dX0_note_12 : decode cX0_note 12 = .ok (.aload_n 0, 1) := by decide +kernel
theorem dX0_note_13 : decode cX0_note 13 = .ok (.getfield 7, 3) := by decide +kernel
theorem dX0_note_16 : decode cX0_note 16 = .ok (.aload_n 0, 1) := by decide +kernel
theorem dX0_note_17 : decode cX0_note 17 = .ok (.getfield 57, 3) := by decide +kernel
theorem dX0_note_20 : decode cX0_note 20 = .ok (.iload_n 1, 1) := by decide +kernel
theorem dX0_note_21 : decode cX0_note 21 = .ok (.iastore, 1) := by decide +kernel
theorem dX0_note_22 : decode cX0_note 22 = .ok (.aload_n 0, 1) := by decide +kernel
theorem dX0_note_23 : decode cX0_note 23 = .ok (.dup, 1) := by decide +kernel
theorem dX0_note_24 : decode cX0_note 24 = .ok (.getfield 57, 3) := by decide +kernel
theorem dX0_note_27 : decode cX0_note 27 = .ok (.iconst 1, 1) := by decide +kernel
theorem dX0_note_28 : decode cX0_note 28 = .ok (.iadd, 1) := by decide +kernel
theorem dX0_note_29 : decode cX0_note 29 = .ok (.putfield 57, 3) := by decide +kernel
theorem dX0_note_32 : decode cX0_note 32 = .ok (.return_, 1) := by decide +kernel
set_option maxRecDepth 20000 in
theorem ggX1_init_X2_init : GoodIn wsX1_init wsX2_init := goodIn_r _ [13, 14, 2, 3, 15, 16, 17, 18, 19, 26, 27, 28, 29, 30] (by decide +kernel) (by decide +kernel)
set_option maxRecDepth 20000 in
theorem gX1_init_X2_init_n9 : GoodIn wsX1_init (wsX2_init) := ggX1_init_X2_init
set_option maxRecDepth 20000 in
theorem ggX1_init_X3_init : GoodIn wsX1_init wsX3_init := goodIn_r _ [21, 22, 2, 3, 15, 23, 24, 25, 34, 35, 36, 37] (by decide +kernel) (by decide +kernel)
set_option maxRecDepth 20000 in
theorem gX1_init_X3_init_n18 : GoodIn wsX1_init (wsX3_init) := ggX1_init_X3_init
theorem dX1_init_0 : decode cX1_init 0 = .ok (.aload_n 0, 1) := by decide +kernel
theorem dX1_init_1 : decode cX1_init 1 = .ok (.invokespecial 1, 3) := by decide +kernel
theorem dX1_init_4 : decode cX1_init 4 = .ok (.aload_n 0, 1) := by decide +kernel
theorem dX1_init_5 : decode cX1_init 5 = .ok (.new 7, 3) := by decide +kernel
theorem dX1_init_8 : decode cX1_init 8 = .ok (.dup, 1) := by decide +kernel
theorem dX1_init_9 : decode cX1_init 9 = .ok (.invokespecial 9, 3) := by decide +kernel
theorem dX1_init_12 : decode cX1_init 12 = .ok (.putfield 10, 3) := by decide +kernel
theorem dX1_init_15 : decode cX1_init 15 = .ok (.aload_n 0, 1) := by decide +kernel
theorem dX1_init_16 : decode cX1_init 16 = .ok (.new 16, 3) := by decide +kernel
theorem dX1_init_19 : decode cX1_init 19 = .ok (.dup, 1) := by decide +kernel
theorem dX1_init_20 : decode cX1_init 20 = .ok (.invokespecial 18, 3) := by decide +kernel
theorem dX1_init_23 : decode cX1_init 23 = .ok (.putfield 19, 3) := by decide +kernel
theorem dX1_init_26 : decode cX1_init 26 = .ok (.return_, 1) := by decide +kernel
set_option maxRecDepth 20000 in
theorem ggX1_open_X2_takeFrom : GoodIn wsX1_open wsX2_takeFrom := goodIn_r _ [8, 9, 10, 11, 12, 13, 14, 15, 16, 17, 37, 38, 39, 40, 41] (by decide +kernel) (by decide +kernel)
set_option maxRecDepth 20000 in
theorem gX1_open_X2_takeFrom : GoodIn wsX1_open (wsV RX1 23 RX2 yX2_takeFrom wsX2_takeFrom) := goodIn_app (goodIn_of _ (by decide +kernel)) ggX1_open_X2_takeFrom
set_option maxRecDepth 20000 in
theorem ggX1_open_X3_open : GoodIn wsX1_open wsX3_open := goodIn_r _ [22, 23, 24, 25, 26, 27, 28, 29, 11, 12, 13, 30, 31, 32, 33, 42, 43, 44, 45, 37, 38, 39, 40, 41] (by decide +kernel) (by decide +kernel)
set_option maxRecDepth 20000 in
theorem gX1_open_X3_open : GoodIn wsX1_open (wsV RX1 27 RX3 yX3_open wsX3_open) := goodIn_app (goodIn_of _ (by decide +kernel)) ggX1_open_X3_open
theorem dX1_open_0 : decode cX1_open 0 = .ok (.aload_n 0, 1) := by decide +kernel
theorem dX1_open_1 : decode cX1_open 1 = .ok (.getfield 10, 3) := by decide +kernel
theorem dX1_open_4 : decode cX1_open 4 = .ok (.aload_n 1, 1) := by decide +kernel
theorem dX1_open_5 : decode cX1_open 5 = .ok (.invokevirtual 23, 3) := by decide +kernel
theorem dX1_open_8 : decode cX1_open 8 = .ok (.aload_n 0, 1) := by decide +kernel
theorem dX1_open_9 : decode cX1_open 9 = .ok (.getfield 19, 3) := by decide +kernel
theorem dX1_open_12 : decode cX1_open 12 = .ok (.aload_n 0, 1) := by decide +kernel
theorem dX1_open_13 : decode cX1_open 13 = .ok (.getfield 10, 3) := by decide +kernel
theorem dX1_open_16 : decode cX1_open 16 = .ok (.invokevirtual 27, 3) := by decide +kernel
theorem dX1_open_19 : decode cX1_open 19 = .ok (.aload_n 0, 1) := by decide +kernel
theorem dX1_open_20 : decode cX1_open 20 = .ok (.iconst 1, 1) := by decide +kernel
theorem dX1_open_21 : decode cX1_open 21 = .ok (.putfield 30, 3) := by decide +kernel
theorem dX1_open_24 : decode cX1_open 24 = .ok (.return_, 1) := by decide +kernel
set_option maxRecDepth 20000 in
theorem ggX1_takeFrom_X2_takeFrom : GoodIn wsX1_takeFrom wsX2_takeFrom := goodIn_r _ [8, 9, 10, 11, 12, 13, 14, 15, 16, 17, 31, 32, 33, 34, 35] (by decide +kernel) (by decide +kernel)
set_option maxRecDepth 20000 in
theorem gX1_takeFrom_X2_takeFrom : GoodIn wsX1_takeFrom (wsV RX1 23 RX2 yX2_takeFrom wsX2_takeFrom) := goodIn_app (goodIn_of _ (by decide +kernel)) ggX1_takeFrom_X2_takeFrom
set_option maxRecDepth 20000 in
theorem ggX1_takeFrom_X3_takeFrom : GoodIn wsX1_takeFrom wsX3_takeFrom := goodIn_r _ [22, 23, 24, 11, 12, 13, 25, 26, 27, 36, 37, 38, 39] (by decide +kernel) (by decide +kernel)
set_option maxRecDepth 20000 in
theorem gX1_takeFrom_X3_takeFrom : GoodIn wsX1_takeFrom (wsV RX1 34 RX3 yX3_takeFrom wsX3_takeFrom) := goodIn_app (goodIn_of _ (by decide +kernel)) ggX1_takeFrom_X3_takeFrom
theorem dX1_takeFrom_0 : decode cX1_takeFrom 0 = .ok (.aload_n 0, 1) := by decide +kernel
theorem dX1_takeFrom_1 : decode cX1_takeFrom 1 = .ok (.getfield 10, 3) := by decide +kernel
theorem dX1_takeFrom_4 : decode cX1_takeFrom 4 = .ok (.aload_n 1, 1) := by decide +kernel
theorem dX1_takeFrom_5 : decode cX1_takeFrom 5 = .ok (.getfield 10, 3) := by decide +kernel
theorem dX1_takeFrom_8 : decode cX1_takeFrom 8 = .ok (.invokevirtual 23, 3) := by decide +kernel
theorem dX1_takeFrom_11 : decode cX1_takeFrom 11 = .ok (.aload_n 0, 1) := by decide +kernel
theorem dX1_takeFrom_12 : decode cX1_takeFrom 12 = .ok (.getfield 19, 3) := by decide +kernel
theorem dX1_takeFrom_15 : decode cX1_takeFrom 15 = .ok (.aload_n 1, 1) := by decide +kernel
theorem dX1_takeFrom_16 : decode cX1_takeFrom 16 = .ok (.getfield 19, 3) := by decide +kernel
theorem dX1_takeFrom_19 : decode cX1_takeFrom 19 = .ok (.invokevirtual 34, 3) := by decide +kernel
theorem dX1_takeFrom_22 : decode cX1_takeFrom 22 = .ok (.aload_n 0, 1) := by decide +kernel
theorem dX1_takeFrom_23 : decode cX1_takeFrom 23 = .ok (.aload_n 1, 1) := by decide +kernel
theorem dX1_takeFrom_24 : decode cX1_takeFrom 24 = .ok (.getfield 30, 3) := by decide +kernel
theorem dX1_takeFrom_27 : decode cX1_takeFrom 27 = .ok (.putfield 30, 3) := by decide +kernel
theorem dX1_takeFrom_30 : decode cX1_takeFrom 30 = .ok (.return_, 1) := by decide +kernel
theorem dX2_init_0 : decode cX2_init 0 = .ok (.aload_n 0, 1) := by decide +kernel
theorem dX2_init_1 : decode cX2_init 1 = .ok (.invokespecial 3, 3) := by decide +kernel
theorem dX2_init_4 : decode cX2_init 4 = .ok (.aload_n 0, 1) := by decide +kernel
theorem dX2_init_5 : decode cX2_init 5 = .ok (.bipush 12, 2) := by decide +kernel
theorem dX2_init_7 : decode cX2_init 7 = .ok (.newarray .int, 2) := by decide +kernel
theorem dX2_init_9 : decode cX2_init 9 = .ok (.putfield 9, 3) := by decide +kernel
theorem dX2_init_12 : decode cX2_init 12 = .ok (.aload_n 0, 1) := by decide +kernel
theorem dX2_init_13 : decode cX2_init 13 = .ok (.bipush 6, 2) := by decide +kernel
theorem dX2_init_15 : decode cX2_init 15 = .ok (.newarray .int, 2) := by decide +kernel
theorem dX2_init_17 : decode cX2_init 17 = .ok (.putfield 15, 3) := by decide +kernel
theorem dX2_init_20 : decode cX2_init 20 = .ok (.aload_n 0, 1) := by decide +kernel
theorem dX2_init_21 : decode cX2_init 21 = .ok (.bipush 6, 2) := by decide +kernel
theorem dX2_init_23 : decode cX2_init 23 = .ok (.newarray .int, 2) := by decide +kernel
theorem dX2_init_25 : decode cX2_init 25 = .ok (.putfield 18, 3) := by decide +kernel
theorem dX2_init_28 : decode cX2_init 28 = .ok (.aload_n 0, 1) := by decide +kernel
theorem dX2_init_29 : decode cX2_init 29 = .ok (.bipush 6, 2) := by decide +kernel
theorem dX2_init_31 : decode cX2_init 31 = .ok (.newarray .int, 2) := by decide +kernel
theorem dX2_init_33 : decode cX2_init 33 = .ok (.putfield 21, 3) := by decide +kernel
theorem dX2_init_36 : decode cX2_init 36 = .ok (.return_, 1) := by decide +kernel
theorem dX2_add_0 : decode cX2_add 0 = .ok (.aload_n 0, 1) := by decide +kernel
theorem dX2_add_1 : decode cX2_add 1 = .ok (.getfield 24, 3) := by decide +kernel
theorem dX2_add_4 : decode cX2_add 4 = .ok (.bipush 6, 2) := by decide +kernel
theorem dX2_add_6 : decode cX2_add 6 = .ok (.if_icmp .lt 4, 3) := by decide +kernel
theorem dX2_add_9 : decode cX2_add 9 = .ok (.return_, 1) := by decide +kernel
theorem dX2_add_10 : decode cX2_add 10 = .ok (.aload_n 0, 1) := by decide +kernel
theorem dX2_add_11 : decode cX2_add 11 = .ok (.getfield 15, 3) := by decide +kernel
theorem dX2_add_14 : decode cX2_add 14 = .ok (.aload_n 0, 1) := by decide +kernel
theorem dX2_add_15 : decode cX2_add 15 = .ok (.getfield 24, 3) := by decide +kernel
theorem dX2_add_18 : decode cX2_add 18 = .ok (.iload_n 1, 1) := by decide +kernel
theorem dX2_add_19 : decode cX2_add 19 = .ok (.iastore, 1) := by decide +kernel
theorem dX2_add_20 : decode cX2_add 20 = .ok (.aload_n 0, 1) := by decide +kernel
theorem dX2_add_21 : decode cX2_add 21 = .ok (.getfield 18, 3) := by decide +kernel
theorem dX2_add_24 : decode cX2_add 24 = .ok (.aload_n 0, 1) := by decide +kernel
theorem dX2_add_25 : decode cX2_add 25 = .ok (.getfield 24, 3) := by decide +kernel
theorem dX2_add_28 : decode cX2_add 28 = .ok (.iload_n 2, 1) := by decide +kernel
theorem dX2_add_29 : decode cX2_add 29 = .ok (.iastore, 1) := by decide +kernel
theorem dX2_add_30 : decode cX2_add 30 = .ok (.aload_n 0, 1) := by decide +kernel
theorem dX2_add_31 : decode cX2_add 31 = .ok (.getfield 21, 3) := by decide +kernel
theorem dX2_add_34 : decode cX2_add 34 = .ok (.aload_n 0, 1) := by decide +kernel
theorem dX2_add_35 : decode cX2_add 35 = .ok (.getfield 24, 3) := by decide +kernel
theorem dX2_add_38 : decode cX2_add 38 = .ok (.iload_n 3, 1) := by decide +kernel
theorem dX2_add_39 : decode cX2_add 39 = .ok (.iastore, 1) := by decide +kernel
theorem dX2_add_40 : decode cX2_add 40 = .ok (.aload_n 0, 1) := by decide +kernel
theorem dX2_add_41 : decode cX2_add 41 = .ok (.dup, 1) := by decide +kernel
theorem dX2_add_42 : decode cX2_add 42 = .ok (.getfield 24, 3) := by decide +kernel
theorem dX2_add_45 : decode cX2_add 45 = .ok (.iconst 1, 1) := by decide +kernel
theorem dX2_add_46 : decode cX2_add 46 = .ok (.iadd, 1) := by decide +kernel
theorem dX2_add_47 : decode cX2_add 47 = .ok (.putfield 24, 3) := by decide +kernel
theorem dX2_add_50 : decode cX2_add 50 = .ok (.return_, 1) := by decide +kernel
theorem dX2_takeFrom_0 : decode cX2_takeFrom 0 = .ok (.aload_n 1, 1) := by decide +kernel
theorem dX2_takeFrom_1 : decode cX2_takeFrom 1 = .ok (.getfield 9, 3) := by decide +kernel
theorem dX2_takeFrom_4 : decode cX2_takeFrom 4 = .ok (.iconst 0, 1) := by decide +kernel
theorem dX2_takeFrom_5 : decode cX2_takeFrom 5 = .ok (.aload_n 0, 1) := by decide +kernel
theorem dX2_takeFrom_6 : decode cX2_takeFrom 6 = .ok (.getfield 9, 3) := by decide +kernel
theorem dX2_takeFrom_9 : decode cX2_takeFrom 9 = .ok (.iconst 0, 1) := by decide +kernel
theorem dX2_takeFrom_10 : decode cX2_takeFrom 10 = .ok (.bipush 12, 2) := by decide +kernel
theorem dX2_takeFrom_12 : decode cX2_takeFrom 12 = .ok (.invokestatic 28, 3) := by decide +kernel
theorem dX2_takeFrom_15 : decode cX2_takeFrom 15 = .ok (.aload_n 1, 1) := by decide +kernel
theorem dX2_takeFrom_16 : decode cX2_takeFrom 16 = .ok (.getfield 15, 3) := by decide +kernel
theorem dX2_takeFrom_19 : decode cX2_takeFrom 19 = .ok (.iconst 0, 1) := by decide +kernel
theorem dX2_takeFrom_20 : decode cX2_takeFrom 20 = .ok (.aload_n 0, 1) := by decide +kernel
theorem dX2_takeFrom_21 : decode cX2_takeFrom 21 = .ok (.getfield 15, 3) := by decide +kernel
theorem dX2_takeFrom_24 : decode cX2_takeFrom 24 = .ok (.iconst 0, 1) := by decide +kernel
theorem dX2_takeFrom_25 : decode cX2_takeFrom 25 = .ok (.bipush 6, 2) := by decide +kernel
theorem dX2_takeFrom_27 : decode cX2_takeFrom 27 = .ok (.invokestatic 28, 3) := by decide +kernel
theorem dX2_takeFrom_30 : decode cX2_takeFrom 30 = .ok (.aload_n 1, 1) := by decide +kernel
theorem dX2_takeFrom_31 : decode cX2_takeFrom 31 = .ok (.getfield 18, 3) := by decide +kernel
theorem dX2_takeFrom_34 : decode cX2_takeFrom 34 = .ok (.iconst 0, 1) := by decide +kernel
theorem dX2_takeFrom_35 : decode cX2_takeFrom 35 = .ok (.aload_n 0, 1) := by decide +kernel
theorem dX2_takeFrom_36 : decode cX2_takeFrom 36 = .ok (.getfield 18, 3) := by decide +kernel
theorem dX2_takeFrom_39 : decode cX2_takeFrom 39 = .ok (.iconst 0, 1) := by decide +kernel
theorem dX2_takeFrom_40 : decode cX2_takeFrom 40 = .ok (.bipush 6, 2) := by decide +kernel
theorem dX2_takeFrom_42 : decode cX2_takeFrom 42 = .ok (.invokestatic 28, 3) := by decide +kernel
theorem dX2_takeFrom_45 : decode cX2_takeFrom 45 = .ok (.aload_n 1, 1) := by decide +kernel
theorem dX2_takeFrom_46 : decode cX2_takeFrom 46 = .ok (.getfield 21, 3) := by decide +kernel
theorem dX2_takeFrom_49 : decode cX2_takeFrom 49 = .ok (.iconst 0, 1) := by decide +kernel
theorem dX2_takeFrom_50 : decode cX2_takeFrom 50 = .ok (.aload_n 0, 1) := by decide +kernel
theorem dX2_takeFrom_51 : decode cX2_takeFrom 51 = .ok (.getfield 21, 3) := by decide +kernel
theorem dX2_takeFrom_54 : decode cX2_takeFrom 54 = .ok (.iconst 0, 1) := by decide +kernel
theorem dX2_takeFrom_55 : decode cX2_takeFrom 55 = .ok (.bipush 6, 2) := by decide +kernel
theorem dX2_takeFrom_57 : decode cX2_takeFrom 57 = .ok (.invokestatic 28, 3) := by decide +kernel
theorem dX2_takeFrom_60 : decode cX2_takeFrom 60 = .ok (.aload_n 0, 1) := by decide +kernel
theorem dX2_takeFrom_61 : decode cX2_takeFrom 61 = .ok (.aload_n 1, 1) := by decide +kernel
theorem dX2_takeFrom_62 : decode cX2_takeFrom 62 = .ok (.getfield 24, 3) := by decide +kernel
theorem dX2_takeFrom_65 : decode cX2_takeFrom 65 = .ok (.putfield 24, 3) := by decide +kernel
theorem dX2_takeFrom_68 : decode cX2_takeFrom 68 = .ok (.return_, 1) := by decide +kernel
set_option maxRecDepth 20000 in
theorem ggX2_level_J9_floorMod_7cf53 : GoodIn wsX2_level wsJ9_floorMod_7cf53 := goodIn_r _ [5] (by decide +kernel) (by decide +kernel)
set_option maxRecDepth 20000 in
theorem gX2_level_J9_floorMod_7cf53 : GoodIn wsX2_level (va_wsS RX2 34 yJ9_floorMod_7cf53 wsJ9_floorMod_7cf53) := goodIn_app (goodIn_of _ (by decide +kernel)) ggX2_level_J9_floorMod_7cf53
theorem dX2_level_0 : decode cX2_level 0 = .ok (.aload_n 0, 1) := by decide +kernel
theorem dX2_level_1 : decode cX2_level 1 = .ok (.getfield 9, 3) := by decide +kernel
theorem dX2_level_4 : decode cX2_level 4 = .ok (.iload_n 1, 1) := by decide +kernel
theorem dX2_level_5 : decode cX2_level 5 = .ok (.bipush 12, 2) := by decide +kernel
theorem dX2_level_7 : decode cX2_level 7 = .ok (.invokestatic 34, 3) := by decide +kernel
theorem dX2_level_10 : decode cX2_level 10 = .ok (.iaload, 1) := by decide +kernel
theorem dX2_level_11 : decode cX2_level 11 = .ok (.ireturn, 1) := by decide +kernel
set_option maxRecDepth 20000 in
theorem ggX2_rise_X2_level : GoodIn wsX2_rise wsX2_level := goodIn_r _ [5, 6, 7, 8, 9, 10, 11, 12, 13, 14, 15] (by decide +kernel) (by decide +kernel)
set_option maxRecDepth 20000 in
theorem gX2_rise_X2_level : GoodIn wsX2_rise (wsV RX2 40 RX2 yX2_level wsX2_level) := goodIn_app (goodIn_of _ (by decide +kernel)) ggX2_rise_X2_level
theorem dX2_rise_0 : decode cX2_rise 0 = .ok (.aload_n 0, 1) := by decide +kernel
theorem dX2_rise_1 : decode cX2_rise 1 = .ok (.iload_n 1, 1) := by decide +kernel
theorem dX2_rise_2 : decode cX2_rise 2 = .ok (.iconst 1, 1) := by decide +kernel
theorem dX2_rise_3 : decode cX2_rise 3 = .ok (.iadd, 1) := by decide +kernel
theorem dX2_rise_4 : decode cX2_rise 4 = .ok (.invokevirtual 40, 3) := by decide +kernel
theorem dX2_rise_7 : decode cX2_rise 7 = .ok (.aload_n 0, 1) := by decide +kernel
theorem dX2_rise_8 : decode cX2_rise 8 = .ok (.iload_n 1, 1) := by decide +kernel
theorem dX2_rise_9 : decode cX2_rise 9 = .ok (.invokevirtual 40, 3) := by decide +kernel
theorem dX2_rise_12 : decode cX2_rise 12 = .ok (.isub, 1) := by decide +kernel
theorem dX2_rise_13 : decode cX2_rise 13 = .ok (.ireturn, 1) := by decide +kernel
set_option maxRecDepth 20000 in
theorem ggX2_flow_X2_rise : GoodIn wsX2_flow wsX2_rise := goodIn_r _ [7, 8, 9, 10, 6, 11, 12, 13, 14, 15, 16, 17, 18, 19, 20, 21] (by decide +kernel) (by decide +kernel)
set_option maxRecDepth 20000 in
theorem gX2_flow_X2_rise : GoodIn wsX2_flow (wsV RX2 44 RX2 yX2_rise wsX2_rise) := goodIn_app (goodIn_of _ (by decide +kernel)) ggX2_flow_X2_rise
set_option maxRecDepth 20000 in
theorem ggX2_flow_X2_level : GoodIn wsX2_flow wsX2_level := goodIn_r _ [11, 12, 13, 14, 15, 16, 17, 18, 19, 20, 21] (by decide +kernel) (by decide +kernel)
set_option maxRecDepth 20000 in
theorem gX2_flow_X2_level : GoodIn wsX2_flow (wsV RX2 40 RX2 yX2_level wsX2_level) := goodIn_app (goodIn_of _ (by decide +kernel)) ggX2_flow_X2_level
theorem dX2_flow_0 : decode cX2_flow 0 = .ok (.aload_n 0, 1) := by decide +kernel
theorem dX2_flow_1 : decode cX2_flow 1 = .ok (.getfield 15, 3) := by decide +kernel
theorem dX2_flow_4 : decode cX2_flow 4 = .ok (.iload_n 1, 1) := by decide +kernel
theorem dX2_flow_5 : decode cX2_flow 5 = .ok (.iaload, 1) := by decide +kernel
theorem dX2_flow_6 : decode cX2_flow 6 = .ok (.tableswitch 82 1 5 #[34, 40, 48, 82, 74], 34) := by decide +kernel
theorem dX2_flow_40 : decode cX2_flow 40 = .ok (.aload_n 0, 1) := by decide +kernel
theorem dX2_flow_41 : decode cX2_flow 41 = .ok (.iload_n 2, 1) := by decide +kernel
theorem dX2_flow_42 : decode cX2_flow 42 = .ok (.invokevirtual 44, 3) := by decide +kernel
theorem dX2_flow_45 : decode cX2_flow 45 = .ok (.ireturn, 1) := by decide +kernel
theorem dX2_flow_46 : decode cX2_flow 46 = .ok (.aload_n 0, 1) := by decide +kernel
theorem dX2_flow_47 : decode cX2_flow 47 = .ok (.iload_n 2, 1) := by decide +kernel
theorem dX2_flow_48 : decode cX2_flow 48 = .ok (.invokevirtual 44, 3) := by decide +kernel
theorem dX2_flow_51 : decode cX2_flow 51 = .ok (.iconst 2, 1) := by decide +kernel
theorem dX2_flow_52 : decode cX2_flow 52 = .ok (.idiv, 1) := by decide +kernel
theorem dX2_flow_53 : decode cX2_flow 53 = .ok (.ireturn, 1) := by decide +kernel
theorem dX2_flow_54 : decode cX2_flow 54 = .ok (.aload_n 0, 1) := by decide +kernel
theorem dX2_flow_55 : decode cX2_flow 55 = .ok (.iload_n 2, 1) := by decide +kernel
theorem dX2_flow_56 : decode cX2_flow 56 = .ok (.iconst 1, 1) := by decide +kernel
theorem dX2_flow_57 : decode cX2_flow 57 = .ok (.iadd, 1) := by decide +kernel
theorem dX2_flow_58 : decode cX2_flow 58 = .ok (.invokevirtual 40, 3) := by decide +kernel
theorem dX2_flow_61 : decode cX2_flow 61 = .ok (.aload_n 0, 1) := by decide +kernel
theorem dX2_flow_62 : decode cX2_flow 62 = .ok (.getfield 21, 3) := by decide +kernel
theorem dX2_flow_65 : decode cX2_flow 65 = .ok (.iload_n 1, 1) := by decide +kernel
theorem dX2_flow_66 : decode cX2_flow 66 = .ok (.iaload, 1) := by decide +kernel
theorem dX2_flow_67 : decode cX2_flow 67 = .ok (.if_icmp .lt 11, 3) := by decide +kernel
theorem dX2_flow_70 : decode cX2_flow 70 = .ok (.aload_n 0, 1) := by decide +kernel
theorem dX2_flow_71 : decode cX2_flow 71 = .ok (.iload_n 2, 1) := by decide +kernel
theorem dX2_flow_72 : decode cX2_flow 72 = .ok (.invokevirtual 44, 3) := by decide +kernel
theorem dX2_flow_75 : decode cX2_flow 75 = .ok (.goto 4, 3) := by decide +kernel
theorem dX2_flow_78 : decode cX2_flow 78 = .ok (.iconst 0, 1) := by decide +kernel
theorem dX2_flow_79 : decode cX2_flow 79 = .ok (.ireturn, 1) := by decide +kernel
theorem dX2_flow_80 : decode cX2_flow 80 = .ok (.aload_n 0, 1) := by decide +kernel
theorem dX2_flow_81 : decode cX2_flow 81 = .ok (.iload_n 2, 1) := by decide +kernel
theorem dX2_flow_82 : decode cX2_flow 82 = .ok (.iconst 1, 1) := by decide +kernel
theorem dX2_flow_83 : decode cX2_flow 83 = .ok (.isub, 1) := by decide +kernel
theorem dX2_flow_84 : decode cX2_flow 84 = .ok (.invokevirtual 44, 3) := by decide +kernel
theorem dX2_flow_87 : decode cX2_flow 87 = .ok (.ireturn, 1) := by decide +kernel
theorem dX2_flow_88 : decode cX2_flow 88 = .ok (.iconst 0, 1) := by decide +kernel
theorem dX2_flow_89 : decode cX2_flow 89 = .ok (.ireturn, 1) := by decide +kernel
theorem dX2_isOne_0 : decode cX2_isOne 0 = .ok (.iload_n 0, 1) := by decide +kernel
theorem dX2_isOne_1 : decode cX2_isOne 1 = .ok (.istore_n 2, 1) := by decide +kernel
theorem dX2_isOne_2 : decode cX2_isOne 2 = .ok (.iconst 0, 1) := by decide +kernel
theorem dX2_isOne_3 : decode cX2_isOne 3 = .ok (.istore_n 3, 1) := by decide +kernel
theorem dX2_isOne_4 : decode cX2_isOne 4 = .ok (.iload_n 3, 1) := by decide +kernel
theorem dX2_isOne_5 : decode cX2_isOne 5 = .ok (.bipush 6, 2) := by decide +kernel
theorem dX2_isOne_7 : decode cX2_isOne 7 = .ok (.if_icmp .ge 24, 3) := by decide +kernel
theorem dX2_isOne_10 : decode cX2_isOne 10 = .ok (.iload_n 2, 1) := by decide +kernel
theorem dX2_isOne_11 : decode cX2_isOne 11 = .ok (.iload_n 1, 1) := by decide +kernel
theorem dX2_isOne_12 : decode cX2_isOne 12 = .ok (.if_icmp .eq 19, 3) := by decide +kernel
theorem dX2_isOne_15 : decode cX2_isOne 15 = .ok (.iload_n 2, 1) := by decide +kernel
theorem dX2_isOne_16 : decode cX2_isOne 16 = .ok (.ifCond .eq 15, 3) := by decide +kernel
theorem dX2_isOne_19 : decode cX2_isOne 19 = .ok (.getstatic 47, 3) := by decide +kernel
theorem dX2_isOne_22 : decode cX2_isOne 22 = .ok (.iload_n 2, 1) := by decide +kernel
theorem dX2_isOne_23 : decode cX2_isOne 23 = .ok (.iaload, 1) := by decide +kernel
theorem dX2_isOne_24 : decode cX2_isOne 24 = .ok (.istore_n 2, 1) := by decide +kernel
theorem dX2_isOne_25 : decode cX2_isOne 25 = .ok (.iinc 3 1, 3) := by decide +kernel
theorem dX2_isOne_28 : decode cX2_isOne 28 = .ok (.goto (-24), 3) := by decide +kernel
theorem dX2_isOne_31 : decode cX2_isOne 31 = .ok (.iload_n 2, 1) := by decide +kernel
theorem dX2_isOne_32 : decode cX2_isOne 32 = .ok (.iload_n 1, 1) := by decide +kernel
theorem dX2_isOne_33 : decode cX2_isOne 33 = .ok (.if_icmp .ne 7, 3) := by decide +kernel
theorem dX2_isOne_36 : decode cX2_isOne 36 = .ok (.iconst 1, 1) := by decide +kernel
theorem dX2_isOne_37 : decode cX2_isOne 37 = .ok (.goto 4, 3) := by decide +kernel
theorem dX2_isOne_40 : decode cX2_isOne 40 = .ok (.iconst 0, 1) := by decide +kernel
theorem dX2_isOne_41 : decode cX2_isOne 41 = .ok (.ireturn, 1) := by decide +kernel
theorem dX3_init_0 : decode cX3_init 0 = .ok (.aload_n 0, 1) := by decide +kernel
theorem dX3_init_1 : decode cX3_init 1 = .ok (.invokespecial 3, 3) := by decide +kernel
theorem dX3_init_4 : decode cX3_init 4 = .ok (.aload_n 0, 1) := by decide +kernel
theorem dX3_init_5 : decode cX3_init 5 = .ok (.bipush 6, 2) := by decide +kernel
theorem dX3_init_7 : decode cX3_init 7 = .ok (.newarray .int, 2) := by decide +kernel
theorem dX3_init_9 : decode cX3_init 9 = .ok (.putfield 9, 3) := by decide +kernel
theorem dX3_init_12 : decode cX3_init 12 = .ok (.aload_n 0, 1) := by decide +kernel
theorem dX3_init_13 : decode cX3_init 13 = .ok (.bipush 6, 2) := by decide +kernel
theorem dX3_init_15 : decode cX3_init 15 = .ok (.newarray .int, 2) := by decide +kernel
theorem dX3_init_17 : decode cX3_init 17 = .ok (.putfield 15, 3) := by decide +kernel
theorem dX3_init_20 : decode cX3_init 20 = .ok (.aload_n 0, 1) := by decide +kernel
theorem dX3_init_21 : decode cX3_init 21 = .ok (.bipush 36, 2) := by decide +kernel
theorem dX3_init_23 : decode cX3_init 23 = .ok (.newarray .int, 2) := by decide +kernel
theorem dX3_init_25 : decode cX3_init 25 = .ok (.putfield 18, 3) := by decide +kernel
theorem dX3_init_28 : decode cX3_init 28 = .ok (.return_, 1) := by decide +kernel
set_option maxRecDepth 20000 in
theorem ggX3_open_J7_fill_53178 : GoodIn wsX3_open wsJ7_fill_53178 := goodIn_r _ [14] (by decide +kernel) (by decide +kernel)
set_option maxRecDepth 20000 in
theorem gX3_open_J7_fill_53178 : GoodIn wsX3_open (va_wsS RX3 25 yJ7_fill_53178 wsJ7_fill_53178) := goodIn_app (goodIn_of _ (by decide +kernel)) ggX3_open_J7_fill_53178
theorem dX3_open_0 : decode cX3_open 0 = .ok (.aload_n 0, 1) := by decide +kernel
theorem dX3_open_1 : decode cX3_open 1 = .ok (.iconst 0, 1) := by decide +kernel
theorem dX3_open_2 : decode cX3_open 2 = .ok (.putfield 21, 3) := by decide +kernel
theorem dX3_open_5 : decode cX3_open 5 = .ok (.aload_n 0, 1) := by decide +kernel
theorem dX3_open_6 : decode cX3_open 6 = .ok (.getfield 9, 3) := by decide +kernel
theorem dX3_open_9 : decode cX3_open 9 = .ok (.iconst 0, 1) := by decide +kernel
theorem dX3_open_10 : decode cX3_open 10 = .ok (.invokestatic 25, 3) := by decide +kernel
theorem dX3_open_13 : decode cX3_open 13 = .ok (.aload_n 0, 1) := by decide +kernel
theorem dX3_open_14 : decode cX3_open 14 = .ok (.getfield 15, 3) := by decide +kernel
theorem dX3_open_17 : decode cX3_open 17 = .ok (.iconst 0, 1) := by decide +kernel
theorem dX3_open_18 : decode cX3_open 18 = .ok (.invokestatic 25, 3) := by decide +kernel
theorem dX3_open_21 : decode cX3_open 21 = .ok (.aload_n 0, 1) := by decide +kernel
theorem dX3_open_22 : decode cX3_open 22 = .ok (.getfield 18, 3) := by decide +kernel
theorem dX3_open_25 : decode cX3_open 25 = .ok (.iconst 0, 1) := by decide +kernel
theorem dX3_open_26 : decode cX3_open 26 = .ok (.invokestatic 25, 3) := by decide +kernel
theorem dX3_open_29 : decode cX3_open 29 = .ok (.aload_n 1, 1) := by decide +kernel
theorem dX3_open_30 : decode cX3_open 30 = .ok (.getfield 31, 3) := by decide +kernel
theorem dX3_open_33 : decode cX3_open 33 = .ok (.iconst 0, 1) := by decide +kernel
theorem dX3_open_34 : decode cX3_open 34 = .ok (.aload_n 0, 1) := by decide +kernel
theorem dX3_open_35 : decode cX3_open 35 = .ok (.getfield 9, 3) := by decide +kernel
theorem dX3_open_38 : decode cX3_open 38 = .ok (.iconst 0, 1) := by decide +kernel
theorem dX3_open_39 : decode cX3_open 39 = .ok (.aload_n 1, 1) := by decide +kernel
theorem dX3_open_40 : decode cX3_open 40 = .ok (.getfield 34, 3) := by decide +kernel
theorem dX3_open_43 : decode cX3_open 43 = .ok (.invokestatic 37, 3) := by decide +kernel
theorem dX3_open_46 : decode cX3_open 46 = .ok (.return_, 1) := by decide +kernel
theorem dX3_takeFrom_0 : decode cX3_takeFrom 0 = .ok (.aload_n 1, 1) := by decide +kernel
theorem dX3_takeFrom_1 : decode cX3_takeFrom 1 = .ok (.getfield 9, 3) := by decide +kernel
theorem dX3_takeFrom_4 : decode cX3_takeFrom 4 = .ok (.iconst 0, 1) := by decide +kernel
theorem dX3_takeFrom_5 : decode cX3_takeFrom 5 = .ok (.aload_n 0, 1) := by decide +kernel
theorem dX3_takeFrom_6 : decode cX3_takeFrom 6 = .ok (.getfield 9, 3) := by decide +kernel
theorem dX3_takeFrom_9 : decode cX3_takeFrom 9 = .ok (.iconst 0, 1) := by decide +kernel
theorem dX3_takeFrom_10 : decode cX3_takeFrom 10 = .ok (.bipush 6, 2) := by decide +kernel
theorem dX3_takeFrom_12 : decode cX3_takeFrom 12 = .ok (.invokestatic 37, 3) := by decide +kernel
theorem dX3_takeFrom_15 : decode cX3_takeFrom 15 = .ok (.aload_n 1, 1) := by decide +kernel
theorem dX3_takeFrom_16 : decode cX3_takeFrom 16 = .ok (.getfield 15, 3) := by decide +kernel
theorem dX3_takeFrom_19 : decode cX3_takeFrom 19 = .ok (.iconst 0, 1) := by decide +kernel
theorem dX3_takeFrom_20 : decode cX3_takeFrom 20 = .ok (.aload_n 0, 1) := by decide +kernel
theorem dX3_takeFrom_21 : decode cX3_takeFrom 21 = .ok (.getfield 15, 3) := by decide +kernel
theorem dX3_takeFrom_24 : decode cX3_takeFrom 24 = .ok (.iconst 0, 1) := by decide +kernel
theorem dX3_takeFrom_25 : decode cX3_takeFrom 25 = .ok (.bipush 6, 2) := by decide +kernel
theorem dX3_takeFrom_27 : decode cX3_takeFrom 27 = .ok (.invokestatic 37, 3) := by decide +kernel
theorem dX3_takeFrom_30 : decode cX3_takeFrom 30 = .ok (.aload_n 1, 1) := by decide +kernel
theorem dX3_takeFrom_31 : decode cX3_takeFrom 31 = .ok (.getfield 18, 3) := by decide +kernel
theorem dX3_takeFrom_34 : decode cX3_takeFrom 34 = .ok (.iconst 0, 1) := by decide +kernel
theorem dX3_takeFrom_35 : decode cX3_takeFrom 35 = .ok (.aload_n 0, 1) := by decide +kernel
theorem dX3_takeFrom_36 : decode cX3_takeFrom 36 = .ok (.getfield 18, 3) := by decide +kernel
theorem dX3_takeFrom_39 : decode cX3_takeFrom 39 = .ok (.iconst 0, 1) := by decide +kernel
theorem dX3_takeFrom_40 : decode cX3_takeFrom 40 = .ok (.aload_n 0, 1) := by decide +kernel
theorem dX3_takeFrom_41 : decode cX3_takeFrom 41 = .ok (.getfield 18, 3) := by decide +kernel
theorem dX3_takeFrom_44 : decode cX3_takeFrom 44 = .ok (.arraylength, 1) := by decide +kernel
theorem dX3_takeFrom_45 : decode cX3_takeFrom 45 = .ok (.invokestatic 37, 3) := by decide +kernel
theorem dX3_takeFrom_48 : decode cX3_takeFrom 48 = .ok (.aload_n 0, 1) := by decide +kernel
theorem dX3_takeFrom_49 : decode cX3_takeFrom 49 = .ok (.aload_n 1, 1) := by decide +kernel
theorem dX3_takeFrom_50 : decode cX3_takeFrom 50 = .ok (.getfield 21, 3) := by decide +kernel
theorem dX3_takeFrom_53 : decode cX3_takeFrom 53 = .ok (.putfield 21, 3) := by decide +kernel
theorem dX3_takeFrom_56 : decode cX3_takeFrom 56 = .ok (.return_, 1) := by decide +kernel
theorem dX3_debt_0 : decode cX3_debt 0 = .ok (.aload_n 0, 1) := by decide +kernel
theorem dX3_debt_1 : decode cX3_debt 1 = .ok (.getfield 18, 3) := by decide +kernel
theorem dX3_debt_4 : decode cX3_debt 4 = .ok (.iload_n 1, 1) := by decide +kernel
theorem dX3_debt_5 : decode cX3_debt 5 = .ok (.bipush 6, 2) := by decide +kernel
theorem dX3_debt_7 : decode cX3_debt 7 = .ok (.imul, 1) := by decide +kernel
theorem dX3_debt_8 : decode cX3_debt 8 = .ok (.iload_n 2, 1) := by decide +kernel
theorem dX3_debt_9 : decode cX3_debt 9 = .ok (.iadd, 1) := by decide +kernel
theorem dX3_debt_10 : decode cX3_debt 10 = .ok (.iaload, 1) := by decide +kernel
theorem dX3_debt_11 : decode cX3_debt 11 = .ok (.ireturn, 1) := by decide +kernel
set_option maxRecDepth 20000 in
theorem ggX3_addDebt_X3_debt : GoodIn wsX3_addDebt wsX3_debt := goodIn_r _ [6, 1, 7, 8, 9, 10] (by decide +kernel) (by decide +kernel)
set_option maxRecDepth 20000 in
theorem gX3_addDebt_X3_debt : GoodIn wsX3_addDebt (wsV RX3 43 RX3 yX3_debt wsX3_debt) := goodIn_app (goodIn_of _ (by decide +kernel)) ggX3_addDebt_X3_debt
theorem dX3_addDebt_0 : decode cX3_addDebt 0 = .ok (.aload_n 0, 1) := by decide +kernel
theorem dX3_addDebt_1 : decode cX3_addDebt 1 = .ok (.getfield 18, 3) := by decide +kernel
theorem dX3_addDebt_4 : decode cX3_addDebt 4 = .ok (.iload_n 1, 1) := by decide +kernel
theorem dX3_addDebt_5 : decode cX3_addDebt 5 = .ok (.bipush 6, 2) := by decide +kernel
theorem dX3_addDebt_7 : decode cX3_addDebt 7 = .ok (.imul, 1) := by decide +kernel
theorem dX3_addDebt_8 : decode cX3_addDebt 8 = .ok (.iload_n 2, 1) := by decide +kernel
theorem dX3_addDebt_9 : decode cX3_addDebt 9 = .ok (.iadd, 1) := by decide +kernel
theorem dX3_addDebt_10 : decode cX3_addDebt 10 = .ok (.dup2, 1) := by decide +kernel
theorem dX3_addDebt_11 : decode cX3_addDebt 11 = .ok (.iaload, 1) := by decide +kernel
theorem dX3_addDebt_12 : decode cX3_addDebt 12 = .ok (.iload_n 3, 1) := by decide +kernel
theorem dX3_addDebt_13 : decode cX3_addDebt 13 = .ok (.iadd, 1) := by decide +kernel
theorem dX3_addDebt_14 : decode cX3_addDebt 14 = .ok (.iastore, 1) := by decide +kernel
theorem dX3_addDebt_15 : decode cX3_addDebt 15 = .ok (.aload_n 0, 1) := by decide +kernel
theorem dX3_addDebt_16 : decode cX3_addDebt 16 = .ok (.iload_n 1, 1) := by decide +kernel
theorem dX3_addDebt_17 : decode cX3_addDebt 17 = .ok (.iload_n 2, 1) := by decide +kernel
theorem dX3_addDebt_18 : decode cX3_addDebt 18 = .ok (.invokevirtual 43, 3) := by decide +kernel
theorem dX3_addDebt_21 : decode cX3_addDebt 21 = .ok (.ireturn, 1) := by decide +kernel
theorem dX3_move_0 : decode cX3_move 0 = .ok (.aload_n 0, 1) := by decide +kernel
theorem dX3_move_1 : decode cX3_move 1 = .ok (.getfield 9, 3) := by decide +kernel
theorem dX3_move_4 : decode cX3_move 4 = .ok (.iload_n 1, 1) := by decide +kernel
theorem dX3_move_5 : decode cX3_move 5 = .ok (.dup2, 1) := by decide +kernel
theorem dX3_move_6 : decode cX3_move 6 = .ok (.iaload, 1) := by decide +kernel
theorem dX3_move_7 : decode cX3_move 7 = .ok (.iload_n 3, 1) := by decide +kernel
theorem dX3_move_8 : decode cX3_move 8 = .ok (.isub, 1) := by decide +kernel
theorem dX3_move_9 : decode cX3_move 9 = .ok (.iastore, 1) := by decide +kernel
theorem dX3_move_10 : decode cX3_move 10 = .ok (.aload_n 0, 1) := by decide +kernel
theorem dX3_move_11 : decode cX3_move 11 = .ok (.getfield 9, 3) := by decide +kernel
theorem dX3_move_14 : decode cX3_move 14 = .ok (.iload_n 2, 1) := by decide +kernel
theorem dX3_move_15 : decode cX3_move 15 = .ok (.dup2, 1) := by decide +kernel
theorem dX3_move_16 : decode cX3_move 16 = .ok (.iaload, 1) := by decide +kernel
theorem dX3_move_17 : decode cX3_move 17 = .ok (.iload_n 3, 1) := by decide +kernel
theorem dX3_move_18 : decode cX3_move 18 = .ok (.iadd, 1) := by decide +kernel
theorem dX3_move_19 : decode cX3_move 19 = .ok (.iastore, 1) := by decide +kernel
theorem dX3_move_20 : decode cX3_move 20 = .ok (.return_, 1) := by decide +kernel
set_option maxRecDepth 20000 in
theorem ggX3_passHours_X3_passHour : GoodIn wsX3_passHours wsX3_passHour := goodIn_r _ [5, 6, 7, 8, 9, 10, 11, 12, 13, 14, 15, 16, 17, 18, 19, 20, 21, 22, 23, 24, 25, 26, 27, 28, 29, 30, 31, 4, 32, 33, 34, 35, 36, 37, 38, 39, 40, 41, 42, 43, 44, 45, 46, 47, 48, 49, 50, 51, 52] (by decide +kernel) (by decide +kernel)
set_option maxRecDepth 20000 in
theorem gX3_passHours_X3_passHour : GoodIn wsX3_passHours (wsV RX3 47 RX3 yX3_passHour wsX3_passHour) := goodIn_app (goodIn_of _ (by decide +kernel)) ggX3_passHours_X3_passHour
theorem dX3_passHours_0 : decode cX3_passHours 0 = .ok (.iconst 0, 1) := by decide +kernel
theorem dX3_passHours_1 : decode cX3_passHours 1 = .ok (.istore_n 3, 1) := by decide +kernel
theorem dX3_passHours_2 : decode cX3_passHours 2 = .ok (.iload_n 3, 1) := by decide +kernel
theorem dX3_passHours_3 : decode cX3_passHours 3 = .ok (.iload_n 2, 1) := by decide +kernel
theorem dX3_passHours_4 : decode cX3_passHours 4 = .ok (.if_icmp .ge 15, 3) := by decide +kernel
theorem dX3_passHours_7 : decode cX3_passHours 7 = .ok (.aload_n 0, 1) := by decide +kernel
theorem dX3_passHours_8 : decode cX3_passHours 8 = .ok (.aload_n 1, 1) := by decide +kernel
theorem dX3_passHours_9 : decode cX3_passHours 9 = .ok (.invokevirtual 47, 3) := by decide +kernel
theorem dX3_passHours_12 : decode cX3_passHours 12 = .ok (.pop, 1) := by decide +kernel
theorem dX3_passHours_13 : decode cX3_passHours 13 = .ok (.iinc 3 1, 3) := by decide +kernel
theorem dX3_passHours_16 : decode cX3_passHours 16 = .ok (.goto (-14), 3) := by decide +kernel
theorem dX3_passHours_19 : decode cX3_passHours 19 = .ok (.return_, 1) := by decide +kernel
set_option maxRecDepth 20000 in
theorem ggX3_passHour_X2_rise : GoodIn wsX3_passHour wsX2_rise := goodIn_r _ [7, 8, 9, 10, 6, 11, 12, 13, 14, 15, 16, 44, 45, 46, 47, 48] (by decide +kernel) (by decide +kernel)
set_option maxRecDepth 20000 in
theorem gX3_passHour_X2_rise : GoodIn wsX3_passHour (wsV RX3 51 RX2 yX2_rise wsX2_rise) := goodIn_app (goodIn_of _ (by decide +kernel)) ggX3_passHour_X2_rise
set_option maxRecDepth 20000 in
theorem ggX3_passHour_X2_flow : GoodIn wsX3_passHour wsX2_flow := goodIn_r _ [20, 21, 22, 23, 4, 5, 6, 7, 8, 9, 10, 11, 12, 13, 14, 15, 16, 44, 45, 46, 47, 48] (by decide +kernel) (by decide +kernel)
set_option maxRecDepth 20000 in
theorem gX3_passHour_X2_flow : GoodIn wsX3_passHour (wsV RX3 55 RX2 yX2_flow wsX2_flow) := goodIn_app (goodIn_of _ (by decide +kernel)) ggX3_passHour_X2_flow
set_option maxRecDepth 20000 in
theorem ggX3_passHour_X3_takeOrGive : GoodIn wsX3_passHour wsX3_takeOrGive := goodIn_r _ [28, 29, 30, 31, 32, 33, 34, 40, 41, 42, 43] (by decide +kernel) (by decide +kernel)
set_option maxRecDepth 20000 in
theorem gX3_passHour_X3_takeOrGive : GoodIn wsX3_passHour (wsV RX3 58 RX3 yX3_takeOrGive wsX3_takeOrGive) := goodIn_app (goodIn_of _ (by decide +kernel)) ggX3_passHour_X3_takeOrGive
set_option maxRecDepth 20000 in
theorem ggX3_passHour_X3_growDebts : GoodIn wsX3_passHour wsX3_growDebts := goodIn_r _ [38, 39, 30, 31, 32, 33, 40, 41, 42, 43] (by decide +kernel) (by decide +kernel)
set_option maxRecDepth 20000 in
theorem gX3_passHour_X3_growDebts : GoodIn wsX3_passHour (wsV RX3 62 RX3 yX3_growDebts wsX3_growDebts) := goodIn_app (goodIn_of _ (by decide +kernel)) ggX3_passHour_X3_growDebts
theorem dX3_passHour_0 : decode cX3_passHour 0 = .ok (.aload_n 1, 1) := by decide +kernel
theorem dX3_passHour_1 : decode cX3_passHour 1 = .ok (.aload_n 0, 1) := by decide +kernel
theorem dX3_passHour_2 : decode cX3_passHour 2 = .ok (.getfield 21, 3) := by decide +kernel
theorem dX3_passHour_5 : decode cX3_passHour 5 = .ok (.invokevirtual 51, 3) := by decide +kernel
theorem dX3_passHour_8 : decode cX3_passHour 8 = .ok (.istore_n 2, 1) := by decide +kernel
theorem dX3_passHour_9 : decode cX3_passHour 9 = .ok (.iconst 0, 1) := by decide +kernel
theorem dX3_passHour_10 : decode cX3_passHour 10 = .ok (.istore_n 3, 1) := by decide +kernel
theorem dX3_passHour_11 : decode cX3_passHour 11 = .ok (.iload_n 3, 1) := by decide +kernel
theorem dX3_passHour_12 : decode cX3_passHour 12 = .ok (.aload_n 1, 1) := by decide +kernel
theorem dX3_passHour_13 : decode cX3_passHour 13 = .ok (.getfield 34, 3) := by decide +kernel
theorem dX3_passHour_16 : decode cX3_passHour 16 = .ok (.if_icmp .ge 23, 3) := by decide +kernel
theorem dX3_passHour_19 : decode cX3_passHour 19 = .ok (.aload_n 0, 1) := by decide +kernel
theorem dX3_passHour_20 : decode cX3_passHour 20 = .ok (.iload_n 3, 1) := by decide +kernel
theorem dX3_passHour_21 : decode cX3_passHour 21 = .ok (.aload_n 1, 1) := by decide +kernel
theorem dX3_passHour_22 : decode cX3_passHour 22 = .ok (.iload_n 3, 1) := by decide +kernel
theorem dX3_passHour_23 : decode cX3_passHour 23 = .ok (.aload_n 0, 1) := by decide +kernel
theorem dX3_passHour_24 : decode cX3_passHour 24 = .ok (.getfield 21, 3) := by decide +kernel
theorem dX3_passHour_27 : decode cX3_passHour 27 = .ok (.invokevirtual 55, 3) := by decide +kernel
theorem dX3_passHour_30 : decode cX3_passHour 30 = .ok (.invokevirtual 58, 3) := by decide +kernel
theorem dX3_passHour_33 : decode cX3_passHour 33 = .ok (.iinc 3 1, 3) := by decide +kernel
theorem dX3_passHour_36 : decode cX3_passHour 36 = .ok (.goto (-25), 3) := by decide +kernel
theorem dX3_passHour_39 : decode cX3_passHour 39 = .ok (.iload_n 2, 1) := by decide +kernel
theorem dX3_passHour_40 : decode cX3_passHour 40 = .ok (.iconst (-1), 1) := by decide +kernel
theorem dX3_passHour_41 : decode cX3_passHour 41 = .ok (.if_icmp .lt 12, 3) := by decide +kernel
theorem dX3_passHour_44 : decode cX3_passHour 44 = .ok (.iload_n 2, 1) := by decide +kernel
theorem dX3_passHour_45 : decode cX3_passHour 45 = .ok (.iconst 1, 1) := by decide +kernel
theorem dX3_passHour_46 : decode cX3_passHour 46 = .ok (.if_icmp .gt 7, 3) := by decide +kernel
theorem dX3_passHour_49 : decode cX3_passHour 49 = .ok (.aload_n 0, 1) := by decide +kernel
theorem dX3_passHour_50 : decode cX3_passHour 50 = .ok (.invokevirtual 62, 3) := by decide +kernel
theorem dX3_passHour_53 : decode cX3_passHour 53 = .ok (.aload_n 0, 1) := by decide +kernel
theorem dX3_passHour_54 : decode cX3_passHour 54 = .ok (.dup, 1) := by decide +kernel
theorem dX3_passHour_55 : decode cX3_passHour 55 = .ok (.getfield 21, 3) := by decide +kernel
theorem dX3_passHour_58 : decode cX3_passHour 58 = .ok (.iconst 1, 1) := by decide +kernel
theorem dX3_passHour_59 : decode cX3_passHour 59 = .ok (.iadd, 1) := by decide +kernel
theorem dX3_passHour_60 : decode cX3_passHour 60 = .ok (.putfield 21, 3) := by decide +kernel
theorem dX3_passHour_63 : decode cX3_passHour 63 = .ok (.iload_n 2, 1) := by decide +kernel
theorem dX3_passHour_64 : decode cX3_passHour 64 = .ok (.ireturn, 1) := by decide +kernel
theorem dX3_takeOrGive_0 : decode cX3_takeOrGive 0 = .ok (.iload_n 2, 1) := by decide +kernel
theorem dX3_takeOrGive_1 : decode cX3_takeOrGive 1 = .ok (.ifCond .lt 39, 3) := by decide +kernel
theorem dX3_takeOrGive_4 : decode cX3_takeOrGive 4 = .ok (.iload_n 2, 1) := by decide +kernel
theorem dX3_takeOrGive_5 : decode cX3_takeOrGive 5 = .ok (.aload_n 0, 1) := by decide +kernel
theorem dX3_takeOrGive_6 : decode cX3_takeOrGive 6 = .ok (.getfield 15, 3) := by decide +kernel
theorem dX3_takeOrGive_9 : decode cX3_takeOrGive 9 = .ok (.iload_n 1, 1) := by decide +kernel
theorem dX3_takeOrGive_10 : decode cX3_takeOrGive 10 = .ok (.iaload, 1) := by decide +kernel
theorem dX3_takeOrGive_11 : decode cX3_takeOrGive 11 = .ok (.invokestatic 65, 3) := by decide +kernel
theorem dX3_takeOrGive_14 : decode cX3_takeOrGive 14 = .ok (.istore_n 3, 1) := by decide +kernel
theorem dX3_takeOrGive_15 : decode cX3_takeOrGive 15 = .ok (.aload_n 0, 1) := by decide +kernel
theorem dX3_takeOrGive_16 : decode cX3_takeOrGive 16 = .ok (.getfield 15, 3) := by decide +kernel
theorem dX3_takeOrGive_19 : decode cX3_takeOrGive 19 = .ok (.iload_n 1, 1) := by decide +kernel
theorem dX3_takeOrGive_20 : decode cX3_takeOrGive 20 = .ok (.dup2, 1) := by decide +kernel
theorem dX3_takeOrGive_21 : decode cX3_takeOrGive 21 = .ok (.iaload, 1) := by decide +kernel
theorem dX3_takeOrGive_22 : decode cX3_takeOrGive 22 = .ok (.iload_n 3, 1) := by decide +kernel
theorem dX3_takeOrGive_23 : decode cX3_takeOrGive 23 = .ok (.isub, 1) := by decide +kernel
theorem dX3_takeOrGive_24 : decode cX3_takeOrGive 24 = .ok (.iastore, 1) := by decide +kernel
theorem dX3_takeOrGive_25 : decode cX3_takeOrGive 25 = .ok (.aload_n 0, 1) := by decide +kernel
theorem dX3_takeOrGive_26 : decode cX3_takeOrGive 26 = .ok (.getfield 9, 3) := by decide +kernel
theorem dX3_takeOrGive_29 : decode cX3_takeOrGive 29 = .ok (.iload_n 1, 1) := by decide +kernel
theorem dX3_takeOrGive_30 : decode cX3_takeOrGive 30 = .ok (.dup2, 1) := by decide +kernel
theorem dX3_takeOrGive_31 : decode cX3_takeOrGive 31 = .ok (.iaload, 1) := by decide +kernel
theorem dX3_takeOrGive_32 : decode cX3_takeOrGive 32 = .ok (.iload_n 2, 1) := by decide +kernel
theorem dX3_takeOrGive_33 : decode cX3_takeOrGive 33 = .ok (.iload_n 3, 1) := by decide +kernel
theorem dX3_takeOrGive_34 : decode cX3_takeOrGive 34 = .ok (.isub, 1) := by decide +kernel
theorem dX3_takeOrGive_35 : decode cX3_takeOrGive 35 = .ok (.iadd, 1) := by decide +kernel
theorem dX3_takeOrGive_36 : decode cX3_takeOrGive 36 = .ok (.iastore, 1) := by decide +kernel
theorem dX3_takeOrGive_37 : decode cX3_takeOrGive 37 = .ok (.goto 38, 3) := by decide +kernel
theorem dX3_takeOrGive_40 : decode cX3_takeOrGive 40 = .ok (.iload_n 2, 1) := by decide +kernel
theorem dX3_takeOrGive_41 : decode cX3_takeOrGive 41 = .ok (.ineg, 1) := by decide +kernel
theorem dX3_takeOrGive_42 : decode cX3_takeOrGive 42 = .ok (.aload_n 0, 1) := by decide +kernel
theorem dX3_takeOrGive_43 : decode cX3_takeOrGive 43 = .ok (.getfield 9, 3) := by decide +kernel
theorem dX3_takeOrGive_46 : decode cX3_takeOrGive 46 = .ok (.iload_n 1, 1) := by decide +kernel
theorem dX3_takeOrGive_47 : decode cX3_takeOrGive 47 = .ok (.iaload, 1) := by decide +kernel
theorem dX3_takeOrGive_48 : decode cX3_takeOrGive 48 = .ok (.invokestatic 65, 3) := by decide +kernel
theorem dX3_takeOrGive_51 : decode cX3_takeOrGive 51 = .ok (.istore_n 3, 1) := by decide +kernel
theorem dX3_takeOrGive_52 : decode cX3_takeOrGive 52 = .ok (.aload_n 0, 1) := by decide +kernel
theorem dX3_takeOrGive_53 : decode cX3_takeOrGive 53 = .ok (.getfield 9, 3) := by decide +kernel
theorem dX3_takeOrGive_56 : decode cX3_takeOrGive 56 = .ok (.iload_n 1, 1) := by decide +kernel
theorem dX3_takeOrGive_57 : decode cX3_takeOrGive 57 = .ok (.dup2, 1) := by decide +kernel
theorem dX3_takeOrGive_58 : decode cX3_takeOrGive 58 = .ok (.iaload, 1) := by decide +kernel
theorem dX3_takeOrGive_59 : decode cX3_takeOrGive 59 = .ok (.iload_n 3, 1) := by decide +kernel
theorem dX3_takeOrGive_60 : decode cX3_takeOrGive 60 = .ok (.isub, 1) := by decide +kernel
theorem dX3_takeOrGive_61 : decode cX3_takeOrGive 61 = .ok (.iastore, 1) := by decide +kernel
theorem dX3_takeOrGive_62 : decode cX3_takeOrGive 62 = .ok (.aload_n 0, 1) := by decide +kernel
theorem dX3_takeOrGive_63 : decode cX3_takeOrGive 63 = .ok (.getfield 15, 3) := by decide +kernel
theorem dX3_takeOrGive_66 : decode cX3_takeOrGive 66 = .ok (.iload_n 1, 1) := by decide +kernel
theorem dX3_takeOrGive_67 : decode cX3_takeOrGive 67 = .ok (.dup2, 1) := by decide +kernel
theorem dX3_takeOrGive_68 : decode cX3_takeOrGive 68 = .ok (.iaload, 1) := by decide +kernel
theorem dX3_takeOrGive_69 : decode cX3_takeOrGive 69 = .ok (.iload_n 2, 1) := by decide +kernel
theorem dX3_takeOrGive_70 : decode cX3_takeOrGive 70 = .ok (.ineg, 1) := by decide +kernel
theorem dX3_takeOrGive_71 : decode cX3_takeOrGive 71 = .ok (.iload_n 3, 1) := by decide +kernel
theorem dX3_takeOrGive_72 : decode cX3_takeOrGive 72 = .ok (.isub, 1) := by decide +kernel
theorem dX3_takeOrGive_73 : decode cX3_takeOrGive 73 = .ok (.iadd, 1) := by decide +kernel
theorem dX3_takeOrGive_74 : decode cX3_takeOrGive 74 = .ok (.iastore, 1) := by decide +kernel
theorem dX3_takeOrGive_75 : decode cX3_takeOrGive 75 = .ok (.return_, 1) := by decide +kernel
theorem dX3_growDebts_0 : decode cX3_growDebts 0 = .ok (.iconst 0, 1) := by decide +kernel
theorem dX3_growDebts_1 : decode cX3_growDebts 1 = .ok (.istore_n 1, 1) := by decide +kernel
theorem dX3_growDebts_2 : decode cX3_growDebts 2 = .ok (.iload_n 1, 1) := by decide +kernel
theorem dX3_growDebts_3 : decode cX3_growDebts 3 = .ok (.aload_n 0, 1) := by decide +kernel
theorem dX3_growDebts_4 : decode cX3_growDebts 4 = .ok (.getfield 18, 3) := by decide +kernel
theorem dX3_growDebts_7 : decode cX3_growDebts 7 = .ok (.arraylength, 1) := by decide +kernel
theorem dX3_growDebts_8 : decode cX3_growDebts 8 = .ok (.if_icmp .ge 37, 3) := by decide +kernel
theorem dX3_growDebts_11 : decode cX3_growDebts 11 = .ok (.aload_n 0, 1) := by decide +kernel
theorem dX3_growDebts_12 : decode cX3_growDebts 12 = .ok (.getfield 18, 3) := by decide +kernel
theorem dX3_growDebts_15 : decode cX3_growDebts 15 = .ok (.iload_n 1, 1) := by decide +kernel
theorem dX3_growDebts_16 : decode cX3_growDebts 16 = .ok (.aload_n 0, 1) := by decide +kernel
theorem dX3_growDebts_17 : decode cX3_growDebts 17 = .ok (.getfield 18, 3) := by decide +kernel
theorem dX3_growDebts_20 : decode cX3_growDebts 20 = .ok (.iload_n 1, 1) := by decide +kernel
theorem dX3_growDebts_21 : decode cX3_growDebts 21 = .ok (.iaload, 1) := by decide +kernel
theorem dX3_growDebts_22 : decode cX3_growDebts 22 = .ok (.aload_n 0, 1) := by decide +kernel
theorem dX3_growDebts_23 : decode cX3_growDebts 23 = .ok (.getfield 18, 3) := by decide +kernel
theorem dX3_growDebts_26 : decode cX3_growDebts 26 = .ok (.iload_n 1, 1) := by decide +kernel
theorem dX3_growDebts_27 : decode cX3_growDebts 27 = .ok (.iaload, 1) := by decide +kernel
theorem dX3_growDebts_28 : decode cX3_growDebts 28 = .ok (.bipush 10, 2) := by decide +kernel
theorem dX3_growDebts_30 : decode cX3_growDebts 30 = .ok (.idiv, 1) := by decide +kernel
theorem dX3_growDebts_31 : decode cX3_growDebts 31 = .ok (.iadd, 1) := by decide +kernel
theorem dX3_growDebts_32 : decode cX3_growDebts 32 = .ok (.sipush 9999, 3) := by decide +kernel
theorem dX3_growDebts_35 : decode cX3_growDebts 35 = .ok (.invokestatic 65, 3) := by decide +kernel
theorem dX3_growDebts_38 : decode cX3_growDebts 38 = .ok (.iastore, 1) := by decide +kernel
theorem dX3_growDebts_39 : decode cX3_growDebts 39 = .ok (.iinc 1 1, 3) := by decide +kernel
theorem dX3_growDebts_42 : decode cX3_growDebts 42 = .ok (.goto (-40), 3) := by decide +kernel
theorem dX3_growDebts_45 : decode cX3_growDebts 45 = .ok (.return_, 1) := by decide +kernel
theorem dX3_advance_0 : decode cX3_advance 0 = .ok (.iload_n 1, 1) := by decide +kernel
theorem dX3_advance_1 : decode cX3_advance 1 = .ok (.i2l, 1) := by decide +kernel
theorem dX3_advance_2 : decode cX3_advance 2 = .ok (.lstore_n 3, 1) := by decide +kernel
theorem dX3_advance_3 : decode cX3_advance 3 = .ok (.iconst 0, 1) := by decide +kernel
theorem dX3_advance_4 : decode cX3_advance 4 = .ok (.istore 5, 2) := by decide +kernel
theorem dX3_advance_6 : decode cX3_advance 6 = .ok (.iconst 0, 1) := by decide +kernel
theorem dX3_advance_7 : decode cX3_advance 7 = .ok (.istore 6, 2) := by decide +kernel
theorem dX3_advance_9 : decode cX3_advance 9 = .ok (.iload 6, 2) := by decide +kernel
theorem dX3_advance_11 : decode cX3_advance 11 = .ok (.iload_n 2, 1) := by decide +kernel
theorem dX3_advance_12 : decode cX3_advance 12 = .ok (.if_icmp .ge 58, 3) := by decide +kernel
theorem dX3_advance_15 : decode cX3_advance 15 = .ok (.lload_n 3, 1) := by decide +kernel
theorem dX3_advance_16 : decode cX3_advance 16 = .ok (.ldc2_w 70, 3) := by decide +kernel
theorem dX3_advance_19 : decode cX3_advance 19 = .ok (.lmul, 1) := by decide +kernel
theorem dX3_advance_20 : decode cX3_advance 20 = .ok (.ldc2_w 72, 3) := by decide +kernel
theorem dX3_advance_23 : decode cX3_advance 23 = .ok (.lrem, 1) := by decide +kernel
theorem dX3_advance_24 : decode cX3_advance 24 = .ok (.lstore_n 3, 1) := by decide +kernel
theorem dX3_advance_25 : decode cX3_advance 25 = .ok (.lload_n 3, 1) := by decide +kernel
theorem dX3_advance_26 : decode cX3_advance 26 = .ok (.ldc2_w 74, 3) := by decide +kernel
theorem dX3_advance_29 : decode cX3_advance 29 = .ok (.lrem, 1) := by decide +kernel
theorem dX3_advance_30 : decode cX3_advance 30 = .ok (.l2i, 1) := by decide +kernel
theorem dX3_advance_31 : decode cX3_advance 31 = .ok (.istore 7, 2) := by decide +kernel
theorem dX3_advance_33 : decode cX3_advance 33 = .ok (.aload_n 0, 1) := by decide +kernel
theorem dX3_advance_34 : decode cX3_advance 34 = .ok (.getfield 9, 3) := by decide +kernel
theorem dX3_advance_37 : decode cX3_advance 37 = .ok (.iload 6, 2) := by decide +kernel
theorem dX3_advance_39 : decode cX3_advance 39 = .ok (.dup2, 1) := by decide +kernel
theorem dX3_advance_40 : decode cX3_advance 40 = .ok (.iaload, 1) := by decide +kernel
theorem dX3_advance_41 : decode cX3_advance 41 = .ok (.iload 7, 2) := by decide +kernel
theorem dX3_advance_43 : decode cX3_advance 43 = .ok (.iadd, 1) := by decide +kernel
theorem dX3_advance_44 : decode cX3_advance 44 = .ok (.iastore, 1) := by decide +kernel
theorem dX3_advance_45 : decode cX3_advance 45 = .ok (.aload_n 0, 1) := by decide +kernel
theorem dX3_advance_46 : decode cX3_advance 46 = .ok (.getfield 15, 3) := by decide +kernel
theorem dX3_advance_49 : decode cX3_advance 49 = .ok (.iload 6, 2) := by decide +kernel
theorem dX3_advance_51 : decode cX3_advance 51 = .ok (.dup2, 1) := by decide +kernel
theorem dX3_advance_52 : decode cX3_advance 52 = .ok (.iaload, 1) := by decide +kernel
theorem dX3_advance_53 : decode cX3_advance 53 = .ok (.iload 7, 2) := by decide +kernel
theorem dX3_advance_55 : decode cX3_advance 55 = .ok (.iadd, 1) := by decide +kernel
theorem dX3_advance_56 : decode cX3_advance 56 = .ok (.iastore, 1) := by decide +kernel
theorem dX3_advance_57 : decode cX3_advance 57 = .ok (.iload 5, 2) := by decide +kernel
theorem dX3_advance_59 : decode cX3_advance 59 = .ok (.iload 7, 2) := by decide +kernel
theorem dX3_advance_61 : decode cX3_advance 61 = .ok (.iadd, 1) := by decide +kernel
theorem dX3_advance_62 : decode cX3_advance 62 = .ok (.istore 5, 2) := by decide +kernel
theorem dX3_advance_64 : decode cX3_advance 64 = .ok (.iinc 6 1, 3) := by decide +kernel
theorem dX3_advance_67 : decode cX3_advance 67 = .ok (.goto (-58), 3) := by decide +kernel
theorem dX3_advance_70 : decode cX3_advance 70 = .ok (.iload 5, 2) := by decide +kernel
theorem dX3_advance_72 : decode cX3_advance 72 = .ok (.ireturn, 1) := by decide +kernel
set_option maxRecDepth 20000 in
theorem ggX3_owedBy_X3_debt : GoodIn wsX3_owedBy wsX3_debt := goodIn_r _ [5, 6, 7, 8, 9, 10] (by decide +kernel) (by decide +kernel)
set_option maxRecDepth 20000 in
theorem gX3_owedBy_X3_debt : GoodIn wsX3_owedBy (wsV RX3 43 RX3 yX3_debt wsX3_debt) := goodIn_app (goodIn_of _ (by decide +kernel)) ggX3_owedBy_X3_debt
theorem dX3_owedBy_0 : decode cX3_owedBy 0 = .ok (.iconst 0, 1) := by decide +kernel
theorem dX3_owedBy_1 : decode cX3_owedBy 1 = .ok (.istore_n 2, 1) := by decide +kernel
theorem dX3_owedBy_2 : decode cX3_owedBy 2 = .ok (.iconst 0, 1) := by decide +kernel
theorem dX3_owedBy_3 : decode cX3_owedBy 3 = .ok (.istore_n 3, 1) := by decide +kernel
theorem dX3_owedBy_4 : decode cX3_owedBy 4 = .ok (.iload_n 3, 1) := by decide +kernel
theorem dX3_owedBy_5 : decode cX3_owedBy 5 = .ok (.bipush 6, 2) := by decide +kernel
theorem dX3_owedBy_7 : decode cX3_owedBy 7 = .ok (.if_icmp .ge 18, 3) := by decide +kernel
theorem dX3_owedBy_10 : decode cX3_owedBy 10 = .ok (.iload_n 2, 1) := by decide +kernel
theorem dX3_owedBy_11 : decode cX3_owedBy 11 = .ok (.aload_n 0, 1) := by decide +kernel
theorem dX3_owedBy_12 : decode cX3_owedBy 12 = .ok (.iload_n 1, 1) := by decide +kernel
theorem dX3_owedBy_13 : decode cX3_owedBy 13 = .ok (.iload_n 3, 1) := by decide +kernel
theorem dX3_owedBy_14 : decode cX3_owedBy 14 = .ok (.invokevirtual 43, 3) := by decide +kernel
theorem dX3_owedBy_17 : decode cX3_owedBy 17 = .ok (.iadd, 1) := by decide +kernel
theorem dX3_owedBy_18 : decode cX3_owedBy 18 = .ok (.istore_n 2, 1) := by decide +kernel
theorem dX3_owedBy_19 : decode cX3_owedBy 19 = .ok (.iinc 3 1, 3) := by decide +kernel
theorem dX3_owedBy_22 : decode cX3_owedBy 22 = .ok (.goto (-18), 3) := by decide +kernel
theorem dX3_owedBy_25 : decode cX3_owedBy 25 = .ok (.iload_n 2, 1) := by decide +kernel
theorem dX3_owedBy_26 : decode cX3_owedBy 26 = .ok (.ireturn, 1) := by decide +kernel
set_option maxRecDepth 20000 in
theorem ggX3_balance_X3_owedBy : GoodIn wsX3_balance wsX3_owedBy := goodIn_r _ [5, 6, 7, 8, 4, 9, 10, 11, 12, 13, 14] (by decide +kernel) (by decide +kernel)
set_option maxRecDepth 20000 in
theorem gX3_balance_X3_owedBy : GoodIn wsX3_balance (wsV RX3 76 RX3 yX3_owedBy wsX3_owedBy) := goodIn_app (goodIn_of _ (by decide +kernel)) ggX3_balance_X3_owedBy
set_option maxRecDepth 20000 in
theorem ggX3_balance_X3_debt : GoodIn wsX3_balance wsX3_debt := goodIn_r _ [9, 10, 11, 12, 13, 14] (by decide +kernel) (by decide +kernel)
set_option maxRecDepth 20000 in
theorem gX3_balance_X3_debt : GoodIn wsX3_balance (wsV RX3 43 RX3 yX3_debt wsX3_debt) := goodIn_app (goodIn_of _ (by decide +kernel)) ggX3_balance_X3_debt
theorem dX3_balance_0 : decode cX3_balance 0 = .ok (.aload_n 0, 1) := by decide +kernel
theorem dX3_balance_1 : decode cX3_balance 1 = .ok (.iload_n 1, 1) := by decide +kernel
theorem dX3_balance_2 : decode cX3_balance 2 = .ok (.invokevirtual 76, 3) := by decide +kernel
theorem dX3_balance_5 : decode cX3_balance 5 = .ok (.istore_n 2, 1) := by decide +kernel
theorem dX3_balance_6 : decode cX3_balance 6 = .ok (.iconst 0, 1) := by decide +kernel
theorem dX3_balance_7 : decode cX3_balance 7 = .ok (.istore_n 3, 1) := by decide +kernel
theorem dX3_balance_8 : decode cX3_balance 8 = .ok (.iload_n 3, 1) := by decide +kernel
theorem dX3_balance_9 : decode cX3_balance 9 = .ok (.bipush 6, 2) := by decide +kernel
theorem dX3_balance_11 : decode cX3_balance 11 = .ok (.if_icmp .ge 18, 3) := by decide +kernel
theorem dX3_balance_14 : decode cX3_balance 14 = .ok (.iload_n 2, 1) := by decide +kernel
theorem dX3_balance_15 : decode cX3_balance 15 = .ok (.aload_n 0, 1) := by decide +kernel
theorem dX3_balance_16 : decode cX3_balance 16 = .ok (.iload_n 3, 1) := by decide +kernel
theorem dX3_balance_17 : decode cX3_balance 17 = .ok (.iload_n 1, 1) := by decide +kernel
theorem dX3_balance_18 : decode cX3_balance 18 = .ok (.invokevirtual 43, 3) := by decide +kernel
theorem dX3_balance_21 : decode cX3_balance 21 = .ok (.isub, 1) := by decide +kernel
theorem dX3_balance_22 : decode cX3_balance 22 = .ok (.istore_n 2, 1) := by decide +kernel
theorem dX3_balance_23 : decode cX3_balance 23 = .ok (.iinc 3 1, 3) := by decide +kernel
theorem dX3_balance_26 : decode cX3_balance 26 = .ok (.goto (-18), 3) := by decide +kernel
theorem dX3_balance_29 : decode cX3_balance 29 = .ok (.iload_n 2, 1) := by decide +kernel
theorem dX3_balance_30 : decode cX3_balance 30 = .ok (.ireturn, 1) := by decide +kernel
set_option maxRecDepth 20000 in
theorem ggX3_payAll_X3_payOthers : GoodIn wsX3_payAll wsX3_payOthers := goodIn_r _ [5, 6, 7, 8, 9, 10, 11, 12, 13, 4, 14, 15, 16, 17, 18, 19, 20, 21, 22, 23] (by decide +kernel) (by decide +kernel)
set_option maxRecDepth 20000 in
theorem gX3_payAll_X3_payOthers : GoodIn wsX3_payAll (wsV RX3 79 RX3 yX3_payOthers wsX3_payOthers) := goodIn_app (goodIn_of _ (by decide +kernel)) ggX3_payAll_X3_payOthers
theorem dX3_payAll_0 : decode cX3_payAll 0 = .ok (.iconst 0, 1) := by decide +kernel
theorem dX3_payAll_1 : decode cX3_payAll 1 = .ok (.istore_n 2, 1) := by decide +kernel
theorem dX3_payAll_2 : decode cX3_payAll 2 = .ok (.iconst 0, 1) := by decide +kernel
theorem dX3_payAll_3 : decode cX3_payAll 3 = .ok (.istore_n 3, 1) := by decide +kernel
theorem dX3_payAll_4 : decode cX3_payAll 4 = .ok (.iload_n 3, 1) := by decide +kernel
theorem dX3_payAll_5 : decode cX3_payAll 5 = .ok (.iload_n 1, 1) := by decide +kernel
theorem dX3_payAll_6 : decode cX3_payAll 6 = .ok (.if_icmp .ge 24, 3) := by decide +kernel
theorem dX3_payAll_9 : decode cX3_payAll 9 = .ok (.aload_n 0, 1) := by decide +kernel
theorem dX3_payAll_10 : decode cX3_payAll 10 = .ok (.iload_n 3, 1) := by decide +kernel
theorem dX3_payAll_11 : decode cX3_payAll 11 = .ok (.iload_n 1, 1) := by decide +kernel
theorem dX3_payAll_12 : decode cX3_payAll 12 = .ok (.invokevirtual 79, 3) := by decide +kernel
theorem dX3_payAll_15 : decode cX3_payAll 15 = .ok (.ifCond .ne 9, 3) := by decide +kernel
theorem dX3_payAll_18 : decode cX3_payAll 18 = .ok (.iload_n 2, 1) := by decide +kernel
theorem dX3_payAll_19 : decode cX3_payAll 19 = .ok (.iconst 1, 1) := by decide +kernel
theorem dX3_payAll_20 : decode cX3_payAll 20 = .ok (.iload_n 3, 1) := by decide +kernel
theorem dX3_payAll_21 : decode cX3_payAll 21 = .ok (.ishl, 1) := by decide +kernel
theorem dX3_payAll_22 : decode cX3_payAll 22 = .ok (.ior, 1) := by decide +kernel
theorem dX3_payAll_23 : decode cX3_payAll 23 = .ok (.istore_n 2, 1) := by decide +kernel
theorem dX3_payAll_24 : decode cX3_payAll 24 = .ok (.iinc 3 1, 3) := by decide +kernel
theorem dX3_payAll_27 : decode cX3_payAll 27 = .ok (.goto (-23), 3) := by decide +kernel
theorem dX3_payAll_30 : decode cX3_payAll 30 = .ok (.iload_n 2, 1) := by decide +kernel
theorem dX3_payAll_31 : decode cX3_payAll 31 = .ok (.ireturn, 1) := by decide +kernel
set_option maxRecDepth 20000 in
theorem ggX3_payOthers_X3_debt : GoodIn wsX3_payOthers wsX3_debt := goodIn_r _ [10, 11, 16, 17, 18, 19] (by decide +kernel) (by decide +kernel)
set_option maxRecDepth 20000 in
theorem gX3_payOthers_X3_debt : GoodIn wsX3_payOthers (wsV RX3 43 RX3 yX3_debt wsX3_debt) := goodIn_app (goodIn_of _ (by decide +kernel)) ggX3_payOthers_X3_debt
set_option maxRecDepth 20000 in
theorem ggX3_payOthers_X3_move : GoodIn wsX3_payOthers wsX3_move := goodIn_r _ [15, 1, 16, 17, 18, 19] (by decide +kernel) (by decide +kernel)
set_option maxRecDepth 20000 in
theorem gX3_payOthers_X3_move : GoodIn wsX3_payOthers (wsV RX3 83 RX3 yX3_move wsX3_move) := goodIn_app (goodIn_of _ (by decide +kernel)) ggX3_payOthers_X3_move
theorem dX3_payOthers_0 : decode cX3_payOthers 0 = .ok (.iconst 1, 1) := by decide +kernel
theorem dX3_payOthers_1 : decode cX3_payOthers 1 = .ok (.istore_n 3, 1) := by decide +kernel
theorem dX3_payOthers_2 : decode cX3_payOthers 2 = .ok (.iconst 0, 1) := by decide +kernel
theorem dX3_payOthers_3 : decode cX3_payOthers 3 = .ok (.istore 4, 2) := by decide +kernel
theorem dX3_payOthers_5 : decode cX3_payOthers 5 = .ok (.iload 4, 2) := by decide +kernel
theorem dX3_payOthers_7 : decode cX3_payOthers 7 = .ok (.iload_n 2, 1) := by decide +kernel
theorem dX3_payOthers_8 : decode cX3_payOthers 8 = .ok (.if_icmp .ge 58, 3) := by decide +kernel
theorem dX3_payOthers_11 : decode cX3_payOthers 11 = .ok (.aload_n 0, 1) := by decide +kernel
theorem dX3_payOthers_12 : decode cX3_payOthers 12 = .ok (.iload_n 1, 1) := by decide +kernel
theorem dX3_payOthers_13 : decode cX3_payOthers 13 = .ok (.iload 4, 2) := by decide +kernel
theorem dX3_payOthers_15 : decode cX3_payOthers 15 = .ok (.invokevirtual 43, 3) := by decide +kernel
theorem dX3_payOthers_18 : decode cX3_payOthers 18 = .ok (.aload_n 0, 1) := by decide +kernel
theorem dX3_payOthers_19 : decode cX3_payOthers 19 = .ok (.getfield 9, 3) := by decide +kernel
theorem dX3_payOthers_22 : decode cX3_payOthers 22 = .ok (.iload_n 1, 1) := by decide +kernel
theorem dX3_payOthers_23 : decode cX3_payOthers 23 = .ok (.iaload, 1) := by decide +kernel
theorem dX3_payOthers_24 : decode cX3_payOthers 24 = .ok (.invokestatic 65, 3) := by decide +kernel
theorem dX3_payOthers_27 : decode cX3_payOthers 27 = .ok (.istore 5, 2) := by decide +kernel
theorem dX3_payOthers_29 : decode cX3_payOthers 29 = .ok (.iload_n 3, 1) := by decide +kernel
theorem dX3_payOthers_30 : decode cX3_payOthers 30 = .ok (.ifCond .eq 19, 3) := by decide +kernel
theorem dX3_payOthers_33 : decode cX3_payOthers 33 = .ok (.iload 5, 2) := by decide +kernel
theorem dX3_payOthers_35 : decode cX3_payOthers 35 = .ok (.aload_n 0, 1) := by decide +kernel
theorem dX3_payOthers_36 : decode cX3_payOthers 36 = .ok (.iload_n 1, 1) := by decide +kernel
theorem dX3_payOthers_37 : decode cX3_payOthers 37 = .ok (.iload 4, 2) := by decide +kernel
theorem dX3_payOthers_39 : decode cX3_payOthers 39 = .ok (.invokevirtual 43, 3) := by decide +kernel
theorem dX3_payOthers_42 : decode cX3_payOthers 42 = .ok (.if_icmp .ne 7, 3) := by decide +kernel
theorem dX3_payOthers_45 : decode cX3_payOthers 45 = .ok (.iconst 1, 1) := by decide +kernel
theorem dX3_payOthers_46 : decode cX3_payOthers 46 = .ok (.goto 4, 3) := by decide +kernel
theorem dX3_payOthers_49 : decode cX3_payOthers 49 = .ok (.iconst 0, 1) := by decide +kernel
theorem dX3_payOthers_50 : decode cX3_payOthers 50 = .ok (.istore_n 3, 1) := by decide +kernel
theorem dX3_payOthers_51 : decode cX3_payOthers 51 = .ok (.aload_n 0, 1) := by decide +kernel
theorem dX3_payOthers_52 : decode cX3_payOthers 52 = .ok (.iload_n 1, 1) := by decide +kernel
theorem dX3_payOthers_53 : decode cX3_payOthers 53 = .ok (.iload 4, 2) := by decide +kernel
theorem dX3_payOthers_55 : decode cX3_payOthers 55 = .ok (.iload 5, 2) := by decide +kernel
theorem dX3_payOthers_57 : decode cX3_payOthers 57 = .ok (.invokevirtual 83, 3) := by decide +kernel
theorem dX3_payOthers_60 : decode cX3_payOthers 60 = .ok (.iinc 4 1, 3) := by decide +kernel
theorem dX3_payOthers_63 : decode cX3_payOthers 63 = .ok (.goto (-58), 3) := by decide +kernel
theorem dX3_payOthers_66 : decode cX3_payOthers 66 = .ok (.iload_n 3, 1) := by decide +kernel
theorem dX3_payOthers_67 : decode cX3_payOthers 67 = .ok (.ireturn, 1) := by decide +kernel
theorem dX3_depthInAll_0 : decode cX3_depthInAll 0 = .ok (.iconst 0, 1) := by decide +kernel
theorem dX3_depthInAll_1 : decode cX3_depthInAll 1 = .ok (.istore_n 1, 1) := by decide +kernel
theorem dX3_depthInAll_2 : decode cX3_depthInAll 2 = .ok (.iconst 0, 1) := by decide +kernel
theorem dX3_depthInAll_3 : decode cX3_depthInAll 3 = .ok (.istore_n 2, 1) := by decide +kernel
theorem dX3_depthInAll_4 : decode cX3_depthInAll 4 = .ok (.iload_n 2, 1) := by decide +kernel
theorem dX3_depthInAll_5 : decode cX3_depthInAll 5 = .ok (.bipush 6, 2) := by decide +kernel
theorem dX3_depthInAll_7 : decode cX3_depthInAll 7 = .ok (.if_icmp .ge 18, 3) := by decide +kernel
theorem dX3_depthInAll_10 : decode cX3_depthInAll 10 = .ok (.iload_n 1, 1) := by decide +kernel
theorem dX3_depthInAll_11 : decode cX3_depthInAll 11 = .ok (.aload_n 0, 1) := by decide +kernel
theorem dX3_depthInAll_12 : decode cX3_depthInAll 12 = .ok (.getfield 9, 3) := by decide +kernel
theorem dX3_depthInAll_15 : decode cX3_depthInAll 15 = .ok (.iload_n 2, 1) := by decide +kernel
theorem dX3_depthInAll_16 : decode cX3_depthInAll 16 = .ok (.iaload, 1) := by decide +kernel
theorem dX3_depthInAll_17 : decode cX3_depthInAll 17 = .ok (.iadd, 1) := by decide +kernel
theorem dX3_depthInAll_18 : decode cX3_depthInAll 18 = .ok (.istore_n 1, 1) := by decide +kernel
theorem dX3_depthInAll_19 : decode cX3_depthInAll 19 = .ok (.iinc 2 1, 3) := by decide +kernel
theorem dX3_depthInAll_22 : decode cX3_depthInAll 22 = .ok (.goto (-18), 3) := by decide +kernel
theorem dX3_depthInAll_25 : decode cX3_depthInAll 25 = .ok (.iload_n 1, 1) := by decide +kernel
theorem dX3_depthInAll_26 : decode cX3_depthInAll 26 = .ok (.ireturn, 1) := by decide +kernel
theorem dX3_debtsAboveNone_0 : decode cX3_debtsAboveNone 0 = .ok (.iconst 0, 1) := by decide +kernel
theorem dX3_debtsAboveNone_1 : decode cX3_debtsAboveNone 1 = .ok (.istore_n 1, 1) := by decide +kernel
theorem dX3_debtsAboveNone_2 : decode cX3_debtsAboveNone 2 = .ok (.iconst 0, 1) := by decide +kernel
theorem dX3_debtsAboveNone_3 : decode cX3_debtsAboveNone 3 = .ok (.istore_n 2, 1) := by decide +kernel
theorem dX3_debtsAboveNone_4 : decode cX3_debtsAboveNone 4 = .ok (.iload_n 2, 1) := by decide +kernel
theorem dX3_debtsAboveNone_5 : decode cX3_debtsAboveNone 5 = .ok (.aload_n 0, 1) := by decide +kernel
theorem dX3_debtsAboveNone_6 : decode cX3_debtsAboveNone 6 = .ok (.getfield 18, 3) := by decide +kernel
theorem dX3_debtsAboveNone_9 : decode cX3_debtsAboveNone 9 = .ok (.arraylength, 1) := by decide +kernel
theorem dX3_debtsAboveNone_10 : decode cX3_debtsAboveNone 10 = .ok (.if_icmp .ge 21, 3) := by decide +kernel
theorem dX3_debtsAboveNone_13 : decode cX3_debtsAboveNone 13 = .ok (.aload_n 0, 1) := by decide +kernel
theorem dX3_debtsAboveNone_14 : decode cX3_debtsAboveNone 14 = .ok (.getfield 18, 3) := by decide +kernel
theorem dX3_debtsAboveNone_17 : decode cX3_debtsAboveNone 17 = .ok (.iload_n 2, 1) := by decide +kernel
theorem dX3_debtsAboveNone_18 : decode cX3_debtsAboveNone 18 = .ok (.iaload, 1) := by decide +kernel
theorem dX3_debtsAboveNone_19 : decode cX3_debtsAboveNone 19 = .ok (.ifCond .le 6, 3) := by decide +kernel
theorem dX3_debtsAboveNone_22 : decode cX3_debtsAboveNone 22 = .ok (.iinc 1 1, 3) := by decide +kernel
theorem dX3_debtsAboveNone_25 : decode cX3_debtsAboveNone 25 = .ok (.iinc 2 1, 3) := by decide +kernel
theorem dX3_debtsAboveNone_28 : decode cX3_debtsAboveNone 28 = .ok (.goto (-24), 3) := by decide +kernel
theorem dX3_debtsAboveNone_31 : decode cX3_debtsAboveNone 31 = .ok (.iload_n 1, 1) := by decide +kernel
theorem dX3_debtsAboveNone_32 : decode cX3_debtsAboveNone 32 = .ok (.ireturn, 1) := by decide +kernel
theorem dX4_init_0 : decode cX4_init 0 = .ok (.aload_n 0, 1) := by decide +kernel
theorem dX4_init_1 : decode cX4_init 1 = .ok (.invokespecial 3, 3) := by decide +kernel
theorem dX4_init_4 : decode cX4_init 4 = .ok (.aload_n 0, 1) := by decide +kernel
theorem dX4_init_5 : decode cX4_init 5 = .ok (.bipush 6, 2) := by decide +kernel
theorem dX4_init_7 : decode cX4_init 7 = .ok (.newarray .int, 2) := by decide +kernel
theorem dX4_init_9 : decode cX4_init 9 = .ok (.putfield 9, 3) := by decide +kernel
theorem dX4_init_12 : decode cX4_init 12 = .ok (.aload_n 0, 1) := by decide +kernel
theorem dX4_init_13 : decode cX4_init 13 = .ok (.bipush 6, 2) := by decide +kernel
theorem dX4_init_15 : decode cX4_init 15 = .ok (.newarray .int, 2) := by decide +kernel
theorem dX4_init_17 : decode cX4_init 17 = .ok (.putfield 15, 3) := by decide +kernel
theorem dX4_init_20 : decode cX4_init 20 = .ok (.aload_n 0, 1) := by decide +kernel
theorem dX4_init_21 : decode cX4_init 21 = .ok (.bipush 6, 2) := by decide +kernel
theorem dX4_init_23 : decode cX4_init 23 = .ok (.newarray .int, 2) := by decide +kernel
theorem dX4_init_25 : decode cX4_init 25 = .ok (.putfield 18, 3) := by decide +kernel
theorem dX4_init_28 : decode cX4_init 28 = .ok (.aload_n 0, 1) := by decide +kernel
theorem dX4_init_29 : decode cX4_init 29 = .ok (.bipush 6, 2) := by decide +kernel
theorem dX4_init_31 : decode cX4_init 31 = .ok (.newarray .int, 2) := by decide +kernel
theorem dX4_init_33 : decode cX4_init 33 = .ok (.putfield 21, 3) := by decide +kernel
theorem dX4_init_36 : decode cX4_init 36 = .ok (.return_, 1) := by decide +kernel
set_option maxRecDepth 20000 in
theorem ggX4_canBe_X3_balance : GoodIn wsX4_canBe wsX3_balance := goodIn_r _ [6, 7, 8, 9, 5, 10, 11, 12, 13, 14, 15, 16, 17, 18, 19] (by decide +kernel) (by decide +kernel)
set_option maxRecDepth 20000 in
theorem gX4_canBe_X3_balance : GoodIn wsX4_canBe (wsV RX4 29 RX3 yX3_balance wsX3_balance) := goodIn_app (goodIn_of _ (by decide +kernel)) ggX4_canBe_X3_balance
theorem dX4_canBe_0 : decode cX4_canBe 0 = .ok (.iconst 0, 1) := by decide +kernel
theorem dX4_canBe_1 : decode cX4_canBe 1 = .ok (.istore_n 3, 1) := by decide +kernel
theorem dX4_canBe_2 : decode cX4_canBe 2 = .ok (.iload_n 3, 1) := by decide +kernel
theorem dX4_canBe_3 : decode cX4_canBe 3 = .ok (.iload_n 2, 1) := by decide +kernel
theorem dX4_canBe_4 : decode cX4_canBe 4 = .ok (.if_icmp .ge 25, 3) := by decide +kernel
theorem dX4_canBe_7 : decode cX4_canBe 7 = .ok (.aload_n 1, 1) := by decide +kernel
theorem dX4_canBe_8 : decode cX4_canBe 8 = .ok (.getfield 24, 3) := by decide +kernel
theorem dX4_canBe_11 : decode cX4_canBe 11 = .ok (.iload_n 3, 1) := by decide +kernel
theorem dX4_canBe_12 : decode cX4_canBe 12 = .ok (.iaload, 1) := by decide +kernel
theorem dX4_canBe_13 : decode cX4_canBe 13 = .ok (.aload_n 1, 1) := by decide +kernel
theorem dX4_canBe_14 : decode cX4_canBe 14 = .ok (.iload_n 3, 1) := by decide +kernel
theorem dX4_canBe_15 : decode cX4_canBe 15 = .ok (.invokevirtual 29, 3) := by decide +kernel
theorem dX4_canBe_18 : decode cX4_canBe 18 = .ok (.if_icmp .ge 5, 3) := by decide +kernel
theorem dX4_canBe_21 : decode cX4_canBe 21 = .ok (.iconst 0, 1) := by decide +kernel
theorem dX4_canBe_22 : decode cX4_canBe 22 = .ok (.ireturn, 1) := by decide +kernel
theorem dX4_canBe_23 : decode cX4_canBe 23 = .ok (.iinc 3 1, 3) := by decide +kernel
theorem dX4_canBe_26 : decode cX4_canBe 26 = .ok (.goto (-24), 3) := by decide +kernel
theorem dX4_canBe_29 : decode cX4_canBe 29 = .ok (.iconst 1, 1) := by decide +kernel
theorem dX4_canBe_30 : decode cX4_canBe 30 = .ok (.ireturn, 1) := by decide +kernel
set_option maxRecDepth 20000 in
theorem ggX4_workOut_J7_fill_53178 : GoodIn wsX4_workOut wsJ7_fill_53178 := goodIn_r _ [6] (by decide +kernel) (by decide +kernel)
set_option maxRecDepth 20000 in
theorem gX4_workOut_J7_fill_53178 : GoodIn wsX4_workOut (va_wsS RX4 33 yJ7_fill_53178 wsJ7_fill_53178) := goodIn_app (goodIn_of _ (by decide +kernel)) ggX4_workOut_J7_fill_53178
set_option maxRecDepth 20000 in
theorem ggX4_workOut_X3_balance : GoodIn wsX4_workOut wsX3_balance := goodIn_r _ [11, 12, 13, 14, 10, 15, 16, 17, 18, 19, 20, 47, 48, 49, 50] (by decide +kernel) (by decide +kernel)
set_option maxRecDepth 20000 in
theorem gX4_workOut_X3_balance : GoodIn wsX4_workOut (wsV RX4 29 RX3 yX3_balance wsX3_balance) := goodIn_app (goodIn_of _ (by decide +kernel)) ggX4_workOut_X3_balance
set_option maxRecDepth 20000 in
theorem ggX4_workOut_X4_firstWithSign : GoodIn wsX4_workOut wsX4_firstWithSign := goodIn_r _ [25, 1, 26, 27, 28, 29, 30, 42, 43, 44, 45, 46] (by decide +kernel) (by decide +kernel)
set_option maxRecDepth 20000 in
theorem gX4_workOut_X4_firstWithSign : GoodIn wsX4_workOut (wsV RX4 43 RX4 yX4_firstWithSign wsX4_firstWithSign) := goodIn_app (goodIn_of _ (by decide +kernel)) ggX4_workOut_X4_firstWithSign
set_option maxRecDepth 20000 in
theorem ggX4_workOut_X4_addGift : GoodIn wsX4_workOut wsX4_addGift := goodIn_r _ [34, 26, 2, 1, 35, 36, 37, 38, 39, 40, 41, 42, 43, 44, 45, 46] (by decide +kernel) (by decide +kernel)
set_option maxRecDepth 20000 in
theorem gX4_workOut_X4_addGift : GoodIn wsX4_workOut (wsV RX4 46 RX4 yX4_addGift wsX4_addGift) := goodIn_app (goodIn_of _ (by decide +kernel)) ggX4_workOut_X4_addGift
theorem dX4_workOut_0 : decode cX4_workOut 0 = .ok (.aload_n 0, 1) := by decide +kernel
theorem dX4_workOut_1 : decode cX4_workOut 1 = .ok (.getfield 9, 3) := by decide +kernel
theorem dX4_workOut_4 : decode cX4_workOut 4 = .ok (.iconst 0, 1) := by decide +kernel
theorem dX4_workOut_5 : decode cX4_workOut 5 = .ok (.invokestatic 33, 3) := by decide +kernel
theorem dX4_workOut_8 : decode cX4_workOut 8 = .ok (.iconst 0, 1) := by decide +kernel
theorem dX4_workOut_9 : decode cX4_workOut 9 = .ok (.istore_n 3, 1) := by decide +kernel
theorem dX4_workOut_10 : decode cX4_workOut 10 = .ok (.iload_n 3, 1) := by decide +kernel
theorem dX4_workOut_11 : decode cX4_workOut 11 = .ok (.iload_n 2, 1) := by decide +kernel
theorem dX4_workOut_12 : decode cX4_workOut 12 = .ok (.if_icmp .ge 20, 3) := by decide +kernel
theorem dX4_workOut_15 : decode cX4_workOut 15 = .ok (.aload_n 0, 1) := by decide +kernel
theorem dX4_workOut_16 : decode cX4_workOut 16 = .ok (.getfield 9, 3) := by decide +kernel
theorem dX4_workOut_19 : decode cX4_workOut 19 = .ok (.iload_n 3, 1) := by decide +kernel
theorem dX4_workOut_20 : decode cX4_workOut 20 = .ok (.aload_n 1, 1) := by decide +kernel
theorem dX4_workOut_21 : decode cX4_workOut 21 = .ok (.iload_n 3, 1) := by decide +kernel
theorem dX4_workOut_22 : decode cX4_workOut 22 = .ok (.invokevirtual 29, 3) := by decide +kernel
theorem dX4_workOut_25 : decode cX4_workOut 25 = .ok (.iastore, 1) := by decide +kernel
theorem dX4_workOut_26 : decode cX4_workOut 26 = .ok (.iinc 3 1, 3) := by decide +kernel
theorem dX4_workOut_29 : decode cX4_workOut 29 = .ok (.goto (-19), 3) := by decide +kernel
theorem dX4_workOut_32 : decode cX4_workOut 32 = .ok (.aload_n 0, 1) := by decide +kernel
theorem dX4_workOut_33 : decode cX4_workOut 33 = .ok (.iconst 0, 1) := by decide +kernel
theorem dX4_workOut_34 : decode cX4_workOut 34 = .ok (.putfield 39, 3) := by decide +kernel
theorem dX4_workOut_37 : decode cX4_workOut 37 = .ok (.iconst 0, 1) := by decide +kernel
theorem dX4_workOut_38 : decode cX4_workOut 38 = .ok (.istore_n 3, 1) := by decide +kernel
theorem dX4_workOut_39 : decode cX4_workOut 39 = .ok (.iload_n 3, 1) := by decide +kernel
theorem dX4_workOut_40 : decode cX4_workOut 40 = .ok (.bipush 6, 2) := by decide +kernel
theorem dX4_workOut_42 : decode cX4_workOut 42 = .ok (.if_icmp .ge 23, 3) := by decide +kernel
theorem dX4_workOut_45 : decode cX4_workOut 45 = .ok (.aload_n 0, 1) := by decide +kernel
theorem dX4_workOut_46 : decode cX4_workOut 46 = .ok (.aload_n 0, 1) := by decide +kernel
theorem dX4_workOut_47 : decode cX4_workOut 47 = .ok (.iconst 1, 1) := by decide +kernel
theorem dX4_workOut_48 : decode cX4_workOut 48 = .ok (.invokevirtual 43, 3) := by decide +kernel
theorem dX4_workOut_51 : decode cX4_workOut 51 = .ok (.aload_n 0, 1) := by decide +kernel
theorem dX4_workOut_52 : decode cX4_workOut 52 = .ok (.iconst (-1), 1) := by decide +kernel
theorem dX4_workOut_53 : decode cX4_workOut 53 = .ok (.invokevirtual 43, 3) := by decide +kernel
theorem dX4_workOut_56 : decode cX4_workOut 56 = .ok (.invokevirtual 46, 3) := by decide +kernel
theorem dX4_workOut_59 : decode cX4_workOut 59 = .ok (.iinc 3 1, 3) := by decide +kernel
theorem dX4_workOut_62 : decode cX4_workOut 62 = .ok (.goto (-23), 3) := by decide +kernel
theorem dX4_workOut_65 : decode cX4_workOut 65 = .ok (.return_, 1) := by decide +kernel
theorem dX4_addGift_0 : decode cX4_addGift 0 = .ok (.iload_n 1, 1) := by decide +kernel
theorem dX4_addGift_1 : decode cX4_addGift 1 = .ok (.ldc 50, 2) := by decide +kernel
theorem dX4_addGift_3 : decode cX4_addGift 3 = .ok (.if_icmp .eq 18, 3) := by decide +kernel
theorem dX4_addGift_6 : decode cX4_addGift 6 = .ok (.iload_n 2, 1) := by decide +kernel
theorem dX4_addGift_7 : decode cX4_addGift 7 = .ok (.ldc 50, 2) := by decide +kernel
theorem dX4_addGift_9 : decode cX4_addGift 9 = .ok (.if_icmp .eq 12, 3) := by decide +kernel
theorem dX4_addGift_12 : decode cX4_addGift 12 = .ok (.aload_n 0, 1) := by decide +kernel
theorem dX4_addGift_13 : decode cX4_addGift 13 = .ok (.getfield 39, 3) := by decide +kernel
theorem dX4_addGift_16 : decode cX4_addGift 16 = .ok (.bipush 6, 2) := by decide +kernel
theorem dX4_addGift_18 : decode cX4_addGift 18 = .ok (.if_icmp .lt 4, 3) := by decide +kernel
theorem dX4_addGift_21 : decode cX4_addGift 21 = .ok (.return_, 1) := by decide +kernel
theorem dX4_addGift_22 : decode cX4_addGift 22 = .ok (.aload_n 0, 1) := by decide +kernel
theorem dX4_addGift_23 : decode cX4_addGift 23 = .ok (.getfield 9, 3) := by decide +kernel
theorem dX4_addGift_26 : decode cX4_addGift 26 = .ok (.iload_n 1, 1) := by decide +kernel
theorem dX4_addGift_27 : decode cX4_addGift 27 = .ok (.iaload, 1) := by decide +kernel
theorem dX4_addGift_28 : decode cX4_addGift 28 = .ok (.aload_n 0, 1) := by decide +kernel
theorem dX4_addGift_29 : decode cX4_addGift 29 = .ok (.getfield 9, 3) := by decide +kernel
theorem dX4_addGift_32 : decode cX4_addGift 32 = .ok (.iload_n 2, 1) := by decide +kernel
theorem dX4_addGift_33 : decode cX4_addGift 33 = .ok (.iaload, 1) := by decide +kernel
theorem dX4_addGift_34 : decode cX4_addGift 34 = .ok (.ineg, 1) := by decide +kernel
theorem dX4_addGift_35 : decode cX4_addGift 35 = .ok (.invokestatic 51, 3) := by decide +kernel
theorem dX4_addGift_38 : decode cX4_addGift 38 = .ok (.istore_n 3, 1) := by decide +kernel
theorem dX4_addGift_39 : decode cX4_addGift 39 = .ok (.aload_n 0, 1) := by decide +kernel
theorem dX4_addGift_40 : decode cX4_addGift 40 = .ok (.getfield 9, 3) := by decide +kernel
theorem dX4_addGift_43 : decode cX4_addGift 43 = .ok (.iload_n 1, 1) := by decide +kernel
theorem dX4_addGift_44 : decode cX4_addGift 44 = .ok (.dup2, 1) := by decide +kernel
theorem dX4_addGift_45 : decode cX4_addGift 45 = .ok (.iaload, 1) := by decide +kernel
theorem dX4_addGift_46 : decode cX4_addGift 46 = .ok (.iload_n 3, 1) := by decide +kernel
theorem dX4_addGift_47 : decode cX4_addGift 47 = .ok (.isub, 1) := by decide +kernel
theorem dX4_addGift_48 : decode cX4_addGift 48 = .ok (.iastore, 1) := by decide +kernel
theorem dX4_addGift_49 : decode cX4_addGift 49 = .ok (.aload_n 0, 1) := by decide +kernel
theorem dX4_addGift_50 : decode cX4_addGift 50 = .ok (.getfield 9, 3) := by decide +kernel
theorem dX4_addGift_53 : decode cX4_addGift 53 = .ok (.iload_n 2, 1) := by decide +kernel
theorem dX4_addGift_54 : decode cX4_addGift 54 = .ok (.dup2, 1) := by decide +kernel
theorem dX4_addGift_55 : decode cX4_addGift 55 = .ok (.iaload, 1) := by decide +kernel
theorem dX4_addGift_56 : decode cX4_addGift 56 = .ok (.iload_n 3, 1) := by decide +kernel
theorem dX4_addGift_57 : decode cX4_addGift 57 = .ok (.iadd, 1) := by decide +kernel
theorem dX4_addGift_58 : decode cX4_addGift 58 = .ok (.iastore, 1) := by decide +kernel
theorem dX4_addGift_59 : decode cX4_addGift 59 = .ok (.aload_n 0, 1) := by decide +kernel
theorem dX4_addGift_60 : decode cX4_addGift 60 = .ok (.getfield 15, 3) := by decide +kernel
theorem dX4_addGift_63 : decode cX4_addGift 63 = .ok (.aload_n 0, 1) := by decide +kernel
theorem dX4_addGift_64 : decode cX4_addGift 64 = .ok (.getfield 39, 3) := by decide +kernel
theorem dX4_addGift_67 : decode cX4_addGift 67 = .ok (.iload_n 1, 1) := by decide +kernel
theorem dX4_addGift_68 : decode cX4_addGift 68 = .ok (.iastore, 1) := by decide +kernel
theorem dX4_addGift_69 : decode cX4_addGift 69 = .ok (.aload_n 0, 1) := by decide +kernel
theorem dX4_addGift_70 : decode cX4_addGift 70 = .ok (.getfield 18, 3) := by decide +kernel
theorem dX4_addGift_73 : decode cX4_addGift 73 = .ok (.aload_n 0, 1) := by decide +kernel
theorem dX4_addGift_74 : decode cX4_addGift 74 = .ok (.getfield 39, 3) := by decide +kernel
theorem dX4_addGift_77 : decode cX4_addGift 77 = .ok (.iload_n 2, 1) := by decide +kernel
theorem dX4_addGift_78 : decode cX4_addGift 78 = .ok (.iastore, 1) := by decide +kernel
theorem dX4_addGift_79 : decode cX4_addGift 79 = .ok (.aload_n 0, 1) := by decide +kernel
theorem dX4_addGift_80 : decode cX4_addGift 80 = .ok (.getfield 21, 3) := by decide +kernel
theorem dX4_addGift_83 : decode cX4_addGift 83 = .ok (.aload_n 0, 1) := by decide +kernel
theorem dX4_addGift_84 : decode cX4_addGift 84 = .ok (.getfield 39, 3) := by decide +kernel
theorem dX4_addGift_87 : decode cX4_addGift 87 = .ok (.iload_n 3, 1) := by decide +kernel
theorem dX4_addGift_88 : decode cX4_addGift 88 = .ok (.iastore, 1) := by decide +kernel
theorem dX4_addGift_89 : decode cX4_addGift 89 = .ok (.aload_n 0, 1) := by decide +kernel
theorem dX4_addGift_90 : decode cX4_addGift 90 = .ok (.dup, 1) := by decide +kernel
theorem dX4_addGift_91 : decode cX4_addGift 91 = .ok (.getfield 39, 3) := by decide +kernel
theorem dX4_addGift_94 : decode cX4_addGift 94 = .ok (.iconst 1, 1) := by decide +kernel
theorem dX4_addGift_95 : decode cX4_addGift 95 = .ok (.iadd, 1) := by decide +kernel
theorem dX4_addGift_96 : decode cX4_addGift 96 = .ok (.putfield 39, 3) := by decide +kernel
theorem dX4_addGift_99 : decode cX4_addGift 99 = .ok (.return_, 1) := by decide +kernel
set_option maxRecDepth 20000 in
theorem ggX4_firstWithSign_J6_signum_0f7a4 : GoodIn wsX4_firstWithSign wsJ6_signum_0f7a4 := goodIn_r _ [6] (by decide +kernel) (by decide +kernel)
set_option maxRecDepth 20000 in
theorem gX4_firstWithSign_J6_signum_0f7a4 : GoodIn wsX4_firstWithSign (va_wsS RX4 57 yJ6_signum_0f7a4 wsJ6_signum_0f7a4) := goodIn_app (goodIn_of _ (by decide +kernel)) ggX4_firstWithSign_J6_signum_0f7a4
theorem dX4_firstWithSign_0 : decode cX4_firstWithSign 0 = .ok (.iconst 0, 1) := by decide +kernel
theorem dX4_firstWithSign_1 : decode cX4_firstWithSign 1 = .ok (.istore_n 2, 1) := by decide +kernel
theorem dX4_firstWithSign_2 : decode cX4_firstWithSign 2 = .ok (.iload_n 2, 1) := by decide +kernel
theorem dX4_firstWithSign_3 : decode cX4_firstWithSign 3 = .ok (.bipush 6, 2) := by decide +kernel
theorem dX4_firstWithSign_5 : decode cX4_firstWithSign 5 = .ok (.if_icmp .ge 24, 3) := by decide +kernel
theorem dX4_firstWithSign_8 : decode cX4_firstWithSign 8 = .ok (.aload_n 0, 1) := by decide +kernel
theorem dX4_firstWithSign_9 : decode cX4_firstWithSign 9 = .ok (.getfield 9, 3) := by decide +kernel
theorem dX4_firstWithSign_12 : decode cX4_firstWithSign 12 = .ok (.iload_n 2, 1) := by decide +kernel
theorem dX4_firstWithSign_13 : decode cX4_firstWithSign 13 = .ok (.iaload, 1) := by decide +kernel
theorem dX4_firstWithSign_14 : decode cX4_firstWithSign 14 = .ok (.invokestatic 57, 3) := by decide +kernel
theorem dX4_firstWithSign_17 : decode cX4_firstWithSign 17 = .ok (.iload_n 1, 1) := by decide +kernel
theorem dX4_firstWithSign_18 : decode cX4_firstWithSign 18 = .ok (.if_icmp .ne 5, 3) := by decide +kernel
theorem dX4_firstWithSign_21 : decode cX4_firstWithSign 21 = .ok (.iload_n 2, 1) := by decide +kernel
theorem dX4_firstWithSign_22 : decode cX4_firstWithSign 22 = .ok (.ireturn, 1) := by decide +kernel
theorem dX4_firstWithSign_23 : decode cX4_firstWithSign 23 = .ok (.iinc 2 1, 3) := by decide +kernel
theorem dX4_firstWithSign_26 : decode cX4_firstWithSign 26 = .ok (.goto (-24), 3) := by decide +kernel
theorem dX4_firstWithSign_29 : decode cX4_firstWithSign 29 = .ok (.ldc 50, 2) := by decide +kernel
theorem dX4_firstWithSign_31 : decode cX4_firstWithSign 31 = .ok (.ireturn, 1) := by decide +kernel
theorem dX4_tell_0 : decode cX4_tell 0 = .ok (.iload_n 1, 1) := by decide +kernel
theorem dX4_tell_1 : decode cX4_tell 1 = .ok (.ifCond .lt 11, 3) := by decide +kernel
theorem dX4_tell_4 : decode cX4_tell 4 = .ok (.iload_n 1, 1) := by decide +kernel
theorem dX4_tell_5 : decode cX4_tell 5 = .ok (.aload_n 0, 1) := by decide +kernel
theorem dX4_tell_6 : decode cX4_tell 6 = .ok (.getfield 39, 3) := by decide +kernel
theorem dX4_tell_9 : decode cX4_tell 9 = .ok (.if_icmp .lt 6, 3) := by decide +kernel
theorem dX4_tell_12 : decode cX4_tell 12 = .ok (.ldc 50, 2) := by decide +kernel
theorem dX4_tell_14 : decode cX4_tell 14 = .ok (.ireturn, 1) := by decide +kernel
theorem dX4_tell_15 : decode cX4_tell 15 = .ok (.iload_n 2, 1) := by decide +kernel
theorem dX4_tell_16 : decode cX4_tell 16 = .ok (.ifCond .ne 10, 3) := by decide +kernel
theorem dX4_tell_19 : decode cX4_tell 19 = .ok (.aload_n 0, 1) := by decide +kernel
theorem dX4_tell_20 : decode cX4_tell 20 = .ok (.getfield 15, 3) := by decide +kernel
theorem dX4_tell_23 : decode cX4_tell 23 = .ok (.iload_n 1, 1) := by decide +kernel
theorem dX4_tell_24 : decode cX4_tell 24 = .ok (.iaload, 1) := by decide +kernel
theorem dX4_tell_25 : decode cX4_tell 25 = .ok (.ireturn, 1) := by decide +kernel
theorem dX4_tell_26 : decode cX4_tell 26 = .ok (.iload_n 2, 1) := by decide +kernel
theorem dX4_tell_27 : decode cX4_tell 27 = .ok (.iconst 1, 1) := by decide +kernel
theorem dX4_tell_28 : decode cX4_tell 28 = .ok (.if_icmp .ne 12, 3) := by decide +kernel
theorem dX4_tell_31 : decode cX4_tell 31 = .ok (.aload_n 0, 1) := by decide +kernel
theorem dX4_tell_32 : decode cX4_tell 32 = .ok (.getfield 18, 3) := by decide +kernel
theorem dX4_tell_35 : decode cX4_tell 35 = .ok (.iload_n 1, 1) := by decide +kernel
theorem dX4_tell_36 : decode cX4_tell 36 = .ok (.iaload, 1) := by decide +kernel
theorem dX4_tell_37 : decode cX4_tell 37 = .ok (.goto 9, 3) := by decide +kernel
theorem dX4_tell_40 : decode cX4_tell 40 = .ok (.aload_n 0, 1) := by decide +kernel
theorem dX4_tell_41 : decode cX4_tell 41 = .ok (.getfield 21, 3) := by decide +kernel
theorem dX4_tell_44 : decode cX4_tell 44 = .ok (.iload_n 1, 1) := by decide +kernel
theorem dX4_tell_45 : decode cX4_tell 45 = .ok (.iaload, 1) := by decide +kernel
theorem dX4_tell_46 : decode cX4_tell 46 = .ok (.ireturn, 1) := by decide +kernel
set_option maxRecDepth 20000 in
theorem ggX4_moveAll_X3_move : GoodIn wsX4_moveAll wsX3_move := goodIn_r _ [10, 11, 21, 22, 23, 24] (by decide +kernel) (by decide +kernel)
set_option maxRecDepth 20000 in
theorem gX4_moveAll_X3_move : GoodIn wsX4_moveAll (wsV RX4 62 RX3 yX3_move wsX3_move) := goodIn_app (goodIn_of _ (by decide +kernel)) ggX4_moveAll_X3_move
set_option maxRecDepth 20000 in
theorem ggX4_moveAll_J7_fill_53178 : GoodIn wsX4_moveAll wsJ7_fill_53178 := goodIn_r _ [15] (by decide +kernel) (by decide +kernel)
set_option maxRecDepth 20000 in
theorem gX4_moveAll_J7_fill_53178 : GoodIn wsX4_moveAll (va_wsS RX4 33 yJ7_fill_53178 wsJ7_fill_53178) := goodIn_app (goodIn_of _ (by decide +kernel)) ggX4_moveAll_J7_fill_53178
theorem dX4_moveAll_0 : decode cX4_moveAll 0 = .ok (.iconst 0, 1) := by decide +kernel
theorem dX4_moveAll_1 : decode cX4_moveAll 1 = .ok (.istore_n 2, 1) := by decide +kernel
theorem dX4_moveAll_2 : decode cX4_moveAll 2 = .ok (.iconst 0, 1) := by decide +kernel
theorem dX4_moveAll_3 : decode cX4_moveAll 3 = .ok (.istore_n 3, 1) := by decide +kernel
theorem dX4_moveAll_4 : decode cX4_moveAll 4 = .ok (.iload_n 3, 1) := by decide +kernel
theorem dX4_moveAll_5 : decode cX4_moveAll 5 = .ok (.aload_n 0, 1) := by decide +kernel
theorem dX4_moveAll_6 : decode cX4_moveAll 6 = .ok (.getfield 39, 3) := by decide +kernel
theorem dX4_moveAll_9 : decode cX4_moveAll 9 = .ok (.if_icmp .ge 40, 3) := by decide +kernel
theorem dX4_moveAll_12 : decode cX4_moveAll 12 = .ok (.aload_n 1, 1) := by decide +kernel
theorem dX4_moveAll_13 : decode cX4_moveAll 13 = .ok (.aload_n 0, 1) := by decide +kernel
theorem dX4_moveAll_14 : decode cX4_moveAll 14 = .ok (.getfield 15, 3) := by decide +kernel
theorem dX4_moveAll_17 : decode cX4_moveAll 17 = .ok (.iload_n 3, 1) := by decide +kernel
theorem dX4_moveAll_18 : decode cX4_moveAll 18 = .ok (.iaload, 1) := by decide +kernel
theorem dX4_moveAll_19 : decode cX4_moveAll 19 = .ok (.aload_n 0, 1) := by decide +kernel
theorem dX4_moveAll_20 : decode cX4_moveAll 20 = .ok (.getfield 18, 3) := by decide +kernel
theorem dX4_moveAll_23 : decode cX4_moveAll 23 = .ok (.iload_n 3, 1) := by decide +kernel
theorem dX4_moveAll_24 : decode cX4_moveAll 24 = .ok (.iaload, 1) := by decide +kernel
theorem dX4_moveAll_25 : decode cX4_moveAll 25 = .ok (.aload_n 0, 1) := by decide +kernel
theorem dX4_moveAll_26 : decode cX4_moveAll 26 = .ok (.getfield 21, 3) := by decide +kernel
theorem dX4_moveAll_29 : decode cX4_moveAll 29 = .ok (.iload_n 3, 1) := by decide +kernel
theorem dX4_moveAll_30 : decode cX4_moveAll 30 = .ok (.iaload, 1) := by decide +kernel
theorem dX4_moveAll_31 : decode cX4_moveAll 31 = .ok (.invokevirtual 62, 3) := by decide +kernel
theorem dX4_moveAll_34 : decode cX4_moveAll 34 = .ok (.iload_n 2, 1) := by decide +kernel
theorem dX4_moveAll_35 : decode cX4_moveAll 35 = .ok (.aload_n 0, 1) := by decide +kernel
theorem dX4_moveAll_36 : decode cX4_moveAll 36 = .ok (.getfield 21, 3) := by decide +kernel
theorem dX4_moveAll_39 : decode cX4_moveAll 39 = .ok (.iload_n 3, 1) := by decide +kernel
theorem dX4_moveAll_40 : decode cX4_moveAll 40 = .ok (.iaload, 1) := by decide +kernel
theorem dX4_moveAll_41 : decode cX4_moveAll 41 = .ok (.iadd, 1) := by decide +kernel
theorem dX4_moveAll_42 : decode cX4_moveAll 42 = .ok (.istore_n 2, 1) := by decide +kernel
theorem dX4_moveAll_43 : decode cX4_moveAll 43 = .ok (.iinc 3 1, 3) := by decide +kernel
theorem dX4_moveAll_46 : decode cX4_moveAll 46 = .ok (.goto (-42), 3) := by decide +kernel
theorem dX4_moveAll_49 : decode cX4_moveAll 49 = .ok (.aload_n 1, 1) := by decide +kernel
theorem dX4_moveAll_50 : decode cX4_moveAll 50 = .ok (.getfield 66, 3) := by decide +kernel
theorem dX4_moveAll_53 : decode cX4_moveAll 53 = .ok (.iconst 0, 1) := by decide +kernel
theorem dX4_moveAll_54 : decode cX4_moveAll 54 = .ok (.invokestatic 33, 3) := by decide +kernel
theorem dX4_moveAll_57 : decode cX4_moveAll 57 = .ok (.iload_n 2, 1) := by decide +kernel
theorem dX4_moveAll_58 : decode cX4_moveAll 58 = .ok (.ireturn, 1) := by decide +kernel
set_option maxRecDepth 20000 in
theorem ggX5_init_X3_init : GoodIn wsX5_init wsX3_init := goodIn_r _ [9, 10, 2, 3, 11, 12, 13, 14, 18, 19, 20, 21] (by decide +kernel) (by decide +kernel)
set_option maxRecDepth 20000 in
theorem gX5_init_X3_init_n17 : GoodIn wsX5_init (wsX3_init) := ggX5_init_X3_init
theorem dX5_init_0 : decode cX5_init 0 = .ok (.aload_n 0, 1) := by decide +kernel
theorem dX5_init_1 : decode cX5_init 1 = .ok (.invokespecial 3, 3) := by decide +kernel
theorem dX5_init_4 : decode cX5_init 4 = .ok (.aload_n 0, 1) := by decide +kernel
theorem dX5_init_5 : decode cX5_init 5 = .ok (.bipush 24, 2) := by decide +kernel
theorem dX5_init_7 : decode cX5_init 7 = .ok (.anewarray 9, 3) := by decide +kernel
theorem dX5_init_10 : decode cX5_init 10 = .ok (.putfield 11, 3) := by decide +kernel
theorem dX5_init_13 : decode cX5_init 13 = .ok (.iconst 0, 1) := by decide +kernel
theorem dX5_init_14 : decode cX5_init 14 = .ok (.istore_n 1, 1) := by decide +kernel
theorem dX5_init_15 : decode cX5_init 15 = .ok (.iload_n 1, 1) := by decide +kernel
theorem dX5_init_16 : decode cX5_init 16 = .ok (.bipush 24, 2) := by decide +kernel
theorem dX5_init_18 : decode cX5_init 18 = .ok (.if_icmp .ge 22, 3) := by decide +kernel
theorem dX5_init_21 : decode cX5_init 21 = .ok (.aload_n 0, 1) := by decide +kernel
theorem dX5_init_22 : decode cX5_init 22 = .ok (.getfield 11, 3) := by decide +kernel
theorem dX5_init_25 : decode cX5_init 25 = .ok (.iload_n 1, 1) := by decide +kernel
theorem dX5_init_26 : decode cX5_init 26 = .ok (.new 9, 3) := by decide +kernel
theorem dX5_init_29 : decode cX5_init 29 = .ok (.dup, 1) := by decide +kernel
theorem dX5_init_30 : decode cX5_init 30 = .ok (.invokespecial 17, 3) := by decide +kernel
theorem dX5_init_33 : decode cX5_init 33 = .ok (.aastore, 1) := by decide +kernel
theorem dX5_init_34 : decode cX5_init 34 = .ok (.iinc 1 1, 3) := by decide +kernel
theorem dX5_init_37 : decode cX5_init 37 = .ok (.goto (-22), 3) := by decide +kernel
theorem dX5_init_40 : decode cX5_init 40 = .ok (.return_, 1) := by decide +kernel
set_option maxRecDepth 20000 in
theorem ggX5_keep_X3_takeFrom : GoodIn wsX5_keep wsX3_takeFrom := goodIn_r _ [12, 13, 14, 15, 16, 17, 18, 19, 20, 24, 25, 26, 27] (by decide +kernel) (by decide +kernel)
set_option maxRecDepth 20000 in
theorem gX5_keep_X3_takeFrom : GoodIn wsX5_keep (wsV RX5 22 RX3 yX3_takeFrom wsX3_takeFrom) := goodIn_app (goodIn_of _ (by decide +kernel)) ggX5_keep_X3_takeFrom
theorem dX5_keep_0 : decode cX5_keep 0 = .ok (.aload_n 0, 1) := by decide +kernel
theorem dX5_keep_1 : decode cX5_keep 1 = .ok (.getfield 11, 3) := by decide +kernel
theorem dX5_keep_4 : decode cX5_keep 4 = .ok (.aload_n 0, 1) := by decide +kernel
theorem dX5_keep_5 : decode cX5_keep 5 = .ok (.getfield 18, 3) := by decide +kernel
theorem dX5_keep_8 : decode cX5_keep 8 = .ok (.aaload, 1) := by decide +kernel
theorem dX5_keep_9 : decode cX5_keep 9 = .ok (.aload_n 1, 1) := by decide +kernel
theorem dX5_keep_10 : decode cX5_keep 10 = .ok (.invokevirtual 22, 3) := by decide +kernel
theorem dX5_keep_13 : decode cX5_keep 13 = .ok (.aload_n 0, 1) := by decide +kernel
theorem dX5_keep_14 : decode cX5_keep 14 = .ok (.aload_n 0, 1) := by decide +kernel
theorem dX5_keep_15 : decode cX5_keep 15 = .ok (.getfield 18, 3) := by decide +kernel
theorem dX5_keep_18 : decode cX5_keep 18 = .ok (.iconst 1, 1) := by decide +kernel
theorem dX5_keep_19 : decode cX5_keep 19 = .ok (.iadd, 1) := by decide +kernel
theorem dX5_keep_20 : decode cX5_keep 20 = .ok (.bipush 24, 2) := by decide +kernel
theorem dX5_keep_22 : decode cX5_keep 22 = .ok (.irem, 1) := by decide +kernel
theorem dX5_keep_23 : decode cX5_keep 23 = .ok (.putfield 18, 3) := by decide +kernel
theorem dX5_keep_26 : decode cX5_keep 26 = .ok (.aload_n 0, 1) := by decide +kernel
theorem dX5_keep_27 : decode cX5_keep 27 = .ok (.aload_n 0, 1) := by decide +kernel
theorem dX5_keep_28 : decode cX5_keep 28 = .ok (.getfield 26, 3) := by decide +kernel
theorem dX5_keep_31 : decode cX5_keep 31 = .ok (.iconst 1, 1) := by decide +kernel
theorem dX5_keep_32 : decode cX5_keep 32 = .ok (.iadd, 1) := by decide +kernel
theorem dX5_keep_33 : decode cX5_keep 33 = .ok (.bipush 24, 2) := by decide +kernel
theorem dX5_keep_35 : decode cX5_keep 35 = .ok (.invokestatic 29, 3) := by decide +kernel
theorem dX5_keep_38 : decode cX5_keep 38 = .ok (.putfield 26, 3) := by decide +kernel
theorem dX5_keep_41 : decode cX5_keep 41 = .ok (.return_, 1) := by decide +kernel
set_option maxRecDepth 20000 in
theorem ggX5_giveBack_X3_takeFrom : GoodIn wsX5_giveBack wsX3_takeFrom := goodIn_r _ [8, 9, 10, 11, 12, 13, 14, 15, 16, 20, 21, 22, 23] (by decide +kernel) (by decide +kernel)
set_option maxRecDepth 20000 in
theorem gX5_giveBack_X3_takeFrom : GoodIn wsX5_giveBack (wsV RX5 22 RX3 yX3_takeFrom wsX3_takeFrom) := goodIn_app (goodIn_of _ (by decide +kernel)) ggX5_giveBack_X3_takeFrom
theorem dX5_giveBack_0 : decode cX5_giveBack 0 = .ok (.aload_n 0, 1) := by decide +kernel
theorem dX5_giveBack_1 : decode cX5_giveBack 1 = .ok (.aload_n 0, 1) := by decide +kernel
theorem dX5_giveBack_2 : decode cX5_giveBack 2 = .ok (.getfield 18, 3) := by decide +kernel
theorem dX5_giveBack_5 : decode cX5_giveBack 5 = .ok (.bipush 24, 2) := by decide +kernel
theorem dX5_giveBack_7 : decode cX5_giveBack 7 = .ok (.iadd, 1) := by decide +kernel
theorem dX5_giveBack_8 : decode cX5_giveBack 8 = .ok (.iconst 1, 1) := by decide +kernel
theorem dX5_giveBack_9 : decode cX5_giveBack 9 = .ok (.isub, 1) := by decide +kernel
theorem dX5_giveBack_10 : decode cX5_giveBack 10 = .ok (.bipush 24, 2) := by decide +kernel
theorem dX5_giveBack_12 : decode cX5_giveBack 12 = .ok (.irem, 1) := by decide +kernel
theorem dX5_giveBack_13 : decode cX5_giveBack 13 = .ok (.putfield 18, 3) := by decide +kernel
theorem dX5_giveBack_16 : decode cX5_giveBack 16 = .ok (.aload_n 0, 1) := by decide +kernel
theorem dX5_giveBack_17 : decode cX5_giveBack 17 = .ok (.dup, 1) := by decide +kernel
theorem dX5_giveBack_18 : decode cX5_giveBack 18 = .ok (.getfield 26, 3) := by decide +kernel
theorem dX5_giveBack_21 : decode cX5_giveBack 21 = .ok (.iconst 1, 1) := by decide +kernel
theorem dX5_giveBack_22 : decode cX5_giveBack 22 = .ok (.isub, 1) := by decide +kernel
theorem dX5_giveBack_23 : decode cX5_giveBack 23 = .ok (.putfield 26, 3) := by decide +kernel
theorem dX5_giveBack_26 : decode cX5_giveBack 26 = .ok (.aload_n 1, 1) := by decide +kernel
theorem dX5_giveBack_27 : decode cX5_giveBack 27 = .ok (.aload_n 0, 1) := by decide +kernel
theorem dX5_giveBack_28 : decode cX5_giveBack 28 = .ok (.getfield 11, 3) := by decide +kernel
theorem dX5_giveBack_31 : decode cX5_giveBack 31 = .ok (.aload_n 0, 1) := by decide +kernel
theorem dX5_giveBack_32 : decode cX5_giveBack 32 = .ok (.getfield 18, 3) := by decide +kernel
theorem dX5_giveBack_35 : decode cX5_giveBack 35 = .ok (.aaload, 1) := by decide +kernel
theorem dX5_giveBack_36 : decode cX5_giveBack 36 = .ok (.invokevirtual 22, 3) := by decide +kernel
theorem dX5_giveBack_39 : decode cX5_giveBack 39 = .ok (.return_, 1) := by decide +kernel
theorem dX5_forget_0 : decode cX5_forget 0 = .ok (.aload_n 0, 1) := by decide +kernel
theorem dX5_forget_1 : decode cX5_forget 1 = .ok (.iconst 0, 1) := by decide +kernel
theorem dX5_forget_2 : decode cX5_forget 2 = .ok (.putfield 26, 3) := by decide +kernel
theorem dX5_forget_5 : decode cX5_forget 5 = .ok (.return_, 1) := by decide +kernel
set_option maxRecDepth 20000 in
theorem ggX6_init_J7_fill_53178 : GoodIn wsX6_init wsJ7_fill_53178 := goodIn_r _ [12] (by decide +kernel) (by decide +kernel)
set_option maxRecDepth 20000 in
theorem gX6_init_J7_fill_53178 : GoodIn wsX6_init (va_wsS RX6 23 yJ7_fill_53178 wsJ7_fill_53178) := goodIn_app (goodIn_of _ (by decide +kernel)) ggX6_init_J7_fill_53178
theorem dX6_init_0 : decode cX6_init 0 = .ok (.aload_n 0, 1) := by decide +kernel
theorem dX6_init_1 : decode cX6_init 1 = .ok (.invokespecial 3, 3) := by decide +kernel
theorem dX6_init_4 : decode cX6_init 4 = .ok (.aload_n 0, 1) := by decide +kernel
theorem dX6_init_5 : decode cX6_init 5 = .ok (.bipush 8, 2) := by decide +kernel
theorem dX6_init_7 : decode cX6_init 7 = .ok (.bipush 40, 2) := by decide +kernel
theorem dX6_init_9 : decode cX6_init 9 = .ok (.multianewarray 9 2, 4) := by decide +kernel
theorem dX6_init_13 : decode cX6_init 13 = .ok (.putfield 11, 3) := by decide +kernel
theorem dX6_init_16 : decode cX6_init 16 = .ok (.aload_n 0, 1) := by decide +kernel
theorem dX6_init_17 : decode cX6_init 17 = .ok (.bipush 8, 2) := by decide +kernel
theorem dX6_init_19 : decode cX6_init 19 = .ok (.newarray .int, 2) := by decide +kernel
theorem dX6_init_21 : decode cX6_init 21 = .ok (.putfield 16, 3) := by decide +kernel
theorem dX6_init_24 : decode cX6_init 24 = .ok (.aload_n 0, 1) := by decide +kernel
theorem dX6_init_25 : decode cX6_init 25 = .ok (.bipush 8, 2) := by decide +kernel
theorem dX6_init_27 : decode cX6_init 27 = .ok (.newarray .int, 2) := by decide +kernel
theorem dX6_init_29 : decode cX6_init 29 = .ok (.putfield 20, 3) := by decide +kernel
theorem dX6_init_32 : decode cX6_init 32 = .ok (.aload_n 0, 1) := by decide +kernel
theorem dX6_init_33 : decode cX6_init 33 = .ok (.getfield 16, 3) := by decide +kernel
theorem dX6_init_36 : decode cX6_init 36 = .ok (.iconst (-1), 1) := by decide +kernel
theorem dX6_init_37 : decode cX6_init 37 = .ok (.invokestatic 23, 3) := by decide +kernel
theorem dX6_init_40 : decode cX6_init 40 = .ok (.return_, 1) := by decide +kernel
theorem dX6_isMissing_0 : decode cX6_isMissing 0 = .ok (.aload_n 0, 1) := by decide +kernel
theorem dX6_isMissing_1 : decode cX6_isMissing 1 = .ok (.getfield 16, 3) := by decide +kernel
theorem dX6_isMissing_4 : decode cX6_isMissing 4 = .ok (.iload_n 1, 1) := by decide +kernel
theorem dX6_isMissing_5 : decode cX6_isMissing 5 = .ok (.iaload, 1) := by decide +kernel
theorem dX6_isMissing_6 : decode cX6_isMissing 6 = .ok (.iconst (-1), 1) := by decide +kernel
theorem dX6_isMissing_7 : decode cX6_isMissing 7 = .ok (.if_icmp .ne 7, 3) := by decide +kernel
theorem dX6_isMissing_10 : decode cX6_isMissing 10 = .ok (.iconst 1, 1) := by decide +kernel
theorem dX6_isMissing_11 : decode cX6_isMissing 11 = .ok (.goto 4, 3) := by decide +kernel
theorem dX6_isMissing_14 : decode cX6_isMissing 14 = .ok (.iconst 0, 1) := by decide +kernel
theorem dX6_isMissing_15 : decode cX6_isMissing 15 = .ok (.ireturn, 1) := by decide +kernel
set_option maxRecDepth 20000 in
theorem ggX6_make_J7_fill_53178 : GoodIn wsX6_make wsJ7_fill_53178 := goodIn_r _ [7] (by decide +kernel) (by decide +kernel)
set_option maxRecDepth 20000 in
theorem gX6_make_J7_fill_53178 : GoodIn wsX6_make (va_wsS RX6 23 yJ7_fill_53178 wsJ7_fill_53178) := goodIn_app (goodIn_of _ (by decide +kernel)) ggX6_make_J7_fill_53178
theorem dX6_make_0 : decode cX6_make 0 = .ok (.aload_n 0, 1) := by decide +kernel
theorem dX6_make_1 : decode cX6_make 1 = .ok (.getfield 16, 3) := by decide +kernel
theorem dX6_make_4 : decode cX6_make 4 = .ok (.iload_n 1, 1) := by decide +kernel
theorem dX6_make_5 : decode cX6_make 5 = .ok (.iload_n 2, 1) := by decide +kernel
theorem dX6_make_6 : decode cX6_make 6 = .ok (.iastore, 1) := by decide +kernel
theorem dX6_make_7 : decode cX6_make 7 = .ok (.aload_n 0, 1) := by decide +kernel
theorem dX6_make_8 : decode cX6_make 8 = .ok (.getfield 20, 3) := by decide +kernel
theorem dX6_make_11 : decode cX6_make 11 = .ok (.iload_n 1, 1) := by decide +kernel
theorem dX6_make_12 : decode cX6_make 12 = .ok (.iload_n 3, 1) := by decide +kernel
theorem dX6_make_13 : decode cX6_make 13 = .ok (.iastore, 1) := by decide +kernel
theorem dX6_make_14 : decode cX6_make 14 = .ok (.aload_n 0, 1) := by decide +kernel
theorem dX6_make_15 : decode cX6_make 15 = .ok (.getfield 11, 3) := by decide +kernel
theorem dX6_make_18 : decode cX6_make 18 = .ok (.iload_n 1, 1) := by decide +kernel
theorem dX6_make_19 : decode cX6_make 19 = .ok (.aaload, 1) := by decide +kernel
theorem dX6_make_20 : decode cX6_make 20 = .ok (.iconst 0, 1) := by decide +kernel
theorem dX6_make_21 : decode cX6_make 21 = .ok (.invokestatic 23, 3) := by decide +kernel
theorem dX6_make_24 : decode cX6_make 24 = .ok (.return_, 1) := by decide +kernel
theorem dX6_remove_0 : decode cX6_remove 0 = .ok (.aload_n 0, 1) := by decide +kernel
theorem dX6_remove_1 : decode cX6_remove 1 = .ok (.getfield 16, 3) := by decide +kernel
theorem dX6_remove_4 : decode cX6_remove 4 = .ok (.iload_n 1, 1) := by decide +kernel
theorem dX6_remove_5 : decode cX6_remove 5 = .ok (.iconst (-1), 1) := by decide +kernel
theorem dX6_remove_6 : decode cX6_remove 6 = .ok (.iastore, 1) := by decide +kernel
theorem dX6_remove_7 : decode cX6_remove 7 = .ok (.aload_n 0, 1) := by decide +kernel
theorem dX6_remove_8 : decode cX6_remove 8 = .ok (.getfield 20, 3) := by decide +kernel
theorem dX6_remove_11 : decode cX6_remove 11 = .ok (.iload_n 1, 1) := by decide +kernel
theorem dX6_remove_12 : decode cX6_remove 12 = .ok (.iaload, 1) := by decide +kernel
theorem dX6_remove_13 : decode cX6_remove 13 = .ok (.ireturn, 1) := by decide +kernel
theorem dX6_hasPlaces_0 : decode cX6_hasPlaces 0 = .ok (.iload_n 2, 1) := by decide +kernel
theorem dX6_hasPlaces_1 : decode cX6_hasPlaces 1 = .ok (.ifCond .lt 33, 3) := by decide +kernel
theorem dX6_hasPlaces_4 : decode cX6_hasPlaces 4 = .ok (.iload_n 3, 1) := by decide +kernel
theorem dX6_hasPlaces_5 : decode cX6_hasPlaces 5 = .ok (.ifCond .lt 29, 3) := by decide +kernel
theorem dX6_hasPlaces_8 : decode cX6_hasPlaces 8 = .ok (.iload_n 3, 1) := by decide +kernel
theorem dX6_hasPlaces_9 : decode cX6_hasPlaces 9 = .ok (.aload_n 0, 1) := by decide +kernel
theorem dX6_hasPlaces_10 : decode cX6_hasPlaces 10 = .ok (.getfield 20, 3) := by decide +kernel
theorem dX6_hasPlaces_13 : decode cX6_hasPlaces 13 = .ok (.iload_n 1, 1) := by decide +kernel
theorem dX6_hasPlaces_14 : decode cX6_hasPlaces 14 = .ok (.iaload, 1) := by decide +kernel
theorem dX6_hasPlaces_15 : decode cX6_hasPlaces 15 = .ok (.if_icmp .gt 19, 3) := by decide +kernel
theorem dX6_hasPlaces_18 : decode cX6_hasPlaces 18 = .ok (.iload_n 2, 1) := by decide +kernel
theorem dX6_hasPlaces_19 : decode cX6_hasPlaces 19 = .ok (.aload_n 0, 1) := by decide +kernel
theorem dX6_hasPlaces_20 : decode cX6_hasPlaces 20 = .ok (.getfield 20, 3) := by decide +kernel
theorem dX6_hasPlaces_23 : decode cX6_hasPlaces 23 = .ok (.iload_n 1, 1) := by decide +kernel
theorem dX6_hasPlaces_24 : decode cX6_hasPlaces 24 = .ok (.iaload, 1) := by decide +kernel
theorem dX6_hasPlaces_25 : decode cX6_hasPlaces 25 = .ok (.iload_n 3, 1) := by decide +kernel
theorem dX6_hasPlaces_26 : decode cX6_hasPlaces 26 = .ok (.isub, 1) := by decide +kernel
theorem dX6_hasPlaces_27 : decode cX6_hasPlaces 27 = .ok (.if_icmp .gt 7, 3) := by decide +kernel
theorem dX6_hasPlaces_30 : decode cX6_hasPlaces 30 = .ok (.iconst 1, 1) := by decide +kernel
theorem dX6_hasPlaces_31 : decode cX6_hasPlaces 31 = .ok (.goto 4, 3) := by decide +kernel
theorem dX6_hasPlaces_34 : decode cX6_hasPlaces 34 = .ok (.iconst 0, 1) := by decide +kernel
theorem dX6_hasPlaces_35 : decode cX6_hasPlaces 35 = .ok (.ireturn, 1) := by decide +kernel
theorem dX6_put_0 : decode cX6_put 0 = .ok (.iload_n 3, 1) := by decide +kernel
theorem dX6_put_1 : decode cX6_put 1 = .ok (.istore 4, 2) := by decide +kernel
theorem dX6_put_3 : decode cX6_put 3 = .ok (.aload_n 0, 1) := by decide +kernel
theorem dX6_put_4 : decode cX6_put 4 = .ok (.getfield 16, 3) := by decide +kernel
theorem dX6_put_7 : decode cX6_put 7 = .ok (.iload_n 1, 1) := by decide +kernel
theorem dX6_put_8 : decode cX6_put 8 = .ok (.iaload, 1) := by decide +kernel
theorem dX6_put_9 : decode cX6_put 9 = .ok (.ifCond .ne 10, 3) := by decide +kernel
theorem dX6_put_12 : decode cX6_put 12 = .ok (.iload_n 3, 1) := by decide +kernel
theorem dX6_put_13 : decode cX6_put 13 = .ok (.i2b, 1) := by decide +kernel
theorem dX6_put_14 : decode cX6_put 14 = .ok (.istore 4, 2) := by decide +kernel
theorem dX6_put_16 : decode cX6_put 16 = .ok (.goto 17, 3) := by decide +kernel
theorem dX6_put_19 : decode cX6_put 19 = .ok (.aload_n 0, 1) := by decide +kernel
theorem dX6_put_20 : decode cX6_put 20 = .ok (.getfield 16, 3) := by decide +kernel
theorem dX6_put_23 : decode cX6_put 23 = .ok (.iload_n 1, 1) := by decide +kernel
theorem dX6_put_24 : decode cX6_put 24 = .ok (.iaload, 1) := by decide +kernel
theorem dX6_put_25 : decode cX6_put 25 = .ok (.iconst 1, 1) := by decide +kernel
theorem dX6_put_26 : decode cX6_put 26 = .ok (.if_icmp .ne 7, 3) := by decide +kernel
theorem dX6_put_29 : decode cX6_put 29 = .ok (.iload_n 3, 1) := by decide +kernel
theorem dX6_put_30 : decode cX6_put 30 = .ok (.i2s, 1) := by decide +kernel
theorem dX6_put_31 : decode cX6_put 31 = .ok (.istore 4, 2) := by decide +kernel
theorem dX6_put_33 : decode cX6_put 33 = .ok (.aload_n 0, 1) := by decide +kernel
theorem dX6_put_34 : decode cX6_put 34 = .ok (.getfield 11, 3) := by decide +kernel
theorem dX6_put_37 : decode cX6_put 37 = .ok (.iload_n 1, 1) := by decide +kernel
theorem dX6_put_38 : decode cX6_put 38 = .ok (.aaload, 1) := by decide +kernel
theorem dX6_put_39 : decode cX6_put 39 = .ok (.iload_n 2, 1) := by decide +kernel
theorem dX6_put_40 : decode cX6_put 40 = .ok (.iload 4, 2) := by decide +kernel
theorem dX6_put_42 : decode cX6_put 42 = .ok (.iastore, 1) := by decide +kernel
theorem dX6_put_43 : decode cX6_put 43 = .ok (.iload 4, 2) := by decide +kernel
theorem dX6_put_45 : decode cX6_put 45 = .ok (.ireturn, 1) := by decide +kernel
theorem dX6_hasBelowZero_0 : decode cX6_hasBelowZero 0 = .ok (.iload_n 2, 1) := by decide +kernel
theorem dX6_hasBelowZero_1 : decode cX6_hasBelowZero 1 = .ok (.istore 4, 2) := by decide +kernel
theorem dX6_hasBelowZero_3 : decode cX6_hasBelowZero 3 = .ok (.iload 4, 2) := by decide +kernel
theorem dX6_hasBelowZero_5 : decode cX6_hasBelowZero 5 = .ok (.iload_n 2, 1) := by decide +kernel
theorem dX6_hasBelowZero_6 : decode cX6_hasBelowZero 6 = .ok (.iload_n 3, 1) := by decide +kernel
theorem dX6_hasBelowZero_7 : decode cX6_hasBelowZero 7 = .ok (.iadd, 1) := by decide +kernel
theorem dX6_hasBelowZero_8 : decode cX6_hasBelowZero 8 = .ok (.if_icmp .ge 23, 3) := by decide +kernel
theorem dX6_hasBelowZero_11 : decode cX6_hasBelowZero 11 = .ok (.aload_n 0, 1) := by decide +kernel
theorem dX6_hasBelowZero_12 : decode cX6_hasBelowZero 12 = .ok (.getfield 11, 3) := by decide +kernel
theorem dX6_hasBelowZero_15 : decode cX6_hasBelowZero 15 = .ok (.iload_n 1, 1) := by decide +kernel
theorem dX6_hasBelowZero_16 : decode cX6_hasBelowZero 16 = .ok (.aaload, 1) := by decide +kernel
theorem dX6_hasBelowZero_17 : decode cX6_hasBelowZero 17 = .ok (.iload 4, 2) := by decide +kernel
theorem dX6_hasBelowZero_19 : decode cX6_hasBelowZero 19 = .ok (.iaload, 1) := by decide +kernel
theorem dX6_hasBelowZero_20 : decode cX6_hasBelowZero 20 = .ok (.ifCond .ge 5, 3) := by decide +kernel
theorem dX6_hasBelowZero_23 : decode cX6_hasBelowZero 23 = .ok (.iconst 1, 1) := by decide +kernel
theorem dX6_hasBelowZero_24 : decode cX6_hasBelowZero 24 = .ok (.ireturn, 1) := by decide +kernel
theorem dX6_hasBelowZero_25 : decode cX6_hasBelowZero 25 = .ok (.iinc 4 1, 3) := by decide +kernel
theorem dX6_hasBelowZero_28 : decode cX6_hasBelowZero 28 = .ok (.goto (-25), 3) := by decide +kernel
theorem dX6_hasBelowZero_31 : decode cX6_hasBelowZero 31 = .ok (.iconst 0, 1) := by decide +kernel
theorem dX6_hasBelowZero_32 : decode cX6_hasBelowZero 32 = .ok (.ireturn, 1) := by decide +kernel
set_option maxRecDepth 20000 in
theorem ggX6_present_X6_isMissing : GoodIn wsX6_present wsX6_isMissing := goodIn_r _ [5, 6, 7, 8, 9] (by decide +kernel) (by decide +kernel)
set_option maxRecDepth 20000 in
theorem gX6_present_X6_isMissing : GoodIn wsX6_present (wsV RX6 29 RX6 yX6_isMissing wsX6_isMissing) := goodIn_app (goodIn_of _ (by decide +kernel)) ggX6_present_X6_isMissing
theorem dX6_present_0 : decode cX6_present 0 = .ok (.iconst 0, 1) := by decide +kernel
theorem dX6_present_1 : decode cX6_present 1 = .ok (.istore_n 1, 1) := by decide +kernel
theorem dX6_present_2 : decode cX6_present 2 = .ok (.iconst 0, 1) := by decide +kernel
theorem dX6_present_3 : decode cX6_present 3 = .ok (.istore_n 2, 1) := by decide +kernel
theorem dX6_present_4 : decode cX6_present 4 = .ok (.iload_n 2, 1) := by decide +kernel
theorem dX6_present_5 : decode cX6_present 5 = .ok (.bipush 8, 2) := by decide +kernel
theorem dX6_present_7 : decode cX6_present 7 = .ok (.if_icmp .ge 20, 3) := by decide +kernel
theorem dX6_present_10 : decode cX6_present 10 = .ok (.aload_n 0, 1) := by decide +kernel
theorem dX6_present_11 : decode cX6_present 11 = .ok (.iload_n 2, 1) := by decide +kernel
theorem dX6_present_12 : decode cX6_present 12 = .ok (.invokevirtual 29, 3) := by decide +kernel
theorem dX6_present_15 : decode cX6_present 15 = .ok (.ifCond .ne 6, 3) := by decide +kernel
theorem dX6_present_18 : decode cX6_present 18 = .ok (.iinc 1 1, 3) := by decide +kernel
theorem dX6_present_21 : decode cX6_present 21 = .ok (.iinc 2 1, 3) := by decide +kernel
theorem dX6_present_24 : decode cX6_present 24 = .ok (.goto (-20), 3) := by decide +kernel
theorem dX6_present_27 : decode cX6_present 27 = .ok (.iload_n 1, 1) := by decide +kernel
