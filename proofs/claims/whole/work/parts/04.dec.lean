theorem dX6_init_5 : decode cX6_init 5 = .ok (.bipush 40, 2) := by decide +kernel
theorem dX6_init_7 : decode cX6_init 7 = .ok (.newarray .int, 2) := by decide +kernel
theorem dX6_init_9 : decode cX6_init 9 = .ok (.putfield 9, 3) := by decide +kernel
theorem dX6_init_12 : decode cX6_init 12 = .ok (.aload_n 0, 1) := by decide +kernel
theorem dX6_init_13 : decode cX6_init 13 = .ok (.iconst 0, 1) := by decide +kernel
theorem dX6_init_14 : decode cX6_init 14 = .ok (.putfield 15, 3) := by decide +kernel
theorem dX6_init_17 : decode cX6_init 17 = .ok (.aload_n 0, 1) := by decide +kernel
theorem dX6_init_18 : decode cX6_init 18 = .ok (.iconst 0, 1) := by decide +kernel
theorem dX6_init_19 : decode cX6_init 19 = .ok (.putfield 19, 3) := by decide +kernel
theorem dX6_init_22 : decode cX6_init 22 = .ok (.aload_n 0, 1) := by decide +kernel
theorem dX6_init_23 : decode cX6_init 23 = .ok (.iconst 0, 1) := by decide +kernel
theorem dX6_init_24 : decode cX6_init 24 = .ok (.putfield 22, 3) := by decide +kernel
theorem dX6_init_27 : decode cX6_init 27 = .ok (.aload_n 0, 1) := by decide +kernel
theorem dX6_init_28 : decode cX6_init 28 = .ok (.iconst 0, 1) := by decide +kernel
theorem dX6_init_29 : decode cX6_init 29 = .ok (.putfield 25, 3) := by decide +kernel
theorem dX6_init_32 : decode cX6_init 32 = .ok (.return_, 1) := by decide +kernel
theorem dX6_speak_0 : decode cX6_speak 0 = .ok (.aload_n 0, 1) := by decide +kernel
theorem dX6_speak_1 : decode cX6_speak 1 = .ok (.iconst 0, 1) := by decide +kernel
theorem dX6_speak_2 : decode cX6_speak 2 = .ok (.putfield 15, 3) := by decide +kernel
theorem dX6_speak_5 : decode cX6_speak 5 = .ok (.aload_n 0, 1) := by decide +kernel
theorem dX6_speak_6 : decode cX6_speak 6 = .ok (.iload_n 1, 1) := by decide +kernel
theorem dX6_speak_7 : decode cX6_speak 7 = .ok (.putfield 19, 3) := by decide +kernel
theorem dX6_speak_10 : decode cX6_speak 10 = .ok (.aload_n 0, 1) := by decide +kernel
theorem dX6_speak_11 : decode cX6_speak 11 = .ok (.iload_n 2, 1) := by decide +kernel
theorem dX6_speak_12 : decode cX6_speak 12 = .ok (.putfield 22, 3) := by decide +kernel
theorem dX6_speak_15 : decode cX6_speak 15 = .ok (.aload_n 0, 1) := by decide +kernel
theorem dX6_speak_16 : decode cX6_speak 16 = .ok (.iload_n 3, 1) := by decide +kernel
theorem dX6_speak_17 : decode cX6_speak 17 = .ok (.putfield 25, 3) := by decide +kernel
theorem dX6_speak_20 : decode cX6_speak 20 = .ok (.aload_n 0, 1) := by decide +kernel
theorem dX6_speak_21 : decode cX6_speak 21 = .ok (.iload 4, 2) := by decide +kernel
theorem dX6_speak_23 : decode cX6_speak 23 = .ok (.iload 5, 2) := by decide +kernel
theorem dX6_speak_25 : decode cX6_speak 25 = .ok (.iconst 0, 1) := by decide +kernel
theorem dX6_speak_26 : decode cX6_speak 26 = .ok (.invokevirtual 28, 3) := by decide +kernel
theorem dX6_speak_29 : decode cX6_speak 29 = .ok (.ireturn, 1) := by decide +kernel
theorem dX6_own_0 : decode cX6_own 0 = .ok (.aload_n 0, 1) := by decide +kernel
theorem dX6_own_1 : decode cX6_own 1 = .ok (.aload_n 0, 1) := by decide +kernel
theorem dX6_own_2 : decode cX6_own 2 = .ok (.getfield 19, 3) := by decide +kernel
theorem dX6_own_5 : decode cX6_own 5 = .ok (.iload_n 1, 1) := by decide +kernel
theorem dX6_own_6 : decode cX6_own 6 = .ok (.invokestatic 32, 3) := by decide +kernel
theorem dX6_own_9 : decode cX6_own 9 = .ok (.iload_n 2, 1) := by decide +kernel
theorem dX6_own_10 : decode cX6_own 10 = .ok (.iload_n 3, 1) := by decide +kernel
theorem dX6_own_11 : decode cX6_own 11 = .ok (.invokevirtual 36, 3) := by decide +kernel
theorem dX6_own_14 : decode cX6_own 14 = .ok (.ireturn, 1) := by decide +kernel
theorem dX6_above_0 : decode cX6_above 0 = .ok (.aload_n 0, 1) := by decide +kernel
theorem dX6_above_1 : decode cX6_above 1 = .ok (.getstatic 39, 3) := by decide +kernel
theorem dX6_above_4 : decode cX6_above 4 = .ok (.iload_n 1, 1) := by decide +kernel
theorem dX6_above_5 : decode cX6_above 5 = .ok (.bipush 10, 2) := by decide +kernel
theorem dX6_above_7 : decode cX6_above 7 = .ok (.idiv, 1) := by decide +kernel
theorem dX6_above_8 : decode cX6_above 8 = .ok (.iconst 1, 1) := by decide +kernel
theorem dX6_above_9 : decode cX6_above 9 = .ok (.isub, 1) := by decide +kernel
theorem dX6_above_10 : decode cX6_above 10 = .ok (.iaload, 1) := by decide +kernel
theorem dX6_above_11 : decode cX6_above 11 = .ok (.iload_n 2, 1) := by decide +kernel
theorem dX6_above_12 : decode cX6_above 12 = .ok (.invokestatic 32, 3) := by decide +kernel
theorem dX6_above_15 : decode cX6_above 15 = .ok (.iload_n 3, 1) := by decide +kernel
theorem dX6_above_16 : decode cX6_above 16 = .ok (.iload 4, 2) := by decide +kernel
theorem dX6_above_18 : decode cX6_above 18 = .ok (.invokevirtual 36, 3) := by decide +kernel
theorem dX6_above_21 : decode cX6_above 21 = .ok (.ireturn, 1) := by decide +kernel
theorem dX6_bodyFrom_0 : decode cX6_bodyFrom 0 = .ok (.iload_n 0, 1) := by decide +kernel
theorem dX6_bodyFrom_1 : decode cX6_bodyFrom 1 = .ok (.istore_n 2, 1) := by decide +kernel
theorem dX6_bodyFrom_2 : decode cX6_bodyFrom 2 = .ok (.iconst 0, 1) := by decide +kernel
theorem dX6_bodyFrom_3 : decode cX6_bodyFrom 3 = .ok (.istore_n 3, 1) := by decide +kernel
theorem dX6_bodyFrom_4 : decode cX6_bodyFrom 4 = .ok (.iload_n 3, 1) := by decide +kernel
theorem dX6_bodyFrom_5 : decode cX6_bodyFrom 5 = .ok (.bipush 7, 2) := by decide +kernel
theorem dX6_bodyFrom_7 : decode cX6_bodyFrom 7 = .ok (.if_icmp .ge 27, 3) := by decide +kernel
theorem dX6_bodyFrom_10 : decode cX6_bodyFrom 10 = .ok (.getstatic 42, 3) := by decide +kernel
theorem dX6_bodyFrom_13 : decode cX6_bodyFrom 13 = .ok (.iload_n 2, 1) := by decide +kernel
theorem dX6_bodyFrom_14 : decode cX6_bodyFrom 14 = .ok (.iconst 4, 1) := by decide +kernel
theorem dX6_bodyFrom_15 : decode cX6_bodyFrom 15 = .ok (.imul, 1) := by decide +kernel
theorem dX6_bodyFrom_16 : decode cX6_bodyFrom 16 = .ok (.iload_n 1, 1) := by decide +kernel
theorem dX6_bodyFrom_17 : decode cX6_bodyFrom 17 = .ok (.iadd, 1) := by decide +kernel
theorem dX6_bodyFrom_18 : decode cX6_bodyFrom 18 = .ok (.iaload, 1) := by decide +kernel
theorem dX6_bodyFrom_19 : decode cX6_bodyFrom 19 = .ok (.ifCond .ne 15, 3) := by decide +kernel
theorem dX6_bodyFrom_22 : decode cX6_bodyFrom 22 = .ok (.getstatic 39, 3) := by decide +kernel
theorem dX6_bodyFrom_25 : decode cX6_bodyFrom 25 = .ok (.iload_n 2, 1) := by decide +kernel
theorem dX6_bodyFrom_26 : decode cX6_bodyFrom 26 = .ok (.iaload, 1) := by decide +kernel
theorem dX6_bodyFrom_27 : decode cX6_bodyFrom 27 = .ok (.istore_n 2, 1) := by decide +kernel
theorem dX6_bodyFrom_28 : decode cX6_bodyFrom 28 = .ok (.iinc 3 1, 3) := by decide +kernel
theorem dX6_bodyFrom_31 : decode cX6_bodyFrom 31 = .ok (.goto (-27), 3) := by decide +kernel
theorem dX6_bodyFrom_34 : decode cX6_bodyFrom 34 = .ok (.getstatic 42, 3) := by decide +kernel
theorem dX6_bodyFrom_37 : decode cX6_bodyFrom 37 = .ok (.iload_n 2, 1) := by decide +kernel
theorem dX6_bodyFrom_38 : decode cX6_bodyFrom 38 = .ok (.iconst 4, 1) := by decide +kernel
theorem dX6_bodyFrom_39 : decode cX6_bodyFrom 39 = .ok (.imul, 1) := by decide +kernel
theorem dX6_bodyFrom_40 : decode cX6_bodyFrom 40 = .ok (.iload_n 1, 1) := by decide +kernel
theorem dX6_bodyFrom_41 : decode cX6_bodyFrom 41 = .ok (.iadd, 1) := by decide +kernel
theorem dX6_bodyFrom_42 : decode cX6_bodyFrom 42 = .ok (.iaload, 1) := by decide +kernel
theorem dX6_bodyFrom_43 : decode cX6_bodyFrom 43 = .ok (.ireturn, 1) := by decide +kernel
theorem dX6_begin_0 : decode cX6_begin 0 = .ok (.aload_n 0, 1) := by decide +kernel
theorem dX6_begin_1 : decode cX6_begin 1 = .ok (.getfield 15, 3) := by decide +kernel
theorem dX6_begin_4 : decode cX6_begin 4 = .ok (.bipush 40, 2) := by decide +kernel
theorem dX6_begin_6 : decode cX6_begin 6 = .ok (.if_icmp .ge 23, 3) := by decide +kernel
theorem dX6_begin_9 : decode cX6_begin 9 = .ok (.aload_n 0, 1) := by decide +kernel
theorem dX6_begin_10 : decode cX6_begin 10 = .ok (.getfield 9, 3) := by decide +kernel
theorem dX6_begin_13 : decode cX6_begin 13 = .ok (.aload_n 0, 1) := by decide +kernel
theorem dX6_begin_14 : decode cX6_begin 14 = .ok (.getfield 15, 3) := by decide +kernel
theorem dX6_begin_17 : decode cX6_begin 17 = .ok (.iload_n 1, 1) := by decide +kernel
theorem dX6_begin_18 : decode cX6_begin 18 = .ok (.iastore, 1) := by decide +kernel
theorem dX6_begin_19 : decode cX6_begin 19 = .ok (.aload_n 0, 1) := by decide +kernel
theorem dX6_begin_20 : decode cX6_begin 20 = .ok (.dup, 1) := by decide +kernel
theorem dX6_begin_21 : decode cX6_begin 21 = .ok (.getfield 15, 3) := by decide +kernel
theorem dX6_begin_24 : decode cX6_begin 24 = .ok (.iconst 1, 1) := by decide +kernel
theorem dX6_begin_25 : decode cX6_begin 25 = .ok (.iadd, 1) := by decide +kernel
theorem dX6_begin_26 : decode cX6_begin 26 = .ok (.putfield 15, 3) := by decide +kernel
theorem dX6_begin_29 : decode cX6_begin 29 = .ok (.return_, 1) := by decide +kernel
theorem dX6_work_0 : decode cX6_work 0 = .ok (.iload_n 3, 1) := by decide +kernel
theorem dX6_work_1 : decode cX6_work 1 = .ok (.bipush 20, 2) := by decide +kernel
theorem dX6_work_3 : decode cX6_work 3 = .ok (.if_icmp .le 5, 3) := by decide +kernel
theorem dX6_work_6 : decode cX6_work 6 = .ok (.iconst 0, 1) := by decide +kernel
theorem dX6_work_7 : decode cX6_work 7 = .ok (.ireturn, 1) := by decide +kernel
theorem dX6_work_8 : decode cX6_work 8 = .ok (.aload_n 0, 1) := by decide +kernel
theorem dX6_work_9 : decode cX6_work 9 = .ok (.iload_n 1, 1) := by decide +kernel
theorem dX6_work_10 : decode cX6_work 10 = .ok (.invokevirtual 45, 3) := by decide +kernel
theorem dX6_work_13 : decode cX6_work 13 = .ok (.iload_n 3, 1) := by decide +kernel
theorem dX6_work_14 : decode cX6_work 14 = .ok (.iconst 1, 1) := by decide +kernel
theorem dX6_work_15 : decode cX6_work 15 = .ok (.iadd, 1) := by decide +kernel
theorem dX6_work_16 : decode cX6_work 16 = .ok (.istore 4, 2) := by decide +kernel
theorem dX6_work_18 : decode cX6_work 18 = .ok (.iload_n 1, 1) := by decide +kernel
theorem dX6_work_19 : decode cX6_work 19 = .ok (.lookupswitch 247 #[(10, 97), (11, 104), (12, 115), (13, 122), (20, 140), (30, 152), (40, 171), (50, 182), (60, 201), (70, 213), (71, 228)], 97) := by decide +kernel
theorem dX6_work_116 : decode cX6_work 116 = .ok (.iload_n 2, 1) := by decide +kernel
theorem dX6_work_117 : decode cX6_work 117 = .ok (.aload_n 0, 1) := by decide +kernel
theorem dX6_work_118 : decode cX6_work 118 = .ok (.getfield 22, 3) := by decide +kernel
theorem dX6_work_121 : decode cX6_work 121 = .ok (.iadd, 1) := by decide +kernel
theorem dX6_work_122 : decode cX6_work 122 = .ok (.ireturn, 1) := by decide +kernel
theorem dX6_work_123 : decode cX6_work 123 = .ok (.aload_n 0, 1) := by decide +kernel
theorem dX6_work_124 : decode cX6_work 124 = .ok (.iconst 0, 1) := by decide +kernel
theorem dX6_work_125 : decode cX6_work 125 = .ok (.iload_n 2, 1) := by decide +kernel
theorem dX6_work_126 : decode cX6_work 126 = .ok (.iload 4, 2) := by decide +kernel
theorem dX6_work_128 : decode cX6_work 128 = .ok (.invokevirtual 28, 3) := by decide +kernel
theorem dX6_work_131 : decode cX6_work 131 = .ok (.iconst 2, 1) := by decide +kernel
theorem dX6_work_132 : decode cX6_work 132 = .ok (.imul, 1) := by decide +kernel
theorem dX6_work_133 : decode cX6_work 133 = .ok (.ireturn, 1) := by decide +kernel
theorem dX6_work_134 : decode cX6_work 134 = .ok (.iload_n 2, 1) := by decide +kernel
theorem dX6_work_135 : decode cX6_work 135 = .ok (.aload_n 0, 1) := by decide +kernel
theorem dX6_work_136 : decode cX6_work 136 = .ok (.getfield 25, 3) := by decide +kernel
theorem dX6_work_139 : decode cX6_work 139 = .ok (.isub, 1) := by decide +kernel
theorem dX6_work_140 : decode cX6_work 140 = .ok (.ireturn, 1) := by decide +kernel
theorem dX6_work_141 : decode cX6_work 141 = .ok (.aload_n 0, 1) := by decide +kernel
theorem dX6_work_142 : decode cX6_work 142 = .ok (.iconst 1, 1) := by decide +kernel
theorem dX6_work_143 : decode cX6_work 143 = .ok (.iload_n 2, 1) := by decide +kernel
theorem dX6_work_144 : decode cX6_work 144 = .ok (.iload 4, 2) := by decide +kernel
theorem dX6_work_146 : decode cX6_work 146 = .ok (.invokevirtual 28, 3) := by decide +kernel
theorem dX6_work_149 : decode cX6_work 149 = .ok (.aload_n 0, 1) := by decide +kernel
theorem dX6_work_150 : decode cX6_work 150 = .ok (.iconst 2, 1) := by decide +kernel
theorem dX6_work_151 : decode cX6_work 151 = .ok (.iload_n 2, 1) := by decide +kernel
theorem dX6_work_152 : decode cX6_work 152 = .ok (.iload 4, 2) := by decide +kernel
theorem dX6_work_154 : decode cX6_work 154 = .ok (.invokevirtual 28, 3) := by decide +kernel
theorem dX6_work_157 : decode cX6_work 157 = .ok (.ixor, 1) := by decide +kernel
theorem dX6_work_158 : decode cX6_work 158 = .ok (.ireturn, 1) := by decide +kernel
theorem dX6_work_159 : decode cX6_work 159 = .ok (.aload_n 0, 1) := by decide +kernel
theorem dX6_work_160 : decode cX6_work 160 = .ok (.iload_n 1, 1) := by decide +kernel
theorem dX6_work_161 : decode cX6_work 161 = .ok (.iconst 0, 1) := by decide +kernel
theorem dX6_work_162 : decode cX6_work 162 = .ok (.iload_n 2, 1) := by decide +kernel
theorem dX6_work_163 : decode cX6_work 163 = .ok (.iload 4, 2) := by decide +kernel
theorem dX6_work_165 : decode cX6_work 165 = .ok (.invokevirtual 49, 3) := by decide +kernel
theorem dX6_work_168 : decode cX6_work 168 = .ok (.iconst 3, 1) := by decide +kernel
theorem dX6_work_169 : decode cX6_work 169 = .ok (.imul, 1) := by decide +kernel
theorem dX6_work_170 : decode cX6_work 170 = .ok (.ireturn, 1) := by decide +kernel
theorem dX6_work_171 : decode cX6_work 171 = .ok (.aload_n 0, 1) := by decide +kernel
theorem dX6_work_172 : decode cX6_work 172 = .ok (.iload_n 1, 1) := by decide +kernel
theorem dX6_work_173 : decode cX6_work 173 = .ok (.iconst 1, 1) := by decide +kernel
theorem dX6_work_174 : decode cX6_work 174 = .ok (.iload_n 2, 1) := by decide +kernel
theorem dX6_work_175 : decode cX6_work 175 = .ok (.iload 4, 2) := by decide +kernel
theorem dX6_work_177 : decode cX6_work 177 = .ok (.invokevirtual 49, 3) := by decide +kernel
theorem dX6_work_180 : decode cX6_work 180 = .ok (.aload_n 0, 1) := by decide +kernel
theorem dX6_work_181 : decode cX6_work 181 = .ok (.iconst 2, 1) := by decide +kernel
theorem dX6_work_182 : decode cX6_work 182 = .ok (.iconst 1, 1) := by decide +kernel
theorem dX6_work_183 : decode cX6_work 183 = .ok (.iload 4, 2) := by decide +kernel
theorem dX6_work_185 : decode cX6_work 185 = .ok (.invokevirtual 28, 3) := by decide +kernel
theorem dX6_work_188 : decode cX6_work 188 = .ok (.isub, 1) := by decide +kernel
theorem dX6_work_189 : decode cX6_work 189 = .ok (.ireturn, 1) := by decide +kernel
theorem dX6_work_190 : decode cX6_work 190 = .ok (.aload_n 0, 1) := by decide +kernel
theorem dX6_work_191 : decode cX6_work 191 = .ok (.iload_n 1, 1) := by decide +kernel
theorem dX6_work_192 : decode cX6_work 192 = .ok (.iconst 2, 1) := by decide +kernel
theorem dX6_work_193 : decode cX6_work 193 = .ok (.iload_n 2, 1) := by decide +kernel
theorem dX6_work_194 : decode cX6_work 194 = .ok (.iload 4, 2) := by decide +kernel
theorem dX6_work_196 : decode cX6_work 196 = .ok (.invokevirtual 49, 3) := by decide +kernel
theorem dX6_work_199 : decode cX6_work 199 = .ok (.ineg, 1) := by decide +kernel
theorem dX6_work_200 : decode cX6_work 200 = .ok (.ireturn, 1) := by decide +kernel
theorem dX6_work_201 : decode cX6_work 201 = .ok (.aload_n 0, 1) := by decide +kernel
theorem dX6_work_202 : decode cX6_work 202 = .ok (.iload_n 1, 1) := by decide +kernel
theorem dX6_work_203 : decode cX6_work 203 = .ok (.iconst 3, 1) := by decide +kernel
theorem dX6_work_204 : decode cX6_work 204 = .ok (.iload_n 2, 1) := by decide +kernel
theorem dX6_work_205 : decode cX6_work 205 = .ok (.iload 4, 2) := by decide +kernel
theorem dX6_work_207 : decode cX6_work 207 = .ok (.invokevirtual 49, 3) := by decide +kernel
theorem dX6_work_210 : decode cX6_work 210 = .ok (.aload_n 0, 1) := by decide +kernel
theorem dX6_work_211 : decode cX6_work 211 = .ok (.iconst 0, 1) := by decide +kernel
theorem dX6_work_212 : decode cX6_work 212 = .ok (.iconst 2, 1) := by decide +kernel
theorem dX6_work_213 : decode cX6_work 213 = .ok (.iload 4, 2) := by decide +kernel
theorem dX6_work_215 : decode cX6_work 215 = .ok (.invokevirtual 28, 3) := by decide +kernel
theorem dX6_work_218 : decode cX6_work 218 = .ok (.isub, 1) := by decide +kernel
theorem dX6_work_219 : decode cX6_work 219 = .ok (.ireturn, 1) := by decide +kernel
theorem dX6_work_220 : decode cX6_work 220 = .ok (.aload_n 0, 1) := by decide +kernel
theorem dX6_work_221 : decode cX6_work 221 = .ok (.iload_n 1, 1) := by decide +kernel
theorem dX6_work_222 : decode cX6_work 222 = .ok (.iconst 1, 1) := by decide +kernel
theorem dX6_work_223 : decode cX6_work 223 = .ok (.iload_n 2, 1) := by decide +kernel
theorem dX6_work_224 : decode cX6_work 224 = .ok (.iconst 1, 1) := by decide +kernel
theorem dX6_work_225 : decode cX6_work 225 = .ok (.iadd, 1) := by decide +kernel
theorem dX6_work_226 : decode cX6_work 226 = .ok (.iload 4, 2) := by decide +kernel
theorem dX6_work_228 : decode cX6_work 228 = .ok (.invokevirtual 49, 3) := by decide +kernel
theorem dX6_work_231 : decode cX6_work 231 = .ok (.ireturn, 1) := by decide +kernel
theorem dX6_work_232 : decode cX6_work 232 = .ok (.aload_n 0, 1) := by decide +kernel
theorem dX6_work_233 : decode cX6_work 233 = .ok (.iload_n 1, 1) := by decide +kernel
theorem dX6_work_234 : decode cX6_work 234 = .ok (.iconst 2, 1) := by decide +kernel
theorem dX6_work_235 : decode cX6_work 235 = .ok (.iload_n 2, 1) := by decide +kernel
theorem dX6_work_236 : decode cX6_work 236 = .ok (.iload 4, 2) := by decide +kernel
theorem dX6_work_238 : decode cX6_work 238 = .ok (.invokevirtual 49, 3) := by decide +kernel
theorem dX6_work_241 : decode cX6_work 241 = .ok (.aload_n 0, 1) := by decide +kernel
theorem dX6_work_242 : decode cX6_work 242 = .ok (.getfield 22, 3) := by decide +kernel
theorem dX6_work_245 : decode cX6_work 245 = .ok (.ixor, 1) := by decide +kernel
theorem dX6_work_246 : decode cX6_work 246 = .ok (.ireturn, 1) := by decide +kernel
theorem dX6_work_247 : decode cX6_work 247 = .ok (.aload_n 0, 1) := by decide +kernel
theorem dX6_work_248 : decode cX6_work 248 = .ok (.iconst 1, 1) := by decide +kernel
theorem dX6_work_249 : decode cX6_work 249 = .ok (.iload_n 2, 1) := by decide +kernel
theorem dX6_work_250 : decode cX6_work 250 = .ok (.iload 4, 2) := by decide +kernel
theorem dX6_work_252 : decode cX6_work 252 = .ok (.invokevirtual 28, 3) := by decide +kernel
theorem dX6_work_255 : decode cX6_work 255 = .ok (.aload_n 0, 1) := by decide +kernel
theorem dX6_work_256 : decode cX6_work 256 = .ok (.iload_n 1, 1) := by decide +kernel
theorem dX6_work_257 : decode cX6_work 257 = .ok (.iconst 3, 1) := by decide +kernel
theorem dX6_work_258 : decode cX6_work 258 = .ok (.iload_n 2, 1) := by decide +kernel
theorem dX6_work_259 : decode cX6_work 259 = .ok (.iload 4, 2) := by decide +kernel
theorem dX6_work_261 : decode cX6_work 261 = .ok (.invokevirtual 49, 3) := by decide +kernel
theorem dX6_work_264 : decode cX6_work 264 = .ok (.isub, 1) := by decide +kernel
theorem dX6_work_265 : decode cX6_work 265 = .ok (.ireturn, 1) := by decide +kernel
theorem dX6_work_266 : decode cX6_work 266 = .ok (.iconst 0, 1) := by decide +kernel
theorem dX6_work_267 : decode cX6_work 267 = .ok (.ireturn, 1) := by decide +kernel
theorem dX7_init_0 : decode cX7_init 0 = .ok (.aload_n 0, 1) := by decide +kernel
theorem dX7_init_1 : decode cX7_init 1 = .ok (.invokespecial 1, 3) := by decide +kernel
theorem dX7_init_4 : decode cX7_init 4 = .ok (.aload_n 0, 1) := by decide +kernel
theorem dX7_init_5 : decode cX7_init 5 = .ok (.new 7, 3) := by decide +kernel
theorem dX7_init_8 : decode cX7_init 8 = .ok (.dup, 1) := by decide +kernel
theorem dX7_init_9 : decode cX7_init 9 = .ok (.invokespecial 9, 3) := by decide +kernel
theorem dX7_init_12 : decode cX7_init 12 = .ok (.putfield 10, 3) := by decide +kernel
theorem dX7_init_15 : decode cX7_init 15 = .ok (.aload_n 0, 1) := by decide +kernel
theorem dX7_init_16 : decode cX7_init 16 = .ok (.new 7, 3) := by decide +kernel
theorem dX7_init_19 : decode cX7_init 19 = .ok (.dup, 1) := by decide +kernel
theorem dX7_init_20 : decode cX7_init 20 = .ok (.invokespecial 9, 3) := by decide +kernel
theorem dX7_init_23 : decode cX7_init 23 = .ok (.putfield 16, 3) := by decide +kernel
theorem dX7_init_26 : decode cX7_init 26 = .ok (.aload_n 0, 1) := by decide +kernel
theorem dX7_init_27 : decode cX7_init 27 = .ok (.iconst 0, 1) := by decide +kernel
theorem dX7_init_28 : decode cX7_init 28 = .ok (.putfield 19, 3) := by decide +kernel
theorem dX7_init_31 : decode cX7_init 31 = .ok (.aload_n 0, 1) := by decide +kernel
theorem dX7_init_32 : decode cX7_init 32 = .ok (.new 23, 3) := by decide +kernel
theorem dX7_init_35 : decode cX7_init 35 = .ok (.dup, 1) := by decide +kernel
theorem dX7_init_36 : decode cX7_init 36 = .ok (.invokespecial 25, 3) := by decide +kernel
theorem dX7_init_39 : decode cX7_init 39 = .ok (.putfield 26, 3) := by decide +kernel
theorem dX7_init_42 : decode cX7_init 42 = .ok (.aload_n 0, 1) := by decide +kernel
theorem dX7_init_43 : decode cX7_init 43 = .ok (.new 30, 3) := by decide +kernel
theorem dX7_init_46 : decode cX7_init 46 = .ok (.dup, 1) := by decide +kernel
theorem dX7_init_47 : decode cX7_init 47 = .ok (.invokespecial 32, 3) := by decide +kernel
theorem dX7_init_50 : decode cX7_init 50 = .ok (.putfield 33, 3) := by decide +kernel
theorem dX7_init_53 : decode cX7_init 53 = .ok (.aload_n 0, 1) := by decide +kernel
theorem dX7_init_54 : decode cX7_init 54 = .ok (.iconst 4, 1) := by decide +kernel
theorem dX7_init_55 : decode cX7_init 55 = .ok (.anewarray 37, 3) := by decide +kernel
theorem dX7_init_58 : decode cX7_init 58 = .ok (.putfield 39, 3) := by decide +kernel
theorem dX7_init_61 : decode cX7_init 61 = .ok (.aload_n 0, 1) := by decide +kernel
theorem dX7_init_62 : decode cX7_init 62 = .ok (.bipush 6, 2) := by decide +kernel
theorem dX7_init_64 : decode cX7_init 64 = .ok (.newarray .int, 2) := by decide +kernel
theorem dX7_init_66 : decode cX7_init 66 = .ok (.putfield 43, 3) := by decide +kernel
theorem dX7_init_69 : decode cX7_init 69 = .ok (.aload_n 0, 1) := by decide +kernel
theorem dX7_init_70 : decode cX7_init 70 = .ok (.bipush 8, 2) := by decide +kernel
theorem dX7_init_72 : decode cX7_init 72 = .ok (.newarray .int, 2) := by decide +kernel
theorem dX7_init_74 : decode cX7_init 74 = .ok (.putfield 47, 3) := by decide +kernel
theorem dX7_init_77 : decode cX7_init 77 = .ok (.aload_n 0, 1) := by decide +kernel
theorem dX7_init_78 : decode cX7_init 78 = .ok (.bipush 8, 2) := by decide +kernel
theorem dX7_init_80 : decode cX7_init 80 = .ok (.newarray .int, 2) := by decide +kernel
theorem dX7_init_82 : decode cX7_init 82 = .ok (.putfield 50, 3) := by decide +kernel
theorem dX7_init_85 : decode cX7_init 85 = .ok (.iconst 0, 1) := by decide +kernel
theorem dX7_init_86 : decode cX7_init 86 = .ok (.istore_n 1, 1) := by decide +kernel
theorem dX7_init_87 : decode cX7_init 87 = .ok (.iload_n 1, 1) := by decide +kernel
theorem dX7_init_88 : decode cX7_init 88 = .ok (.iconst 4, 1) := by decide +kernel
theorem dX7_init_89 : decode cX7_init 89 = .ok (.if_icmp .ge 22, 3) := by decide +kernel
theorem dX7_init_92 : decode cX7_init 92 = .ok (.aload_n 0, 1) := by decide +kernel
theorem dX7_init_93 : decode cX7_init 93 = .ok (.getfield 39, 3) := by decide +kernel
theorem dX7_init_96 : decode cX7_init 96 = .ok (.iload_n 1, 1) := by decide +kernel
theorem dX7_init_97 : decode cX7_init 97 = .ok (.new 37, 3) := by decide +kernel
theorem dX7_init_100 : decode cX7_init 100 = .ok (.dup, 1) := by decide +kernel
theorem dX7_init_101 : decode cX7_init 101 = .ok (.invokespecial 53, 3) := by decide +kernel
theorem dX7_init_104 : decode cX7_init 104 = .ok (.aastore, 1) := by decide +kernel
theorem dX7_init_105 : decode cX7_init 105 = .ok (.iinc 1 1, 3) := by decide +kernel
theorem dX7_init_108 : decode cX7_init 108 = .ok (.goto (-21), 3) := by decide +kernel
theorem dX7_init_111 : decode cX7_init 111 = .ok (.return_, 1) := by decide +kernel
theorem dX7_land_0 : decode cX7_land 0 = .ok (.iload_n 2, 1) := by decide +kernel
theorem dX7_land_1 : decode cX7_land 1 = .ok (.ifCond .ne 8, 3) := by decide +kernel
theorem dX7_land_4 : decode cX7_land 4 = .ok (.bipush 20, 2) := by decide +kernel
theorem dX7_land_6 : decode cX7_land 6 = .ok (.goto 5, 3) := by decide +kernel
theorem dX7_land_9 : decode cX7_land 9 = .ok (.bipush 99, 2) := by decide +kernel
theorem dX7_land_11 : decode cX7_land 11 = .ok (.istore 4, 2) := by decide +kernel
theorem dX7_land_13 : decode cX7_land 13 = .ok (.iload_n 1, 1) := by decide +kernel
theorem dX7_land_14 : decode cX7_land 14 = .ok (.invokestatic 54, 3) := by decide +kernel
theorem dX7_land_17 : decode cX7_land 17 = .ok (.ifCond .eq 22, 3) := by decide +kernel
theorem dX7_land_20 : decode cX7_land 20 = .ok (.iload_n 2, 1) := by decide +kernel
theorem dX7_land_21 : decode cX7_land 21 = .ok (.iconst 0, 1) := by decide +kernel
theorem dX7_land_22 : decode cX7_land 22 = .ok (.iconst 1, 1) := by decide +kernel
theorem dX7_land_23 : decode cX7_land 23 = .ok (.invokestatic 58, 3) := by decide +kernel
theorem dX7_land_26 : decode cX7_land 26 = .ok (.ifCond .eq 13, 3) := by decide +kernel
theorem dX7_land_29 : decode cX7_land 29 = .ok (.iload_n 3, 1) := by decide +kernel
theorem dX7_land_30 : decode cX7_land 30 = .ok (.iconst 0, 1) := by decide +kernel
theorem dX7_land_31 : decode cX7_land 31 = .ok (.iload 4, 2) := by decide +kernel
theorem dX7_land_33 : decode cX7_land 33 = .ok (.invokestatic 58, 3) := by decide +kernel
theorem dX7_land_36 : decode cX7_land 36 = .ok (.ifCond .ne 9, 3) := by decide +kernel
theorem dX7_land_39 : decode cX7_land 39 = .ok (.aload_n 0, 1) := by decide +kernel
theorem dX7_land_40 : decode cX7_land 40 = .ok (.iconst 1, 1) := by decide +kernel
theorem dX7_land_41 : decode cX7_land 41 = .ok (.invokevirtual 62, 3) := by decide +kernel
theorem dX7_land_44 : decode cX7_land 44 = .ok (.ireturn, 1) := by decide +kernel
theorem dX7_land_45 : decode cX7_land 45 = .ok (.iload_n 2, 1) := by decide +kernel
theorem dX7_land_46 : decode cX7_land 46 = .ok (.ifCond .ne 16, 3) := by decide +kernel
theorem dX7_land_49 : decode cX7_land 49 = .ok (.aload_n 0, 1) := by decide +kernel
theorem dX7_land_50 : decode cX7_land 50 = .ok (.getfield 10, 3) := by decide +kernel
theorem dX7_land_53 : decode cX7_land 53 = .ok (.getfield 66, 3) := by decide +kernel
theorem dX7_land_56 : decode cX7_land 56 = .ok (.getfield 70, 3) := by decide +kernel
theorem dX7_land_59 : decode cX7_land 59 = .ok (.goto 13, 3) := by decide +kernel
theorem dX7_land_62 : decode cX7_land 62 = .ok (.aload_n 0, 1) := by decide +kernel
theorem dX7_land_63 : decode cX7_land 63 = .ok (.getfield 10, 3) := by decide +kernel
theorem dX7_land_66 : decode cX7_land 66 = .ok (.getfield 66, 3) := by decide +kernel
theorem dX7_land_69 : decode cX7_land 69 = .ok (.getfield 75, 3) := by decide +kernel
theorem dX7_land_72 : decode cX7_land 72 = .ok (.astore 5, 2) := by decide +kernel
theorem dX7_land_74 : decode cX7_land 74 = .ok (.aload 5, 2) := by decide +kernel
theorem dX7_land_76 : decode cX7_land 76 = .ok (.iload_n 1, 1) := by decide +kernel
theorem dX7_land_77 : decode cX7_land 77 = .ok (.iaload, 1) := by decide +kernel
theorem dX7_land_78 : decode cX7_land 78 = .ok (.istore 6, 2) := by decide +kernel
theorem dX7_land_80 : decode cX7_land 80 = .ok (.aload 5, 2) := by decide +kernel
theorem dX7_land_82 : decode cX7_land 82 = .ok (.iload_n 1, 1) := by decide +kernel
theorem dX7_land_83 : decode cX7_land 83 = .ok (.iload_n 3, 1) := by decide +kernel
theorem dX7_land_84 : decode cX7_land 84 = .ok (.iastore, 1) := by decide +kernel
theorem dX7_land_85 : decode cX7_land 85 = .ok (.iload 6, 2) := by decide +kernel
theorem dX7_land_87 : decode cX7_land 87 = .ok (.ireturn, 1) := by decide +kernel
theorem dX7_ofPlace_0 : decode cX7_ofPlace 0 = .ok (.iload_n 1, 1) := by decide +kernel
theorem dX7_ofPlace_1 : decode cX7_ofPlace 1 = .ok (.invokestatic 54, 3) := by decide +kernel
theorem dX7_ofPlace_4 : decode cX7_ofPlace 4 = .ok (.ifCond .eq 12, 3) := by decide +kernel
theorem dX7_ofPlace_7 : decode cX7_ofPlace 7 = .ok (.iload_n 2, 1) := by decide +kernel
theorem dX7_ofPlace_8 : decode cX7_ofPlace 8 = .ok (.iconst 0, 1) := by decide +kernel
theorem dX7_ofPlace_9 : decode cX7_ofPlace 9 = .ok (.iconst 5, 1) := by decide +kernel
theorem dX7_ofPlace_10 : decode cX7_ofPlace 10 = .ok (.invokestatic 58, 3) := by decide +kernel
theorem dX7_ofPlace_13 : decode cX7_ofPlace 13 = .ok (.ifCond .ne 9, 3) := by decide +kernel
theorem dX7_ofPlace_16 : decode cX7_ofPlace 16 = .ok (.aload_n 0, 1) := by decide +kernel
theorem dX7_ofPlace_17 : decode cX7_ofPlace 17 = .ok (.iconst 1, 1) := by decide +kernel
theorem dX7_ofPlace_18 : decode cX7_ofPlace 18 = .ok (.invokevirtual 62, 3) := by decide +kernel
theorem dX7_ofPlace_21 : decode cX7_ofPlace 21 = .ok (.ireturn, 1) := by decide +kernel
theorem dX7_ofPlace_22 : decode cX7_ofPlace 22 = .ok (.aload_n 0, 1) := by decide +kernel
theorem dX7_ofPlace_23 : decode cX7_ofPlace 23 = .ok (.getfield 10, 3) := by decide +kernel
theorem dX7_ofPlace_26 : decode cX7_ofPlace 26 = .ok (.getfield 66, 3) := by decide +kernel
theorem dX7_ofPlace_29 : decode cX7_ofPlace 29 = .ok (.astore_n 3, 1) := by decide +kernel
theorem dX7_ofPlace_30 : decode cX7_ofPlace 30 = .ok (.iload_n 2, 1) := by decide +kernel
theorem dX7_ofPlace_31 : decode cX7_ofPlace 31 = .ok (.tableswitch 85 0 4 #[33, 40, 47, 59, 71], 33) := by decide +kernel
theorem dX7_ofPlace_64 : decode cX7_ofPlace 64 = .ok (.aload_n 3, 1) := by decide +kernel
theorem dX7_ofPlace_65 : decode cX7_ofPlace 65 = .ok (.getfield 70, 3) := by decide +kernel
theorem dX7_ofPlace_68 : decode cX7_ofPlace 68 = .ok (.iload_n 1, 1) := by decide +kernel
theorem dX7_ofPlace_69 : decode cX7_ofPlace 69 = .ok (.iaload, 1) := by decide +kernel
theorem dX7_ofPlace_70 : decode cX7_ofPlace 70 = .ok (.ireturn, 1) := by decide +kernel
theorem dX7_ofPlace_71 : decode cX7_ofPlace 71 = .ok (.aload_n 3, 1) := by decide +kernel
theorem dX7_ofPlace_72 : decode cX7_ofPlace 72 = .ok (.getfield 75, 3) := by decide +kernel
theorem dX7_ofPlace_75 : decode cX7_ofPlace 75 = .ok (.iload_n 1, 1) := by decide +kernel
theorem dX7_ofPlace_76 : decode cX7_ofPlace 76 = .ok (.iaload, 1) := by decide +kernel
theorem dX7_ofPlace_77 : decode cX7_ofPlace 77 = .ok (.ireturn, 1) := by decide +kernel
theorem dX7_ofPlace_78 : decode cX7_ofPlace 78 = .ok (.aload_n 3, 1) := by decide +kernel
theorem dX7_ofPlace_79 : decode cX7_ofPlace 79 = .ok (.iload_n 1, 1) := by decide +kernel
theorem dX7_ofPlace_80 : decode cX7_ofPlace 80 = .ok (.iconst 0, 1) := by decide +kernel
theorem dX7_ofPlace_81 : decode cX7_ofPlace 81 = .ok (.aload_n 3, 1) := by decide +kernel
theorem dX7_ofPlace_82 : decode cX7_ofPlace 82 = .ok (.iconst 0, 1) := by decide +kernel
theorem dX7_ofPlace_83 : decode cX7_ofPlace 83 = .ok (.invokevirtual 78, 3) := by decide +kernel
theorem dX7_ofPlace_86 : decode cX7_ofPlace 86 = .ok (.invokevirtual 81, 3) := by decide +kernel
theorem dX7_ofPlace_89 : decode cX7_ofPlace 89 = .ok (.ireturn, 1) := by decide +kernel
theorem dX7_ofPlace_90 : decode cX7_ofPlace 90 = .ok (.aload_n 3, 1) := by decide +kernel
theorem dX7_ofPlace_91 : decode cX7_ofPlace 91 = .ok (.iload_n 1, 1) := by decide +kernel
theorem dX7_ofPlace_92 : decode cX7_ofPlace 92 = .ok (.iconst 1, 1) := by decide +kernel
theorem dX7_ofPlace_93 : decode cX7_ofPlace 93 = .ok (.aload_n 3, 1) := by decide +kernel
theorem dX7_ofPlace_94 : decode cX7_ofPlace 94 = .ok (.iconst 0, 1) := by decide +kernel
theorem dX7_ofPlace_95 : decode cX7_ofPlace 95 = .ok (.invokevirtual 78, 3) := by decide +kernel
theorem dX7_ofPlace_98 : decode cX7_ofPlace 98 = .ok (.invokevirtual 81, 3) := by decide +kernel
theorem dX7_ofPlace_101 : decode cX7_ofPlace 101 = .ok (.ireturn, 1) := by decide +kernel
theorem dX7_ofPlace_102 : decode cX7_ofPlace 102 = .ok (.aload_n 3, 1) := by decide +kernel
theorem dX7_ofPlace_103 : decode cX7_ofPlace 103 = .ok (.iload_n 1, 1) := by decide +kernel
theorem dX7_ofPlace_104 : decode cX7_ofPlace 104 = .ok (.aload_n 3, 1) := by decide +kernel
theorem dX7_ofPlace_105 : decode cX7_ofPlace 105 = .ok (.iconst 0, 1) := by decide +kernel
theorem dX7_ofPlace_106 : decode cX7_ofPlace 106 = .ok (.invokevirtual 78, 3) := by decide +kernel
theorem dX7_ofPlace_109 : decode cX7_ofPlace 109 = .ok (.invokevirtual 85, 3) := by decide +kernel
theorem dX7_ofPlace_112 : decode cX7_ofPlace 112 = .ok (.invokestatic 89, 3) := by decide +kernel
theorem dX7_ofPlace_115 : decode cX7_ofPlace 115 = .ok (.ireturn, 1) := by decide +kernel
theorem dX7_ofPlace_116 : decode cX7_ofPlace 116 = .ok (.aload_n 0, 1) := by decide +kernel
theorem dX7_ofPlace_117 : decode cX7_ofPlace 117 = .ok (.getfield 10, 3) := by decide +kernel
theorem dX7_ofPlace_120 : decode cX7_ofPlace 120 = .ok (.iload_n 1, 1) := by decide +kernel
theorem dX7_ofPlace_121 : decode cX7_ofPlace 121 = .ok (.invokevirtual 94, 3) := by decide +kernel
theorem dX7_ofPlace_124 : decode cX7_ofPlace 124 = .ok (.ireturn, 1) := by decide +kernel
theorem dX7_village_0 : decode cX7_village 0 = .ok (.iload_n 1, 1) := by decide +kernel
theorem dX7_village_1 : decode cX7_village 1 = .ok (.invokestatic 54, 3) := by decide +kernel
theorem dX7_village_4 : decode cX7_village 4 = .ok (.ifCond .ne 9, 3) := by decide +kernel
theorem dX7_village_7 : decode cX7_village 7 = .ok (.aload_n 0, 1) := by decide +kernel
theorem dX7_village_8 : decode cX7_village 8 = .ok (.iconst 1, 1) := by decide +kernel
theorem dX7_village_9 : decode cX7_village 9 = .ok (.invokevirtual 62, 3) := by decide +kernel
theorem dX7_village_12 : decode cX7_village 12 = .ok (.ireturn, 1) := by decide +kernel
theorem dX7_village_13 : decode cX7_village 13 = .ok (.aload_n 0, 1) := by decide +kernel
theorem dX7_village_14 : decode cX7_village 14 = .ok (.getfield 10, 3) := by decide +kernel
theorem dX7_village_17 : decode cX7_village 17 = .ok (.getfield 97, 3) := by decide +kernel
theorem dX7_village_20 : decode cX7_village 20 = .ok (.iconst 5, 1) := by decide +kernel
theorem dX7_village_21 : decode cX7_village 21 = .ok (.if_icmp .lt 9, 3) := by decide +kernel
theorem dX7_village_24 : decode cX7_village 24 = .ok (.aload_n 0, 1) := by decide +kernel
theorem dX7_village_25 : decode cX7_village 25 = .ok (.iconst 4, 1) := by decide +kernel
theorem dX7_village_26 : decode cX7_village 26 = .ok (.invokevirtual 62, 3) := by decide +kernel
theorem dX7_village_29 : decode cX7_village 29 = .ok (.ireturn, 1) := by decide +kernel
theorem dX7_village_30 : decode cX7_village 30 = .ok (.aload_n 0, 1) := by decide +kernel
theorem dX7_village_31 : decode cX7_village 31 = .ok (.getfield 10, 3) := by decide +kernel
theorem dX7_village_34 : decode cX7_village 34 = .ok (.getfield 100, 3) := by decide +kernel
theorem dX7_village_37 : decode cX7_village 37 = .ok (.aload_n 0, 1) := by decide +kernel
theorem dX7_village_38 : decode cX7_village 38 = .ok (.getfield 10, 3) := by decide +kernel
theorem dX7_village_41 : decode cX7_village 41 = .ok (.getfield 97, 3) := by decide +kernel
theorem dX7_village_44 : decode cX7_village 44 = .ok (.iload_n 1, 1) := by decide +kernel
theorem dX7_village_45 : decode cX7_village 45 = .ok (.iastore, 1) := by decide +kernel
theorem dX7_village_46 : decode cX7_village 46 = .ok (.aload_n 0, 1) := by decide +kernel
theorem dX7_village_47 : decode cX7_village 47 = .ok (.getfield 10, 3) := by decide +kernel
theorem dX7_village_50 : decode cX7_village 50 = .ok (.dup, 1) := by decide +kernel
theorem dX7_village_51 : decode cX7_village 51 = .ok (.getfield 97, 3) := by decide +kernel
theorem dX7_village_54 : decode cX7_village 54 = .ok (.iconst 1, 1) := by decide +kernel
theorem dX7_village_55 : decode cX7_village 55 = .ok (.iadd, 1) := by decide +kernel
theorem dX7_village_56 : decode cX7_village 56 = .ok (.putfield 97, 3) := by decide +kernel
theorem dX7_village_59 : decode cX7_village 59 = .ok (.aload_n 0, 1) := by decide +kernel
theorem dX7_village_60 : decode cX7_village 60 = .ok (.getfield 10, 3) := by decide +kernel
theorem dX7_village_63 : decode cX7_village 63 = .ok (.getfield 97, 3) := by decide +kernel
theorem dX7_village_66 : decode cX7_village 66 = .ok (.iconst 1, 1) := by decide +kernel
theorem dX7_village_67 : decode cX7_village 67 = .ok (.isub, 1) := by decide +kernel
theorem dX7_village_68 : decode cX7_village 68 = .ok (.ireturn, 1) := by decide +kernel
theorem dX7_moves_0 : decode cX7_moves 0 = .ok (.aload_n 0, 1) := by decide +kernel
theorem dX7_moves_1 : decode cX7_moves 1 = .ok (.iload_n 1, 1) := by decide +kernel
theorem dX7_moves_2 : decode cX7_moves 2 = .ok (.invokevirtual 103, 3) := by decide +kernel
theorem dX7_moves_5 : decode cX7_moves 5 = .ok (.ifCond .eq 10, 3) := by decide +kernel
theorem dX7_moves_8 : decode cX7_moves 8 = .ok (.iload_n 2, 1) := by decide +kernel
theorem dX7_moves_9 : decode cX7_moves 9 = .ok (.invokestatic 54, 3) := by decide +kernel
theorem dX7_moves_12 : decode cX7_moves 12 = .ok (.ifCond .ne 9, 3) := by decide +kernel
theorem dX7_moves_15 : decode cX7_moves 15 = .ok (.aload_n 0, 1) := by decide +kernel
theorem dX7_moves_16 : decode cX7_moves 16 = .ok (.iconst 1, 1) := by decide +kernel
theorem dX7_moves_17 : decode cX7_moves 17 = .ok (.invokevirtual 62, 3) := by decide +kernel
theorem dX7_moves_20 : decode cX7_moves 20 = .ok (.ireturn, 1) := by decide +kernel
theorem dX7_moves_21 : decode cX7_moves 21 = .ok (.aload_n 0, 1) := by decide +kernel
theorem dX7_moves_22 : decode cX7_moves 22 = .ok (.getfield 10, 3) := by decide +kernel
theorem dX7_moves_25 : decode cX7_moves 25 = .ok (.getfield 100, 3) := by decide +kernel
theorem dX7_moves_28 : decode cX7_moves 28 = .ok (.iload_n 1, 1) := by decide +kernel
theorem dX7_moves_29 : decode cX7_moves 29 = .ok (.iaload, 1) := by decide +kernel
theorem dX7_moves_30 : decode cX7_moves 30 = .ok (.istore_n 3, 1) := by decide +kernel
theorem dX7_moves_31 : decode cX7_moves 31 = .ok (.aload_n 0, 1) := by decide +kernel
theorem dX7_moves_32 : decode cX7_moves 32 = .ok (.getfield 10, 3) := by decide +kernel
theorem dX7_moves_35 : decode cX7_moves 35 = .ok (.getfield 100, 3) := by decide +kernel
theorem dX7_moves_38 : decode cX7_moves 38 = .ok (.iload_n 1, 1) := by decide +kernel
theorem dX7_moves_39 : decode cX7_moves 39 = .ok (.iload_n 2, 1) := by decide +kernel
theorem dX7_moves_40 : decode cX7_moves 40 = .ok (.iastore, 1) := by decide +kernel
theorem dX7_moves_41 : decode cX7_moves 41 = .ok (.iload_n 3, 1) := by decide +kernel
theorem dX7_moves_42 : decode cX7_moves 42 = .ok (.ireturn, 1) := by decide +kernel
theorem dX7_at_0 : decode cX7_at 0 = .ok (.aload_n 0, 1) := by decide +kernel
theorem dX7_at_1 : decode cX7_at 1 = .ok (.iload_n 1, 1) := by decide +kernel
theorem dX7_at_2 : decode cX7_at 2 = .ok (.invokevirtual 103, 3) := by decide +kernel
theorem dX7_at_5 : decode cX7_at 5 = .ok (.ifCond .ne 9, 3) := by decide +kernel
theorem dX7_at_8 : decode cX7_at 8 = .ok (.aload_n 0, 1) := by decide +kernel
theorem dX7_at_9 : decode cX7_at 9 = .ok (.iconst 1, 1) := by decide +kernel
theorem dX7_at_10 : decode cX7_at 10 = .ok (.invokevirtual 62, 3) := by decide +kernel
theorem dX7_at_13 : decode cX7_at 13 = .ok (.ireturn, 1) := by decide +kernel
theorem dX7_at_14 : decode cX7_at 14 = .ok (.aload_n 0, 1) := by decide +kernel
theorem dX7_at_15 : decode cX7_at 15 = .ok (.getfield 10, 3) := by decide +kernel
theorem dX7_at_18 : decode cX7_at 18 = .ok (.getfield 100, 3) := by decide +kernel
theorem dX7_at_21 : decode cX7_at 21 = .ok (.iload_n 1, 1) := by decide +kernel
theorem dX7_at_22 : decode cX7_at 22 = .ok (.iaload, 1) := by decide +kernel
theorem dX7_at_23 : decode cX7_at 23 = .ok (.ireturn, 1) := by decide +kernel
theorem dX7_fill_0 : decode cX7_fill 0 = .ok (.iload_n 1, 1) := by decide +kernel
theorem dX7_fill_1 : decode cX7_fill 1 = .ok (.invokestatic 106, 3) := by decide +kernel
theorem dX7_fill_4 : decode cX7_fill 4 = .ok (.ifCond .eq 26, 3) := by decide +kernel
theorem dX7_fill_7 : decode cX7_fill 7 = .ok (.aload_n 0, 1) := by decide +kernel
theorem dX7_fill_8 : decode cX7_fill 8 = .ok (.iload_n 2, 1) := by decide +kernel
theorem dX7_fill_9 : decode cX7_fill 9 = .ok (.invokevirtual 103, 3) := by decide +kernel
theorem dX7_fill_12 : decode cX7_fill 12 = .ok (.ifCond .eq 18, 3) := by decide +kernel
theorem dX7_fill_15 : decode cX7_fill 15 = .ok (.iload_n 3, 1) := by decide +kernel
theorem dX7_fill_16 : decode cX7_fill 16 = .ok (.invokestatic 109, 3) := by decide +kernel
theorem dX7_fill_19 : decode cX7_fill 19 = .ok (.ifCond .eq 11, 3) := by decide +kernel
theorem dX7_fill_22 : decode cX7_fill 22 = .ok (.iload 4, 2) := by decide +kernel
theorem dX7_fill_24 : decode cX7_fill 24 = .ok (.invokestatic 112, 3) := by decide +kernel
theorem dX7_fill_27 : decode cX7_fill 27 = .ok (.ifCond .ne 9, 3) := by decide +kernel
theorem dX7_fill_30 : decode cX7_fill 30 = .ok (.aload_n 0, 1) := by decide +kernel
theorem dX7_fill_31 : decode cX7_fill 31 = .ok (.iconst 1, 1) := by decide +kernel
theorem dX7_fill_32 : decode cX7_fill 32 = .ok (.invokevirtual 62, 3) := by decide +kernel
theorem dX7_fill_35 : decode cX7_fill 35 = .ok (.ireturn, 1) := by decide +kernel
theorem dX7_fill_36 : decode cX7_fill 36 = .ok (.aload_n 0, 1) := by decide +kernel
theorem dX7_fill_37 : decode cX7_fill 37 = .ok (.getfield 10, 3) := by decide +kernel
theorem dX7_fill_40 : decode cX7_fill 40 = .ok (.getfield 100, 3) := by decide +kernel
theorem dX7_fill_43 : decode cX7_fill 43 = .ok (.iload_n 2, 1) := by decide +kernel
theorem dX7_fill_44 : decode cX7_fill 44 = .ok (.iaload, 1) := by decide +kernel
theorem dX7_fill_45 : decode cX7_fill 45 = .ok (.istore 5, 2) := by decide +kernel
theorem dX7_fill_47 : decode cX7_fill 47 = .ok (.aload_n 0, 1) := by decide +kernel
theorem dX7_fill_48 : decode cX7_fill 48 = .ok (.getfield 10, 3) := by decide +kernel
theorem dX7_fill_51 : decode cX7_fill 51 = .ok (.getfield 66, 3) := by decide +kernel
theorem dX7_fill_54 : decode cX7_fill 54 = .ok (.iload 5, 2) := by decide +kernel
theorem dX7_fill_56 : decode cX7_fill 56 = .ok (.iload_n 3, 1) := by decide +kernel
theorem dX7_fill_57 : decode cX7_fill 57 = .ok (.aload_n 0, 1) := by decide +kernel
theorem dX7_fill_58 : decode cX7_fill 58 = .ok (.getfield 10, 3) := by decide +kernel
theorem dX7_fill_61 : decode cX7_fill 61 = .ok (.getfield 66, 3) := by decide +kernel
theorem dX7_fill_64 : decode cX7_fill 64 = .ok (.iconst 0, 1) := by decide +kernel
theorem dX7_fill_65 : decode cX7_fill 65 = .ok (.invokevirtual 78, 3) := by decide +kernel
theorem dX7_fill_68 : decode cX7_fill 68 = .ok (.invokevirtual 81, 3) := by decide +kernel
theorem dX7_fill_71 : decode cX7_fill 71 = .ok (.istore 6, 2) := by decide +kernel
theorem dX7_fill_73 : decode cX7_fill 73 = .ok (.iload 4, 2) := by decide +kernel
theorem dX7_fill_75 : decode cX7_fill 75 = .ok (.iload 6, 2) := by decide +kernel
theorem dX7_fill_77 : decode cX7_fill 77 = .ok (.iconst (-1), 1) := by decide +kernel
theorem dX7_fill_78 : decode cX7_fill 78 = .ok (.ixor, 1) := by decide +kernel
theorem dX7_fill_79 : decode cX7_fill 79 = .ok (.iand, 1) := by decide +kernel
theorem dX7_fill_80 : decode cX7_fill 80 = .ok (.ifCond .eq 9, 3) := by decide +kernel
theorem dX7_fill_83 : decode cX7_fill 83 = .ok (.aload_n 0, 1) := by decide +kernel
theorem dX7_fill_84 : decode cX7_fill 84 = .ok (.iconst 3, 1) := by decide +kernel
theorem dX7_fill_85 : decode cX7_fill 85 = .ok (.invokevirtual 62, 3) := by decide +kernel
theorem dX7_fill_88 : decode cX7_fill 88 = .ok (.ireturn, 1) := by decide +kernel
theorem dX7_fill_89 : decode cX7_fill 89 = .ok (.aload_n 0, 1) := by decide +kernel
theorem dX7_fill_90 : decode cX7_fill 90 = .ok (.getfield 10, 3) := by decide +kernel
theorem dX7_fill_93 : decode cX7_fill 93 = .ok (.getfield 115, 3) := by decide +kernel
theorem dX7_fill_96 : decode cX7_fill 96 = .ok (.bipush 8, 2) := by decide +kernel
theorem dX7_fill_98 : decode cX7_fill 98 = .ok (.if_icmp .lt 9, 3) := by decide +kernel
theorem dX7_fill_101 : decode cX7_fill 101 = .ok (.aload_n 0, 1) := by decide +kernel
theorem dX7_fill_102 : decode cX7_fill 102 = .ok (.iconst 4, 1) := by decide +kernel
theorem dX7_fill_103 : decode cX7_fill 103 = .ok (.invokevirtual 62, 3) := by decide +kernel
theorem dX7_fill_106 : decode cX7_fill 106 = .ok (.ireturn, 1) := by decide +kernel
theorem dX7_fill_107 : decode cX7_fill 107 = .ok (.aload_n 0, 1) := by decide +kernel
theorem dX7_fill_108 : decode cX7_fill 108 = .ok (.iload 4, 2) := by decide +kernel
theorem dX7_fill_110 : decode cX7_fill 110 = .ok (.iload 5, 2) := by decide +kernel
theorem dX7_fill_112 : decode cX7_fill 112 = .ok (.invokevirtual 118, 3) := by decide +kernel
theorem dX7_fill_115 : decode cX7_fill 115 = .ok (.aload_n 0, 1) := by decide +kernel
theorem dX7_fill_116 : decode cX7_fill 116 = .ok (.getfield 10, 3) := by decide +kernel
theorem dX7_fill_119 : decode cX7_fill 119 = .ok (.getfield 122, 3) := by decide +kernel
theorem dX7_fill_122 : decode cX7_fill 122 = .ok (.aload_n 0, 1) := by decide +kernel
theorem dX7_fill_123 : decode cX7_fill 123 = .ok (.getfield 10, 3) := by decide +kernel
theorem dX7_fill_126 : decode cX7_fill 126 = .ok (.getfield 115, 3) := by decide +kernel
theorem dX7_fill_129 : decode cX7_fill 129 = .ok (.aaload, 1) := by decide +kernel
theorem dX7_fill_130 : decode cX7_fill 130 = .ok (.iload_n 1, 1) := by decide +kernel
theorem dX7_fill_131 : decode cX7_fill 131 = .ok (.iload 5, 2) := by decide +kernel
theorem dX7_fill_133 : decode cX7_fill 133 = .ok (.iload 4, 2) := by decide +kernel
theorem dX7_fill_135 : decode cX7_fill 135 = .ok (.invokevirtual 126, 3) := by decide +kernel
theorem dX7_fill_138 : decode cX7_fill 138 = .ok (.aload_n 0, 1) := by decide +kernel
theorem dX7_fill_139 : decode cX7_fill 139 = .ok (.getfield 10, 3) := by decide +kernel
theorem dX7_fill_142 : decode cX7_fill 142 = .ok (.dup, 1) := by decide +kernel
theorem dX7_fill_143 : decode cX7_fill 143 = .ok (.getfield 115, 3) := by decide +kernel
theorem dX7_fill_146 : decode cX7_fill 146 = .ok (.iconst 1, 1) := by decide +kernel
theorem dX7_fill_147 : decode cX7_fill 147 = .ok (.iadd, 1) := by decide +kernel
theorem dX7_fill_148 : decode cX7_fill 148 = .ok (.putfield 115, 3) := by decide +kernel
theorem dX7_fill_151 : decode cX7_fill 151 = .ok (.aload_n 0, 1) := by decide +kernel
theorem dX7_fill_152 : decode cX7_fill 152 = .ok (.getfield 10, 3) := by decide +kernel
theorem dX7_fill_155 : decode cX7_fill 155 = .ok (.getfield 115, 3) := by decide +kernel
theorem dX7_fill_158 : decode cX7_fill 158 = .ok (.iconst 1, 1) := by decide +kernel
theorem dX7_fill_159 : decode cX7_fill 159 = .ok (.isub, 1) := by decide +kernel
theorem dX7_fill_160 : decode cX7_fill 160 = .ok (.ireturn, 1) := by decide +kernel
theorem dX7_ofBottle_0 : decode cX7_ofBottle 0 = .ok (.aload_n 0, 1) := by decide +kernel
theorem dX7_ofBottle_1 : decode cX7_ofBottle 1 = .ok (.iload_n 1, 1) := by decide +kernel
theorem dX7_ofBottle_2 : decode cX7_ofBottle 2 = .ok (.invokevirtual 132, 3) := by decide +kernel
theorem dX7_ofBottle_5 : decode cX7_ofBottle 5 = .ok (.ifCond .eq 13, 3) := by decide +kernel
theorem dX7_ofBottle_8 : decode cX7_ofBottle 8 = .ok (.iload_n 2, 1) := by decide +kernel
theorem dX7_ofBottle_9 : decode cX7_ofBottle 9 = .ok (.iconst 0, 1) := by decide +kernel
theorem dX7_ofBottle_10 : decode cX7_ofBottle 10 = .ok (.bipush 8, 2) := by decide +kernel
theorem dX7_ofBottle_12 : decode cX7_ofBottle 12 = .ok (.invokestatic 58, 3) := by decide +kernel
theorem dX7_ofBottle_15 : decode cX7_ofBottle 15 = .ok (.ifCond .ne 9, 3) := by decide +kernel
theorem dX7_ofBottle_18 : decode cX7_ofBottle 18 = .ok (.aload_n 0, 1) := by decide +kernel
theorem dX7_ofBottle_19 : decode cX7_ofBottle 19 = .ok (.iconst 1, 1) := by decide +kernel
theorem dX7_ofBottle_20 : decode cX7_ofBottle 20 = .ok (.invokevirtual 62, 3) := by decide +kernel
theorem dX7_ofBottle_23 : decode cX7_ofBottle 23 = .ok (.ireturn, 1) := by decide +kernel
theorem dX7_ofBottle_24 : decode cX7_ofBottle 24 = .ok (.aload_n 0, 1) := by decide +kernel
theorem dX7_ofBottle_25 : decode cX7_ofBottle 25 = .ok (.getfield 10, 3) := by decide +kernel
theorem dX7_ofBottle_28 : decode cX7_ofBottle 28 = .ok (.getfield 122, 3) := by decide +kernel
theorem dX7_ofBottle_31 : decode cX7_ofBottle 31 = .ok (.iload_n 1, 1) := by decide +kernel
theorem dX7_ofBottle_32 : decode cX7_ofBottle 32 = .ok (.aaload, 1) := by decide +kernel
theorem dX7_ofBottle_33 : decode cX7_ofBottle 33 = .ok (.astore_n 3, 1) := by decide +kernel
theorem dX7_ofBottle_34 : decode cX7_ofBottle 34 = .ok (.iload_n 2, 1) := by decide +kernel
theorem dX7_ofBottle_35 : decode cX7_ofBottle 35 = .ok (.tableswitch 88 0 7 #[45, 50, 55, 60, 65, 70, 78, 83], 45) := by decide +kernel
theorem dX7_ofBottle_80 : decode cX7_ofBottle 80 = .ok (.aload_n 3, 1) := by decide +kernel
theorem dX7_ofBottle_81 : decode cX7_ofBottle 81 = .ok (.getfield 135, 3) := by decide +kernel
theorem dX7_ofBottle_84 : decode cX7_ofBottle 84 = .ok (.ireturn, 1) := by decide +kernel
theorem dX7_ofBottle_85 : decode cX7_ofBottle 85 = .ok (.aload_n 3, 1) := by decide +kernel
theorem dX7_ofBottle_86 : decode cX7_ofBottle 86 = .ok (.getfield 138, 3) := by decide +kernel
theorem dX7_ofBottle_89 : decode cX7_ofBottle 89 = .ok (.ireturn, 1) := by decide +kernel
theorem dX7_ofBottle_90 : decode cX7_ofBottle 90 = .ok (.aload_n 3, 1) := by decide +kernel
theorem dX7_ofBottle_91 : decode cX7_ofBottle 91 = .ok (.getfield 141, 3) := by decide +kernel
theorem dX7_ofBottle_94 : decode cX7_ofBottle 94 = .ok (.ireturn, 1) := by decide +kernel
theorem dX7_ofBottle_95 : decode cX7_ofBottle 95 = .ok (.aload_n 3, 1) := by decide +kernel
theorem dX7_ofBottle_96 : decode cX7_ofBottle 96 = .ok (.getfield 144, 3) := by decide +kernel
theorem dX7_ofBottle_99 : decode cX7_ofBottle 99 = .ok (.ireturn, 1) := by decide +kernel
theorem dX7_ofBottle_100 : decode cX7_ofBottle 100 = .ok (.aload_n 3, 1) := by decide +kernel
theorem dX7_ofBottle_101 : decode cX7_ofBottle 101 = .ok (.getfield 147, 3) := by decide +kernel
theorem dX7_ofBottle_104 : decode cX7_ofBottle 104 = .ok (.ireturn, 1) := by decide +kernel
theorem dX7_ofBottle_105 : decode cX7_ofBottle 105 = .ok (.aload_n 3, 1) := by decide +kernel
theorem dX7_ofBottle_106 : decode cX7_ofBottle 106 = .ok (.getfield 150, 3) := by decide +kernel
theorem dX7_ofBottle_109 : decode cX7_ofBottle 109 = .ok (.invokestatic 154, 3) := by decide +kernel
theorem dX7_ofBottle_112 : decode cX7_ofBottle 112 = .ok (.ireturn, 1) := by decide +kernel
theorem dX7_ofBottle_113 : decode cX7_ofBottle 113 = .ok (.aload_n 3, 1) := by decide +kernel
theorem dX7_ofBottle_114 : decode cX7_ofBottle 114 = .ok (.invokevirtual 158, 3) := by decide +kernel
theorem dX7_ofBottle_117 : decode cX7_ofBottle 117 = .ok (.ireturn, 1) := by decide +kernel
theorem dX7_ofBottle_118 : decode cX7_ofBottle 118 = .ok (.aload_n 3, 1) := by decide +kernel
theorem dX7_ofBottle_119 : decode cX7_ofBottle 119 = .ok (.invokevirtual 162, 3) := by decide +kernel
theorem dX7_ofBottle_122 : decode cX7_ofBottle 122 = .ok (.ireturn, 1) := by decide +kernel
theorem dX7_ofBottle_123 : decode cX7_ofBottle 123 = .ok (.aload_n 0, 1) := by decide +kernel
theorem dX7_ofBottle_124 : decode cX7_ofBottle 124 = .ok (.aload_n 3, 1) := by decide +kernel
theorem dX7_ofBottle_125 : decode cX7_ofBottle 125 = .ok (.invokevirtual 165, 3) := by decide +kernel
theorem dX7_ofBottle_128 : decode cX7_ofBottle 128 = .ok (.ireturn, 1) := by decide +kernel
theorem dX7_become_0 : decode cX7_become 0 = .ok (.aload_n 0, 1) := by decide +kernel
theorem dX7_become_1 : decode cX7_become 1 = .ok (.iload_n 1, 1) := by decide +kernel
theorem dX7_become_2 : decode cX7_become 2 = .ok (.invokevirtual 132, 3) := by decide +kernel
theorem dX7_become_5 : decode cX7_become 5 = .ok (.ifCond .eq 10, 3) := by decide +kernel
theorem dX7_become_8 : decode cX7_become 8 = .ok (.iload_n 2, 1) := by decide +kernel
theorem dX7_become_9 : decode cX7_become 9 = .ok (.invokestatic 106, 3) := by decide +kernel
theorem dX7_become_12 : decode cX7_become 12 = .ok (.ifCond .ne 9, 3) := by decide +kernel
theorem dX7_become_15 : decode cX7_become 15 = .ok (.aload_n 0, 1) := by decide +kernel
theorem dX7_become_16 : decode cX7_become 16 = .ok (.iconst 1, 1) := by decide +kernel
theorem dX7_become_17 : decode cX7_become 17 = .ok (.invokevirtual 62, 3) := by decide +kernel
theorem dX7_become_20 : decode cX7_become 20 = .ok (.ireturn, 1) := by decide +kernel
theorem dX7_become_21 : decode cX7_become 21 = .ok (.aload_n 0, 1) := by decide +kernel
theorem dX7_become_22 : decode cX7_become 22 = .ok (.getfield 10, 3) := by decide +kernel
theorem dX7_become_25 : decode cX7_become 25 = .ok (.getfield 122, 3) := by decide +kernel
theorem dX7_become_28 : decode cX7_become 28 = .ok (.iload_n 1, 1) := by decide +kernel
theorem dX7_become_29 : decode cX7_become 29 = .ok (.aaload, 1) := by decide +kernel
theorem dX7_become_30 : decode cX7_become 30 = .ok (.getfield 135, 3) := by decide +kernel
theorem dX7_become_33 : decode cX7_become 33 = .ok (.istore_n 3, 1) := by decide +kernel
theorem dX7_become_34 : decode cX7_become 34 = .ok (.aload_n 0, 1) := by decide +kernel
theorem dX7_become_35 : decode cX7_become 35 = .ok (.getfield 10, 3) := by decide +kernel
theorem dX7_become_38 : decode cX7_become 38 = .ok (.getfield 122, 3) := by decide +kernel
theorem dX7_become_41 : decode cX7_become 41 = .ok (.iload_n 1, 1) := by decide +kernel
theorem dX7_become_42 : decode cX7_become 42 = .ok (.aaload, 1) := by decide +kernel
theorem dX7_become_43 : decode cX7_become 43 = .ok (.iload_n 2, 1) := by decide +kernel
theorem dX7_become_44 : decode cX7_become 44 = .ok (.invokevirtual 169, 3) := by decide +kernel
theorem dX7_become_47 : decode cX7_become 47 = .ok (.iload_n 3, 1) := by decide +kernel
theorem dX7_become_48 : decode cX7_become 48 = .ok (.ireturn, 1) := by decide +kernel
theorem dX7_as_0 : decode cX7_as 0 = .ok (.aload_n 0, 1) := by decide +kernel
theorem dX7_as_1 : decode cX7_as 1 = .ok (.iload_n 1, 1) := by decide +kernel
theorem dX7_as_2 : decode cX7_as 2 = .ok (.invokevirtual 132, 3) := by decide +kernel
theorem dX7_as_5 : decode cX7_as 5 = .ok (.ifCond .eq 13, 3) := by decide +kernel
theorem dX7_as_8 : decode cX7_as 8 = .ok (.iload_n 2, 1) := by decide +kernel
theorem dX7_as_9 : decode cX7_as 9 = .ok (.iconst 0, 1) := by decide +kernel
theorem dX7_as_10 : decode cX7_as 10 = .ok (.bipush 6, 2) := by decide +kernel
theorem dX7_as_12 : decode cX7_as 12 = .ok (.invokestatic 58, 3) := by decide +kernel
theorem dX7_as_15 : decode cX7_as 15 = .ok (.ifCond .ne 9, 3) := by decide +kernel
theorem dX7_as_18 : decode cX7_as 18 = .ok (.aload_n 0, 1) := by decide +kernel
theorem dX7_as_19 : decode cX7_as 19 = .ok (.iconst 1, 1) := by decide +kernel
theorem dX7_as_20 : decode cX7_as 20 = .ok (.invokevirtual 62, 3) := by decide +kernel
theorem dX7_as_23 : decode cX7_as 23 = .ok (.ireturn, 1) := by decide +kernel
theorem dX7_as_24 : decode cX7_as 24 = .ok (.aload_n 0, 1) := by decide +kernel
theorem dX7_as_25 : decode cX7_as 25 = .ok (.getfield 10, 3) := by decide +kernel
theorem dX7_as_28 : decode cX7_as 28 = .ok (.getfield 122, 3) := by decide +kernel
theorem dX7_as_31 : decode cX7_as 31 = .ok (.iload_n 1, 1) := by decide +kernel
theorem dX7_as_32 : decode cX7_as 32 = .ok (.aaload, 1) := by decide +kernel
theorem dX7_as_33 : decode cX7_as 33 = .ok (.iload_n 2, 1) := by decide +kernel
theorem dX7_as_34 : decode cX7_as 34 = .ok (.invokevirtual 173, 3) := by decide +kernel
theorem dX7_as_37 : decode cX7_as 37 = .ok (.ifCond .ne 9, 3) := by decide +kernel
theorem dX7_as_40 : decode cX7_as 40 = .ok (.aload_n 0, 1) := by decide +kernel
theorem dX7_as_41 : decode cX7_as 41 = .ok (.iconst 5, 1) := by decide +kernel
theorem dX7_as_42 : decode cX7_as 42 = .ok (.invokevirtual 62, 3) := by decide +kernel
theorem dX7_as_45 : decode cX7_as 45 = .ok (.ireturn, 1) := by decide +kernel
theorem dX7_as_46 : decode cX7_as 46 = .ok (.aload_n 0, 1) := by decide +kernel
theorem dX7_as_47 : decode cX7_as 47 = .ok (.getfield 10, 3) := by decide +kernel
theorem dX7_as_50 : decode cX7_as 50 = .ok (.getfield 122, 3) := by decide +kernel
theorem dX7_as_53 : decode cX7_as 53 = .ok (.iload_n 1, 1) := by decide +kernel
theorem dX7_as_54 : decode cX7_as 54 = .ok (.aaload, 1) := by decide +kernel
theorem dX7_as_55 : decode cX7_as 55 = .ok (.getfield 138, 3) := by decide +kernel
theorem dX7_as_58 : decode cX7_as 58 = .ok (.ireturn, 1) := by decide +kernel
theorem dX7_open_0 : decode cX7_open 0 = .ok (.aload_n 0, 1) := by decide +kernel
theorem dX7_open_1 : decode cX7_open 1 = .ok (.iload_n 1, 1) := by decide +kernel
theorem dX7_open_2 : decode cX7_open 2 = .ok (.invokevirtual 132, 3) := by decide +kernel
theorem dX7_open_5 : decode cX7_open 5 = .ok (.ifCond .ne 9, 3) := by decide +kernel
theorem dX7_open_8 : decode cX7_open 8 = .ok (.aload_n 0, 1) := by decide +kernel
theorem dX7_open_9 : decode cX7_open 9 = .ok (.iconst 1, 1) := by decide +kernel
theorem dX7_open_10 : decode cX7_open 10 = .ok (.invokevirtual 62, 3) := by decide +kernel
theorem dX7_open_13 : decode cX7_open 13 = .ok (.ireturn, 1) := by decide +kernel
theorem dX7_open_14 : decode cX7_open 14 = .ok (.aload_n 0, 1) := by decide +kernel
theorem dX7_open_15 : decode cX7_open 15 = .ok (.getfield 10, 3) := by decide +kernel
theorem dX7_open_18 : decode cX7_open 18 = .ok (.getfield 122, 3) := by decide +kernel
theorem dX7_open_21 : decode cX7_open 21 = .ok (.iload_n 1, 1) := by decide +kernel
theorem dX7_open_22 : decode cX7_open 22 = .ok (.aaload, 1) := by decide +kernel
theorem dX7_open_23 : decode cX7_open 23 = .ok (.astore_n 2, 1) := by decide +kernel
theorem dX7_open_24 : decode cX7_open 24 = .ok (.aload_n 2, 1) := by decide +kernel
theorem dX7_open_25 : decode cX7_open 25 = .ok (.getfield 150, 3) := by decide +kernel
theorem dX7_open_28 : decode cX7_open 28 = .ok (.ifCond .eq 9, 3) := by decide +kernel
theorem dX7_open_31 : decode cX7_open 31 = .ok (.aload_n 0, 1) := by decide +kernel
theorem dX7_open_32 : decode cX7_open 32 = .ok (.iconst 3, 1) := by decide +kernel
theorem dX7_open_33 : decode cX7_open 33 = .ok (.invokevirtual 62, 3) := by decide +kernel
theorem dX7_open_36 : decode cX7_open 36 = .ok (.ireturn, 1) := by decide +kernel
theorem dX7_open_37 : decode cX7_open 37 = .ok (.aload_n 2, 1) := by decide +kernel
theorem dX7_open_38 : decode cX7_open 38 = .ok (.invokevirtual 158, 3) := by decide +kernel
theorem dX7_open_41 : decode cX7_open 41 = .ok (.aload_n 0, 1) := by decide +kernel
theorem dX7_open_42 : decode cX7_open 42 = .ok (.getfield 10, 3) := by decide +kernel
theorem dX7_open_45 : decode cX7_open 45 = .ok (.getfield 66, 3) := by decide +kernel
theorem dX7_open_48 : decode cX7_open 48 = .ok (.iconst 0, 1) := by decide +kernel
theorem dX7_open_49 : decode cX7_open 49 = .ok (.invokevirtual 78, 3) := by decide +kernel
theorem dX7_open_52 : decode cX7_open 52 = .ok (.iand, 1) := by decide +kernel
theorem dX7_open_53 : decode cX7_open 53 = .ok (.istore_n 3, 1) := by decide +kernel
theorem dX7_open_54 : decode cX7_open 54 = .ok (.aload_n 0, 1) := by decide +kernel
theorem dX7_open_55 : decode cX7_open 55 = .ok (.getfield 10, 3) := by decide +kernel
theorem dX7_open_58 : decode cX7_open 58 = .ok (.getfield 66, 3) := by decide +kernel
theorem dX7_open_61 : decode cX7_open 61 = .ok (.iload_n 3, 1) := by decide +kernel
theorem dX7_open_62 : decode cX7_open 62 = .ok (.invokevirtual 176, 3) := by decide +kernel
theorem dX7_open_65 : decode cX7_open 65 = .ok (.aload_n 2, 1) := by decide +kernel
theorem dX7_open_66 : decode cX7_open 66 = .ok (.iconst 0, 1) := by decide +kernel
theorem dX7_open_67 : decode cX7_open 67 = .ok (.putfield 144, 3) := by decide +kernel
theorem dX7_open_70 : decode cX7_open 70 = .ok (.aload_n 2, 1) := by decide +kernel
theorem dX7_open_71 : decode cX7_open 71 = .ok (.iconst 1, 1) := by decide +kernel
theorem dX7_open_72 : decode cX7_open 72 = .ok (.putfield 150, 3) := by decide +kernel
theorem dX7_open_75 : decode cX7_open 75 = .ok (.iload_n 3, 1) := by decide +kernel
theorem dX7_open_76 : decode cX7_open 76 = .ok (.invokestatic 89, 3) := by decide +kernel
theorem dX7_open_79 : decode cX7_open 79 = .ok (.ireturn, 1) := by decide +kernel
theorem dX7_feed_0 : decode cX7_feed 0 = .ok (.iload_n 3, 1) := by decide +kernel
theorem dX7_feed_1 : decode cX7_feed 1 = .ok (.iconst 1, 1) := by decide +kernel
theorem dX7_feed_2 : decode cX7_feed 2 = .ok (.bipush 8, 2) := by decide +kernel
theorem dX7_feed_4 : decode cX7_feed 4 = .ok (.invokestatic 58, 3) := by decide +kernel
theorem dX7_feed_7 : decode cX7_feed 7 = .ok (.ifCond .ne 9, 3) := by decide +kernel
theorem dX7_feed_10 : decode cX7_feed 10 = .ok (.aload_n 0, 1) := by decide +kernel
theorem dX7_feed_11 : decode cX7_feed 11 = .ok (.iconst 1, 1) := by decide +kernel
theorem dX7_feed_12 : decode cX7_feed 12 = .ok (.invokevirtual 62, 3) := by decide +kernel
theorem dX7_feed_15 : decode cX7_feed 15 = .ok (.ireturn, 1) := by decide +kernel
theorem dX7_feed_16 : decode cX7_feed 16 = .ok (.aload_n 0, 1) := by decide +kernel
theorem dX7_feed_17 : decode cX7_feed 17 = .ok (.getfield 10, 3) := by decide +kernel
theorem dX7_feed_20 : decode cX7_feed 20 = .ok (.getfield 179, 3) := by decide +kernel
theorem dX7_feed_23 : decode cX7_feed 23 = .ok (.getfield 183, 3) := by decide +kernel
theorem dX7_feed_26 : decode cX7_feed 26 = .ok (.iload_n 3, 1) := by decide +kernel
theorem dX7_feed_27 : decode cX7_feed 27 = .ok (.iadd, 1) := by decide +kernel
theorem dX7_feed_28 : decode cX7_feed 28 = .ok (.bipush 50, 2) := by decide +kernel
theorem dX7_feed_30 : decode cX7_feed 30 = .ok (.if_icmp .le 9, 3) := by decide +kernel
theorem dX7_feed_33 : decode cX7_feed 33 = .ok (.aload_n 0, 1) := by decide +kernel
theorem dX7_feed_34 : decode cX7_feed 34 = .ok (.iconst 4, 1) := by decide +kernel
theorem dX7_feed_35 : decode cX7_feed 35 = .ok (.invokevirtual 62, 3) := by decide +kernel
theorem dX7_feed_38 : decode cX7_feed 38 = .ok (.ireturn, 1) := by decide +kernel
theorem dX7_feed_39 : decode cX7_feed 39 = .ok (.iconst 0, 1) := by decide +kernel
theorem dX7_feed_40 : decode cX7_feed 40 = .ok (.istore 4, 2) := by decide +kernel
theorem dX7_feed_42 : decode cX7_feed 42 = .ok (.iload 4, 2) := by decide +kernel
theorem dX7_feed_44 : decode cX7_feed 44 = .ok (.iload_n 3, 1) := by decide +kernel
theorem dX7_feed_45 : decode cX7_feed 45 = .ok (.if_icmp .ge 31, 3) := by decide +kernel
theorem dX7_feed_48 : decode cX7_feed 48 = .ok (.aload_n 0, 1) := by decide +kernel
theorem dX7_feed_49 : decode cX7_feed 49 = .ok (.getfield 10, 3) := by decide +kernel
theorem dX7_feed_52 : decode cX7_feed 52 = .ok (.getfield 179, 3) := by decide +kernel
theorem dX7_feed_55 : decode cX7_feed 55 = .ok (.lload_n 1, 1) := by decide +kernel
theorem dX7_feed_56 : decode cX7_feed 56 = .ok (.bipush 8, 2) := by decide +kernel
theorem dX7_feed_58 : decode cX7_feed 58 = .ok (.iload 4, 2) := by decide +kernel
theorem dX7_feed_60 : decode cX7_feed 60 = .ok (.imul, 1) := by decide +kernel
theorem dX7_feed_61 : decode cX7_feed 61 = .ok (.lushr, 1) := by decide +kernel
theorem dX7_feed_62 : decode cX7_feed 62 = .ok (.l2i, 1) := by decide +kernel
theorem dX7_feed_63 : decode cX7_feed 63 = .ok (.sipush 255, 3) := by decide +kernel
theorem dX7_feed_66 : decode cX7_feed 66 = .ok (.iand, 1) := by decide +kernel
theorem dX7_feed_67 : decode cX7_feed 67 = .ok (.invokevirtual 188, 3) := by decide +kernel
theorem dX7_feed_70 : decode cX7_feed 70 = .ok (.iinc 4 1, 3) := by decide +kernel
theorem dX7_feed_73 : decode cX7_feed 73 = .ok (.goto (-31), 3) := by decide +kernel
theorem dX7_feed_76 : decode cX7_feed 76 = .ok (.aload_n 0, 1) := by decide +kernel
theorem dX7_feed_77 : decode cX7_feed 77 = .ok (.getfield 10, 3) := by decide +kernel
theorem dX7_feed_80 : decode cX7_feed 80 = .ok (.getfield 179, 3) := by decide +kernel
theorem dX7_feed_83 : decode cX7_feed 83 = .ok (.getfield 183, 3) := by decide +kernel
theorem dX7_feed_86 : decode cX7_feed 86 = .ok (.ireturn, 1) := by decide +kernel
theorem dX7_text_0 : decode cX7_text 0 = .ok (.iload_n 1, 1) := by decide +kernel
theorem dX7_text_1 : decode cX7_text 1 = .ok (.invokestatic 191, 3) := by decide +kernel
theorem dX7_text_4 : decode cX7_text 4 = .ok (.ifCond .ne 9, 3) := by decide +kernel
theorem dX7_text_7 : decode cX7_text 7 = .ok (.aload_n 0, 1) := by decide +kernel
theorem dX7_text_8 : decode cX7_text 8 = .ok (.iconst 1, 1) := by decide +kernel
theorem dX7_text_9 : decode cX7_text 9 = .ok (.invokevirtual 62, 3) := by decide +kernel
theorem dX7_text_12 : decode cX7_text 12 = .ok (.ireturn, 1) := by decide +kernel
theorem dX7_text_13 : decode cX7_text 13 = .ok (.aload_n 0, 1) := by decide +kernel
theorem dX7_text_14 : decode cX7_text 14 = .ok (.getfield 26, 3) := by decide +kernel
theorem dX7_text_17 : decode cX7_text 17 = .ok (.aload_n 0, 1) := by decide +kernel
theorem dX7_text_18 : decode cX7_text 18 = .ok (.getfield 10, 3) := by decide +kernel
theorem dX7_text_21 : decode cX7_text 21 = .ok (.getfield 179, 3) := by decide +kernel
theorem dX7_text_24 : decode cX7_text 24 = .ok (.iload_n 1, 1) := by decide +kernel
theorem dX7_text_25 : decode cX7_text 25 = .ok (.invokevirtual 194, 3) := by decide +kernel
theorem dX7_text_28 : decode cX7_text 28 = .ok (.istore_n 2, 1) := by decide +kernel
theorem dX7_text_29 : decode cX7_text 29 = .ok (.iload_n 2, 1) := by decide +kernel
theorem dX7_text_30 : decode cX7_text 30 = .ok (.ifCond .ge 21, 3) := by decide +kernel
theorem dX7_text_33 : decode cX7_text 33 = .ok (.aload_n 0, 1) := by decide +kernel
theorem dX7_text_34 : decode cX7_text 34 = .ok (.getfield 10, 3) := by decide +kernel
theorem dX7_text_37 : decode cX7_text 37 = .ok (.iload_n 1, 1) := by decide +kernel
theorem dX7_text_38 : decode cX7_text 38 = .ok (.invokevirtual 198, 3) := by decide +kernel
theorem dX7_text_41 : decode cX7_text 41 = .ok (.aload_n 0, 1) := by decide +kernel
theorem dX7_text_42 : decode cX7_text 42 = .ok (.getfield 10, 3) := by decide +kernel
theorem dX7_text_45 : decode cX7_text 45 = .ok (.getfield 179, 3) := by decide +kernel
theorem dX7_text_48 : decode cX7_text 48 = .ok (.invokevirtual 202, 3) := by decide +kernel
theorem dX7_text_51 : decode cX7_text 51 = .ok (.aload_n 0, 1) := by decide +kernel
theorem dX7_text_52 : decode cX7_text 52 = .ok (.getfield 10, 3) := by decide +kernel
theorem dX7_text_55 : decode cX7_text 55 = .ok (.getfield 179, 3) := by decide +kernel
theorem dX7_text_58 : decode cX7_text 58 = .ok (.iconst 0, 1) := by decide +kernel
theorem dX7_text_59 : decode cX7_text 59 = .ok (.putfield 183, 3) := by decide +kernel
theorem dX7_text_62 : decode cX7_text 62 = .ok (.iload_n 2, 1) := by decide +kernel
theorem dX7_text_63 : decode cX7_text 63 = .ok (.ifCond .ge 7, 3) := by decide +kernel
theorem dX7_text_66 : decode cX7_text 66 = .ok (.iconst 1, 1) := by decide +kernel
theorem dX7_text_67 : decode cX7_text 67 = .ok (.goto 7, 3) := by decide +kernel
theorem dX7_text_70 : decode cX7_text 70 = .ok (.bipush (-10), 2) := by decide +kernel
theorem dX7_text_72 : decode cX7_text 72 = .ok (.iload_n 2, 1) := by decide +kernel
theorem dX7_text_73 : decode cX7_text 73 = .ok (.isub, 1) := by decide +kernel
theorem dX7_text_74 : decode cX7_text 74 = .ok (.ireturn, 1) := by decide +kernel
theorem dX7_law_0 : decode cX7_law 0 = .ok (.iload_n 1, 1) := by decide +kernel
theorem dX7_law_1 : decode cX7_law 1 = .ok (.invokestatic 191, 3) := by decide +kernel
theorem dX7_law_4 : decode cX7_law 4 = .ok (.ifCond .ne 9, 3) := by decide +kernel
theorem dX7_law_7 : decode cX7_law 7 = .ok (.aload_n 0, 1) := by decide +kernel
theorem dX7_law_8 : decode cX7_law 8 = .ok (.iconst 1, 1) := by decide +kernel
theorem dX7_law_9 : decode cX7_law 9 = .ok (.invokevirtual 62, 3) := by decide +kernel
theorem dX7_law_12 : decode cX7_law 12 = .ok (.ireturn, 1) := by decide +kernel
theorem dX7_law_13 : decode cX7_law 13 = .ok (.aload_n 0, 1) := by decide +kernel
theorem dX7_law_14 : decode cX7_law 14 = .ok (.iload_n 1, 1) := by decide +kernel
theorem dX7_law_15 : decode cX7_law 15 = .ok (.iload_n 2, 1) := by decide +kernel
theorem dX7_law_16 : decode cX7_law 16 = .ok (.iload_n 3, 1) := by decide +kernel
theorem dX7_law_17 : decode cX7_law 17 = .ok (.iload 4, 2) := by decide +kernel
theorem dX7_law_19 : decode cX7_law 19 = .ok (.invokevirtual 206, 3) := by decide +kernel
theorem dX7_law_22 : decode cX7_law 22 = .ok (.ireturn, 1) := by decide +kernel
theorem dX7_days_0 : decode cX7_days 0 = .ok (.iload_n 1, 1) := by decide +kernel
theorem dX7_days_1 : decode cX7_days 1 = .ok (.iconst 1, 1) := by decide +kernel
theorem dX7_days_2 : decode cX7_days 2 = .ok (.bipush 100, 2) := by decide +kernel
theorem dX7_days_4 : decode cX7_days 4 = .ok (.invokestatic 58, 3) := by decide +kernel
theorem dX7_days_7 : decode cX7_days 7 = .ok (.ifCond .ne 9, 3) := by decide +kernel
theorem dX7_days_10 : decode cX7_days 10 = .ok (.aload_n 0, 1) := by decide +kernel
theorem dX7_days_11 : decode cX7_days 11 = .ok (.iconst 1, 1) := by decide +kernel
theorem dX7_days_12 : decode cX7_days 12 = .ok (.invokevirtual 62, 3) := by decide +kernel
theorem dX7_days_15 : decode cX7_days 15 = .ok (.ireturn, 1) := by decide +kernel
theorem dX7_days_16 : decode cX7_days 16 = .ok (.aload_n 0, 1) := by decide +kernel
theorem dX7_days_17 : decode cX7_days 17 = .ok (.getfield 10, 3) := by decide +kernel
theorem dX7_days_20 : decode cX7_days 20 = .ok (.getfield 210, 3) := by decide +kernel
theorem dX7_days_23 : decode cX7_days 23 = .ok (.iload_n 1, 1) := by decide +kernel
theorem dX7_days_24 : decode cX7_days 24 = .ok (.iadd, 1) := by decide +kernel
theorem dX7_days_25 : decode cX7_days 25 = .ok (.sipush 9999, 3) := by decide +kernel
theorem dX7_days_28 : decode cX7_days 28 = .ok (.if_icmp .le 9, 3) := by decide +kernel
theorem dX7_days_31 : decode cX7_days 31 = .ok (.aload_n 0, 1) := by decide +kernel
theorem dX7_days_32 : decode cX7_days 32 = .ok (.iconst 3, 1) := by decide +kernel
theorem dX7_days_33 : decode cX7_days 33 = .ok (.invokevirtual 62, 3) := by decide +kernel
theorem dX7_days_36 : decode cX7_days 36 = .ok (.ireturn, 1) := by decide +kernel
theorem dX7_days_37 : decode cX7_days 37 = .ok (.iconst 0, 1) := by decide +kernel
theorem dX7_days_38 : decode cX7_days 38 = .ok (.istore_n 2, 1) := by decide +kernel
theorem dX7_days_39 : decode cX7_days 39 = .ok (.iload_n 2, 1) := by decide +kernel
theorem dX7_days_40 : decode cX7_days 40 = .ok (.iload_n 1, 1) := by decide +kernel
theorem dX7_days_41 : decode cX7_days 41 = .ok (.if_icmp .ge 16, 3) := by decide +kernel
theorem dX7_days_44 : decode cX7_days 44 = .ok (.aload_n 0, 1) := by decide +kernel
theorem dX7_days_45 : decode cX7_days 45 = .ok (.getfield 10, 3) := by decide +kernel
theorem dX7_days_48 : decode cX7_days 48 = .ok (.invokevirtual 213, 3) := by decide +kernel
theorem dX7_days_51 : decode cX7_days 51 = .ok (.iinc 2 1, 3) := by decide +kernel
theorem dX7_days_54 : decode cX7_days 54 = .ok (.goto (-15), 3) := by decide +kernel
theorem dX7_days_57 : decode cX7_days 57 = .ok (.aload_n 0, 1) := by decide +kernel
theorem dX7_days_58 : decode cX7_days 58 = .ok (.iconst 0, 1) := by decide +kernel
theorem dX7_days_59 : decode cX7_days 59 = .ok (.invokevirtual 216, 3) := by decide +kernel
theorem dX7_days_62 : decode cX7_days 62 = .ok (.ireturn, 1) := by decide +kernel
theorem dX7_loose_0 : decode cX7_loose 0 = .ok (.iload_n 1, 1) := by decide +kernel
theorem dX7_loose_1 : decode cX7_loose 1 = .ok (.iconst 1, 1) := by decide +kernel
theorem dX7_loose_2 : decode cX7_loose 2 = .ok (.bipush 40, 2) := by decide +kernel
theorem dX7_loose_4 : decode cX7_loose 4 = .ok (.invokestatic 58, 3) := by decide +kernel
theorem dX7_loose_7 : decode cX7_loose 7 = .ok (.ifCond .ne 9, 3) := by decide +kernel
theorem dX7_loose_10 : decode cX7_loose 10 = .ok (.aload_n 0, 1) := by decide +kernel
theorem dX7_loose_11 : decode cX7_loose 11 = .ok (.iconst 1, 1) := by decide +kernel
theorem dX7_loose_12 : decode cX7_loose 12 = .ok (.invokevirtual 62, 3) := by decide +kernel
theorem dX7_loose_15 : decode cX7_loose 15 = .ok (.ireturn, 1) := by decide +kernel
theorem dX7_loose_16 : decode cX7_loose 16 = .ok (.aload_n 0, 1) := by decide +kernel
theorem dX7_loose_17 : decode cX7_loose 17 = .ok (.getfield 10, 3) := by decide +kernel
theorem dX7_loose_20 : decode cX7_loose 20 = .ok (.getfield 210, 3) := by decide +kernel
theorem dX7_loose_23 : decode cX7_loose 23 = .ok (.iload_n 1, 1) := by decide +kernel
theorem dX7_loose_24 : decode cX7_loose 24 = .ok (.iadd, 1) := by decide +kernel
theorem dX7_loose_25 : decode cX7_loose 25 = .ok (.sipush 9999, 3) := by decide +kernel
theorem dX7_loose_28 : decode cX7_loose 28 = .ok (.if_icmp .le 9, 3) := by decide +kernel
theorem dX7_loose_31 : decode cX7_loose 31 = .ok (.aload_n 0, 1) := by decide +kernel
theorem dX7_loose_32 : decode cX7_loose 32 = .ok (.iconst 3, 1) := by decide +kernel
theorem dX7_loose_33 : decode cX7_loose 33 = .ok (.invokevirtual 62, 3) := by decide +kernel
theorem dX7_loose_36 : decode cX7_loose 36 = .ok (.ireturn, 1) := by decide +kernel
theorem dX7_loose_37 : decode cX7_loose 37 = .ok (.iconst 0, 1) := by decide +kernel
theorem dX7_loose_38 : decode cX7_loose 38 = .ok (.istore_n 2, 1) := by decide +kernel
theorem dX7_loose_39 : decode cX7_loose 39 = .ok (.iload_n 2, 1) := by decide +kernel
theorem dX7_loose_40 : decode cX7_loose 40 = .ok (.iload_n 1, 1) := by decide +kernel
theorem dX7_loose_41 : decode cX7_loose 41 = .ok (.if_icmp .ge 16, 3) := by decide +kernel
theorem dX7_loose_44 : decode cX7_loose 44 = .ok (.aload_n 0, 1) := by decide +kernel
theorem dX7_loose_45 : decode cX7_loose 45 = .ok (.getfield 10, 3) := by decide +kernel
theorem dX7_loose_48 : decode cX7_loose 48 = .ok (.invokevirtual 219, 3) := by decide +kernel
theorem dX7_loose_51 : decode cX7_loose 51 = .ok (.iinc 2 1, 3) := by decide +kernel
theorem dX7_loose_54 : decode cX7_loose 54 = .ok (.goto (-15), 3) := by decide +kernel
theorem dX7_loose_57 : decode cX7_loose 57 = .ok (.aload_n 0, 1) := by decide +kernel
theorem dX7_loose_58 : decode cX7_loose 58 = .ok (.iconst 0, 1) := by decide +kernel
theorem dX7_loose_59 : decode cX7_loose 59 = .ok (.invokevirtual 216, 3) := by decide +kernel
theorem dX7_loose_62 : decode cX7_loose 62 = .ok (.ireturn, 1) := by decide +kernel
theorem dX7_view_0 : decode cX7_view 0 = .ok (.aload_n 0, 1) := by decide +kernel
theorem dX7_view_1 : decode cX7_view 1 = .ok (.iload_n 1, 1) := by decide +kernel
theorem dX7_view_2 : decode cX7_view 2 = .ok (.invokevirtual 103, 3) := by decide +kernel
theorem dX7_view_5 : decode cX7_view 5 = .ok (.ifCond .eq 20, 3) := by decide +kernel
theorem dX7_view_8 : decode cX7_view 8 = .ok (.iload_n 2, 1) := by decide +kernel
theorem dX7_view_9 : decode cX7_view 9 = .ok (.invokestatic 109, 3) := by decide +kernel
theorem dX7_view_12 : decode cX7_view 12 = .ok (.ifCond .eq 13, 3) := by decide +kernel
theorem dX7_view_15 : decode cX7_view 15 = .ok (.iload_n 3, 1) := by decide +kernel
theorem dX7_view_16 : decode cX7_view 16 = .ok (.iconst 0, 1) := by decide +kernel
theorem dX7_view_17 : decode cX7_view 17 = .ok (.bipush 100, 2) := by decide +kernel
theorem dX7_view_19 : decode cX7_view 19 = .ok (.invokestatic 58, 3) := by decide +kernel
theorem dX7_view_22 : decode cX7_view 22 = .ok (.ifCond .ne 9, 3) := by decide +kernel
theorem dX7_view_25 : decode cX7_view 25 = .ok (.aload_n 0, 1) := by decide +kernel
theorem dX7_view_26 : decode cX7_view 26 = .ok (.iconst 1, 1) := by decide +kernel
theorem dX7_view_27 : decode cX7_view 27 = .ok (.invokevirtual 62, 3) := by decide +kernel
theorem dX7_view_30 : decode cX7_view 30 = .ok (.ireturn, 1) := by decide +kernel
theorem dX7_view_31 : decode cX7_view 31 = .ok (.aload_n 0, 1) := by decide +kernel
theorem dX7_view_32 : decode cX7_view 32 = .ok (.getfield 10, 3) := by decide +kernel
theorem dX7_view_35 : decode cX7_view 35 = .ok (.getfield 66, 3) := by decide +kernel
theorem dX7_view_38 : decode cX7_view 38 = .ok (.aload_n 0, 1) := by decide +kernel
theorem dX7_view_39 : decode cX7_view 39 = .ok (.getfield 10, 3) := by decide +kernel
theorem dX7_view_42 : decode cX7_view 42 = .ok (.getfield 100, 3) := by decide +kernel
theorem dX7_view_45 : decode cX7_view 45 = .ok (.iload_n 1, 1) := by decide +kernel
theorem dX7_view_46 : decode cX7_view 46 = .ok (.iaload, 1) := by decide +kernel
theorem dX7_view_47 : decode cX7_view 47 = .ok (.iload_n 2, 1) := by decide +kernel
theorem dX7_view_48 : decode cX7_view 48 = .ok (.aload_n 0, 1) := by decide +kernel
theorem dX7_view_49 : decode cX7_view 49 = .ok (.getfield 10, 3) := by decide +kernel
theorem dX7_view_52 : decode cX7_view 52 = .ok (.getfield 66, 3) := by decide +kernel
theorem dX7_view_55 : decode cX7_view 55 = .ok (.iload_n 3, 1) := by decide +kernel
theorem dX7_view_56 : decode cX7_view 56 = .ok (.invokevirtual 78, 3) := by decide +kernel
theorem dX7_view_59 : decode cX7_view 59 = .ok (.invokevirtual 81, 3) := by decide +kernel
theorem dX7_view_62 : decode cX7_view 62 = .ok (.ireturn, 1) := by decide +kernel
theorem dX7_again_0 : decode cX7_again 0 = .ok (.aload_n 0, 1) := by decide +kernel
theorem dX7_again_1 : decode cX7_again 1 = .ok (.iload_n 1, 1) := by decide +kernel
theorem dX7_again_2 : decode cX7_again 2 = .ok (.invokevirtual 103, 3) := by decide +kernel
theorem dX7_again_5 : decode cX7_again 5 = .ok (.ifCond .eq 23, 3) := by decide +kernel
theorem dX7_again_8 : decode cX7_again 8 = .ok (.iload_n 2, 1) := by decide +kernel
theorem dX7_again_9 : decode cX7_again 9 = .ok (.invokestatic 54, 3) := by decide +kernel
theorem dX7_again_12 : decode cX7_again 12 = .ok (.ifCond .eq 16, 3) := by decide +kernel
theorem dX7_again_15 : decode cX7_again 15 = .ok (.aload_n 0, 1) := by decide +kernel
theorem dX7_again_16 : decode cX7_again 16 = .ok (.getfield 10, 3) := by decide +kernel
theorem dX7_again_19 : decode cX7_again 19 = .ok (.getfield 100, 3) := by decide +kernel
theorem dX7_again_22 : decode cX7_again 22 = .ok (.iload_n 1, 1) := by decide +kernel
theorem dX7_again_23 : decode cX7_again 23 = .ok (.iaload, 1) := by decide +kernel
theorem dX7_again_24 : decode cX7_again 24 = .ok (.iload_n 2, 1) := by decide +kernel
theorem dX7_again_25 : decode cX7_again 25 = .ok (.if_icmp .ne 9, 3) := by decide +kernel
theorem dX7_again_28 : decode cX7_again 28 = .ok (.aload_n 0, 1) := by decide +kernel
theorem dX7_again_29 : decode cX7_again 29 = .ok (.iconst 1, 1) := by decide +kernel
theorem dX7_again_30 : decode cX7_again 30 = .ok (.invokevirtual 62, 3) := by decide +kernel
theorem dX7_again_33 : decode cX7_again 33 = .ok (.ireturn, 1) := by decide +kernel
theorem dX7_again_34 : decode cX7_again 34 = .ok (.iconst 0, 1) := by decide +kernel
theorem dX7_again_35 : decode cX7_again 35 = .ok (.istore_n 3, 1) := by decide +kernel
theorem dX7_again_36 : decode cX7_again 36 = .ok (.iload_n 3, 1) := by decide +kernel
theorem dX7_again_37 : decode cX7_again 37 = .ok (.bipush 100, 2) := by decide +kernel
theorem dX7_again_39 : decode cX7_again 39 = .ok (.if_icmp .gt 46, 3) := by decide +kernel
theorem dX7_again_42 : decode cX7_again 42 = .ok (.aload_n 0, 1) := by decide +kernel
theorem dX7_again_43 : decode cX7_again 43 = .ok (.getfield 10, 3) := by decide +kernel
theorem dX7_again_46 : decode cX7_again 46 = .ok (.getfield 66, 3) := by decide +kernel
theorem dX7_again_49 : decode cX7_again 49 = .ok (.aload_n 0, 1) := by decide +kernel
theorem dX7_again_50 : decode cX7_again 50 = .ok (.getfield 10, 3) := by decide +kernel
theorem dX7_again_53 : decode cX7_again 53 = .ok (.getfield 100, 3) := by decide +kernel
theorem dX7_again_56 : decode cX7_again 56 = .ok (.iload_n 1, 1) := by decide +kernel
theorem dX7_again_57 : decode cX7_again 57 = .ok (.iaload, 1) := by decide +kernel
theorem dX7_again_58 : decode cX7_again 58 = .ok (.iload_n 2, 1) := by decide +kernel
theorem dX7_again_59 : decode cX7_again 59 = .ok (.iconst 0, 1) := by decide +kernel
theorem dX7_again_60 : decode cX7_again 60 = .ok (.aload_n 0, 1) := by decide +kernel
theorem dX7_again_61 : decode cX7_again 61 = .ok (.getfield 10, 3) := by decide +kernel
theorem dX7_again_64 : decode cX7_again 64 = .ok (.getfield 66, 3) := by decide +kernel
theorem dX7_again_67 : decode cX7_again 67 = .ok (.iload_n 3, 1) := by decide +kernel
theorem dX7_again_68 : decode cX7_again 68 = .ok (.invokevirtual 78, 3) := by decide +kernel
theorem dX7_again_71 : decode cX7_again 71 = .ok (.invokevirtual 222, 3) := by decide +kernel
theorem dX7_again_74 : decode cX7_again 74 = .ok (.ifCond .eq 5, 3) := by decide +kernel
theorem dX7_again_77 : decode cX7_again 77 = .ok (.iload_n 3, 1) := by decide +kernel
theorem dX7_again_78 : decode cX7_again 78 = .ok (.ireturn, 1) := by decide +kernel
theorem dX7_again_79 : decode cX7_again 79 = .ok (.iinc 3 1, 3) := by decide +kernel
theorem dX7_again_82 : decode cX7_again 82 = .ok (.goto (-46), 3) := by decide +kernel
theorem dX7_again_85 : decode cX7_again 85 = .ok (.aload_n 0, 1) := by decide +kernel
theorem dX7_again_86 : decode cX7_again 86 = .ok (.iconst 2, 1) := by decide +kernel
theorem dX7_again_87 : decode cX7_again 87 = .ok (.invokevirtual 62, 3) := by decide +kernel
theorem dX7_again_90 : decode cX7_again 90 = .ok (.ireturn, 1) := by decide +kernel
theorem dX7_best_0 : decode cX7_best 0 = .ok (.iload_n 1, 1) := by decide +kernel
theorem dX7_best_1 : decode cX7_best 1 = .ok (.iconst 0, 1) := by decide +kernel
theorem dX7_best_2 : decode cX7_best 2 = .ok (.iconst 1, 1) := by decide +kernel
theorem dX7_best_3 : decode cX7_best 3 = .ok (.invokestatic 58, 3) := by decide +kernel
theorem dX7_best_6 : decode cX7_best 6 = .ok (.ifCond .ne 9, 3) := by decide +kernel
theorem dX7_best_9 : decode cX7_best 9 = .ok (.aload_n 0, 1) := by decide +kernel
theorem dX7_best_10 : decode cX7_best 10 = .ok (.iconst 1, 1) := by decide +kernel
theorem dX7_best_11 : decode cX7_best 11 = .ok (.invokevirtual 62, 3) := by decide +kernel
theorem dX7_best_14 : decode cX7_best 14 = .ok (.ireturn, 1) := by decide +kernel
theorem dX7_best_15 : decode cX7_best 15 = .ok (.aload_n 0, 1) := by decide +kernel
theorem dX7_best_16 : decode cX7_best 16 = .ok (.getfield 10, 3) := by decide +kernel
theorem dX7_best_19 : decode cX7_best 19 = .ok (.getfield 66, 3) := by decide +kernel
theorem dX7_best_22 : decode cX7_best 22 = .ok (.iconst 0, 1) := by decide +kernel
theorem dX7_best_23 : decode cX7_best 23 = .ok (.invokevirtual 78, 3) := by decide +kernel
theorem dX7_best_26 : decode cX7_best 26 = .ok (.istore_n 2, 1) := by decide +kernel
theorem dX7_best_27 : decode cX7_best 27 = .ok (.iconst 0, 1) := by decide +kernel
theorem dX7_best_28 : decode cX7_best 28 = .ok (.istore_n 3, 1) := by decide +kernel
theorem dX7_best_29 : decode cX7_best 29 = .ok (.iconst (-1), 1) := by decide +kernel
theorem dX7_best_30 : decode cX7_best 30 = .ok (.istore 4, 2) := by decide +kernel
theorem dX7_best_32 : decode cX7_best 32 = .ok (.iconst 0, 1) := by decide +kernel
theorem dX7_best_33 : decode cX7_best 33 = .ok (.istore 5, 2) := by decide +kernel
theorem dX7_best_35 : decode cX7_best 35 = .ok (.iload 5, 2) := by decide +kernel
theorem dX7_best_37 : decode cX7_best 37 = .ok (.bipush 20, 2) := by decide +kernel
theorem dX7_best_39 : decode cX7_best 39 = .ok (.if_icmp .ge 41, 3) := by decide +kernel
theorem dX7_best_42 : decode cX7_best 42 = .ok (.aload_n 0, 1) := by decide +kernel
theorem dX7_best_43 : decode cX7_best 43 = .ok (.getfield 10, 3) := by decide +kernel
theorem dX7_best_46 : decode cX7_best 46 = .ok (.getfield 66, 3) := by decide +kernel
theorem dX7_best_49 : decode cX7_best 49 = .ok (.iload 5, 2) := by decide +kernel
theorem dX7_best_51 : decode cX7_best 51 = .ok (.iload_n 2, 1) := by decide +kernel
theorem dX7_best_52 : decode cX7_best 52 = .ok (.invokevirtual 85, 3) := by decide +kernel
theorem dX7_best_55 : decode cX7_best 55 = .ok (.invokestatic 89, 3) := by decide +kernel
theorem dX7_best_58 : decode cX7_best 58 = .ok (.istore 6, 2) := by decide +kernel
theorem dX7_best_60 : decode cX7_best 60 = .ok (.iload 6, 2) := by decide +kernel
theorem dX7_best_62 : decode cX7_best 62 = .ok (.iload 4, 2) := by decide +kernel
theorem dX7_best_64 : decode cX7_best 64 = .ok (.if_icmp .le 10, 3) := by decide +kernel
theorem dX7_best_67 : decode cX7_best 67 = .ok (.iload 6, 2) := by decide +kernel
theorem dX7_best_69 : decode cX7_best 69 = .ok (.istore 4, 2) := by decide +kernel
theorem dX7_best_71 : decode cX7_best 71 = .ok (.iload 5, 2) := by decide +kernel
theorem dX7_best_73 : decode cX7_best 73 = .ok (.istore_n 3, 1) := by decide +kernel
theorem dX7_best_74 : decode cX7_best 74 = .ok (.iinc 5 1, 3) := by decide +kernel
theorem dX7_best_77 : decode cX7_best 77 = .ok (.goto (-42), 3) := by decide +kernel
theorem dX7_best_80 : decode cX7_best 80 = .ok (.iload_n 1, 1) := by decide +kernel
theorem dX7_best_81 : decode cX7_best 81 = .ok (.ifCond .ne 7, 3) := by decide +kernel
theorem dX7_best_84 : decode cX7_best 84 = .ok (.iload_n 3, 1) := by decide +kernel
theorem dX7_best_85 : decode cX7_best 85 = .ok (.goto 5, 3) := by decide +kernel
theorem dX7_best_88 : decode cX7_best 88 = .ok (.iload 4, 2) := by decide +kernel
theorem dX7_best_90 : decode cX7_best 90 = .ok (.ireturn, 1) := by decide +kernel
theorem dX7_tower_0 : decode cX7_tower 0 = .ok (.iload_n 1, 1) := by decide +kernel
theorem dX7_tower_1 : decode cX7_tower 1 = .ok (.invokestatic 54, 3) := by decide +kernel
theorem dX7_tower_4 : decode cX7_tower 4 = .ok (.ifCond .eq 15, 3) := by decide +kernel
theorem dX7_tower_7 : decode cX7_tower 7 = .ok (.iload_n 2, 1) := by decide +kernel
theorem dX7_tower_8 : decode cX7_tower 8 = .ok (.invokestatic 54, 3) := by decide +kernel
theorem dX7_tower_11 : decode cX7_tower 11 = .ok (.ifCond .eq 8, 3) := by decide +kernel
theorem dX7_tower_14 : decode cX7_tower 14 = .ok (.iload_n 1, 1) := by decide +kernel
theorem dX7_tower_15 : decode cX7_tower 15 = .ok (.iload_n 2, 1) := by decide +kernel
theorem dX7_tower_16 : decode cX7_tower 16 = .ok (.if_icmp .ne 9, 3) := by decide +kernel
theorem dX7_tower_19 : decode cX7_tower 19 = .ok (.aload_n 0, 1) := by decide +kernel
theorem dX7_tower_20 : decode cX7_tower 20 = .ok (.iconst 1, 1) := by decide +kernel
theorem dX7_tower_21 : decode cX7_tower 21 = .ok (.invokevirtual 62, 3) := by decide +kernel
theorem dX7_tower_24 : decode cX7_tower 24 = .ok (.ireturn, 1) := by decide +kernel
theorem dX7_tower_25 : decode cX7_tower 25 = .ok (.aload_n 0, 1) := by decide +kernel
theorem dX7_tower_26 : decode cX7_tower 26 = .ok (.getfield 10, 3) := by decide +kernel
theorem dX7_tower_29 : decode cX7_tower 29 = .ok (.getfield 66, 3) := by decide +kernel
theorem dX7_tower_32 : decode cX7_tower 32 = .ok (.iconst 0, 1) := by decide +kernel
theorem dX7_tower_33 : decode cX7_tower 33 = .ok (.invokevirtual 78, 3) := by decide +kernel
theorem dX7_tower_36 : decode cX7_tower 36 = .ok (.istore_n 3, 1) := by decide +kernel
theorem dX7_tower_37 : decode cX7_tower 37 = .ok (.iconst 0, 1) := by decide +kernel
theorem dX7_tower_38 : decode cX7_tower 38 = .ok (.istore 4, 2) := by decide +kernel
theorem dX7_tower_40 : decode cX7_tower 40 = .ok (.iload 4, 2) := by decide +kernel
theorem dX7_tower_42 : decode cX7_tower 42 = .ok (.bipush 40, 2) := by decide +kernel
theorem dX7_tower_44 : decode cX7_tower 44 = .ok (.if_icmp .gt 30, 3) := by decide +kernel
theorem dX7_tower_47 : decode cX7_tower 47 = .ok (.aload_n 0, 1) := by decide +kernel
theorem dX7_tower_48 : decode cX7_tower 48 = .ok (.getfield 10, 3) := by decide +kernel
theorem dX7_tower_51 : decode cX7_tower 51 = .ok (.getfield 66, 3) := by decide +kernel
theorem dX7_tower_54 : decode cX7_tower 54 = .ok (.iload_n 1, 1) := by decide +kernel
theorem dX7_tower_55 : decode cX7_tower 55 = .ok (.iload_n 2, 1) := by decide +kernel
theorem dX7_tower_56 : decode cX7_tower 56 = .ok (.iload 4, 2) := by decide +kernel
theorem dX7_tower_58 : decode cX7_tower 58 = .ok (.iload_n 3, 1) := by decide +kernel
theorem dX7_tower_59 : decode cX7_tower 59 = .ok (.invokevirtual 222, 3) := by decide +kernel
theorem dX7_tower_62 : decode cX7_tower 62 = .ok (.ifCond .eq 6, 3) := by decide +kernel
theorem dX7_tower_65 : decode cX7_tower 65 = .ok (.iload 4, 2) := by decide +kernel
theorem dX7_tower_67 : decode cX7_tower 67 = .ok (.ireturn, 1) := by decide +kernel
theorem dX7_tower_68 : decode cX7_tower 68 = .ok (.iinc 4 1, 3) := by decide +kernel
theorem dX7_tower_71 : decode cX7_tower 71 = .ok (.goto (-31), 3) := by decide +kernel
theorem dX7_tower_74 : decode cX7_tower 74 = .ok (.aload_n 0, 1) := by decide +kernel
theorem dX7_tower_75 : decode cX7_tower 75 = .ok (.iconst 2, 1) := by decide +kernel
theorem dX7_tower_76 : decode cX7_tower 76 = .ok (.invokevirtual 62, 3) := by decide +kernel
theorem dX7_tower_79 : decode cX7_tower 79 = .ok (.ireturn, 1) := by decide +kernel
theorem dX7_mutual_0 : decode cX7_mutual 0 = .ok (.aload_n 0, 1) := by decide +kernel
theorem dX7_mutual_1 : decode cX7_mutual 1 = .ok (.getfield 10, 3) := by decide +kernel
theorem dX7_mutual_4 : decode cX7_mutual 4 = .ok (.getfield 66, 3) := by decide +kernel
theorem dX7_mutual_7 : decode cX7_mutual 7 = .ok (.iconst 0, 1) := by decide +kernel
theorem dX7_mutual_8 : decode cX7_mutual 8 = .ok (.invokevirtual 78, 3) := by decide +kernel
theorem dX7_mutual_11 : decode cX7_mutual 11 = .ok (.istore_n 1, 1) := by decide +kernel
theorem dX7_mutual_12 : decode cX7_mutual 12 = .ok (.iconst 0, 1) := by decide +kernel
theorem dX7_mutual_13 : decode cX7_mutual 13 = .ok (.istore_n 2, 1) := by decide +kernel
theorem dX7_mutual_14 : decode cX7_mutual 14 = .ok (.iconst 0, 1) := by decide +kernel
theorem dX7_mutual_15 : decode cX7_mutual 15 = .ok (.istore_n 3, 1) := by decide +kernel
theorem dX7_mutual_16 : decode cX7_mutual 16 = .ok (.iload_n 3, 1) := by decide +kernel
theorem dX7_mutual_17 : decode cX7_mutual 17 = .ok (.aload_n 0, 1) := by decide +kernel
theorem dX7_mutual_18 : decode cX7_mutual 18 = .ok (.getfield 10, 3) := by decide +kernel
theorem dX7_mutual_21 : decode cX7_mutual 21 = .ok (.getfield 97, 3) := by decide +kernel
theorem dX7_mutual_24 : decode cX7_mutual 24 = .ok (.if_icmp .ge 96, 3) := by decide +kernel
theorem dX7_mutual_27 : decode cX7_mutual 27 = .ok (.iload_n 3, 1) := by decide +kernel
theorem dX7_mutual_28 : decode cX7_mutual 28 = .ok (.iconst 1, 1) := by decide +kernel
theorem dX7_mutual_29 : decode cX7_mutual 29 = .ok (.iadd, 1) := by decide +kernel
theorem dX7_mutual_30 : decode cX7_mutual 30 = .ok (.istore 4, 2) := by decide +kernel
theorem dX7_mutual_32 : decode cX7_mutual 32 = .ok (.iload 4, 2) := by decide +kernel
theorem dX7_mutual_34 : decode cX7_mutual 34 = .ok (.aload_n 0, 1) := by decide +kernel
theorem dX7_mutual_35 : decode cX7_mutual 35 = .ok (.getfield 10, 3) := by decide +kernel
theorem dX7_mutual_38 : decode cX7_mutual 38 = .ok (.getfield 97, 3) := by decide +kernel
theorem dX7_mutual_41 : decode cX7_mutual 41 = .ok (.if_icmp .ge 73, 3) := by decide +kernel
theorem dX7_mutual_44 : decode cX7_mutual 44 = .ok (.aload_n 0, 1) := by decide +kernel
theorem dX7_mutual_45 : decode cX7_mutual 45 = .ok (.getfield 10, 3) := by decide +kernel
theorem dX7_mutual_48 : decode cX7_mutual 48 = .ok (.getfield 100, 3) := by decide +kernel
theorem dX7_mutual_51 : decode cX7_mutual 51 = .ok (.iload_n 3, 1) := by decide +kernel
theorem dX7_mutual_52 : decode cX7_mutual 52 = .ok (.iaload, 1) := by decide +kernel
theorem dX7_mutual_53 : decode cX7_mutual 53 = .ok (.istore 5, 2) := by decide +kernel
theorem dX7_mutual_55 : decode cX7_mutual 55 = .ok (.aload_n 0, 1) := by decide +kernel
theorem dX7_mutual_56 : decode cX7_mutual 56 = .ok (.getfield 10, 3) := by decide +kernel
theorem dX7_mutual_59 : decode cX7_mutual 59 = .ok (.getfield 100, 3) := by decide +kernel
theorem dX7_mutual_62 : decode cX7_mutual 62 = .ok (.iload 4, 2) := by decide +kernel
theorem dX7_mutual_64 : decode cX7_mutual 64 = .ok (.iaload, 1) := by decide +kernel
theorem dX7_mutual_65 : decode cX7_mutual 65 = .ok (.istore 6, 2) := by decide +kernel
theorem dX7_mutual_67 : decode cX7_mutual 67 = .ok (.aload_n 0, 1) := by decide +kernel
theorem dX7_mutual_68 : decode cX7_mutual 68 = .ok (.getfield 10, 3) := by decide +kernel
theorem dX7_mutual_71 : decode cX7_mutual 71 = .ok (.getfield 66, 3) := by decide +kernel
theorem dX7_mutual_74 : decode cX7_mutual 74 = .ok (.iload 5, 2) := by decide +kernel
theorem dX7_mutual_76 : decode cX7_mutual 76 = .ok (.iload 6, 2) := by decide +kernel
theorem dX7_mutual_78 : decode cX7_mutual 78 = .ok (.iconst 0, 1) := by decide +kernel
theorem dX7_mutual_79 : decode cX7_mutual 79 = .ok (.iload_n 1, 1) := by decide +kernel
theorem dX7_mutual_80 : decode cX7_mutual 80 = .ok (.invokevirtual 222, 3) := by decide +kernel
theorem dX7_mutual_83 : decode cX7_mutual 83 = .ok (.ifCond .eq 25, 3) := by decide +kernel
theorem dX7_mutual_86 : decode cX7_mutual 86 = .ok (.aload_n 0, 1) := by decide +kernel
theorem dX7_mutual_87 : decode cX7_mutual 87 = .ok (.getfield 10, 3) := by decide +kernel
theorem dX7_mutual_90 : decode cX7_mutual 90 = .ok (.getfield 66, 3) := by decide +kernel
theorem dX7_mutual_93 : decode cX7_mutual 93 = .ok (.iload 6, 2) := by decide +kernel
theorem dX7_mutual_95 : decode cX7_mutual 95 = .ok (.iload 5, 2) := by decide +kernel
theorem dX7_mutual_97 : decode cX7_mutual 97 = .ok (.iconst 0, 1) := by decide +kernel
theorem dX7_mutual_98 : decode cX7_mutual 98 = .ok (.iload_n 1, 1) := by decide +kernel
theorem dX7_mutual_99 : decode cX7_mutual 99 = .ok (.invokevirtual 222, 3) := by decide +kernel
theorem dX7_mutual_102 : decode cX7_mutual 102 = .ok (.ifCond .eq 6, 3) := by decide +kernel
theorem dX7_mutual_105 : decode cX7_mutual 105 = .ok (.iinc 2 1, 3) := by decide +kernel
theorem dX7_mutual_108 : decode cX7_mutual 108 = .ok (.iinc 4 1, 3) := by decide +kernel
theorem dX7_mutual_111 : decode cX7_mutual 111 = .ok (.goto (-79), 3) := by decide +kernel
theorem dX7_mutual_114 : decode cX7_mutual 114 = .ok (.iinc 3 1, 3) := by decide +kernel
theorem dX7_mutual_117 : decode cX7_mutual 117 = .ok (.goto (-101), 3) := by decide +kernel
theorem dX7_mutual_120 : decode cX7_mutual 120 = .ok (.iload_n 2, 1) := by decide +kernel
theorem dX7_mutual_121 : decode cX7_mutual 121 = .ok (.ireturn, 1) := by decide +kernel
theorem dX7_unseen_0 : decode cX7_unseen 0 = .ok (.aload_n 0, 1) := by decide +kernel
theorem dX7_unseen_1 : decode cX7_unseen 1 = .ok (.getfield 10, 3) := by decide +kernel
theorem dX7_unseen_4 : decode cX7_unseen 4 = .ok (.iconst 0, 1) := by decide +kernel
theorem dX7_unseen_5 : decode cX7_unseen 5 = .ok (.invokevirtual 226, 3) := by decide +kernel
theorem dX7_unseen_8 : decode cX7_unseen 8 = .ok (.aload_n 0, 1) := by decide +kernel
theorem dX7_unseen_9 : decode cX7_unseen 9 = .ok (.getfield 10, 3) := by decide +kernel
theorem dX7_unseen_12 : decode cX7_unseen 12 = .ok (.iconst 1, 1) := by decide +kernel
theorem dX7_unseen_13 : decode cX7_unseen 13 = .ok (.invokevirtual 226, 3) := by decide +kernel
theorem dX7_unseen_16 : decode cX7_unseen 16 = .ok (.ior, 1) := by decide +kernel
theorem dX7_unseen_17 : decode cX7_unseen 17 = .ok (.istore_n 1, 1) := by decide +kernel
theorem dX7_unseen_18 : decode cX7_unseen 18 = .ok (.iconst 0, 1) := by decide +kernel
theorem dX7_unseen_19 : decode cX7_unseen 19 = .ok (.istore_n 2, 1) := by decide +kernel
theorem dX7_unseen_20 : decode cX7_unseen 20 = .ok (.iload_n 2, 1) := by decide +kernel
theorem dX7_unseen_21 : decode cX7_unseen 21 = .ok (.aload_n 0, 1) := by decide +kernel
theorem dX7_unseen_22 : decode cX7_unseen 22 = .ok (.getfield 10, 3) := by decide +kernel
theorem dX7_unseen_25 : decode cX7_unseen 25 = .ok (.getfield 97, 3) := by decide +kernel
theorem dX7_unseen_28 : decode cX7_unseen 28 = .ok (.if_icmp .ge 23, 3) := by decide +kernel
theorem dX7_unseen_31 : decode cX7_unseen 31 = .ok (.iload_n 1, 1) := by decide +kernel
theorem dX7_unseen_32 : decode cX7_unseen 32 = .ok (.iconst 1, 1) := by decide +kernel
theorem dX7_unseen_33 : decode cX7_unseen 33 = .ok (.aload_n 0, 1) := by decide +kernel
theorem dX7_unseen_34 : decode cX7_unseen 34 = .ok (.getfield 10, 3) := by decide +kernel
theorem dX7_unseen_37 : decode cX7_unseen 37 = .ok (.getfield 100, 3) := by decide +kernel
theorem dX7_unseen_40 : decode cX7_unseen 40 = .ok (.iload_n 2, 1) := by decide +kernel
theorem dX7_unseen_41 : decode cX7_unseen 41 = .ok (.iaload, 1) := by decide +kernel
theorem dX7_unseen_42 : decode cX7_unseen 42 = .ok (.ishl, 1) := by decide +kernel
theorem dX7_unseen_43 : decode cX7_unseen 43 = .ok (.ior, 1) := by decide +kernel
theorem dX7_unseen_44 : decode cX7_unseen 44 = .ok (.istore_n 1, 1) := by decide +kernel
theorem dX7_unseen_45 : decode cX7_unseen 45 = .ok (.iinc 2 1, 3) := by decide +kernel
theorem dX7_unseen_48 : decode cX7_unseen 48 = .ok (.goto (-28), 3) := by decide +kernel
theorem dX7_unseen_51 : decode cX7_unseen 51 = .ok (.ldc 229, 2) := by decide +kernel
theorem dX7_unseen_53 : decode cX7_unseen 53 = .ok (.iload_n 1, 1) := by decide +kernel
theorem dX7_unseen_54 : decode cX7_unseen 54 = .ok (.iconst (-1), 1) := by decide +kernel
theorem dX7_unseen_55 : decode cX7_unseen 55 = .ok (.ixor, 1) := by decide +kernel
theorem dX7_unseen_56 : decode cX7_unseen 56 = .ok (.iand, 1) := by decide +kernel
theorem dX7_unseen_57 : decode cX7_unseen 57 = .ok (.ireturn, 1) := by decide +kernel
theorem dX7_cover_0 : decode cX7_cover 0 = .ok (.iload_n 1, 1) := by decide +kernel
theorem dX7_cover_1 : decode cX7_cover 1 = .ok (.iconst 0, 1) := by decide +kernel
theorem dX7_cover_2 : decode cX7_cover 2 = .ok (.ldc 229, 2) := by decide +kernel
theorem dX7_cover_4 : decode cX7_cover 4 = .ok (.invokestatic 58, 3) := by decide +kernel
theorem dX7_cover_7 : decode cX7_cover 7 = .ok (.ifCond .ne 9, 3) := by decide +kernel
theorem dX7_cover_10 : decode cX7_cover 10 = .ok (.aload_n 0, 1) := by decide +kernel
theorem dX7_cover_11 : decode cX7_cover 11 = .ok (.iconst 1, 1) := by decide +kernel
theorem dX7_cover_12 : decode cX7_cover 12 = .ok (.invokevirtual 62, 3) := by decide +kernel
theorem dX7_cover_15 : decode cX7_cover 15 = .ok (.ireturn, 1) := by decide +kernel
theorem dX7_cover_16 : decode cX7_cover 16 = .ok (.aload_n 0, 1) := by decide +kernel
theorem dX7_cover_17 : decode cX7_cover 17 = .ok (.invokevirtual 230, 3) := by decide +kernel
theorem dX7_cover_20 : decode cX7_cover 20 = .ok (.iconst (-1), 1) := by decide +kernel
theorem dX7_cover_21 : decode cX7_cover 21 = .ok (.istore_n 2, 1) := by decide +kernel
theorem dX7_cover_22 : decode cX7_cover 22 = .ok (.iconst 0, 1) := by decide +kernel
theorem dX7_cover_23 : decode cX7_cover 23 = .ok (.istore_n 3, 1) := by decide +kernel
theorem dX7_cover_24 : decode cX7_cover 24 = .ok (.iload_n 3, 1) := by decide +kernel
theorem dX7_cover_25 : decode cX7_cover 25 = .ok (.iconst 1, 1) := by decide +kernel
theorem dX7_cover_26 : decode cX7_cover 26 = .ok (.aload_n 0, 1) := by decide +kernel
theorem dX7_cover_27 : decode cX7_cover 27 = .ok (.getfield 10, 3) := by decide +kernel
theorem dX7_cover_30 : decode cX7_cover 30 = .ok (.getfield 115, 3) := by decide +kernel
theorem dX7_cover_33 : decode cX7_cover 33 = .ok (.ishl, 1) := by decide +kernel
theorem dX7_cover_34 : decode cX7_cover 34 = .ok (.if_icmp .ge 50, 3) := by decide +kernel
theorem dX7_cover_37 : decode cX7_cover 37 = .ok (.iload_n 2, 1) := by decide +kernel
theorem dX7_cover_38 : decode cX7_cover 38 = .ok (.ifCond .lt 14, 3) := by decide +kernel
theorem dX7_cover_41 : decode cX7_cover 41 = .ok (.iload_n 3, 1) := by decide +kernel
theorem dX7_cover_42 : decode cX7_cover 42 = .ok (.invokestatic 89, 3) := by decide +kernel
theorem dX7_cover_45 : decode cX7_cover 45 = .ok (.iload_n 2, 1) := by decide +kernel
theorem dX7_cover_46 : decode cX7_cover 46 = .ok (.invokestatic 89, 3) := by decide +kernel
theorem dX7_cover_49 : decode cX7_cover 49 = .ok (.if_icmp .ge 7, 3) := by decide +kernel
theorem dX7_cover_52 : decode cX7_cover 52 = .ok (.iconst 1, 1) := by decide +kernel
theorem dX7_cover_53 : decode cX7_cover 53 = .ok (.goto 4, 3) := by decide +kernel
theorem dX7_cover_56 : decode cX7_cover 56 = .ok (.iconst 0, 1) := by decide +kernel
theorem dX7_cover_57 : decode cX7_cover 57 = .ok (.istore 4, 2) := by decide +kernel
theorem dX7_cover_59 : decode cX7_cover 59 = .ok (.iload 4, 2) := by decide +kernel
theorem dX7_cover_61 : decode cX7_cover 61 = .ok (.ifCond .eq 17, 3) := by decide +kernel
theorem dX7_cover_64 : decode cX7_cover 64 = .ok (.iload_n 1, 1) := by decide +kernel
theorem dX7_cover_65 : decode cX7_cover 65 = .ok (.aload_n 0, 1) := by decide +kernel
theorem dX7_cover_66 : decode cX7_cover 66 = .ok (.iload_n 3, 1) := by decide +kernel
theorem dX7_cover_67 : decode cX7_cover 67 = .ok (.invokevirtual 233, 3) := by decide +kernel
theorem dX7_cover_70 : decode cX7_cover 70 = .ok (.iconst (-1), 1) := by decide +kernel
theorem dX7_cover_71 : decode cX7_cover 71 = .ok (.ixor, 1) := by decide +kernel
theorem dX7_cover_72 : decode cX7_cover 72 = .ok (.iand, 1) := by decide +kernel
theorem dX7_cover_73 : decode cX7_cover 73 = .ok (.ifCond .ne 5, 3) := by decide +kernel
theorem dX7_cover_76 : decode cX7_cover 76 = .ok (.iload_n 3, 1) := by decide +kernel
theorem dX7_cover_77 : decode cX7_cover 77 = .ok (.istore_n 2, 1) := by decide +kernel
theorem dX7_cover_78 : decode cX7_cover 78 = .ok (.iinc 3 1, 3) := by decide +kernel
theorem dX7_cover_81 : decode cX7_cover 81 = .ok (.goto (-57), 3) := by decide +kernel
theorem dX7_cover_84 : decode cX7_cover 84 = .ok (.iload_n 2, 1) := by decide +kernel
theorem dX7_cover_85 : decode cX7_cover 85 = .ok (.ifCond .ge 11, 3) := by decide +kernel
theorem dX7_cover_88 : decode cX7_cover 88 = .ok (.aload_n 0, 1) := by decide +kernel
theorem dX7_cover_89 : decode cX7_cover 89 = .ok (.iconst 2, 1) := by decide +kernel
theorem dX7_cover_90 : decode cX7_cover 90 = .ok (.invokevirtual 62, 3) := by decide +kernel
theorem dX7_cover_93 : decode cX7_cover 93 = .ok (.goto 4, 3) := by decide +kernel
theorem dX7_cover_96 : decode cX7_cover 96 = .ok (.iload_n 2, 1) := by decide +kernel
theorem dX7_cover_97 : decode cX7_cover 97 = .ok (.ireturn, 1) := by decide +kernel
theorem dX7_keeps_0 : decode cX7_keeps 0 = .ok (.iload_n 1, 1) := by decide +kernel
theorem dX7_keeps_1 : decode cX7_keeps 1 = .ok (.iconst 0, 1) := by decide +kernel
theorem dX7_keeps_2 : decode cX7_keeps 2 = .ok (.iconst 1, 1) := by decide +kernel
theorem dX7_keeps_3 : decode cX7_keeps 3 = .ok (.invokestatic 58, 3) := by decide +kernel
theorem dX7_keeps_6 : decode cX7_keeps 6 = .ok (.ifCond .ne 9, 3) := by decide +kernel
theorem dX7_keeps_9 : decode cX7_keeps 9 = .ok (.aload_n 0, 1) := by decide +kernel
theorem dX7_keeps_10 : decode cX7_keeps 10 = .ok (.iconst 1, 1) := by decide +kernel
theorem dX7_keeps_11 : decode cX7_keeps 11 = .ok (.invokevirtual 62, 3) := by decide +kernel
theorem dX7_keeps_14 : decode cX7_keeps 14 = .ok (.ireturn, 1) := by decide +kernel
theorem dX7_keeps_15 : decode cX7_keeps 15 = .ok (.aload_n 0, 1) := by decide +kernel
theorem dX7_keeps_16 : decode cX7_keeps 16 = .ok (.invokevirtual 230, 3) := by decide +kernel
theorem dX7_keeps_19 : decode cX7_keeps 19 = .ok (.aload_n 0, 1) := by decide +kernel
theorem dX7_keeps_20 : decode cX7_keeps 20 = .ok (.invokevirtual 236, 3) := by decide +kernel
theorem dX7_keeps_23 : decode cX7_keeps 23 = .ok (.iconst 0, 1) := by decide +kernel
theorem dX7_keeps_24 : decode cX7_keeps 24 = .ok (.istore_n 2, 1) := by decide +kernel
theorem dX7_keeps_25 : decode cX7_keeps 25 = .ok (.iconst 0, 1) := by decide +kernel
theorem dX7_keeps_26 : decode cX7_keeps 26 = .ok (.istore_n 3, 1) := by decide +kernel
theorem dX7_keeps_27 : decode cX7_keeps 27 = .ok (.iconst 0, 1) := by decide +kernel
theorem dX7_keeps_28 : decode cX7_keeps 28 = .ok (.istore 4, 2) := by decide +kernel
theorem dX7_keeps_30 : decode cX7_keeps 30 = .ok (.iload 4, 2) := by decide +kernel
theorem dX7_keeps_32 : decode cX7_keeps 32 = .ok (.iconst 1, 1) := by decide +kernel
theorem dX7_keeps_33 : decode cX7_keeps 33 = .ok (.aload_n 0, 1) := by decide +kernel
theorem dX7_keeps_34 : decode cX7_keeps 34 = .ok (.getfield 10, 3) := by decide +kernel
