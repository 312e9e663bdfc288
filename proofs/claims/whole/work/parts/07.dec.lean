theorem dX8_all_17 : decode cX8_all 17 = .ok (.if_icmp .ne 27, 3) := by decide +kernel
theorem dX8_all_20 : decode cX8_all 20 = .ok (.aload_n 0, 1) := by decide +kernel
theorem dX8_all_21 : decode cX8_all 21 = .ok (.dup, 1) := by decide +kernel
theorem dX8_all_22 : decode cX8_all 22 = .ok (.getfield 128, 3) := by decide +kernel
theorem dX8_all_25 : decode cX8_all 25 = .ok (.iconst 1, 1) := by decide +kernel
theorem dX8_all_26 : decode cX8_all 26 = .ok (.iadd, 1) := by decide +kernel
theorem dX8_all_27 : decode cX8_all 27 = .ok (.putfield 128, 3) := by decide +kernel
theorem dX8_all_30 : decode cX8_all 30 = .ok (.aload_n 0, 1) := by decide +kernel
theorem dX8_all_31 : decode cX8_all 31 = .ok (.invokevirtual 175, 3) := by decide +kernel
theorem dX8_all_34 : decode cX8_all 34 = .ok (.aload_n 0, 1) := by decide +kernel
theorem dX8_all_35 : decode cX8_all 35 = .ok (.bipush 38, 2) := by decide +kernel
theorem dX8_all_37 : decode cX8_all 37 = .ok (.iconst 0, 1) := by decide +kernel
theorem dX8_all_38 : decode cX8_all 38 = .ok (.invokevirtual 146, 3) := by decide +kernel
theorem dX8_all_41 : decode cX8_all 41 = .ok (.goto (-37), 3) := by decide +kernel
theorem dX8_all_44 : decode cX8_all 44 = .ok (.return_, 1) := by decide +kernel
theorem dX8_any_0 : decode cX8_any 0 = .ok (.aload_n 0, 1) := by decide +kernel
theorem dX8_any_1 : decode cX8_any 1 = .ok (.invokevirtual 178, 3) := by decide +kernel
theorem dX8_any_4 : decode cX8_any 4 = .ok (.aload_n 0, 1) := by decide +kernel
theorem dX8_any_5 : decode cX8_any 5 = .ok (.getfield 142, 3) := by decide +kernel
theorem dX8_any_8 : decode cX8_any 8 = .ok (.ifCond .ne 36, 3) := by decide +kernel
theorem dX8_any_11 : decode cX8_any 11 = .ok (.aload_n 0, 1) := by decide +kernel
theorem dX8_any_12 : decode cX8_any 12 = .ok (.invokevirtual 138, 3) := by decide +kernel
theorem dX8_any_15 : decode cX8_any 15 = .ok (.bipush 124, 2) := by decide +kernel
theorem dX8_any_17 : decode cX8_any 17 = .ok (.if_icmp .ne 27, 3) := by decide +kernel
theorem dX8_any_20 : decode cX8_any 20 = .ok (.aload_n 0, 1) := by decide +kernel
theorem dX8_any_21 : decode cX8_any 21 = .ok (.dup, 1) := by decide +kernel
theorem dX8_any_22 : decode cX8_any 22 = .ok (.getfield 128, 3) := by decide +kernel
theorem dX8_any_25 : decode cX8_any 25 = .ok (.iconst 1, 1) := by decide +kernel
theorem dX8_any_26 : decode cX8_any 26 = .ok (.iadd, 1) := by decide +kernel
theorem dX8_any_27 : decode cX8_any 27 = .ok (.putfield 128, 3) := by decide +kernel
theorem dX8_any_30 : decode cX8_any 30 = .ok (.aload_n 0, 1) := by decide +kernel
theorem dX8_any_31 : decode cX8_any 31 = .ok (.invokevirtual 178, 3) := by decide +kernel
theorem dX8_any_34 : decode cX8_any 34 = .ok (.aload_n 0, 1) := by decide +kernel
theorem dX8_any_35 : decode cX8_any 35 = .ok (.bipush 124, 2) := by decide +kernel
theorem dX8_any_37 : decode cX8_any 37 = .ok (.iconst 0, 1) := by decide +kernel
theorem dX8_any_38 : decode cX8_any 38 = .ok (.invokevirtual 146, 3) := by decide +kernel
theorem dX8_any_41 : decode cX8_any 41 = .ok (.goto (-37), 3) := by decide +kernel
theorem dX8_any_44 : decode cX8_any 44 = .ok (.return_, 1) := by decide +kernel
theorem dX8_text_0 : decode cX8_text 0 = .ok (.iload_n 1, 1) := by decide +kernel
theorem dX8_text_1 : decode cX8_text 1 = .ok (.iconst 0, 1) := by decide +kernel
theorem dX8_text_2 : decode cX8_text 2 = .ok (.iconst 1, 1) := by decide +kernel
theorem dX8_text_3 : decode cX8_text 3 = .ok (.invokestatic 47, 3) := by decide +kernel
theorem dX8_text_6 : decode cX8_text 6 = .ok (.ifCond .ne 10, 3) := by decide +kernel
theorem dX8_text_9 : decode cX8_text 9 = .ok (.aload_n 0, 1) := by decide +kernel
theorem dX8_text_10 : decode cX8_text 10 = .ok (.ldc 72, 2) := by decide +kernel
theorem dX8_text_12 : decode cX8_text 12 = .ok (.invokevirtual 73, 3) := by decide +kernel
theorem dX8_text_15 : decode cX8_text 15 = .ok (.ireturn, 1) := by decide +kernel
theorem dX8_text_16 : decode cX8_text 16 = .ok (.aload_n 0, 1) := by decide +kernel
theorem dX8_text_17 : decode cX8_text 17 = .ok (.iload_n 1, 1) := by decide +kernel
theorem dX8_text_18 : decode cX8_text 18 = .ok (.putfield 135, 3) := by decide +kernel
theorem dX8_text_21 : decode cX8_text 21 = .ok (.aload_n 0, 1) := by decide +kernel
theorem dX8_text_22 : decode cX8_text 22 = .ok (.iconst 0, 1) := by decide +kernel
theorem dX8_text_23 : decode cX8_text 23 = .ok (.putfield 132, 3) := by decide +kernel
theorem dX8_text_26 : decode cX8_text 26 = .ok (.aload_n 0, 1) := by decide +kernel
theorem dX8_text_27 : decode cX8_text 27 = .ok (.iconst 0, 1) := by decide +kernel
theorem dX8_text_28 : decode cX8_text 28 = .ok (.putfield 128, 3) := by decide +kernel
theorem dX8_text_31 : decode cX8_text 31 = .ok (.aload_n 0, 1) := by decide +kernel
theorem dX8_text_32 : decode cX8_text 32 = .ok (.iconst 0, 1) := by decide +kernel
theorem dX8_text_33 : decode cX8_text 33 = .ok (.putfield 150, 3) := by decide +kernel
theorem dX8_text_36 : decode cX8_text 36 = .ok (.aload_n 0, 1) := by decide +kernel
theorem dX8_text_37 : decode cX8_text 37 = .ok (.iconst 0, 1) := by decide +kernel
theorem dX8_text_38 : decode cX8_text 38 = .ok (.putfield 142, 3) := by decide +kernel
theorem dX8_text_41 : decode cX8_text 41 = .ok (.aload_n 0, 1) := by decide +kernel
theorem dX8_text_42 : decode cX8_text 42 = .ok (.invokevirtual 156, 3) := by decide +kernel
theorem dX8_text_45 : decode cX8_text 45 = .ok (.aload_n 0, 1) := by decide +kernel
theorem dX8_text_46 : decode cX8_text 46 = .ok (.aload_n 0, 1) := by decide +kernel
theorem dX8_text_47 : decode cX8_text 47 = .ok (.getfield 142, 3) := by decide +kernel
theorem dX8_text_50 : decode cX8_text 50 = .ok (.ifCond .ne 16, 3) := by decide +kernel
theorem dX8_text_53 : decode cX8_text 53 = .ok (.aload_n 0, 1) := by decide +kernel
theorem dX8_text_54 : decode cX8_text 54 = .ok (.getfield 128, 3) := by decide +kernel
theorem dX8_text_57 : decode cX8_text 57 = .ok (.aload_n 0, 1) := by decide +kernel
theorem dX8_text_58 : decode cX8_text 58 = .ok (.getfield 9, 3) := by decide +kernel
theorem dX8_text_61 : decode cX8_text 61 = .ok (.iconst 4, 1) := by decide +kernel
theorem dX8_text_62 : decode cX8_text 62 = .ok (.iaload, 1) := by decide +kernel
theorem dX8_text_63 : decode cX8_text 63 = .ok (.if_icmp .ge 7, 3) := by decide +kernel
theorem dX8_text_66 : decode cX8_text 66 = .ok (.iconst 1, 1) := by decide +kernel
theorem dX8_text_67 : decode cX8_text 67 = .ok (.goto 4, 3) := by decide +kernel
theorem dX8_text_70 : decode cX8_text 70 = .ok (.iconst 0, 1) := by decide +kernel
theorem dX8_text_71 : decode cX8_text 71 = .ok (.putfield 142, 3) := by decide +kernel
theorem dX8_text_74 : decode cX8_text 74 = .ok (.aload_n 0, 1) := by decide +kernel
theorem dX8_text_75 : decode cX8_text 75 = .ok (.getfield 9, 3) := by decide +kernel
theorem dX8_text_78 : decode cX8_text 78 = .ok (.iconst 4, 1) := by decide +kernel
theorem dX8_text_79 : decode cX8_text 79 = .ok (.iconst 0, 1) := by decide +kernel
theorem dX8_text_80 : decode cX8_text 80 = .ok (.iastore, 1) := by decide +kernel
theorem dX8_text_81 : decode cX8_text 81 = .ok (.aload_n 0, 1) := by decide +kernel
theorem dX8_text_82 : decode cX8_text 82 = .ok (.getfield 142, 3) := by decide +kernel
theorem dX8_text_85 : decode cX8_text 85 = .ok (.ifCond .eq 11, 3) := by decide +kernel
theorem dX8_text_88 : decode cX8_text 88 = .ok (.bipush (-10), 2) := by decide +kernel
theorem dX8_text_90 : decode cX8_text 90 = .ok (.aload_n 0, 1) := by decide +kernel
theorem dX8_text_91 : decode cX8_text 91 = .ok (.getfield 128, 3) := by decide +kernel
theorem dX8_text_94 : decode cX8_text 94 = .ok (.isub, 1) := by decide +kernel
theorem dX8_text_95 : decode cX8_text 95 = .ok (.ireturn, 1) := by decide +kernel
theorem dX8_text_96 : decode cX8_text 96 = .ok (.sipush 169, 3) := by decide +kernel
theorem dX8_text_99 : decode cX8_text 99 = .ok (.bipush 101, 2) := by decide +kernel
theorem dX8_text_101 : decode cX8_text 101 = .ok (.iload_n 1, 1) := by decide +kernel
theorem dX8_text_102 : decode cX8_text 102 = .ok (.imul, 1) := by decide +kernel
theorem dX8_text_103 : decode cX8_text 103 = .ok (.iadd, 1) := by decide +kernel
theorem dX8_text_104 : decode cX8_text 104 = .ok (.istore_n 2, 1) := by decide +kernel
theorem dX8_text_105 : decode cX8_text 105 = .ok (.aload_n 0, 1) := by decide +kernel
theorem dX8_text_106 : decode cX8_text 106 = .ok (.getfield 9, 3) := by decide +kernel
theorem dX8_text_109 : decode cX8_text 109 = .ok (.iload_n 2, 1) := by decide +kernel
theorem dX8_text_110 : decode cX8_text 110 = .ok (.aload_n 0, 1) := by decide +kernel
theorem dX8_text_111 : decode cX8_text 111 = .ok (.getfield 132, 3) := by decide +kernel
theorem dX8_text_114 : decode cX8_text 114 = .ok (.iastore, 1) := by decide +kernel
theorem dX8_text_115 : decode cX8_text 115 = .ok (.iconst 0, 1) := by decide +kernel
theorem dX8_text_116 : decode cX8_text 116 = .ok (.istore_n 3, 1) := by decide +kernel
theorem dX8_text_117 : decode cX8_text 117 = .ok (.iload_n 3, 1) := by decide +kernel
theorem dX8_text_118 : decode cX8_text 118 = .ok (.aload_n 0, 1) := by decide +kernel
theorem dX8_text_119 : decode cX8_text 119 = .ok (.getfield 132, 3) := by decide +kernel
theorem dX8_text_122 : decode cX8_text 122 = .ok (.if_icmp .ge 42, 3) := by decide +kernel
theorem dX8_text_125 : decode cX8_text 125 = .ok (.aload_n 0, 1) := by decide +kernel
theorem dX8_text_126 : decode cX8_text 126 = .ok (.getfield 9, 3) := by decide +kernel
theorem dX8_text_129 : decode cX8_text 129 = .ok (.iload_n 2, 1) := by decide +kernel
theorem dX8_text_130 : decode cX8_text 130 = .ok (.iconst 1, 1) := by decide +kernel
theorem dX8_text_131 : decode cX8_text 131 = .ok (.iadd, 1) := by decide +kernel
theorem dX8_text_132 : decode cX8_text 132 = .ok (.iload_n 3, 1) := by decide +kernel
theorem dX8_text_133 : decode cX8_text 133 = .ok (.iadd, 1) := by decide +kernel
theorem dX8_text_134 : decode cX8_text 134 = .ok (.aload_n 0, 1) := by decide +kernel
theorem dX8_text_135 : decode cX8_text 135 = .ok (.getfield 22, 3) := by decide +kernel
theorem dX8_text_138 : decode cX8_text 138 = .ok (.iload_n 3, 1) := by decide +kernel
theorem dX8_text_139 : decode cX8_text 139 = .ok (.iaload, 1) := by decide +kernel
theorem dX8_text_140 : decode cX8_text 140 = .ok (.iastore, 1) := by decide +kernel
theorem dX8_text_141 : decode cX8_text 141 = .ok (.aload_n 0, 1) := by decide +kernel
theorem dX8_text_142 : decode cX8_text 142 = .ok (.getfield 9, 3) := by decide +kernel
theorem dX8_text_145 : decode cX8_text 145 = .ok (.iload_n 2, 1) := by decide +kernel
theorem dX8_text_146 : decode cX8_text 146 = .ok (.bipush 51, 2) := by decide +kernel
theorem dX8_text_148 : decode cX8_text 148 = .ok (.iadd, 1) := by decide +kernel
theorem dX8_text_149 : decode cX8_text 149 = .ok (.iload_n 3, 1) := by decide +kernel
theorem dX8_text_150 : decode cX8_text 150 = .ok (.iadd, 1) := by decide +kernel
theorem dX8_text_151 : decode cX8_text 151 = .ok (.aload_n 0, 1) := by decide +kernel
theorem dX8_text_152 : decode cX8_text 152 = .ok (.getfield 25, 3) := by decide +kernel
theorem dX8_text_155 : decode cX8_text 155 = .ok (.iload_n 3, 1) := by decide +kernel
theorem dX8_text_156 : decode cX8_text 156 = .ok (.iaload, 1) := by decide +kernel
theorem dX8_text_157 : decode cX8_text 157 = .ok (.iastore, 1) := by decide +kernel
theorem dX8_text_158 : decode cX8_text 158 = .ok (.iinc 3 1, 3) := by decide +kernel
theorem dX8_text_161 : decode cX8_text 161 = .ok (.goto (-44), 3) := by decide +kernel
theorem dX8_text_164 : decode cX8_text 164 = .ok (.iconst 1, 1) := by decide +kernel
theorem dX8_text_165 : decode cX8_text 165 = .ok (.ireturn, 1) := by decide +kernel
theorem dX8_twoOf_0 : decode cX8_twoOf 0 = .ok (.iload_n 0, 1) := by decide +kernel
theorem dX8_twoOf_1 : decode cX8_twoOf 1 = .ok (.tableswitch 202 37 62 #[143, 188, 202, 202, 202, 127, 119, 202, 123, 202, 131, 202, 202, 202, 202, 202, 202, 202, 202, 202, 202, 202, 202, 155, 166, 177], 119) := by decide +kernel
theorem dX8_twoOf_120 : decode cX8_twoOf 120 = .ok (.iload_n 1, 1) := by decide +kernel
theorem dX8_twoOf_121 : decode cX8_twoOf 121 = .ok (.iload_n 2, 1) := by decide +kernel
theorem dX8_twoOf_122 : decode cX8_twoOf 122 = .ok (.iadd, 1) := by decide +kernel
theorem dX8_twoOf_123 : decode cX8_twoOf 123 = .ok (.ireturn, 1) := by decide +kernel
theorem dX8_twoOf_124 : decode cX8_twoOf 124 = .ok (.iload_n 1, 1) := by decide +kernel
theorem dX8_twoOf_125 : decode cX8_twoOf 125 = .ok (.iload_n 2, 1) := by decide +kernel
theorem dX8_twoOf_126 : decode cX8_twoOf 126 = .ok (.isub, 1) := by decide +kernel
theorem dX8_twoOf_127 : decode cX8_twoOf 127 = .ok (.ireturn, 1) := by decide +kernel
theorem dX8_twoOf_128 : decode cX8_twoOf 128 = .ok (.iload_n 1, 1) := by decide +kernel
theorem dX8_twoOf_129 : decode cX8_twoOf 129 = .ok (.iload_n 2, 1) := by decide +kernel
theorem dX8_twoOf_130 : decode cX8_twoOf 130 = .ok (.imul, 1) := by decide +kernel
theorem dX8_twoOf_131 : decode cX8_twoOf 131 = .ok (.ireturn, 1) := by decide +kernel
theorem dX8_twoOf_132 : decode cX8_twoOf 132 = .ok (.iload_n 2, 1) := by decide +kernel
theorem dX8_twoOf_133 : decode cX8_twoOf 133 = .ok (.ifCond .ne 7, 3) := by decide +kernel
theorem dX8_twoOf_136 : decode cX8_twoOf 136 = .ok (.iconst 0, 1) := by decide +kernel
theorem dX8_twoOf_137 : decode cX8_twoOf 137 = .ok (.goto 6, 3) := by decide +kernel
theorem dX8_twoOf_140 : decode cX8_twoOf 140 = .ok (.iload_n 1, 1) := by decide +kernel
theorem dX8_twoOf_141 : decode cX8_twoOf 141 = .ok (.iload_n 2, 1) := by decide +kernel
theorem dX8_twoOf_142 : decode cX8_twoOf 142 = .ok (.idiv, 1) := by decide +kernel
theorem dX8_twoOf_143 : decode cX8_twoOf 143 = .ok (.ireturn, 1) := by decide +kernel
theorem dX8_twoOf_144 : decode cX8_twoOf 144 = .ok (.iload_n 2, 1) := by decide +kernel
theorem dX8_twoOf_145 : decode cX8_twoOf 145 = .ok (.ifCond .ne 7, 3) := by decide +kernel
theorem dX8_twoOf_148 : decode cX8_twoOf 148 = .ok (.iconst 0, 1) := by decide +kernel
theorem dX8_twoOf_149 : decode cX8_twoOf 149 = .ok (.goto 6, 3) := by decide +kernel
theorem dX8_twoOf_152 : decode cX8_twoOf 152 = .ok (.iload_n 1, 1) := by decide +kernel
theorem dX8_twoOf_153 : decode cX8_twoOf 153 = .ok (.iload_n 2, 1) := by decide +kernel
theorem dX8_twoOf_154 : decode cX8_twoOf 154 = .ok (.irem, 1) := by decide +kernel
theorem dX8_twoOf_155 : decode cX8_twoOf 155 = .ok (.ireturn, 1) := by decide +kernel
theorem dX8_twoOf_156 : decode cX8_twoOf 156 = .ok (.iload_n 1, 1) := by decide +kernel
theorem dX8_twoOf_157 : decode cX8_twoOf 157 = .ok (.iload_n 2, 1) := by decide +kernel
theorem dX8_twoOf_158 : decode cX8_twoOf 158 = .ok (.if_icmp .ge 7, 3) := by decide +kernel
theorem dX8_twoOf_161 : decode cX8_twoOf 161 = .ok (.iconst 1, 1) := by decide +kernel
theorem dX8_twoOf_162 : decode cX8_twoOf 162 = .ok (.goto 4, 3) := by decide +kernel
theorem dX8_twoOf_165 : decode cX8_twoOf 165 = .ok (.iconst 0, 1) := by decide +kernel
theorem dX8_twoOf_166 : decode cX8_twoOf 166 = .ok (.ireturn, 1) := by decide +kernel
theorem dX8_twoOf_167 : decode cX8_twoOf 167 = .ok (.iload_n 1, 1) := by decide +kernel
theorem dX8_twoOf_168 : decode cX8_twoOf 168 = .ok (.iload_n 2, 1) := by decide +kernel
theorem dX8_twoOf_169 : decode cX8_twoOf 169 = .ok (.if_icmp .ne 7, 3) := by decide +kernel
theorem dX8_twoOf_172 : decode cX8_twoOf 172 = .ok (.iconst 1, 1) := by decide +kernel
theorem dX8_twoOf_173 : decode cX8_twoOf 173 = .ok (.goto 4, 3) := by decide +kernel
theorem dX8_twoOf_176 : decode cX8_twoOf 176 = .ok (.iconst 0, 1) := by decide +kernel
theorem dX8_twoOf_177 : decode cX8_twoOf 177 = .ok (.ireturn, 1) := by decide +kernel
theorem dX8_twoOf_178 : decode cX8_twoOf 178 = .ok (.iload_n 1, 1) := by decide +kernel
theorem dX8_twoOf_179 : decode cX8_twoOf 179 = .ok (.iload_n 2, 1) := by decide +kernel
theorem dX8_twoOf_180 : decode cX8_twoOf 180 = .ok (.if_icmp .le 7, 3) := by decide +kernel
theorem dX8_twoOf_183 : decode cX8_twoOf 183 = .ok (.iconst 1, 1) := by decide +kernel
theorem dX8_twoOf_184 : decode cX8_twoOf 184 = .ok (.goto 4, 3) := by decide +kernel
theorem dX8_twoOf_187 : decode cX8_twoOf 187 = .ok (.iconst 0, 1) := by decide +kernel
theorem dX8_twoOf_188 : decode cX8_twoOf 188 = .ok (.ireturn, 1) := by decide +kernel
theorem dX8_twoOf_189 : decode cX8_twoOf 189 = .ok (.iload_n 1, 1) := by decide +kernel
theorem dX8_twoOf_190 : decode cX8_twoOf 190 = .ok (.ifCond .eq 11, 3) := by decide +kernel
theorem dX8_twoOf_193 : decode cX8_twoOf 193 = .ok (.iload_n 2, 1) := by decide +kernel
theorem dX8_twoOf_194 : decode cX8_twoOf 194 = .ok (.ifCond .eq 7, 3) := by decide +kernel
theorem dX8_twoOf_197 : decode cX8_twoOf 197 = .ok (.iconst 1, 1) := by decide +kernel
theorem dX8_twoOf_198 : decode cX8_twoOf 198 = .ok (.goto 4, 3) := by decide +kernel
theorem dX8_twoOf_201 : decode cX8_twoOf 201 = .ok (.iconst 0, 1) := by decide +kernel
theorem dX8_twoOf_202 : decode cX8_twoOf 202 = .ok (.ireturn, 1) := by decide +kernel
theorem dX8_twoOf_203 : decode cX8_twoOf 203 = .ok (.iload_n 1, 1) := by decide +kernel
theorem dX8_twoOf_204 : decode cX8_twoOf 204 = .ok (.ifCond .ne 7, 3) := by decide +kernel
theorem dX8_twoOf_207 : decode cX8_twoOf 207 = .ok (.iload_n 2, 1) := by decide +kernel
theorem dX8_twoOf_208 : decode cX8_twoOf 208 = .ok (.ifCond .eq 7, 3) := by decide +kernel
theorem dX8_twoOf_211 : decode cX8_twoOf 211 = .ok (.iconst 1, 1) := by decide +kernel
theorem dX8_twoOf_212 : decode cX8_twoOf 212 = .ok (.goto 4, 3) := by decide +kernel
theorem dX8_twoOf_215 : decode cX8_twoOf 215 = .ok (.iconst 0, 1) := by decide +kernel
theorem dX8_twoOf_216 : decode cX8_twoOf 216 = .ok (.ireturn, 1) := by decide +kernel
theorem dX8_works_0 : decode cX8_works 0 = .ok (.iconst 0, 1) := by decide +kernel
theorem dX8_works_1 : decode cX8_works 1 = .ok (.istore_n 2, 1) := by decide +kernel
theorem dX8_works_2 : decode cX8_works 2 = .ok (.iconst 0, 1) := by decide +kernel
theorem dX8_works_3 : decode cX8_works 3 = .ok (.istore_n 3, 1) := by decide +kernel
theorem dX8_works_4 : decode cX8_works 4 = .ok (.iload_n 3, 1) := by decide +kernel
theorem dX8_works_5 : decode cX8_works 5 = .ok (.aload_n 0, 1) := by decide +kernel
theorem dX8_works_6 : decode cX8_works 6 = .ok (.getfield 9, 3) := by decide +kernel
theorem dX8_works_9 : decode cX8_works 9 = .ok (.iload_n 1, 1) := by decide +kernel
theorem dX8_works_10 : decode cX8_works 10 = .ok (.iaload, 1) := by decide +kernel
theorem dX8_works_11 : decode cX8_works 11 = .ok (.if_icmp .ge 144, 3) := by decide +kernel
theorem dX8_works_14 : decode cX8_works 14 = .ok (.aload_n 0, 1) := by decide +kernel
theorem dX8_works_15 : decode cX8_works 15 = .ok (.getfield 9, 3) := by decide +kernel
theorem dX8_works_18 : decode cX8_works 18 = .ok (.iload_n 1, 1) := by decide +kernel
theorem dX8_works_19 : decode cX8_works 19 = .ok (.iconst 1, 1) := by decide +kernel
theorem dX8_works_20 : decode cX8_works 20 = .ok (.iadd, 1) := by decide +kernel
theorem dX8_works_21 : decode cX8_works 21 = .ok (.iload_n 3, 1) := by decide +kernel
theorem dX8_works_22 : decode cX8_works 22 = .ok (.iadd, 1) := by decide +kernel
theorem dX8_works_23 : decode cX8_works 23 = .ok (.iaload, 1) := by decide +kernel
theorem dX8_works_24 : decode cX8_works 24 = .ok (.istore 4, 2) := by decide +kernel
theorem dX8_works_26 : decode cX8_works 26 = .ok (.iload 4, 2) := by decide +kernel
theorem dX8_works_28 : decode cX8_works 28 = .ok (.iconst 1, 1) := by decide +kernel
theorem dX8_works_29 : decode cX8_works 29 = .ok (.if_icmp .eq 9, 3) := by decide +kernel
theorem dX8_works_32 : decode cX8_works 32 = .ok (.iload 4, 2) := by decide +kernel
theorem dX8_works_34 : decode cX8_works 34 = .ok (.iconst 2, 1) := by decide +kernel
theorem dX8_works_35 : decode cX8_works 35 = .ok (.if_icmp .ne 51, 3) := by decide +kernel
theorem dX8_works_38 : decode cX8_works 38 = .ok (.aload_n 0, 1) := by decide +kernel
theorem dX8_works_39 : decode cX8_works 39 = .ok (.getfield 31, 3) := by decide +kernel
theorem dX8_works_42 : decode cX8_works 42 = .ok (.iload_n 2, 1) := by decide +kernel
theorem dX8_works_43 : decode cX8_works 43 = .ok (.iload 4, 2) := by decide +kernel
theorem dX8_works_45 : decode cX8_works 45 = .ok (.iconst 1, 1) := by decide +kernel
theorem dX8_works_46 : decode cX8_works 46 = .ok (.if_icmp .ne 17, 3) := by decide +kernel
theorem dX8_works_49 : decode cX8_works 49 = .ok (.aload_n 0, 1) := by decide +kernel
theorem dX8_works_50 : decode cX8_works 50 = .ok (.getfield 9, 3) := by decide +kernel
theorem dX8_works_53 : decode cX8_works 53 = .ok (.iload_n 1, 1) := by decide +kernel
theorem dX8_works_54 : decode cX8_works 54 = .ok (.bipush 51, 2) := by decide +kernel
theorem dX8_works_56 : decode cX8_works 56 = .ok (.iadd, 1) := by decide +kernel
theorem dX8_works_57 : decode cX8_works 57 = .ok (.iload_n 3, 1) := by decide +kernel
theorem dX8_works_58 : decode cX8_works 58 = .ok (.iadd, 1) := by decide +kernel
theorem dX8_works_59 : decode cX8_works 59 = .ok (.iaload, 1) := by decide +kernel
theorem dX8_works_60 : decode cX8_works 60 = .ok (.goto 19, 3) := by decide +kernel
theorem dX8_works_63 : decode cX8_works 63 = .ok (.aload_n 0, 1) := by decide +kernel
theorem dX8_works_64 : decode cX8_works 64 = .ok (.getfield 28, 3) := by decide +kernel
theorem dX8_works_67 : decode cX8_works 67 = .ok (.aload_n 0, 1) := by decide +kernel
theorem dX8_works_68 : decode cX8_works 68 = .ok (.getfield 9, 3) := by decide +kernel
theorem dX8_works_71 : decode cX8_works 71 = .ok (.iload_n 1, 1) := by decide +kernel
theorem dX8_works_72 : decode cX8_works 72 = .ok (.bipush 51, 2) := by decide +kernel
theorem dX8_works_74 : decode cX8_works 74 = .ok (.iadd, 1) := by decide +kernel
theorem dX8_works_75 : decode cX8_works 75 = .ok (.iload_n 3, 1) := by decide +kernel
theorem dX8_works_76 : decode cX8_works 76 = .ok (.iadd, 1) := by decide +kernel
theorem dX8_works_77 : decode cX8_works 77 = .ok (.iaload, 1) := by decide +kernel
theorem dX8_works_78 : decode cX8_works 78 = .ok (.iaload, 1) := by decide +kernel
theorem dX8_works_79 : decode cX8_works 79 = .ok (.iastore, 1) := by decide +kernel
theorem dX8_works_80 : decode cX8_works 80 = .ok (.iinc 2 1, 3) := by decide +kernel
theorem dX8_works_83 : decode cX8_works 83 = .ok (.goto 66, 3) := by decide +kernel
theorem dX8_works_86 : decode cX8_works 86 = .ok (.iload 4, 2) := by decide +kernel
theorem dX8_works_88 : decode cX8_works 88 = .ok (.iconst 3, 1) := by decide +kernel
theorem dX8_works_89 : decode cX8_works 89 = .ok (.if_icmp .ne 30, 3) := by decide +kernel
theorem dX8_works_92 : decode cX8_works 92 = .ok (.aload_n 0, 1) := by decide +kernel
theorem dX8_works_93 : decode cX8_works 93 = .ok (.getfield 31, 3) := by decide +kernel
theorem dX8_works_96 : decode cX8_works 96 = .ok (.iload_n 2, 1) := by decide +kernel
theorem dX8_works_97 : decode cX8_works 97 = .ok (.iconst 1, 1) := by decide +kernel
theorem dX8_works_98 : decode cX8_works 98 = .ok (.isub, 1) := by decide +kernel
theorem dX8_works_99 : decode cX8_works 99 = .ok (.aload_n 0, 1) := by decide +kernel
theorem dX8_works_100 : decode cX8_works 100 = .ok (.getfield 31, 3) := by decide +kernel
theorem dX8_works_103 : decode cX8_works 103 = .ok (.iload_n 2, 1) := by decide +kernel
theorem dX8_works_104 : decode cX8_works 104 = .ok (.iconst 1, 1) := by decide +kernel
theorem dX8_works_105 : decode cX8_works 105 = .ok (.isub, 1) := by decide +kernel
theorem dX8_works_106 : decode cX8_works 106 = .ok (.iaload, 1) := by decide +kernel
theorem dX8_works_107 : decode cX8_works 107 = .ok (.ifCond .ne 7, 3) := by decide +kernel
theorem dX8_works_110 : decode cX8_works 110 = .ok (.iconst 1, 1) := by decide +kernel
theorem dX8_works_111 : decode cX8_works 111 = .ok (.goto 4, 3) := by decide +kernel
theorem dX8_works_114 : decode cX8_works 114 = .ok (.iconst 0, 1) := by decide +kernel
theorem dX8_works_115 : decode cX8_works 115 = .ok (.iastore, 1) := by decide +kernel
theorem dX8_works_116 : decode cX8_works 116 = .ok (.goto 33, 3) := by decide +kernel
theorem dX8_works_119 : decode cX8_works 119 = .ok (.iinc 2 (-1), 3) := by decide +kernel
theorem dX8_works_122 : decode cX8_works 122 = .ok (.aload_n 0, 1) := by decide +kernel
theorem dX8_works_123 : decode cX8_works 123 = .ok (.getfield 31, 3) := by decide +kernel
theorem dX8_works_126 : decode cX8_works 126 = .ok (.iload_n 2, 1) := by decide +kernel
theorem dX8_works_127 : decode cX8_works 127 = .ok (.iconst 1, 1) := by decide +kernel
theorem dX8_works_128 : decode cX8_works 128 = .ok (.isub, 1) := by decide +kernel
theorem dX8_works_129 : decode cX8_works 129 = .ok (.iload 4, 2) := by decide +kernel
theorem dX8_works_131 : decode cX8_works 131 = .ok (.aload_n 0, 1) := by decide +kernel
theorem dX8_works_132 : decode cX8_works 132 = .ok (.getfield 31, 3) := by decide +kernel
theorem dX8_works_135 : decode cX8_works 135 = .ok (.iload_n 2, 1) := by decide +kernel
theorem dX8_works_136 : decode cX8_works 136 = .ok (.iconst 1, 1) := by decide +kernel
theorem dX8_works_137 : decode cX8_works 137 = .ok (.isub, 1) := by decide +kernel
theorem dX8_works_138 : decode cX8_works 138 = .ok (.iaload, 1) := by decide +kernel
theorem dX8_works_139 : decode cX8_works 139 = .ok (.aload_n 0, 1) := by decide +kernel
theorem dX8_works_140 : decode cX8_works 140 = .ok (.getfield 31, 3) := by decide +kernel
theorem dX8_works_143 : decode cX8_works 143 = .ok (.iload_n 2, 1) := by decide +kernel
theorem dX8_works_144 : decode cX8_works 144 = .ok (.iaload, 1) := by decide +kernel
theorem dX8_works_145 : decode cX8_works 145 = .ok (.invokestatic 181, 3) := by decide +kernel
theorem dX8_works_148 : decode cX8_works 148 = .ok (.iastore, 1) := by decide +kernel
theorem dX8_works_149 : decode cX8_works 149 = .ok (.iinc 3 1, 3) := by decide +kernel
theorem dX8_works_152 : decode cX8_works 152 = .ok (.goto (-148), 3) := by decide +kernel
theorem dX8_works_155 : decode cX8_works 155 = .ok (.aload_n 0, 1) := by decide +kernel
theorem dX8_works_156 : decode cX8_works 156 = .ok (.getfield 31, 3) := by decide +kernel
theorem dX8_works_159 : decode cX8_works 159 = .ok (.iconst 0, 1) := by decide +kernel
theorem dX8_works_160 : decode cX8_works 160 = .ok (.iaload, 1) := by decide +kernel
theorem dX8_works_161 : decode cX8_works 161 = .ok (.ireturn, 1) := by decide +kernel
theorem dX8_gives_0 : decode cX8_gives 0 = .ok (.sipush 169, 3) := by decide +kernel
theorem dX8_gives_3 : decode cX8_gives 3 = .ok (.bipush 101, 2) := by decide +kernel
theorem dX8_gives_5 : decode cX8_gives 5 = .ok (.iload_n 1, 1) := by decide +kernel
theorem dX8_gives_6 : decode cX8_gives 6 = .ok (.imul, 1) := by decide +kernel
theorem dX8_gives_7 : decode cX8_gives 7 = .ok (.iadd, 1) := by decide +kernel
theorem dX8_gives_8 : decode cX8_gives 8 = .ok (.istore 5, 2) := by decide +kernel
theorem dX8_gives_10 : decode cX8_gives 10 = .ok (.aload_n 0, 1) := by decide +kernel
theorem dX8_gives_11 : decode cX8_gives 11 = .ok (.getfield 28, 3) := by decide +kernel
theorem dX8_gives_14 : decode cX8_gives 14 = .ok (.iconst 0, 1) := by decide +kernel
theorem dX8_gives_15 : decode cX8_gives 15 = .ok (.iload_n 2, 1) := by decide +kernel
theorem dX8_gives_16 : decode cX8_gives 16 = .ok (.iastore, 1) := by decide +kernel
theorem dX8_gives_17 : decode cX8_gives 17 = .ok (.aload_n 0, 1) := by decide +kernel
theorem dX8_gives_18 : decode cX8_gives 18 = .ok (.getfield 28, 3) := by decide +kernel
theorem dX8_gives_21 : decode cX8_gives 21 = .ok (.iconst 1, 1) := by decide +kernel
theorem dX8_gives_22 : decode cX8_gives 22 = .ok (.iload_n 3, 1) := by decide +kernel
theorem dX8_gives_23 : decode cX8_gives 23 = .ok (.iastore, 1) := by decide +kernel
theorem dX8_gives_24 : decode cX8_gives 24 = .ok (.aload_n 0, 1) := by decide +kernel
theorem dX8_gives_25 : decode cX8_gives 25 = .ok (.getfield 28, 3) := by decide +kernel
theorem dX8_gives_28 : decode cX8_gives 28 = .ok (.iconst 2, 1) := by decide +kernel
theorem dX8_gives_29 : decode cX8_gives 29 = .ok (.iload 4, 2) := by decide +kernel
theorem dX8_gives_31 : decode cX8_gives 31 = .ok (.iastore, 1) := by decide +kernel
theorem dX8_gives_32 : decode cX8_gives 32 = .ok (.aload_n 0, 1) := by decide +kernel
theorem dX8_gives_33 : decode cX8_gives 33 = .ok (.getfield 9, 3) := by decide +kernel
theorem dX8_gives_36 : decode cX8_gives 36 = .ok (.iload 5, 2) := by decide +kernel
theorem dX8_gives_38 : decode cX8_gives 38 = .ok (.iaload, 1) := by decide +kernel
theorem dX8_gives_39 : decode cX8_gives 39 = .ok (.ifCond .le 12, 3) := by decide +kernel
theorem dX8_gives_42 : decode cX8_gives 42 = .ok (.aload_n 0, 1) := by decide +kernel
theorem dX8_gives_43 : decode cX8_gives 43 = .ok (.iload 5, 2) := by decide +kernel
theorem dX8_gives_45 : decode cX8_gives 45 = .ok (.invokevirtual 184, 3) := by decide +kernel
theorem dX8_gives_48 : decode cX8_gives 48 = .ok (.goto 18, 3) := by decide +kernel
theorem dX8_gives_51 : decode cX8_gives 51 = .ok (.iload_n 1, 1) := by decide +kernel
theorem dX8_gives_52 : decode cX8_gives 52 = .ok (.ifCond .ne 9, 3) := by decide +kernel
theorem dX8_gives_55 : decode cX8_gives 55 = .ok (.iconst 3, 1) := by decide +kernel
theorem dX8_gives_56 : decode cX8_gives 56 = .ok (.iload_n 2, 1) := by decide +kernel
theorem dX8_gives_57 : decode cX8_gives 57 = .ok (.iadd, 1) := by decide +kernel
theorem dX8_gives_58 : decode cX8_gives 58 = .ok (.goto 8, 3) := by decide +kernel
theorem dX8_gives_61 : decode cX8_gives 61 = .ok (.iconst 2, 1) := by decide +kernel
theorem dX8_gives_62 : decode cX8_gives 62 = .ok (.iload_n 2, 1) := by decide +kernel
theorem dX8_gives_63 : decode cX8_gives 63 = .ok (.imul, 1) := by decide +kernel
theorem dX8_gives_64 : decode cX8_gives 64 = .ok (.iload_n 3, 1) := by decide +kernel
theorem dX8_gives_65 : decode cX8_gives 65 = .ok (.iadd, 1) := by decide +kernel
theorem dX8_gives_66 : decode cX8_gives 66 = .ok (.istore 6, 2) := by decide +kernel
theorem dX8_gives_68 : decode cX8_gives 68 = .ok (.iload_n 1, 1) := by decide +kernel
theorem dX8_gives_69 : decode cX8_gives 69 = .ok (.ifCond .ne 14, 3) := by decide +kernel
theorem dX8_gives_72 : decode cX8_gives 72 = .ok (.iload 6, 2) := by decide +kernel
theorem dX8_gives_74 : decode cX8_gives 74 = .ok (.iconst 1, 1) := by decide +kernel
theorem dX8_gives_75 : decode cX8_gives 75 = .ok (.bipush 99, 2) := by decide +kernel
theorem dX8_gives_77 : decode cX8_gives 77 = .ok (.invokestatic 187, 3) := by decide +kernel
theorem dX8_gives_80 : decode cX8_gives 80 = .ok (.goto 12, 3) := by decide +kernel
theorem dX8_gives_83 : decode cX8_gives 83 = .ok (.iload 6, 2) := by decide +kernel
theorem dX8_gives_85 : decode cX8_gives 85 = .ok (.iconst 0, 1) := by decide +kernel
theorem dX8_gives_86 : decode cX8_gives 86 = .ok (.sipush 999, 3) := by decide +kernel
theorem dX8_gives_89 : decode cX8_gives 89 = .ok (.invokestatic 187, 3) := by decide +kernel
theorem dX8_gives_92 : decode cX8_gives 92 = .ok (.ireturn, 1) := by decide +kernel
theorem dX8_law_0 : decode cX8_law 0 = .ok (.iload_n 1, 1) := by decide +kernel
theorem dX8_law_1 : decode cX8_law 1 = .ok (.iconst 0, 1) := by decide +kernel
theorem dX8_law_2 : decode cX8_law 2 = .ok (.iconst 1, 1) := by decide +kernel
theorem dX8_law_3 : decode cX8_law 3 = .ok (.invokestatic 47, 3) := by decide +kernel
theorem dX8_law_6 : decode cX8_law 6 = .ok (.ifCond .eq 15, 3) := by decide +kernel
theorem dX8_law_9 : decode cX8_law 9 = .ok (.aload_n 0, 1) := by decide +kernel
theorem dX8_law_10 : decode cX8_law 10 = .ok (.iload_n 1, 1) := by decide +kernel
theorem dX8_law_11 : decode cX8_law 11 = .ok (.iload_n 2, 1) := by decide +kernel
theorem dX8_law_12 : decode cX8_law 12 = .ok (.iload_n 3, 1) := by decide +kernel
theorem dX8_law_13 : decode cX8_law 13 = .ok (.iload 4, 2) := by decide +kernel
theorem dX8_law_15 : decode cX8_law 15 = .ok (.invokevirtual 102, 3) := by decide +kernel
theorem dX8_law_18 : decode cX8_law 18 = .ok (.goto 9, 3) := by decide +kernel
theorem dX8_law_21 : decode cX8_law 21 = .ok (.aload_n 0, 1) := by decide +kernel
theorem dX8_law_22 : decode cX8_law 22 = .ok (.ldc 72, 2) := by decide +kernel
theorem dX8_law_24 : decode cX8_law 24 = .ok (.invokevirtual 73, 3) := by decide +kernel
theorem dX8_law_27 : decode cX8_law 27 = .ok (.ireturn, 1) := by decide +kernel
theorem dX8_day_0 : decode cX8_day 0 = .ok (.iconst 0, 1) := by decide +kernel
theorem dX8_day_1 : decode cX8_day 1 = .ok (.istore_n 1, 1) := by decide +kernel
theorem dX8_day_2 : decode cX8_day 2 = .ok (.iload_n 1, 1) := by decide +kernel
theorem dX8_day_3 : decode cX8_day 3 = .ok (.bipush 20, 2) := by decide +kernel
theorem dX8_day_5 : decode cX8_day 5 = .ok (.if_icmp .ge 34, 3) := by decide +kernel
theorem dX8_day_8 : decode cX8_day 8 = .ok (.aload_n 0, 1) := by decide +kernel
theorem dX8_day_9 : decode cX8_day 9 = .ok (.getfield 9, 3) := by decide +kernel
theorem dX8_day_12 : decode cX8_day 12 = .ok (.bipush 31, 2) := by decide +kernel
theorem dX8_day_14 : decode cX8_day 14 = .ok (.iload_n 1, 1) := by decide +kernel
theorem dX8_day_15 : decode cX8_day 15 = .ok (.iadd, 1) := by decide +kernel
theorem dX8_day_16 : decode cX8_day 16 = .ok (.dup2, 1) := by decide +kernel
theorem dX8_day_17 : decode cX8_day 17 = .ok (.iaload, 1) := by decide +kernel
theorem dX8_day_18 : decode cX8_day 18 = .ok (.aload_n 0, 1) := by decide +kernel
theorem dX8_day_19 : decode cX8_day 19 = .ok (.iload_n 1, 1) := by decide +kernel
theorem dX8_day_20 : decode cX8_day 20 = .ok (.invokevirtual 51, 3) := by decide +kernel
theorem dX8_day_23 : decode cX8_day 23 = .ok (.ifCond .eq 7, 3) := by decide +kernel
theorem dX8_day_26 : decode cX8_day 26 = .ok (.iconst 0, 1) := by decide +kernel
theorem dX8_day_27 : decode cX8_day 27 = .ok (.goto 4, 3) := by decide +kernel
theorem dX8_day_30 : decode cX8_day 30 = .ok (.iconst 1, 1) := by decide +kernel
theorem dX8_day_31 : decode cX8_day 31 = .ok (.isub, 1) := by decide +kernel
theorem dX8_day_32 : decode cX8_day 32 = .ok (.iastore, 1) := by decide +kernel
theorem dX8_day_33 : decode cX8_day 33 = .ok (.iinc 1 1, 3) := by decide +kernel
theorem dX8_day_36 : decode cX8_day 36 = .ok (.goto (-34), 3) := by decide +kernel
theorem dX8_day_39 : decode cX8_day 39 = .ok (.iconst 0, 1) := by decide +kernel
theorem dX8_day_40 : decode cX8_day 40 = .ok (.istore_n 1, 1) := by decide +kernel
theorem dX8_day_41 : decode cX8_day 41 = .ok (.iload_n 1, 1) := by decide +kernel
theorem dX8_day_42 : decode cX8_day 42 = .ok (.aload_n 0, 1) := by decide +kernel
theorem dX8_day_43 : decode cX8_day 43 = .ok (.getfield 9, 3) := by decide +kernel
theorem dX8_day_46 : decode cX8_day 46 = .ok (.iconst 3, 1) := by decide +kernel
theorem dX8_day_47 : decode cX8_day 47 = .ok (.iaload, 1) := by decide +kernel
theorem dX8_day_48 : decode cX8_day 48 = .ok (.if_icmp .ge 38, 3) := by decide +kernel
theorem dX8_day_51 : decode cX8_day 51 = .ok (.aload_n 0, 1) := by decide +kernel
theorem dX8_day_52 : decode cX8_day 52 = .ok (.iload_n 1, 1) := by decide +kernel
theorem dX8_day_53 : decode cX8_day 53 = .ok (.iconst 5, 1) := by decide +kernel
theorem dX8_day_54 : decode cX8_day 54 = .ok (.invokevirtual 89, 3) := by decide +kernel
theorem dX8_day_57 : decode cX8_day 57 = .ok (.ifCond .ne 23, 3) := by decide +kernel
theorem dX8_day_60 : decode cX8_day 60 = .ok (.aload_n 0, 1) := by decide +kernel
theorem dX8_day_61 : decode cX8_day 61 = .ok (.iload_n 1, 1) := by decide +kernel
theorem dX8_day_62 : decode cX8_day 62 = .ok (.iconst 4, 1) := by decide +kernel
theorem dX8_day_63 : decode cX8_day 63 = .ok (.aload_n 0, 1) := by decide +kernel
theorem dX8_day_64 : decode cX8_day 64 = .ok (.iload_n 1, 1) := by decide +kernel
theorem dX8_day_65 : decode cX8_day 65 = .ok (.iconst 4, 1) := by decide +kernel
theorem dX8_day_66 : decode cX8_day 66 = .ok (.invokevirtual 89, 3) := by decide +kernel
theorem dX8_day_69 : decode cX8_day 69 = .ok (.iconst 1, 1) := by decide +kernel
theorem dX8_day_70 : decode cX8_day 70 = .ok (.iadd, 1) := by decide +kernel
theorem dX8_day_71 : decode cX8_day 71 = .ok (.iconst 0, 1) := by decide +kernel
theorem dX8_day_72 : decode cX8_day 72 = .ok (.bipush 99, 2) := by decide +kernel
theorem dX8_day_74 : decode cX8_day 74 = .ok (.invokestatic 187, 3) := by decide +kernel
theorem dX8_day_77 : decode cX8_day 77 = .ok (.invokevirtual 111, 3) := by decide +kernel
theorem dX8_day_80 : decode cX8_day 80 = .ok (.iinc 1 1, 3) := by decide +kernel
theorem dX8_day_83 : decode cX8_day 83 = .ok (.goto (-42), 3) := by decide +kernel
theorem dX8_day_86 : decode cX8_day 86 = .ok (.aload_n 0, 1) := by decide +kernel
theorem dX8_day_87 : decode cX8_day 87 = .ok (.getfield 9, 3) := by decide +kernel
theorem dX8_day_90 : decode cX8_day 90 = .ok (.iconst 0, 1) := by decide +kernel
theorem dX8_day_91 : decode cX8_day 91 = .ok (.dup2, 1) := by decide +kernel
theorem dX8_day_92 : decode cX8_day 92 = .ok (.iaload, 1) := by decide +kernel
theorem dX8_day_93 : decode cX8_day 93 = .ok (.iconst 1, 1) := by decide +kernel
theorem dX8_day_94 : decode cX8_day 94 = .ok (.iadd, 1) := by decide +kernel
theorem dX8_day_95 : decode cX8_day 95 = .ok (.iastore, 1) := by decide +kernel
theorem dX8_day_96 : decode cX8_day 96 = .ok (.return_, 1) := by decide +kernel
theorem dX8_goesOn_0 : decode cX8_goesOn 0 = .ok (.iconst 0, 1) := by decide +kernel
theorem dX8_goesOn_1 : decode cX8_goesOn 1 = .ok (.istore_n 2, 1) := by decide +kernel
theorem dX8_goesOn_2 : decode cX8_goesOn 2 = .ok (.iload_n 2, 1) := by decide +kernel
theorem dX8_goesOn_3 : decode cX8_goesOn 3 = .ok (.iload_n 1, 1) := by decide +kernel
theorem dX8_goesOn_4 : decode cX8_goesOn 4 = .ok (.if_icmp .ge 13, 3) := by decide +kernel
theorem dX8_goesOn_7 : decode cX8_goesOn 7 = .ok (.aload_n 0, 1) := by decide +kernel
theorem dX8_goesOn_8 : decode cX8_goesOn 8 = .ok (.invokevirtual 190, 3) := by decide +kernel
theorem dX8_goesOn_11 : decode cX8_goesOn 11 = .ok (.iinc 2 1, 3) := by decide +kernel
theorem dX8_goesOn_14 : decode cX8_goesOn 14 = .ok (.goto (-12), 3) := by decide +kernel
theorem dX8_goesOn_17 : decode cX8_goesOn 17 = .ok (.return_, 1) := by decide +kernel
theorem dX8_missing_0 : decode cX8_missing 0 = .ok (.iconst 0, 1) := by decide +kernel
theorem dX8_missing_1 : decode cX8_missing 1 = .ok (.istore_n 1, 1) := by decide +kernel
theorem dX8_missing_2 : decode cX8_missing 2 = .ok (.iconst 0, 1) := by decide +kernel
theorem dX8_missing_3 : decode cX8_missing 3 = .ok (.istore_n 2, 1) := by decide +kernel
theorem dX8_missing_4 : decode cX8_missing 4 = .ok (.iload_n 2, 1) := by decide +kernel
theorem dX8_missing_5 : decode cX8_missing 5 = .ok (.bipush 20, 2) := by decide +kernel
theorem dX8_missing_7 : decode cX8_missing 7 = .ok (.if_icmp .ge 25, 3) := by decide +kernel
theorem dX8_missing_10 : decode cX8_missing 10 = .ok (.iload_n 1, 1) := by decide +kernel
theorem dX8_missing_11 : decode cX8_missing 11 = .ok (.aload_n 0, 1) := by decide +kernel
theorem dX8_missing_12 : decode cX8_missing 12 = .ok (.iload_n 2, 1) := by decide +kernel
theorem dX8_missing_13 : decode cX8_missing 13 = .ok (.invokevirtual 51, 3) := by decide +kernel
theorem dX8_missing_16 : decode cX8_missing 16 = .ok (.ifCond .eq 7, 3) := by decide +kernel
theorem dX8_missing_19 : decode cX8_missing 19 = .ok (.iconst 0, 1) := by decide +kernel
theorem dX8_missing_20 : decode cX8_missing 20 = .ok (.goto 4, 3) := by decide +kernel
theorem dX8_missing_23 : decode cX8_missing 23 = .ok (.iconst 1, 1) := by decide +kernel
theorem dX8_missing_24 : decode cX8_missing 24 = .ok (.iadd, 1) := by decide +kernel
theorem dX8_missing_25 : decode cX8_missing 25 = .ok (.istore_n 1, 1) := by decide +kernel
theorem dX8_missing_26 : decode cX8_missing 26 = .ok (.iinc 2 1, 3) := by decide +kernel
theorem dX8_missing_29 : decode cX8_missing 29 = .ok (.goto (-25), 3) := by decide +kernel
theorem dX8_missing_32 : decode cX8_missing 32 = .ok (.iload_n 1, 1) := by decide +kernel
theorem dX8_missing_33 : decode cX8_missing 33 = .ok (.ireturn, 1) := by decide +kernel
theorem dX8_days_0 : decode cX8_days 0 = .ok (.iload_n 1, 1) := by decide +kernel
theorem dX8_days_1 : decode cX8_days 1 = .ok (.iconst 1, 1) := by decide +kernel
theorem dX8_days_2 : decode cX8_days 2 = .ok (.bipush 100, 2) := by decide +kernel
theorem dX8_days_4 : decode cX8_days 4 = .ok (.invokestatic 47, 3) := by decide +kernel
theorem dX8_days_7 : decode cX8_days 7 = .ok (.ifCond .ne 10, 3) := by decide +kernel
theorem dX8_days_10 : decode cX8_days 10 = .ok (.aload_n 0, 1) := by decide +kernel
theorem dX8_days_11 : decode cX8_days 11 = .ok (.ldc 72, 2) := by decide +kernel
theorem dX8_days_13 : decode cX8_days 13 = .ok (.invokevirtual 73, 3) := by decide +kernel
theorem dX8_days_16 : decode cX8_days 16 = .ok (.ireturn, 1) := by decide +kernel
theorem dX8_days_17 : decode cX8_days 17 = .ok (.aload_n 0, 1) := by decide +kernel
theorem dX8_days_18 : decode cX8_days 18 = .ok (.getfield 9, 3) := by decide +kernel
theorem dX8_days_21 : decode cX8_days 21 = .ok (.iconst 0, 1) := by decide +kernel
theorem dX8_days_22 : decode cX8_days 22 = .ok (.iaload, 1) := by decide +kernel
theorem dX8_days_23 : decode cX8_days 23 = .ok (.iload_n 1, 1) := by decide +kernel
theorem dX8_days_24 : decode cX8_days 24 = .ok (.iadd, 1) := by decide +kernel
theorem dX8_days_25 : decode cX8_days 25 = .ok (.sipush 9999, 3) := by decide +kernel
theorem dX8_days_28 : decode cX8_days 28 = .ok (.if_icmp .le 10, 3) := by decide +kernel
theorem dX8_days_31 : decode cX8_days 31 = .ok (.aload_n 0, 1) := by decide +kernel
theorem dX8_days_32 : decode cX8_days 32 = .ok (.ldc 110, 2) := by decide +kernel
theorem dX8_days_34 : decode cX8_days 34 = .ok (.invokevirtual 73, 3) := by decide +kernel
theorem dX8_days_37 : decode cX8_days 37 = .ok (.ireturn, 1) := by decide +kernel
theorem dX8_days_38 : decode cX8_days 38 = .ok (.aload_n 0, 1) := by decide +kernel
theorem dX8_days_39 : decode cX8_days 39 = .ok (.iload_n 1, 1) := by decide +kernel
theorem dX8_days_40 : decode cX8_days 40 = .ok (.invokevirtual 193, 3) := by decide +kernel
theorem dX8_days_43 : decode cX8_days 43 = .ok (.aload_n 0, 1) := by decide +kernel
theorem dX8_days_44 : decode cX8_days 44 = .ok (.invokevirtual 196, 3) := by decide +kernel
theorem dX8_days_47 : decode cX8_days 47 = .ok (.ireturn, 1) := by decide +kernel
theorem dX8_draw_0 : decode cX8_draw 0 = .ok (.aload_n 0, 1) := by decide +kernel
theorem dX8_draw_1 : decode cX8_draw 1 = .ok (.getfield 9, 3) := by decide +kernel
theorem dX8_draw_4 : decode cX8_draw 4 = .ok (.iconst 1, 1) := by decide +kernel
theorem dX8_draw_5 : decode cX8_draw 5 = .ok (.aload_n 0, 1) := by decide +kernel
theorem dX8_draw_6 : decode cX8_draw 6 = .ok (.getfield 9, 3) := by decide +kernel
theorem dX8_draw_9 : decode cX8_draw 9 = .ok (.iconst 1, 1) := by decide +kernel
theorem dX8_draw_10 : decode cX8_draw 10 = .ok (.iaload, 1) := by decide +kernel
theorem dX8_draw_11 : decode cX8_draw 11 = .ok (.ldc 199, 2) := by decide +kernel
theorem dX8_draw_13 : decode cX8_draw 13 = .ok (.imul, 1) := by decide +kernel
theorem dX8_draw_14 : decode cX8_draw 14 = .ok (.sipush 12345, 3) := by decide +kernel
theorem dX8_draw_17 : decode cX8_draw 17 = .ok (.iadd, 1) := by decide +kernel
theorem dX8_draw_18 : decode cX8_draw 18 = .ok (.iastore, 1) := by decide +kernel
theorem dX8_draw_19 : decode cX8_draw 19 = .ok (.aload_n 0, 1) := by decide +kernel
theorem dX8_draw_20 : decode cX8_draw 20 = .ok (.getfield 9, 3) := by decide +kernel
theorem dX8_draw_23 : decode cX8_draw 23 = .ok (.iconst 1, 1) := by decide +kernel
theorem dX8_draw_24 : decode cX8_draw 24 = .ok (.iaload, 1) := by decide +kernel
theorem dX8_draw_25 : decode cX8_draw 25 = .ok (.bipush 8, 2) := by decide +kernel
theorem dX8_draw_27 : decode cX8_draw 27 = .ok (.iushr, 1) := by decide +kernel
theorem dX8_draw_28 : decode cX8_draw 28 = .ok (.ireturn, 1) := by decide +kernel
theorem dX8_loose_0 : decode cX8_loose 0 = .ok (.iload_n 1, 1) := by decide +kernel
theorem dX8_loose_1 : decode cX8_loose 1 = .ok (.iconst 1, 1) := by decide +kernel
theorem dX8_loose_2 : decode cX8_loose 2 = .ok (.bipush 40, 2) := by decide +kernel
theorem dX8_loose_4 : decode cX8_loose 4 = .ok (.invokestatic 47, 3) := by decide +kernel
theorem dX8_loose_7 : decode cX8_loose 7 = .ok (.ifCond .ne 10, 3) := by decide +kernel
theorem dX8_loose_10 : decode cX8_loose 10 = .ok (.aload_n 0, 1) := by decide +kernel
theorem dX8_loose_11 : decode cX8_loose 11 = .ok (.ldc 72, 2) := by decide +kernel
theorem dX8_loose_13 : decode cX8_loose 13 = .ok (.invokevirtual 73, 3) := by decide +kernel
theorem dX8_loose_16 : decode cX8_loose 16 = .ok (.ireturn, 1) := by decide +kernel
theorem dX8_loose_17 : decode cX8_loose 17 = .ok (.aload_n 0, 1) := by decide +kernel
theorem dX8_loose_18 : decode cX8_loose 18 = .ok (.getfield 9, 3) := by decide +kernel
theorem dX8_loose_21 : decode cX8_loose 21 = .ok (.iconst 0, 1) := by decide +kernel
theorem dX8_loose_22 : decode cX8_loose 22 = .ok (.iaload, 1) := by decide +kernel
theorem dX8_loose_23 : decode cX8_loose 23 = .ok (.iload_n 1, 1) := by decide +kernel
theorem dX8_loose_24 : decode cX8_loose 24 = .ok (.iadd, 1) := by decide +kernel
theorem dX8_loose_25 : decode cX8_loose 25 = .ok (.sipush 9999, 3) := by decide +kernel
theorem dX8_loose_28 : decode cX8_loose 28 = .ok (.if_icmp .le 10, 3) := by decide +kernel
theorem dX8_loose_31 : decode cX8_loose 31 = .ok (.aload_n 0, 1) := by decide +kernel
theorem dX8_loose_32 : decode cX8_loose 32 = .ok (.ldc 110, 2) := by decide +kernel
theorem dX8_loose_34 : decode cX8_loose 34 = .ok (.invokevirtual 73, 3) := by decide +kernel
theorem dX8_loose_37 : decode cX8_loose 37 = .ok (.ireturn, 1) := by decide +kernel
theorem dX8_loose_38 : decode cX8_loose 38 = .ok (.iconst 0, 1) := by decide +kernel
theorem dX8_loose_39 : decode cX8_loose 39 = .ok (.istore_n 2, 1) := by decide +kernel
theorem dX8_loose_40 : decode cX8_loose 40 = .ok (.iload_n 2, 1) := by decide +kernel
theorem dX8_loose_41 : decode cX8_loose 41 = .ok (.iload_n 1, 1) := by decide +kernel
theorem dX8_loose_42 : decode cX8_loose 42 = .ok (.if_icmp .ge 37, 3) := by decide +kernel
theorem dX8_loose_45 : decode cX8_loose 45 = .ok (.aload_n 0, 1) := by decide +kernel
theorem dX8_loose_46 : decode cX8_loose 46 = .ok (.invokevirtual 200, 3) := by decide +kernel
theorem dX8_loose_49 : decode cX8_loose 49 = .ok (.bipush 20, 2) := by decide +kernel
theorem dX8_loose_51 : decode cX8_loose 51 = .ok (.irem, 1) := by decide +kernel
theorem dX8_loose_52 : decode cX8_loose 52 = .ok (.istore_n 3, 1) := by decide +kernel
theorem dX8_loose_53 : decode cX8_loose 53 = .ok (.aload_n 0, 1) := by decide +kernel
theorem dX8_loose_54 : decode cX8_loose 54 = .ok (.getfield 9, 3) := by decide +kernel
theorem dX8_loose_57 : decode cX8_loose 57 = .ok (.bipush 31, 2) := by decide +kernel
theorem dX8_loose_59 : decode cX8_loose 59 = .ok (.iload_n 3, 1) := by decide +kernel
theorem dX8_loose_60 : decode cX8_loose 60 = .ok (.iadd, 1) := by decide +kernel
theorem dX8_loose_61 : decode cX8_loose 61 = .ok (.aload_n 0, 1) := by decide +kernel
theorem dX8_loose_62 : decode cX8_loose 62 = .ok (.invokevirtual 200, 3) := by decide +kernel
theorem dX8_loose_65 : decode cX8_loose 65 = .ok (.bipush 10, 2) := by decide +kernel
theorem dX8_loose_67 : decode cX8_loose 67 = .ok (.irem, 1) := by decide +kernel
theorem dX8_loose_68 : decode cX8_loose 68 = .ok (.iastore, 1) := by decide +kernel
theorem dX8_loose_69 : decode cX8_loose 69 = .ok (.aload_n 0, 1) := by decide +kernel
theorem dX8_loose_70 : decode cX8_loose 70 = .ok (.invokevirtual 190, 3) := by decide +kernel
theorem dX8_loose_73 : decode cX8_loose 73 = .ok (.iinc 2 1, 3) := by decide +kernel
theorem dX8_loose_76 : decode cX8_loose 76 = .ok (.goto (-36), 3) := by decide +kernel
theorem dX8_loose_79 : decode cX8_loose 79 = .ok (.aload_n 0, 1) := by decide +kernel
theorem dX8_loose_80 : decode cX8_loose 80 = .ok (.invokevirtual 196, 3) := by decide +kernel
theorem dX8_loose_83 : decode cX8_loose 83 = .ok (.ireturn, 1) := by decide +kernel
theorem dX8_thinks_0 : decode cX8_thinks 0 = .ok (.aload_n 0, 1) := by decide +kernel
theorem dX8_thinks_1 : decode cX8_thinks 1 = .ok (.getfield 9, 3) := by decide +kernel
theorem dX8_thinks_4 : decode cX8_thinks 4 = .ok (.aload_n 0, 1) := by decide +kernel
theorem dX8_thinks_5 : decode cX8_thinks 5 = .ok (.getfield 16, 3) := by decide +kernel
theorem dX8_thinks_8 : decode cX8_thinks 8 = .ok (.invokestatic 203, 3) := by decide +kernel
theorem dX8_thinks_11 : decode cX8_thinks 11 = .ok (.return_, 1) := by decide +kernel
theorem dX8_putsBack_0 : decode cX8_putsBack 0 = .ok (.aload_n 0, 1) := by decide +kernel
theorem dX8_putsBack_1 : decode cX8_putsBack 1 = .ok (.getfield 16, 3) := by decide +kernel
theorem dX8_putsBack_4 : decode cX8_putsBack 4 = .ok (.aload_n 0, 1) := by decide +kernel
theorem dX8_putsBack_5 : decode cX8_putsBack 5 = .ok (.getfield 9, 3) := by decide +kernel
theorem dX8_putsBack_8 : decode cX8_putsBack 8 = .ok (.invokestatic 203, 3) := by decide +kernel
theorem dX8_putsBack_11 : decode cX8_putsBack 11 = .ok (.return_, 1) := by decide +kernel
theorem dX8_view_0 : decode cX8_view 0 = .ok (.aload_n 0, 1) := by decide +kernel
theorem dX8_view_1 : decode cX8_view 1 = .ok (.iload_n 1, 1) := by decide +kernel
theorem dX8_view_2 : decode cX8_view 2 = .ok (.invokevirtual 86, 3) := by decide +kernel
theorem dX8_view_5 : decode cX8_view 5 = .ok (.ifCond .eq 22, 3) := by decide +kernel
theorem dX8_view_8 : decode cX8_view 8 = .ok (.iload_n 2, 1) := by decide +kernel
theorem dX8_view_9 : decode cX8_view 9 = .ok (.iconst 0, 1) := by decide +kernel
theorem dX8_view_10 : decode cX8_view 10 = .ok (.iconst 1, 1) := by decide +kernel
theorem dX8_view_11 : decode cX8_view 11 = .ok (.invokestatic 47, 3) := by decide +kernel
theorem dX8_view_14 : decode cX8_view 14 = .ok (.ifCond .eq 13, 3) := by decide +kernel
theorem dX8_view_17 : decode cX8_view 17 = .ok (.iload_n 3, 1) := by decide +kernel
theorem dX8_view_18 : decode cX8_view 18 = .ok (.iconst 0, 1) := by decide +kernel
theorem dX8_view_19 : decode cX8_view 19 = .ok (.bipush 100, 2) := by decide +kernel
theorem dX8_view_21 : decode cX8_view 21 = .ok (.invokestatic 47, 3) := by decide +kernel
theorem dX8_view_24 : decode cX8_view 24 = .ok (.ifCond .ne 10, 3) := by decide +kernel
theorem dX8_view_27 : decode cX8_view 27 = .ok (.aload_n 0, 1) := by decide +kernel
theorem dX8_view_28 : decode cX8_view 28 = .ok (.ldc 72, 2) := by decide +kernel
theorem dX8_view_30 : decode cX8_view 30 = .ok (.invokevirtual 73, 3) := by decide +kernel
theorem dX8_view_33 : decode cX8_view 33 = .ok (.ireturn, 1) := by decide +kernel
theorem dX8_view_34 : decode cX8_view 34 = .ok (.aload_n 0, 1) := by decide +kernel
theorem dX8_view_35 : decode cX8_view 35 = .ok (.invokevirtual 207, 3) := by decide +kernel
theorem dX8_view_38 : decode cX8_view 38 = .ok (.aload_n 0, 1) := by decide +kernel
theorem dX8_view_39 : decode cX8_view 39 = .ok (.iload_n 3, 1) := by decide +kernel
theorem dX8_view_40 : decode cX8_view 40 = .ok (.invokevirtual 193, 3) := by decide +kernel
theorem dX8_view_43 : decode cX8_view 43 = .ok (.aload_n 0, 1) := by decide +kernel
theorem dX8_view_44 : decode cX8_view 44 = .ok (.aload_n 0, 1) := by decide +kernel
theorem dX8_view_45 : decode cX8_view 45 = .ok (.getfield 9, 3) := by decide +kernel
theorem dX8_view_48 : decode cX8_view 48 = .ok (.bipush 6, 2) := by decide +kernel
theorem dX8_view_50 : decode cX8_view 50 = .ok (.iload_n 1, 1) := by decide +kernel
theorem dX8_view_51 : decode cX8_view 51 = .ok (.iadd, 1) := by decide +kernel
theorem dX8_view_52 : decode cX8_view 52 = .ok (.iaload, 1) := by decide +kernel
theorem dX8_view_53 : decode cX8_view 53 = .ok (.iload_n 2, 1) := by decide +kernel
theorem dX8_view_54 : decode cX8_view 54 = .ok (.invokevirtual 62, 3) := by decide +kernel
theorem dX8_view_57 : decode cX8_view 57 = .ok (.istore 4, 2) := by decide +kernel
theorem dX8_view_59 : decode cX8_view 59 = .ok (.aload_n 0, 1) := by decide +kernel
theorem dX8_view_60 : decode cX8_view 60 = .ok (.invokevirtual 210, 3) := by decide +kernel
theorem dX8_view_63 : decode cX8_view 63 = .ok (.iload 4, 2) := by decide +kernel
theorem dX8_view_65 : decode cX8_view 65 = .ok (.ireturn, 1) := by decide +kernel
theorem dX8_again_0 : decode cX8_again 0 = .ok (.aload_n 0, 1) := by decide +kernel
theorem dX8_again_1 : decode cX8_again 1 = .ok (.iload_n 1, 1) := by decide +kernel
theorem dX8_again_2 : decode cX8_again 2 = .ok (.invokevirtual 86, 3) := by decide +kernel
theorem dX8_again_5 : decode cX8_again 5 = .ok (.ifCond .eq 23, 3) := by decide +kernel
theorem dX8_again_8 : decode cX8_again 8 = .ok (.iload_n 2, 1) := by decide +kernel
theorem dX8_again_9 : decode cX8_again 9 = .ok (.invokestatic 69, 3) := by decide +kernel
theorem dX8_again_12 : decode cX8_again 12 = .ok (.ifCond .eq 16, 3) := by decide +kernel
theorem dX8_again_15 : decode cX8_again 15 = .ok (.aload_n 0, 1) := by decide +kernel
theorem dX8_again_16 : decode cX8_again 16 = .ok (.getfield 9, 3) := by decide +kernel
theorem dX8_again_19 : decode cX8_again 19 = .ok (.bipush 6, 2) := by decide +kernel
theorem dX8_again_21 : decode cX8_again 21 = .ok (.iload_n 1, 1) := by decide +kernel
theorem dX8_again_22 : decode cX8_again 22 = .ok (.iadd, 1) := by decide +kernel
theorem dX8_again_23 : decode cX8_again 23 = .ok (.iaload, 1) := by decide +kernel
theorem dX8_again_24 : decode cX8_again 24 = .ok (.iload_n 2, 1) := by decide +kernel
theorem dX8_again_25 : decode cX8_again 25 = .ok (.if_icmp .ne 10, 3) := by decide +kernel
theorem dX8_again_28 : decode cX8_again 28 = .ok (.aload_n 0, 1) := by decide +kernel
theorem dX8_again_29 : decode cX8_again 29 = .ok (.ldc 72, 2) := by decide +kernel
theorem dX8_again_31 : decode cX8_again 31 = .ok (.invokevirtual 73, 3) := by decide +kernel
theorem dX8_again_34 : decode cX8_again 34 = .ok (.ireturn, 1) := by decide +kernel
theorem dX8_again_35 : decode cX8_again 35 = .ok (.aload_n 0, 1) := by decide +kernel
theorem dX8_again_36 : decode cX8_again 36 = .ok (.invokevirtual 207, 3) := by decide +kernel
theorem dX8_again_39 : decode cX8_again 39 = .ok (.aload_n 0, 1) := by decide +kernel
theorem dX8_again_40 : decode cX8_again 40 = .ok (.getfield 9, 3) := by decide +kernel
theorem dX8_again_43 : decode cX8_again 43 = .ok (.bipush 6, 2) := by decide +kernel
theorem dX8_again_45 : decode cX8_again 45 = .ok (.iload_n 1, 1) := by decide +kernel
theorem dX8_again_46 : decode cX8_again 46 = .ok (.iadd, 1) := by decide +kernel
theorem dX8_again_47 : decode cX8_again 47 = .ok (.iaload, 1) := by decide +kernel
theorem dX8_again_48 : decode cX8_again 48 = .ok (.istore_n 3, 1) := by decide +kernel
theorem dX8_again_49 : decode cX8_again 49 = .ok (.iconst 0, 1) := by decide +kernel
theorem dX8_again_50 : decode cX8_again 50 = .ok (.istore 4, 2) := by decide +kernel
theorem dX8_again_52 : decode cX8_again 52 = .ok (.iload 4, 2) := by decide +kernel
theorem dX8_again_54 : decode cX8_again 54 = .ok (.bipush 100, 2) := by decide +kernel
theorem dX8_again_56 : decode cX8_again 56 = .ok (.if_icmp .gt 31, 3) := by decide +kernel
theorem dX8_again_59 : decode cX8_again 59 = .ok (.aload_n 0, 1) := by decide +kernel
theorem dX8_again_60 : decode cX8_again 60 = .ok (.iload_n 3, 1) := by decide +kernel
theorem dX8_again_61 : decode cX8_again 61 = .ok (.aload_n 0, 1) := by decide +kernel
theorem dX8_again_62 : decode cX8_again 62 = .ok (.getfield 9, 3) := by decide +kernel
theorem dX8_again_65 : decode cX8_again 65 = .ok (.bipush 11, 2) := by decide +kernel
theorem dX8_again_67 : decode cX8_again 67 = .ok (.iload_n 3, 1) := by decide +kernel
theorem dX8_again_68 : decode cX8_again 68 = .ok (.iadd, 1) := by decide +kernel
theorem dX8_again_69 : decode cX8_again 69 = .ok (.iaload, 1) := by decide +kernel
theorem dX8_again_70 : decode cX8_again 70 = .ok (.iload_n 2, 1) := by decide +kernel
theorem dX8_again_71 : decode cX8_again 71 = .ok (.invokevirtual 59, 3) := by decide +kernel
theorem dX8_again_74 : decode cX8_again 74 = .ok (.ifCond .ne 13, 3) := by decide +kernel
theorem dX8_again_77 : decode cX8_again 77 = .ok (.aload_n 0, 1) := by decide +kernel
theorem dX8_again_78 : decode cX8_again 78 = .ok (.invokevirtual 190, 3) := by decide +kernel
theorem dX8_again_81 : decode cX8_again 81 = .ok (.iinc 4 1, 3) := by decide +kernel
theorem dX8_again_84 : decode cX8_again 84 = .ok (.goto (-32), 3) := by decide +kernel
theorem dX8_again_87 : decode cX8_again 87 = .ok (.aload_n 0, 1) := by decide +kernel
theorem dX8_again_88 : decode cX8_again 88 = .ok (.invokevirtual 210, 3) := by decide +kernel
theorem dX8_again_91 : decode cX8_again 91 = .ok (.iload 4, 2) := by decide +kernel
theorem dX8_again_93 : decode cX8_again 93 = .ok (.bipush 100, 2) := by decide +kernel
theorem dX8_again_95 : decode cX8_again 95 = .ok (.if_icmp .le 12, 3) := by decide +kernel
theorem dX8_again_98 : decode cX8_again 98 = .ok (.aload_n 0, 1) := by decide +kernel
theorem dX8_again_99 : decode cX8_again 99 = .ok (.ldc 213, 2) := by decide +kernel
theorem dX8_again_101 : decode cX8_again 101 = .ok (.invokevirtual 73, 3) := by decide +kernel
theorem dX8_again_104 : decode cX8_again 104 = .ok (.goto 5, 3) := by decide +kernel
theorem dX8_again_107 : decode cX8_again 107 = .ok (.iload 4, 2) := by decide +kernel
theorem dX8_again_109 : decode cX8_again 109 = .ok (.ireturn, 1) := by decide +kernel
theorem dX8_best_0 : decode cX8_best 0 = .ok (.iload_n 1, 1) := by decide +kernel
theorem dX8_best_1 : decode cX8_best 1 = .ok (.iconst 0, 1) := by decide +kernel
theorem dX8_best_2 : decode cX8_best 2 = .ok (.iconst 1, 1) := by decide +kernel
theorem dX8_best_3 : decode cX8_best 3 = .ok (.invokestatic 47, 3) := by decide +kernel
theorem dX8_best_6 : decode cX8_best 6 = .ok (.ifCond .ne 10, 3) := by decide +kernel
theorem dX8_best_9 : decode cX8_best 9 = .ok (.aload_n 0, 1) := by decide +kernel
theorem dX8_best_10 : decode cX8_best 10 = .ok (.ldc 72, 2) := by decide +kernel
theorem dX8_best_12 : decode cX8_best 12 = .ok (.invokevirtual 73, 3) := by decide +kernel
theorem dX8_best_15 : decode cX8_best 15 = .ok (.ireturn, 1) := by decide +kernel
theorem dX8_best_16 : decode cX8_best 16 = .ok (.iconst 0, 1) := by decide +kernel
theorem dX8_best_17 : decode cX8_best 17 = .ok (.istore_n 2, 1) := by decide +kernel
theorem dX8_best_18 : decode cX8_best 18 = .ok (.iconst (-1), 1) := by decide +kernel
theorem dX8_best_19 : decode cX8_best 19 = .ok (.istore_n 3, 1) := by decide +kernel
theorem dX8_best_20 : decode cX8_best 20 = .ok (.iconst 0, 1) := by decide +kernel
theorem dX8_best_21 : decode cX8_best 21 = .ok (.istore 4, 2) := by decide +kernel
theorem dX8_best_23 : decode cX8_best 23 = .ok (.iload 4, 2) := by decide +kernel
theorem dX8_best_25 : decode cX8_best 25 = .ok (.bipush 20, 2) := by decide +kernel
theorem dX8_best_27 : decode cX8_best 27 = .ok (.if_icmp .ge 43, 3) := by decide +kernel
theorem dX8_best_30 : decode cX8_best 30 = .ok (.aload_n 0, 1) := by decide +kernel
theorem dX8_best_31 : decode cX8_best 31 = .ok (.iload 4, 2) := by decide +kernel
theorem dX8_best_33 : decode cX8_best 33 = .ok (.invokevirtual 79, 3) := by decide +kernel
theorem dX8_best_36 : decode cX8_best 36 = .ok (.istore 5, 2) := by decide +kernel
theorem dX8_best_38 : decode cX8_best 38 = .ok (.iload 5, 2) := by decide +kernel
theorem dX8_best_40 : decode cX8_best 40 = .ok (.iload_n 3, 1) := by decide +kernel
theorem dX8_best_41 : decode cX8_best 41 = .ok (.if_icmp .le 8, 3) := by decide +kernel
theorem dX8_best_44 : decode cX8_best 44 = .ok (.iload 4, 2) := by decide +kernel
theorem dX8_best_46 : decode cX8_best 46 = .ok (.goto 4, 3) := by decide +kernel
theorem dX8_best_49 : decode cX8_best 49 = .ok (.iload_n 2, 1) := by decide +kernel
theorem dX8_best_50 : decode cX8_best 50 = .ok (.istore_n 2, 1) := by decide +kernel
theorem dX8_best_51 : decode cX8_best 51 = .ok (.iload 5, 2) := by decide +kernel
theorem dX8_best_53 : decode cX8_best 53 = .ok (.iload_n 3, 1) := by decide +kernel
theorem dX8_best_54 : decode cX8_best 54 = .ok (.if_icmp .le 8, 3) := by decide +kernel
theorem dX8_best_57 : decode cX8_best 57 = .ok (.iload 5, 2) := by decide +kernel
theorem dX8_best_59 : decode cX8_best 59 = .ok (.goto 4, 3) := by decide +kernel
theorem dX8_best_62 : decode cX8_best 62 = .ok (.iload_n 3, 1) := by decide +kernel
theorem dX8_best_63 : decode cX8_best 63 = .ok (.istore_n 3, 1) := by decide +kernel
theorem dX8_best_64 : decode cX8_best 64 = .ok (.iinc 4 1, 3) := by decide +kernel
theorem dX8_best_67 : decode cX8_best 67 = .ok (.goto (-44), 3) := by decide +kernel
theorem dX8_best_70 : decode cX8_best 70 = .ok (.iload_n 1, 1) := by decide +kernel
theorem dX8_best_71 : decode cX8_best 71 = .ok (.ifCond .ne 7, 3) := by decide +kernel
theorem dX8_best_74 : decode cX8_best 74 = .ok (.iload_n 2, 1) := by decide +kernel
theorem dX8_best_75 : decode cX8_best 75 = .ok (.goto 4, 3) := by decide +kernel
theorem dX8_best_78 : decode cX8_best 78 = .ok (.iload_n 3, 1) := by decide +kernel
theorem dX8_best_79 : decode cX8_best 79 = .ok (.ireturn, 1) := by decide +kernel
theorem dX8_tower_0 : decode cX8_tower 0 = .ok (.iload_n 1, 1) := by decide +kernel
theorem dX8_tower_1 : decode cX8_tower 1 = .ok (.invokestatic 69, 3) := by decide +kernel
theorem dX8_tower_4 : decode cX8_tower 4 = .ok (.ifCond .eq 15, 3) := by decide +kernel
theorem dX8_tower_7 : decode cX8_tower 7 = .ok (.iload_n 2, 1) := by decide +kernel
theorem dX8_tower_8 : decode cX8_tower 8 = .ok (.invokestatic 69, 3) := by decide +kernel
theorem dX8_tower_11 : decode cX8_tower 11 = .ok (.ifCond .eq 8, 3) := by decide +kernel
theorem dX8_tower_14 : decode cX8_tower 14 = .ok (.iload_n 1, 1) := by decide +kernel
theorem dX8_tower_15 : decode cX8_tower 15 = .ok (.iload_n 2, 1) := by decide +kernel
theorem dX8_tower_16 : decode cX8_tower 16 = .ok (.if_icmp .ne 10, 3) := by decide +kernel
theorem dX8_tower_19 : decode cX8_tower 19 = .ok (.aload_n 0, 1) := by decide +kernel
theorem dX8_tower_20 : decode cX8_tower 20 = .ok (.ldc 72, 2) := by decide +kernel
theorem dX8_tower_22 : decode cX8_tower 22 = .ok (.invokevirtual 73, 3) := by decide +kernel
theorem dX8_tower_25 : decode cX8_tower 25 = .ok (.ireturn, 1) := by decide +kernel
theorem dX8_tower_26 : decode cX8_tower 26 = .ok (.iconst 0, 1) := by decide +kernel
theorem dX8_tower_27 : decode cX8_tower 27 = .ok (.istore_n 3, 1) := by decide +kernel
theorem dX8_tower_28 : decode cX8_tower 28 = .ok (.iload_n 3, 1) := by decide +kernel
theorem dX8_tower_29 : decode cX8_tower 29 = .ok (.bipush 40, 2) := by decide +kernel
theorem dX8_tower_31 : decode cX8_tower 31 = .ok (.if_icmp .gt 31, 3) := by decide +kernel
theorem dX8_tower_34 : decode cX8_tower 34 = .ok (.aload_n 0, 1) := by decide +kernel
theorem dX8_tower_35 : decode cX8_tower 35 = .ok (.iload_n 1, 1) := by decide +kernel
theorem dX8_tower_36 : decode cX8_tower 36 = .ok (.aload_n 0, 1) := by decide +kernel
theorem dX8_tower_37 : decode cX8_tower 37 = .ok (.getfield 9, 3) := by decide +kernel
theorem dX8_tower_40 : decode cX8_tower 40 = .ok (.bipush 11, 2) := by decide +kernel
theorem dX8_tower_42 : decode cX8_tower 42 = .ok (.iload_n 1, 1) := by decide +kernel
theorem dX8_tower_43 : decode cX8_tower 43 = .ok (.iadd, 1) := by decide +kernel
theorem dX8_tower_44 : decode cX8_tower 44 = .ok (.iaload, 1) := by decide +kernel
theorem dX8_tower_45 : decode cX8_tower 45 = .ok (.iload_n 3, 1) := by decide +kernel
theorem dX8_tower_46 : decode cX8_tower 46 = .ok (.iadd, 1) := by decide +kernel
theorem dX8_tower_47 : decode cX8_tower 47 = .ok (.iload_n 2, 1) := by decide +kernel
theorem dX8_tower_48 : decode cX8_tower 48 = .ok (.invokevirtual 59, 3) := by decide +kernel
theorem dX8_tower_51 : decode cX8_tower 51 = .ok (.ifCond .eq 5, 3) := by decide +kernel
theorem dX8_tower_54 : decode cX8_tower 54 = .ok (.iload_n 3, 1) := by decide +kernel
theorem dX8_tower_55 : decode cX8_tower 55 = .ok (.ireturn, 1) := by decide +kernel
theorem dX8_tower_56 : decode cX8_tower 56 = .ok (.iinc 3 1, 3) := by decide +kernel
theorem dX8_tower_59 : decode cX8_tower 59 = .ok (.goto (-31), 3) := by decide +kernel
theorem dX8_tower_62 : decode cX8_tower 62 = .ok (.aload_n 0, 1) := by decide +kernel
theorem dX8_tower_63 : decode cX8_tower 63 = .ok (.ldc 213, 2) := by decide +kernel
theorem dX8_tower_65 : decode cX8_tower 65 = .ok (.invokevirtual 73, 3) := by decide +kernel
theorem dX8_tower_68 : decode cX8_tower 68 = .ok (.ireturn, 1) := by decide +kernel
theorem dX8_sees_0 : decode cX8_sees 0 = .ok (.aload_n 0, 1) := by decide +kernel
theorem dX8_sees_1 : decode cX8_sees 1 = .ok (.getfield 9, 3) := by decide +kernel
theorem dX8_sees_4 : decode cX8_sees 4 = .ok (.bipush 6, 2) := by decide +kernel
theorem dX8_sees_6 : decode cX8_sees 6 = .ok (.iload_n 1, 1) := by decide +kernel
theorem dX8_sees_7 : decode cX8_sees 7 = .ok (.iadd, 1) := by decide +kernel
theorem dX8_sees_8 : decode cX8_sees 8 = .ok (.iaload, 1) := by decide +kernel
theorem dX8_sees_9 : decode cX8_sees 9 = .ok (.istore_n 3, 1) := by decide +kernel
theorem dX8_sees_10 : decode cX8_sees 10 = .ok (.aload_n 0, 1) := by decide +kernel
theorem dX8_sees_11 : decode cX8_sees 11 = .ok (.iload_n 3, 1) := by decide +kernel
theorem dX8_sees_12 : decode cX8_sees 12 = .ok (.aload_n 0, 1) := by decide +kernel
theorem dX8_sees_13 : decode cX8_sees 13 = .ok (.getfield 9, 3) := by decide +kernel
theorem dX8_sees_16 : decode cX8_sees 16 = .ok (.bipush 11, 2) := by decide +kernel
theorem dX8_sees_18 : decode cX8_sees 18 = .ok (.iload_n 3, 1) := by decide +kernel
theorem dX8_sees_19 : decode cX8_sees 19 = .ok (.iadd, 1) := by decide +kernel
theorem dX8_sees_20 : decode cX8_sees 20 = .ok (.iaload, 1) := by decide +kernel
theorem dX8_sees_21 : decode cX8_sees 21 = .ok (.iload_n 2, 1) := by decide +kernel
theorem dX8_sees_22 : decode cX8_sees 22 = .ok (.invokevirtual 59, 3) := by decide +kernel
theorem dX8_sees_25 : decode cX8_sees 25 = .ok (.ireturn, 1) := by decide +kernel
theorem dX8_mutual_0 : decode cX8_mutual 0 = .ok (.iconst 0, 1) := by decide +kernel
theorem dX8_mutual_1 : decode cX8_mutual 1 = .ok (.istore_n 1, 1) := by decide +kernel
theorem dX8_mutual_2 : decode cX8_mutual 2 = .ok (.iconst 0, 1) := by decide +kernel
theorem dX8_mutual_3 : decode cX8_mutual 3 = .ok (.istore_n 2, 1) := by decide +kernel
theorem dX8_mutual_4 : decode cX8_mutual 4 = .ok (.iload_n 2, 1) := by decide +kernel
theorem dX8_mutual_5 : decode cX8_mutual 5 = .ok (.aload_n 0, 1) := by decide +kernel
theorem dX8_mutual_6 : decode cX8_mutual 6 = .ok (.getfield 9, 3) := by decide +kernel
theorem dX8_mutual_9 : decode cX8_mutual 9 = .ok (.iconst 2, 1) := by decide +kernel
theorem dX8_mutual_10 : decode cX8_mutual 10 = .ok (.iaload, 1) := by decide +kernel
theorem dX8_mutual_11 : decode cX8_mutual 11 = .ok (.if_icmp .ge 71, 3) := by decide +kernel
theorem dX8_mutual_14 : decode cX8_mutual 14 = .ok (.iload_n 2, 1) := by decide +kernel
theorem dX8_mutual_15 : decode cX8_mutual 15 = .ok (.iconst 1, 1) := by decide +kernel
theorem dX8_mutual_16 : decode cX8_mutual 16 = .ok (.iadd, 1) := by decide +kernel
theorem dX8_mutual_17 : decode cX8_mutual 17 = .ok (.istore_n 3, 1) := by decide +kernel
theorem dX8_mutual_18 : decode cX8_mutual 18 = .ok (.iload_n 3, 1) := by decide +kernel
theorem dX8_mutual_19 : decode cX8_mutual 19 = .ok (.aload_n 0, 1) := by decide +kernel
theorem dX8_mutual_20 : decode cX8_mutual 20 = .ok (.getfield 9, 3) := by decide +kernel
theorem dX8_mutual_23 : decode cX8_mutual 23 = .ok (.iconst 2, 1) := by decide +kernel
theorem dX8_mutual_24 : decode cX8_mutual 24 = .ok (.iaload, 1) := by decide +kernel
theorem dX8_mutual_25 : decode cX8_mutual 25 = .ok (.if_icmp .ge 51, 3) := by decide +kernel
theorem dX8_mutual_28 : decode cX8_mutual 28 = .ok (.iload_n 1, 1) := by decide +kernel
theorem dX8_mutual_29 : decode cX8_mutual 29 = .ok (.aload_n 0, 1) := by decide +kernel
theorem dX8_mutual_30 : decode cX8_mutual 30 = .ok (.iload_n 2, 1) := by decide +kernel
theorem dX8_mutual_31 : decode cX8_mutual 31 = .ok (.aload_n 0, 1) := by decide +kernel
theorem dX8_mutual_32 : decode cX8_mutual 32 = .ok (.getfield 9, 3) := by decide +kernel
theorem dX8_mutual_35 : decode cX8_mutual 35 = .ok (.bipush 6, 2) := by decide +kernel
theorem dX8_mutual_37 : decode cX8_mutual 37 = .ok (.iload_n 3, 1) := by decide +kernel
theorem dX8_mutual_38 : decode cX8_mutual 38 = .ok (.iadd, 1) := by decide +kernel
theorem dX8_mutual_39 : decode cX8_mutual 39 = .ok (.iaload, 1) := by decide +kernel
theorem dX8_mutual_40 : decode cX8_mutual 40 = .ok (.invokevirtual 214, 3) := by decide +kernel
theorem dX8_mutual_43 : decode cX8_mutual 43 = .ok (.ifCond .eq 24, 3) := by decide +kernel
theorem dX8_mutual_46 : decode cX8_mutual 46 = .ok (.aload_n 0, 1) := by decide +kernel
theorem dX8_mutual_47 : decode cX8_mutual 47 = .ok (.iload_n 3, 1) := by decide +kernel
theorem dX8_mutual_48 : decode cX8_mutual 48 = .ok (.aload_n 0, 1) := by decide +kernel
theorem dX8_mutual_49 : decode cX8_mutual 49 = .ok (.getfield 9, 3) := by decide +kernel
theorem dX8_mutual_52 : decode cX8_mutual 52 = .ok (.bipush 6, 2) := by decide +kernel
theorem dX8_mutual_54 : decode cX8_mutual 54 = .ok (.iload_n 2, 1) := by decide +kernel
theorem dX8_mutual_55 : decode cX8_mutual 55 = .ok (.iadd, 1) := by decide +kernel
theorem dX8_mutual_56 : decode cX8_mutual 56 = .ok (.iaload, 1) := by decide +kernel
theorem dX8_mutual_57 : decode cX8_mutual 57 = .ok (.invokevirtual 214, 3) := by decide +kernel
theorem dX8_mutual_60 : decode cX8_mutual 60 = .ok (.ifCond .eq 7, 3) := by decide +kernel
theorem dX8_mutual_63 : decode cX8_mutual 63 = .ok (.iconst 1, 1) := by decide +kernel
theorem dX8_mutual_64 : decode cX8_mutual 64 = .ok (.goto 4, 3) := by decide +kernel
theorem dX8_mutual_67 : decode cX8_mutual 67 = .ok (.iconst 0, 1) := by decide +kernel
theorem dX8_mutual_68 : decode cX8_mutual 68 = .ok (.iadd, 1) := by decide +kernel
theorem dX8_mutual_69 : decode cX8_mutual 69 = .ok (.istore_n 1, 1) := by decide +kernel
theorem dX8_mutual_70 : decode cX8_mutual 70 = .ok (.iinc 3 1, 3) := by decide +kernel
theorem dX8_mutual_73 : decode cX8_mutual 73 = .ok (.goto (-55), 3) := by decide +kernel
theorem dX8_mutual_76 : decode cX8_mutual 76 = .ok (.iinc 2 1, 3) := by decide +kernel
theorem dX8_mutual_79 : decode cX8_mutual 79 = .ok (.goto (-75), 3) := by decide +kernel
theorem dX8_mutual_82 : decode cX8_mutual 82 = .ok (.iload_n 1, 1) := by decide +kernel
theorem dX8_mutual_83 : decode cX8_mutual 83 = .ok (.ireturn, 1) := by decide +kernel
theorem dX8_unseen_0 : decode cX8_unseen 0 = .ok (.iconst 0, 1) := by decide +kernel
theorem dX8_unseen_1 : decode cX8_unseen 1 = .ok (.istore_n 1, 1) := by decide +kernel
theorem dX8_unseen_2 : decode cX8_unseen 2 = .ok (.iconst 0, 1) := by decide +kernel
theorem dX8_unseen_3 : decode cX8_unseen 3 = .ok (.istore_n 2, 1) := by decide +kernel
theorem dX8_unseen_4 : decode cX8_unseen 4 = .ok (.iload_n 2, 1) := by decide +kernel
theorem dX8_unseen_5 : decode cX8_unseen 5 = .ok (.aload_n 0, 1) := by decide +kernel
theorem dX8_unseen_6 : decode cX8_unseen 6 = .ok (.getfield 9, 3) := by decide +kernel
theorem dX8_unseen_9 : decode cX8_unseen 9 = .ok (.iconst 2, 1) := by decide +kernel
theorem dX8_unseen_10 : decode cX8_unseen 10 = .ok (.iaload, 1) := by decide +kernel
theorem dX8_unseen_11 : decode cX8_unseen 11 = .ok (.if_icmp .ge 39, 3) := by decide +kernel
theorem dX8_unseen_14 : decode cX8_unseen 14 = .ok (.aload_n 0, 1) := by decide +kernel
theorem dX8_unseen_15 : decode cX8_unseen 15 = .ok (.getfield 9, 3) := by decide +kernel
theorem dX8_unseen_18 : decode cX8_unseen 18 = .ok (.bipush 6, 2) := by decide +kernel
theorem dX8_unseen_20 : decode cX8_unseen 20 = .ok (.iload_n 2, 1) := by decide +kernel
theorem dX8_unseen_21 : decode cX8_unseen 21 = .ok (.iadd, 1) := by decide +kernel
theorem dX8_unseen_22 : decode cX8_unseen 22 = .ok (.iaload, 1) := by decide +kernel
theorem dX8_unseen_23 : decode cX8_unseen 23 = .ok (.istore_n 3, 1) := by decide +kernel
theorem dX8_unseen_24 : decode cX8_unseen 24 = .ok (.iload_n 1, 1) := by decide +kernel
theorem dX8_unseen_25 : decode cX8_unseen 25 = .ok (.iconst 1, 1) := by decide +kernel
theorem dX8_unseen_26 : decode cX8_unseen 26 = .ok (.iload_n 3, 1) := by decide +kernel
theorem dX8_unseen_27 : decode cX8_unseen 27 = .ok (.ishl, 1) := by decide +kernel
theorem dX8_unseen_28 : decode cX8_unseen 28 = .ok (.aload_n 0, 1) := by decide +kernel
theorem dX8_unseen_29 : decode cX8_unseen 29 = .ok (.iload_n 3, 1) := by decide +kernel
theorem dX8_unseen_30 : decode cX8_unseen 30 = .ok (.iconst 0, 1) := by decide +kernel
theorem dX8_unseen_31 : decode cX8_unseen 31 = .ok (.invokevirtual 62, 3) := by decide +kernel
theorem dX8_unseen_34 : decode cX8_unseen 34 = .ok (.ior, 1) := by decide +kernel
theorem dX8_unseen_35 : decode cX8_unseen 35 = .ok (.aload_n 0, 1) := by decide +kernel
theorem dX8_unseen_36 : decode cX8_unseen 36 = .ok (.iload_n 3, 1) := by decide +kernel
theorem dX8_unseen_37 : decode cX8_unseen 37 = .ok (.iconst 1, 1) := by decide +kernel
theorem dX8_unseen_38 : decode cX8_unseen 38 = .ok (.invokevirtual 62, 3) := by decide +kernel
theorem dX8_unseen_41 : decode cX8_unseen 41 = .ok (.ior, 1) := by decide +kernel
theorem dX8_unseen_42 : decode cX8_unseen 42 = .ok (.ior, 1) := by decide +kernel
theorem dX8_unseen_43 : decode cX8_unseen 43 = .ok (.istore_n 1, 1) := by decide +kernel
theorem dX8_unseen_44 : decode cX8_unseen 44 = .ok (.iinc 2 1, 3) := by decide +kernel
theorem dX8_unseen_47 : decode cX8_unseen 47 = .ok (.goto (-43), 3) := by decide +kernel
theorem dX8_unseen_50 : decode cX8_unseen 50 = .ok (.ldc 109, 2) := by decide +kernel
theorem dX8_unseen_52 : decode cX8_unseen 52 = .ok (.iload_n 1, 1) := by decide +kernel
theorem dX8_unseen_53 : decode cX8_unseen 53 = .ok (.iconst (-1), 1) := by decide +kernel
theorem dX8_unseen_54 : decode cX8_unseen 54 = .ok (.ixor, 1) := by decide +kernel
theorem dX8_unseen_55 : decode cX8_unseen 55 = .ok (.iand, 1) := by decide +kernel
theorem dX8_unseen_56 : decode cX8_unseen 56 = .ok (.ireturn, 1) := by decide +kernel
theorem dX8_cover_0 : decode cX8_cover 0 = .ok (.iload_n 1, 1) := by decide +kernel
theorem dX8_cover_1 : decode cX8_cover 1 = .ok (.iconst 0, 1) := by decide +kernel
theorem dX8_cover_2 : decode cX8_cover 2 = .ok (.ldc 109, 2) := by decide +kernel
theorem dX8_cover_4 : decode cX8_cover 4 = .ok (.invokestatic 47, 3) := by decide +kernel
theorem dX8_cover_7 : decode cX8_cover 7 = .ok (.ifCond .ne 10, 3) := by decide +kernel
theorem dX8_cover_10 : decode cX8_cover 10 = .ok (.aload_n 0, 1) := by decide +kernel
theorem dX8_cover_11 : decode cX8_cover 11 = .ok (.ldc 72, 2) := by decide +kernel
theorem dX8_cover_13 : decode cX8_cover 13 = .ok (.invokevirtual 73, 3) := by decide +kernel
theorem dX8_cover_16 : decode cX8_cover 16 = .ok (.ireturn, 1) := by decide +kernel
theorem dX8_cover_17 : decode cX8_cover 17 = .ok (.iconst (-1), 1) := by decide +kernel
theorem dX8_cover_18 : decode cX8_cover 18 = .ok (.istore_n 2, 1) := by decide +kernel
theorem dX8_cover_19 : decode cX8_cover 19 = .ok (.iconst 0, 1) := by decide +kernel
theorem dX8_cover_20 : decode cX8_cover 20 = .ok (.istore_n 3, 1) := by decide +kernel
theorem dX8_cover_21 : decode cX8_cover 21 = .ok (.iload_n 3, 1) := by decide +kernel
theorem dX8_cover_22 : decode cX8_cover 22 = .ok (.iconst 1, 1) := by decide +kernel
theorem dX8_cover_23 : decode cX8_cover 23 = .ok (.aload_n 0, 1) := by decide +kernel
theorem dX8_cover_24 : decode cX8_cover 24 = .ok (.getfield 9, 3) := by decide +kernel
theorem dX8_cover_27 : decode cX8_cover 27 = .ok (.iconst 3, 1) := by decide +kernel
theorem dX8_cover_28 : decode cX8_cover 28 = .ok (.iaload, 1) := by decide +kernel
theorem dX8_cover_29 : decode cX8_cover 29 = .ok (.ishl, 1) := by decide +kernel
theorem dX8_cover_30 : decode cX8_cover 30 = .ok (.if_icmp .ge 99, 3) := by decide +kernel
theorem dX8_cover_33 : decode cX8_cover 33 = .ok (.iconst 0, 1) := by decide +kernel
theorem dX8_cover_34 : decode cX8_cover 34 = .ok (.istore 4, 2) := by decide +kernel
theorem dX8_cover_36 : decode cX8_cover 36 = .ok (.iconst 0, 1) := by decide +kernel
theorem dX8_cover_37 : decode cX8_cover 37 = .ok (.istore 5, 2) := by decide +kernel
theorem dX8_cover_39 : decode cX8_cover 39 = .ok (.iload 5, 2) := by decide +kernel
theorem dX8_cover_41 : decode cX8_cover 41 = .ok (.aload_n 0, 1) := by decide +kernel
theorem dX8_cover_42 : decode cX8_cover 42 = .ok (.getfield 9, 3) := by decide +kernel
theorem dX8_cover_45 : decode cX8_cover 45 = .ok (.iconst 3, 1) := by decide +kernel
theorem dX8_cover_46 : decode cX8_cover 46 = .ok (.iaload, 1) := by decide +kernel
theorem dX8_cover_47 : decode cX8_cover 47 = .ok (.if_icmp .ge 34, 3) := by decide +kernel
theorem dX8_cover_50 : decode cX8_cover 50 = .ok (.iload 4, 2) := by decide +kernel
theorem dX8_cover_52 : decode cX8_cover 52 = .ok (.iload_n 3, 1) := by decide +kernel
theorem dX8_cover_53 : decode cX8_cover 53 = .ok (.iload 5, 2) := by decide +kernel
theorem dX8_cover_55 : decode cX8_cover 55 = .ok (.ishr, 1) := by decide +kernel
theorem dX8_cover_56 : decode cX8_cover 56 = .ok (.iconst 1, 1) := by decide +kernel
theorem dX8_cover_57 : decode cX8_cover 57 = .ok (.iand, 1) := by decide +kernel
theorem dX8_cover_58 : decode cX8_cover 58 = .ok (.iconst 1, 1) := by decide +kernel
theorem dX8_cover_59 : decode cX8_cover 59 = .ok (.if_icmp .ne 12, 3) := by decide +kernel
theorem dX8_cover_62 : decode cX8_cover 62 = .ok (.aload_n 0, 1) := by decide +kernel
theorem dX8_cover_63 : decode cX8_cover 63 = .ok (.iload 5, 2) := by decide +kernel
theorem dX8_cover_65 : decode cX8_cover 65 = .ok (.invokevirtual 96, 3) := by decide +kernel
theorem dX8_cover_68 : decode cX8_cover 68 = .ok (.goto 4, 3) := by decide +kernel
theorem dX8_cover_71 : decode cX8_cover 71 = .ok (.iconst 0, 1) := by decide +kernel
theorem dX8_cover_72 : decode cX8_cover 72 = .ok (.ior, 1) := by decide +kernel
theorem dX8_cover_73 : decode cX8_cover 73 = .ok (.istore 4, 2) := by decide +kernel
theorem dX8_cover_75 : decode cX8_cover 75 = .ok (.iinc 5 1, 3) := by decide +kernel
theorem dX8_cover_78 : decode cX8_cover 78 = .ok (.goto (-39), 3) := by decide +kernel
theorem dX8_cover_81 : decode cX8_cover 81 = .ok (.iload_n 1, 1) := by decide +kernel
theorem dX8_cover_82 : decode cX8_cover 82 = .ok (.iload 4, 2) := by decide +kernel
theorem dX8_cover_84 : decode cX8_cover 84 = .ok (.iconst (-1), 1) := by decide +kernel
theorem dX8_cover_85 : decode cX8_cover 85 = .ok (.ixor, 1) := by decide +kernel
theorem dX8_cover_86 : decode cX8_cover 86 = .ok (.iand, 1) := by decide +kernel
theorem dX8_cover_87 : decode cX8_cover 87 = .ok (.ifCond .ne 22, 3) := by decide +kernel
theorem dX8_cover_90 : decode cX8_cover 90 = .ok (.iload_n 2, 1) := by decide +kernel
theorem dX8_cover_91 : decode cX8_cover 91 = .ok (.ifCond .lt 14, 3) := by decide +kernel
theorem dX8_cover_94 : decode cX8_cover 94 = .ok (.iload_n 3, 1) := by decide +kernel
theorem dX8_cover_95 : decode cX8_cover 95 = .ok (.invokestatic 65, 3) := by decide +kernel
theorem dX8_cover_98 : decode cX8_cover 98 = .ok (.iload_n 2, 1) := by decide +kernel
theorem dX8_cover_99 : decode cX8_cover 99 = .ok (.invokestatic 65, 3) := by decide +kernel
theorem dX8_cover_102 : decode cX8_cover 102 = .ok (.if_icmp .ge 7, 3) := by decide +kernel
theorem dX8_cover_105 : decode cX8_cover 105 = .ok (.iconst 1, 1) := by decide +kernel
theorem dX8_cover_106 : decode cX8_cover 106 = .ok (.goto 4, 3) := by decide +kernel
theorem dX8_cover_109 : decode cX8_cover 109 = .ok (.iconst 0, 1) := by decide +kernel
theorem dX8_cover_110 : decode cX8_cover 110 = .ok (.istore 5, 2) := by decide +kernel
theorem dX8_cover_112 : decode cX8_cover 112 = .ok (.iload 5, 2) := by decide +kernel
theorem dX8_cover_114 : decode cX8_cover 114 = .ok (.ifCond .eq 7, 3) := by decide +kernel
theorem dX8_cover_117 : decode cX8_cover 117 = .ok (.iload_n 3, 1) := by decide +kernel
theorem dX8_cover_118 : decode cX8_cover 118 = .ok (.goto 4, 3) := by decide +kernel
theorem dX8_cover_121 : decode cX8_cover 121 = .ok (.iload_n 2, 1) := by decide +kernel
theorem dX8_cover_122 : decode cX8_cover 122 = .ok (.istore_n 2, 1) := by decide +kernel
theorem dX8_cover_123 : decode cX8_cover 123 = .ok (.iinc 3 1, 3) := by decide +kernel
theorem dX8_cover_126 : decode cX8_cover 126 = .ok (.goto (-105), 3) := by decide +kernel
theorem dX8_cover_129 : decode cX8_cover 129 = .ok (.iload_n 2, 1) := by decide +kernel
theorem dX8_cover_130 : decode cX8_cover 130 = .ok (.ifCond .ge 12, 3) := by decide +kernel
theorem dX8_cover_133 : decode cX8_cover 133 = .ok (.aload_n 0, 1) := by decide +kernel
theorem dX8_cover_134 : decode cX8_cover 134 = .ok (.ldc 213, 2) := by decide +kernel
theorem dX8_cover_136 : decode cX8_cover 136 = .ok (.invokevirtual 73, 3) := by decide +kernel
theorem dX8_cover_139 : decode cX8_cover 139 = .ok (.goto 4, 3) := by decide +kernel
theorem dX8_cover_142 : decode cX8_cover 142 = .ok (.iload_n 2, 1) := by decide +kernel
theorem dX8_cover_143 : decode cX8_cover 143 = .ok (.ireturn, 1) := by decide +kernel
theorem dX8_worth_0 : decode cX8_worth 0 = .ok (.iconst 0, 1) := by decide +kernel
theorem dX8_worth_1 : decode cX8_worth 1 = .ok (.istore_n 2, 1) := by decide +kernel
theorem dX8_worth_2 : decode cX8_worth 2 = .ok (.iconst 0, 1) := by decide +kernel
theorem dX8_worth_3 : decode cX8_worth 3 = .ok (.istore_n 3, 1) := by decide +kernel
theorem dX8_worth_4 : decode cX8_worth 4 = .ok (.iconst 0, 1) := by decide +kernel
theorem dX8_worth_5 : decode cX8_worth 5 = .ok (.istore 4, 2) := by decide +kernel
theorem dX8_worth_7 : decode cX8_worth 7 = .ok (.iload 4, 2) := by decide +kernel
theorem dX8_worth_9 : decode cX8_worth 9 = .ok (.aload_n 0, 1) := by decide +kernel
theorem dX8_worth_10 : decode cX8_worth 10 = .ok (.getfield 9, 3) := by decide +kernel
theorem dX8_worth_13 : decode cX8_worth 13 = .ok (.iconst 3, 1) := by decide +kernel
theorem dX8_worth_14 : decode cX8_worth 14 = .ok (.iaload, 1) := by decide +kernel
theorem dX8_worth_15 : decode cX8_worth 15 = .ok (.if_icmp .ge 50, 3) := by decide +kernel
theorem dX8_worth_18 : decode cX8_worth 18 = .ok (.iload_n 1, 1) := by decide +kernel
theorem dX8_worth_19 : decode cX8_worth 19 = .ok (.iload 4, 2) := by decide +kernel
theorem dX8_worth_21 : decode cX8_worth 21 = .ok (.ishr, 1) := by decide +kernel
theorem dX8_worth_22 : decode cX8_worth 22 = .ok (.iconst 1, 1) := by decide +kernel
theorem dX8_worth_23 : decode cX8_worth 23 = .ok (.iand, 1) := by decide +kernel
theorem dX8_worth_24 : decode cX8_worth 24 = .ok (.iconst 1, 1) := by decide +kernel
theorem dX8_worth_25 : decode cX8_worth 25 = .ok (.if_icmp .ne 34, 3) := by decide +kernel
theorem dX8_worth_28 : decode cX8_worth 28 = .ok (.aload_n 0, 1) := by decide +kernel
theorem dX8_worth_29 : decode cX8_worth 29 = .ok (.iload 4, 2) := by decide +kernel
theorem dX8_worth_31 : decode cX8_worth 31 = .ok (.invokevirtual 96, 3) := by decide +kernel
theorem dX8_worth_34 : decode cX8_worth 34 = .ok (.istore 5, 2) := by decide +kernel
theorem dX8_worth_36 : decode cX8_worth 36 = .ok (.iload_n 2, 1) := by decide +kernel
theorem dX8_worth_37 : decode cX8_worth 37 = .ok (.iload 5, 2) := by decide +kernel
theorem dX8_worth_39 : decode cX8_worth 39 = .ok (.iand, 1) := by decide +kernel
theorem dX8_worth_40 : decode cX8_worth 40 = .ok (.ifCond .eq 5, 3) := by decide +kernel
theorem dX8_worth_43 : decode cX8_worth 43 = .ok (.iconst (-1), 1) := by decide +kernel
theorem dX8_worth_44 : decode cX8_worth 44 = .ok (.ireturn, 1) := by decide +kernel
theorem dX8_worth_45 : decode cX8_worth 45 = .ok (.iload_n 2, 1) := by decide +kernel
theorem dX8_worth_46 : decode cX8_worth 46 = .ok (.iload 5, 2) := by decide +kernel
theorem dX8_worth_48 : decode cX8_worth 48 = .ok (.ior, 1) := by decide +kernel
theorem dX8_worth_49 : decode cX8_worth 49 = .ok (.istore_n 2, 1) := by decide +kernel
theorem dX8_worth_50 : decode cX8_worth 50 = .ok (.iload_n 3, 1) := by decide +kernel
theorem dX8_worth_51 : decode cX8_worth 51 = .ok (.aload_n 0, 1) := by decide +kernel
theorem dX8_worth_52 : decode cX8_worth 52 = .ok (.iload 4, 2) := by decide +kernel
theorem dX8_worth_54 : decode cX8_worth 54 = .ok (.invokevirtual 118, 3) := by decide +kernel
theorem dX8_worth_57 : decode cX8_worth 57 = .ok (.iadd, 1) := by decide +kernel
theorem dX8_worth_58 : decode cX8_worth 58 = .ok (.istore_n 3, 1) := by decide +kernel
theorem dX8_worth_59 : decode cX8_worth 59 = .ok (.iinc 4 1, 3) := by decide +kernel
theorem dX8_worth_62 : decode cX8_worth 62 = .ok (.goto (-55), 3) := by decide +kernel
theorem dX8_worth_65 : decode cX8_worth 65 = .ok (.iload_n 3, 1) := by decide +kernel
theorem dX8_worth_66 : decode cX8_worth 66 = .ok (.ireturn, 1) := by decide +kernel
theorem dX8_keeps_0 : decode cX8_keeps 0 = .ok (.iload_n 1, 1) := by decide +kernel
theorem dX8_keeps_1 : decode cX8_keeps 1 = .ok (.iconst 0, 1) := by decide +kernel
theorem dX8_keeps_2 : decode cX8_keeps 2 = .ok (.iconst 1, 1) := by decide +kernel
theorem dX8_keeps_3 : decode cX8_keeps 3 = .ok (.invokestatic 47, 3) := by decide +kernel
theorem dX8_keeps_6 : decode cX8_keeps 6 = .ok (.ifCond .ne 10, 3) := by decide +kernel
theorem dX8_keeps_9 : decode cX8_keeps 9 = .ok (.aload_n 0, 1) := by decide +kernel
theorem dX8_keeps_10 : decode cX8_keeps 10 = .ok (.ldc 72, 2) := by decide +kernel
theorem dX8_keeps_12 : decode cX8_keeps 12 = .ok (.invokevirtual 73, 3) := by decide +kernel
theorem dX8_keeps_15 : decode cX8_keeps 15 = .ok (.ireturn, 1) := by decide +kernel
theorem dX8_keeps_16 : decode cX8_keeps 16 = .ok (.iconst 0, 1) := by decide +kernel
theorem dX8_keeps_17 : decode cX8_keeps 17 = .ok (.istore_n 2, 1) := by decide +kernel
theorem dX8_keeps_18 : decode cX8_keeps 18 = .ok (.iconst 0, 1) := by decide +kernel
theorem dX8_keeps_19 : decode cX8_keeps 19 = .ok (.istore_n 3, 1) := by decide +kernel
theorem dX8_keeps_20 : decode cX8_keeps 20 = .ok (.iconst 1, 1) := by decide +kernel
theorem dX8_keeps_21 : decode cX8_keeps 21 = .ok (.istore 4, 2) := by decide +kernel
theorem dX8_keeps_23 : decode cX8_keeps 23 = .ok (.iload 4, 2) := by decide +kernel
theorem dX8_keeps_25 : decode cX8_keeps 25 = .ok (.iconst 1, 1) := by decide +kernel
theorem dX8_keeps_26 : decode cX8_keeps 26 = .ok (.aload_n 0, 1) := by decide +kernel
theorem dX8_keeps_27 : decode cX8_keeps 27 = .ok (.getfield 9, 3) := by decide +kernel
theorem dX8_keeps_30 : decode cX8_keeps 30 = .ok (.iconst 3, 1) := by decide +kernel
theorem dX8_keeps_31 : decode cX8_keeps 31 = .ok (.iaload, 1) := by decide +kernel
theorem dX8_keeps_32 : decode cX8_keeps 32 = .ok (.ishl, 1) := by decide +kernel
theorem dX8_keeps_33 : decode cX8_keeps 33 = .ok (.if_icmp .ge 43, 3) := by decide +kernel
theorem dX8_keeps_36 : decode cX8_keeps 36 = .ok (.aload_n 0, 1) := by decide +kernel
theorem dX8_keeps_37 : decode cX8_keeps 37 = .ok (.iload 4, 2) := by decide +kernel
theorem dX8_keeps_39 : decode cX8_keeps 39 = .ok (.invokevirtual 217, 3) := by decide +kernel
theorem dX8_keeps_42 : decode cX8_keeps 42 = .ok (.istore 5, 2) := by decide +kernel
theorem dX8_keeps_44 : decode cX8_keeps 44 = .ok (.iload 5, 2) := by decide +kernel
theorem dX8_keeps_46 : decode cX8_keeps 46 = .ok (.iload_n 3, 1) := by decide +kernel
theorem dX8_keeps_47 : decode cX8_keeps 47 = .ok (.if_icmp .le 8, 3) := by decide +kernel
theorem dX8_keeps_50 : decode cX8_keeps 50 = .ok (.iload 4, 2) := by decide +kernel
theorem dX8_keeps_52 : decode cX8_keeps 52 = .ok (.goto 4, 3) := by decide +kernel
theorem dX8_keeps_55 : decode cX8_keeps 55 = .ok (.iload_n 2, 1) := by decide +kernel
theorem dX8_keeps_56 : decode cX8_keeps 56 = .ok (.istore_n 2, 1) := by decide +kernel
theorem dX8_keeps_57 : decode cX8_keeps 57 = .ok (.iload 5, 2) := by decide +kernel
theorem dX8_keeps_59 : decode cX8_keeps 59 = .ok (.iload_n 3, 1) := by decide +kernel
theorem dX8_keeps_60 : decode cX8_keeps 60 = .ok (.if_icmp .le 8, 3) := by decide +kernel
theorem dX8_keeps_63 : decode cX8_keeps 63 = .ok (.iload 5, 2) := by decide +kernel
theorem dX8_keeps_65 : decode cX8_keeps 65 = .ok (.goto 4, 3) := by decide +kernel
theorem dX8_keeps_68 : decode cX8_keeps 68 = .ok (.iload_n 3, 1) := by decide +kernel
theorem dX8_keeps_69 : decode cX8_keeps 69 = .ok (.istore_n 3, 1) := by decide +kernel
theorem dX8_keeps_70 : decode cX8_keeps 70 = .ok (.iinc 4 1, 3) := by decide +kernel
theorem dX8_keeps_73 : decode cX8_keeps 73 = .ok (.goto (-50), 3) := by decide +kernel
theorem dX8_keeps_76 : decode cX8_keeps 76 = .ok (.iload_n 1, 1) := by decide +kernel
theorem dX8_keeps_77 : decode cX8_keeps 77 = .ok (.ifCond .ne 7, 3) := by decide +kernel
theorem dX8_keeps_80 : decode cX8_keeps 80 = .ok (.iload_n 2, 1) := by decide +kernel
theorem dX8_keeps_81 : decode cX8_keeps 81 = .ok (.goto 4, 3) := by decide +kernel
theorem dX8_keeps_84 : decode cX8_keeps 84 = .ok (.iload_n 3, 1) := by decide +kernel
theorem dX8_keeps_85 : decode cX8_keeps 85 = .ok (.ireturn, 1) := by decide +kernel
theorem dX8_blend_0 : decode cX8_blend 0 = .ok (.aload_n 0, 1) := by decide +kernel
theorem dX8_blend_1 : decode cX8_blend 1 = .ok (.iload_n 1, 1) := by decide +kernel
theorem dX8_blend_2 : decode cX8_blend 2 = .ok (.invokevirtual 115, 3) := by decide +kernel
theorem dX8_blend_5 : decode cX8_blend 5 = .ok (.ifCond .eq 16, 3) := by decide +kernel
theorem dX8_blend_8 : decode cX8_blend 8 = .ok (.aload_n 0, 1) := by decide +kernel
theorem dX8_blend_9 : decode cX8_blend 9 = .ok (.iload_n 2, 1) := by decide +kernel
theorem dX8_blend_10 : decode cX8_blend 10 = .ok (.invokevirtual 115, 3) := by decide +kernel
theorem dX8_blend_13 : decode cX8_blend 13 = .ok (.ifCond .eq 8, 3) := by decide +kernel
theorem dX8_blend_16 : decode cX8_blend 16 = .ok (.iload_n 1, 1) := by decide +kernel
theorem dX8_blend_17 : decode cX8_blend 17 = .ok (.iload_n 2, 1) := by decide +kernel
theorem dX8_blend_18 : decode cX8_blend 18 = .ok (.if_icmp .ne 10, 3) := by decide +kernel
theorem dX8_blend_21 : decode cX8_blend 21 = .ok (.aload_n 0, 1) := by decide +kernel
theorem dX8_blend_22 : decode cX8_blend 22 = .ok (.ldc 72, 2) := by decide +kernel
theorem dX8_blend_24 : decode cX8_blend 24 = .ok (.invokevirtual 73, 3) := by decide +kernel
theorem dX8_blend_27 : decode cX8_blend 27 = .ok (.ireturn, 1) := by decide +kernel
theorem dX8_blend_28 : decode cX8_blend 28 = .ok (.aload_n 0, 1) := by decide +kernel
theorem dX8_blend_29 : decode cX8_blend 29 = .ok (.iload_n 1, 1) := by decide +kernel
theorem dX8_blend_30 : decode cX8_blend 30 = .ok (.invokevirtual 96, 3) := by decide +kernel
theorem dX8_blend_33 : decode cX8_blend 33 = .ok (.istore_n 3, 1) := by decide +kernel
theorem dX8_blend_34 : decode cX8_blend 34 = .ok (.aload_n 0, 1) := by decide +kernel
theorem dX8_blend_35 : decode cX8_blend 35 = .ok (.iload_n 2, 1) := by decide +kernel
theorem dX8_blend_36 : decode cX8_blend 36 = .ok (.invokevirtual 96, 3) := by decide +kernel
theorem dX8_blend_39 : decode cX8_blend 39 = .ok (.istore 4, 2) := by decide +kernel
theorem dX8_blend_41 : decode cX8_blend 41 = .ok (.iload_n 3, 1) := by decide +kernel
theorem dX8_blend_42 : decode cX8_blend 42 = .ok (.iload 4, 2) := by decide +kernel
theorem dX8_blend_44 : decode cX8_blend 44 = .ok (.iand, 1) := by decide +kernel
theorem dX8_blend_45 : decode cX8_blend 45 = .ok (.ifCond .ne 20, 3) := by decide +kernel
theorem dX8_blend_48 : decode cX8_blend 48 = .ok (.iload_n 3, 1) := by decide +kernel
theorem dX8_blend_49 : decode cX8_blend 49 = .ok (.iconst 1, 1) := by decide +kernel
theorem dX8_blend_50 : decode cX8_blend 50 = .ok (.ishl, 1) := by decide +kernel
theorem dX8_blend_51 : decode cX8_blend 51 = .ok (.iload_n 3, 1) := by decide +kernel
theorem dX8_blend_52 : decode cX8_blend 52 = .ok (.iconst 1, 1) := by decide +kernel
theorem dX8_blend_53 : decode cX8_blend 53 = .ok (.ishr, 1) := by decide +kernel
theorem dX8_blend_54 : decode cX8_blend 54 = .ok (.ior, 1) := by decide +kernel
theorem dX8_blend_55 : decode cX8_blend 55 = .ok (.iload 4, 2) := by decide +kernel
theorem dX8_blend_57 : decode cX8_blend 57 = .ok (.iand, 1) := by decide +kernel
theorem dX8_blend_58 : decode cX8_blend 58 = .ok (.ifCond .eq 7, 3) := by decide +kernel
theorem dX8_blend_61 : decode cX8_blend 61 = .ok (.iconst 1, 1) := by decide +kernel
theorem dX8_blend_62 : decode cX8_blend 62 = .ok (.goto 4, 3) := by decide +kernel
theorem dX8_blend_65 : decode cX8_blend 65 = .ok (.iconst 0, 1) := by decide +kernel
theorem dX8_blend_66 : decode cX8_blend 66 = .ok (.istore 5, 2) := by decide +kernel
theorem dX8_blend_68 : decode cX8_blend 68 = .ok (.iload 5, 2) := by decide +kernel
theorem dX8_blend_70 : decode cX8_blend 70 = .ok (.ifCond .eq 10, 3) := by decide +kernel
theorem dX8_blend_73 : decode cX8_blend 73 = .ok (.iload_n 3, 1) := by decide +kernel
theorem dX8_blend_74 : decode cX8_blend 74 = .ok (.iload 4, 2) := by decide +kernel
theorem dX8_blend_76 : decode cX8_blend 76 = .ok (.ior, 1) := by decide +kernel
theorem dX8_blend_77 : decode cX8_blend 77 = .ok (.goto 9, 3) := by decide +kernel
theorem dX8_blend_80 : decode cX8_blend 80 = .ok (.aload_n 0, 1) := by decide +kernel
theorem dX8_blend_81 : decode cX8_blend 81 = .ok (.ldc 110, 2) := by decide +kernel
theorem dX8_blend_83 : decode cX8_blend 83 = .ok (.invokevirtual 73, 3) := by decide +kernel
theorem dX8_blend_86 : decode cX8_blend 86 = .ok (.ireturn, 1) := by decide +kernel
theorem dX8_thief_0 : decode cX8_thief 0 = .ok (.iload_n 1, 1) := by decide +kernel
theorem dX8_thief_1 : decode cX8_thief 1 = .ok (.iconst 1, 1) := by decide +kernel
theorem dX8_thief_2 : decode cX8_thief 2 = .ok (.ldc 109, 2) := by decide +kernel
theorem dX8_thief_4 : decode cX8_thief 4 = .ok (.invokestatic 47, 3) := by decide +kernel
theorem dX8_thief_7 : decode cX8_thief 7 = .ok (.ifCond .ne 10, 3) := by decide +kernel
theorem dX8_thief_10 : decode cX8_thief 10 = .ok (.aload_n 0, 1) := by decide +kernel
theorem dX8_thief_11 : decode cX8_thief 11 = .ok (.ldc 72, 2) := by decide +kernel
theorem dX8_thief_13 : decode cX8_thief 13 = .ok (.invokevirtual 73, 3) := by decide +kernel
theorem dX8_thief_16 : decode cX8_thief 16 = .ok (.ireturn, 1) := by decide +kernel
theorem dX8_thief_17 : decode cX8_thief 17 = .ok (.aload_n 0, 1) := by decide +kernel
theorem dX8_thief_18 : decode cX8_thief 18 = .ok (.invokevirtual 207, 3) := by decide +kernel
theorem dX8_thief_21 : decode cX8_thief 21 = .ok (.iconst 0, 1) := by decide +kernel
theorem dX8_thief_22 : decode cX8_thief 22 = .ok (.istore_n 2, 1) := by decide +kernel
theorem dX8_thief_23 : decode cX8_thief 23 = .ok (.iload_n 2, 1) := by decide +kernel
theorem dX8_thief_24 : decode cX8_thief 24 = .ok (.bipush 20, 2) := by decide +kernel
theorem dX8_thief_26 : decode cX8_thief 26 = .ok (.if_icmp .ge 40, 3) := by decide +kernel
theorem dX8_thief_29 : decode cX8_thief 29 = .ok (.aload_n 0, 1) := by decide +kernel
theorem dX8_thief_30 : decode cX8_thief 30 = .ok (.getfield 9, 3) := by decide +kernel
theorem dX8_thief_33 : decode cX8_thief 33 = .ok (.bipush 31, 2) := by decide +kernel
theorem dX8_thief_35 : decode cX8_thief 35 = .ok (.iload_n 2, 1) := by decide +kernel
theorem dX8_thief_36 : decode cX8_thief 36 = .ok (.iadd, 1) := by decide +kernel
theorem dX8_thief_37 : decode cX8_thief 37 = .ok (.iload_n 1, 1) := by decide +kernel
theorem dX8_thief_38 : decode cX8_thief 38 = .ok (.iload_n 2, 1) := by decide +kernel
theorem dX8_thief_39 : decode cX8_thief 39 = .ok (.ishr, 1) := by decide +kernel
theorem dX8_thief_40 : decode cX8_thief 40 = .ok (.iconst 1, 1) := by decide +kernel
theorem dX8_thief_41 : decode cX8_thief 41 = .ok (.iand, 1) := by decide +kernel
theorem dX8_thief_42 : decode cX8_thief 42 = .ok (.iconst 1, 1) := by decide +kernel
theorem dX8_thief_43 : decode cX8_thief 43 = .ok (.if_icmp .ne 7, 3) := by decide +kernel
theorem dX8_thief_46 : decode cX8_thief 46 = .ok (.iconst 0, 1) := by decide +kernel
theorem dX8_thief_47 : decode cX8_thief 47 = .ok (.goto 12, 3) := by decide +kernel
theorem dX8_thief_50 : decode cX8_thief 50 = .ok (.aload_n 0, 1) := by decide +kernel
theorem dX8_thief_51 : decode cX8_thief 51 = .ok (.getfield 9, 3) := by decide +kernel
theorem dX8_thief_54 : decode cX8_thief 54 = .ok (.bipush 31, 2) := by decide +kernel
theorem dX8_thief_56 : decode cX8_thief 56 = .ok (.iload_n 2, 1) := by decide +kernel
theorem dX8_thief_57 : decode cX8_thief 57 = .ok (.iadd, 1) := by decide +kernel
theorem dX8_thief_58 : decode cX8_thief 58 = .ok (.iaload, 1) := by decide +kernel
theorem dX8_thief_59 : decode cX8_thief 59 = .ok (.iastore, 1) := by decide +kernel
theorem dX8_thief_60 : decode cX8_thief 60 = .ok (.iinc 2 1, 3) := by decide +kernel
theorem dX8_thief_63 : decode cX8_thief 63 = .ok (.goto (-40), 3) := by decide +kernel
theorem dX8_thief_66 : decode cX8_thief 66 = .ok (.iconst 0, 1) := by decide +kernel
theorem dX8_thief_67 : decode cX8_thief 67 = .ok (.istore_n 2, 1) := by decide +kernel
theorem dX8_thief_68 : decode cX8_thief 68 = .ok (.iconst 0, 1) := by decide +kernel
theorem dX8_thief_69 : decode cX8_thief 69 = .ok (.istore_n 3, 1) := by decide +kernel
theorem dX8_thief_70 : decode cX8_thief 70 = .ok (.iload_n 3, 1) := by decide +kernel
theorem dX8_thief_71 : decode cX8_thief 71 = .ok (.bipush 20, 2) := by decide +kernel
theorem dX8_thief_73 : decode cX8_thief 73 = .ok (.if_icmp .ge 45, 3) := by decide +kernel
theorem dX8_thief_76 : decode cX8_thief 76 = .ok (.iload_n 2, 1) := by decide +kernel
theorem dX8_thief_77 : decode cX8_thief 77 = .ok (.iload_n 1, 1) := by decide +kernel
theorem dX8_thief_78 : decode cX8_thief 78 = .ok (.aload_n 0, 1) := by decide +kernel
theorem dX8_thief_79 : decode cX8_thief 79 = .ok (.iload_n 3, 1) := by decide +kernel
theorem dX8_thief_80 : decode cX8_thief 80 = .ok (.iconst 0, 1) := by decide +kernel
theorem dX8_thief_81 : decode cX8_thief 81 = .ok (.invokevirtual 62, 3) := by decide +kernel
theorem dX8_thief_84 : decode cX8_thief 84 = .ok (.iconst (-1), 1) := by decide +kernel
theorem dX8_thief_85 : decode cX8_thief 85 = .ok (.ixor, 1) := by decide +kernel
theorem dX8_thief_86 : decode cX8_thief 86 = .ok (.iand, 1) := by decide +kernel
theorem dX8_thief_87 : decode cX8_thief 87 = .ok (.ifCond .eq 16, 3) := by decide +kernel
theorem dX8_thief_90 : decode cX8_thief 90 = .ok (.iload_n 1, 1) := by decide +kernel
theorem dX8_thief_91 : decode cX8_thief 91 = .ok (.aload_n 0, 1) := by decide +kernel
theorem dX8_thief_92 : decode cX8_thief 92 = .ok (.iload_n 3, 1) := by decide +kernel
theorem dX8_thief_93 : decode cX8_thief 93 = .ok (.iconst 1, 1) := by decide +kernel
theorem dX8_thief_94 : decode cX8_thief 94 = .ok (.invokevirtual 62, 3) := by decide +kernel
theorem dX8_thief_97 : decode cX8_thief 97 = .ok (.iconst (-1), 1) := by decide +kernel
theorem dX8_thief_98 : decode cX8_thief 98 = .ok (.ixor, 1) := by decide +kernel
theorem dX8_thief_99 : decode cX8_thief 99 = .ok (.iand, 1) := by decide +kernel
theorem dX8_thief_100 : decode cX8_thief 100 = .ok (.ifCond .ne 9, 3) := by decide +kernel
theorem dX8_thief_103 : decode cX8_thief 103 = .ok (.iconst 1, 1) := by decide +kernel
theorem dX8_thief_104 : decode cX8_thief 104 = .ok (.iload_n 3, 1) := by decide +kernel
theorem dX8_thief_105 : decode cX8_thief 105 = .ok (.ishl, 1) := by decide +kernel
theorem dX8_thief_106 : decode cX8_thief 106 = .ok (.goto 4, 3) := by decide +kernel
theorem dX8_thief_109 : decode cX8_thief 109 = .ok (.iconst 0, 1) := by decide +kernel
theorem dX8_thief_110 : decode cX8_thief 110 = .ok (.ior, 1) := by decide +kernel
theorem dX8_thief_111 : decode cX8_thief 111 = .ok (.istore_n 2, 1) := by decide +kernel
theorem dX8_thief_112 : decode cX8_thief 112 = .ok (.iinc 3 1, 3) := by decide +kernel
theorem dX8_thief_115 : decode cX8_thief 115 = .ok (.goto (-45), 3) := by decide +kernel
theorem dX8_thief_118 : decode cX8_thief 118 = .ok (.aload_n 0, 1) := by decide +kernel
theorem dX8_thief_119 : decode cX8_thief 119 = .ok (.invokevirtual 210, 3) := by decide +kernel
theorem dX8_thief_122 : decode cX8_thief 122 = .ok (.iload_n 2, 1) := by decide +kernel
theorem dX8_thief_123 : decode cX8_thief 123 = .ok (.ireturn, 1) := by decide +kernel
theorem dX8_both_0 : decode cX8_both 0 = .ok (.iconst 0, 1) := by decide +kernel
theorem dX8_both_1 : decode cX8_both 1 = .ok (.istore_n 1, 1) := by decide +kernel
theorem dX8_both_2 : decode cX8_both 2 = .ok (.iconst 0, 1) := by decide +kernel
theorem dX8_both_3 : decode cX8_both 3 = .ok (.istore_n 2, 1) := by decide +kernel
theorem dX8_both_4 : decode cX8_both 4 = .ok (.iconst 0, 1) := by decide +kernel
theorem dX8_both_5 : decode cX8_both 5 = .ok (.istore_n 3, 1) := by decide +kernel
theorem dX8_both_6 : decode cX8_both 6 = .ok (.iload_n 3, 1) := by decide +kernel
theorem dX8_both_7 : decode cX8_both 7 = .ok (.aload_n 0, 1) := by decide +kernel
theorem dX8_both_8 : decode cX8_both 8 = .ok (.getfield 9, 3) := by decide +kernel
theorem dX8_both_11 : decode cX8_both 11 = .ok (.iconst 2, 1) := by decide +kernel
theorem dX8_both_12 : decode cX8_both 12 = .ok (.iaload, 1) := by decide +kernel
theorem dX8_both_13 : decode cX8_both 13 = .ok (.if_icmp .ge 43, 3) := by decide +kernel
theorem dX8_both_16 : decode cX8_both 16 = .ok (.iload_n 1, 1) := by decide +kernel
theorem dX8_both_17 : decode cX8_both 17 = .ok (.aload_n 0, 1) := by decide +kernel
theorem dX8_both_18 : decode cX8_both 18 = .ok (.aload_n 0, 1) := by decide +kernel
theorem dX8_both_19 : decode cX8_both 19 = .ok (.getfield 9, 3) := by decide +kernel
theorem dX8_both_22 : decode cX8_both 22 = .ok (.bipush 6, 2) := by decide +kernel
theorem dX8_both_24 : decode cX8_both 24 = .ok (.iload_n 3, 1) := by decide +kernel
theorem dX8_both_25 : decode cX8_both 25 = .ok (.iadd, 1) := by decide +kernel
theorem dX8_both_26 : decode cX8_both 26 = .ok (.iaload, 1) := by decide +kernel
theorem dX8_both_27 : decode cX8_both 27 = .ok (.iconst 0, 1) := by decide +kernel
theorem dX8_both_28 : decode cX8_both 28 = .ok (.invokevirtual 62, 3) := by decide +kernel
theorem dX8_both_31 : decode cX8_both 31 = .ok (.ior, 1) := by decide +kernel
theorem dX8_both_32 : decode cX8_both 32 = .ok (.istore_n 1, 1) := by decide +kernel
theorem dX8_both_33 : decode cX8_both 33 = .ok (.iload_n 2, 1) := by decide +kernel
theorem dX8_both_34 : decode cX8_both 34 = .ok (.aload_n 0, 1) := by decide +kernel
theorem dX8_both_35 : decode cX8_both 35 = .ok (.aload_n 0, 1) := by decide +kernel
theorem dX8_both_36 : decode cX8_both 36 = .ok (.getfield 9, 3) := by decide +kernel
theorem dX8_both_39 : decode cX8_both 39 = .ok (.bipush 6, 2) := by decide +kernel
theorem dX8_both_41 : decode cX8_both 41 = .ok (.iload_n 3, 1) := by decide +kernel
theorem dX8_both_42 : decode cX8_both 42 = .ok (.iadd, 1) := by decide +kernel
theorem dX8_both_43 : decode cX8_both 43 = .ok (.iaload, 1) := by decide +kernel
theorem dX8_both_44 : decode cX8_both 44 = .ok (.iconst 1, 1) := by decide +kernel
theorem dX8_both_45 : decode cX8_both 45 = .ok (.invokevirtual 62, 3) := by decide +kernel
theorem dX8_both_48 : decode cX8_both 48 = .ok (.ior, 1) := by decide +kernel
theorem dX8_both_49 : decode cX8_both 49 = .ok (.istore_n 2, 1) := by decide +kernel
