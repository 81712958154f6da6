theorem dX2_advance_70 : decode cX2_advance 70 = .ok (.iload_n 2, 1) := by decide +kernel
theorem dX2_advance_71 : decode cX2_advance 71 = .ok (.tableswitch 82 7 10 #[29, 41, 50, 60], 29) := by decide +kernel
theorem dX2_advance_100 : decode cX2_advance 100 = .ok (.aload_n 0, 1) := by decide +kernel
theorem dX2_advance_101 : decode cX2_advance 101 = .ok (.iload_n 3, 1) := by decide +kernel
theorem dX2_advance_102 : decode cX2_advance 102 = .ok (.iload 4, 2) := by decide +kernel
theorem dX2_advance_104 : decode cX2_advance 104 = .ok (.invokevirtual 64, 3) := by decide +kernel
theorem dX2_advance_107 : decode cX2_advance 107 = .ok (.istore 5, 2) := by decide +kernel
theorem dX2_advance_109 : decode cX2_advance 109 = .ok (.goto 82, 3) := by decide +kernel
theorem dX2_advance_112 : decode cX2_advance 112 = .ok (.aload_n 0, 1) := by decide +kernel
theorem dX2_advance_113 : decode cX2_advance 113 = .ok (.invokevirtual 68, 3) := by decide +kernel
theorem dX2_advance_116 : decode cX2_advance 116 = .ok (.istore 5, 2) := by decide +kernel
theorem dX2_advance_118 : decode cX2_advance 118 = .ok (.goto 73, 3) := by decide +kernel
theorem dX2_advance_121 : decode cX2_advance 121 = .ok (.aload_n 0, 1) := by decide +kernel
theorem dX2_advance_122 : decode cX2_advance 122 = .ok (.iload_n 3, 1) := by decide +kernel
theorem dX2_advance_123 : decode cX2_advance 123 = .ok (.invokevirtual 72, 3) := by decide +kernel
theorem dX2_advance_126 : decode cX2_advance 126 = .ok (.istore 5, 2) := by decide +kernel
theorem dX2_advance_128 : decode cX2_advance 128 = .ok (.goto 63, 3) := by decide +kernel
theorem dX2_advance_131 : decode cX2_advance 131 = .ok (.aload_n 0, 1) := by decide +kernel
theorem dX2_advance_132 : decode cX2_advance 132 = .ok (.aload_n 0, 1) := by decide +kernel
theorem dX2_advance_133 : decode cX2_advance 133 = .ok (.getfield 34, 3) := by decide +kernel
theorem dX2_advance_136 : decode cX2_advance 136 = .ok (.ifCond .eq 7, 3) := by decide +kernel
theorem dX2_advance_139 : decode cX2_advance 139 = .ok (.iload_n 3, 1) := by decide +kernel
theorem dX2_advance_140 : decode cX2_advance 140 = .ok (.goto 5, 3) := by decide +kernel
theorem dX2_advance_143 : decode cX2_advance 143 = .ok (.iload 4, 2) := by decide +kernel
theorem dX2_advance_145 : decode cX2_advance 145 = .ok (.invokevirtual 72, 3) := by decide +kernel
theorem dX2_advance_148 : decode cX2_advance 148 = .ok (.istore 5, 2) := by decide +kernel
theorem dX2_advance_150 : decode cX2_advance 150 = .ok (.goto 41, 3) := by decide +kernel
theorem dX2_advance_153 : decode cX2_advance 153 = .ok (.aload_n 0, 1) := by decide +kernel
theorem dX2_advance_154 : decode cX2_advance 154 = .ok (.iload_n 2, 1) := by decide +kernel
theorem dX2_advance_155 : decode cX2_advance 155 = .ok (.iload_n 3, 1) := by decide +kernel
theorem dX2_advance_156 : decode cX2_advance 156 = .ok (.aload_n 0, 1) := by decide +kernel
theorem dX2_advance_157 : decode cX2_advance 157 = .ok (.getfield 21, 3) := by decide +kernel
theorem dX2_advance_160 : decode cX2_advance 160 = .ok (.aload_n 0, 1) := by decide +kernel
theorem dX2_advance_161 : decode cX2_advance 161 = .ok (.getfield 43, 3) := by decide +kernel
theorem dX2_advance_164 : decode cX2_advance 164 = .ok (.iconst 2, 1) := by decide +kernel
theorem dX2_advance_165 : decode cX2_advance 165 = .ok (.iadd, 1) := by decide +kernel
theorem dX2_advance_166 : decode cX2_advance 166 = .ok (.invokevirtual 60, 3) := by decide +kernel
theorem dX2_advance_169 : decode cX2_advance 169 = .ok (.invokevirtual 76, 3) := by decide +kernel
theorem dX2_advance_172 : decode cX2_advance 172 = .ok (.ifCond .eq 16, 3) := by decide +kernel
theorem dX2_advance_175 : decode cX2_advance 175 = .ok (.aload_n 0, 1) := by decide +kernel
theorem dX2_advance_176 : decode cX2_advance 176 = .ok (.iload 4, 2) := by decide +kernel
theorem dX2_advance_178 : decode cX2_advance 178 = .ok (.invokevirtual 72, 3) := by decide +kernel
theorem dX2_advance_181 : decode cX2_advance 181 = .ok (.ifCond .eq 7, 3) := by decide +kernel
theorem dX2_advance_184 : decode cX2_advance 184 = .ok (.iconst 1, 1) := by decide +kernel
theorem dX2_advance_185 : decode cX2_advance 185 = .ok (.goto 4, 3) := by decide +kernel
theorem dX2_advance_188 : decode cX2_advance 188 = .ok (.iconst 0, 1) := by decide +kernel
theorem dX2_advance_189 : decode cX2_advance 189 = .ok (.istore 5, 2) := by decide +kernel
theorem dX2_advance_191 : decode cX2_advance 191 = .ok (.iload 5, 2) := by decide +kernel
theorem dX2_advance_193 : decode cX2_advance 193 = .ok (.ifCond .eq 7, 3) := by decide +kernel
theorem dX2_advance_196 : decode cX2_advance 196 = .ok (.iconst 0, 1) := by decide +kernel
theorem dX2_advance_197 : decode cX2_advance 197 = .ok (.goto 4, 3) := by decide +kernel
theorem dX2_advance_200 : decode cX2_advance 200 = .ok (.iconst 2, 1) := by decide +kernel
theorem dX2_advance_201 : decode cX2_advance 201 = .ok (.ireturn, 1) := by decide +kernel
theorem dX2_carryOut_0 : decode cX2_carryOut 0 = .ok (.iload_n 1, 1) := by decide +kernel
theorem dX2_carryOut_1 : decode cX2_carryOut 1 = .ok (.tableswitch 219 1 15 #[75, 86, 117, 128, 139, 151, 219, 219, 219, 219, 162, 171, 178, 190, 207], 75) := by decide +kernel
theorem dX2_carryOut_76 : decode cX2_carryOut 76 = .ok (.aload_n 0, 1) := by decide +kernel
theorem dX2_carryOut_77 : decode cX2_carryOut 77 = .ok (.aload_n 0, 1) := by decide +kernel
theorem dX2_carryOut_78 : decode cX2_carryOut 78 = .ok (.getfield 15, 3) := by decide +kernel
theorem dX2_carryOut_81 : decode cX2_carryOut 81 = .ok (.iload_n 2, 1) := by decide +kernel
theorem dX2_carryOut_82 : decode cX2_carryOut 82 = .ok (.iaload, 1) := by decide +kernel
theorem dX2_carryOut_83 : decode cX2_carryOut 83 = .ok (.invokevirtual 80, 3) := by decide +kernel
theorem dX2_carryOut_86 : decode cX2_carryOut 86 = .ok (.ireturn, 1) := by decide +kernel
theorem dX2_carryOut_87 : decode cX2_carryOut 87 = .ok (.aload_n 0, 1) := by decide +kernel
theorem dX2_carryOut_88 : decode cX2_carryOut 88 = .ok (.iload_n 2, 1) := by decide +kernel
theorem dX2_carryOut_89 : decode cX2_carryOut 89 = .ok (.aload_n 0, 1) := by decide +kernel
theorem dX2_carryOut_90 : decode cX2_carryOut 90 = .ok (.getfield 31, 3) := by decide +kernel
theorem dX2_carryOut_93 : decode cX2_carryOut 93 = .ok (.invokevirtual 83, 3) := by decide +kernel
theorem dX2_carryOut_96 : decode cX2_carryOut 96 = .ok (.ifCond .eq 20, 3) := by decide +kernel
theorem dX2_carryOut_99 : decode cX2_carryOut 99 = .ok (.aload_n 0, 1) := by decide +kernel
theorem dX2_carryOut_100 : decode cX2_carryOut 100 = .ok (.aload_n 0, 1) := by decide +kernel
theorem dX2_carryOut_101 : decode cX2_carryOut 101 = .ok (.getfield 31, 3) := by decide +kernel
theorem dX2_carryOut_104 : decode cX2_carryOut 104 = .ok (.iconst 1, 1) := by decide +kernel
theorem dX2_carryOut_105 : decode cX2_carryOut 105 = .ok (.iadd, 1) := by decide +kernel
theorem dX2_carryOut_106 : decode cX2_carryOut 106 = .ok (.invokevirtual 86, 3) := by decide +kernel
theorem dX2_carryOut_109 : decode cX2_carryOut 109 = .ok (.ifCond .eq 7, 3) := by decide +kernel
theorem dX2_carryOut_112 : decode cX2_carryOut 112 = .ok (.iconst 1, 1) := by decide +kernel
theorem dX2_carryOut_113 : decode cX2_carryOut 113 = .ok (.goto 4, 3) := by decide +kernel
theorem dX2_carryOut_116 : decode cX2_carryOut 116 = .ok (.iconst 0, 1) := by decide +kernel
theorem dX2_carryOut_117 : decode cX2_carryOut 117 = .ok (.ireturn, 1) := by decide +kernel
theorem dX2_carryOut_118 : decode cX2_carryOut 118 = .ok (.aload_n 0, 1) := by decide +kernel
theorem dX2_carryOut_119 : decode cX2_carryOut 119 = .ok (.aload_n 0, 1) := by decide +kernel
theorem dX2_carryOut_120 : decode cX2_carryOut 120 = .ok (.getfield 31, 3) := by decide +kernel
theorem dX2_carryOut_123 : decode cX2_carryOut 123 = .ok (.iload_n 2, 1) := by decide +kernel
theorem dX2_carryOut_124 : decode cX2_carryOut 124 = .ok (.isub, 1) := by decide +kernel
theorem dX2_carryOut_125 : decode cX2_carryOut 125 = .ok (.invokevirtual 86, 3) := by decide +kernel
theorem dX2_carryOut_128 : decode cX2_carryOut 128 = .ok (.ireturn, 1) := by decide +kernel
theorem dX2_carryOut_129 : decode cX2_carryOut 129 = .ok (.aload_n 0, 1) := by decide +kernel
theorem dX2_carryOut_130 : decode cX2_carryOut 130 = .ok (.aload_n 0, 1) := by decide +kernel
theorem dX2_carryOut_131 : decode cX2_carryOut 131 = .ok (.getfield 31, 3) := by decide +kernel
theorem dX2_carryOut_134 : decode cX2_carryOut 134 = .ok (.iload_n 2, 1) := by decide +kernel
theorem dX2_carryOut_135 : decode cX2_carryOut 135 = .ok (.iadd, 1) := by decide +kernel
theorem dX2_carryOut_136 : decode cX2_carryOut 136 = .ok (.invokevirtual 86, 3) := by decide +kernel
theorem dX2_carryOut_139 : decode cX2_carryOut 139 = .ok (.ireturn, 1) := by decide +kernel
theorem dX2_carryOut_140 : decode cX2_carryOut 140 = .ok (.aload_n 0, 1) := by decide +kernel
theorem dX2_carryOut_141 : decode cX2_carryOut 141 = .ok (.getfield 15, 3) := by decide +kernel
theorem dX2_carryOut_144 : decode cX2_carryOut 144 = .ok (.iconst 0, 1) := by decide +kernel
theorem dX2_carryOut_145 : decode cX2_carryOut 145 = .ok (.aload_n 0, 1) := by decide +kernel
theorem dX2_carryOut_146 : decode cX2_carryOut 146 = .ok (.getfield 31, 3) := by decide +kernel
theorem dX2_carryOut_149 : decode cX2_carryOut 149 = .ok (.iastore, 1) := by decide +kernel
theorem dX2_carryOut_150 : decode cX2_carryOut 150 = .ok (.iconst 1, 1) := by decide +kernel
theorem dX2_carryOut_151 : decode cX2_carryOut 151 = .ok (.ireturn, 1) := by decide +kernel
theorem dX2_carryOut_152 : decode cX2_carryOut 152 = .ok (.aload_n 0, 1) := by decide +kernel
theorem dX2_carryOut_153 : decode cX2_carryOut 153 = .ok (.aload_n 0, 1) := by decide +kernel
theorem dX2_carryOut_154 : decode cX2_carryOut 154 = .ok (.getfield 15, 3) := by decide +kernel
theorem dX2_carryOut_157 : decode cX2_carryOut 157 = .ok (.iconst 0, 1) := by decide +kernel
theorem dX2_carryOut_158 : decode cX2_carryOut 158 = .ok (.iaload, 1) := by decide +kernel
theorem dX2_carryOut_159 : decode cX2_carryOut 159 = .ok (.invokevirtual 86, 3) := by decide +kernel
theorem dX2_carryOut_162 : decode cX2_carryOut 162 = .ok (.ireturn, 1) := by decide +kernel
theorem dX2_carryOut_163 : decode cX2_carryOut 163 = .ok (.aload_n 0, 1) := by decide +kernel
theorem dX2_carryOut_164 : decode cX2_carryOut 164 = .ok (.getfield 15, 3) := by decide +kernel
theorem dX2_carryOut_167 : decode cX2_carryOut 167 = .ok (.iload_n 2, 1) := by decide +kernel
theorem dX2_carryOut_168 : decode cX2_carryOut 168 = .ok (.iload_n 3, 1) := by decide +kernel
theorem dX2_carryOut_169 : decode cX2_carryOut 169 = .ok (.iastore, 1) := by decide +kernel
theorem dX2_carryOut_170 : decode cX2_carryOut 170 = .ok (.iconst 1, 1) := by decide +kernel
theorem dX2_carryOut_171 : decode cX2_carryOut 171 = .ok (.ireturn, 1) := by decide +kernel
theorem dX2_carryOut_172 : decode cX2_carryOut 172 = .ok (.aload_n 0, 1) := by decide +kernel
theorem dX2_carryOut_173 : decode cX2_carryOut 173 = .ok (.iload_n 2, 1) := by decide +kernel
theorem dX2_carryOut_174 : decode cX2_carryOut 174 = .ok (.putfield 34, 3) := by decide +kernel
theorem dX2_carryOut_177 : decode cX2_carryOut 177 = .ok (.iconst 1, 1) := by decide +kernel
theorem dX2_carryOut_178 : decode cX2_carryOut 178 = .ok (.ireturn, 1) := by decide +kernel
theorem dX2_carryOut_179 : decode cX2_carryOut 179 = .ok (.aload_n 0, 1) := by decide +kernel
theorem dX2_carryOut_180 : decode cX2_carryOut 180 = .ok (.dup, 1) := by decide +kernel
theorem dX2_carryOut_181 : decode cX2_carryOut 181 = .ok (.getfield 34, 3) := by decide +kernel
theorem dX2_carryOut_184 : decode cX2_carryOut 184 = .ok (.iconst 1, 1) := by decide +kernel
theorem dX2_carryOut_185 : decode cX2_carryOut 185 = .ok (.isub, 1) := by decide +kernel
theorem dX2_carryOut_186 : decode cX2_carryOut 186 = .ok (.putfield 34, 3) := by decide +kernel
theorem dX2_carryOut_189 : decode cX2_carryOut 189 = .ok (.iconst 1, 1) := by decide +kernel
theorem dX2_carryOut_190 : decode cX2_carryOut 190 = .ok (.ireturn, 1) := by decide +kernel
theorem dX2_carryOut_191 : decode cX2_carryOut 191 = .ok (.aload_n 0, 1) := by decide +kernel
theorem dX2_carryOut_192 : decode cX2_carryOut 192 = .ok (.aload_n 0, 1) := by decide +kernel
theorem dX2_carryOut_193 : decode cX2_carryOut 193 = .ok (.getfield 31, 3) := by decide +kernel
theorem dX2_carryOut_196 : decode cX2_carryOut 196 = .ok (.iload_n 3, 1) := by decide +kernel
theorem dX2_carryOut_197 : decode cX2_carryOut 197 = .ok (.iadd, 1) := by decide +kernel
theorem dX2_carryOut_198 : decode cX2_carryOut 198 = .ok (.aload_n 0, 1) := by decide +kernel
theorem dX2_carryOut_199 : decode cX2_carryOut 199 = .ok (.getfield 15, 3) := by decide +kernel
theorem dX2_carryOut_202 : decode cX2_carryOut 202 = .ok (.iload_n 2, 1) := by decide +kernel
theorem dX2_carryOut_203 : decode cX2_carryOut 203 = .ok (.iaload, 1) := by decide +kernel
theorem dX2_carryOut_204 : decode cX2_carryOut 204 = .ok (.invokevirtual 89, 3) := by decide +kernel
theorem dX2_carryOut_207 : decode cX2_carryOut 207 = .ok (.ireturn, 1) := by decide +kernel
theorem dX2_carryOut_208 : decode cX2_carryOut 208 = .ok (.aload_n 0, 1) := by decide +kernel
theorem dX2_carryOut_209 : decode cX2_carryOut 209 = .ok (.iload_n 2, 1) := by decide +kernel
theorem dX2_carryOut_210 : decode cX2_carryOut 210 = .ok (.aload_n 0, 1) := by decide +kernel
theorem dX2_carryOut_211 : decode cX2_carryOut 211 = .ok (.getfield 31, 3) := by decide +kernel
theorem dX2_carryOut_214 : decode cX2_carryOut 214 = .ok (.iload_n 3, 1) := by decide +kernel
theorem dX2_carryOut_215 : decode cX2_carryOut 215 = .ok (.iadd, 1) := by decide +kernel
theorem dX2_carryOut_216 : decode cX2_carryOut 216 = .ok (.invokevirtual 83, 3) := by decide +kernel
theorem dX2_carryOut_219 : decode cX2_carryOut 219 = .ok (.ireturn, 1) := by decide +kernel
theorem dX2_carryOut_220 : decode cX2_carryOut 220 = .ok (.iconst 1, 1) := by decide +kernel
theorem dX2_carryOut_221 : decode cX2_carryOut 221 = .ok (.ireturn, 1) := by decide +kernel
theorem dX2_callPlace_0 : decode cX2_callPlace 0 = .ok (.aload_n 0, 1) := by decide +kernel
theorem dX2_callPlace_1 : decode cX2_callPlace 1 = .ok (.getfield 37, 3) := by decide +kernel
theorem dX2_callPlace_4 : decode cX2_callPlace 4 = .ok (.bipush 40, 2) := by decide +kernel
theorem dX2_callPlace_6 : decode cX2_callPlace 6 = .ok (.if_icmp .ge 11, 3) := by decide +kernel
theorem dX2_callPlace_9 : decode cX2_callPlace 9 = .ok (.aload_n 0, 1) := by decide +kernel
theorem dX2_callPlace_10 : decode cX2_callPlace 10 = .ok (.iload_n 2, 1) := by decide +kernel
theorem dX2_callPlace_11 : decode cX2_callPlace 11 = .ok (.invokevirtual 80, 3) := by decide +kernel
theorem dX2_callPlace_14 : decode cX2_callPlace 14 = .ok (.ifCond .ne 5, 3) := by decide +kernel
theorem dX2_callPlace_17 : decode cX2_callPlace 17 = .ok (.iconst 0, 1) := by decide +kernel
theorem dX2_callPlace_18 : decode cX2_callPlace 18 = .ok (.ireturn, 1) := by decide +kernel
theorem dX2_callPlace_19 : decode cX2_callPlace 19 = .ok (.aload_n 0, 1) := by decide +kernel
theorem dX2_callPlace_20 : decode cX2_callPlace 20 = .ok (.getfield 18, 3) := by decide +kernel
theorem dX2_callPlace_23 : decode cX2_callPlace 23 = .ok (.aload_n 0, 1) := by decide +kernel
theorem dX2_callPlace_24 : decode cX2_callPlace 24 = .ok (.getfield 37, 3) := by decide +kernel
theorem dX2_callPlace_27 : decode cX2_callPlace 27 = .ok (.iload_n 2, 1) := by decide +kernel
theorem dX2_callPlace_28 : decode cX2_callPlace 28 = .ok (.iastore, 1) := by decide +kernel
theorem dX2_callPlace_29 : decode cX2_callPlace 29 = .ok (.aload_n 0, 1) := by decide +kernel
theorem dX2_callPlace_30 : decode cX2_callPlace 30 = .ok (.dup, 1) := by decide +kernel
theorem dX2_callPlace_31 : decode cX2_callPlace 31 = .ok (.getfield 37, 3) := by decide +kernel
theorem dX2_callPlace_34 : decode cX2_callPlace 34 = .ok (.iconst 1, 1) := by decide +kernel
theorem dX2_callPlace_35 : decode cX2_callPlace 35 = .ok (.iadd, 1) := by decide +kernel
theorem dX2_callPlace_36 : decode cX2_callPlace 36 = .ok (.putfield 37, 3) := by decide +kernel
theorem dX2_callPlace_39 : decode cX2_callPlace 39 = .ok (.aload_n 0, 1) := by decide +kernel
theorem dX2_callPlace_40 : decode cX2_callPlace 40 = .ok (.iload_n 1, 1) := by decide +kernel
theorem dX2_callPlace_41 : decode cX2_callPlace 41 = .ok (.invokevirtual 72, 3) := by decide +kernel
theorem dX2_callPlace_44 : decode cX2_callPlace 44 = .ok (.ireturn, 1) := by decide +kernel
theorem dX2_returnToCaller_0 : decode cX2_returnToCaller 0 = .ok (.aload_n 0, 1) := by decide +kernel
theorem dX2_returnToCaller_1 : decode cX2_returnToCaller 1 = .ok (.aload_n 0, 1) := by decide +kernel
theorem dX2_returnToCaller_2 : decode cX2_returnToCaller 2 = .ok (.getfield 31, 3) := by decide +kernel
theorem dX2_returnToCaller_5 : decode cX2_returnToCaller 5 = .ok (.invokevirtual 92, 3) := by decide +kernel
theorem dX2_returnToCaller_8 : decode cX2_returnToCaller 8 = .ok (.ifCond .ne 5, 3) := by decide +kernel
theorem dX2_returnToCaller_11 : decode cX2_returnToCaller 11 = .ok (.iconst 0, 1) := by decide +kernel
theorem dX2_returnToCaller_12 : decode cX2_returnToCaller 12 = .ok (.ireturn, 1) := by decide +kernel
theorem dX2_returnToCaller_13 : decode cX2_returnToCaller 13 = .ok (.aload_n 0, 1) := by decide +kernel
theorem dX2_returnToCaller_14 : decode cX2_returnToCaller 14 = .ok (.aload_n 0, 1) := by decide +kernel
theorem dX2_returnToCaller_15 : decode cX2_returnToCaller 15 = .ok (.getfield 9, 3) := by decide +kernel
theorem dX2_returnToCaller_18 : decode cX2_returnToCaller 18 = .ok (.aload_n 0, 1) := by decide +kernel
theorem dX2_returnToCaller_19 : decode cX2_returnToCaller 19 = .ok (.getfield 31, 3) := by decide +kernel
theorem dX2_returnToCaller_22 : decode cX2_returnToCaller 22 = .ok (.iaload, 1) := by decide +kernel
theorem dX2_returnToCaller_23 : decode cX2_returnToCaller 23 = .ok (.putfield 43, 3) := by decide +kernel
theorem dX2_returnToCaller_26 : decode cX2_returnToCaller 26 = .ok (.aload_n 0, 1) := by decide +kernel
theorem dX2_returnToCaller_27 : decode cX2_returnToCaller 27 = .ok (.dup, 1) := by decide +kernel
theorem dX2_returnToCaller_28 : decode cX2_returnToCaller 28 = .ok (.getfield 31, 3) := by decide +kernel
theorem dX2_returnToCaller_31 : decode cX2_returnToCaller 31 = .ok (.iconst 1, 1) := by decide +kernel
theorem dX2_returnToCaller_32 : decode cX2_returnToCaller 32 = .ok (.iadd, 1) := by decide +kernel
theorem dX2_returnToCaller_33 : decode cX2_returnToCaller 33 = .ok (.putfield 31, 3) := by decide +kernel
theorem dX2_returnToCaller_36 : decode cX2_returnToCaller 36 = .ok (.aload_n 0, 1) := by decide +kernel
theorem dX2_returnToCaller_37 : decode cX2_returnToCaller 37 = .ok (.getfield 37, 3) := by decide +kernel
theorem dX2_returnToCaller_40 : decode cX2_returnToCaller 40 = .ok (.ifCond .le 13, 3) := by decide +kernel
theorem dX2_returnToCaller_43 : decode cX2_returnToCaller 43 = .ok (.aload_n 0, 1) := by decide +kernel
theorem dX2_returnToCaller_44 : decode cX2_returnToCaller 44 = .ok (.dup, 1) := by decide +kernel
theorem dX2_returnToCaller_45 : decode cX2_returnToCaller 45 = .ok (.getfield 37, 3) := by decide +kernel
theorem dX2_returnToCaller_48 : decode cX2_returnToCaller 48 = .ok (.iconst 1, 1) := by decide +kernel
theorem dX2_returnToCaller_49 : decode cX2_returnToCaller 49 = .ok (.isub, 1) := by decide +kernel
theorem dX2_returnToCaller_50 : decode cX2_returnToCaller 50 = .ok (.putfield 37, 3) := by decide +kernel
theorem dX2_returnToCaller_53 : decode cX2_returnToCaller 53 = .ok (.aload_n 0, 1) := by decide +kernel
theorem dX2_returnToCaller_54 : decode cX2_returnToCaller 54 = .ok (.getfield 43, 3) := by decide +kernel
theorem dX2_returnToCaller_57 : decode cX2_returnToCaller 57 = .ok (.sipush 255, 3) := by decide +kernel
theorem dX2_returnToCaller_60 : decode cX2_returnToCaller 60 = .ok (.if_icmp .ne 7, 3) := by decide +kernel
theorem dX2_returnToCaller_63 : decode cX2_returnToCaller 63 = .ok (.aload_n 0, 1) := by decide +kernel
theorem dX2_returnToCaller_64 : decode cX2_returnToCaller 64 = .ok (.invokevirtual 95, 3) := by decide +kernel
theorem dX2_returnToCaller_67 : decode cX2_returnToCaller 67 = .ok (.iconst 1, 1) := by decide +kernel
theorem dX2_returnToCaller_68 : decode cX2_returnToCaller 68 = .ok (.ireturn, 1) := by decide +kernel
theorem dX2_goTo_0 : decode cX2_goTo 0 = .ok (.aload_n 0, 1) := by decide +kernel
theorem dX2_goTo_1 : decode cX2_goTo 1 = .ok (.iload_n 1, 1) := by decide +kernel
theorem dX2_goTo_2 : decode cX2_goTo 2 = .ok (.putfield 43, 3) := by decide +kernel
theorem dX2_goTo_5 : decode cX2_goTo 5 = .ok (.iconst 1, 1) := by decide +kernel
theorem dX2_goTo_6 : decode cX2_goTo 6 = .ok (.ireturn, 1) := by decide +kernel
theorem dX2_setPointer_0 : decode cX2_setPointer 0 = .ok (.iload_n 1, 1) := by decide +kernel
theorem dX2_setPointer_1 : decode cX2_setPointer 1 = .ok (.ifCond .lt 9, 3) := by decide +kernel
theorem dX2_setPointer_4 : decode cX2_setPointer 4 = .ok (.iload_n 1, 1) := by decide +kernel
theorem dX2_setPointer_5 : decode cX2_setPointer 5 = .ok (.bipush 40, 2) := by decide +kernel
theorem dX2_setPointer_7 : decode cX2_setPointer 7 = .ok (.if_icmp .le 5, 3) := by decide +kernel
theorem dX2_setPointer_10 : decode cX2_setPointer 10 = .ok (.iconst 0, 1) := by decide +kernel
theorem dX2_setPointer_11 : decode cX2_setPointer 11 = .ok (.ireturn, 1) := by decide +kernel
theorem dX2_setPointer_12 : decode cX2_setPointer 12 = .ok (.aload_n 0, 1) := by decide +kernel
theorem dX2_setPointer_13 : decode cX2_setPointer 13 = .ok (.iload_n 1, 1) := by decide +kernel
theorem dX2_setPointer_14 : decode cX2_setPointer 14 = .ok (.putfield 31, 3) := by decide +kernel
theorem dX2_setPointer_17 : decode cX2_setPointer 17 = .ok (.iconst 1, 1) := by decide +kernel
theorem dX2_setPointer_18 : decode cX2_setPointer 18 = .ok (.ireturn, 1) := by decide +kernel
theorem dX2_pushWord_0 : decode cX2_pushWord 0 = .ok (.aload_n 0, 1) := by decide +kernel
theorem dX2_pushWord_1 : decode cX2_pushWord 1 = .ok (.aload_n 0, 1) := by decide +kernel
theorem dX2_pushWord_2 : decode cX2_pushWord 2 = .ok (.getfield 31, 3) := by decide +kernel
theorem dX2_pushWord_5 : decode cX2_pushWord 5 = .ok (.iconst 1, 1) := by decide +kernel
theorem dX2_pushWord_6 : decode cX2_pushWord 6 = .ok (.isub, 1) := by decide +kernel
theorem dX2_pushWord_7 : decode cX2_pushWord 7 = .ok (.iload_n 1, 1) := by decide +kernel
theorem dX2_pushWord_8 : decode cX2_pushWord 8 = .ok (.invokevirtual 89, 3) := by decide +kernel
theorem dX2_pushWord_11 : decode cX2_pushWord 11 = .ok (.ifCond .eq 20, 3) := by decide +kernel
theorem dX2_pushWord_14 : decode cX2_pushWord 14 = .ok (.aload_n 0, 1) := by decide +kernel
theorem dX2_pushWord_15 : decode cX2_pushWord 15 = .ok (.aload_n 0, 1) := by decide +kernel
theorem dX2_pushWord_16 : decode cX2_pushWord 16 = .ok (.getfield 31, 3) := by decide +kernel
theorem dX2_pushWord_19 : decode cX2_pushWord 19 = .ok (.iconst 1, 1) := by decide +kernel
theorem dX2_pushWord_20 : decode cX2_pushWord 20 = .ok (.isub, 1) := by decide +kernel
theorem dX2_pushWord_21 : decode cX2_pushWord 21 = .ok (.invokevirtual 86, 3) := by decide +kernel
theorem dX2_pushWord_24 : decode cX2_pushWord 24 = .ok (.ifCond .eq 7, 3) := by decide +kernel
theorem dX2_pushWord_27 : decode cX2_pushWord 27 = .ok (.iconst 1, 1) := by decide +kernel
theorem dX2_pushWord_28 : decode cX2_pushWord 28 = .ok (.goto 4, 3) := by decide +kernel
theorem dX2_pushWord_31 : decode cX2_pushWord 31 = .ok (.iconst 0, 1) := by decide +kernel
theorem dX2_pushWord_32 : decode cX2_pushWord 32 = .ok (.ireturn, 1) := by decide +kernel
theorem dX2_storeWord_0 : decode cX2_storeWord 0 = .ok (.aload_n 0, 1) := by decide +kernel
theorem dX2_storeWord_1 : decode cX2_storeWord 1 = .ok (.iload_n 1, 1) := by decide +kernel
theorem dX2_storeWord_2 : decode cX2_storeWord 2 = .ok (.invokevirtual 92, 3) := by decide +kernel
theorem dX2_storeWord_5 : decode cX2_storeWord 5 = .ok (.ifCond .ne 5, 3) := by decide +kernel
theorem dX2_storeWord_8 : decode cX2_storeWord 8 = .ok (.iconst 0, 1) := by decide +kernel
theorem dX2_storeWord_9 : decode cX2_storeWord 9 = .ok (.ireturn, 1) := by decide +kernel
theorem dX2_storeWord_10 : decode cX2_storeWord 10 = .ok (.aload_n 0, 1) := by decide +kernel
theorem dX2_storeWord_11 : decode cX2_storeWord 11 = .ok (.getfield 9, 3) := by decide +kernel
theorem dX2_storeWord_14 : decode cX2_storeWord 14 = .ok (.iload_n 1, 1) := by decide +kernel
theorem dX2_storeWord_15 : decode cX2_storeWord 15 = .ok (.iload_n 2, 1) := by decide +kernel
theorem dX2_storeWord_16 : decode cX2_storeWord 16 = .ok (.iastore, 1) := by decide +kernel
theorem dX2_storeWord_17 : decode cX2_storeWord 17 = .ok (.iconst 1, 1) := by decide +kernel
theorem dX2_storeWord_18 : decode cX2_storeWord 18 = .ok (.ireturn, 1) := by decide +kernel
theorem dX2_loadRegister_0 : decode cX2_loadRegister 0 = .ok (.aload_n 0, 1) := by decide +kernel
theorem dX2_loadRegister_1 : decode cX2_loadRegister 1 = .ok (.iload_n 2, 1) := by decide +kernel
theorem dX2_loadRegister_2 : decode cX2_loadRegister 2 = .ok (.invokevirtual 92, 3) := by decide +kernel
theorem dX2_loadRegister_5 : decode cX2_loadRegister 5 = .ok (.ifCond .ne 5, 3) := by decide +kernel
theorem dX2_loadRegister_8 : decode cX2_loadRegister 8 = .ok (.iconst 0, 1) := by decide +kernel
theorem dX2_loadRegister_9 : decode cX2_loadRegister 9 = .ok (.ireturn, 1) := by decide +kernel
theorem dX2_loadRegister_10 : decode cX2_loadRegister 10 = .ok (.aload_n 0, 1) := by decide +kernel
theorem dX2_loadRegister_11 : decode cX2_loadRegister 11 = .ok (.getfield 15, 3) := by decide +kernel
theorem dX2_loadRegister_14 : decode cX2_loadRegister 14 = .ok (.iload_n 1, 1) := by decide +kernel
theorem dX2_loadRegister_15 : decode cX2_loadRegister 15 = .ok (.aload_n 0, 1) := by decide +kernel
theorem dX2_loadRegister_16 : decode cX2_loadRegister 16 = .ok (.getfield 9, 3) := by decide +kernel
theorem dX2_loadRegister_19 : decode cX2_loadRegister 19 = .ok (.iload_n 2, 1) := by decide +kernel
theorem dX2_loadRegister_20 : decode cX2_loadRegister 20 = .ok (.iaload, 1) := by decide +kernel
theorem dX2_loadRegister_21 : decode cX2_loadRegister 21 = .ok (.iastore, 1) := by decide +kernel
theorem dX2_loadRegister_22 : decode cX2_loadRegister 22 = .ok (.iconst 1, 1) := by decide +kernel
theorem dX2_loadRegister_23 : decode cX2_loadRegister 23 = .ok (.ireturn, 1) := by decide +kernel
theorem dX2_isWord_0 : decode cX2_isWord 0 = .ok (.iload_n 1, 1) := by decide +kernel
theorem dX2_isWord_1 : decode cX2_isWord 1 = .ok (.ifCond .lt 13, 3) := by decide +kernel
theorem dX2_isWord_4 : decode cX2_isWord 4 = .ok (.iload_n 1, 1) := by decide +kernel
theorem dX2_isWord_5 : decode cX2_isWord 5 = .ok (.bipush 40, 2) := by decide +kernel
theorem dX2_isWord_7 : decode cX2_isWord 7 = .ok (.if_icmp .ge 7, 3) := by decide +kernel
theorem dX2_isWord_10 : decode cX2_isWord 10 = .ok (.iconst 1, 1) := by decide +kernel
theorem dX2_isWord_11 : decode cX2_isWord 11 = .ok (.goto 4, 3) := by decide +kernel
theorem dX2_isWord_14 : decode cX2_isWord 14 = .ok (.iconst 0, 1) := by decide +kernel
theorem dX2_isWord_15 : decode cX2_isWord 15 = .ok (.ireturn, 1) := by decide +kernel
theorem dX2_wordAt_0 : decode cX2_wordAt 0 = .ok (.aload_n 0, 1) := by decide +kernel
theorem dX2_wordAt_1 : decode cX2_wordAt 1 = .ok (.iload_n 1, 1) := by decide +kernel
theorem dX2_wordAt_2 : decode cX2_wordAt 2 = .ok (.invokevirtual 92, 3) := by decide +kernel
theorem dX2_wordAt_5 : decode cX2_wordAt 5 = .ok (.ifCond .eq 12, 3) := by decide +kernel
theorem dX2_wordAt_8 : decode cX2_wordAt 8 = .ok (.aload_n 0, 1) := by decide +kernel
theorem dX2_wordAt_9 : decode cX2_wordAt 9 = .ok (.getfield 9, 3) := by decide +kernel
theorem dX2_wordAt_12 : decode cX2_wordAt 12 = .ok (.iload_n 1, 1) := by decide +kernel
theorem dX2_wordAt_13 : decode cX2_wordAt 13 = .ok (.iaload, 1) := by decide +kernel
theorem dX2_wordAt_14 : decode cX2_wordAt 14 = .ok (.goto 4, 3) := by decide +kernel
theorem dX2_wordAt_17 : decode cX2_wordAt 17 = .ok (.iconst 0, 1) := by decide +kernel
theorem dX2_wordAt_18 : decode cX2_wordAt 18 = .ok (.ireturn, 1) := by decide +kernel
theorem dX2_part_0 : decode cX2_part 0 = .ok (.aload_n 0, 1) := by decide +kernel
theorem dX2_part_1 : decode cX2_part 1 = .ok (.getfield 46, 3) := by decide +kernel
theorem dX2_part_4 : decode cX2_part 4 = .ok (.ifCond .ne 5, 3) := by decide +kernel
theorem dX2_part_7 : decode cX2_part 7 = .ok (.iconst (-1), 1) := by decide +kernel
theorem dX2_part_8 : decode cX2_part 8 = .ok (.ireturn, 1) := by decide +kernel
theorem dX2_part_9 : decode cX2_part 9 = .ok (.iload_n 1, 1) := by decide +kernel
theorem dX2_part_10 : decode cX2_part 10 = .ok (.tableswitch 71 0 6 #[42, 47, 52, 52, 52, 61, 66], 42) := by decide +kernel
theorem dX2_part_52 : decode cX2_part 52 = .ok (.aload_n 0, 1) := by decide +kernel
theorem dX2_part_53 : decode cX2_part 53 = .ok (.getfield 43, 3) := by decide +kernel
theorem dX2_part_56 : decode cX2_part 56 = .ok (.ireturn, 1) := by decide +kernel
theorem dX2_part_57 : decode cX2_part 57 = .ok (.aload_n 0, 1) := by decide +kernel
theorem dX2_part_58 : decode cX2_part 58 = .ok (.getfield 31, 3) := by decide +kernel
theorem dX2_part_61 : decode cX2_part 61 = .ok (.ireturn, 1) := by decide +kernel
theorem dX2_part_62 : decode cX2_part 62 = .ok (.aload_n 0, 1) := by decide +kernel
theorem dX2_part_63 : decode cX2_part 63 = .ok (.getfield 15, 3) := by decide +kernel
theorem dX2_part_66 : decode cX2_part 66 = .ok (.iload_n 1, 1) := by decide +kernel
theorem dX2_part_67 : decode cX2_part 67 = .ok (.iconst 2, 1) := by decide +kernel
theorem dX2_part_68 : decode cX2_part 68 = .ok (.isub, 1) := by decide +kernel
theorem dX2_part_69 : decode cX2_part 69 = .ok (.iaload, 1) := by decide +kernel
theorem dX2_part_70 : decode cX2_part 70 = .ok (.ireturn, 1) := by decide +kernel
theorem dX2_part_71 : decode cX2_part 71 = .ok (.aload_n 0, 1) := by decide +kernel
theorem dX2_part_72 : decode cX2_part 72 = .ok (.getfield 34, 3) := by decide +kernel
theorem dX2_part_75 : decode cX2_part 75 = .ok (.ireturn, 1) := by decide +kernel
theorem dX2_part_76 : decode cX2_part 76 = .ok (.aload_n 0, 1) := by decide +kernel
theorem dX2_part_77 : decode cX2_part 77 = .ok (.getfield 37, 3) := by decide +kernel
theorem dX2_part_80 : decode cX2_part 80 = .ok (.ireturn, 1) := by decide +kernel
theorem dX2_part_81 : decode cX2_part 81 = .ok (.iconst (-1), 1) := by decide +kernel
theorem dX2_part_82 : decode cX2_part 82 = .ok (.ireturn, 1) := by decide +kernel
theorem dX2_returnOf_0 : decode cX2_returnOf 0 = .ok (.iload_n 1, 1) := by decide +kernel
theorem dX2_returnOf_1 : decode cX2_returnOf 1 = .ok (.ifCond .lt 27, 3) := by decide +kernel
theorem dX2_returnOf_4 : decode cX2_returnOf 4 = .ok (.iload_n 1, 1) := by decide +kernel
theorem dX2_returnOf_5 : decode cX2_returnOf 5 = .ok (.aload_n 0, 1) := by decide +kernel
theorem dX2_returnOf_6 : decode cX2_returnOf 6 = .ok (.getfield 37, 3) := by decide +kernel
theorem dX2_returnOf_9 : decode cX2_returnOf 9 = .ok (.if_icmp .ge 19, 3) := by decide +kernel
theorem dX2_returnOf_12 : decode cX2_returnOf 12 = .ok (.aload_n 0, 1) := by decide +kernel
theorem dX2_returnOf_13 : decode cX2_returnOf 13 = .ok (.getfield 18, 3) := by decide +kernel
theorem dX2_returnOf_16 : decode cX2_returnOf 16 = .ok (.aload_n 0, 1) := by decide +kernel
theorem dX2_returnOf_17 : decode cX2_returnOf 17 = .ok (.getfield 37, 3) := by decide +kernel
theorem dX2_returnOf_20 : decode cX2_returnOf 20 = .ok (.iconst 1, 1) := by decide +kernel
theorem dX2_returnOf_21 : decode cX2_returnOf 21 = .ok (.isub, 1) := by decide +kernel
theorem dX2_returnOf_22 : decode cX2_returnOf 22 = .ok (.iload_n 1, 1) := by decide +kernel
theorem dX2_returnOf_23 : decode cX2_returnOf 23 = .ok (.isub, 1) := by decide +kernel
theorem dX2_returnOf_24 : decode cX2_returnOf 24 = .ok (.iaload, 1) := by decide +kernel
theorem dX2_returnOf_25 : decode cX2_returnOf 25 = .ok (.goto 4, 3) := by decide +kernel
theorem dX2_returnOf_28 : decode cX2_returnOf 28 = .ok (.iconst (-1), 1) := by decide +kernel
theorem dX2_returnOf_29 : decode cX2_returnOf 29 = .ok (.ireturn, 1) := by decide +kernel
theorem dX3_init_0 : decode cX3_init 0 = .ok (.aload_n 0, 1) := by decide +kernel
theorem dX3_init_1 : decode cX3_init 1 = .ok (.invokespecial 3, 3) := by decide +kernel
theorem dX3_init_4 : decode cX3_init 4 = .ok (.aload_n 0, 1) := by decide +kernel
theorem dX3_init_5 : decode cX3_init 5 = .ok (.new 9, 3) := by decide +kernel
theorem dX3_init_8 : decode cX3_init 8 = .ok (.dup, 1) := by decide +kernel
theorem dX3_init_9 : decode cX3_init 9 = .ok (.invokespecial 11, 3) := by decide +kernel
theorem dX3_init_12 : decode cX3_init 12 = .ok (.putfield 12, 3) := by decide +kernel
theorem dX3_init_15 : decode cX3_init 15 = .ok (.aload_n 0, 1) := by decide +kernel
theorem dX3_init_16 : decode cX3_init 16 = .ok (.new 9, 3) := by decide +kernel
theorem dX3_init_19 : decode cX3_init 19 = .ok (.dup, 1) := by decide +kernel
theorem dX3_init_20 : decode cX3_init 20 = .ok (.invokespecial 11, 3) := by decide +kernel
theorem dX3_init_23 : decode cX3_init 23 = .ok (.putfield 18, 3) := by decide +kernel
theorem dX3_init_26 : decode cX3_init 26 = .ok (.aload_n 0, 1) := by decide +kernel
theorem dX3_init_27 : decode cX3_init 27 = .ok (.aload_n 1, 1) := by decide +kernel
theorem dX3_init_28 : decode cX3_init 28 = .ok (.putfield 21, 3) := by decide +kernel
theorem dX3_init_31 : decode cX3_init 31 = .ok (.aload_n 0, 1) := by decide +kernel
theorem dX3_init_32 : decode cX3_init 32 = .ok (.aload_n 2, 1) := by decide +kernel
theorem dX3_init_33 : decode cX3_init 33 = .ok (.putfield 25, 3) := by decide +kernel
theorem dX3_init_36 : decode cX3_init 36 = .ok (.aload_n 0, 1) := by decide +kernel
theorem dX3_init_37 : decode cX3_init 37 = .ok (.new 29, 3) := by decide +kernel
theorem dX3_init_40 : decode cX3_init 40 = .ok (.dup, 1) := by decide +kernel
theorem dX3_init_41 : decode cX3_init 41 = .ok (.aload_n 1, 1) := by decide +kernel
theorem dX3_init_42 : decode cX3_init 42 = .ok (.invokespecial 31, 3) := by decide +kernel
theorem dX3_init_45 : decode cX3_init 45 = .ok (.putfield 34, 3) := by decide +kernel
theorem dX3_init_48 : decode cX3_init 48 = .ok (.return_, 1) := by decide +kernel
theorem dX3_packAll_0 : decode cX3_packAll 0 = .ok (.iconst 0, 1) := by decide +kernel
theorem dX3_packAll_1 : decode cX3_packAll 1 = .ok (.istore_n 1, 1) := by decide +kernel
theorem dX3_packAll_2 : decode cX3_packAll 2 = .ok (.iload_n 1, 1) := by decide +kernel
theorem dX3_packAll_3 : decode cX3_packAll 3 = .ok (.aload_n 0, 1) := by decide +kernel
theorem dX3_packAll_4 : decode cX3_packAll 4 = .ok (.getfield 21, 3) := by decide +kernel
theorem dX3_packAll_7 : decode cX3_packAll 7 = .ok (.getfield 38, 3) := by decide +kernel
theorem dX3_packAll_10 : decode cX3_packAll 10 = .ok (.if_icmp .ge 42, 3) := by decide +kernel
theorem dX3_packAll_13 : decode cX3_packAll 13 = .ok (.aload_n 0, 1) := by decide +kernel
theorem dX3_packAll_14 : decode cX3_packAll 14 = .ok (.getfield 34, 3) := by decide +kernel
theorem dX3_packAll_17 : decode cX3_packAll 17 = .ok (.aload_n 0, 1) := by decide +kernel
theorem dX3_packAll_18 : decode cX3_packAll 18 = .ok (.getfield 21, 3) := by decide +kernel
theorem dX3_packAll_21 : decode cX3_packAll 21 = .ok (.getfield 44, 3) := by decide +kernel
theorem dX3_packAll_24 : decode cX3_packAll 24 = .ok (.iload_n 1, 1) := by decide +kernel
theorem dX3_packAll_25 : decode cX3_packAll 25 = .ok (.iaload, 1) := by decide +kernel
theorem dX3_packAll_26 : decode cX3_packAll 26 = .ok (.aload_n 0, 1) := by decide +kernel
theorem dX3_packAll_27 : decode cX3_packAll 27 = .ok (.getfield 21, 3) := by decide +kernel
theorem dX3_packAll_30 : decode cX3_packAll 30 = .ok (.getfield 48, 3) := by decide +kernel
theorem dX3_packAll_33 : decode cX3_packAll 33 = .ok (.iload_n 1, 1) := by decide +kernel
theorem dX3_packAll_34 : decode cX3_packAll 34 = .ok (.iaload, 1) := by decide +kernel
theorem dX3_packAll_35 : decode cX3_packAll 35 = .ok (.invokevirtual 51, 3) := by decide +kernel
theorem dX3_packAll_38 : decode cX3_packAll 38 = .ok (.istore_n 2, 1) := by decide +kernel
theorem dX3_packAll_39 : decode cX3_packAll 39 = .ok (.iload_n 2, 1) := by decide +kernel
theorem dX3_packAll_40 : decode cX3_packAll 40 = .ok (.ifCond .eq 6, 3) := by decide +kernel
theorem dX3_packAll_43 : decode cX3_packAll 43 = .ok (.iload_n 2, 1) := by decide +kernel
theorem dX3_packAll_44 : decode cX3_packAll 44 = .ok (.ineg, 1) := by decide +kernel
theorem dX3_packAll_45 : decode cX3_packAll 45 = .ok (.ireturn, 1) := by decide +kernel
theorem dX3_packAll_46 : decode cX3_packAll 46 = .ok (.iinc 1 1, 3) := by decide +kernel
theorem dX3_packAll_49 : decode cX3_packAll 49 = .ok (.goto (-47), 3) := by decide +kernel
theorem dX3_packAll_52 : decode cX3_packAll 52 = .ok (.aload_n 0, 1) := by decide +kernel
theorem dX3_packAll_53 : decode cX3_packAll 53 = .ok (.getfield 25, 3) := by decide +kernel
theorem dX3_packAll_56 : decode cX3_packAll 56 = .ok (.invokevirtual 55, 3) := by decide +kernel
theorem dX3_packAll_59 : decode cX3_packAll 59 = .ok (.iconst 0, 1) := by decide +kernel
theorem dX3_packAll_60 : decode cX3_packAll 60 = .ok (.istore_n 1, 1) := by decide +kernel
theorem dX3_packAll_61 : decode cX3_packAll 61 = .ok (.iload_n 1, 1) := by decide +kernel
theorem dX3_packAll_62 : decode cX3_packAll 62 = .ok (.aload_n 0, 1) := by decide +kernel
theorem dX3_packAll_63 : decode cX3_packAll 63 = .ok (.getfield 21, 3) := by decide +kernel
theorem dX3_packAll_66 : decode cX3_packAll 66 = .ok (.getfield 38, 3) := by decide +kernel
theorem dX3_packAll_69 : decode cX3_packAll 69 = .ok (.if_icmp .ge 31, 3) := by decide +kernel
theorem dX3_packAll_72 : decode cX3_packAll 72 = .ok (.aload_n 0, 1) := by decide +kernel
theorem dX3_packAll_73 : decode cX3_packAll 73 = .ok (.aload_n 0, 1) := by decide +kernel
theorem dX3_packAll_74 : decode cX3_packAll 74 = .ok (.getfield 21, 3) := by decide +kernel
theorem dX3_packAll_77 : decode cX3_packAll 77 = .ok (.getfield 44, 3) := by decide +kernel
theorem dX3_packAll_80 : decode cX3_packAll 80 = .ok (.iload_n 1, 1) := by decide +kernel
theorem dX3_packAll_81 : decode cX3_packAll 81 = .ok (.iaload, 1) := by decide +kernel
theorem dX3_packAll_82 : decode cX3_packAll 82 = .ok (.aload_n 0, 1) := by decide +kernel
theorem dX3_packAll_83 : decode cX3_packAll 83 = .ok (.getfield 21, 3) := by decide +kernel
theorem dX3_packAll_86 : decode cX3_packAll 86 = .ok (.getfield 48, 3) := by decide +kernel
theorem dX3_packAll_89 : decode cX3_packAll 89 = .ok (.iload_n 1, 1) := by decide +kernel
theorem dX3_packAll_90 : decode cX3_packAll 90 = .ok (.iaload, 1) := by decide +kernel
theorem dX3_packAll_91 : decode cX3_packAll 91 = .ok (.invokevirtual 60, 3) := by decide +kernel
theorem dX3_packAll_94 : decode cX3_packAll 94 = .ok (.iinc 1 1, 3) := by decide +kernel
theorem dX3_packAll_97 : decode cX3_packAll 97 = .ok (.goto (-36), 3) := by decide +kernel
theorem dX3_packAll_100 : decode cX3_packAll 100 = .ok (.aload_n 0, 1) := by decide +kernel
theorem dX3_packAll_101 : decode cX3_packAll 101 = .ok (.getfield 25, 3) := by decide +kernel
theorem dX3_packAll_104 : decode cX3_packAll 104 = .ok (.getfield 64, 3) := by decide +kernel
theorem dX3_packAll_107 : decode cX3_packAll 107 = .ok (.ireturn, 1) := by decide +kernel
theorem dX3_writeFunction_0 : decode cX3_writeFunction 0 = .ok (.aload_n 0, 1) := by decide +kernel
theorem dX3_writeFunction_1 : decode cX3_writeFunction 1 = .ok (.getfield 25, 3) := by decide +kernel
theorem dX3_writeFunction_4 : decode cX3_writeFunction 4 = .ok (.getfield 64, 3) := by decide +kernel
theorem dX3_writeFunction_7 : decode cX3_writeFunction 7 = .ok (.istore_n 3, 1) := by decide +kernel
theorem dX3_writeFunction_8 : decode cX3_writeFunction 8 = .ok (.aload_n 0, 1) := by decide +kernel
theorem dX3_writeFunction_9 : decode cX3_writeFunction 9 = .ok (.getfield 25, 3) := by decide +kernel
theorem dX3_writeFunction_12 : decode cX3_writeFunction 12 = .ok (.iconst 0, 1) := by decide +kernel
theorem dX3_writeFunction_13 : decode cX3_writeFunction 13 = .ok (.invokevirtual 67, 3) := by decide +kernel
theorem dX3_writeFunction_16 : decode cX3_writeFunction 16 = .ok (.aload_n 0, 1) := by decide +kernel
theorem dX3_writeFunction_17 : decode cX3_writeFunction 17 = .ok (.getfield 25, 3) := by decide +kernel
theorem dX3_writeFunction_20 : decode cX3_writeFunction 20 = .ok (.iconst 0, 1) := by decide +kernel
theorem dX3_writeFunction_21 : decode cX3_writeFunction 21 = .ok (.invokevirtual 67, 3) := by decide +kernel
theorem dX3_writeFunction_24 : decode cX3_writeFunction 24 = .ok (.aload_n 0, 1) := by decide +kernel
theorem dX3_writeFunction_25 : decode cX3_writeFunction 25 = .ok (.getfield 25, 3) := by decide +kernel
theorem dX3_writeFunction_28 : decode cX3_writeFunction 28 = .ok (.iload_n 1, 1) := by decide +kernel
theorem dX3_writeFunction_29 : decode cX3_writeFunction 29 = .ok (.invokevirtual 67, 3) := by decide +kernel
theorem dX3_writeFunction_32 : decode cX3_writeFunction 32 = .ok (.aload_n 0, 1) := by decide +kernel
theorem dX3_writeFunction_33 : decode cX3_writeFunction 33 = .ok (.getfield 25, 3) := by decide +kernel
theorem dX3_writeFunction_36 : decode cX3_writeFunction 36 = .ok (.iload_n 2, 1) := by decide +kernel
theorem dX3_writeFunction_37 : decode cX3_writeFunction 37 = .ok (.iload_n 1, 1) := by decide +kernel
theorem dX3_writeFunction_38 : decode cX3_writeFunction 38 = .ok (.isub, 1) := by decide +kernel
theorem dX3_writeFunction_39 : decode cX3_writeFunction 39 = .ok (.invokevirtual 67, 3) := by decide +kernel
theorem dX3_writeFunction_42 : decode cX3_writeFunction 42 = .ok (.aload_n 0, 1) := by decide +kernel
theorem dX3_writeFunction_43 : decode cX3_writeFunction 43 = .ok (.iload_n 1, 1) := by decide +kernel
theorem dX3_writeFunction_44 : decode cX3_writeFunction 44 = .ok (.iload_n 2, 1) := by decide +kernel
theorem dX3_writeFunction_45 : decode cX3_writeFunction 45 = .ok (.invokevirtual 71, 3) := by decide +kernel
theorem dX3_writeFunction_48 : decode cX3_writeFunction 48 = .ok (.aload_n 0, 1) := by decide +kernel
theorem dX3_writeFunction_49 : decode cX3_writeFunction 49 = .ok (.getfield 25, 3) := by decide +kernel
theorem dX3_writeFunction_52 : decode cX3_writeFunction 52 = .ok (.getfield 64, 3) := by decide +kernel
theorem dX3_writeFunction_55 : decode cX3_writeFunction 55 = .ok (.iload_n 3, 1) := by decide +kernel
theorem dX3_writeFunction_56 : decode cX3_writeFunction 56 = .ok (.isub, 1) := by decide +kernel
theorem dX3_writeFunction_57 : decode cX3_writeFunction 57 = .ok (.iconst 2, 1) := by decide +kernel
theorem dX3_writeFunction_58 : decode cX3_writeFunction 58 = .ok (.isub, 1) := by decide +kernel
theorem dX3_writeFunction_59 : decode cX3_writeFunction 59 = .ok (.istore 4, 2) := by decide +kernel
theorem dX3_writeFunction_61 : decode cX3_writeFunction 61 = .ok (.aload_n 0, 1) := by decide +kernel
theorem dX3_writeFunction_62 : decode cX3_writeFunction 62 = .ok (.getfield 25, 3) := by decide +kernel
theorem dX3_writeFunction_65 : decode cX3_writeFunction 65 = .ok (.iload_n 3, 1) := by decide +kernel
theorem dX3_writeFunction_66 : decode cX3_writeFunction 66 = .ok (.iload 4, 2) := by decide +kernel
theorem dX3_writeFunction_68 : decode cX3_writeFunction 68 = .ok (.bipush 8, 2) := by decide +kernel
theorem dX3_writeFunction_70 : decode cX3_writeFunction 70 = .ok (.ishr, 1) := by decide +kernel
theorem dX3_writeFunction_71 : decode cX3_writeFunction 71 = .ok (.invokevirtual 74, 3) := by decide +kernel
theorem dX3_writeFunction_74 : decode cX3_writeFunction 74 = .ok (.pop, 1) := by decide +kernel
theorem dX3_writeFunction_75 : decode cX3_writeFunction 75 = .ok (.aload_n 0, 1) := by decide +kernel
theorem dX3_writeFunction_76 : decode cX3_writeFunction 76 = .ok (.getfield 25, 3) := by decide +kernel
theorem dX3_writeFunction_79 : decode cX3_writeFunction 79 = .ok (.iload_n 3, 1) := by decide +kernel
theorem dX3_writeFunction_80 : decode cX3_writeFunction 80 = .ok (.iconst 1, 1) := by decide +kernel
theorem dX3_writeFunction_81 : decode cX3_writeFunction 81 = .ok (.iadd, 1) := by decide +kernel
theorem dX3_writeFunction_82 : decode cX3_writeFunction 82 = .ok (.iload 4, 2) := by decide +kernel
theorem dX3_writeFunction_84 : decode cX3_writeFunction 84 = .ok (.sipush 255, 3) := by decide +kernel
theorem dX3_writeFunction_87 : decode cX3_writeFunction 87 = .ok (.iand, 1) := by decide +kernel
theorem dX3_writeFunction_88 : decode cX3_writeFunction 88 = .ok (.invokevirtual 74, 3) := by decide +kernel
theorem dX3_writeFunction_91 : decode cX3_writeFunction 91 = .ok (.pop, 1) := by decide +kernel
theorem dX3_writeFunction_92 : decode cX3_writeFunction 92 = .ok (.return_, 1) := by decide +kernel
theorem dX3_writeProgram_0 : decode cX3_writeProgram 0 = .ok (.aload_n 0, 1) := by decide +kernel
theorem dX3_writeProgram_1 : decode cX3_writeProgram 1 = .ok (.getfield 12, 3) := by decide +kernel
theorem dX3_writeProgram_4 : decode cX3_writeProgram 4 = .ok (.invokevirtual 78, 3) := by decide +kernel
theorem dX3_writeProgram_7 : decode cX3_writeProgram 7 = .ok (.iload_n 1, 1) := by decide +kernel
theorem dX3_writeProgram_8 : decode cX3_writeProgram 8 = .ok (.istore_n 3, 1) := by decide +kernel
theorem dX3_writeProgram_9 : decode cX3_writeProgram 9 = .ok (.iload_n 1, 1) := by decide +kernel
theorem dX3_writeProgram_10 : decode cX3_writeProgram 10 = .ok (.istore 4, 2) := by decide +kernel
theorem dX3_writeProgram_12 : decode cX3_writeProgram 12 = .ok (.iload 4, 2) := by decide +kernel
theorem dX3_writeProgram_14 : decode cX3_writeProgram 14 = .ok (.iload_n 2, 1) := by decide +kernel
theorem dX3_writeProgram_15 : decode cX3_writeProgram 15 = .ok (.if_icmp .ge 69, 3) := by decide +kernel
theorem dX3_writeProgram_18 : decode cX3_writeProgram 18 = .ok (.aload_n 0, 1) := by decide +kernel
theorem dX3_writeProgram_19 : decode cX3_writeProgram 19 = .ok (.getfield 34, 3) := by decide +kernel
theorem dX3_writeProgram_22 : decode cX3_writeProgram 22 = .ok (.iload 4, 2) := by decide +kernel
theorem dX3_writeProgram_24 : decode cX3_writeProgram 24 = .ok (.aload_n 0, 1) := by decide +kernel
theorem dX3_writeProgram_25 : decode cX3_writeProgram 25 = .ok (.getfield 18, 3) := by decide +kernel
theorem dX3_writeProgram_28 : decode cX3_writeProgram 28 = .ok (.invokevirtual 81, 3) := by decide +kernel
theorem dX3_writeProgram_31 : decode cX3_writeProgram 31 = .ok (.ifCond .eq 47, 3) := by decide +kernel
theorem dX3_writeProgram_34 : decode cX3_writeProgram 34 = .ok (.aload_n 0, 1) := by decide +kernel
theorem dX3_writeProgram_35 : decode cX3_writeProgram 35 = .ok (.getfield 18, 3) := by decide +kernel
theorem dX3_writeProgram_38 : decode cX3_writeProgram 38 = .ok (.aload_n 0, 1) := by decide +kernel
theorem dX3_writeProgram_39 : decode cX3_writeProgram 39 = .ok (.getfield 12, 3) := by decide +kernel
theorem dX3_writeProgram_42 : decode cX3_writeProgram 42 = .ok (.invokevirtual 85, 3) := by decide +kernel
theorem dX3_writeProgram_45 : decode cX3_writeProgram 45 = .ok (.ifCond .ne 33, 3) := by decide +kernel
theorem dX3_writeProgram_48 : decode cX3_writeProgram 48 = .ok (.aload_n 0, 1) := by decide +kernel
theorem dX3_writeProgram_49 : decode cX3_writeProgram 49 = .ok (.iload 4, 2) := by decide +kernel
theorem dX3_writeProgram_51 : decode cX3_writeProgram 51 = .ok (.iload_n 3, 1) := by decide +kernel
theorem dX3_writeProgram_52 : decode cX3_writeProgram 52 = .ok (.isub, 1) := by decide +kernel
theorem dX3_writeProgram_53 : decode cX3_writeProgram 53 = .ok (.invokevirtual 89, 3) := by decide +kernel
theorem dX3_writeProgram_56 : decode cX3_writeProgram 56 = .ok (.aload_n 0, 1) := by decide +kernel
theorem dX3_writeProgram_57 : decode cX3_writeProgram 57 = .ok (.invokevirtual 92, 3) := by decide +kernel
theorem dX3_writeProgram_60 : decode cX3_writeProgram 60 = .ok (.aload_n 0, 1) := by decide +kernel
theorem dX3_writeProgram_61 : decode cX3_writeProgram 61 = .ok (.invokevirtual 95, 3) := by decide +kernel
theorem dX3_writeProgram_64 : decode cX3_writeProgram 64 = .ok (.aload_n 0, 1) := by decide +kernel
theorem dX3_writeProgram_65 : decode cX3_writeProgram 65 = .ok (.getfield 12, 3) := by decide +kernel
theorem dX3_writeProgram_68 : decode cX3_writeProgram 68 = .ok (.aload_n 0, 1) := by decide +kernel
theorem dX3_writeProgram_69 : decode cX3_writeProgram 69 = .ok (.getfield 18, 3) := by decide +kernel
theorem dX3_writeProgram_72 : decode cX3_writeProgram 72 = .ok (.invokevirtual 98, 3) := by decide +kernel
theorem dX3_writeProgram_75 : decode cX3_writeProgram 75 = .ok (.iload 4, 2) := by decide +kernel
theorem dX3_writeProgram_77 : decode cX3_writeProgram 77 = .ok (.istore_n 3, 1) := by decide +kernel
theorem dX3_writeProgram_78 : decode cX3_writeProgram 78 = .ok (.iinc 4 1, 3) := by decide +kernel
theorem dX3_writeProgram_81 : decode cX3_writeProgram 81 = .ok (.goto (-69), 3) := by decide +kernel
theorem dX3_writeProgram_84 : decode cX3_writeProgram 84 = .ok (.return_, 1) := by decide +kernel
theorem dX3_writeAdvance_0 : decode cX3_writeAdvance 0 = .ok (.iload_n 1, 1) := by decide +kernel
theorem dX3_writeAdvance_1 : decode cX3_writeAdvance 1 = .ok (.bipush 63, 2) := by decide +kernel
theorem dX3_writeAdvance_3 : decode cX3_writeAdvance 3 = .ok (.if_icmp .gt 17, 3) := by decide +kernel
theorem dX3_writeAdvance_6 : decode cX3_writeAdvance 6 = .ok (.aload_n 0, 1) := by decide +kernel
theorem dX3_writeAdvance_7 : decode cX3_writeAdvance 7 = .ok (.getfield 25, 3) := by decide +kernel
theorem dX3_writeAdvance_10 : decode cX3_writeAdvance 10 = .ok (.bipush 64, 2) := by decide +kernel
theorem dX3_writeAdvance_12 : decode cX3_writeAdvance 12 = .ok (.iload_n 1, 1) := by decide +kernel
theorem dX3_writeAdvance_13 : decode cX3_writeAdvance 13 = .ok (.iadd, 1) := by decide +kernel
theorem dX3_writeAdvance_14 : decode cX3_writeAdvance 14 = .ok (.invokevirtual 67, 3) := by decide +kernel
theorem dX3_writeAdvance_17 : decode cX3_writeAdvance 17 = .ok (.goto 19, 3) := by decide +kernel
theorem dX3_writeAdvance_20 : decode cX3_writeAdvance 20 = .ok (.aload_n 0, 1) := by decide +kernel
theorem dX3_writeAdvance_21 : decode cX3_writeAdvance 21 = .ok (.getfield 25, 3) := by decide +kernel
theorem dX3_writeAdvance_24 : decode cX3_writeAdvance 24 = .ok (.iconst 2, 1) := by decide +kernel
theorem dX3_writeAdvance_25 : decode cX3_writeAdvance 25 = .ok (.invokevirtual 67, 3) := by decide +kernel
theorem dX3_writeAdvance_28 : decode cX3_writeAdvance 28 = .ok (.aload_n 0, 1) := by decide +kernel
theorem dX3_writeAdvance_29 : decode cX3_writeAdvance 29 = .ok (.getfield 25, 3) := by decide +kernel
theorem dX3_writeAdvance_32 : decode cX3_writeAdvance 32 = .ok (.iload_n 1, 1) := by decide +kernel
theorem dX3_writeAdvance_33 : decode cX3_writeAdvance 33 = .ok (.invokevirtual 67, 3) := by decide +kernel
theorem dX3_writeAdvance_36 : decode cX3_writeAdvance 36 = .ok (.return_, 1) := by decide +kernel
theorem dX3_writeBase_0 : decode cX3_writeBase 0 = .ok (.aload_n 0, 1) := by decide +kernel
theorem dX3_writeBase_1 : decode cX3_writeBase 1 = .ok (.getfield 18, 3) := by decide +kernel
theorem dX3_writeBase_4 : decode cX3_writeBase 4 = .ok (.getfield 102, 3) := by decide +kernel
theorem dX3_writeBase_7 : decode cX3_writeBase 7 = .ok (.aload_n 0, 1) := by decide +kernel
theorem dX3_writeBase_8 : decode cX3_writeBase 8 = .ok (.getfield 12, 3) := by decide +kernel
theorem dX3_writeBase_11 : decode cX3_writeBase 11 = .ok (.getfield 102, 3) := by decide +kernel
theorem dX3_writeBase_14 : decode cX3_writeBase 14 = .ok (.if_icmp .eq 7, 3) := by decide +kernel
theorem dX3_writeBase_17 : decode cX3_writeBase 17 = .ok (.iconst 1, 1) := by decide +kernel
theorem dX3_writeBase_18 : decode cX3_writeBase 18 = .ok (.goto 4, 3) := by decide +kernel
theorem dX3_writeBase_21 : decode cX3_writeBase 21 = .ok (.iconst 0, 1) := by decide +kernel
theorem dX3_writeBase_22 : decode cX3_writeBase 22 = .ok (.istore_n 1, 1) := by decide +kernel
theorem dX3_writeBase_23 : decode cX3_writeBase 23 = .ok (.aload_n 0, 1) := by decide +kernel
theorem dX3_writeBase_24 : decode cX3_writeBase 24 = .ok (.getfield 18, 3) := by decide +kernel
theorem dX3_writeBase_27 : decode cX3_writeBase 27 = .ok (.getfield 105, 3) := by decide +kernel
theorem dX3_writeBase_30 : decode cX3_writeBase 30 = .ok (.aload_n 0, 1) := by decide +kernel
theorem dX3_writeBase_31 : decode cX3_writeBase 31 = .ok (.getfield 12, 3) := by decide +kernel
theorem dX3_writeBase_34 : decode cX3_writeBase 34 = .ok (.getfield 105, 3) := by decide +kernel
theorem dX3_writeBase_37 : decode cX3_writeBase 37 = .ok (.if_icmp .eq 7, 3) := by decide +kernel
theorem dX3_writeBase_40 : decode cX3_writeBase 40 = .ok (.iconst 1, 1) := by decide +kernel
theorem dX3_writeBase_41 : decode cX3_writeBase 41 = .ok (.goto 4, 3) := by decide +kernel
theorem dX3_writeBase_44 : decode cX3_writeBase 44 = .ok (.iconst 0, 1) := by decide +kernel
theorem dX3_writeBase_45 : decode cX3_writeBase 45 = .ok (.istore_n 2, 1) := by decide +kernel
theorem dX3_writeBase_46 : decode cX3_writeBase 46 = .ok (.iload_n 1, 1) := by decide +kernel
theorem dX3_writeBase_47 : decode cX3_writeBase 47 = .ok (.ifCond .eq 19, 3) := by decide +kernel
theorem dX3_writeBase_50 : decode cX3_writeBase 50 = .ok (.iload_n 2, 1) := by decide +kernel
theorem dX3_writeBase_51 : decode cX3_writeBase 51 = .ok (.ifCond .eq 15, 3) := by decide +kernel
theorem dX3_writeBase_54 : decode cX3_writeBase 54 = .ok (.aload_n 0, 1) := by decide +kernel
theorem dX3_writeBase_55 : decode cX3_writeBase 55 = .ok (.getfield 25, 3) := by decide +kernel
theorem dX3_writeBase_58 : decode cX3_writeBase 58 = .ok (.bipush 12, 2) := by decide +kernel
theorem dX3_writeBase_60 : decode cX3_writeBase 60 = .ok (.invokevirtual 67, 3) := by decide +kernel
theorem dX3_writeBase_63 : decode cX3_writeBase 63 = .ok (.goto 32, 3) := by decide +kernel
theorem dX3_writeBase_66 : decode cX3_writeBase 66 = .ok (.iload_n 1, 1) := by decide +kernel
theorem dX3_writeBase_67 : decode cX3_writeBase 67 = .ok (.ifCond .eq 15, 3) := by decide +kernel
theorem dX3_writeBase_70 : decode cX3_writeBase 70 = .ok (.aload_n 0, 1) := by decide +kernel
theorem dX3_writeBase_71 : decode cX3_writeBase 71 = .ok (.getfield 25, 3) := by decide +kernel
theorem dX3_writeBase_74 : decode cX3_writeBase 74 = .ok (.bipush 13, 2) := by decide +kernel
theorem dX3_writeBase_76 : decode cX3_writeBase 76 = .ok (.invokevirtual 67, 3) := by decide +kernel
theorem dX3_writeBase_79 : decode cX3_writeBase 79 = .ok (.goto 16, 3) := by decide +kernel
theorem dX3_writeBase_82 : decode cX3_writeBase 82 = .ok (.iload_n 2, 1) := by decide +kernel
theorem dX3_writeBase_83 : decode cX3_writeBase 83 = .ok (.ifCond .eq 12, 3) := by decide +kernel
theorem dX3_writeBase_86 : decode cX3_writeBase 86 = .ok (.aload_n 0, 1) := by decide +kernel
theorem dX3_writeBase_87 : decode cX3_writeBase 87 = .ok (.getfield 25, 3) := by decide +kernel
theorem dX3_writeBase_90 : decode cX3_writeBase 90 = .ok (.bipush 14, 2) := by decide +kernel
theorem dX3_writeBase_92 : decode cX3_writeBase 92 = .ok (.invokevirtual 67, 3) := by decide +kernel
theorem dX3_writeBase_95 : decode cX3_writeBase 95 = .ok (.iload_n 1, 1) := by decide +kernel
theorem dX3_writeBase_96 : decode cX3_writeBase 96 = .ok (.ifCond .eq 17, 3) := by decide +kernel
theorem dX3_writeBase_99 : decode cX3_writeBase 99 = .ok (.aload_n 0, 1) := by decide +kernel
theorem dX3_writeBase_100 : decode cX3_writeBase 100 = .ok (.getfield 25, 3) := by decide +kernel
theorem dX3_writeBase_103 : decode cX3_writeBase 103 = .ok (.aload_n 0, 1) := by decide +kernel
theorem dX3_writeBase_104 : decode cX3_writeBase 104 = .ok (.getfield 18, 3) := by decide +kernel
theorem dX3_writeBase_107 : decode cX3_writeBase 107 = .ok (.getfield 102, 3) := by decide +kernel
theorem dX3_writeBase_110 : decode cX3_writeBase 110 = .ok (.invokevirtual 67, 3) := by decide +kernel
theorem dX3_writeBase_113 : decode cX3_writeBase 113 = .ok (.iload_n 2, 1) := by decide +kernel
theorem dX3_writeBase_114 : decode cX3_writeBase 114 = .ok (.ifCond .eq 17, 3) := by decide +kernel
theorem dX3_writeBase_117 : decode cX3_writeBase 117 = .ok (.aload_n 0, 1) := by decide +kernel
theorem dX3_writeBase_118 : decode cX3_writeBase 118 = .ok (.getfield 25, 3) := by decide +kernel
theorem dX3_writeBase_121 : decode cX3_writeBase 121 = .ok (.aload_n 0, 1) := by decide +kernel
theorem dX3_writeBase_122 : decode cX3_writeBase 122 = .ok (.getfield 18, 3) := by decide +kernel
theorem dX3_writeBase_125 : decode cX3_writeBase 125 = .ok (.getfield 105, 3) := by decide +kernel
theorem dX3_writeBase_128 : decode cX3_writeBase 128 = .ok (.invokevirtual 67, 3) := by decide +kernel
theorem dX3_writeBase_131 : decode cX3_writeBase 131 = .ok (.return_, 1) := by decide +kernel
theorem dX3_writeSaved_0 : decode cX3_writeSaved 0 = .ok (.iconst 0, 1) := by decide +kernel
theorem dX3_writeSaved_1 : decode cX3_writeSaved 1 = .ok (.istore_n 1, 1) := by decide +kernel
theorem dX3_writeSaved_2 : decode cX3_writeSaved 2 = .ok (.iload_n 1, 1) := by decide +kernel
theorem dX3_writeSaved_3 : decode cX3_writeSaved 3 = .ok (.iconst 3, 1) := by decide +kernel
theorem dX3_writeSaved_4 : decode cX3_writeSaved 4 = .ok (.if_icmp .ge 66, 3) := by decide +kernel
theorem dX3_writeSaved_7 : decode cX3_writeSaved 7 = .ok (.aload_n 0, 1) := by decide +kernel
theorem dX3_writeSaved_8 : decode cX3_writeSaved 8 = .ok (.getfield 18, 3) := by decide +kernel
theorem dX3_writeSaved_11 : decode cX3_writeSaved 11 = .ok (.getfield 108, 3) := by decide +kernel
theorem dX3_writeSaved_14 : decode cX3_writeSaved 14 = .ok (.iload_n 1, 1) := by decide +kernel
theorem dX3_writeSaved_15 : decode cX3_writeSaved 15 = .ok (.iaload, 1) := by decide +kernel
theorem dX3_writeSaved_16 : decode cX3_writeSaved 16 = .ok (.istore_n 2, 1) := by decide +kernel
theorem dX3_writeSaved_17 : decode cX3_writeSaved 17 = .ok (.iload_n 2, 1) := by decide +kernel
theorem dX3_writeSaved_18 : decode cX3_writeSaved 18 = .ok (.aload_n 0, 1) := by decide +kernel
theorem dX3_writeSaved_19 : decode cX3_writeSaved 19 = .ok (.getfield 12, 3) := by decide +kernel
theorem dX3_writeSaved_22 : decode cX3_writeSaved 22 = .ok (.getfield 108, 3) := by decide +kernel
theorem dX3_writeSaved_25 : decode cX3_writeSaved 25 = .ok (.iload_n 1, 1) := by decide +kernel
theorem dX3_writeSaved_26 : decode cX3_writeSaved 26 = .ok (.iaload, 1) := by decide +kernel
theorem dX3_writeSaved_27 : decode cX3_writeSaved 27 = .ok (.if_icmp .eq 37, 3) := by decide +kernel
theorem dX3_writeSaved_30 : decode cX3_writeSaved 30 = .ok (.aload_n 0, 1) := by decide +kernel
theorem dX3_writeSaved_31 : decode cX3_writeSaved 31 = .ok (.getfield 25, 3) := by decide +kernel
theorem dX3_writeSaved_34 : decode cX3_writeSaved 34 = .ok (.iload_n 2, 1) := by decide +kernel
theorem dX3_writeSaved_35 : decode cX3_writeSaved 35 = .ok (.ifCond .ne 9, 3) := by decide +kernel
theorem dX3_writeSaved_38 : decode cX3_writeSaved 38 = .ok (.sipush 192, 3) := by decide +kernel
theorem dX3_writeSaved_41 : decode cX3_writeSaved 41 = .ok (.goto 6, 3) := by decide +kernel
theorem dX3_writeSaved_44 : decode cX3_writeSaved 44 = .ok (.sipush 128, 3) := by decide +kernel
theorem dX3_writeSaved_47 : decode cX3_writeSaved 47 = .ok (.iload_n 1, 1) := by decide +kernel
theorem dX3_writeSaved_48 : decode cX3_writeSaved 48 = .ok (.iadd, 1) := by decide +kernel
theorem dX3_writeSaved_49 : decode cX3_writeSaved 49 = .ok (.invokevirtual 67, 3) := by decide +kernel
theorem dX3_writeSaved_52 : decode cX3_writeSaved 52 = .ok (.iload_n 2, 1) := by decide +kernel
theorem dX3_writeSaved_53 : decode cX3_writeSaved 53 = .ok (.ifCond .eq 11, 3) := by decide +kernel
theorem dX3_writeSaved_56 : decode cX3_writeSaved 56 = .ok (.aload_n 0, 1) := by decide +kernel
theorem dX3_writeSaved_57 : decode cX3_writeSaved 57 = .ok (.getfield 25, 3) := by decide +kernel
theorem dX3_writeSaved_60 : decode cX3_writeSaved 60 = .ok (.iload_n 2, 1) := by decide +kernel
theorem dX3_writeSaved_61 : decode cX3_writeSaved 61 = .ok (.invokevirtual 67, 3) := by decide +kernel
theorem dX3_writeSaved_64 : decode cX3_writeSaved 64 = .ok (.iinc 1 1, 3) := by decide +kernel
theorem dX3_writeSaved_67 : decode cX3_writeSaved 67 = .ok (.goto (-65), 3) := by decide +kernel
theorem dX3_writeSaved_70 : decode cX3_writeSaved 70 = .ok (.return_, 1) := by decide +kernel
theorem dX4_init_0 : decode cX4_init 0 = .ok (.aload_n 0, 1) := by decide +kernel
theorem dX4_init_1 : decode cX4_init 1 = .ok (.invokespecial 3, 3) := by decide +kernel
theorem dX4_init_4 : decode cX4_init 4 = .ok (.aload_n 0, 1) := by decide +kernel
theorem dX4_init_5 : decode cX4_init 5 = .ok (.bipush 96, 2) := by decide +kernel
theorem dX4_init_7 : decode cX4_init 7 = .ok (.newarray .int, 2) := by decide +kernel
theorem dX4_init_9 : decode cX4_init 9 = .ok (.putfield 9, 3) := by decide +kernel
theorem dX4_init_12 : decode cX4_init 12 = .ok (.aload_n 0, 1) := by decide +kernel
theorem dX4_init_13 : decode cX4_init 13 = .ok (.iconst 5, 1) := by decide +kernel
theorem dX4_init_14 : decode cX4_init 14 = .ok (.newarray .int, 2) := by decide +kernel
theorem dX4_init_16 : decode cX4_init 16 = .ok (.putfield 15, 3) := by decide +kernel
theorem dX4_init_19 : decode cX4_init 19 = .ok (.aload_n 0, 1) := by decide +kernel
theorem dX4_init_20 : decode cX4_init 20 = .ok (.iconst 5, 1) := by decide +kernel
theorem dX4_init_21 : decode cX4_init 21 = .ok (.newarray .int, 2) := by decide +kernel
theorem dX4_init_23 : decode cX4_init 23 = .ok (.putfield 18, 3) := by decide +kernel
theorem dX4_init_26 : decode cX4_init 26 = .ok (.return_, 1) := by decide +kernel
theorem dX4_append_0 : decode cX4_append 0 = .ok (.iload_n 3, 1) := by decide +kernel
theorem dX4_append_1 : decode cX4_append 1 = .ok (.iconst 1, 1) := by decide +kernel
theorem dX4_append_2 : decode cX4_append 2 = .ok (.if_icmp .lt 20, 3) := by decide +kernel
theorem dX4_append_5 : decode cX4_append 5 = .ok (.iload_n 3, 1) := by decide +kernel
theorem dX4_append_6 : decode cX4_append 6 = .ok (.bipush 8, 2) := by decide +kernel
theorem dX4_append_8 : decode cX4_append 8 = .ok (.if_icmp .gt 14, 3) := by decide +kernel
theorem dX4_append_11 : decode cX4_append 11 = .ok (.aload_n 0, 1) := by decide +kernel
theorem dX4_append_12 : decode cX4_append 12 = .ok (.getfield 21, 3) := by decide +kernel
theorem dX4_append_15 : decode cX4_append 15 = .ok (.iload_n 3, 1) := by decide +kernel
theorem dX4_append_16 : decode cX4_append 16 = .ok (.iadd, 1) := by decide +kernel
theorem dX4_append_17 : decode cX4_append 17 = .ok (.bipush 96, 2) := by decide +kernel
theorem dX4_append_19 : decode cX4_append 19 = .ok (.if_icmp .le 5, 3) := by decide +kernel
theorem dX4_append_22 : decode cX4_append 22 = .ok (.iconst (-1), 1) := by decide +kernel
theorem dX4_append_23 : decode cX4_append 23 = .ok (.ireturn, 1) := by decide +kernel
theorem dX4_append_24 : decode cX4_append 24 = .ok (.iload_n 3, 1) := by decide +kernel
theorem dX4_append_25 : decode cX4_append 25 = .ok (.iconst 1, 1) := by decide +kernel
theorem dX4_append_26 : decode cX4_append 26 = .ok (.isub, 1) := by decide +kernel
theorem dX4_append_27 : decode cX4_append 27 = .ok (.istore 4, 2) := by decide +kernel
theorem dX4_append_29 : decode cX4_append 29 = .ok (.iload 4, 2) := by decide +kernel
theorem dX4_append_31 : decode cX4_append 31 = .ok (.ifCond .lt 40, 3) := by decide +kernel
theorem dX4_append_34 : decode cX4_append 34 = .ok (.aload_n 0, 1) := by decide +kernel
theorem dX4_append_35 : decode cX4_append 35 = .ok (.getfield 9, 3) := by decide +kernel
theorem dX4_append_38 : decode cX4_append 38 = .ok (.aload_n 0, 1) := by decide +kernel
theorem dX4_append_39 : decode cX4_append 39 = .ok (.getfield 21, 3) := by decide +kernel
theorem dX4_append_42 : decode cX4_append 42 = .ok (.lload_n 1, 1) := by decide +kernel
theorem dX4_append_43 : decode cX4_append 43 = .ok (.bipush 8, 2) := by decide +kernel
theorem dX4_append_45 : decode cX4_append 45 = .ok (.iload 4, 2) := by decide +kernel
theorem dX4_append_47 : decode cX4_append 47 = .ok (.imul, 1) := by decide +kernel
theorem dX4_append_48 : decode cX4_append 48 = .ok (.lushr, 1) := by decide +kernel
theorem dX4_append_49 : decode cX4_append 49 = .ok (.l2i, 1) := by decide +kernel
theorem dX4_append_50 : decode cX4_append 50 = .ok (.sipush 255, 3) := by decide +kernel
theorem dX4_append_53 : decode cX4_append 53 = .ok (.iand, 1) := by decide +kernel
theorem dX4_append_54 : decode cX4_append 54 = .ok (.iastore, 1) := by decide +kernel
theorem dX4_append_55 : decode cX4_append 55 = .ok (.aload_n 0, 1) := by decide +kernel
theorem dX4_append_56 : decode cX4_append 56 = .ok (.dup, 1) := by decide +kernel
theorem dX4_append_57 : decode cX4_append 57 = .ok (.getfield 21, 3) := by decide +kernel
theorem dX4_append_60 : decode cX4_append 60 = .ok (.iconst 1, 1) := by decide +kernel
theorem dX4_append_61 : decode cX4_append 61 = .ok (.iadd, 1) := by decide +kernel
theorem dX4_append_62 : decode cX4_append 62 = .ok (.putfield 21, 3) := by decide +kernel
theorem dX4_append_65 : decode cX4_append 65 = .ok (.iinc 4 (-1), 3) := by decide +kernel
theorem dX4_append_68 : decode cX4_append 68 = .ok (.goto (-39), 3) := by decide +kernel
theorem dX4_append_71 : decode cX4_append 71 = .ok (.aload_n 0, 1) := by decide +kernel
theorem dX4_append_72 : decode cX4_append 72 = .ok (.getfield 21, 3) := by decide +kernel
theorem dX4_append_75 : decode cX4_append 75 = .ok (.ireturn, 1) := by decide +kernel
theorem dX4_addFunction_0 : decode cX4_addFunction 0 = .ok (.aload_n 0, 1) := by decide +kernel
theorem dX4_addFunction_1 : decode cX4_addFunction 1 = .ok (.getfield 25, 3) := by decide +kernel
theorem dX4_addFunction_4 : decode cX4_addFunction 4 = .ok (.iconst 5, 1) := by decide +kernel
theorem dX4_addFunction_5 : decode cX4_addFunction 5 = .ok (.if_icmp .ge 20, 3) := by decide +kernel
theorem dX4_addFunction_8 : decode cX4_addFunction 8 = .ok (.iload_n 1, 1) := by decide +kernel
theorem dX4_addFunction_9 : decode cX4_addFunction 9 = .ok (.ifCond .lt 16, 3) := by decide +kernel
theorem dX4_addFunction_12 : decode cX4_addFunction 12 = .ok (.iload_n 1, 1) := by decide +kernel
theorem dX4_addFunction_13 : decode cX4_addFunction 13 = .ok (.iload_n 2, 1) := by decide +kernel
theorem dX4_addFunction_14 : decode cX4_addFunction 14 = .ok (.if_icmp .ge 11, 3) := by decide +kernel
theorem dX4_addFunction_17 : decode cX4_addFunction 17 = .ok (.iload_n 2, 1) := by decide +kernel
theorem dX4_addFunction_18 : decode cX4_addFunction 18 = .ok (.aload_n 0, 1) := by decide +kernel
theorem dX4_addFunction_19 : decode cX4_addFunction 19 = .ok (.getfield 21, 3) := by decide +kernel
theorem dX4_addFunction_22 : decode cX4_addFunction 22 = .ok (.if_icmp .le 5, 3) := by decide +kernel
theorem dX4_addFunction_25 : decode cX4_addFunction 25 = .ok (.iconst (-1), 1) := by decide +kernel
theorem dX4_addFunction_26 : decode cX4_addFunction 26 = .ok (.ireturn, 1) := by decide +kernel
theorem dX4_addFunction_27 : decode cX4_addFunction 27 = .ok (.iconst 0, 1) := by decide +kernel
theorem dX4_addFunction_28 : decode cX4_addFunction 28 = .ok (.istore_n 3, 1) := by decide +kernel
theorem dX4_addFunction_29 : decode cX4_addFunction 29 = .ok (.iload_n 3, 1) := by decide +kernel
theorem dX4_addFunction_30 : decode cX4_addFunction 30 = .ok (.aload_n 0, 1) := by decide +kernel
theorem dX4_addFunction_31 : decode cX4_addFunction 31 = .ok (.getfield 25, 3) := by decide +kernel
theorem dX4_addFunction_34 : decode cX4_addFunction 34 = .ok (.if_icmp .ge 31, 3) := by decide +kernel
theorem dX4_addFunction_37 : decode cX4_addFunction 37 = .ok (.iload_n 1, 1) := by decide +kernel
theorem dX4_addFunction_38 : decode cX4_addFunction 38 = .ok (.aload_n 0, 1) := by decide +kernel
theorem dX4_addFunction_39 : decode cX4_addFunction 39 = .ok (.getfield 18, 3) := by decide +kernel
theorem dX4_addFunction_42 : decode cX4_addFunction 42 = .ok (.iload_n 3, 1) := by decide +kernel
theorem dX4_addFunction_43 : decode cX4_addFunction 43 = .ok (.iaload, 1) := by decide +kernel
theorem dX4_addFunction_44 : decode cX4_addFunction 44 = .ok (.if_icmp .ge 15, 3) := by decide +kernel
theorem dX4_addFunction_47 : decode cX4_addFunction 47 = .ok (.aload_n 0, 1) := by decide +kernel
theorem dX4_addFunction_48 : decode cX4_addFunction 48 = .ok (.getfield 15, 3) := by decide +kernel
theorem dX4_addFunction_51 : decode cX4_addFunction 51 = .ok (.iload_n 3, 1) := by decide +kernel
theorem dX4_addFunction_52 : decode cX4_addFunction 52 = .ok (.iaload, 1) := by decide +kernel
theorem dX4_addFunction_53 : decode cX4_addFunction 53 = .ok (.iload_n 2, 1) := by decide +kernel
theorem dX4_addFunction_54 : decode cX4_addFunction 54 = .ok (.if_icmp .ge 5, 3) := by decide +kernel
theorem dX4_addFunction_57 : decode cX4_addFunction 57 = .ok (.iconst (-1), 1) := by decide +kernel
theorem dX4_addFunction_58 : decode cX4_addFunction 58 = .ok (.ireturn, 1) := by decide +kernel
theorem dX4_addFunction_59 : decode cX4_addFunction 59 = .ok (.iinc 3 1, 3) := by decide +kernel
theorem dX4_addFunction_62 : decode cX4_addFunction 62 = .ok (.goto (-33), 3) := by decide +kernel
theorem dX4_addFunction_65 : decode cX4_addFunction 65 = .ok (.aload_n 0, 1) := by decide +kernel
theorem dX4_addFunction_66 : decode cX4_addFunction 66 = .ok (.iload_n 1, 1) := by decide +kernel
theorem dX4_addFunction_67 : decode cX4_addFunction 67 = .ok (.iload_n 2, 1) := by decide +kernel
theorem dX4_addFunction_68 : decode cX4_addFunction 68 = .ok (.invokevirtual 28, 3) := by decide +kernel
theorem dX4_addFunction_71 : decode cX4_addFunction 71 = .ok (.aload_n 0, 1) := by decide +kernel
theorem dX4_addFunction_72 : decode cX4_addFunction 72 = .ok (.getfield 25, 3) := by decide +kernel
theorem dX4_addFunction_75 : decode cX4_addFunction 75 = .ok (.ireturn, 1) := by decide +kernel
theorem dX4_insertFunction_0 : decode cX4_insertFunction 0 = .ok (.aload_n 0, 1) := by decide +kernel
theorem dX4_insertFunction_1 : decode cX4_insertFunction 1 = .ok (.getfield 25, 3) := by decide +kernel
theorem dX4_insertFunction_4 : decode cX4_insertFunction 4 = .ok (.istore_n 3, 1) := by decide +kernel
theorem dX4_insertFunction_5 : decode cX4_insertFunction 5 = .ok (.iload_n 3, 1) := by decide +kernel
theorem dX4_insertFunction_6 : decode cX4_insertFunction 6 = .ok (.ifCond .le 49, 3) := by decide +kernel
theorem dX4_insertFunction_9 : decode cX4_insertFunction 9 = .ok (.aload_n 0, 1) := by decide +kernel
theorem dX4_insertFunction_10 : decode cX4_insertFunction 10 = .ok (.getfield 15, 3) := by decide +kernel
theorem dX4_insertFunction_13 : decode cX4_insertFunction 13 = .ok (.iload_n 3, 1) := by decide +kernel
theorem dX4_insertFunction_14 : decode cX4_insertFunction 14 = .ok (.iconst 1, 1) := by decide +kernel
theorem dX4_insertFunction_15 : decode cX4_insertFunction 15 = .ok (.isub, 1) := by decide +kernel
theorem dX4_insertFunction_16 : decode cX4_insertFunction 16 = .ok (.iaload, 1) := by decide +kernel
theorem dX4_insertFunction_17 : decode cX4_insertFunction 17 = .ok (.iload_n 1, 1) := by decide +kernel
theorem dX4_insertFunction_18 : decode cX4_insertFunction 18 = .ok (.if_icmp .le 37, 3) := by decide +kernel
theorem dX4_insertFunction_21 : decode cX4_insertFunction 21 = .ok (.aload_n 0, 1) := by decide +kernel
theorem dX4_insertFunction_22 : decode cX4_insertFunction 22 = .ok (.getfield 15, 3) := by decide +kernel
theorem dX4_insertFunction_25 : decode cX4_insertFunction 25 = .ok (.iload_n 3, 1) := by decide +kernel
theorem dX4_insertFunction_26 : decode cX4_insertFunction 26 = .ok (.aload_n 0, 1) := by decide +kernel
theorem dX4_insertFunction_27 : decode cX4_insertFunction 27 = .ok (.getfield 15, 3) := by decide +kernel
theorem dX4_insertFunction_30 : decode cX4_insertFunction 30 = .ok (.iload_n 3, 1) := by decide +kernel
theorem dX4_insertFunction_31 : decode cX4_insertFunction 31 = .ok (.iconst 1, 1) := by decide +kernel
theorem dX4_insertFunction_32 : decode cX4_insertFunction 32 = .ok (.isub, 1) := by decide +kernel
theorem dX4_insertFunction_33 : decode cX4_insertFunction 33 = .ok (.iaload, 1) := by decide +kernel
theorem dX4_insertFunction_34 : decode cX4_insertFunction 34 = .ok (.iastore, 1) := by decide +kernel
theorem dX4_insertFunction_35 : decode cX4_insertFunction 35 = .ok (.aload_n 0, 1) := by decide +kernel
theorem dX4_insertFunction_36 : decode cX4_insertFunction 36 = .ok (.getfield 18, 3) := by decide +kernel
theorem dX4_insertFunction_39 : decode cX4_insertFunction 39 = .ok (.iload_n 3, 1) := by decide +kernel
theorem dX4_insertFunction_40 : decode cX4_insertFunction 40 = .ok (.aload_n 0, 1) := by decide +kernel
theorem dX4_insertFunction_41 : decode cX4_insertFunction 41 = .ok (.getfield 18, 3) := by decide +kernel
theorem dX4_insertFunction_44 : decode cX4_insertFunction 44 = .ok (.iload_n 3, 1) := by decide +kernel
theorem dX4_insertFunction_45 : decode cX4_insertFunction 45 = .ok (.iconst 1, 1) := by decide +kernel
theorem dX4_insertFunction_46 : decode cX4_insertFunction 46 = .ok (.isub, 1) := by decide +kernel
theorem dX4_insertFunction_47 : decode cX4_insertFunction 47 = .ok (.iaload, 1) := by decide +kernel
theorem dX4_insertFunction_48 : decode cX4_insertFunction 48 = .ok (.iastore, 1) := by decide +kernel
theorem dX4_insertFunction_49 : decode cX4_insertFunction 49 = .ok (.iinc 3 (-1), 3) := by decide +kernel
theorem dX4_insertFunction_52 : decode cX4_insertFunction 52 = .ok (.goto (-47), 3) := by decide +kernel
theorem dX4_insertFunction_55 : decode cX4_insertFunction 55 = .ok (.aload_n 0, 1) := by decide +kernel
theorem dX4_insertFunction_56 : decode cX4_insertFunction 56 = .ok (.getfield 15, 3) := by decide +kernel
theorem dX4_insertFunction_59 : decode cX4_insertFunction 59 = .ok (.iload_n 3, 1) := by decide +kernel
theorem dX4_insertFunction_60 : decode cX4_insertFunction 60 = .ok (.iload_n 1, 1) := by decide +kernel
theorem dX4_insertFunction_61 : decode cX4_insertFunction 61 = .ok (.iastore, 1) := by decide +kernel
theorem dX4_insertFunction_62 : decode cX4_insertFunction 62 = .ok (.aload_n 0, 1) := by decide +kernel
theorem dX4_insertFunction_63 : decode cX4_insertFunction 63 = .ok (.getfield 18, 3) := by decide +kernel
theorem dX4_insertFunction_66 : decode cX4_insertFunction 66 = .ok (.iload_n 3, 1) := by decide +kernel
theorem dX4_insertFunction_67 : decode cX4_insertFunction 67 = .ok (.iload_n 2, 1) := by decide +kernel
theorem dX4_insertFunction_68 : decode cX4_insertFunction 68 = .ok (.iastore, 1) := by decide +kernel
theorem dX4_insertFunction_69 : decode cX4_insertFunction 69 = .ok (.aload_n 0, 1) := by decide +kernel
theorem dX4_insertFunction_70 : decode cX4_insertFunction 70 = .ok (.dup, 1) := by decide +kernel
theorem dX4_insertFunction_71 : decode cX4_insertFunction 71 = .ok (.getfield 25, 3) := by decide +kernel
theorem dX4_insertFunction_74 : decode cX4_insertFunction 74 = .ok (.iconst 1, 1) := by decide +kernel
theorem dX4_insertFunction_75 : decode cX4_insertFunction 75 = .ok (.iadd, 1) := by decide +kernel
theorem dX4_insertFunction_76 : decode cX4_insertFunction 76 = .ok (.putfield 25, 3) := by decide +kernel
theorem dX4_insertFunction_79 : decode cX4_insertFunction 79 = .ok (.return_, 1) := by decide +kernel
theorem dX4_empty_0 : decode cX4_empty 0 = .ok (.aload_n 0, 1) := by decide +kernel
theorem dX4_empty_1 : decode cX4_empty 1 = .ok (.getfield 25, 3) := by decide +kernel
theorem dX4_empty_4 : decode cX4_empty 4 = .ok (.istore_n 1, 1) := by decide +kernel
theorem dX4_empty_5 : decode cX4_empty 5 = .ok (.aload_n 0, 1) := by decide +kernel
theorem dX4_empty_6 : decode cX4_empty 6 = .ok (.iconst 0, 1) := by decide +kernel
theorem dX4_empty_7 : decode cX4_empty 7 = .ok (.putfield 21, 3) := by decide +kernel
theorem dX4_empty_10 : decode cX4_empty 10 = .ok (.aload_n 0, 1) := by decide +kernel
theorem dX4_empty_11 : decode cX4_empty 11 = .ok (.iconst 0, 1) := by decide +kernel
theorem dX4_empty_12 : decode cX4_empty 12 = .ok (.putfield 25, 3) := by decide +kernel
theorem dX4_empty_15 : decode cX4_empty 15 = .ok (.iload_n 1, 1) := by decide +kernel
theorem dX4_empty_16 : decode cX4_empty 16 = .ok (.ireturn, 1) := by decide +kernel
theorem dX4_codeAt_0 : decode cX4_codeAt 0 = .ok (.iload_n 1, 1) := by decide +kernel
theorem dX4_codeAt_1 : decode cX4_codeAt 1 = .ok (.ifCond .lt 20, 3) := by decide +kernel
theorem dX4_codeAt_4 : decode cX4_codeAt 4 = .ok (.iload_n 1, 1) := by decide +kernel
theorem dX4_codeAt_5 : decode cX4_codeAt 5 = .ok (.aload_n 0, 1) := by decide +kernel
theorem dX4_codeAt_6 : decode cX4_codeAt 6 = .ok (.getfield 21, 3) := by decide +kernel
theorem dX4_codeAt_9 : decode cX4_codeAt 9 = .ok (.if_icmp .ge 12, 3) := by decide +kernel
theorem dX4_codeAt_12 : decode cX4_codeAt 12 = .ok (.aload_n 0, 1) := by decide +kernel
theorem dX4_codeAt_13 : decode cX4_codeAt 13 = .ok (.getfield 9, 3) := by decide +kernel
theorem dX4_codeAt_16 : decode cX4_codeAt 16 = .ok (.iload_n 1, 1) := by decide +kernel
theorem dX4_codeAt_17 : decode cX4_codeAt 17 = .ok (.iaload, 1) := by decide +kernel
theorem dX4_codeAt_18 : decode cX4_codeAt 18 = .ok (.goto 4, 3) := by decide +kernel
theorem dX4_codeAt_21 : decode cX4_codeAt 21 = .ok (.iconst (-1), 1) := by decide +kernel
theorem dX4_codeAt_22 : decode cX4_codeAt 22 = .ok (.ireturn, 1) := by decide +kernel
theorem dX4_startsFunction_0 : decode cX4_startsFunction 0 = .ok (.iconst 0, 1) := by decide +kernel
theorem dX4_startsFunction_1 : decode cX4_startsFunction 1 = .ok (.istore_n 2, 1) := by decide +kernel
theorem dX4_startsFunction_2 : decode cX4_startsFunction 2 = .ok (.iload_n 2, 1) := by decide +kernel
theorem dX4_startsFunction_3 : decode cX4_startsFunction 3 = .ok (.aload_n 0, 1) := by decide +kernel
theorem dX4_startsFunction_4 : decode cX4_startsFunction 4 = .ok (.getfield 25, 3) := by decide +kernel
theorem dX4_startsFunction_7 : decode cX4_startsFunction 7 = .ok (.if_icmp .ge 21, 3) := by decide +kernel
theorem dX4_startsFunction_10 : decode cX4_startsFunction 10 = .ok (.aload_n 0, 1) := by decide +kernel
theorem dX4_startsFunction_11 : decode cX4_startsFunction 11 = .ok (.getfield 15, 3) := by decide +kernel
theorem dX4_startsFunction_14 : decode cX4_startsFunction 14 = .ok (.iload_n 2, 1) := by decide +kernel
theorem dX4_startsFunction_15 : decode cX4_startsFunction 15 = .ok (.iaload, 1) := by decide +kernel
theorem dX4_startsFunction_16 : decode cX4_startsFunction 16 = .ok (.iload_n 1, 1) := by decide +kernel
theorem dX4_startsFunction_17 : decode cX4_startsFunction 17 = .ok (.if_icmp .ne 5, 3) := by decide +kernel
theorem dX4_startsFunction_20 : decode cX4_startsFunction 20 = .ok (.iconst 1, 1) := by decide +kernel
theorem dX4_startsFunction_21 : decode cX4_startsFunction 21 = .ok (.ireturn, 1) := by decide +kernel
theorem dX4_startsFunction_22 : decode cX4_startsFunction 22 = .ok (.iinc 2 1, 3) := by decide +kernel
theorem dX4_startsFunction_25 : decode cX4_startsFunction 25 = .ok (.goto (-23), 3) := by decide +kernel
theorem dX4_startsFunction_28 : decode cX4_startsFunction 28 = .ok (.iconst 0, 1) := by decide +kernel
theorem dX4_startsFunction_29 : decode cX4_startsFunction 29 = .ok (.ireturn, 1) := by decide +kernel
theorem dX4_wholeSize_0 : decode cX4_wholeSize 0 = .ok (.aload_n 0, 1) := by decide +kernel
theorem dX4_wholeSize_1 : decode cX4_wholeSize 1 = .ok (.iload_n 1, 1) := by decide +kernel
theorem dX4_wholeSize_2 : decode cX4_wholeSize 2 = .ok (.invokevirtual 32, 3) := by decide +kernel
theorem dX4_wholeSize_5 : decode cX4_wholeSize 5 = .ok (.istore_n 3, 1) := by decide +kernel
theorem dX4_wholeSize_6 : decode cX4_wholeSize 6 = .ok (.iload_n 3, 1) := by decide +kernel
theorem dX4_wholeSize_7 : decode cX4_wholeSize 7 = .ok (.ifCond .lt 11, 3) := by decide +kernel
theorem dX4_wholeSize_10 : decode cX4_wholeSize 10 = .ok (.iload_n 3, 1) := by decide +kernel
theorem dX4_wholeSize_11 : decode cX4_wholeSize 11 = .ok (.getstatic 36, 3) := by decide +kernel
theorem dX4_wholeSize_14 : decode cX4_wholeSize 14 = .ok (.arraylength, 1) := by decide +kernel
theorem dX4_wholeSize_15 : decode cX4_wholeSize 15 = .ok (.if_icmp .lt 5, 3) := by decide +kernel
theorem dX4_wholeSize_18 : decode cX4_wholeSize 18 = .ok (.iconst 0, 1) := by decide +kernel
theorem dX4_wholeSize_19 : decode cX4_wholeSize 19 = .ok (.ireturn, 1) := by decide +kernel
theorem dX4_wholeSize_20 : decode cX4_wholeSize 20 = .ok (.getstatic 36, 3) := by decide +kernel
theorem dX4_wholeSize_23 : decode cX4_wholeSize 23 = .ok (.iload_n 3, 1) := by decide +kernel
theorem dX4_wholeSize_24 : decode cX4_wholeSize 24 = .ok (.iaload, 1) := by decide +kernel
theorem dX4_wholeSize_25 : decode cX4_wholeSize 25 = .ok (.istore 4, 2) := by decide +kernel
theorem dX4_wholeSize_27 : decode cX4_wholeSize 27 = .ok (.iload 4, 2) := by decide +kernel
theorem dX4_wholeSize_29 : decode cX4_wholeSize 29 = .ok (.iload_n 2, 1) := by decide +kernel
theorem dX4_wholeSize_30 : decode cX4_wholeSize 30 = .ok (.iload_n 1, 1) := by decide +kernel
theorem dX4_wholeSize_31 : decode cX4_wholeSize 31 = .ok (.isub, 1) := by decide +kernel
theorem dX4_wholeSize_32 : decode cX4_wholeSize 32 = .ok (.if_icmp .le 5, 3) := by decide +kernel
theorem dX4_wholeSize_35 : decode cX4_wholeSize 35 = .ok (.iconst 0, 1) := by decide +kernel
theorem dX4_wholeSize_36 : decode cX4_wholeSize 36 = .ok (.ireturn, 1) := by decide +kernel
theorem dX4_wholeSize_37 : decode cX4_wholeSize 37 = .ok (.iload_n 3, 1) := by decide +kernel
theorem dX4_wholeSize_38 : decode cX4_wholeSize 38 = .ok (.invokestatic 39, 3) := by decide +kernel
theorem dX4_wholeSize_41 : decode cX4_wholeSize 41 = .ok (.ifCond .eq 18, 3) := by decide +kernel
theorem dX4_wholeSize_44 : decode cX4_wholeSize 44 = .ok (.aload_n 0, 1) := by decide +kernel
theorem dX4_wholeSize_45 : decode cX4_wholeSize 45 = .ok (.iload_n 1, 1) := by decide +kernel
theorem dX4_wholeSize_46 : decode cX4_wholeSize 46 = .ok (.iconst 1, 1) := by decide +kernel
theorem dX4_wholeSize_47 : decode cX4_wholeSize 47 = .ok (.iadd, 1) := by decide +kernel
theorem dX4_wholeSize_48 : decode cX4_wholeSize 48 = .ok (.invokevirtual 32, 3) := by decide +kernel
theorem dX4_wholeSize_51 : decode cX4_wholeSize 51 = .ok (.iconst 3, 1) := by decide +kernel
theorem dX4_wholeSize_52 : decode cX4_wholeSize 52 = .ok (.if_icmp .lt 7, 3) := by decide +kernel
theorem dX4_wholeSize_55 : decode cX4_wholeSize 55 = .ok (.iconst 0, 1) := by decide +kernel
theorem dX4_wholeSize_56 : decode cX4_wholeSize 56 = .ok (.goto 5, 3) := by decide +kernel
theorem dX4_wholeSize_59 : decode cX4_wholeSize 59 = .ok (.iload 4, 2) := by decide +kernel
theorem dX4_wholeSize_61 : decode cX4_wholeSize 61 = .ok (.ireturn, 1) := by decide +kernel
theorem dX4_namesRegister_0 : decode cX4_namesRegister 0 = .ok (.iload_n 0, 1) := by decide +kernel
theorem dX4_namesRegister_1 : decode cX4_namesRegister 1 = .ok (.iconst 1, 1) := by decide +kernel
theorem dX4_namesRegister_2 : decode cX4_namesRegister 2 = .ok (.if_icmp .eq 26, 3) := by decide +kernel
theorem dX4_namesRegister_5 : decode cX4_namesRegister 5 = .ok (.iload_n 0, 1) := by decide +kernel
theorem dX4_namesRegister_6 : decode cX4_namesRegister 6 = .ok (.iconst 2, 1) := by decide +kernel
theorem dX4_namesRegister_7 : decode cX4_namesRegister 7 = .ok (.if_icmp .eq 21, 3) := by decide +kernel
theorem dX4_namesRegister_10 : decode cX4_namesRegister 10 = .ok (.iload_n 0, 1) := by decide +kernel
theorem dX4_namesRegister_11 : decode cX4_namesRegister 11 = .ok (.bipush 11, 2) := by decide +kernel
theorem dX4_namesRegister_13 : decode cX4_namesRegister 13 = .ok (.if_icmp .eq 15, 3) := by decide +kernel
theorem dX4_namesRegister_16 : decode cX4_namesRegister 16 = .ok (.iload_n 0, 1) := by decide +kernel
theorem dX4_namesRegister_17 : decode cX4_namesRegister 17 = .ok (.bipush 14, 2) := by decide +kernel
theorem dX4_namesRegister_19 : decode cX4_namesRegister 19 = .ok (.if_icmp .eq 9, 3) := by decide +kernel
theorem dX4_namesRegister_22 : decode cX4_namesRegister 22 = .ok (.iload_n 0, 1) := by decide +kernel
theorem dX4_namesRegister_23 : decode cX4_namesRegister 23 = .ok (.bipush 15, 2) := by decide +kernel
theorem dX4_namesRegister_25 : decode cX4_namesRegister 25 = .ok (.if_icmp .ne 7, 3) := by decide +kernel
theorem dX4_namesRegister_28 : decode cX4_namesRegister 28 = .ok (.iconst 1, 1) := by decide +kernel
theorem dX4_namesRegister_29 : decode cX4_namesRegister 29 = .ok (.goto 4, 3) := by decide +kernel
theorem dX4_namesRegister_32 : decode cX4_namesRegister 32 = .ok (.iconst 0, 1) := by decide +kernel
theorem dX4_namesRegister_33 : decode cX4_namesRegister 33 = .ok (.ireturn, 1) := by decide +kernel
theorem dX5_init_0 : decode cX5_init 0 = .ok (.aload_n 0, 1) := by decide +kernel
theorem dX5_init_1 : decode cX5_init 1 = .ok (.invokespecial 3, 3) := by decide +kernel
theorem dX5_init_4 : decode cX5_init 4 = .ok (.aload_n 0, 1) := by decide +kernel
theorem dX5_init_5 : decode cX5_init 5 = .ok (.new 9, 3) := by decide +kernel
theorem dX5_init_8 : decode cX5_init 8 = .ok (.dup, 1) := by decide +kernel
theorem dX5_init_9 : decode cX5_init 9 = .ok (.invokespecial 11, 3) := by decide +kernel
theorem dX5_init_12 : decode cX5_init 12 = .ok (.putfield 12, 3) := by decide +kernel
theorem dX5_init_15 : decode cX5_init 15 = .ok (.aload_n 0, 1) := by decide +kernel
theorem dX5_init_16 : decode cX5_init 16 = .ok (.new 9, 3) := by decide +kernel
theorem dX5_init_19 : decode cX5_init 19 = .ok (.dup, 1) := by decide +kernel
theorem dX5_init_20 : decode cX5_init 20 = .ok (.invokespecial 11, 3) := by decide +kernel
theorem dX5_init_23 : decode cX5_init 23 = .ok (.putfield 18, 3) := by decide +kernel
theorem dX5_init_26 : decode cX5_init 26 = .ok (.aload_n 0, 1) := by decide +kernel
theorem dX5_init_27 : decode cX5_init 27 = .ok (.iconst 4, 1) := by decide +kernel
theorem dX5_init_28 : decode cX5_init 28 = .ok (.anewarray 9, 3) := by decide +kernel
theorem dX5_init_31 : decode cX5_init 31 = .ok (.putfield 21, 3) := by decide +kernel
theorem dX5_init_34 : decode cX5_init 34 = .ok (.aload_n 0, 1) := by decide +kernel
theorem dX5_init_35 : decode cX5_init 35 = .ok (.aload_n 1, 1) := by decide +kernel
theorem dX5_init_36 : decode cX5_init 36 = .ok (.putfield 25, 3) := by decide +kernel
theorem dX5_init_39 : decode cX5_init 39 = .ok (.iconst 0, 1) := by decide +kernel
theorem dX5_init_40 : decode cX5_init 40 = .ok (.istore_n 2, 1) := by decide +kernel
theorem dX5_init_41 : decode cX5_init 41 = .ok (.iload_n 2, 1) := by decide +kernel
theorem dX5_init_42 : decode cX5_init 42 = .ok (.iconst 4, 1) := by decide +kernel
theorem dX5_init_43 : decode cX5_init 43 = .ok (.if_icmp .ge 22, 3) := by decide +kernel
theorem dX5_init_46 : decode cX5_init 46 = .ok (.aload_n 0, 1) := by decide +kernel
theorem dX5_init_47 : decode cX5_init 47 = .ok (.getfield 21, 3) := by decide +kernel
theorem dX5_init_50 : decode cX5_init 50 = .ok (.iload_n 2, 1) := by decide +kernel
theorem dX5_init_51 : decode cX5_init 51 = .ok (.new 9, 3) := by decide +kernel
theorem dX5_init_54 : decode cX5_init 54 = .ok (.dup, 1) := by decide +kernel
theorem dX5_init_55 : decode cX5_init 55 = .ok (.invokespecial 11, 3) := by decide +kernel
theorem dX5_init_58 : decode cX5_init 58 = .ok (.aastore, 1) := by decide +kernel
theorem dX5_init_59 : decode cX5_init 59 = .ok (.iinc 2 1, 3) := by decide +kernel
theorem dX5_init_62 : decode cX5_init 62 = .ok (.goto (-21), 3) := by decide +kernel
theorem dX5_init_65 : decode cX5_init 65 = .ok (.return_, 1) := by decide +kernel
theorem dX5_lookUp_0 : decode cX5_lookUp 0 = .ok (.iconst 2, 1) := by decide +kernel
theorem dX5_lookUp_1 : decode cX5_lookUp 1 = .ok (.istore_n 2, 1) := by decide +kernel
theorem dX5_lookUp_2 : decode cX5_lookUp 2 = .ok (.iconst 0, 1) := by decide +kernel
theorem dX5_lookUp_3 : decode cX5_lookUp 3 = .ok (.istore_n 3, 1) := by decide +kernel
theorem dX5_lookUp_4 : decode cX5_lookUp 4 = .ok (.iload_n 3, 1) := by decide +kernel
theorem dX5_lookUp_5 : decode cX5_lookUp 5 = .ok (.aload_n 0, 1) := by decide +kernel
theorem dX5_lookUp_6 : decode cX5_lookUp 6 = .ok (.getfield 25, 3) := by decide +kernel
theorem dX5_lookUp_9 : decode cX5_lookUp 9 = .ok (.getfield 29, 3) := by decide +kernel
theorem dX5_lookUp_12 : decode cX5_lookUp 12 = .ok (.if_icmp .ge 113, 3) := by decide +kernel
theorem dX5_lookUp_15 : decode cX5_lookUp 15 = .ok (.aload_n 0, 1) := by decide +kernel
theorem dX5_lookUp_16 : decode cX5_lookUp 16 = .ok (.iload_n 3, 1) := by decide +kernel
theorem dX5_lookUp_17 : decode cX5_lookUp 17 = .ok (.invokevirtual 35, 3) := by decide +kernel
theorem dX5_lookUp_20 : decode cX5_lookUp 20 = .ok (.istore_n 2, 1) := by decide +kernel
theorem dX5_lookUp_21 : decode cX5_lookUp 21 = .ok (.iload_n 2, 1) := by decide +kernel
theorem dX5_lookUp_22 : decode cX5_lookUp 22 = .ok (.iconst 2, 1) := by decide +kernel
theorem dX5_lookUp_23 : decode cX5_lookUp 23 = .ok (.if_icmp .lt 18, 3) := by decide +kernel
theorem dX5_lookUp_26 : decode cX5_lookUp 26 = .ok (.iload_n 2, 1) := by decide +kernel
theorem dX5_lookUp_27 : decode cX5_lookUp 27 = .ok (.aload_n 0, 1) := by decide +kernel
theorem dX5_lookUp_28 : decode cX5_lookUp 28 = .ok (.getfield 25, 3) := by decide +kernel
theorem dX5_lookUp_31 : decode cX5_lookUp 31 = .ok (.getfield 29, 3) := by decide +kernel
theorem dX5_lookUp_34 : decode cX5_lookUp 34 = .ok (.iload_n 3, 1) := by decide +kernel
theorem dX5_lookUp_35 : decode cX5_lookUp 35 = .ok (.isub, 1) := by decide +kernel
theorem dX5_lookUp_36 : decode cX5_lookUp 36 = .ok (.iconst 2, 1) := by decide +kernel
theorem dX5_lookUp_37 : decode cX5_lookUp 37 = .ok (.isub, 1) := by decide +kernel
theorem dX5_lookUp_38 : decode cX5_lookUp 38 = .ok (.if_icmp .le 6, 3) := by decide +kernel
theorem dX5_lookUp_41 : decode cX5_lookUp 41 = .ok (.bipush (-2), 2) := by decide +kernel
theorem dX5_lookUp_43 : decode cX5_lookUp 43 = .ok (.ireturn, 1) := by decide +kernel
theorem dX5_lookUp_44 : decode cX5_lookUp 44 = .ok (.aload_n 0, 1) := by decide +kernel
theorem dX5_lookUp_45 : decode cX5_lookUp 45 = .ok (.aload_n 0, 1) := by decide +kernel
theorem dX5_lookUp_46 : decode cX5_lookUp 46 = .ok (.getfield 25, 3) := by decide +kernel
theorem dX5_lookUp_49 : decode cX5_lookUp 49 = .ok (.iload_n 3, 1) := by decide +kernel
theorem dX5_lookUp_50 : decode cX5_lookUp 50 = .ok (.iconst 2, 1) := by decide +kernel
theorem dX5_lookUp_51 : decode cX5_lookUp 51 = .ok (.iadd, 1) := by decide +kernel
theorem dX5_lookUp_52 : decode cX5_lookUp 52 = .ok (.invokevirtual 39, 3) := by decide +kernel
theorem dX5_lookUp_55 : decode cX5_lookUp 55 = .ok (.putfield 42, 3) := by decide +kernel
theorem dX5_lookUp_58 : decode cX5_lookUp 58 = .ok (.aload_n 0, 1) := by decide +kernel
theorem dX5_lookUp_59 : decode cX5_lookUp 59 = .ok (.aload_n 0, 1) := by decide +kernel
theorem dX5_lookUp_60 : decode cX5_lookUp 60 = .ok (.getfield 42, 3) := by decide +kernel
theorem dX5_lookUp_63 : decode cX5_lookUp 63 = .ok (.aload_n 0, 1) := by decide +kernel
theorem dX5_lookUp_64 : decode cX5_lookUp 64 = .ok (.getfield 25, 3) := by decide +kernel
theorem dX5_lookUp_67 : decode cX5_lookUp 67 = .ok (.iload_n 3, 1) := by decide +kernel
theorem dX5_lookUp_68 : decode cX5_lookUp 68 = .ok (.iconst 3, 1) := by decide +kernel
theorem dX5_lookUp_69 : decode cX5_lookUp 69 = .ok (.iadd, 1) := by decide +kernel
theorem dX5_lookUp_70 : decode cX5_lookUp 70 = .ok (.invokevirtual 39, 3) := by decide +kernel
theorem dX5_lookUp_73 : decode cX5_lookUp 73 = .ok (.iadd, 1) := by decide +kernel
theorem dX5_lookUp_74 : decode cX5_lookUp 74 = .ok (.putfield 45, 3) := by decide +kernel
theorem dX5_lookUp_77 : decode cX5_lookUp 77 = .ok (.iload_n 1, 1) := by decide +kernel
theorem dX5_lookUp_78 : decode cX5_lookUp 78 = .ok (.aload_n 0, 1) := by decide +kernel
theorem dX5_lookUp_79 : decode cX5_lookUp 79 = .ok (.getfield 42, 3) := by decide +kernel
theorem dX5_lookUp_82 : decode cX5_lookUp 82 = .ok (.if_icmp .lt 34, 3) := by decide +kernel
theorem dX5_lookUp_85 : decode cX5_lookUp 85 = .ok (.iload_n 1, 1) := by decide +kernel
theorem dX5_lookUp_86 : decode cX5_lookUp 86 = .ok (.aload_n 0, 1) := by decide +kernel
theorem dX5_lookUp_87 : decode cX5_lookUp 87 = .ok (.getfield 45, 3) := by decide +kernel
theorem dX5_lookUp_90 : decode cX5_lookUp 90 = .ok (.if_icmp .ge 26, 3) := by decide +kernel
theorem dX5_lookUp_93 : decode cX5_lookUp 93 = .ok (.aload_n 0, 1) := by decide +kernel
theorem dX5_lookUp_94 : decode cX5_lookUp 94 = .ok (.iload_n 3, 1) := by decide +kernel
theorem dX5_lookUp_95 : decode cX5_lookUp 95 = .ok (.iconst 4, 1) := by decide +kernel
theorem dX5_lookUp_96 : decode cX5_lookUp 96 = .ok (.iadd, 1) := by decide +kernel
theorem dX5_lookUp_97 : decode cX5_lookUp 97 = .ok (.iload_n 3, 1) := by decide +kernel
theorem dX5_lookUp_98 : decode cX5_lookUp 98 = .ok (.iconst 2, 1) := by decide +kernel
theorem dX5_lookUp_99 : decode cX5_lookUp 99 = .ok (.iadd, 1) := by decide +kernel
theorem dX5_lookUp_100 : decode cX5_lookUp 100 = .ok (.iload_n 2, 1) := by decide +kernel
theorem dX5_lookUp_101 : decode cX5_lookUp 101 = .ok (.iadd, 1) := by decide +kernel
theorem dX5_lookUp_102 : decode cX5_lookUp 102 = .ok (.iload_n 1, 1) := by decide +kernel
theorem dX5_lookUp_103 : decode cX5_lookUp 103 = .ok (.invokevirtual 48, 3) := by decide +kernel
theorem dX5_lookUp_106 : decode cX5_lookUp 106 = .ok (.ifCond .eq 7, 3) := by decide +kernel
theorem dX5_lookUp_109 : decode cX5_lookUp 109 = .ok (.iconst 0, 1) := by decide +kernel
theorem dX5_lookUp_110 : decode cX5_lookUp 110 = .ok (.goto 5, 3) := by decide +kernel
theorem dX5_lookUp_113 : decode cX5_lookUp 113 = .ok (.bipush (-2), 2) := by decide +kernel
theorem dX5_lookUp_115 : decode cX5_lookUp 115 = .ok (.ireturn, 1) := by decide +kernel
theorem dX5_lookUp_116 : decode cX5_lookUp 116 = .ok (.iload_n 3, 1) := by decide +kernel
theorem dX5_lookUp_117 : decode cX5_lookUp 117 = .ok (.iconst 2, 1) := by decide +kernel
theorem dX5_lookUp_118 : decode cX5_lookUp 118 = .ok (.iload_n 2, 1) := by decide +kernel
theorem dX5_lookUp_119 : decode cX5_lookUp 119 = .ok (.iadd, 1) := by decide +kernel
theorem dX5_lookUp_120 : decode cX5_lookUp 120 = .ok (.iadd, 1) := by decide +kernel
theorem dX5_lookUp_121 : decode cX5_lookUp 121 = .ok (.istore_n 3, 1) := by decide +kernel
theorem dX5_lookUp_122 : decode cX5_lookUp 122 = .ok (.goto (-118), 3) := by decide +kernel
theorem dX5_lookUp_125 : decode cX5_lookUp 125 = .ok (.iconst (-1), 1) := by decide +kernel
theorem dX5_lookUp_126 : decode cX5_lookUp 126 = .ok (.ireturn, 1) := by decide +kernel
theorem dX5_countAt_0 : decode cX5_countAt 0 = .ok (.aload_n 0, 1) := by decide +kernel
theorem dX5_countAt_1 : decode cX5_countAt 1 = .ok (.getfield 25, 3) := by decide +kernel
theorem dX5_countAt_4 : decode cX5_countAt 4 = .ok (.iload_n 1, 1) := by decide +kernel
theorem dX5_countAt_5 : decode cX5_countAt 5 = .ok (.invokevirtual 39, 3) := by decide +kernel
theorem dX5_countAt_8 : decode cX5_countAt 8 = .ok (.istore_n 2, 1) := by decide +kernel
theorem dX5_countAt_9 : decode cX5_countAt 9 = .ok (.aload_n 0, 1) := by decide +kernel
theorem dX5_countAt_10 : decode cX5_countAt 10 = .ok (.getfield 25, 3) := by decide +kernel
theorem dX5_countAt_13 : decode cX5_countAt 13 = .ok (.iload_n 1, 1) := by decide +kernel
theorem dX5_countAt_14 : decode cX5_countAt 14 = .ok (.iconst 1, 1) := by decide +kernel
theorem dX5_countAt_15 : decode cX5_countAt 15 = .ok (.iadd, 1) := by decide +kernel
theorem dX5_countAt_16 : decode cX5_countAt 16 = .ok (.invokevirtual 39, 3) := by decide +kernel
theorem dX5_countAt_19 : decode cX5_countAt 19 = .ok (.istore_n 3, 1) := by decide +kernel
theorem dX5_countAt_20 : decode cX5_countAt 20 = .ok (.iload_n 3, 1) := by decide +kernel
theorem dX5_countAt_21 : decode cX5_countAt 21 = .ok (.iconst (-1), 1) := by decide +kernel
theorem dX5_countAt_22 : decode cX5_countAt 22 = .ok (.if_icmp .ne 7, 3) := by decide +kernel
theorem dX5_countAt_25 : decode cX5_countAt 25 = .ok (.iconst (-1), 1) := by decide +kernel
theorem dX5_countAt_26 : decode cX5_countAt 26 = .ok (.goto 10, 3) := by decide +kernel
theorem dX5_countAt_29 : decode cX5_countAt 29 = .ok (.sipush 256, 3) := by decide +kernel
theorem dX5_countAt_32 : decode cX5_countAt 32 = .ok (.iload_n 2, 1) := by decide +kernel
theorem dX5_countAt_33 : decode cX5_countAt 33 = .ok (.imul, 1) := by decide +kernel
theorem dX5_countAt_34 : decode cX5_countAt 34 = .ok (.iload_n 3, 1) := by decide +kernel
theorem dX5_countAt_35 : decode cX5_countAt 35 = .ok (.iadd, 1) := by decide +kernel
theorem dX5_countAt_36 : decode cX5_countAt 36 = .ok (.ireturn, 1) := by decide +kernel
theorem dX5_readProgram_0 : decode cX5_readProgram 0 = .ok (.aload_n 0, 1) := by decide +kernel
theorem dX5_readProgram_1 : decode cX5_readProgram 1 = .ok (.getfield 18, 3) := by decide +kernel
theorem dX5_readProgram_4 : decode cX5_readProgram 4 = .ok (.invokevirtual 52, 3) := by decide +kernel
theorem dX5_readProgram_7 : decode cX5_readProgram 7 = .ok (.aload_n 0, 1) := by decide +kernel
theorem dX5_readProgram_8 : decode cX5_readProgram 8 = .ok (.getfield 12, 3) := by decide +kernel
theorem dX5_readProgram_11 : decode cX5_readProgram 11 = .ok (.aload_n 0, 1) := by decide +kernel
theorem dX5_readProgram_12 : decode cX5_readProgram 12 = .ok (.getfield 18, 3) := by decide +kernel
theorem dX5_readProgram_15 : decode cX5_readProgram 15 = .ok (.invokevirtual 55, 3) := by decide +kernel
theorem dX5_readProgram_18 : decode cX5_readProgram 18 = .ok (.aload_n 0, 1) := by decide +kernel
theorem dX5_readProgram_19 : decode cX5_readProgram 19 = .ok (.iconst 0, 1) := by decide +kernel
theorem dX5_readProgram_20 : decode cX5_readProgram 20 = .ok (.putfield 59, 3) := by decide +kernel
theorem dX5_readProgram_23 : decode cX5_readProgram 23 = .ok (.iconst 1, 1) := by decide +kernel
theorem dX5_readProgram_24 : decode cX5_readProgram 24 = .ok (.istore 4, 2) := by decide +kernel
theorem dX5_readProgram_26 : decode cX5_readProgram 26 = .ok (.iload_n 1, 1) := by decide +kernel
theorem dX5_readProgram_27 : decode cX5_readProgram 27 = .ok (.istore 5, 2) := by decide +kernel
theorem dX5_readProgram_29 : decode cX5_readProgram 29 = .ok (.iload 5, 2) := by decide +kernel
theorem dX5_readProgram_31 : decode cX5_readProgram 31 = .ok (.iload_n 2, 1) := by decide +kernel
theorem dX5_readProgram_32 : decode cX5_readProgram 32 = .ok (.if_icmp .ge 71, 3) := by decide +kernel
theorem dX5_readProgram_35 : decode cX5_readProgram 35 = .ok (.aload_n 0, 1) := by decide +kernel
theorem dX5_readProgram_36 : decode cX5_readProgram 36 = .ok (.getfield 25, 3) := by decide +kernel
theorem dX5_readProgram_39 : decode cX5_readProgram 39 = .ok (.iload 5, 2) := by decide +kernel
theorem dX5_readProgram_41 : decode cX5_readProgram 41 = .ok (.invokevirtual 39, 3) := by decide +kernel
theorem dX5_readProgram_44 : decode cX5_readProgram 44 = .ok (.invokestatic 62, 3) := by decide +kernel
theorem dX5_readProgram_47 : decode cX5_readProgram 47 = .ok (.istore 4, 2) := by decide +kernel
theorem dX5_readProgram_49 : decode cX5_readProgram 49 = .ok (.iload 4, 2) := by decide +kernel
theorem dX5_readProgram_51 : decode cX5_readProgram 51 = .ok (.ifCond .eq 21, 3) := by decide +kernel
theorem dX5_readProgram_54 : decode cX5_readProgram 54 = .ok (.iload 4, 2) := by decide +kernel
theorem dX5_readProgram_56 : decode cX5_readProgram 56 = .ok (.iload_n 2, 1) := by decide +kernel
theorem dX5_readProgram_57 : decode cX5_readProgram 57 = .ok (.iload 5, 2) := by decide +kernel
theorem dX5_readProgram_59 : decode cX5_readProgram 59 = .ok (.isub, 1) := by decide +kernel
theorem dX5_readProgram_60 : decode cX5_readProgram 60 = .ok (.if_icmp .gt 12, 3) := by decide +kernel
theorem dX5_readProgram_63 : decode cX5_readProgram 63 = .ok (.aload_n 0, 1) := by decide +kernel
theorem dX5_readProgram_64 : decode cX5_readProgram 64 = .ok (.iload 5, 2) := by decide +kernel
theorem dX5_readProgram_66 : decode cX5_readProgram 66 = .ok (.invokevirtual 65, 3) := by decide +kernel
theorem dX5_readProgram_69 : decode cX5_readProgram 69 = .ok (.ifCond .ne 5, 3) := by decide +kernel
theorem dX5_readProgram_72 : decode cX5_readProgram 72 = .ok (.iconst 0, 1) := by decide +kernel
theorem dX5_readProgram_73 : decode cX5_readProgram 73 = .ok (.ireturn, 1) := by decide +kernel
theorem dX5_readProgram_74 : decode cX5_readProgram 74 = .ok (.aload_n 0, 1) := by decide +kernel
theorem dX5_readProgram_75 : decode cX5_readProgram 75 = .ok (.getfield 42, 3) := by decide +kernel
theorem dX5_readProgram_78 : decode cX5_readProgram 78 = .ok (.iload_n 3, 1) := by decide +kernel
theorem dX5_readProgram_79 : decode cX5_readProgram 79 = .ok (.if_icmp .gt 14, 3) := by decide +kernel
theorem dX5_readProgram_82 : decode cX5_readProgram 82 = .ok (.aload_n 0, 1) := by decide +kernel
theorem dX5_readProgram_83 : decode cX5_readProgram 83 = .ok (.getfield 12, 3) := by decide +kernel
theorem dX5_readProgram_86 : decode cX5_readProgram 86 = .ok (.aload_n 0, 1) := by decide +kernel
theorem dX5_readProgram_87 : decode cX5_readProgram 87 = .ok (.getfield 18, 3) := by decide +kernel
theorem dX5_readProgram_90 : decode cX5_readProgram 90 = .ok (.invokevirtual 55, 3) := by decide +kernel
theorem dX5_readProgram_93 : decode cX5_readProgram 93 = .ok (.iload 5, 2) := by decide +kernel
theorem dX5_readProgram_95 : decode cX5_readProgram 95 = .ok (.iload 4, 2) := by decide +kernel
theorem dX5_readProgram_97 : decode cX5_readProgram 97 = .ok (.iadd, 1) := by decide +kernel
theorem dX5_readProgram_98 : decode cX5_readProgram 98 = .ok (.istore 5, 2) := by decide +kernel
theorem dX5_readProgram_100 : decode cX5_readProgram 100 = .ok (.goto (-71), 3) := by decide +kernel
theorem dX5_readProgram_103 : decode cX5_readProgram 103 = .ok (.iconst 1, 1) := by decide +kernel
theorem dX5_readProgram_104 : decode cX5_readProgram 104 = .ok (.ireturn, 1) := by decide +kernel
theorem dX5_sizeOf_0 : decode cX5_sizeOf 0 = .ok (.iload_n 0, 1) := by decide +kernel
theorem dX5_sizeOf_1 : decode cX5_sizeOf 1 = .ok (.bipush 64, 2) := by decide +kernel
theorem dX5_sizeOf_3 : decode cX5_sizeOf 3 = .ok (.if_icmp .lt 12, 3) := by decide +kernel
theorem dX5_sizeOf_6 : decode cX5_sizeOf 6 = .ok (.iload_n 0, 1) := by decide +kernel
theorem dX5_sizeOf_7 : decode cX5_sizeOf 7 = .ok (.sipush 128, 3) := by decide +kernel
theorem dX5_sizeOf_10 : decode cX5_sizeOf 10 = .ok (.if_icmp .ge 5, 3) := by decide +kernel
theorem dX5_sizeOf_13 : decode cX5_sizeOf 13 = .ok (.iconst 1, 1) := by decide +kernel
theorem dX5_sizeOf_14 : decode cX5_sizeOf 14 = .ok (.ireturn, 1) := by decide +kernel
theorem dX5_sizeOf_15 : decode cX5_sizeOf 15 = .ok (.iload_n 0, 1) := by decide +kernel
theorem dX5_sizeOf_16 : decode cX5_sizeOf 16 = .ok (.sipush 128, 3) := by decide +kernel
theorem dX5_sizeOf_19 : decode cX5_sizeOf 19 = .ok (.if_icmp .lt 12, 3) := by decide +kernel
theorem dX5_sizeOf_22 : decode cX5_sizeOf 22 = .ok (.iload_n 0, 1) := by decide +kernel
theorem dX5_sizeOf_23 : decode cX5_sizeOf 23 = .ok (.sipush 131, 3) := by decide +kernel
theorem dX5_sizeOf_26 : decode cX5_sizeOf 26 = .ok (.if_icmp .ge 5, 3) := by decide +kernel
theorem dX5_sizeOf_29 : decode cX5_sizeOf 29 = .ok (.iconst 2, 1) := by decide +kernel
theorem dX5_sizeOf_30 : decode cX5_sizeOf 30 = .ok (.ireturn, 1) := by decide +kernel
theorem dX5_sizeOf_31 : decode cX5_sizeOf 31 = .ok (.iload_n 0, 1) := by decide +kernel
theorem dX5_sizeOf_32 : decode cX5_sizeOf 32 = .ok (.sipush 192, 3) := by decide +kernel
theorem dX5_sizeOf_35 : decode cX5_sizeOf 35 = .ok (.if_icmp .lt 12, 3) := by decide +kernel
theorem dX5_sizeOf_38 : decode cX5_sizeOf 38 = .ok (.iload_n 0, 1) := by decide +kernel
theorem dX5_sizeOf_39 : decode cX5_sizeOf 39 = .ok (.sipush 195, 3) := by decide +kernel
theorem dX5_sizeOf_42 : decode cX5_sizeOf 42 = .ok (.if_icmp .ge 5, 3) := by decide +kernel
theorem dX5_sizeOf_45 : decode cX5_sizeOf 45 = .ok (.iconst 1, 1) := by decide +kernel
theorem dX5_sizeOf_46 : decode cX5_sizeOf 46 = .ok (.ireturn, 1) := by decide +kernel
theorem dX5_sizeOf_47 : decode cX5_sizeOf 47 = .ok (.iload_n 0, 1) := by decide +kernel
theorem dX5_sizeOf_48 : decode cX5_sizeOf 48 = .ok (.tableswitch 82 0 14 #[76, 82, 78, 82, 82, 82, 82, 82, 82, 82, 76, 76, 80, 78, 78], 76) := by decide +kernel
theorem dX5_sizeOf_124 : decode cX5_sizeOf 124 = .ok (.iconst 1, 1) := by decide +kernel
theorem dX5_sizeOf_125 : decode cX5_sizeOf 125 = .ok (.ireturn, 1) := by decide +kernel
theorem dX5_sizeOf_126 : decode cX5_sizeOf 126 = .ok (.iconst 2, 1) := by decide +kernel
theorem dX5_sizeOf_127 : decode cX5_sizeOf 127 = .ok (.ireturn, 1) := by decide +kernel
theorem dX5_sizeOf_128 : decode cX5_sizeOf 128 = .ok (.iconst 3, 1) := by decide +kernel
theorem dX5_sizeOf_129 : decode cX5_sizeOf 129 = .ok (.ireturn, 1) := by decide +kernel
theorem dX5_sizeOf_130 : decode cX5_sizeOf 130 = .ok (.iconst 0, 1) := by decide +kernel
theorem dX5_sizeOf_131 : decode cX5_sizeOf 131 = .ok (.ireturn, 1) := by decide +kernel
theorem dX5_follow_0 : decode cX5_follow 0 = .ok (.aload_n 0, 1) := by decide +kernel
theorem dX5_follow_1 : decode cX5_follow 1 = .ok (.getfield 25, 3) := by decide +kernel
theorem dX5_follow_4 : decode cX5_follow 4 = .ok (.iload_n 1, 1) := by decide +kernel
theorem dX5_follow_5 : decode cX5_follow 5 = .ok (.invokevirtual 39, 3) := by decide +kernel
theorem dX5_follow_8 : decode cX5_follow 8 = .ok (.istore_n 2, 1) := by decide +kernel
theorem dX5_follow_9 : decode cX5_follow 9 = .ok (.aload_n 0, 1) := by decide +kernel
theorem dX5_follow_10 : decode cX5_follow 10 = .ok (.getfield 25, 3) := by decide +kernel
theorem dX5_follow_13 : decode cX5_follow 13 = .ok (.iload_n 1, 1) := by decide +kernel
theorem dX5_follow_14 : decode cX5_follow 14 = .ok (.iconst 1, 1) := by decide +kernel
theorem dX5_follow_15 : decode cX5_follow 15 = .ok (.iadd, 1) := by decide +kernel
theorem dX5_follow_16 : decode cX5_follow 16 = .ok (.invokevirtual 39, 3) := by decide +kernel
theorem dX5_follow_19 : decode cX5_follow 19 = .ok (.istore_n 3, 1) := by decide +kernel
theorem dX5_follow_20 : decode cX5_follow 20 = .ok (.iload_n 2, 1) := by decide +kernel
theorem dX5_follow_21 : decode cX5_follow 21 = .ok (.tableswitch 132 0 14 #[75, 132, 77, 132, 132, 132, 132, 132, 132, 132, 83, 88, 93, 116, 122], 75) := by decide +kernel
theorem dX5_follow_96 : decode cX5_follow 96 = .ok (.iconst 1, 1) := by decide +kernel
theorem dX5_follow_97 : decode cX5_follow 97 = .ok (.ireturn, 1) := by decide +kernel
theorem dX5_follow_98 : decode cX5_follow 98 = .ok (.aload_n 0, 1) := by decide +kernel
theorem dX5_follow_99 : decode cX5_follow 99 = .ok (.iload_n 3, 1) := by decide +kernel
theorem dX5_follow_100 : decode cX5_follow 100 = .ok (.invokevirtual 69, 3) := by decide +kernel
theorem dX5_follow_103 : decode cX5_follow 103 = .ok (.ireturn, 1) := by decide +kernel
theorem dX5_follow_104 : decode cX5_follow 104 = .ok (.aload_n 0, 1) := by decide +kernel
theorem dX5_follow_105 : decode cX5_follow 105 = .ok (.invokevirtual 72, 3) := by decide +kernel
theorem dX5_follow_108 : decode cX5_follow 108 = .ok (.ireturn, 1) := by decide +kernel
theorem dX5_follow_109 : decode cX5_follow 109 = .ok (.aload_n 0, 1) := by decide +kernel
theorem dX5_follow_110 : decode cX5_follow 110 = .ok (.invokevirtual 76, 3) := by decide +kernel
theorem dX5_follow_113 : decode cX5_follow 113 = .ok (.ireturn, 1) := by decide +kernel
theorem dX5_follow_114 : decode cX5_follow 114 = .ok (.aload_n 0, 1) := by decide +kernel
theorem dX5_follow_115 : decode cX5_follow 115 = .ok (.getfield 18, 3) := by decide +kernel
theorem dX5_follow_118 : decode cX5_follow 118 = .ok (.aload_n 0, 1) := by decide +kernel
theorem dX5_follow_119 : decode cX5_follow 119 = .ok (.getfield 25, 3) := by decide +kernel
theorem dX5_follow_122 : decode cX5_follow 122 = .ok (.iload_n 1, 1) := by decide +kernel
theorem dX5_follow_123 : decode cX5_follow 123 = .ok (.iconst 2, 1) := by decide +kernel
theorem dX5_follow_124 : decode cX5_follow 124 = .ok (.iadd, 1) := by decide +kernel
theorem dX5_follow_125 : decode cX5_follow 125 = .ok (.invokevirtual 39, 3) := by decide +kernel
theorem dX5_follow_128 : decode cX5_follow 128 = .ok (.putfield 79, 3) := by decide +kernel
theorem dX5_follow_131 : decode cX5_follow 131 = .ok (.aload_n 0, 1) := by decide +kernel
theorem dX5_follow_132 : decode cX5_follow 132 = .ok (.iload_n 3, 1) := by decide +kernel
theorem dX5_follow_133 : decode cX5_follow 133 = .ok (.invokevirtual 82, 3) := by decide +kernel
