theorem dX9_row_0 : decode cX9_row 0 = .ok (.aload_n 0, 1) := by decide +kernel
theorem dX9_row_1 : decode cX9_row 1 = .ok (.iload_n 1, 1) := by decide +kernel
theorem dX9_row_2 : decode cX9_row 2 = .ok (.invokevirtual 154, 3) := by decide +kernel
theorem dX9_row_5 : decode cX9_row 5 = .ok (.istore_n 3, 1) := by decide +kernel
theorem dX9_row_6 : decode cX9_row 6 = .ok (.aload_n 0, 1) := by decide +kernel
theorem dX9_row_7 : decode cX9_row 7 = .ok (.iload_n 3, 1) := by decide +kernel
theorem dX9_row_8 : decode cX9_row 8 = .ok (.ifCond .ge 7, 3) := by decide +kernel
theorem dX9_row_11 : decode cX9_row 11 = .ok (.iconst 1, 1) := by decide +kernel
theorem dX9_row_12 : decode cX9_row 12 = .ok (.goto 4, 3) := by decide +kernel
theorem dX9_row_15 : decode cX9_row 15 = .ok (.iconst 0, 1) := by decide +kernel
theorem dX9_row_16 : decode cX9_row 16 = .ok (.putfield 59, 3) := by decide +kernel
theorem dX9_row_19 : decode cX9_row 19 = .ok (.aload_n 0, 1) := by decide +kernel
theorem dX9_row_20 : decode cX9_row 20 = .ok (.getfield 59, 3) := by decide +kernel
theorem dX9_row_23 : decode cX9_row 23 = .ok (.ifCond .le 5, 3) := by decide +kernel
theorem dX9_row_26 : decode cX9_row 26 = .ok (.iconst 0, 1) := by decide +kernel
theorem dX9_row_27 : decode cX9_row 27 = .ok (.ireturn, 1) := by decide +kernel
theorem dX9_row_28 : decode cX9_row 28 = .ok (.iload_n 3, 1) := by decide +kernel
theorem dX9_row_29 : decode cX9_row 29 = .ok (.ifCond .eq 12, 3) := by decide +kernel
theorem dX9_row_32 : decode cX9_row 32 = .ok (.iload_n 2, 1) := by decide +kernel
theorem dX9_row_33 : decode cX9_row 33 = .ok (.ifCond .lt 8, 3) := by decide +kernel
theorem dX9_row_36 : decode cX9_row 36 = .ok (.iload_n 2, 1) := by decide +kernel
theorem dX9_row_37 : decode cX9_row 37 = .ok (.iconst 4, 1) := by decide +kernel
theorem dX9_row_38 : decode cX9_row 38 = .ok (.if_icmp .le 7, 3) := by decide +kernel
theorem dX9_row_41 : decode cX9_row 41 = .ok (.iconst (-1), 1) := by decide +kernel
theorem dX9_row_42 : decode cX9_row 42 = .ok (.goto 9, 3) := by decide +kernel
theorem dX9_row_45 : decode cX9_row 45 = .ok (.aload_n 0, 1) := by decide +kernel
theorem dX9_row_46 : decode cX9_row 46 = .ok (.getfield 38, 3) := by decide +kernel
theorem dX9_row_49 : decode cX9_row 49 = .ok (.iload_n 2, 1) := by decide +kernel
theorem dX9_row_50 : decode cX9_row 50 = .ok (.iaload, 1) := by decide +kernel
theorem dX9_row_51 : decode cX9_row 51 = .ok (.ireturn, 1) := by decide +kernel
theorem dX9_begin_0 : decode cX9_begin 0 = .ok (.aload_n 0, 1) := by decide +kernel
theorem dX9_begin_1 : decode cX9_begin 1 = .ok (.iconst 0, 1) := by decide +kernel
theorem dX9_begin_2 : decode cX9_begin 2 = .ok (.putfield 59, 3) := by decide +kernel
theorem dX9_begin_5 : decode cX9_begin 5 = .ok (.aload_n 0, 1) := by decide +kernel
theorem dX9_begin_6 : decode cX9_begin 6 = .ok (.getfield 76, 3) := by decide +kernel
theorem dX9_begin_9 : decode cX9_begin 9 = .ok (.ifCond .ne 5, 3) := by decide +kernel
theorem dX9_begin_12 : decode cX9_begin 12 = .ok (.iconst 0, 1) := by decide +kernel
theorem dX9_begin_13 : decode cX9_begin 13 = .ok (.ireturn, 1) := by decide +kernel
theorem dX9_begin_14 : decode cX9_begin 14 = .ok (.iconst 0, 1) := by decide +kernel
theorem dX9_begin_15 : decode cX9_begin 15 = .ok (.istore 5, 2) := by decide +kernel
theorem dX9_begin_17 : decode cX9_begin 17 = .ok (.iload 5, 2) := by decide +kernel
theorem dX9_begin_19 : decode cX9_begin 19 = .ok (.bipush 40, 2) := by decide +kernel
theorem dX9_begin_21 : decode cX9_begin 21 = .ok (.if_icmp .ge 17, 3) := by decide +kernel
theorem dX9_begin_24 : decode cX9_begin 24 = .ok (.aload_n 0, 1) := by decide +kernel
theorem dX9_begin_25 : decode cX9_begin 25 = .ok (.getfield 50, 3) := by decide +kernel
theorem dX9_begin_28 : decode cX9_begin 28 = .ok (.iload 5, 2) := by decide +kernel
theorem dX9_begin_30 : decode cX9_begin 30 = .ok (.iconst 0, 1) := by decide +kernel
theorem dX9_begin_31 : decode cX9_begin 31 = .ok (.iastore, 1) := by decide +kernel
theorem dX9_begin_32 : decode cX9_begin 32 = .ok (.iinc 5 1, 3) := by decide +kernel
theorem dX9_begin_35 : decode cX9_begin 35 = .ok (.goto (-18), 3) := by decide +kernel
theorem dX9_begin_38 : decode cX9_begin 38 = .ok (.aload_n 0, 1) := by decide +kernel
theorem dX9_begin_39 : decode cX9_begin 39 = .ok (.iconst 1, 1) := by decide +kernel
theorem dX9_begin_40 : decode cX9_begin 40 = .ok (.putfield 157, 3) := by decide +kernel
theorem dX9_begin_43 : decode cX9_begin 43 = .ok (.aload_n 0, 1) := by decide +kernel
theorem dX9_begin_44 : decode cX9_begin 44 = .ok (.iconst 1, 1) := by decide +kernel
theorem dX9_begin_45 : decode cX9_begin 45 = .ok (.putfield 63, 3) := by decide +kernel
theorem dX9_begin_48 : decode cX9_begin 48 = .ok (.aload_n 0, 1) := by decide +kernel
theorem dX9_begin_49 : decode cX9_begin 49 = .ok (.getfield 47, 3) := by decide +kernel
theorem dX9_begin_52 : decode cX9_begin 52 = .ok (.iconst 0, 1) := by decide +kernel
theorem dX9_begin_53 : decode cX9_begin 53 = .ok (.iload_n 1, 1) := by decide +kernel
theorem dX9_begin_54 : decode cX9_begin 54 = .ok (.iastore, 1) := by decide +kernel
theorem dX9_begin_55 : decode cX9_begin 55 = .ok (.aload_n 0, 1) := by decide +kernel
theorem dX9_begin_56 : decode cX9_begin 56 = .ok (.getfield 47, 3) := by decide +kernel
theorem dX9_begin_59 : decode cX9_begin 59 = .ok (.iconst 1, 1) := by decide +kernel
theorem dX9_begin_60 : decode cX9_begin 60 = .ok (.iload_n 2, 1) := by decide +kernel
theorem dX9_begin_61 : decode cX9_begin 61 = .ok (.iastore, 1) := by decide +kernel
theorem dX9_begin_62 : decode cX9_begin 62 = .ok (.aload_n 0, 1) := by decide +kernel
theorem dX9_begin_63 : decode cX9_begin 63 = .ok (.getfield 47, 3) := by decide +kernel
theorem dX9_begin_66 : decode cX9_begin 66 = .ok (.iconst 2, 1) := by decide +kernel
theorem dX9_begin_67 : decode cX9_begin 67 = .ok (.iload_n 3, 1) := by decide +kernel
theorem dX9_begin_68 : decode cX9_begin 68 = .ok (.iastore, 1) := by decide +kernel
theorem dX9_begin_69 : decode cX9_begin 69 = .ok (.aload_n 0, 1) := by decide +kernel
theorem dX9_begin_70 : decode cX9_begin 70 = .ok (.iload 4, 2) := by decide +kernel
theorem dX9_begin_72 : decode cX9_begin 72 = .ok (.putfield 160, 3) := by decide +kernel
theorem dX9_begin_75 : decode cX9_begin 75 = .ok (.aload_n 0, 1) := by decide +kernel
theorem dX9_begin_76 : decode cX9_begin 76 = .ok (.bipush 39, 2) := by decide +kernel
theorem dX9_begin_78 : decode cX9_begin 78 = .ok (.putfield 163, 3) := by decide +kernel
theorem dX9_begin_81 : decode cX9_begin 81 = .ok (.aload_n 0, 1) := by decide +kernel
theorem dX9_begin_82 : decode cX9_begin 82 = .ok (.getfield 50, 3) := by decide +kernel
theorem dX9_begin_85 : decode cX9_begin 85 = .ok (.bipush 39, 2) := by decide +kernel
theorem dX9_begin_87 : decode cX9_begin 87 = .ok (.sipush 255, 3) := by decide +kernel
theorem dX9_begin_90 : decode cX9_begin 90 = .ok (.iastore, 1) := by decide +kernel
theorem dX9_begin_91 : decode cX9_begin 91 = .ok (.aload_n 0, 1) := by decide +kernel
theorem dX9_begin_92 : decode cX9_begin 92 = .ok (.aload_n 0, 1) := by decide +kernel
theorem dX9_begin_93 : decode cX9_begin 93 = .ok (.getfield 13, 3) := by decide +kernel
theorem dX9_begin_96 : decode cX9_begin 96 = .ok (.iconst 0, 1) := by decide +kernel
theorem dX9_begin_97 : decode cX9_begin 97 = .ok (.iaload, 1) := by decide +kernel
theorem dX9_begin_98 : decode cX9_begin 98 = .ok (.putfield 67, 3) := by decide +kernel
theorem dX9_begin_101 : decode cX9_begin 101 = .ok (.aload_n 0, 1) := by decide +kernel
theorem dX9_begin_102 : decode cX9_begin 102 = .ok (.iconst 1, 1) := by decide +kernel
theorem dX9_begin_103 : decode cX9_begin 103 = .ok (.putfield 166, 3) := by decide +kernel
theorem dX9_begin_106 : decode cX9_begin 106 = .ok (.aload_n 0, 1) := by decide +kernel
theorem dX9_begin_107 : decode cX9_begin 107 = .ok (.getfield 53, 3) := by decide +kernel
theorem dX9_begin_110 : decode cX9_begin 110 = .ok (.iconst 0, 1) := by decide +kernel
theorem dX9_begin_111 : decode cX9_begin 111 = .ok (.sipush 255, 3) := by decide +kernel
theorem dX9_begin_114 : decode cX9_begin 114 = .ok (.iastore, 1) := by decide +kernel
theorem dX9_begin_115 : decode cX9_begin 115 = .ok (.iconst 1, 1) := by decide +kernel
theorem dX9_begin_116 : decode cX9_begin 116 = .ok (.ireturn, 1) := by decide +kernel
theorem dX9_isWord_0 : decode cX9_isWord 0 = .ok (.lload_n 0, 1) := by decide +kernel
theorem dX9_isWord_1 : decode cX9_isWord 1 = .ok (.lconst 0, 1) := by decide +kernel
theorem dX9_isWord_2 : decode cX9_isWord 2 = .ok (.lcmp, 1) := by decide +kernel
theorem dX9_isWord_3 : decode cX9_isWord 3 = .ok (.ifCond .lt 15, 3) := by decide +kernel
theorem dX9_isWord_6 : decode cX9_isWord 6 = .ok (.lload_n 0, 1) := by decide +kernel
theorem dX9_isWord_7 : decode cX9_isWord 7 = .ok (.ldc2_w 169, 3) := by decide +kernel
theorem dX9_isWord_10 : decode cX9_isWord 10 = .ok (.lcmp, 1) := by decide +kernel
theorem dX9_isWord_11 : decode cX9_isWord 11 = .ok (.ifCond .ge 7, 3) := by decide +kernel
theorem dX9_isWord_14 : decode cX9_isWord 14 = .ok (.iconst 1, 1) := by decide +kernel
theorem dX9_isWord_15 : decode cX9_isWord 15 = .ok (.goto 4, 3) := by decide +kernel
theorem dX9_isWord_18 : decode cX9_isWord 18 = .ok (.iconst 0, 1) := by decide +kernel
theorem dX9_isWord_19 : decode cX9_isWord 19 = .ok (.ireturn, 1) := by decide +kernel
theorem dX9_fails_0 : decode cX9_fails 0 = .ok (.iload_n 1, 1) := by decide +kernel
theorem dX9_fails_1 : decode cX9_fails 1 = .ok (.tableswitch 206 1 15 #[75, 89, 106, 121, 206, 138, 164, 89, 206, 206, 206, 206, 206, 187, 187], 75) := by decide +kernel
theorem dX9_fails_76 : decode cX9_fails 76 = .ok (.aload_n 0, 1) := by decide +kernel
theorem dX9_fails_77 : decode cX9_fails 77 = .ok (.getfield 163, 3) := by decide +kernel
theorem dX9_fails_80 : decode cX9_fails 80 = .ok (.iconst 1, 1) := by decide +kernel
theorem dX9_fails_81 : decode cX9_fails 81 = .ok (.if_icmp .ge 7, 3) := by decide +kernel
theorem dX9_fails_84 : decode cX9_fails 84 = .ok (.iconst 1, 1) := by decide +kernel
theorem dX9_fails_85 : decode cX9_fails 85 = .ok (.goto 4, 3) := by decide +kernel
theorem dX9_fails_88 : decode cX9_fails 88 = .ok (.iconst 0, 1) := by decide +kernel
theorem dX9_fails_89 : decode cX9_fails 89 = .ok (.ireturn, 1) := by decide +kernel
theorem dX9_fails_90 : decode cX9_fails 90 = .ok (.aload_n 0, 1) := by decide +kernel
theorem dX9_fails_91 : decode cX9_fails 91 = .ok (.getfield 163, 3) := by decide +kernel
theorem dX9_fails_94 : decode cX9_fails 94 = .ok (.i2l, 1) := by decide +kernel
theorem dX9_fails_95 : decode cX9_fails 95 = .ok (.invokestatic 171, 3) := by decide +kernel
theorem dX9_fails_98 : decode cX9_fails 98 = .ok (.ifCond .ne 7, 3) := by decide +kernel
theorem dX9_fails_101 : decode cX9_fails 101 = .ok (.iconst 1, 1) := by decide +kernel
theorem dX9_fails_102 : decode cX9_fails 102 = .ok (.goto 4, 3) := by decide +kernel
theorem dX9_fails_105 : decode cX9_fails 105 = .ok (.iconst 0, 1) := by decide +kernel
theorem dX9_fails_106 : decode cX9_fails 106 = .ok (.ireturn, 1) := by decide +kernel
theorem dX9_fails_107 : decode cX9_fails 107 = .ok (.aload_n 0, 1) := by decide +kernel
theorem dX9_fails_108 : decode cX9_fails 108 = .ok (.getfield 163, 3) := by decide +kernel
theorem dX9_fails_111 : decode cX9_fails 111 = .ok (.iload_n 2, 1) := by decide +kernel
theorem dX9_fails_112 : decode cX9_fails 112 = .ok (.isub, 1) := by decide +kernel
theorem dX9_fails_113 : decode cX9_fails 113 = .ok (.ifCond .ge 7, 3) := by decide +kernel
theorem dX9_fails_116 : decode cX9_fails 116 = .ok (.iconst 1, 1) := by decide +kernel
theorem dX9_fails_117 : decode cX9_fails 117 = .ok (.goto 4, 3) := by decide +kernel
theorem dX9_fails_120 : decode cX9_fails 120 = .ok (.iconst 0, 1) := by decide +kernel
theorem dX9_fails_121 : decode cX9_fails 121 = .ok (.ireturn, 1) := by decide +kernel
theorem dX9_fails_122 : decode cX9_fails 122 = .ok (.aload_n 0, 1) := by decide +kernel
theorem dX9_fails_123 : decode cX9_fails 123 = .ok (.getfield 163, 3) := by decide +kernel
theorem dX9_fails_126 : decode cX9_fails 126 = .ok (.iload_n 2, 1) := by decide +kernel
theorem dX9_fails_127 : decode cX9_fails 127 = .ok (.iadd, 1) := by decide +kernel
theorem dX9_fails_128 : decode cX9_fails 128 = .ok (.bipush 40, 2) := by decide +kernel
theorem dX9_fails_130 : decode cX9_fails 130 = .ok (.if_icmp .le 7, 3) := by decide +kernel
theorem dX9_fails_133 : decode cX9_fails 133 = .ok (.iconst 1, 1) := by decide +kernel
theorem dX9_fails_134 : decode cX9_fails 134 = .ok (.goto 4, 3) := by decide +kernel
theorem dX9_fails_137 : decode cX9_fails 137 = .ok (.iconst 0, 1) := by decide +kernel
theorem dX9_fails_138 : decode cX9_fails 138 = .ok (.ireturn, 1) := by decide +kernel
theorem dX9_fails_139 : decode cX9_fails 139 = .ok (.aload_n 0, 1) := by decide +kernel
theorem dX9_fails_140 : decode cX9_fails 140 = .ok (.getfield 47, 3) := by decide +kernel
theorem dX9_fails_143 : decode cX9_fails 143 = .ok (.iconst 0, 1) := by decide +kernel
theorem dX9_fails_144 : decode cX9_fails 144 = .ok (.iaload, 1) := by decide +kernel
theorem dX9_fails_145 : decode cX9_fails 145 = .ok (.ifCond .lt 14, 3) := by decide +kernel
theorem dX9_fails_148 : decode cX9_fails 148 = .ok (.aload_n 0, 1) := by decide +kernel
theorem dX9_fails_149 : decode cX9_fails 149 = .ok (.getfield 47, 3) := by decide +kernel
theorem dX9_fails_152 : decode cX9_fails 152 = .ok (.iconst 0, 1) := by decide +kernel
theorem dX9_fails_153 : decode cX9_fails 153 = .ok (.iaload, 1) := by decide +kernel
theorem dX9_fails_154 : decode cX9_fails 154 = .ok (.bipush 40, 2) := by decide +kernel
theorem dX9_fails_156 : decode cX9_fails 156 = .ok (.if_icmp .le 7, 3) := by decide +kernel
theorem dX9_fails_159 : decode cX9_fails 159 = .ok (.iconst 1, 1) := by decide +kernel
theorem dX9_fails_160 : decode cX9_fails 160 = .ok (.goto 4, 3) := by decide +kernel
theorem dX9_fails_163 : decode cX9_fails 163 = .ok (.iconst 0, 1) := by decide +kernel
theorem dX9_fails_164 : decode cX9_fails 164 = .ok (.ireturn, 1) := by decide +kernel
theorem dX9_fails_165 : decode cX9_fails 165 = .ok (.aload_n 0, 1) := by decide +kernel
theorem dX9_fails_166 : decode cX9_fails 166 = .ok (.getfield 163, 3) := by decide +kernel
theorem dX9_fails_169 : decode cX9_fails 169 = .ok (.iconst 1, 1) := by decide +kernel
theorem dX9_fails_170 : decode cX9_fails 170 = .ok (.if_icmp .lt 12, 3) := by decide +kernel
theorem dX9_fails_173 : decode cX9_fails 173 = .ok (.aload_n 0, 1) := by decide +kernel
theorem dX9_fails_174 : decode cX9_fails 174 = .ok (.getfield 166, 3) := by decide +kernel
theorem dX9_fails_177 : decode cX9_fails 177 = .ok (.bipush 40, 2) := by decide +kernel
theorem dX9_fails_179 : decode cX9_fails 179 = .ok (.if_icmp .ne 7, 3) := by decide +kernel
theorem dX9_fails_182 : decode cX9_fails 182 = .ok (.iconst 1, 1) := by decide +kernel
theorem dX9_fails_183 : decode cX9_fails 183 = .ok (.goto 4, 3) := by decide +kernel
theorem dX9_fails_186 : decode cX9_fails 186 = .ok (.iconst 0, 1) := by decide +kernel
theorem dX9_fails_187 : decode cX9_fails 187 = .ok (.ireturn, 1) := by decide +kernel
theorem dX9_fails_188 : decode cX9_fails 188 = .ok (.aload_n 0, 1) := by decide +kernel
theorem dX9_fails_189 : decode cX9_fails 189 = .ok (.getfield 163, 3) := by decide +kernel
theorem dX9_fails_192 : decode cX9_fails 192 = .ok (.iload_n 3, 1) := by decide +kernel
theorem dX9_fails_193 : decode cX9_fails 193 = .ok (.iadd, 1) := by decide +kernel
theorem dX9_fails_194 : decode cX9_fails 194 = .ok (.i2l, 1) := by decide +kernel
theorem dX9_fails_195 : decode cX9_fails 195 = .ok (.invokestatic 171, 3) := by decide +kernel
theorem dX9_fails_198 : decode cX9_fails 198 = .ok (.ifCond .ne 7, 3) := by decide +kernel
theorem dX9_fails_201 : decode cX9_fails 201 = .ok (.iconst 1, 1) := by decide +kernel
theorem dX9_fails_202 : decode cX9_fails 202 = .ok (.goto 4, 3) := by decide +kernel
theorem dX9_fails_205 : decode cX9_fails 205 = .ok (.iconst 0, 1) := by decide +kernel
theorem dX9_fails_206 : decode cX9_fails 206 = .ok (.ireturn, 1) := by decide +kernel
theorem dX9_fails_207 : decode cX9_fails 207 = .ok (.iconst 0, 1) := by decide +kernel
theorem dX9_fails_208 : decode cX9_fails 208 = .ok (.ireturn, 1) := by decide +kernel
theorem dX9_step_0 : decode cX9_step 0 = .ok (.aload_n 0, 1) := by decide +kernel
theorem dX9_step_1 : decode cX9_step 1 = .ok (.getfield 63, 3) := by decide +kernel
theorem dX9_step_4 : decode cX9_step 4 = .ok (.ifCond .eq 18, 3) := by decide +kernel
theorem dX9_step_7 : decode cX9_step 7 = .ok (.aload_n 0, 1) := by decide +kernel
theorem dX9_step_8 : decode cX9_step 8 = .ok (.aload_n 0, 1) := by decide +kernel
theorem dX9_step_9 : decode cX9_step 9 = .ok (.getfield 67, 3) := by decide +kernel
theorem dX9_step_12 : decode cX9_step 12 = .ok (.aload_n 0, 1) := by decide +kernel
theorem dX9_step_13 : decode cX9_step 13 = .ok (.getfield 70, 3) := by decide +kernel
theorem dX9_step_16 : decode cX9_step 16 = .ok (.invokevirtual 115, 3) := by decide +kernel
theorem dX9_step_19 : decode cX9_step 19 = .ok (.ifCond .ne 10, 3) := by decide +kernel
theorem dX9_step_22 : decode cX9_step 22 = .ok (.aload_n 0, 1) := by decide +kernel
theorem dX9_step_23 : decode cX9_step 23 = .ok (.iconst 1, 1) := by decide +kernel
theorem dX9_step_24 : decode cX9_step 24 = .ok (.putfield 59, 3) := by decide +kernel
theorem dX9_step_27 : decode cX9_step 27 = .ok (.iconst 0, 1) := by decide +kernel
theorem dX9_step_28 : decode cX9_step 28 = .ok (.ireturn, 1) := by decide +kernel
theorem dX9_step_29 : decode cX9_step 29 = .ok (.aload_n 0, 1) := by decide +kernel
theorem dX9_step_30 : decode cX9_step 30 = .ok (.getfield 7, 3) := by decide +kernel
theorem dX9_step_33 : decode cX9_step 33 = .ok (.aload_n 0, 1) := by decide +kernel
theorem dX9_step_34 : decode cX9_step 34 = .ok (.getfield 67, 3) := by decide +kernel
theorem dX9_step_37 : decode cX9_step 37 = .ok (.iaload, 1) := by decide +kernel
theorem dX9_step_38 : decode cX9_step 38 = .ok (.istore_n 1, 1) := by decide +kernel
theorem dX9_step_39 : decode cX9_step 39 = .ok (.iload_n 1, 1) := by decide +kernel
theorem dX9_step_40 : decode cX9_step 40 = .ok (.invokestatic 79, 3) := by decide +kernel
theorem dX9_step_43 : decode cX9_step 43 = .ok (.iconst 1, 1) := by decide +kernel
theorem dX9_step_44 : decode cX9_step 44 = .ok (.if_icmp .le 17, 3) := by decide +kernel
theorem dX9_step_47 : decode cX9_step 47 = .ok (.aload_n 0, 1) := by decide +kernel
theorem dX9_step_48 : decode cX9_step 48 = .ok (.getfield 7, 3) := by decide +kernel
theorem dX9_step_51 : decode cX9_step 51 = .ok (.aload_n 0, 1) := by decide +kernel
theorem dX9_step_52 : decode cX9_step 52 = .ok (.getfield 67, 3) := by decide +kernel
theorem dX9_step_55 : decode cX9_step 55 = .ok (.iconst 1, 1) := by decide +kernel
theorem dX9_step_56 : decode cX9_step 56 = .ok (.iadd, 1) := by decide +kernel
theorem dX9_step_57 : decode cX9_step 57 = .ok (.iaload, 1) := by decide +kernel
theorem dX9_step_58 : decode cX9_step 58 = .ok (.goto 4, 3) := by decide +kernel
theorem dX9_step_61 : decode cX9_step 61 = .ok (.iconst 0, 1) := by decide +kernel
theorem dX9_step_62 : decode cX9_step 62 = .ok (.istore_n 2, 1) := by decide +kernel
theorem dX9_step_63 : decode cX9_step 63 = .ok (.iload_n 1, 1) := by decide +kernel
theorem dX9_step_64 : decode cX9_step 64 = .ok (.invokestatic 79, 3) := by decide +kernel
theorem dX9_step_67 : decode cX9_step 67 = .ok (.iconst 2, 1) := by decide +kernel
theorem dX9_step_68 : decode cX9_step 68 = .ok (.if_icmp .le 17, 3) := by decide +kernel
theorem dX9_step_71 : decode cX9_step 71 = .ok (.aload_n 0, 1) := by decide +kernel
theorem dX9_step_72 : decode cX9_step 72 = .ok (.getfield 7, 3) := by decide +kernel
theorem dX9_step_75 : decode cX9_step 75 = .ok (.aload_n 0, 1) := by decide +kernel
theorem dX9_step_76 : decode cX9_step 76 = .ok (.getfield 67, 3) := by decide +kernel
theorem dX9_step_79 : decode cX9_step 79 = .ok (.iconst 2, 1) := by decide +kernel
theorem dX9_step_80 : decode cX9_step 80 = .ok (.iadd, 1) := by decide +kernel
theorem dX9_step_81 : decode cX9_step 81 = .ok (.iaload, 1) := by decide +kernel
theorem dX9_step_82 : decode cX9_step 82 = .ok (.goto 4, 3) := by decide +kernel
theorem dX9_step_85 : decode cX9_step 85 = .ok (.iconst 0, 1) := by decide +kernel
theorem dX9_step_86 : decode cX9_step 86 = .ok (.istore_n 3, 1) := by decide +kernel
theorem dX9_step_87 : decode cX9_step 87 = .ok (.aload_n 0, 1) := by decide +kernel
theorem dX9_step_88 : decode cX9_step 88 = .ok (.aload_n 0, 1) := by decide +kernel
theorem dX9_step_89 : decode cX9_step 89 = .ok (.iload_n 1, 1) := by decide +kernel
theorem dX9_step_90 : decode cX9_step 90 = .ok (.iload_n 2, 1) := by decide +kernel
theorem dX9_step_91 : decode cX9_step 91 = .ok (.iload_n 3, 1) := by decide +kernel
theorem dX9_step_92 : decode cX9_step 92 = .ok (.invokevirtual 175, 3) := by decide +kernel
theorem dX9_step_95 : decode cX9_step 95 = .ok (.ifCond .eq 7, 3) := by decide +kernel
theorem dX9_step_98 : decode cX9_step 98 = .ok (.iconst 2, 1) := by decide +kernel
theorem dX9_step_99 : decode cX9_step 99 = .ok (.goto 4, 3) := by decide +kernel
theorem dX9_step_102 : decode cX9_step 102 = .ok (.iconst 0, 1) := by decide +kernel
theorem dX9_step_103 : decode cX9_step 103 = .ok (.putfield 59, 3) := by decide +kernel
theorem dX9_step_106 : decode cX9_step 106 = .ok (.aload_n 0, 1) := by decide +kernel
theorem dX9_step_107 : decode cX9_step 107 = .ok (.getfield 59, 3) := by decide +kernel
theorem dX9_step_110 : decode cX9_step 110 = .ok (.ifCond .le 5, 3) := by decide +kernel
theorem dX9_step_113 : decode cX9_step 113 = .ok (.iconst 0, 1) := by decide +kernel
theorem dX9_step_114 : decode cX9_step 114 = .ok (.ireturn, 1) := by decide +kernel
theorem dX9_step_115 : decode cX9_step 115 = .ok (.aload_n 0, 1) := by decide +kernel
theorem dX9_step_116 : decode cX9_step 116 = .ok (.getfield 67, 3) := by decide +kernel
theorem dX9_step_119 : decode cX9_step 119 = .ok (.iload_n 1, 1) := by decide +kernel
theorem dX9_step_120 : decode cX9_step 120 = .ok (.invokestatic 79, 3) := by decide +kernel
theorem dX9_step_123 : decode cX9_step 123 = .ok (.iadd, 1) := by decide +kernel
theorem dX9_step_124 : decode cX9_step 124 = .ok (.istore 4, 2) := by decide +kernel
theorem dX9_step_126 : decode cX9_step 126 = .ok (.iload_n 1, 1) := by decide +kernel
theorem dX9_step_127 : decode cX9_step 127 = .ok (.tableswitch 386 1 15 #[73, 101, 129, 142, 155, 168, 181, 229, 291, 297, 315, 325, 333, 346, 366], 73) := by decide +kernel
theorem dX9_step_200 : decode cX9_step 200 = .ok (.aload_n 0, 1) := by decide +kernel
theorem dX9_step_201 : decode cX9_step 201 = .ok (.dup, 1) := by decide +kernel
theorem dX9_step_202 : decode cX9_step 202 = .ok (.getfield 163, 3) := by decide +kernel
theorem dX9_step_205 : decode cX9_step 205 = .ok (.iconst 1, 1) := by decide +kernel
theorem dX9_step_206 : decode cX9_step 206 = .ok (.isub, 1) := by decide +kernel
theorem dX9_step_207 : decode cX9_step 207 = .ok (.putfield 163, 3) := by decide +kernel
theorem dX9_step_210 : decode cX9_step 210 = .ok (.aload_n 0, 1) := by decide +kernel
theorem dX9_step_211 : decode cX9_step 211 = .ok (.getfield 50, 3) := by decide +kernel
theorem dX9_step_214 : decode cX9_step 214 = .ok (.aload_n 0, 1) := by decide +kernel
theorem dX9_step_215 : decode cX9_step 215 = .ok (.getfield 163, 3) := by decide +kernel
theorem dX9_step_218 : decode cX9_step 218 = .ok (.aload_n 0, 1) := by decide +kernel
theorem dX9_step_219 : decode cX9_step 219 = .ok (.getfield 47, 3) := by decide +kernel
theorem dX9_step_222 : decode cX9_step 222 = .ok (.iload_n 2, 1) := by decide +kernel
theorem dX9_step_223 : decode cX9_step 223 = .ok (.iaload, 1) := by decide +kernel
theorem dX9_step_224 : decode cX9_step 224 = .ok (.iastore, 1) := by decide +kernel
theorem dX9_step_225 : decode cX9_step 225 = .ok (.goto 288, 3) := by decide +kernel
theorem dX9_step_228 : decode cX9_step 228 = .ok (.aload_n 0, 1) := by decide +kernel
theorem dX9_step_229 : decode cX9_step 229 = .ok (.getfield 47, 3) := by decide +kernel
theorem dX9_step_232 : decode cX9_step 232 = .ok (.iload_n 2, 1) := by decide +kernel
theorem dX9_step_233 : decode cX9_step 233 = .ok (.aload_n 0, 1) := by decide +kernel
theorem dX9_step_234 : decode cX9_step 234 = .ok (.getfield 50, 3) := by decide +kernel
theorem dX9_step_237 : decode cX9_step 237 = .ok (.aload_n 0, 1) := by decide +kernel
theorem dX9_step_238 : decode cX9_step 238 = .ok (.getfield 163, 3) := by decide +kernel
theorem dX9_step_241 : decode cX9_step 241 = .ok (.iaload, 1) := by decide +kernel
theorem dX9_step_242 : decode cX9_step 242 = .ok (.iastore, 1) := by decide +kernel
theorem dX9_step_243 : decode cX9_step 243 = .ok (.aload_n 0, 1) := by decide +kernel
theorem dX9_step_244 : decode cX9_step 244 = .ok (.dup, 1) := by decide +kernel
theorem dX9_step_245 : decode cX9_step 245 = .ok (.getfield 163, 3) := by decide +kernel
theorem dX9_step_248 : decode cX9_step 248 = .ok (.iconst 1, 1) := by decide +kernel
theorem dX9_step_249 : decode cX9_step 249 = .ok (.iadd, 1) := by decide +kernel
theorem dX9_step_250 : decode cX9_step 250 = .ok (.putfield 163, 3) := by decide +kernel
theorem dX9_step_253 : decode cX9_step 253 = .ok (.goto 260, 3) := by decide +kernel
theorem dX9_step_256 : decode cX9_step 256 = .ok (.aload_n 0, 1) := by decide +kernel
theorem dX9_step_257 : decode cX9_step 257 = .ok (.dup, 1) := by decide +kernel
theorem dX9_step_258 : decode cX9_step 258 = .ok (.getfield 163, 3) := by decide +kernel
theorem dX9_step_261 : decode cX9_step 261 = .ok (.iload_n 2, 1) := by decide +kernel
theorem dX9_step_262 : decode cX9_step 262 = .ok (.isub, 1) := by decide +kernel
theorem dX9_step_263 : decode cX9_step 263 = .ok (.putfield 163, 3) := by decide +kernel
theorem dX9_step_266 : decode cX9_step 266 = .ok (.goto 247, 3) := by decide +kernel
theorem dX9_step_269 : decode cX9_step 269 = .ok (.aload_n 0, 1) := by decide +kernel
theorem dX9_step_270 : decode cX9_step 270 = .ok (.dup, 1) := by decide +kernel
theorem dX9_step_271 : decode cX9_step 271 = .ok (.getfield 163, 3) := by decide +kernel
theorem dX9_step_274 : decode cX9_step 274 = .ok (.iload_n 2, 1) := by decide +kernel
theorem dX9_step_275 : decode cX9_step 275 = .ok (.iadd, 1) := by decide +kernel
theorem dX9_step_276 : decode cX9_step 276 = .ok (.putfield 163, 3) := by decide +kernel
theorem dX9_step_279 : decode cX9_step 279 = .ok (.goto 234, 3) := by decide +kernel
theorem dX9_step_282 : decode cX9_step 282 = .ok (.aload_n 0, 1) := by decide +kernel
theorem dX9_step_283 : decode cX9_step 283 = .ok (.getfield 47, 3) := by decide +kernel
theorem dX9_step_286 : decode cX9_step 286 = .ok (.iconst 0, 1) := by decide +kernel
theorem dX9_step_287 : decode cX9_step 287 = .ok (.aload_n 0, 1) := by decide +kernel
theorem dX9_step_288 : decode cX9_step 288 = .ok (.getfield 163, 3) := by decide +kernel
theorem dX9_step_291 : decode cX9_step 291 = .ok (.iastore, 1) := by decide +kernel
theorem dX9_step_292 : decode cX9_step 292 = .ok (.goto 221, 3) := by decide +kernel
theorem dX9_step_295 : decode cX9_step 295 = .ok (.aload_n 0, 1) := by decide +kernel
theorem dX9_step_296 : decode cX9_step 296 = .ok (.aload_n 0, 1) := by decide +kernel
theorem dX9_step_297 : decode cX9_step 297 = .ok (.getfield 47, 3) := by decide +kernel
theorem dX9_step_300 : decode cX9_step 300 = .ok (.iconst 0, 1) := by decide +kernel
theorem dX9_step_301 : decode cX9_step 301 = .ok (.iaload, 1) := by decide +kernel
theorem dX9_step_302 : decode cX9_step 302 = .ok (.putfield 163, 3) := by decide +kernel
theorem dX9_step_305 : decode cX9_step 305 = .ok (.goto 208, 3) := by decide +kernel
theorem dX9_step_308 : decode cX9_step 308 = .ok (.aload_n 0, 1) := by decide +kernel
theorem dX9_step_309 : decode cX9_step 309 = .ok (.dup, 1) := by decide +kernel
theorem dX9_step_310 : decode cX9_step 310 = .ok (.getfield 163, 3) := by decide +kernel
theorem dX9_step_313 : decode cX9_step 313 = .ok (.iconst 1, 1) := by decide +kernel
theorem dX9_step_314 : decode cX9_step 314 = .ok (.isub, 1) := by decide +kernel
theorem dX9_step_315 : decode cX9_step 315 = .ok (.putfield 163, 3) := by decide +kernel
theorem dX9_step_318 : decode cX9_step 318 = .ok (.aload_n 0, 1) := by decide +kernel
theorem dX9_step_319 : decode cX9_step 319 = .ok (.getfield 50, 3) := by decide +kernel
theorem dX9_step_322 : decode cX9_step 322 = .ok (.aload_n 0, 1) := by decide +kernel
theorem dX9_step_323 : decode cX9_step 323 = .ok (.getfield 163, 3) := by decide +kernel
theorem dX9_step_326 : decode cX9_step 326 = .ok (.iload 4, 2) := by decide +kernel
theorem dX9_step_328 : decode cX9_step 328 = .ok (.iastore, 1) := by decide +kernel
theorem dX9_step_329 : decode cX9_step 329 = .ok (.aload_n 0, 1) := by decide +kernel
theorem dX9_step_330 : decode cX9_step 330 = .ok (.getfield 53, 3) := by decide +kernel
theorem dX9_step_333 : decode cX9_step 333 = .ok (.aload_n 0, 1) := by decide +kernel
theorem dX9_step_334 : decode cX9_step 334 = .ok (.getfield 166, 3) := by decide +kernel
theorem dX9_step_337 : decode cX9_step 337 = .ok (.iload 4, 2) := by decide +kernel
theorem dX9_step_339 : decode cX9_step 339 = .ok (.iastore, 1) := by decide +kernel
theorem dX9_step_340 : decode cX9_step 340 = .ok (.aload_n 0, 1) := by decide +kernel
theorem dX9_step_341 : decode cX9_step 341 = .ok (.dup, 1) := by decide +kernel
theorem dX9_step_342 : decode cX9_step 342 = .ok (.getfield 166, 3) := by decide +kernel
theorem dX9_step_345 : decode cX9_step 345 = .ok (.iconst 1, 1) := by decide +kernel
theorem dX9_step_346 : decode cX9_step 346 = .ok (.iadd, 1) := by decide +kernel
theorem dX9_step_347 : decode cX9_step 347 = .ok (.putfield 166, 3) := by decide +kernel
theorem dX9_step_350 : decode cX9_step 350 = .ok (.iload_n 2, 1) := by decide +kernel
theorem dX9_step_351 : decode cX9_step 351 = .ok (.istore 4, 2) := by decide +kernel
theorem dX9_step_353 : decode cX9_step 353 = .ok (.goto 160, 3) := by decide +kernel
theorem dX9_step_356 : decode cX9_step 356 = .ok (.aload_n 0, 1) := by decide +kernel
theorem dX9_step_357 : decode cX9_step 357 = .ok (.getfield 50, 3) := by decide +kernel
theorem dX9_step_360 : decode cX9_step 360 = .ok (.aload_n 0, 1) := by decide +kernel
theorem dX9_step_361 : decode cX9_step 361 = .ok (.getfield 163, 3) := by decide +kernel
theorem dX9_step_364 : decode cX9_step 364 = .ok (.iaload, 1) := by decide +kernel
theorem dX9_step_365 : decode cX9_step 365 = .ok (.istore 4, 2) := by decide +kernel
theorem dX9_step_367 : decode cX9_step 367 = .ok (.aload_n 0, 1) := by decide +kernel
theorem dX9_step_368 : decode cX9_step 368 = .ok (.dup, 1) := by decide +kernel
theorem dX9_step_369 : decode cX9_step 369 = .ok (.getfield 163, 3) := by decide +kernel
theorem dX9_step_372 : decode cX9_step 372 = .ok (.iconst 1, 1) := by decide +kernel
theorem dX9_step_373 : decode cX9_step 373 = .ok (.iadd, 1) := by decide +kernel
theorem dX9_step_374 : decode cX9_step 374 = .ok (.putfield 163, 3) := by decide +kernel
theorem dX9_step_377 : decode cX9_step 377 = .ok (.aload_n 0, 1) := by decide +kernel
theorem dX9_step_378 : decode cX9_step 378 = .ok (.dup, 1) := by decide +kernel
theorem dX9_step_379 : decode cX9_step 379 = .ok (.getfield 166, 3) := by decide +kernel
theorem dX9_step_382 : decode cX9_step 382 = .ok (.aload_n 0, 1) := by decide +kernel
theorem dX9_step_383 : decode cX9_step 383 = .ok (.getfield 166, 3) := by decide +kernel
theorem dX9_step_386 : decode cX9_step 386 = .ok (.ifCond .le 7, 3) := by decide +kernel
theorem dX9_step_389 : decode cX9_step 389 = .ok (.iconst 1, 1) := by decide +kernel
theorem dX9_step_390 : decode cX9_step 390 = .ok (.goto 4, 3) := by decide +kernel
theorem dX9_step_393 : decode cX9_step 393 = .ok (.iconst 0, 1) := by decide +kernel
theorem dX9_step_394 : decode cX9_step 394 = .ok (.isub, 1) := by decide +kernel
theorem dX9_step_395 : decode cX9_step 395 = .ok (.putfield 166, 3) := by decide +kernel
theorem dX9_step_398 : decode cX9_step 398 = .ok (.aload_n 0, 1) := by decide +kernel
theorem dX9_step_399 : decode cX9_step 399 = .ok (.iload 4, 2) := by decide +kernel
theorem dX9_step_401 : decode cX9_step 401 = .ok (.sipush 255, 3) := by decide +kernel
theorem dX9_step_404 : decode cX9_step 404 = .ok (.if_icmp .eq 7, 3) := by decide +kernel
theorem dX9_step_407 : decode cX9_step 407 = .ok (.iconst 1, 1) := by decide +kernel
theorem dX9_step_408 : decode cX9_step 408 = .ok (.goto 4, 3) := by decide +kernel
theorem dX9_step_411 : decode cX9_step 411 = .ok (.iconst 0, 1) := by decide +kernel
theorem dX9_step_412 : decode cX9_step 412 = .ok (.putfield 63, 3) := by decide +kernel
theorem dX9_step_415 : decode cX9_step 415 = .ok (.goto 98, 3) := by decide +kernel
theorem dX9_step_418 : decode cX9_step 418 = .ok (.iload_n 2, 1) := by decide +kernel
theorem dX9_step_419 : decode cX9_step 419 = .ok (.istore 4, 2) := by decide +kernel
theorem dX9_step_421 : decode cX9_step 421 = .ok (.goto 92, 3) := by decide +kernel
theorem dX9_step_424 : decode cX9_step 424 = .ok (.aload_n 0, 1) := by decide +kernel
theorem dX9_step_425 : decode cX9_step 425 = .ok (.getfield 160, 3) := by decide +kernel
theorem dX9_step_428 : decode cX9_step 428 = .ok (.ifCond .eq 7, 3) := by decide +kernel
theorem dX9_step_431 : decode cX9_step 431 = .ok (.iload_n 2, 1) := by decide +kernel
theorem dX9_step_432 : decode cX9_step 432 = .ok (.goto 5, 3) := by decide +kernel
theorem dX9_step_435 : decode cX9_step 435 = .ok (.iload 4, 2) := by decide +kernel
theorem dX9_step_437 : decode cX9_step 437 = .ok (.istore 4, 2) := by decide +kernel
theorem dX9_step_439 : decode cX9_step 439 = .ok (.goto 74, 3) := by decide +kernel
theorem dX9_step_442 : decode cX9_step 442 = .ok (.aload_n 0, 1) := by decide +kernel
theorem dX9_step_443 : decode cX9_step 443 = .ok (.getfield 47, 3) := by decide +kernel
theorem dX9_step_446 : decode cX9_step 446 = .ok (.iload_n 2, 1) := by decide +kernel
theorem dX9_step_447 : decode cX9_step 447 = .ok (.iload_n 3, 1) := by decide +kernel
theorem dX9_step_448 : decode cX9_step 448 = .ok (.iastore, 1) := by decide +kernel
theorem dX9_step_449 : decode cX9_step 449 = .ok (.goto 64, 3) := by decide +kernel
theorem dX9_step_452 : decode cX9_step 452 = .ok (.aload_n 0, 1) := by decide +kernel
theorem dX9_step_453 : decode cX9_step 453 = .ok (.iload_n 2, 1) := by decide +kernel
theorem dX9_step_454 : decode cX9_step 454 = .ok (.putfield 160, 3) := by decide +kernel
theorem dX9_step_457 : decode cX9_step 457 = .ok (.goto 56, 3) := by decide +kernel
theorem dX9_step_460 : decode cX9_step 460 = .ok (.aload_n 0, 1) := by decide +kernel
theorem dX9_step_461 : decode cX9_step 461 = .ok (.dup, 1) := by decide +kernel
theorem dX9_step_462 : decode cX9_step 462 = .ok (.getfield 160, 3) := by decide +kernel
theorem dX9_step_465 : decode cX9_step 465 = .ok (.iconst 1, 1) := by decide +kernel
theorem dX9_step_466 : decode cX9_step 466 = .ok (.isub, 1) := by decide +kernel
theorem dX9_step_467 : decode cX9_step 467 = .ok (.putfield 160, 3) := by decide +kernel
theorem dX9_step_470 : decode cX9_step 470 = .ok (.goto 43, 3) := by decide +kernel
theorem dX9_step_473 : decode cX9_step 473 = .ok (.aload_n 0, 1) := by decide +kernel
theorem dX9_step_474 : decode cX9_step 474 = .ok (.getfield 50, 3) := by decide +kernel
theorem dX9_step_477 : decode cX9_step 477 = .ok (.aload_n 0, 1) := by decide +kernel
theorem dX9_step_478 : decode cX9_step 478 = .ok (.getfield 163, 3) := by decide +kernel
theorem dX9_step_481 : decode cX9_step 481 = .ok (.iload_n 3, 1) := by decide +kernel
theorem dX9_step_482 : decode cX9_step 482 = .ok (.iadd, 1) := by decide +kernel
theorem dX9_step_483 : decode cX9_step 483 = .ok (.aload_n 0, 1) := by decide +kernel
theorem dX9_step_484 : decode cX9_step 484 = .ok (.getfield 47, 3) := by decide +kernel
theorem dX9_step_487 : decode cX9_step 487 = .ok (.iload_n 2, 1) := by decide +kernel
theorem dX9_step_488 : decode cX9_step 488 = .ok (.iaload, 1) := by decide +kernel
theorem dX9_step_489 : decode cX9_step 489 = .ok (.iastore, 1) := by decide +kernel
theorem dX9_step_490 : decode cX9_step 490 = .ok (.goto 23, 3) := by decide +kernel
theorem dX9_step_493 : decode cX9_step 493 = .ok (.aload_n 0, 1) := by decide +kernel
theorem dX9_step_494 : decode cX9_step 494 = .ok (.getfield 47, 3) := by decide +kernel
theorem dX9_step_497 : decode cX9_step 497 = .ok (.iload_n 2, 1) := by decide +kernel
theorem dX9_step_498 : decode cX9_step 498 = .ok (.aload_n 0, 1) := by decide +kernel
theorem dX9_step_499 : decode cX9_step 499 = .ok (.getfield 50, 3) := by decide +kernel
theorem dX9_step_502 : decode cX9_step 502 = .ok (.aload_n 0, 1) := by decide +kernel
theorem dX9_step_503 : decode cX9_step 503 = .ok (.getfield 163, 3) := by decide +kernel
theorem dX9_step_506 : decode cX9_step 506 = .ok (.iload_n 3, 1) := by decide +kernel
theorem dX9_step_507 : decode cX9_step 507 = .ok (.iadd, 1) := by decide +kernel
theorem dX9_step_508 : decode cX9_step 508 = .ok (.iaload, 1) := by decide +kernel
theorem dX9_step_509 : decode cX9_step 509 = .ok (.iastore, 1) := by decide +kernel
theorem dX9_step_510 : decode cX9_step 510 = .ok (.goto 3, 3) := by decide +kernel
theorem dX9_step_513 : decode cX9_step 513 = .ok (.aload_n 0, 1) := by decide +kernel
theorem dX9_step_514 : decode cX9_step 514 = .ok (.iload 4, 2) := by decide +kernel
theorem dX9_step_516 : decode cX9_step 516 = .ok (.putfield 67, 3) := by decide +kernel
theorem dX9_step_519 : decode cX9_step 519 = .ok (.aload_n 0, 1) := by decide +kernel
theorem dX9_step_520 : decode cX9_step 520 = .ok (.getfield 67, 3) := by decide +kernel
theorem dX9_step_523 : decode cX9_step 523 = .ok (.ireturn, 1) := by decide +kernel
theorem dX9_machine_0 : decode cX9_machine 0 = .ok (.aload_n 0, 1) := by decide +kernel
theorem dX9_machine_1 : decode cX9_machine 1 = .ok (.iconst 0, 1) := by decide +kernel
theorem dX9_machine_2 : decode cX9_machine 2 = .ok (.putfield 59, 3) := by decide +kernel
theorem dX9_machine_5 : decode cX9_machine 5 = .ok (.aload_n 0, 1) := by decide +kernel
theorem dX9_machine_6 : decode cX9_machine 6 = .ok (.getfield 157, 3) := by decide +kernel
theorem dX9_machine_9 : decode cX9_machine 9 = .ok (.ifCond .eq 13, 3) := by decide +kernel
theorem dX9_machine_12 : decode cX9_machine 12 = .ok (.iload_n 1, 1) := by decide +kernel
theorem dX9_machine_13 : decode cX9_machine 13 = .ok (.ifCond .lt 9, 3) := by decide +kernel
theorem dX9_machine_16 : decode cX9_machine 16 = .ok (.iload_n 1, 1) := by decide +kernel
theorem dX9_machine_17 : decode cX9_machine 17 = .ok (.bipush 6, 2) := by decide +kernel
theorem dX9_machine_19 : decode cX9_machine 19 = .ok (.if_icmp .le 5, 3) := by decide +kernel
theorem dX9_machine_22 : decode cX9_machine 22 = .ok (.iconst (-1), 1) := by decide +kernel
theorem dX9_machine_23 : decode cX9_machine 23 = .ok (.ireturn, 1) := by decide +kernel
theorem dX9_machine_24 : decode cX9_machine 24 = .ok (.iload_n 1, 1) := by decide +kernel
theorem dX9_machine_25 : decode cX9_machine 25 = .ok (.ifCond .ne 10, 3) := by decide +kernel
theorem dX9_machine_28 : decode cX9_machine 28 = .ok (.aload_n 0, 1) := by decide +kernel
theorem dX9_machine_29 : decode cX9_machine 29 = .ok (.getfield 67, 3) := by decide +kernel
theorem dX9_machine_32 : decode cX9_machine 32 = .ok (.goto 47, 3) := by decide +kernel
theorem dX9_machine_35 : decode cX9_machine 35 = .ok (.iload_n 1, 1) := by decide +kernel
theorem dX9_machine_36 : decode cX9_machine 36 = .ok (.iconst 1, 1) := by decide +kernel
theorem dX9_machine_37 : decode cX9_machine 37 = .ok (.if_icmp .ne 10, 3) := by decide +kernel
theorem dX9_machine_40 : decode cX9_machine 40 = .ok (.aload_n 0, 1) := by decide +kernel
theorem dX9_machine_41 : decode cX9_machine 41 = .ok (.getfield 163, 3) := by decide +kernel
theorem dX9_machine_44 : decode cX9_machine 44 = .ok (.goto 35, 3) := by decide +kernel
theorem dX9_machine_47 : decode cX9_machine 47 = .ok (.iload_n 1, 1) := by decide +kernel
theorem dX9_machine_48 : decode cX9_machine 48 = .ok (.iconst 5, 1) := by decide +kernel
theorem dX9_machine_49 : decode cX9_machine 49 = .ok (.if_icmp .ge 14, 3) := by decide +kernel
theorem dX9_machine_52 : decode cX9_machine 52 = .ok (.aload_n 0, 1) := by decide +kernel
theorem dX9_machine_53 : decode cX9_machine 53 = .ok (.getfield 47, 3) := by decide +kernel
theorem dX9_machine_56 : decode cX9_machine 56 = .ok (.iload_n 1, 1) := by decide +kernel
theorem dX9_machine_57 : decode cX9_machine 57 = .ok (.iconst 2, 1) := by decide +kernel
theorem dX9_machine_58 : decode cX9_machine 58 = .ok (.isub, 1) := by decide +kernel
theorem dX9_machine_59 : decode cX9_machine 59 = .ok (.iaload, 1) := by decide +kernel
theorem dX9_machine_60 : decode cX9_machine 60 = .ok (.goto 19, 3) := by decide +kernel
theorem dX9_machine_63 : decode cX9_machine 63 = .ok (.iload_n 1, 1) := by decide +kernel
theorem dX9_machine_64 : decode cX9_machine 64 = .ok (.iconst 5, 1) := by decide +kernel
theorem dX9_machine_65 : decode cX9_machine 65 = .ok (.if_icmp .ne 10, 3) := by decide +kernel
theorem dX9_machine_68 : decode cX9_machine 68 = .ok (.aload_n 0, 1) := by decide +kernel
theorem dX9_machine_69 : decode cX9_machine 69 = .ok (.getfield 160, 3) := by decide +kernel
theorem dX9_machine_72 : decode cX9_machine 72 = .ok (.goto 7, 3) := by decide +kernel
theorem dX9_machine_75 : decode cX9_machine 75 = .ok (.aload_n 0, 1) := by decide +kernel
theorem dX9_machine_76 : decode cX9_machine 76 = .ok (.getfield 166, 3) := by decide +kernel
theorem dX9_machine_79 : decode cX9_machine 79 = .ok (.ireturn, 1) := by decide +kernel
theorem dX9_call_0 : decode cX9_call 0 = .ok (.aload_n 0, 1) := by decide +kernel
theorem dX9_call_1 : decode cX9_call 1 = .ok (.iconst 0, 1) := by decide +kernel
theorem dX9_call_2 : decode cX9_call 2 = .ok (.putfield 59, 3) := by decide +kernel
theorem dX9_call_5 : decode cX9_call 5 = .ok (.iload_n 1, 1) := by decide +kernel
theorem dX9_call_6 : decode cX9_call 6 = .ok (.ifCond .lt 11, 3) := by decide +kernel
theorem dX9_call_9 : decode cX9_call 9 = .ok (.iload_n 1, 1) := by decide +kernel
theorem dX9_call_10 : decode cX9_call 10 = .ok (.aload_n 0, 1) := by decide +kernel
theorem dX9_call_11 : decode cX9_call 11 = .ok (.getfield 166, 3) := by decide +kernel
theorem dX9_call_14 : decode cX9_call 14 = .ok (.if_icmp .lt 7, 3) := by decide +kernel
theorem dX9_call_17 : decode cX9_call 17 = .ok (.iconst (-1), 1) := by decide +kernel
theorem dX9_call_18 : decode cX9_call 18 = .ok (.goto 16, 3) := by decide +kernel
theorem dX9_call_21 : decode cX9_call 21 = .ok (.aload_n 0, 1) := by decide +kernel
theorem dX9_call_22 : decode cX9_call 22 = .ok (.getfield 53, 3) := by decide +kernel
theorem dX9_call_25 : decode cX9_call 25 = .ok (.aload_n 0, 1) := by decide +kernel
theorem dX9_call_26 : decode cX9_call 26 = .ok (.getfield 166, 3) := by decide +kernel
theorem dX9_call_29 : decode cX9_call 29 = .ok (.iconst 1, 1) := by decide +kernel
theorem dX9_call_30 : decode cX9_call 30 = .ok (.isub, 1) := by decide +kernel
theorem dX9_call_31 : decode cX9_call 31 = .ok (.iload_n 1, 1) := by decide +kernel
theorem dX9_call_32 : decode cX9_call 32 = .ok (.isub, 1) := by decide +kernel
theorem dX9_call_33 : decode cX9_call 33 = .ok (.iaload, 1) := by decide +kernel
theorem dX9_call_34 : decode cX9_call 34 = .ok (.ireturn, 1) := by decide +kernel
theorem dX9_nextFrame_0 : decode cX9_nextFrame 0 = .ok (.iconst 5, 1) := by decide +kernel
theorem dX9_nextFrame_1 : decode cX9_nextFrame 1 = .ok (.aload_n 0, 1) := by decide +kernel
theorem dX9_nextFrame_2 : decode cX9_nextFrame 2 = .ok (.getfield 179, 3) := by decide +kernel
theorem dX9_nextFrame_5 : decode cX9_nextFrame 5 = .ok (.iconst 1, 1) := by decide +kernel
theorem dX9_nextFrame_6 : decode cX9_nextFrame 6 = .ok (.isub, 1) := by decide +kernel
theorem dX9_nextFrame_7 : decode cX9_nextFrame 7 = .ok (.imul, 1) := by decide +kernel
theorem dX9_nextFrame_8 : decode cX9_nextFrame 8 = .ok (.istore_n 1, 1) := by decide +kernel
theorem dX9_nextFrame_9 : decode cX9_nextFrame 9 = .ok (.aload_n 0, 1) := by decide +kernel
theorem dX9_nextFrame_10 : decode cX9_nextFrame 10 = .ok (.aload_n 0, 1) := by decide +kernel
theorem dX9_nextFrame_11 : decode cX9_nextFrame 11 = .ok (.getfield 56, 3) := by decide +kernel
theorem dX9_nextFrame_14 : decode cX9_nextFrame 14 = .ok (.iload_n 1, 1) := by decide +kernel
theorem dX9_nextFrame_15 : decode cX9_nextFrame 15 = .ok (.iaload, 1) := by decide +kernel
theorem dX9_nextFrame_16 : decode cX9_nextFrame 16 = .ok (.invokevirtual 154, 3) := by decide +kernel
theorem dX9_nextFrame_19 : decode cX9_nextFrame 19 = .ok (.iconst 1, 1) := by decide +kernel
theorem dX9_nextFrame_20 : decode cX9_nextFrame 20 = .ok (.if_icmp .ge 5, 3) := by decide +kernel
theorem dX9_nextFrame_23 : decode cX9_nextFrame 23 = .ok (.iconst 0, 1) := by decide +kernel
theorem dX9_nextFrame_24 : decode cX9_nextFrame 24 = .ok (.ireturn, 1) := by decide +kernel
theorem dX9_nextFrame_25 : decode cX9_nextFrame 25 = .ok (.aload_n 0, 1) := by decide +kernel
theorem dX9_nextFrame_26 : decode cX9_nextFrame 26 = .ok (.getfield 38, 3) := by decide +kernel
theorem dX9_nextFrame_29 : decode cX9_nextFrame 29 = .ok (.iconst 0, 1) := by decide +kernel
theorem dX9_nextFrame_30 : decode cX9_nextFrame 30 = .ok (.iaload, 1) := by decide +kernel
theorem dX9_nextFrame_31 : decode cX9_nextFrame 31 = .ok (.iconst 1, 1) := by decide +kernel
theorem dX9_nextFrame_32 : decode cX9_nextFrame 32 = .ok (.if_icmp .ne 14, 3) := by decide +kernel
theorem dX9_nextFrame_35 : decode cX9_nextFrame 35 = .ok (.aload_n 0, 1) := by decide +kernel
theorem dX9_nextFrame_36 : decode cX9_nextFrame 36 = .ok (.getfield 56, 3) := by decide +kernel
theorem dX9_nextFrame_39 : decode cX9_nextFrame 39 = .ok (.iload_n 1, 1) := by decide +kernel
theorem dX9_nextFrame_40 : decode cX9_nextFrame 40 = .ok (.iconst 2, 1) := by decide +kernel
theorem dX9_nextFrame_41 : decode cX9_nextFrame 41 = .ok (.iadd, 1) := by decide +kernel
theorem dX9_nextFrame_42 : decode cX9_nextFrame 42 = .ok (.iaload, 1) := by decide +kernel
theorem dX9_nextFrame_43 : decode cX9_nextFrame 43 = .ok (.goto 11, 3) := by decide +kernel
theorem dX9_nextFrame_46 : decode cX9_nextFrame 46 = .ok (.aload_n 0, 1) := by decide +kernel
theorem dX9_nextFrame_47 : decode cX9_nextFrame 47 = .ok (.getfield 56, 3) := by decide +kernel
theorem dX9_nextFrame_50 : decode cX9_nextFrame 50 = .ok (.iload_n 1, 1) := by decide +kernel
theorem dX9_nextFrame_51 : decode cX9_nextFrame 51 = .ok (.iconst 1, 1) := by decide +kernel
theorem dX9_nextFrame_52 : decode cX9_nextFrame 52 = .ok (.iadd, 1) := by decide +kernel
theorem dX9_nextFrame_53 : decode cX9_nextFrame 53 = .ok (.iaload, 1) := by decide +kernel
theorem dX9_nextFrame_54 : decode cX9_nextFrame 54 = .ok (.i2l, 1) := by decide +kernel
theorem dX9_nextFrame_55 : decode cX9_nextFrame 55 = .ok (.aload_n 0, 1) := by decide +kernel
theorem dX9_nextFrame_56 : decode cX9_nextFrame 56 = .ok (.getfield 38, 3) := by decide +kernel
theorem dX9_nextFrame_59 : decode cX9_nextFrame 59 = .ok (.iconst 1, 1) := by decide +kernel
theorem dX9_nextFrame_60 : decode cX9_nextFrame 60 = .ok (.iaload, 1) := by decide +kernel
theorem dX9_nextFrame_61 : decode cX9_nextFrame 61 = .ok (.i2l, 1) := by decide +kernel
theorem dX9_nextFrame_62 : decode cX9_nextFrame 62 = .ok (.ladd, 1) := by decide +kernel
theorem dX9_nextFrame_63 : decode cX9_nextFrame 63 = .ok (.lstore_n 2, 1) := by decide +kernel
theorem dX9_nextFrame_64 : decode cX9_nextFrame 64 = .ok (.lload_n 2, 1) := by decide +kernel
theorem dX9_nextFrame_65 : decode cX9_nextFrame 65 = .ok (.lconst 1, 1) := by decide +kernel
theorem dX9_nextFrame_66 : decode cX9_nextFrame 66 = .ok (.lsub, 1) := by decide +kernel
theorem dX9_nextFrame_67 : decode cX9_nextFrame 67 = .ok (.invokestatic 171, 3) := by decide +kernel
theorem dX9_nextFrame_70 : decode cX9_nextFrame 70 = .ok (.ifCond .ne 5, 3) := by decide +kernel
theorem dX9_nextFrame_73 : decode cX9_nextFrame 73 = .ok (.iconst 0, 1) := by decide +kernel
theorem dX9_nextFrame_74 : decode cX9_nextFrame 74 = .ok (.ireturn, 1) := by decide +kernel
theorem dX9_nextFrame_75 : decode cX9_nextFrame 75 = .ok (.iconst 0, 1) := by decide +kernel
theorem dX9_nextFrame_76 : decode cX9_nextFrame 76 = .ok (.istore 4, 2) := by decide +kernel
theorem dX9_nextFrame_78 : decode cX9_nextFrame 78 = .ok (.iload 4, 2) := by decide +kernel
theorem dX9_nextFrame_80 : decode cX9_nextFrame 80 = .ok (.iconst 3, 1) := by decide +kernel
theorem dX9_nextFrame_81 : decode cX9_nextFrame 81 = .ok (.if_icmp .ge 79, 3) := by decide +kernel
theorem dX9_nextFrame_84 : decode cX9_nextFrame 84 = .ok (.aload_n 0, 1) := by decide +kernel
theorem dX9_nextFrame_85 : decode cX9_nextFrame 85 = .ok (.getfield 38, 3) := by decide +kernel
theorem dX9_nextFrame_88 : decode cX9_nextFrame 88 = .ok (.iconst 2, 1) := by decide +kernel
theorem dX9_nextFrame_89 : decode cX9_nextFrame 89 = .ok (.iload 4, 2) := by decide +kernel
theorem dX9_nextFrame_91 : decode cX9_nextFrame 91 = .ok (.iadd, 1) := by decide +kernel
theorem dX9_nextFrame_92 : decode cX9_nextFrame 92 = .ok (.iaload, 1) := by decide +kernel
theorem dX9_nextFrame_93 : decode cX9_nextFrame 93 = .ok (.istore 5, 2) := by decide +kernel
theorem dX9_nextFrame_95 : decode cX9_nextFrame 95 = .ok (.iload 5, 2) := by decide +kernel
theorem dX9_nextFrame_97 : decode cX9_nextFrame 97 = .ok (.ifCond .le 16, 3) := by decide +kernel
theorem dX9_nextFrame_100 : decode cX9_nextFrame 100 = .ok (.lload_n 2, 1) := by decide +kernel
theorem dX9_nextFrame_101 : decode cX9_nextFrame 101 = .ok (.iload 5, 2) := by decide +kernel
theorem dX9_nextFrame_103 : decode cX9_nextFrame 103 = .ok (.i2l, 1) := by decide +kernel
theorem dX9_nextFrame_104 : decode cX9_nextFrame 104 = .ok (.lsub, 1) := by decide +kernel
theorem dX9_nextFrame_105 : decode cX9_nextFrame 105 = .ok (.invokestatic 171, 3) := by decide +kernel
theorem dX9_nextFrame_108 : decode cX9_nextFrame 108 = .ok (.ifCond .ne 5, 3) := by decide +kernel
theorem dX9_nextFrame_111 : decode cX9_nextFrame 111 = .ok (.iconst 0, 1) := by decide +kernel
theorem dX9_nextFrame_112 : decode cX9_nextFrame 112 = .ok (.ireturn, 1) := by decide +kernel
theorem dX9_nextFrame_113 : decode cX9_nextFrame 113 = .ok (.aload_n 0, 1) := by decide +kernel
theorem dX9_nextFrame_114 : decode cX9_nextFrame 114 = .ok (.getfield 56, 3) := by decide +kernel
theorem dX9_nextFrame_117 : decode cX9_nextFrame 117 = .ok (.iload_n 1, 1) := by decide +kernel
theorem dX9_nextFrame_118 : decode cX9_nextFrame 118 = .ok (.bipush 7, 2) := by decide +kernel
theorem dX9_nextFrame_120 : decode cX9_nextFrame 120 = .ok (.iadd, 1) := by decide +kernel
theorem dX9_nextFrame_121 : decode cX9_nextFrame 121 = .ok (.iload 4, 2) := by decide +kernel
theorem dX9_nextFrame_123 : decode cX9_nextFrame 123 = .ok (.iadd, 1) := by decide +kernel
theorem dX9_nextFrame_124 : decode cX9_nextFrame 124 = .ok (.iload 5, 2) := by decide +kernel
theorem dX9_nextFrame_126 : decode cX9_nextFrame 126 = .ok (.ifCond .le 16, 3) := by decide +kernel
theorem dX9_nextFrame_129 : decode cX9_nextFrame 129 = .ok (.aload_n 0, 1) := by decide +kernel
theorem dX9_nextFrame_130 : decode cX9_nextFrame 130 = .ok (.getfield 50, 3) := by decide +kernel
theorem dX9_nextFrame_133 : decode cX9_nextFrame 133 = .ok (.lload_n 2, 1) := by decide +kernel
theorem dX9_nextFrame_134 : decode cX9_nextFrame 134 = .ok (.l2i, 1) := by decide +kernel
theorem dX9_nextFrame_135 : decode cX9_nextFrame 135 = .ok (.iload 5, 2) := by decide +kernel
theorem dX9_nextFrame_137 : decode cX9_nextFrame 137 = .ok (.isub, 1) := by decide +kernel
theorem dX9_nextFrame_138 : decode cX9_nextFrame 138 = .ok (.iaload, 1) := by decide +kernel
theorem dX9_nextFrame_139 : decode cX9_nextFrame 139 = .ok (.goto 14, 3) := by decide +kernel
theorem dX9_nextFrame_142 : decode cX9_nextFrame 142 = .ok (.aload_n 0, 1) := by decide +kernel
theorem dX9_nextFrame_143 : decode cX9_nextFrame 143 = .ok (.getfield 56, 3) := by decide +kernel
theorem dX9_nextFrame_146 : decode cX9_nextFrame 146 = .ok (.iload_n 1, 1) := by decide +kernel
theorem dX9_nextFrame_147 : decode cX9_nextFrame 147 = .ok (.iconst 2, 1) := by decide +kernel
theorem dX9_nextFrame_148 : decode cX9_nextFrame 148 = .ok (.iadd, 1) := by decide +kernel
theorem dX9_nextFrame_149 : decode cX9_nextFrame 149 = .ok (.iload 4, 2) := by decide +kernel
theorem dX9_nextFrame_151 : decode cX9_nextFrame 151 = .ok (.iadd, 1) := by decide +kernel
theorem dX9_nextFrame_152 : decode cX9_nextFrame 152 = .ok (.iaload, 1) := by decide +kernel
theorem dX9_nextFrame_153 : decode cX9_nextFrame 153 = .ok (.iastore, 1) := by decide +kernel
theorem dX9_nextFrame_154 : decode cX9_nextFrame 154 = .ok (.iinc 4 1, 3) := by decide +kernel
theorem dX9_nextFrame_157 : decode cX9_nextFrame 157 = .ok (.goto (-79), 3) := by decide +kernel
theorem dX9_nextFrame_160 : decode cX9_nextFrame 160 = .ok (.aload_n 0, 1) := by decide +kernel
theorem dX9_nextFrame_161 : decode cX9_nextFrame 161 = .ok (.getfield 56, 3) := by decide +kernel
theorem dX9_nextFrame_164 : decode cX9_nextFrame 164 = .ok (.iload_n 1, 1) := by decide +kernel
theorem dX9_nextFrame_165 : decode cX9_nextFrame 165 = .ok (.iconst 5, 1) := by decide +kernel
theorem dX9_nextFrame_166 : decode cX9_nextFrame 166 = .ok (.iadd, 1) := by decide +kernel
theorem dX9_nextFrame_167 : decode cX9_nextFrame 167 = .ok (.aload_n 0, 1) := by decide +kernel
theorem dX9_nextFrame_168 : decode cX9_nextFrame 168 = .ok (.getfield 50, 3) := by decide +kernel
theorem dX9_nextFrame_171 : decode cX9_nextFrame 171 = .ok (.lload_n 2, 1) := by decide +kernel
theorem dX9_nextFrame_172 : decode cX9_nextFrame 172 = .ok (.l2i, 1) := by decide +kernel
theorem dX9_nextFrame_173 : decode cX9_nextFrame 173 = .ok (.iconst 1, 1) := by decide +kernel
theorem dX9_nextFrame_174 : decode cX9_nextFrame 174 = .ok (.isub, 1) := by decide +kernel
theorem dX9_nextFrame_175 : decode cX9_nextFrame 175 = .ok (.iaload, 1) := by decide +kernel
theorem dX9_nextFrame_176 : decode cX9_nextFrame 176 = .ok (.iastore, 1) := by decide +kernel
theorem dX9_nextFrame_177 : decode cX9_nextFrame 177 = .ok (.aload_n 0, 1) := by decide +kernel
theorem dX9_nextFrame_178 : decode cX9_nextFrame 178 = .ok (.getfield 56, 3) := by decide +kernel
theorem dX9_nextFrame_181 : decode cX9_nextFrame 181 = .ok (.iload_n 1, 1) := by decide +kernel
theorem dX9_nextFrame_182 : decode cX9_nextFrame 182 = .ok (.bipush 6, 2) := by decide +kernel
theorem dX9_nextFrame_184 : decode cX9_nextFrame 184 = .ok (.iadd, 1) := by decide +kernel
theorem dX9_nextFrame_185 : decode cX9_nextFrame 185 = .ok (.lload_n 2, 1) := by decide +kernel
theorem dX9_nextFrame_186 : decode cX9_nextFrame 186 = .ok (.l2i, 1) := by decide +kernel
theorem dX9_nextFrame_187 : decode cX9_nextFrame 187 = .ok (.iastore, 1) := by decide +kernel
theorem dX9_nextFrame_188 : decode cX9_nextFrame 188 = .ok (.aload_n 0, 1) := by decide +kernel
theorem dX9_nextFrame_189 : decode cX9_nextFrame 189 = .ok (.dup, 1) := by decide +kernel
theorem dX9_nextFrame_190 : decode cX9_nextFrame 190 = .ok (.getfield 179, 3) := by decide +kernel
theorem dX9_nextFrame_193 : decode cX9_nextFrame 193 = .ok (.iconst 1, 1) := by decide +kernel
theorem dX9_nextFrame_194 : decode cX9_nextFrame 194 = .ok (.iadd, 1) := by decide +kernel
theorem dX9_nextFrame_195 : decode cX9_nextFrame 195 = .ok (.putfield 179, 3) := by decide +kernel
theorem dX9_nextFrame_198 : decode cX9_nextFrame 198 = .ok (.iconst 1, 1) := by decide +kernel
theorem dX9_nextFrame_199 : decode cX9_nextFrame 199 = .ok (.ireturn, 1) := by decide +kernel
theorem dX9_unwind_0 : decode cX9_unwind 0 = .ok (.aload_n 0, 1) := by decide +kernel
theorem dX9_unwind_1 : decode cX9_unwind 1 = .ok (.iconst 0, 1) := by decide +kernel
theorem dX9_unwind_2 : decode cX9_unwind 2 = .ok (.putfield 59, 3) := by decide +kernel
theorem dX9_unwind_5 : decode cX9_unwind 5 = .ok (.aload_n 0, 1) := by decide +kernel
theorem dX9_unwind_6 : decode cX9_unwind 6 = .ok (.iconst 0, 1) := by decide +kernel
theorem dX9_unwind_7 : decode cX9_unwind 7 = .ok (.putfield 179, 3) := by decide +kernel
theorem dX9_unwind_10 : decode cX9_unwind 10 = .ok (.aload_n 0, 1) := by decide +kernel
theorem dX9_unwind_11 : decode cX9_unwind 11 = .ok (.getfield 63, 3) := by decide +kernel
theorem dX9_unwind_14 : decode cX9_unwind 14 = .ok (.ifCond .ne 5, 3) := by decide +kernel
theorem dX9_unwind_17 : decode cX9_unwind 17 = .ok (.iconst (-1), 1) := by decide +kernel
theorem dX9_unwind_18 : decode cX9_unwind 18 = .ok (.ireturn, 1) := by decide +kernel
theorem dX9_unwind_19 : decode cX9_unwind 19 = .ok (.aload_n 0, 1) := by decide +kernel
theorem dX9_unwind_20 : decode cX9_unwind 20 = .ok (.getfield 56, 3) := by decide +kernel
theorem dX9_unwind_23 : decode cX9_unwind 23 = .ok (.iconst 0, 1) := by decide +kernel
theorem dX9_unwind_24 : decode cX9_unwind 24 = .ok (.aload_n 0, 1) := by decide +kernel
theorem dX9_unwind_25 : decode cX9_unwind 25 = .ok (.getfield 67, 3) := by decide +kernel
theorem dX9_unwind_28 : decode cX9_unwind 28 = .ok (.iastore, 1) := by decide +kernel
theorem dX9_unwind_29 : decode cX9_unwind 29 = .ok (.aload_n 0, 1) := by decide +kernel
theorem dX9_unwind_30 : decode cX9_unwind 30 = .ok (.getfield 56, 3) := by decide +kernel
theorem dX9_unwind_33 : decode cX9_unwind 33 = .ok (.iconst 1, 1) := by decide +kernel
theorem dX9_unwind_34 : decode cX9_unwind 34 = .ok (.aload_n 0, 1) := by decide +kernel
theorem dX9_unwind_35 : decode cX9_unwind 35 = .ok (.getfield 163, 3) := by decide +kernel
theorem dX9_unwind_38 : decode cX9_unwind 38 = .ok (.iastore, 1) := by decide +kernel
theorem dX9_unwind_39 : decode cX9_unwind 39 = .ok (.iconst 0, 1) := by decide +kernel
theorem dX9_unwind_40 : decode cX9_unwind 40 = .ok (.istore_n 1, 1) := by decide +kernel
theorem dX9_unwind_41 : decode cX9_unwind 41 = .ok (.iload_n 1, 1) := by decide +kernel
theorem dX9_unwind_42 : decode cX9_unwind 42 = .ok (.iconst 3, 1) := by decide +kernel
theorem dX9_unwind_43 : decode cX9_unwind 43 = .ok (.if_icmp .ge 23, 3) := by decide +kernel
theorem dX9_unwind_46 : decode cX9_unwind 46 = .ok (.aload_n 0, 1) := by decide +kernel
theorem dX9_unwind_47 : decode cX9_unwind 47 = .ok (.getfield 56, 3) := by decide +kernel
theorem dX9_unwind_50 : decode cX9_unwind 50 = .ok (.iconst 2, 1) := by decide +kernel
theorem dX9_unwind_51 : decode cX9_unwind 51 = .ok (.iload_n 1, 1) := by decide +kernel
theorem dX9_unwind_52 : decode cX9_unwind 52 = .ok (.iadd, 1) := by decide +kernel
theorem dX9_unwind_53 : decode cX9_unwind 53 = .ok (.aload_n 0, 1) := by decide +kernel
theorem dX9_unwind_54 : decode cX9_unwind 54 = .ok (.getfield 47, 3) := by decide +kernel
theorem dX9_unwind_57 : decode cX9_unwind 57 = .ok (.iload_n 1, 1) := by decide +kernel
theorem dX9_unwind_58 : decode cX9_unwind 58 = .ok (.iaload, 1) := by decide +kernel
theorem dX9_unwind_59 : decode cX9_unwind 59 = .ok (.iastore, 1) := by decide +kernel
theorem dX9_unwind_60 : decode cX9_unwind 60 = .ok (.iinc 1 1, 3) := by decide +kernel
theorem dX9_unwind_63 : decode cX9_unwind 63 = .ok (.goto (-22), 3) := by decide +kernel
theorem dX9_unwind_66 : decode cX9_unwind 66 = .ok (.aload_n 0, 1) := by decide +kernel
theorem dX9_unwind_67 : decode cX9_unwind 67 = .ok (.iconst 1, 1) := by decide +kernel
theorem dX9_unwind_68 : decode cX9_unwind 68 = .ok (.putfield 179, 3) := by decide +kernel
theorem dX9_unwind_71 : decode cX9_unwind 71 = .ok (.iconst 1, 1) := by decide +kernel
theorem dX9_unwind_72 : decode cX9_unwind 72 = .ok (.istore_n 1, 1) := by decide +kernel
theorem dX9_unwind_73 : decode cX9_unwind 73 = .ok (.iload_n 1, 1) := by decide +kernel
theorem dX9_unwind_74 : decode cX9_unwind 74 = .ok (.ifCond .eq 47, 3) := by decide +kernel
theorem dX9_unwind_77 : decode cX9_unwind 77 = .ok (.aload_n 0, 1) := by decide +kernel
theorem dX9_unwind_78 : decode cX9_unwind 78 = .ok (.getfield 56, 3) := by decide +kernel
theorem dX9_unwind_81 : decode cX9_unwind 81 = .ok (.iconst 5, 1) := by decide +kernel
theorem dX9_unwind_82 : decode cX9_unwind 82 = .ok (.aload_n 0, 1) := by decide +kernel
theorem dX9_unwind_83 : decode cX9_unwind 83 = .ok (.getfield 179, 3) := by decide +kernel
theorem dX9_unwind_86 : decode cX9_unwind 86 = .ok (.imul, 1) := by decide +kernel
theorem dX9_unwind_87 : decode cX9_unwind 87 = .ok (.iconst 5, 1) := by decide +kernel
theorem dX9_unwind_88 : decode cX9_unwind 88 = .ok (.isub, 1) := by decide +kernel
theorem dX9_unwind_89 : decode cX9_unwind 89 = .ok (.iaload, 1) := by decide +kernel
theorem dX9_unwind_90 : decode cX9_unwind 90 = .ok (.sipush 255, 3) := by decide +kernel
theorem dX9_unwind_93 : decode cX9_unwind 93 = .ok (.if_icmp .eq 28, 3) := by decide +kernel
theorem dX9_unwind_96 : decode cX9_unwind 96 = .ok (.aload_n 0, 1) := by decide +kernel
theorem dX9_unwind_97 : decode cX9_unwind 97 = .ok (.getfield 179, 3) := by decide +kernel
theorem dX9_unwind_100 : decode cX9_unwind 100 = .ok (.bipush 20, 2) := by decide +kernel
theorem dX9_unwind_102 : decode cX9_unwind 102 = .ok (.if_icmp .ge 14, 3) := by decide +kernel
theorem dX9_unwind_105 : decode cX9_unwind 105 = .ok (.aload_n 0, 1) := by decide +kernel
theorem dX9_unwind_106 : decode cX9_unwind 106 = .ok (.invokevirtual 182, 3) := by decide +kernel
theorem dX9_unwind_109 : decode cX9_unwind 109 = .ok (.ifCond .eq 7, 3) := by decide +kernel
theorem dX9_unwind_112 : decode cX9_unwind 112 = .ok (.iconst 1, 1) := by decide +kernel
theorem dX9_unwind_113 : decode cX9_unwind 113 = .ok (.goto 4, 3) := by decide +kernel
theorem dX9_unwind_116 : decode cX9_unwind 116 = .ok (.iconst 0, 1) := by decide +kernel
theorem dX9_unwind_117 : decode cX9_unwind 117 = .ok (.istore_n 1, 1) := by decide +kernel
theorem dX9_unwind_118 : decode cX9_unwind 118 = .ok (.goto (-45), 3) := by decide +kernel
theorem dX9_unwind_121 : decode cX9_unwind 121 = .ok (.aload_n 0, 1) := by decide +kernel
theorem dX9_unwind_122 : decode cX9_unwind 122 = .ok (.iload_n 1, 1) := by decide +kernel
theorem dX9_unwind_123 : decode cX9_unwind 123 = .ok (.ifCond .eq 10, 3) := by decide +kernel
theorem dX9_unwind_126 : decode cX9_unwind 126 = .ok (.aload_n 0, 1) := by decide +kernel
theorem dX9_unwind_127 : decode cX9_unwind 127 = .ok (.getfield 179, 3) := by decide +kernel
theorem dX9_unwind_130 : decode cX9_unwind 130 = .ok (.goto 4, 3) := by decide +kernel
theorem dX9_unwind_133 : decode cX9_unwind 133 = .ok (.iconst 0, 1) := by decide +kernel
theorem dX9_unwind_134 : decode cX9_unwind 134 = .ok (.putfield 179, 3) := by decide +kernel
theorem dX9_unwind_137 : decode cX9_unwind 137 = .ok (.iload_n 1, 1) := by decide +kernel
theorem dX9_unwind_138 : decode cX9_unwind 138 = .ok (.ifCond .eq 10, 3) := by decide +kernel
theorem dX9_unwind_141 : decode cX9_unwind 141 = .ok (.aload_n 0, 1) := by decide +kernel
theorem dX9_unwind_142 : decode cX9_unwind 142 = .ok (.getfield 179, 3) := by decide +kernel
theorem dX9_unwind_145 : decode cX9_unwind 145 = .ok (.goto 4, 3) := by decide +kernel
theorem dX9_unwind_148 : decode cX9_unwind 148 = .ok (.iconst (-1), 1) := by decide +kernel
theorem dX9_unwind_149 : decode cX9_unwind 149 = .ok (.ireturn, 1) := by decide +kernel
theorem dX9_frame_0 : decode cX9_frame 0 = .ok (.aload_n 0, 1) := by decide +kernel
theorem dX9_frame_1 : decode cX9_frame 1 = .ok (.iconst 0, 1) := by decide +kernel
theorem dX9_frame_2 : decode cX9_frame 2 = .ok (.putfield 59, 3) := by decide +kernel
theorem dX9_frame_5 : decode cX9_frame 5 = .ok (.iload_n 1, 1) := by decide +kernel
theorem dX9_frame_6 : decode cX9_frame 6 = .ok (.ifCond .lt 20, 3) := by decide +kernel
theorem dX9_frame_9 : decode cX9_frame 9 = .ok (.iload_n 1, 1) := by decide +kernel
theorem dX9_frame_10 : decode cX9_frame 10 = .ok (.aload_n 0, 1) := by decide +kernel
theorem dX9_frame_11 : decode cX9_frame 11 = .ok (.getfield 179, 3) := by decide +kernel
theorem dX9_frame_14 : decode cX9_frame 14 = .ok (.if_icmp .ge 12, 3) := by decide +kernel
theorem dX9_frame_17 : decode cX9_frame 17 = .ok (.iload_n 2, 1) := by decide +kernel
theorem dX9_frame_18 : decode cX9_frame 18 = .ok (.ifCond .lt 8, 3) := by decide +kernel
theorem dX9_frame_21 : decode cX9_frame 21 = .ok (.iload_n 2, 1) := by decide +kernel
theorem dX9_frame_22 : decode cX9_frame 22 = .ok (.iconst 4, 1) := by decide +kernel
theorem dX9_frame_23 : decode cX9_frame 23 = .ok (.if_icmp .le 7, 3) := by decide +kernel
theorem dX9_frame_26 : decode cX9_frame 26 = .ok (.iconst (-1), 1) := by decide +kernel
theorem dX9_frame_27 : decode cX9_frame 27 = .ok (.goto 13, 3) := by decide +kernel
theorem dX9_frame_30 : decode cX9_frame 30 = .ok (.aload_n 0, 1) := by decide +kernel
theorem dX9_frame_31 : decode cX9_frame 31 = .ok (.getfield 56, 3) := by decide +kernel
theorem dX9_frame_34 : decode cX9_frame 34 = .ok (.iconst 5, 1) := by decide +kernel
theorem dX9_frame_35 : decode cX9_frame 35 = .ok (.iload_n 1, 1) := by decide +kernel
theorem dX9_frame_36 : decode cX9_frame 36 = .ok (.imul, 1) := by decide +kernel
theorem dX9_frame_37 : decode cX9_frame 37 = .ok (.iload_n 2, 1) := by decide +kernel
theorem dX9_frame_38 : decode cX9_frame 38 = .ok (.iadd, 1) := by decide +kernel
theorem dX9_frame_39 : decode cX9_frame 39 = .ok (.iaload, 1) := by decide +kernel
theorem dX9_frame_40 : decode cX9_frame 40 = .ok (.ireturn, 1) := by decide +kernel
theorem dL_row_0 : decode cL_row 0 = .ok (.aload_n 3, 1) := by decide +kernel
theorem dL_row_1 : decode cL_row 1 = .ok (.iconst 0, 1) := by decide +kernel
theorem dL_row_2 : decode cL_row 2 = .ok (.aload_n 0, 1) := by decide +kernel
theorem dL_row_3 : decode cL_row 3 = .ok (.iload_n 1, 1) := by decide +kernel
theorem dL_row_4 : decode cL_row 4 = .ok (.iload_n 2, 1) := by decide +kernel
theorem dL_row_5 : decode cL_row 5 = .ok (.invokevirtual 7, 3) := by decide +kernel
theorem dL_row_8 : decode cL_row 8 = .ok (.i2l, 1) := by decide +kernel
theorem dL_row_9 : decode cL_row 9 = .ok (.lastore, 1) := by decide +kernel
theorem dL_row_10 : decode cL_row 10 = .ok (.goto 7, 3) := by decide +kernel
theorem dL_row_13 : decode cL_row 13 = .ok (.astore 4, 2) := by decide +kernel
theorem dL_row_15 : decode cL_row 15 = .ok (.iconst 1, 1) := by decide +kernel
theorem dL_row_16 : decode cL_row 16 = .ok (.ireturn, 1) := by decide +kernel
theorem dL_row_17 : decode cL_row 17 = .ok (.iconst 0, 1) := by decide +kernel
theorem dL_row_18 : decode cL_row 18 = .ok (.ireturn, 1) := by decide +kernel
theorem dL_step_0 : decode cL_step 0 = .ok (.aload_n 1, 1) := by decide +kernel
theorem dL_step_1 : decode cL_step 1 = .ok (.iconst 0, 1) := by decide +kernel
theorem dL_step_2 : decode cL_step 2 = .ok (.aload_n 0, 1) := by decide +kernel
theorem dL_step_3 : decode cL_step 3 = .ok (.invokevirtual 15, 3) := by decide +kernel
theorem dL_step_6 : decode cL_step 6 = .ok (.i2l, 1) := by decide +kernel
theorem dL_step_7 : decode cL_step 7 = .ok (.lastore, 1) := by decide +kernel
theorem dL_step_8 : decode cL_step 8 = .ok (.goto 9, 3) := by decide +kernel
theorem dL_step_11 : decode cL_step 11 = .ok (.astore_n 2, 1) := by decide +kernel
theorem dL_step_12 : decode cL_step 12 = .ok (.iconst 1, 1) := by decide +kernel
theorem dL_step_13 : decode cL_step 13 = .ok (.ireturn, 1) := by decide +kernel
theorem dL_step_14 : decode cL_step 14 = .ok (.astore_n 2, 1) := by decide +kernel
theorem dL_step_15 : decode cL_step 15 = .ok (.iconst 2, 1) := by decide +kernel
theorem dL_step_16 : decode cL_step 16 = .ok (.ireturn, 1) := by decide +kernel
theorem dL_step_17 : decode cL_step 17 = .ok (.iconst 0, 1) := by decide +kernel
theorem dL_step_18 : decode cL_step 18 = .ok (.ireturn, 1) := by decide +kernel
theorem dL_law_0 : decode cL_law 0 = .ok (.new 8, 3) := by decide +kernel
theorem dL_law_3 : decode cL_law 3 = .ok (.dup, 1) := by decide +kernel
theorem dL_law_4 : decode cL_law 4 = .ok (.invokespecial 23, 3) := by decide +kernel
theorem dL_law_7 : decode cL_law 7 = .ok (.astore_n 1, 1) := by decide +kernel
theorem dL_law_8 : decode cL_law 8 = .ok (.new 24, 3) := by decide +kernel
theorem dL_law_11 : decode cL_law 11 = .ok (.dup, 1) := by decide +kernel
theorem dL_law_12 : decode cL_law 12 = .ok (.invokespecial 26, 3) := by decide +kernel
theorem dL_law_15 : decode cL_law 15 = .ok (.astore_n 2, 1) := by decide +kernel
theorem dL_law_16 : decode cL_law 16 = .ok (.iconst 1, 1) := by decide +kernel
theorem dL_law_17 : decode cL_law 17 = .ok (.newarray .long, 2) := by decide +kernel
theorem dL_law_19 : decode cL_law 19 = .ok (.astore_n 3, 1) := by decide +kernel
theorem dL_law_20 : decode cL_law 20 = .ok (.iconst 0, 1) := by decide +kernel
theorem dL_law_21 : decode cL_law 21 = .ok (.istore 4, 2) := by decide +kernel
theorem dL_law_23 : decode cL_law 23 = .ok (.iload 4, 2) := by decide +kernel
theorem dL_law_25 : decode cL_law 25 = .ok (.aload_n 0, 1) := by decide +kernel
theorem dL_law_26 : decode cL_law 26 = .ok (.arraylength, 1) := by decide +kernel
theorem dL_law_27 : decode cL_law 27 = .ok (.iconst 5, 1) := by decide +kernel
theorem dL_law_28 : decode cL_law 28 = .ok (.isub, 1) := by decide +kernel
theorem dL_law_29 : decode cL_law 29 = .ok (.if_icmp .gt 548, 3) := by decide +kernel
theorem dL_law_32 : decode cL_law 32 = .ok (.aload_n 0, 1) := by decide +kernel
theorem dL_law_33 : decode cL_law 33 = .ok (.iload 4, 2) := by decide +kernel
theorem dL_law_35 : decode cL_law 35 = .ok (.iaload, 1) := by decide +kernel
theorem dL_law_36 : decode cL_law 36 = .ok (.bipush 15, 2) := by decide +kernel
theorem dL_law_38 : decode cL_law 38 = .ok (.iand, 1) := by decide +kernel
theorem dL_law_39 : decode cL_law 39 = .ok (.tableswitch 532 0 12 #[65, 134, 171, 184, 197, 222, 259, 327, 388, 432, 457, 482, 495], 65) := by decide +kernel
theorem dL_law_104 : decode cL_law 104 = .ok (.aload_n 1, 1) := by decide +kernel
theorem dL_law_105 : decode cL_law 105 = .ok (.aload_n 0, 1) := by decide +kernel
theorem dL_law_106 : decode cL_law 106 = .ok (.iload 4, 2) := by decide +kernel
theorem dL_law_108 : decode cL_law 108 = .ok (.iconst 1, 1) := by decide +kernel
theorem dL_law_109 : decode cL_law 109 = .ok (.iadd, 1) := by decide +kernel
theorem dL_law_110 : decode cL_law 110 = .ok (.iaload, 1) := by decide +kernel
theorem dL_law_111 : decode cL_law 111 = .ok (.i2l, 1) := by decide +kernel
theorem dL_law_112 : decode cL_law 112 = .ok (.bipush 32, 2) := by decide +kernel
theorem dL_law_114 : decode cL_law 114 = .ok (.lshl, 1) := by decide +kernel
theorem dL_law_115 : decode cL_law 115 = .ok (.aload_n 0, 1) := by decide +kernel
theorem dL_law_116 : decode cL_law 116 = .ok (.iload 4, 2) := by decide +kernel
theorem dL_law_118 : decode cL_law 118 = .ok (.iconst 2, 1) := by decide +kernel
theorem dL_law_119 : decode cL_law 119 = .ok (.iadd, 1) := by decide +kernel
theorem dL_law_120 : decode cL_law 120 = .ok (.iaload, 1) := by decide +kernel
theorem dL_law_121 : decode cL_law 121 = .ok (.i2l, 1) := by decide +kernel
theorem dL_law_122 : decode cL_law 122 = .ok (.ldc2_w 27, 3) := by decide +kernel
theorem dL_law_125 : decode cL_law 125 = .ok (.land, 1) := by decide +kernel
theorem dL_law_126 : decode cL_law 126 = .ok (.lor, 1) := by decide +kernel
theorem dL_law_127 : decode cL_law 127 = .ok (.aload_n 0, 1) := by decide +kernel
theorem dL_law_128 : decode cL_law 128 = .ok (.iload 4, 2) := by decide +kernel
theorem dL_law_130 : decode cL_law 130 = .ok (.iconst 3, 1) := by decide +kernel
theorem dL_law_131 : decode cL_law 131 = .ok (.iadd, 1) := by decide +kernel
theorem dL_law_132 : decode cL_law 132 = .ok (.iaload, 1) := by decide +kernel
theorem dL_law_133 : decode cL_law 133 = .ok (.invokevirtual 29, 3) := by decide +kernel
theorem dL_law_136 : decode cL_law 136 = .ok (.aload_n 2, 1) := by decide +kernel
theorem dL_law_137 : decode cL_law 137 = .ok (.aload_n 0, 1) := by decide +kernel
theorem dL_law_138 : decode cL_law 138 = .ok (.iload 4, 2) := by decide +kernel
theorem dL_law_140 : decode cL_law 140 = .ok (.iconst 1, 1) := by decide +kernel
theorem dL_law_141 : decode cL_law 141 = .ok (.iadd, 1) := by decide +kernel
theorem dL_law_142 : decode cL_law 142 = .ok (.iaload, 1) := by decide +kernel
theorem dL_law_143 : decode cL_law 143 = .ok (.i2l, 1) := by decide +kernel
theorem dL_law_144 : decode cL_law 144 = .ok (.bipush 32, 2) := by decide +kernel
theorem dL_law_146 : decode cL_law 146 = .ok (.lshl, 1) := by decide +kernel
theorem dL_law_147 : decode cL_law 147 = .ok (.aload_n 0, 1) := by decide +kernel
theorem dL_law_148 : decode cL_law 148 = .ok (.iload 4, 2) := by decide +kernel
theorem dL_law_150 : decode cL_law 150 = .ok (.iconst 2, 1) := by decide +kernel
theorem dL_law_151 : decode cL_law 151 = .ok (.iadd, 1) := by decide +kernel
theorem dL_law_152 : decode cL_law 152 = .ok (.iaload, 1) := by decide +kernel
theorem dL_law_153 : decode cL_law 153 = .ok (.i2l, 1) := by decide +kernel
theorem dL_law_154 : decode cL_law 154 = .ok (.ldc2_w 27, 3) := by decide +kernel
theorem dL_law_157 : decode cL_law 157 = .ok (.land, 1) := by decide +kernel
theorem dL_law_158 : decode cL_law 158 = .ok (.lor, 1) := by decide +kernel
theorem dL_law_159 : decode cL_law 159 = .ok (.aload_n 0, 1) := by decide +kernel
theorem dL_law_160 : decode cL_law 160 = .ok (.iload 4, 2) := by decide +kernel
theorem dL_law_162 : decode cL_law 162 = .ok (.iconst 3, 1) := by decide +kernel
theorem dL_law_163 : decode cL_law 163 = .ok (.iadd, 1) := by decide +kernel
theorem dL_law_164 : decode cL_law 164 = .ok (.iaload, 1) := by decide +kernel
theorem dL_law_165 : decode cL_law 165 = .ok (.invokevirtual 33, 3) := by decide +kernel
theorem dL_law_168 : decode cL_law 168 = .ok (.if_icmp .eq 403, 3) := by decide +kernel
theorem dL_law_171 : decode cL_law 171 = .ok (.iconst 0, 1) := by decide +kernel
theorem dL_law_172 : decode cL_law 172 = .ok (.ireturn, 1) := by decide +kernel
theorem dL_law_173 : decode cL_law 173 = .ok (.aload_n 1, 1) := by decide +kernel
theorem dL_law_174 : decode cL_law 174 = .ok (.aload_n 0, 1) := by decide +kernel
theorem dL_law_175 : decode cL_law 175 = .ok (.iload 4, 2) := by decide +kernel
theorem dL_law_177 : decode cL_law 177 = .ok (.iconst 1, 1) := by decide +kernel
theorem dL_law_178 : decode cL_law 178 = .ok (.iadd, 1) := by decide +kernel
theorem dL_law_179 : decode cL_law 179 = .ok (.iaload, 1) := by decide +kernel
theorem dL_law_180 : decode cL_law 180 = .ok (.aload_n 0, 1) := by decide +kernel
theorem dL_law_181 : decode cL_law 181 = .ok (.iload 4, 2) := by decide +kernel
theorem dL_law_183 : decode cL_law 183 = .ok (.iconst 2, 1) := by decide +kernel
theorem dL_law_184 : decode cL_law 184 = .ok (.iadd, 1) := by decide +kernel
theorem dL_law_185 : decode cL_law 185 = .ok (.iaload, 1) := by decide +kernel
theorem dL_law_186 : decode cL_law 186 = .ok (.invokevirtual 34, 3) := by decide +kernel
theorem dL_law_189 : decode cL_law 189 = .ok (.aload_n 2, 1) := by decide +kernel
theorem dL_law_190 : decode cL_law 190 = .ok (.aload_n 0, 1) := by decide +kernel
theorem dL_law_191 : decode cL_law 191 = .ok (.iload 4, 2) := by decide +kernel
theorem dL_law_193 : decode cL_law 193 = .ok (.iconst 1, 1) := by decide +kernel
theorem dL_law_194 : decode cL_law 194 = .ok (.iadd, 1) := by decide +kernel
theorem dL_law_195 : decode cL_law 195 = .ok (.iaload, 1) := by decide +kernel
theorem dL_law_196 : decode cL_law 196 = .ok (.aload_n 0, 1) := by decide +kernel
theorem dL_law_197 : decode cL_law 197 = .ok (.iload 4, 2) := by decide +kernel
theorem dL_law_199 : decode cL_law 199 = .ok (.iconst 2, 1) := by decide +kernel
theorem dL_law_200 : decode cL_law 200 = .ok (.iadd, 1) := by decide +kernel
theorem dL_law_201 : decode cL_law 201 = .ok (.iaload, 1) := by decide +kernel
theorem dL_law_202 : decode cL_law 202 = .ok (.invokevirtual 37, 3) := by decide +kernel
theorem dL_law_205 : decode cL_law 205 = .ok (.if_icmp .eq 366, 3) := by decide +kernel
theorem dL_law_208 : decode cL_law 208 = .ok (.iconst 0, 1) := by decide +kernel
theorem dL_law_209 : decode cL_law 209 = .ok (.ireturn, 1) := by decide +kernel
theorem dL_law_210 : decode cL_law 210 = .ok (.aload_n 1, 1) := by decide +kernel
theorem dL_law_211 : decode cL_law 211 = .ok (.invokevirtual 38, 3) := by decide +kernel
theorem dL_law_214 : decode cL_law 214 = .ok (.aload_n 2, 1) := by decide +kernel
theorem dL_law_215 : decode cL_law 215 = .ok (.invokevirtual 41, 3) := by decide +kernel
theorem dL_law_218 : decode cL_law 218 = .ok (.if_icmp .eq 353, 3) := by decide +kernel
theorem dL_law_221 : decode cL_law 221 = .ok (.iconst 0, 1) := by decide +kernel
theorem dL_law_222 : decode cL_law 222 = .ok (.ireturn, 1) := by decide +kernel
theorem dL_law_223 : decode cL_law 223 = .ok (.aload_n 1, 1) := by decide +kernel
theorem dL_law_224 : decode cL_law 224 = .ok (.invokevirtual 42, 3) := by decide +kernel
theorem dL_law_227 : decode cL_law 227 = .ok (.aload_n 2, 1) := by decide +kernel
theorem dL_law_228 : decode cL_law 228 = .ok (.invokevirtual 45, 3) := by decide +kernel
theorem dL_law_231 : decode cL_law 231 = .ok (.if_icmp .eq 340, 3) := by decide +kernel
theorem dL_law_234 : decode cL_law 234 = .ok (.iconst 0, 1) := by decide +kernel
theorem dL_law_235 : decode cL_law 235 = .ok (.ireturn, 1) := by decide +kernel
theorem dL_law_236 : decode cL_law 236 = .ok (.aload_n 1, 1) := by decide +kernel
theorem dL_law_237 : decode cL_law 237 = .ok (.aload_n 0, 1) := by decide +kernel
theorem dL_law_238 : decode cL_law 238 = .ok (.iload 4, 2) := by decide +kernel
theorem dL_law_240 : decode cL_law 240 = .ok (.iconst 1, 1) := by decide +kernel
theorem dL_law_241 : decode cL_law 241 = .ok (.iadd, 1) := by decide +kernel
theorem dL_law_242 : decode cL_law 242 = .ok (.iaload, 1) := by decide +kernel
theorem dL_law_243 : decode cL_law 243 = .ok (.invokevirtual 46, 3) := by decide +kernel
theorem dL_law_246 : decode cL_law 246 = .ok (.aload_n 2, 1) := by decide +kernel
theorem dL_law_247 : decode cL_law 247 = .ok (.aload_n 0, 1) := by decide +kernel
theorem dL_law_248 : decode cL_law 248 = .ok (.iload 4, 2) := by decide +kernel
theorem dL_law_250 : decode cL_law 250 = .ok (.iconst 1, 1) := by decide +kernel
theorem dL_law_251 : decode cL_law 251 = .ok (.iadd, 1) := by decide +kernel
theorem dL_law_252 : decode cL_law 252 = .ok (.iaload, 1) := by decide +kernel
theorem dL_law_253 : decode cL_law 253 = .ok (.invokevirtual 50, 3) := by decide +kernel
theorem dL_law_256 : decode cL_law 256 = .ok (.if_icmp .eq 315, 3) := by decide +kernel
theorem dL_law_259 : decode cL_law 259 = .ok (.iconst 0, 1) := by decide +kernel
theorem dL_law_260 : decode cL_law 260 = .ok (.ireturn, 1) := by decide +kernel
theorem dL_law_261 : decode cL_law 261 = .ok (.aload_n 1, 1) := by decide +kernel
theorem dL_law_262 : decode cL_law 262 = .ok (.aload_n 0, 1) := by decide +kernel
theorem dL_law_263 : decode cL_law 263 = .ok (.iload 4, 2) := by decide +kernel
theorem dL_law_265 : decode cL_law 265 = .ok (.iconst 1, 1) := by decide +kernel
theorem dL_law_266 : decode cL_law 266 = .ok (.iadd, 1) := by decide +kernel
theorem dL_law_267 : decode cL_law 267 = .ok (.iaload, 1) := by decide +kernel
theorem dL_law_268 : decode cL_law 268 = .ok (.aload_n 0, 1) := by decide +kernel
theorem dL_law_269 : decode cL_law 269 = .ok (.iload 4, 2) := by decide +kernel
theorem dL_law_271 : decode cL_law 271 = .ok (.iconst 2, 1) := by decide +kernel
theorem dL_law_272 : decode cL_law 272 = .ok (.iadd, 1) := by decide +kernel
theorem dL_law_273 : decode cL_law 273 = .ok (.iaload, 1) := by decide +kernel
theorem dL_law_274 : decode cL_law 274 = .ok (.invokevirtual 51, 3) := by decide +kernel
theorem dL_law_277 : decode cL_law 277 = .ok (.aload_n 2, 1) := by decide +kernel
theorem dL_law_278 : decode cL_law 278 = .ok (.aload_n 0, 1) := by decide +kernel
theorem dL_law_279 : decode cL_law 279 = .ok (.iload 4, 2) := by decide +kernel
theorem dL_law_281 : decode cL_law 281 = .ok (.iconst 1, 1) := by decide +kernel
theorem dL_law_282 : decode cL_law 282 = .ok (.iadd, 1) := by decide +kernel
theorem dL_law_283 : decode cL_law 283 = .ok (.iaload, 1) := by decide +kernel
theorem dL_law_284 : decode cL_law 284 = .ok (.aload_n 0, 1) := by decide +kernel
theorem dL_law_285 : decode cL_law 285 = .ok (.iload 4, 2) := by decide +kernel
theorem dL_law_287 : decode cL_law 287 = .ok (.iconst 2, 1) := by decide +kernel
theorem dL_law_288 : decode cL_law 288 = .ok (.iadd, 1) := by decide +kernel
theorem dL_law_289 : decode cL_law 289 = .ok (.iaload, 1) := by decide +kernel
theorem dL_law_290 : decode cL_law 290 = .ok (.invokevirtual 55, 3) := by decide +kernel
theorem dL_law_293 : decode cL_law 293 = .ok (.if_icmp .eq 278, 3) := by decide +kernel
theorem dL_law_296 : decode cL_law 296 = .ok (.iconst 0, 1) := by decide +kernel
theorem dL_law_297 : decode cL_law 297 = .ok (.ireturn, 1) := by decide +kernel
theorem dL_law_298 : decode cL_law 298 = .ok (.aload_n 1, 1) := by decide +kernel
theorem dL_law_299 : decode cL_law 299 = .ok (.aload_n 0, 1) := by decide +kernel
theorem dL_law_300 : decode cL_law 300 = .ok (.iload 4, 2) := by decide +kernel
theorem dL_law_302 : decode cL_law 302 = .ok (.iconst 1, 1) := by decide +kernel
theorem dL_law_303 : decode cL_law 303 = .ok (.iadd, 1) := by decide +kernel
theorem dL_law_304 : decode cL_law 304 = .ok (.iaload, 1) := by decide +kernel
theorem dL_law_305 : decode cL_law 305 = .ok (.aload_n 0, 1) := by decide +kernel
theorem dL_law_306 : decode cL_law 306 = .ok (.iload 4, 2) := by decide +kernel
theorem dL_law_308 : decode cL_law 308 = .ok (.iconst 2, 1) := by decide +kernel
theorem dL_law_309 : decode cL_law 309 = .ok (.iadd, 1) := by decide +kernel
theorem dL_law_310 : decode cL_law 310 = .ok (.iaload, 1) := by decide +kernel
theorem dL_law_311 : decode cL_law 311 = .ok (.aload_n 3, 1) := by decide +kernel
theorem dL_law_312 : decode cL_law 312 = .ok (.invokestatic 56, 3) := by decide +kernel
theorem dL_law_315 : decode cL_law 315 = .ok (.istore 5, 2) := by decide +kernel
theorem dL_law_317 : decode cL_law 317 = .ok (.aload_n 2, 1) := by decide +kernel
theorem dL_law_318 : decode cL_law 318 = .ok (.aload_n 0, 1) := by decide +kernel
theorem dL_law_319 : decode cL_law 319 = .ok (.iload 4, 2) := by decide +kernel
theorem dL_law_321 : decode cL_law 321 = .ok (.iconst 1, 1) := by decide +kernel
theorem dL_law_322 : decode cL_law 322 = .ok (.iadd, 1) := by decide +kernel
theorem dL_law_323 : decode cL_law 323 = .ok (.iaload, 1) := by decide +kernel
theorem dL_law_324 : decode cL_law 324 = .ok (.aload_n 0, 1) := by decide +kernel
theorem dL_law_325 : decode cL_law 325 = .ok (.iload 4, 2) := by decide +kernel
theorem dL_law_327 : decode cL_law 327 = .ok (.iconst 2, 1) := by decide +kernel
theorem dL_law_328 : decode cL_law 328 = .ok (.iadd, 1) := by decide +kernel
theorem dL_law_329 : decode cL_law 329 = .ok (.iaload, 1) := by decide +kernel
theorem dL_law_330 : decode cL_law 330 = .ok (.invokevirtual 61, 3) := by decide +kernel
theorem dL_law_333 : decode cL_law 333 = .ok (.istore 6, 2) := by decide +kernel
theorem dL_law_335 : decode cL_law 335 = .ok (.aload_n 2, 1) := by decide +kernel
theorem dL_law_336 : decode cL_law 336 = .ok (.invokevirtual 62, 3) := by decide +kernel
theorem dL_law_339 : decode cL_law 339 = .ok (.iload 5, 2) := by decide +kernel
theorem dL_law_341 : decode cL_law 341 = .ok (.if_icmp .eq 5, 3) := by decide +kernel
theorem dL_law_344 : decode cL_law 344 = .ok (.iconst 0, 1) := by decide +kernel
theorem dL_law_345 : decode cL_law 345 = .ok (.ireturn, 1) := by decide +kernel
theorem dL_law_346 : decode cL_law 346 = .ok (.iload 5, 2) := by decide +kernel
theorem dL_law_348 : decode cL_law 348 = .ok (.ifCond .ne 15, 3) := by decide +kernel
theorem dL_law_351 : decode cL_law 351 = .ok (.aload_n 3, 1) := by decide +kernel
theorem dL_law_352 : decode cL_law 352 = .ok (.iconst 0, 1) := by decide +kernel
theorem dL_law_353 : decode cL_law 353 = .ok (.laload, 1) := by decide +kernel
theorem dL_law_354 : decode cL_law 354 = .ok (.iload 6, 2) := by decide +kernel
theorem dL_law_356 : decode cL_law 356 = .ok (.i2l, 1) := by decide +kernel
theorem dL_law_357 : decode cL_law 357 = .ok (.lcmp, 1) := by decide +kernel
theorem dL_law_358 : decode cL_law 358 = .ok (.ifCond .eq 5, 3) := by decide +kernel
theorem dL_law_361 : decode cL_law 361 = .ok (.iconst 0, 1) := by decide +kernel
theorem dL_law_362 : decode cL_law 362 = .ok (.ireturn, 1) := by decide +kernel
theorem dL_law_363 : decode cL_law 363 = .ok (.goto 208, 3) := by decide +kernel
theorem dL_law_366 : decode cL_law 366 = .ok (.aload_n 1, 1) := by decide +kernel
theorem dL_law_367 : decode cL_law 367 = .ok (.aload_n 0, 1) := by decide +kernel
theorem dL_law_368 : decode cL_law 368 = .ok (.iload 4, 2) := by decide +kernel
theorem dL_law_370 : decode cL_law 370 = .ok (.iconst 1, 1) := by decide +kernel
theorem dL_law_371 : decode cL_law 371 = .ok (.iadd, 1) := by decide +kernel
theorem dL_law_372 : decode cL_law 372 = .ok (.iaload, 1) := by decide +kernel
theorem dL_law_373 : decode cL_law 373 = .ok (.aload_n 0, 1) := by decide +kernel
theorem dL_law_374 : decode cL_law 374 = .ok (.iload 4, 2) := by decide +kernel
theorem dL_law_376 : decode cL_law 376 = .ok (.iconst 2, 1) := by decide +kernel
theorem dL_law_377 : decode cL_law 377 = .ok (.iadd, 1) := by decide +kernel
theorem dL_law_378 : decode cL_law 378 = .ok (.iaload, 1) := by decide +kernel
theorem dL_law_379 : decode cL_law 379 = .ok (.aload_n 0, 1) := by decide +kernel
theorem dL_law_380 : decode cL_law 380 = .ok (.iload 4, 2) := by decide +kernel
theorem dL_law_382 : decode cL_law 382 = .ok (.iconst 3, 1) := by decide +kernel
theorem dL_law_383 : decode cL_law 383 = .ok (.iadd, 1) := by decide +kernel
theorem dL_law_384 : decode cL_law 384 = .ok (.iaload, 1) := by decide +kernel
theorem dL_law_385 : decode cL_law 385 = .ok (.aload_n 0, 1) := by decide +kernel
theorem dL_law_386 : decode cL_law 386 = .ok (.iload 4, 2) := by decide +kernel
theorem dL_law_388 : decode cL_law 388 = .ok (.iconst 4, 1) := by decide +kernel
theorem dL_law_389 : decode cL_law 389 = .ok (.iadd, 1) := by decide +kernel
theorem dL_law_390 : decode cL_law 390 = .ok (.iaload, 1) := by decide +kernel
theorem dL_law_391 : decode cL_law 391 = .ok (.invokevirtual 65, 3) := by decide +kernel
theorem dL_law_394 : decode cL_law 394 = .ok (.aload_n 2, 1) := by decide +kernel
theorem dL_law_395 : decode cL_law 395 = .ok (.aload_n 0, 1) := by decide +kernel
theorem dL_law_396 : decode cL_law 396 = .ok (.iload 4, 2) := by decide +kernel
theorem dL_law_398 : decode cL_law 398 = .ok (.iconst 1, 1) := by decide +kernel
theorem dL_law_399 : decode cL_law 399 = .ok (.iadd, 1) := by decide +kernel
theorem dL_law_400 : decode cL_law 400 = .ok (.iaload, 1) := by decide +kernel
theorem dL_law_401 : decode cL_law 401 = .ok (.aload_n 0, 1) := by decide +kernel
theorem dL_law_402 : decode cL_law 402 = .ok (.iload 4, 2) := by decide +kernel
theorem dL_law_404 : decode cL_law 404 = .ok (.iconst 2, 1) := by decide +kernel
theorem dL_law_405 : decode cL_law 405 = .ok (.iadd, 1) := by decide +kernel
theorem dL_law_406 : decode cL_law 406 = .ok (.iaload, 1) := by decide +kernel
theorem dL_law_407 : decode cL_law 407 = .ok (.aload_n 0, 1) := by decide +kernel
theorem dL_law_408 : decode cL_law 408 = .ok (.iload 4, 2) := by decide +kernel
theorem dL_law_410 : decode cL_law 410 = .ok (.iconst 3, 1) := by decide +kernel
theorem dL_law_411 : decode cL_law 411 = .ok (.iadd, 1) := by decide +kernel
theorem dL_law_412 : decode cL_law 412 = .ok (.iaload, 1) := by decide +kernel
theorem dL_law_413 : decode cL_law 413 = .ok (.aload_n 0, 1) := by decide +kernel
theorem dL_law_414 : decode cL_law 414 = .ok (.iload 4, 2) := by decide +kernel
theorem dL_law_416 : decode cL_law 416 = .ok (.iconst 4, 1) := by decide +kernel
theorem dL_law_417 : decode cL_law 417 = .ok (.iadd, 1) := by decide +kernel
theorem dL_law_418 : decode cL_law 418 = .ok (.iaload, 1) := by decide +kernel
theorem dL_law_419 : decode cL_law 419 = .ok (.invokevirtual 69, 3) := by decide +kernel
theorem dL_law_422 : decode cL_law 422 = .ok (.if_icmp .eq 149, 3) := by decide +kernel
theorem dL_law_425 : decode cL_law 425 = .ok (.iconst 0, 1) := by decide +kernel
theorem dL_law_426 : decode cL_law 426 = .ok (.ireturn, 1) := by decide +kernel
theorem dL_law_427 : decode cL_law 427 = .ok (.aload_n 1, 1) := by decide +kernel
theorem dL_law_428 : decode cL_law 428 = .ok (.aload_n 3, 1) := by decide +kernel
theorem dL_law_429 : decode cL_law 429 = .ok (.invokestatic 70, 3) := by decide +kernel
theorem dL_law_432 : decode cL_law 432 = .ok (.istore 5, 2) := by decide +kernel
theorem dL_law_434 : decode cL_law 434 = .ok (.aload_n 2, 1) := by decide +kernel
theorem dL_law_435 : decode cL_law 435 = .ok (.invokevirtual 73, 3) := by decide +kernel
theorem dL_law_438 : decode cL_law 438 = .ok (.istore 6, 2) := by decide +kernel
theorem dL_law_440 : decode cL_law 440 = .ok (.aload_n 2, 1) := by decide +kernel
theorem dL_law_441 : decode cL_law 441 = .ok (.invokevirtual 62, 3) := by decide +kernel
theorem dL_law_444 : decode cL_law 444 = .ok (.iload 5, 2) := by decide +kernel
theorem dL_law_446 : decode cL_law 446 = .ok (.if_icmp .eq 5, 3) := by decide +kernel
theorem dL_law_449 : decode cL_law 449 = .ok (.iconst 0, 1) := by decide +kernel
theorem dL_law_450 : decode cL_law 450 = .ok (.ireturn, 1) := by decide +kernel
theorem dL_law_451 : decode cL_law 451 = .ok (.iload 5, 2) := by decide +kernel
theorem dL_law_453 : decode cL_law 453 = .ok (.ifCond .ne 15, 3) := by decide +kernel
theorem dL_law_456 : decode cL_law 456 = .ok (.aload_n 3, 1) := by decide +kernel
theorem dL_law_457 : decode cL_law 457 = .ok (.iconst 0, 1) := by decide +kernel
theorem dL_law_458 : decode cL_law 458 = .ok (.laload, 1) := by decide +kernel
theorem dL_law_459 : decode cL_law 459 = .ok (.iload 6, 2) := by decide +kernel
theorem dL_law_461 : decode cL_law 461 = .ok (.i2l, 1) := by decide +kernel
theorem dL_law_462 : decode cL_law 462 = .ok (.lcmp, 1) := by decide +kernel
theorem dL_law_463 : decode cL_law 463 = .ok (.ifCond .eq 5, 3) := by decide +kernel
theorem dL_law_466 : decode cL_law 466 = .ok (.iconst 0, 1) := by decide +kernel
theorem dL_law_467 : decode cL_law 467 = .ok (.ireturn, 1) := by decide +kernel
theorem dL_law_468 : decode cL_law 468 = .ok (.goto 103, 3) := by decide +kernel
theorem dL_law_471 : decode cL_law 471 = .ok (.aload_n 1, 1) := by decide +kernel
theorem dL_law_472 : decode cL_law 472 = .ok (.aload_n 0, 1) := by decide +kernel
theorem dL_law_473 : decode cL_law 473 = .ok (.iload 4, 2) := by decide +kernel
theorem dL_law_475 : decode cL_law 475 = .ok (.iconst 1, 1) := by decide +kernel
theorem dL_law_476 : decode cL_law 476 = .ok (.iadd, 1) := by decide +kernel
theorem dL_law_477 : decode cL_law 477 = .ok (.iaload, 1) := by decide +kernel
theorem dL_law_478 : decode cL_law 478 = .ok (.invokevirtual 74, 3) := by decide +kernel
theorem dL_law_481 : decode cL_law 481 = .ok (.aload_n 2, 1) := by decide +kernel
theorem dL_law_482 : decode cL_law 482 = .ok (.aload_n 0, 1) := by decide +kernel
theorem dL_law_483 : decode cL_law 483 = .ok (.iload 4, 2) := by decide +kernel
theorem dL_law_485 : decode cL_law 485 = .ok (.iconst 1, 1) := by decide +kernel
theorem dL_law_486 : decode cL_law 486 = .ok (.iadd, 1) := by decide +kernel
theorem dL_law_487 : decode cL_law 487 = .ok (.iaload, 1) := by decide +kernel
theorem dL_law_488 : decode cL_law 488 = .ok (.invokevirtual 77, 3) := by decide +kernel
theorem dL_law_491 : decode cL_law 491 = .ok (.if_icmp .eq 80, 3) := by decide +kernel
theorem dL_law_494 : decode cL_law 494 = .ok (.iconst 0, 1) := by decide +kernel
theorem dL_law_495 : decode cL_law 495 = .ok (.ireturn, 1) := by decide +kernel
theorem dL_law_496 : decode cL_law 496 = .ok (.aload_n 1, 1) := by decide +kernel
theorem dL_law_497 : decode cL_law 497 = .ok (.aload_n 0, 1) := by decide +kernel
theorem dL_law_498 : decode cL_law 498 = .ok (.iload 4, 2) := by decide +kernel
theorem dL_law_500 : decode cL_law 500 = .ok (.iconst 1, 1) := by decide +kernel
theorem dL_law_501 : decode cL_law 501 = .ok (.iadd, 1) := by decide +kernel
theorem dL_law_502 : decode cL_law 502 = .ok (.iaload, 1) := by decide +kernel
theorem dL_law_503 : decode cL_law 503 = .ok (.invokevirtual 78, 3) := by decide +kernel
theorem dL_law_506 : decode cL_law 506 = .ok (.aload_n 2, 1) := by decide +kernel
theorem dL_law_507 : decode cL_law 507 = .ok (.aload_n 0, 1) := by decide +kernel
theorem dL_law_508 : decode cL_law 508 = .ok (.iload 4, 2) := by decide +kernel
theorem dL_law_510 : decode cL_law 510 = .ok (.iconst 1, 1) := by decide +kernel
theorem dL_law_511 : decode cL_law 511 = .ok (.iadd, 1) := by decide +kernel
theorem dL_law_512 : decode cL_law 512 = .ok (.iaload, 1) := by decide +kernel
theorem dL_law_513 : decode cL_law 513 = .ok (.invokevirtual 81, 3) := by decide +kernel
theorem dL_law_516 : decode cL_law 516 = .ok (.if_icmp .eq 55, 3) := by decide +kernel
theorem dL_law_519 : decode cL_law 519 = .ok (.iconst 0, 1) := by decide +kernel
theorem dL_law_520 : decode cL_law 520 = .ok (.ireturn, 1) := by decide +kernel
theorem dL_law_521 : decode cL_law 521 = .ok (.aload_n 1, 1) := by decide +kernel
theorem dL_law_522 : decode cL_law 522 = .ok (.invokevirtual 82, 3) := by decide +kernel
theorem dL_law_525 : decode cL_law 525 = .ok (.aload_n 2, 1) := by decide +kernel
theorem dL_law_526 : decode cL_law 526 = .ok (.invokevirtual 85, 3) := by decide +kernel
theorem dL_law_529 : decode cL_law 529 = .ok (.if_icmp .eq 42, 3) := by decide +kernel
theorem dL_law_532 : decode cL_law 532 = .ok (.iconst 0, 1) := by decide +kernel
theorem dL_law_533 : decode cL_law 533 = .ok (.ireturn, 1) := by decide +kernel
theorem dL_law_534 : decode cL_law 534 = .ok (.aload_n 1, 1) := by decide +kernel
theorem dL_law_535 : decode cL_law 535 = .ok (.aload_n 0, 1) := by decide +kernel
theorem dL_law_536 : decode cL_law 536 = .ok (.iload 4, 2) := by decide +kernel
theorem dL_law_538 : decode cL_law 538 = .ok (.iconst 1, 1) := by decide +kernel
theorem dL_law_539 : decode cL_law 539 = .ok (.iadd, 1) := by decide +kernel
theorem dL_law_540 : decode cL_law 540 = .ok (.iaload, 1) := by decide +kernel
theorem dL_law_541 : decode cL_law 541 = .ok (.aload_n 0, 1) := by decide +kernel
theorem dL_law_542 : decode cL_law 542 = .ok (.iload 4, 2) := by decide +kernel
theorem dL_law_544 : decode cL_law 544 = .ok (.iconst 2, 1) := by decide +kernel
theorem dL_law_545 : decode cL_law 545 = .ok (.iadd, 1) := by decide +kernel
theorem dL_law_546 : decode cL_law 546 = .ok (.iaload, 1) := by decide +kernel
theorem dL_law_547 : decode cL_law 547 = .ok (.invokevirtual 86, 3) := by decide +kernel
theorem dL_law_550 : decode cL_law 550 = .ok (.aload_n 2, 1) := by decide +kernel
theorem dL_law_551 : decode cL_law 551 = .ok (.aload_n 0, 1) := by decide +kernel
theorem dL_law_552 : decode cL_law 552 = .ok (.iload 4, 2) := by decide +kernel
theorem dL_law_554 : decode cL_law 554 = .ok (.iconst 1, 1) := by decide +kernel
theorem dL_law_555 : decode cL_law 555 = .ok (.iadd, 1) := by decide +kernel
theorem dL_law_556 : decode cL_law 556 = .ok (.iaload, 1) := by decide +kernel
theorem dL_law_557 : decode cL_law 557 = .ok (.aload_n 0, 1) := by decide +kernel
theorem dL_law_558 : decode cL_law 558 = .ok (.iload 4, 2) := by decide +kernel
theorem dL_law_560 : decode cL_law 560 = .ok (.iconst 2, 1) := by decide +kernel
theorem dL_law_561 : decode cL_law 561 = .ok (.iadd, 1) := by decide +kernel
theorem dL_law_562 : decode cL_law 562 = .ok (.iaload, 1) := by decide +kernel
theorem dL_law_563 : decode cL_law 563 = .ok (.invokevirtual 89, 3) := by decide +kernel
theorem dL_law_566 : decode cL_law 566 = .ok (.if_icmp .eq 5, 3) := by decide +kernel
theorem dL_law_569 : decode cL_law 569 = .ok (.iconst 0, 1) := by decide +kernel
theorem dL_law_570 : decode cL_law 570 = .ok (.ireturn, 1) := by decide +kernel
theorem dL_law_571 : decode cL_law 571 = .ok (.iinc 4 5, 3) := by decide +kernel
theorem dL_law_574 : decode cL_law 574 = .ok (.goto (-551), 3) := by decide +kernel
theorem dL_law_577 : decode cL_law 577 = .ok (.iconst 1, 1) := by decide +kernel
theorem dL_law_578 : decode cL_law 578 = .ok (.ireturn, 1) := by decide +kernel
