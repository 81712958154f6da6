theorem dX0_init_0 : decode cX0_init 0 = .ok (.aload_n 0, 1) := by decide +kernel
theorem dX0_init_1 : decode cX0_init 1 = .ok (.invokespecial 3, 3) := by decide +kernel
theorem dX0_init_4 : decode cX0_init 4 = .ok (.aload_n 0, 1) := by decide +kernel
theorem dX0_init_5 : decode cX0_init 5 = .ok (.bipush 100, 2) := by decide +kernel
theorem dX0_init_7 : decode cX0_init 7 = .ok (.newarray .int, 2) := by decide +kernel
theorem dX0_init_9 : decode cX0_init 9 = .ok (.putfield 11, 3) := by decide +kernel
theorem dX0_init_12 : decode cX0_init 12 = .ok (.aload_n 0, 1) := by decide +kernel
theorem dX0_init_13 : decode cX0_init 13 = .ok (.aload_n 1, 1) := by decide +kernel
theorem dX0_init_14 : decode cX0_init 14 = .ok (.putfield 15, 3) := by decide +kernel
theorem dX0_init_17 : decode cX0_init 17 = .ok (.aload_n 0, 1) := by decide +kernel
theorem dX0_init_18 : decode cX0_init 18 = .ok (.aload_n 2, 1) := by decide +kernel
theorem dX0_init_19 : decode cX0_init 19 = .ok (.putfield 19, 3) := by decide +kernel
theorem dX0_init_22 : decode cX0_init 22 = .ok (.return_, 1) := by decide +kernel
theorem dX0_findFrames_0 : decode cX0_findFrames 0 = .ok (.aload_n 0, 1) := by decide +kernel
theorem dX0_findFrames_1 : decode cX0_findFrames 1 = .ok (.iconst 0, 1) := by decide +kernel
theorem dX0_findFrames_2 : decode cX0_findFrames 2 = .ok (.putfield 23, 3) := by decide +kernel
theorem dX0_findFrames_5 : decode cX0_findFrames 5 = .ok (.aload_n 0, 1) := by decide +kernel
theorem dX0_findFrames_6 : decode cX0_findFrames 6 = .ok (.getfield 15, 3) := by decide +kernel
theorem dX0_findFrames_9 : decode cX0_findFrames 9 = .ok (.getfield 27, 3) := by decide +kernel
theorem dX0_findFrames_12 : decode cX0_findFrames 12 = .ok (.ifCond .ne 5, 3) := by decide +kernel
theorem dX0_findFrames_15 : decode cX0_findFrames 15 = .ok (.iconst (-1), 1) := by decide +kernel
theorem dX0_findFrames_16 : decode cX0_findFrames 16 = .ok (.ireturn, 1) := by decide +kernel
theorem dX0_findFrames_17 : decode cX0_findFrames 17 = .ok (.iconst 0, 1) := by decide +kernel
theorem dX0_findFrames_18 : decode cX0_findFrames 18 = .ok (.istore_n 1, 1) := by decide +kernel
theorem dX0_findFrames_19 : decode cX0_findFrames 19 = .ok (.iload_n 1, 1) := by decide +kernel
theorem dX0_findFrames_20 : decode cX0_findFrames 20 = .ok (.iconst 5, 1) := by decide +kernel
theorem dX0_findFrames_21 : decode cX0_findFrames 21 = .ok (.if_icmp .ge 23, 3) := by decide +kernel
theorem dX0_findFrames_24 : decode cX0_findFrames 24 = .ok (.aload_n 0, 1) := by decide +kernel
theorem dX0_findFrames_25 : decode cX0_findFrames 25 = .ok (.getfield 11, 3) := by decide +kernel
theorem dX0_findFrames_28 : decode cX0_findFrames 28 = .ok (.iload_n 1, 1) := by decide +kernel
theorem dX0_findFrames_29 : decode cX0_findFrames 29 = .ok (.aload_n 0, 1) := by decide +kernel
theorem dX0_findFrames_30 : decode cX0_findFrames 30 = .ok (.getfield 15, 3) := by decide +kernel
theorem dX0_findFrames_33 : decode cX0_findFrames 33 = .ok (.iload_n 1, 1) := by decide +kernel
theorem dX0_findFrames_34 : decode cX0_findFrames 34 = .ok (.invokevirtual 33, 3) := by decide +kernel
theorem dX0_findFrames_37 : decode cX0_findFrames 37 = .ok (.iastore, 1) := by decide +kernel
theorem dX0_findFrames_38 : decode cX0_findFrames 38 = .ok (.iinc 1 1, 3) := by decide +kernel
theorem dX0_findFrames_41 : decode cX0_findFrames 41 = .ok (.goto (-22), 3) := by decide +kernel
theorem dX0_findFrames_44 : decode cX0_findFrames 44 = .ok (.iconst 0, 1) := by decide +kernel
theorem dX0_findFrames_45 : decode cX0_findFrames 45 = .ok (.istore_n 1, 1) := by decide +kernel
theorem dX0_findFrames_46 : decode cX0_findFrames 46 = .ok (.iload_n 1, 1) := by decide +kernel
theorem dX0_findFrames_47 : decode cX0_findFrames 47 = .ok (.bipush 19, 2) := by decide +kernel
theorem dX0_findFrames_49 : decode cX0_findFrames 49 = .ok (.if_icmp .ge 68, 3) := by decide +kernel
theorem dX0_findFrames_52 : decode cX0_findFrames 52 = .ok (.aload_n 0, 1) := by decide +kernel
theorem dX0_findFrames_53 : decode cX0_findFrames 53 = .ok (.getfield 11, 3) := by decide +kernel
theorem dX0_findFrames_56 : decode cX0_findFrames 56 = .ok (.iload_n 1, 1) := by decide +kernel
theorem dX0_findFrames_57 : decode cX0_findFrames 57 = .ok (.iconst 5, 1) := by decide +kernel
theorem dX0_findFrames_58 : decode cX0_findFrames 58 = .ok (.imul, 1) := by decide +kernel
theorem dX0_findFrames_59 : decode cX0_findFrames 59 = .ok (.iaload, 1) := by decide +kernel
theorem dX0_findFrames_60 : decode cX0_findFrames 60 = .ok (.sipush 255, 3) := by decide +kernel
theorem dX0_findFrames_63 : decode cX0_findFrames 63 = .ok (.if_icmp .eq 54, 3) := by decide +kernel
theorem dX0_findFrames_66 : decode cX0_findFrames 66 = .ok (.aload_n 0, 1) := by decide +kernel
theorem dX0_findFrames_67 : decode cX0_findFrames 67 = .ok (.getfield 19, 3) := by decide +kernel
theorem dX0_findFrames_70 : decode cX0_findFrames 70 = .ok (.aload_n 0, 1) := by decide +kernel
theorem dX0_findFrames_71 : decode cX0_findFrames 71 = .ok (.getfield 11, 3) := by decide +kernel
theorem dX0_findFrames_74 : decode cX0_findFrames 74 = .ok (.iload_n 1, 1) := by decide +kernel
theorem dX0_findFrames_75 : decode cX0_findFrames 75 = .ok (.iconst 5, 1) := by decide +kernel
theorem dX0_findFrames_76 : decode cX0_findFrames 76 = .ok (.imul, 1) := by decide +kernel
theorem dX0_findFrames_77 : decode cX0_findFrames 77 = .ok (.iaload, 1) := by decide +kernel
theorem dX0_findFrames_78 : decode cX0_findFrames 78 = .ok (.invokevirtual 37, 3) := by decide +kernel
theorem dX0_findFrames_81 : decode cX0_findFrames 81 = .ok (.ifCond .ne 7, 3) := by decide +kernel
theorem dX0_findFrames_84 : decode cX0_findFrames 84 = .ok (.iconst 1, 1) := by decide +kernel
theorem dX0_findFrames_85 : decode cX0_findFrames 85 = .ok (.goto 4, 3) := by decide +kernel
theorem dX0_findFrames_88 : decode cX0_findFrames 88 = .ok (.iconst 0, 1) := by decide +kernel
theorem dX0_findFrames_89 : decode cX0_findFrames 89 = .ok (.istore_n 2, 1) := by decide +kernel
theorem dX0_findFrames_90 : decode cX0_findFrames 90 = .ok (.iload_n 2, 1) := by decide +kernel
theorem dX0_findFrames_91 : decode cX0_findFrames 91 = .ok (.ifCond .eq 18, 3) := by decide +kernel
theorem dX0_findFrames_94 : decode cX0_findFrames 94 = .ok (.aload_n 0, 1) := by decide +kernel
theorem dX0_findFrames_95 : decode cX0_findFrames 95 = .ok (.iload_n 1, 1) := by decide +kernel
theorem dX0_findFrames_96 : decode cX0_findFrames 96 = .ok (.aload_n 0, 1) := by decide +kernel
theorem dX0_findFrames_97 : decode cX0_findFrames 97 = .ok (.getfield 19, 3) := by decide +kernel
theorem dX0_findFrames_100 : decode cX0_findFrames 100 = .ok (.getfield 42, 3) := by decide +kernel
theorem dX0_findFrames_103 : decode cX0_findFrames 103 = .ok (.invokevirtual 46, 3) := by decide +kernel
theorem dX0_findFrames_106 : decode cX0_findFrames 106 = .ok (.ifCond .ne 5, 3) := by decide +kernel
theorem dX0_findFrames_109 : decode cX0_findFrames 109 = .ok (.iconst (-1), 1) := by decide +kernel
theorem dX0_findFrames_110 : decode cX0_findFrames 110 = .ok (.ireturn, 1) := by decide +kernel
theorem dX0_findFrames_111 : decode cX0_findFrames 111 = .ok (.iinc 1 1, 3) := by decide +kernel
theorem dX0_findFrames_114 : decode cX0_findFrames 114 = .ok (.goto (-68), 3) := by decide +kernel
theorem dX0_findFrames_117 : decode cX0_findFrames 117 = .ok (.aload_n 0, 1) := by decide +kernel
theorem dX0_findFrames_118 : decode cX0_findFrames 118 = .ok (.getfield 11, 3) := by decide +kernel
theorem dX0_findFrames_121 : decode cX0_findFrames 121 = .ok (.iload_n 1, 1) := by decide +kernel
theorem dX0_findFrames_122 : decode cX0_findFrames 122 = .ok (.iconst 5, 1) := by decide +kernel
theorem dX0_findFrames_123 : decode cX0_findFrames 123 = .ok (.imul, 1) := by decide +kernel
theorem dX0_findFrames_124 : decode cX0_findFrames 124 = .ok (.iaload, 1) := by decide +kernel
theorem dX0_findFrames_125 : decode cX0_findFrames 125 = .ok (.sipush 255, 3) := by decide +kernel
theorem dX0_findFrames_128 : decode cX0_findFrames 128 = .ok (.if_icmp .eq 5, 3) := by decide +kernel
theorem dX0_findFrames_131 : decode cX0_findFrames 131 = .ok (.iconst (-1), 1) := by decide +kernel
theorem dX0_findFrames_132 : decode cX0_findFrames 132 = .ok (.ireturn, 1) := by decide +kernel
theorem dX0_findFrames_133 : decode cX0_findFrames 133 = .ok (.aload_n 0, 1) := by decide +kernel
theorem dX0_findFrames_134 : decode cX0_findFrames 134 = .ok (.iload_n 1, 1) := by decide +kernel
theorem dX0_findFrames_135 : decode cX0_findFrames 135 = .ok (.iconst 1, 1) := by decide +kernel
theorem dX0_findFrames_136 : decode cX0_findFrames 136 = .ok (.iadd, 1) := by decide +kernel
theorem dX0_findFrames_137 : decode cX0_findFrames 137 = .ok (.putfield 23, 3) := by decide +kernel
theorem dX0_findFrames_140 : decode cX0_findFrames 140 = .ok (.aload_n 0, 1) := by decide +kernel
theorem dX0_findFrames_141 : decode cX0_findFrames 141 = .ok (.getfield 23, 3) := by decide +kernel
theorem dX0_findFrames_144 : decode cX0_findFrames 144 = .ok (.ireturn, 1) := by decide +kernel
theorem dX0_addBehind_0 : decode cX0_addBehind 0 = .ok (.iload_n 1, 1) := by decide +kernel
theorem dX0_addBehind_1 : decode cX0_addBehind 1 = .ok (.iconst 5, 1) := by decide +kernel
theorem dX0_addBehind_2 : decode cX0_addBehind 2 = .ok (.imul, 1) := by decide +kernel
theorem dX0_addBehind_3 : decode cX0_addBehind 3 = .ok (.istore_n 3, 1) := by decide +kernel
theorem dX0_addBehind_4 : decode cX0_addBehind 4 = .ok (.iload_n 3, 1) := by decide +kernel
theorem dX0_addBehind_5 : decode cX0_addBehind 5 = .ok (.iconst 5, 1) := by decide +kernel
theorem dX0_addBehind_6 : decode cX0_addBehind 6 = .ok (.iadd, 1) := by decide +kernel
theorem dX0_addBehind_7 : decode cX0_addBehind 7 = .ok (.istore 4, 2) := by decide +kernel
theorem dX0_addBehind_9 : decode cX0_addBehind 9 = .ok (.aload_n 2, 1) := by decide +kernel
theorem dX0_addBehind_10 : decode cX0_addBehind 10 = .ok (.getfield 50, 3) := by decide +kernel
theorem dX0_addBehind_13 : decode cX0_addBehind 13 = .ok (.aload_n 2, 1) := by decide +kernel
theorem dX0_addBehind_14 : decode cX0_addBehind 14 = .ok (.getfield 55, 3) := by decide +kernel
theorem dX0_addBehind_17 : decode cX0_addBehind 17 = .ok (.iconst 1, 1) := by decide +kernel
theorem dX0_addBehind_18 : decode cX0_addBehind 18 = .ok (.if_icmp .ne 16, 3) := by decide +kernel
theorem dX0_addBehind_21 : decode cX0_addBehind 21 = .ok (.aload_n 0, 1) := by decide +kernel
theorem dX0_addBehind_22 : decode cX0_addBehind 22 = .ok (.getfield 11, 3) := by decide +kernel
theorem dX0_addBehind_25 : decode cX0_addBehind 25 = .ok (.iload_n 3, 1) := by decide +kernel
theorem dX0_addBehind_26 : decode cX0_addBehind 26 = .ok (.iconst 2, 1) := by decide +kernel
theorem dX0_addBehind_27 : decode cX0_addBehind 27 = .ok (.iadd, 1) := by decide +kernel
theorem dX0_addBehind_28 : decode cX0_addBehind 28 = .ok (.iconst 0, 1) := by decide +kernel
theorem dX0_addBehind_29 : decode cX0_addBehind 29 = .ok (.iadd, 1) := by decide +kernel
theorem dX0_addBehind_30 : decode cX0_addBehind 30 = .ok (.iaload, 1) := by decide +kernel
theorem dX0_addBehind_31 : decode cX0_addBehind 31 = .ok (.goto 11, 3) := by decide +kernel
theorem dX0_addBehind_34 : decode cX0_addBehind 34 = .ok (.aload_n 0, 1) := by decide +kernel
theorem dX0_addBehind_35 : decode cX0_addBehind 35 = .ok (.getfield 11, 3) := by decide +kernel
theorem dX0_addBehind_38 : decode cX0_addBehind 38 = .ok (.iload_n 3, 1) := by decide +kernel
theorem dX0_addBehind_39 : decode cX0_addBehind 39 = .ok (.iconst 1, 1) := by decide +kernel
theorem dX0_addBehind_40 : decode cX0_addBehind 40 = .ok (.iadd, 1) := by decide +kernel
theorem dX0_addBehind_41 : decode cX0_addBehind 41 = .ok (.iaload, 1) := by decide +kernel
theorem dX0_addBehind_42 : decode cX0_addBehind 42 = .ok (.iadd, 1) := by decide +kernel
theorem dX0_addBehind_43 : decode cX0_addBehind 43 = .ok (.istore 5, 2) := by decide +kernel
theorem dX0_addBehind_45 : decode cX0_addBehind 45 = .ok (.aload_n 0, 1) := by decide +kernel
theorem dX0_addBehind_46 : decode cX0_addBehind 46 = .ok (.getfield 15, 3) := by decide +kernel
theorem dX0_addBehind_49 : decode cX0_addBehind 49 = .ok (.iload 5, 2) := by decide +kernel
theorem dX0_addBehind_51 : decode cX0_addBehind 51 = .ok (.iconst 1, 1) := by decide +kernel
theorem dX0_addBehind_52 : decode cX0_addBehind 52 = .ok (.isub, 1) := by decide +kernel
theorem dX0_addBehind_53 : decode cX0_addBehind 53 = .ok (.invokevirtual 58, 3) := by decide +kernel
theorem dX0_addBehind_56 : decode cX0_addBehind 56 = .ok (.ifCond .ne 5, 3) := by decide +kernel
theorem dX0_addBehind_59 : decode cX0_addBehind 59 = .ok (.iconst 0, 1) := by decide +kernel
theorem dX0_addBehind_60 : decode cX0_addBehind 60 = .ok (.ireturn, 1) := by decide +kernel
theorem dX0_addBehind_61 : decode cX0_addBehind 61 = .ok (.aload_n 0, 1) := by decide +kernel
theorem dX0_addBehind_62 : decode cX0_addBehind 62 = .ok (.getfield 11, 3) := by decide +kernel
theorem dX0_addBehind_65 : decode cX0_addBehind 65 = .ok (.iload 4, 2) := by decide +kernel
theorem dX0_addBehind_67 : decode cX0_addBehind 67 = .ok (.aload_n 0, 1) := by decide +kernel
theorem dX0_addBehind_68 : decode cX0_addBehind 68 = .ok (.getfield 15, 3) := by decide +kernel
theorem dX0_addBehind_71 : decode cX0_addBehind 71 = .ok (.iload 5, 2) := by decide +kernel
theorem dX0_addBehind_73 : decode cX0_addBehind 73 = .ok (.iconst 1, 1) := by decide +kernel
theorem dX0_addBehind_74 : decode cX0_addBehind 74 = .ok (.isub, 1) := by decide +kernel
theorem dX0_addBehind_75 : decode cX0_addBehind 75 = .ok (.invokevirtual 62, 3) := by decide +kernel
theorem dX0_addBehind_78 : decode cX0_addBehind 78 = .ok (.iastore, 1) := by decide +kernel
theorem dX0_addBehind_79 : decode cX0_addBehind 79 = .ok (.aload_n 0, 1) := by decide +kernel
theorem dX0_addBehind_80 : decode cX0_addBehind 80 = .ok (.getfield 11, 3) := by decide +kernel
theorem dX0_addBehind_83 : decode cX0_addBehind 83 = .ok (.iload 4, 2) := by decide +kernel
theorem dX0_addBehind_85 : decode cX0_addBehind 85 = .ok (.iconst 1, 1) := by decide +kernel
theorem dX0_addBehind_86 : decode cX0_addBehind 86 = .ok (.iadd, 1) := by decide +kernel
theorem dX0_addBehind_87 : decode cX0_addBehind 87 = .ok (.iload 5, 2) := by decide +kernel
theorem dX0_addBehind_89 : decode cX0_addBehind 89 = .ok (.iastore, 1) := by decide +kernel
theorem dX0_addBehind_90 : decode cX0_addBehind 90 = .ok (.iconst 0, 1) := by decide +kernel
theorem dX0_addBehind_91 : decode cX0_addBehind 91 = .ok (.istore 6, 2) := by decide +kernel
theorem dX0_addBehind_93 : decode cX0_addBehind 93 = .ok (.iload 6, 2) := by decide +kernel
theorem dX0_addBehind_95 : decode cX0_addBehind 95 = .ok (.iconst 3, 1) := by decide +kernel
theorem dX0_addBehind_96 : decode cX0_addBehind 96 = .ok (.if_icmp .ge 83, 3) := by decide +kernel
theorem dX0_addBehind_99 : decode cX0_addBehind 99 = .ok (.aload_n 2, 1) := by decide +kernel
theorem dX0_addBehind_100 : decode cX0_addBehind 100 = .ok (.getfield 65, 3) := by decide +kernel
theorem dX0_addBehind_103 : decode cX0_addBehind 103 = .ok (.iload 6, 2) := by decide +kernel
theorem dX0_addBehind_105 : decode cX0_addBehind 105 = .ok (.iaload, 1) := by decide +kernel
theorem dX0_addBehind_106 : decode cX0_addBehind 106 = .ok (.istore 7, 2) := by decide +kernel
theorem dX0_addBehind_108 : decode cX0_addBehind 108 = .ok (.iload 7, 2) := by decide +kernel
theorem dX0_addBehind_110 : decode cX0_addBehind 110 = .ok (.ifCond .eq 20, 3) := by decide +kernel
theorem dX0_addBehind_113 : decode cX0_addBehind 113 = .ok (.aload_n 0, 1) := by decide +kernel
theorem dX0_addBehind_114 : decode cX0_addBehind 114 = .ok (.getfield 15, 3) := by decide +kernel
theorem dX0_addBehind_117 : decode cX0_addBehind 117 = .ok (.iload 5, 2) := by decide +kernel
theorem dX0_addBehind_119 : decode cX0_addBehind 119 = .ok (.iload 7, 2) := by decide +kernel
theorem dX0_addBehind_121 : decode cX0_addBehind 121 = .ok (.isub, 1) := by decide +kernel
theorem dX0_addBehind_122 : decode cX0_addBehind 122 = .ok (.invokevirtual 58, 3) := by decide +kernel
theorem dX0_addBehind_125 : decode cX0_addBehind 125 = .ok (.ifCond .ne 5, 3) := by decide +kernel
theorem dX0_addBehind_128 : decode cX0_addBehind 128 = .ok (.iconst 0, 1) := by decide +kernel
theorem dX0_addBehind_129 : decode cX0_addBehind 129 = .ok (.ireturn, 1) := by decide +kernel
theorem dX0_addBehind_130 : decode cX0_addBehind 130 = .ok (.aload_n 0, 1) := by decide +kernel
theorem dX0_addBehind_131 : decode cX0_addBehind 131 = .ok (.getfield 11, 3) := by decide +kernel
theorem dX0_addBehind_134 : decode cX0_addBehind 134 = .ok (.iload 4, 2) := by decide +kernel
theorem dX0_addBehind_136 : decode cX0_addBehind 136 = .ok (.iconst 2, 1) := by decide +kernel
theorem dX0_addBehind_137 : decode cX0_addBehind 137 = .ok (.iadd, 1) := by decide +kernel
theorem dX0_addBehind_138 : decode cX0_addBehind 138 = .ok (.iload 6, 2) := by decide +kernel
theorem dX0_addBehind_140 : decode cX0_addBehind 140 = .ok (.iadd, 1) := by decide +kernel
theorem dX0_addBehind_141 : decode cX0_addBehind 141 = .ok (.iload 7, 2) := by decide +kernel
theorem dX0_addBehind_143 : decode cX0_addBehind 143 = .ok (.ifCond .eq 18, 3) := by decide +kernel
theorem dX0_addBehind_146 : decode cX0_addBehind 146 = .ok (.aload_n 0, 1) := by decide +kernel
theorem dX0_addBehind_147 : decode cX0_addBehind 147 = .ok (.getfield 15, 3) := by decide +kernel
theorem dX0_addBehind_150 : decode cX0_addBehind 150 = .ok (.iload 5, 2) := by decide +kernel
theorem dX0_addBehind_152 : decode cX0_addBehind 152 = .ok (.iload 7, 2) := by decide +kernel
theorem dX0_addBehind_154 : decode cX0_addBehind 154 = .ok (.isub, 1) := by decide +kernel
theorem dX0_addBehind_155 : decode cX0_addBehind 155 = .ok (.invokevirtual 62, 3) := by decide +kernel
theorem dX0_addBehind_158 : decode cX0_addBehind 158 = .ok (.goto 14, 3) := by decide +kernel
theorem dX0_addBehind_161 : decode cX0_addBehind 161 = .ok (.aload_n 0, 1) := by decide +kernel
theorem dX0_addBehind_162 : decode cX0_addBehind 162 = .ok (.getfield 11, 3) := by decide +kernel
theorem dX0_addBehind_165 : decode cX0_addBehind 165 = .ok (.iload_n 3, 1) := by decide +kernel
theorem dX0_addBehind_166 : decode cX0_addBehind 166 = .ok (.iconst 2, 1) := by decide +kernel
theorem dX0_addBehind_167 : decode cX0_addBehind 167 = .ok (.iadd, 1) := by decide +kernel
theorem dX0_addBehind_168 : decode cX0_addBehind 168 = .ok (.iload 6, 2) := by decide +kernel
theorem dX0_addBehind_170 : decode cX0_addBehind 170 = .ok (.iadd, 1) := by decide +kernel
theorem dX0_addBehind_171 : decode cX0_addBehind 171 = .ok (.iaload, 1) := by decide +kernel
theorem dX0_addBehind_172 : decode cX0_addBehind 172 = .ok (.iastore, 1) := by decide +kernel
theorem dX0_addBehind_173 : decode cX0_addBehind 173 = .ok (.iinc 6 1, 3) := by decide +kernel
theorem dX0_addBehind_176 : decode cX0_addBehind 176 = .ok (.goto (-83), 3) := by decide +kernel
theorem dX0_addBehind_179 : decode cX0_addBehind 179 = .ok (.iconst 1, 1) := by decide +kernel
theorem dX0_addBehind_180 : decode cX0_addBehind 180 = .ok (.ireturn, 1) := by decide +kernel
theorem dX0_part_0 : decode cX0_part 0 = .ok (.iload_n 1, 1) := by decide +kernel
theorem dX0_part_1 : decode cX0_part 1 = .ok (.ifCond .lt 20, 3) := by decide +kernel
theorem dX0_part_4 : decode cX0_part 4 = .ok (.iload_n 1, 1) := by decide +kernel
theorem dX0_part_5 : decode cX0_part 5 = .ok (.aload_n 0, 1) := by decide +kernel
theorem dX0_part_6 : decode cX0_part 6 = .ok (.getfield 23, 3) := by decide +kernel
theorem dX0_part_9 : decode cX0_part 9 = .ok (.if_icmp .ge 12, 3) := by decide +kernel
theorem dX0_part_12 : decode cX0_part 12 = .ok (.iload_n 2, 1) := by decide +kernel
theorem dX0_part_13 : decode cX0_part 13 = .ok (.ifCond .lt 8, 3) := by decide +kernel
theorem dX0_part_16 : decode cX0_part 16 = .ok (.iload_n 2, 1) := by decide +kernel
theorem dX0_part_17 : decode cX0_part 17 = .ok (.iconst 5, 1) := by decide +kernel
theorem dX0_part_18 : decode cX0_part 18 = .ok (.if_icmp .lt 5, 3) := by decide +kernel
theorem dX0_part_21 : decode cX0_part 21 = .ok (.iconst (-1), 1) := by decide +kernel
theorem dX0_part_22 : decode cX0_part 22 = .ok (.ireturn, 1) := by decide +kernel
theorem dX0_part_23 : decode cX0_part 23 = .ok (.aload_n 0, 1) := by decide +kernel
theorem dX0_part_24 : decode cX0_part 24 = .ok (.getfield 11, 3) := by decide +kernel
theorem dX0_part_27 : decode cX0_part 27 = .ok (.iload_n 1, 1) := by decide +kernel
theorem dX0_part_28 : decode cX0_part 28 = .ok (.iconst 5, 1) := by decide +kernel
theorem dX0_part_29 : decode cX0_part 29 = .ok (.imul, 1) := by decide +kernel
theorem dX0_part_30 : decode cX0_part 30 = .ok (.iload_n 2, 1) := by decide +kernel
theorem dX0_part_31 : decode cX0_part 31 = .ok (.iadd, 1) := by decide +kernel
theorem dX0_part_32 : decode cX0_part 32 = .ok (.iaload, 1) := by decide +kernel
theorem dX0_part_33 : decode cX0_part 33 = .ok (.ireturn, 1) := by decide +kernel
theorem dX1_init_0 : decode cX1_init 0 = .ok (.aload_n 0, 1) := by decide +kernel
theorem dX1_init_1 : decode cX1_init 1 = .ok (.invokespecial 3, 3) := by decide +kernel
theorem dX1_init_4 : decode cX1_init 4 = .ok (.aload_n 0, 1) := by decide +kernel
theorem dX1_init_5 : decode cX1_init 5 = .ok (.bipush 97, 2) := by decide +kernel
theorem dX1_init_7 : decode cX1_init 7 = .ok (.newarray .int, 2) := by decide +kernel
theorem dX1_init_9 : decode cX1_init 9 = .ok (.putfield 9, 3) := by decide +kernel
theorem dX1_init_12 : decode cX1_init 12 = .ok (.aload_n 0, 1) := by decide +kernel
theorem dX1_init_13 : decode cX1_init 13 = .ok (.bipush 97, 2) := by decide +kernel
theorem dX1_init_15 : decode cX1_init 15 = .ok (.newarray .boolean, 2) := by decide +kernel
theorem dX1_init_17 : decode cX1_init 17 = .ok (.putfield 15, 3) := by decide +kernel
theorem dX1_init_20 : decode cX1_init 20 = .ok (.aload_n 0, 1) := by decide +kernel
theorem dX1_init_21 : decode cX1_init 21 = .ok (.sipush 485, 3) := by decide +kernel
theorem dX1_init_24 : decode cX1_init 24 = .ok (.newarray .int, 2) := by decide +kernel
theorem dX1_init_26 : decode cX1_init 26 = .ok (.putfield 19, 3) := by decide +kernel
theorem dX1_init_29 : decode cX1_init 29 = .ok (.aload_n 0, 1) := by decide +kernel
theorem dX1_init_30 : decode cX1_init 30 = .ok (.iconst 3, 1) := by decide +kernel
theorem dX1_init_31 : decode cX1_init 31 = .ok (.newarray .int, 2) := by decide +kernel
theorem dX1_init_33 : decode cX1_init 33 = .ok (.putfield 22, 3) := by decide +kernel
theorem dX1_init_36 : decode cX1_init 36 = .ok (.aload_n 0, 1) := by decide +kernel
theorem dX1_init_37 : decode cX1_init 37 = .ok (.aload_n 1, 1) := by decide +kernel
theorem dX1_init_38 : decode cX1_init 38 = .ok (.putfield 25, 3) := by decide +kernel
theorem dX1_init_41 : decode cX1_init 41 = .ok (.return_, 1) := by decide +kernel
theorem dX1_findOut_0 : decode cX1_findOut 0 = .ok (.aload_n 0, 1) := by decide +kernel
theorem dX1_findOut_1 : decode cX1_findOut 1 = .ok (.iload_n 1, 1) := by decide +kernel
theorem dX1_findOut_2 : decode cX1_findOut 2 = .ok (.putfield 29, 3) := by decide +kernel
theorem dX1_findOut_5 : decode cX1_findOut 5 = .ok (.aload_n 0, 1) := by decide +kernel
theorem dX1_findOut_6 : decode cX1_findOut 6 = .ok (.iload_n 2, 1) := by decide +kernel
theorem dX1_findOut_7 : decode cX1_findOut 7 = .ok (.putfield 33, 3) := by decide +kernel
theorem dX1_findOut_10 : decode cX1_findOut 10 = .ok (.aload_n 0, 1) := by decide +kernel
theorem dX1_findOut_11 : decode cX1_findOut 11 = .ok (.invokevirtual 36, 3) := by decide +kernel
theorem dX1_findOut_14 : decode cX1_findOut 14 = .ok (.aload_n 0, 1) := by decide +kernel
theorem dX1_findOut_15 : decode cX1_findOut 15 = .ok (.invokevirtual 39, 3) := by decide +kernel
theorem dX1_findOut_18 : decode cX1_findOut 18 = .ok (.aload_n 0, 1) := by decide +kernel
theorem dX1_findOut_19 : decode cX1_findOut 19 = .ok (.iconst 1, 1) := by decide +kernel
theorem dX1_findOut_20 : decode cX1_findOut 20 = .ok (.putfield 42, 3) := by decide +kernel
theorem dX1_findOut_23 : decode cX1_findOut 23 = .ok (.aload_n 0, 1) := by decide +kernel
theorem dX1_findOut_24 : decode cX1_findOut 24 = .ok (.iconst 0, 1) := by decide +kernel
theorem dX1_findOut_25 : decode cX1_findOut 25 = .ok (.putfield 45, 3) := by decide +kernel
theorem dX1_findOut_28 : decode cX1_findOut 28 = .ok (.iconst 0, 1) := by decide +kernel
theorem dX1_findOut_29 : decode cX1_findOut 29 = .ok (.istore_n 3, 1) := by decide +kernel
theorem dX1_findOut_30 : decode cX1_findOut 30 = .ok (.iload_n 3, 1) := by decide +kernel
theorem dX1_findOut_31 : decode cX1_findOut 31 = .ok (.iconst 3, 1) := by decide +kernel
theorem dX1_findOut_32 : decode cX1_findOut 32 = .ok (.if_icmp .ge 16, 3) := by decide +kernel
theorem dX1_findOut_35 : decode cX1_findOut 35 = .ok (.aload_n 0, 1) := by decide +kernel
theorem dX1_findOut_36 : decode cX1_findOut 36 = .ok (.getfield 22, 3) := by decide +kernel
theorem dX1_findOut_39 : decode cX1_findOut 39 = .ok (.iload_n 3, 1) := by decide +kernel
theorem dX1_findOut_40 : decode cX1_findOut 40 = .ok (.iconst 0, 1) := by decide +kernel
theorem dX1_findOut_41 : decode cX1_findOut 41 = .ok (.iastore, 1) := by decide +kernel
theorem dX1_findOut_42 : decode cX1_findOut 42 = .ok (.iinc 3 1, 3) := by decide +kernel
theorem dX1_findOut_45 : decode cX1_findOut 45 = .ok (.goto (-15), 3) := by decide +kernel
theorem dX1_findOut_48 : decode cX1_findOut 48 = .ok (.aload_n 0, 1) := by decide +kernel
theorem dX1_findOut_49 : decode cX1_findOut 49 = .ok (.aload_n 0, 1) := by decide +kernel
theorem dX1_findOut_50 : decode cX1_findOut 50 = .ok (.getfield 29, 3) := by decide +kernel
theorem dX1_findOut_53 : decode cX1_findOut 53 = .ok (.invokevirtual 48, 3) := by decide +kernel
theorem dX1_findOut_56 : decode cX1_findOut 56 = .ok (.istore_n 3, 1) := by decide +kernel
theorem dX1_findOut_57 : decode cX1_findOut 57 = .ok (.aload_n 0, 1) := by decide +kernel
theorem dX1_findOut_58 : decode cX1_findOut 58 = .ok (.invokevirtual 52, 3) := by decide +kernel
theorem dX1_findOut_61 : decode cX1_findOut 61 = .ok (.istore 4, 2) := by decide +kernel
theorem dX1_findOut_63 : decode cX1_findOut 63 = .ok (.iconst 0, 1) := by decide +kernel
theorem dX1_findOut_64 : decode cX1_findOut 64 = .ok (.istore 5, 2) := by decide +kernel
theorem dX1_findOut_66 : decode cX1_findOut 66 = .ok (.iload 5, 2) := by decide +kernel
theorem dX1_findOut_68 : decode cX1_findOut 68 = .ok (.bipush 96, 2) := by decide +kernel
theorem dX1_findOut_70 : decode cX1_findOut 70 = .ok (.if_icmp .gt 32, 3) := by decide +kernel
theorem dX1_findOut_73 : decode cX1_findOut 73 = .ok (.iload_n 3, 1) := by decide +kernel
theorem dX1_findOut_74 : decode cX1_findOut 74 = .ok (.ifCond .ne 28, 3) := by decide +kernel
theorem dX1_findOut_77 : decode cX1_findOut 77 = .ok (.iload 4, 2) := by decide +kernel
theorem dX1_findOut_79 : decode cX1_findOut 79 = .ok (.iconst (-1), 1) := by decide +kernel
theorem dX1_findOut_80 : decode cX1_findOut 80 = .ok (.if_icmp .eq 22, 3) := by decide +kernel
theorem dX1_findOut_83 : decode cX1_findOut 83 = .ok (.aload_n 0, 1) := by decide +kernel
theorem dX1_findOut_84 : decode cX1_findOut 84 = .ok (.iload 4, 2) := by decide +kernel
theorem dX1_findOut_86 : decode cX1_findOut 86 = .ok (.invokevirtual 56, 3) := by decide +kernel
theorem dX1_findOut_89 : decode cX1_findOut 89 = .ok (.istore_n 3, 1) := by decide +kernel
theorem dX1_findOut_90 : decode cX1_findOut 90 = .ok (.aload_n 0, 1) := by decide +kernel
theorem dX1_findOut_91 : decode cX1_findOut 91 = .ok (.invokevirtual 52, 3) := by decide +kernel
theorem dX1_findOut_94 : decode cX1_findOut 94 = .ok (.istore 4, 2) := by decide +kernel
theorem dX1_findOut_96 : decode cX1_findOut 96 = .ok (.iinc 5 1, 3) := by decide +kernel
theorem dX1_findOut_99 : decode cX1_findOut 99 = .ok (.goto (-33), 3) := by decide +kernel
theorem dX1_findOut_102 : decode cX1_findOut 102 = .ok (.iload_n 3, 1) := by decide +kernel
theorem dX1_findOut_103 : decode cX1_findOut 103 = .ok (.ireturn, 1) := by decide +kernel
theorem dX1_forget_0 : decode cX1_forget 0 = .ok (.aload_n 0, 1) := by decide +kernel
theorem dX1_forget_1 : decode cX1_forget 1 = .ok (.getfield 29, 3) := by decide +kernel
theorem dX1_forget_4 : decode cX1_forget 4 = .ok (.istore_n 1, 1) := by decide +kernel
theorem dX1_forget_5 : decode cX1_forget 5 = .ok (.iload_n 1, 1) := by decide +kernel
theorem dX1_forget_6 : decode cX1_forget 6 = .ok (.aload_n 0, 1) := by decide +kernel
theorem dX1_forget_7 : decode cX1_forget 7 = .ok (.getfield 33, 3) := by decide +kernel
theorem dX1_forget_10 : decode cX1_forget 10 = .ok (.if_icmp .gt 23, 3) := by decide +kernel
theorem dX1_forget_13 : decode cX1_forget 13 = .ok (.aload_n 0, 1) := by decide +kernel
theorem dX1_forget_14 : decode cX1_forget 14 = .ok (.getfield 9, 3) := by decide +kernel
theorem dX1_forget_17 : decode cX1_forget 17 = .ok (.iload_n 1, 1) := by decide +kernel
theorem dX1_forget_18 : decode cX1_forget 18 = .ok (.iconst 0, 1) := by decide +kernel
theorem dX1_forget_19 : decode cX1_forget 19 = .ok (.iastore, 1) := by decide +kernel
theorem dX1_forget_20 : decode cX1_forget 20 = .ok (.aload_n 0, 1) := by decide +kernel
theorem dX1_forget_21 : decode cX1_forget 21 = .ok (.getfield 15, 3) := by decide +kernel
theorem dX1_forget_24 : decode cX1_forget 24 = .ok (.iload_n 1, 1) := by decide +kernel
theorem dX1_forget_25 : decode cX1_forget 25 = .ok (.iconst 0, 1) := by decide +kernel
theorem dX1_forget_26 : decode cX1_forget 26 = .ok (.bastore, 1) := by decide +kernel
theorem dX1_forget_27 : decode cX1_forget 27 = .ok (.iinc 1 1, 3) := by decide +kernel
theorem dX1_forget_30 : decode cX1_forget 30 = .ok (.goto (-25), 3) := by decide +kernel
theorem dX1_forget_33 : decode cX1_forget 33 = .ok (.return_, 1) := by decide +kernel
theorem dX1_markBegins_0 : decode cX1_markBegins 0 = .ok (.aload_n 0, 1) := by decide +kernel
theorem dX1_markBegins_1 : decode cX1_markBegins 1 = .ok (.getfield 29, 3) := by decide +kernel
theorem dX1_markBegins_4 : decode cX1_markBegins 4 = .ok (.istore_n 1, 1) := by decide +kernel
theorem dX1_markBegins_5 : decode cX1_markBegins 5 = .ok (.iconst 1, 1) := by decide +kernel
theorem dX1_markBegins_6 : decode cX1_markBegins 6 = .ok (.istore_n 2, 1) := by decide +kernel
theorem dX1_markBegins_7 : decode cX1_markBegins 7 = .ok (.iload_n 1, 1) := by decide +kernel
theorem dX1_markBegins_8 : decode cX1_markBegins 8 = .ok (.aload_n 0, 1) := by decide +kernel
theorem dX1_markBegins_9 : decode cX1_markBegins 9 = .ok (.getfield 33, 3) := by decide +kernel
theorem dX1_markBegins_12 : decode cX1_markBegins 12 = .ok (.if_icmp .ge 34, 3) := by decide +kernel
theorem dX1_markBegins_15 : decode cX1_markBegins 15 = .ok (.iload_n 2, 1) := by decide +kernel
theorem dX1_markBegins_16 : decode cX1_markBegins 16 = .ok (.ifCond .le 30, 3) := by decide +kernel
theorem dX1_markBegins_19 : decode cX1_markBegins 19 = .ok (.aload_n 0, 1) := by decide +kernel
theorem dX1_markBegins_20 : decode cX1_markBegins 20 = .ok (.getfield 15, 3) := by decide +kernel
theorem dX1_markBegins_23 : decode cX1_markBegins 23 = .ok (.iload_n 1, 1) := by decide +kernel
theorem dX1_markBegins_24 : decode cX1_markBegins 24 = .ok (.iconst 1, 1) := by decide +kernel
theorem dX1_markBegins_25 : decode cX1_markBegins 25 = .ok (.bastore, 1) := by decide +kernel
theorem dX1_markBegins_26 : decode cX1_markBegins 26 = .ok (.aload_n 0, 1) := by decide +kernel
theorem dX1_markBegins_27 : decode cX1_markBegins 27 = .ok (.getfield 25, 3) := by decide +kernel
theorem dX1_markBegins_30 : decode cX1_markBegins 30 = .ok (.iload_n 1, 1) := by decide +kernel
theorem dX1_markBegins_31 : decode cX1_markBegins 31 = .ok (.aload_n 0, 1) := by decide +kernel
theorem dX1_markBegins_32 : decode cX1_markBegins 32 = .ok (.getfield 33, 3) := by decide +kernel
theorem dX1_markBegins_35 : decode cX1_markBegins 35 = .ok (.invokevirtual 59, 3) := by decide +kernel
theorem dX1_markBegins_38 : decode cX1_markBegins 38 = .ok (.istore_n 2, 1) := by decide +kernel
theorem dX1_markBegins_39 : decode cX1_markBegins 39 = .ok (.iload_n 1, 1) := by decide +kernel
theorem dX1_markBegins_40 : decode cX1_markBegins 40 = .ok (.iload_n 2, 1) := by decide +kernel
theorem dX1_markBegins_41 : decode cX1_markBegins 41 = .ok (.iadd, 1) := by decide +kernel
theorem dX1_markBegins_42 : decode cX1_markBegins 42 = .ok (.istore_n 1, 1) := by decide +kernel
theorem dX1_markBegins_43 : decode cX1_markBegins 43 = .ok (.goto (-36), 3) := by decide +kernel
theorem dX1_markBegins_46 : decode cX1_markBegins 46 = .ok (.return_, 1) := by decide +kernel
theorem dX1_lowestToLookAt_0 : decode cX1_lowestToLookAt 0 = .ok (.aload_n 0, 1) := by decide +kernel
theorem dX1_lowestToLookAt_1 : decode cX1_lowestToLookAt 1 = .ok (.getfield 29, 3) := by decide +kernel
theorem dX1_lowestToLookAt_4 : decode cX1_lowestToLookAt 4 = .ok (.istore_n 1, 1) := by decide +kernel
theorem dX1_lowestToLookAt_5 : decode cX1_lowestToLookAt 5 = .ok (.iload_n 1, 1) := by decide +kernel
theorem dX1_lowestToLookAt_6 : decode cX1_lowestToLookAt 6 = .ok (.aload_n 0, 1) := by decide +kernel
theorem dX1_lowestToLookAt_7 : decode cX1_lowestToLookAt 7 = .ok (.getfield 33, 3) := by decide +kernel
theorem dX1_lowestToLookAt_10 : decode cX1_lowestToLookAt 10 = .ok (.if_icmp .gt 21, 3) := by decide +kernel
theorem dX1_lowestToLookAt_13 : decode cX1_lowestToLookAt 13 = .ok (.aload_n 0, 1) := by decide +kernel
theorem dX1_lowestToLookAt_14 : decode cX1_lowestToLookAt 14 = .ok (.getfield 9, 3) := by decide +kernel
theorem dX1_lowestToLookAt_17 : decode cX1_lowestToLookAt 17 = .ok (.iload_n 1, 1) := by decide +kernel
theorem dX1_lowestToLookAt_18 : decode cX1_lowestToLookAt 18 = .ok (.iaload, 1) := by decide +kernel
theorem dX1_lowestToLookAt_19 : decode cX1_lowestToLookAt 19 = .ok (.iconst 1, 1) := by decide +kernel
theorem dX1_lowestToLookAt_20 : decode cX1_lowestToLookAt 20 = .ok (.if_icmp .ne 5, 3) := by decide +kernel
theorem dX1_lowestToLookAt_23 : decode cX1_lowestToLookAt 23 = .ok (.iload_n 1, 1) := by decide +kernel
theorem dX1_lowestToLookAt_24 : decode cX1_lowestToLookAt 24 = .ok (.ireturn, 1) := by decide +kernel
theorem dX1_lowestToLookAt_25 : decode cX1_lowestToLookAt 25 = .ok (.iinc 1 1, 3) := by decide +kernel
theorem dX1_lowestToLookAt_28 : decode cX1_lowestToLookAt 28 = .ok (.goto (-23), 3) := by decide +kernel
theorem dX1_lowestToLookAt_31 : decode cX1_lowestToLookAt 31 = .ok (.iconst (-1), 1) := by decide +kernel
theorem dX1_lowestToLookAt_32 : decode cX1_lowestToLookAt 32 = .ok (.ireturn, 1) := by decide +kernel
theorem dX1_lookAt_0 : decode cX1_lookAt 0 = .ok (.aload_n 0, 1) := by decide +kernel
theorem dX1_lookAt_1 : decode cX1_lookAt 1 = .ok (.getfield 9, 3) := by decide +kernel
theorem dX1_lookAt_4 : decode cX1_lookAt 4 = .ok (.iload_n 1, 1) := by decide +kernel
theorem dX1_lookAt_5 : decode cX1_lookAt 5 = .ok (.iconst 2, 1) := by decide +kernel
theorem dX1_lookAt_6 : decode cX1_lookAt 6 = .ok (.iastore, 1) := by decide +kernel
theorem dX1_lookAt_7 : decode cX1_lookAt 7 = .ok (.iload_n 1, 1) := by decide +kernel
theorem dX1_lookAt_8 : decode cX1_lookAt 8 = .ok (.aload_n 0, 1) := by decide +kernel
theorem dX1_lookAt_9 : decode cX1_lookAt 9 = .ok (.getfield 33, 3) := by decide +kernel
theorem dX1_lookAt_12 : decode cX1_lookAt 12 = .ok (.if_icmp .ne 9, 3) := by decide +kernel
theorem dX1_lookAt_15 : decode cX1_lookAt 15 = .ok (.sipush 200, 3) := by decide +kernel
theorem dX1_lookAt_18 : decode cX1_lookAt 18 = .ok (.iload_n 1, 1) := by decide +kernel
theorem dX1_lookAt_19 : decode cX1_lookAt 19 = .ok (.iadd, 1) := by decide +kernel
theorem dX1_lookAt_20 : decode cX1_lookAt 20 = .ok (.ireturn, 1) := by decide +kernel
theorem dX1_lookAt_21 : decode cX1_lookAt 21 = .ok (.aload_n 0, 1) := by decide +kernel
theorem dX1_lookAt_22 : decode cX1_lookAt 22 = .ok (.getfield 25, 3) := by decide +kernel
theorem dX1_lookAt_25 : decode cX1_lookAt 25 = .ok (.iload_n 1, 1) := by decide +kernel
theorem dX1_lookAt_26 : decode cX1_lookAt 26 = .ok (.aload_n 0, 1) := by decide +kernel
theorem dX1_lookAt_27 : decode cX1_lookAt 27 = .ok (.getfield 33, 3) := by decide +kernel
theorem dX1_lookAt_30 : decode cX1_lookAt 30 = .ok (.invokevirtual 59, 3) := by decide +kernel
theorem dX1_lookAt_33 : decode cX1_lookAt 33 = .ok (.istore_n 2, 1) := by decide +kernel
theorem dX1_lookAt_34 : decode cX1_lookAt 34 = .ok (.iload_n 2, 1) := by decide +kernel
theorem dX1_lookAt_35 : decode cX1_lookAt 35 = .ok (.ifCond .ne 8, 3) := by decide +kernel
theorem dX1_lookAt_38 : decode cX1_lookAt 38 = .ok (.bipush 100, 2) := by decide +kernel
theorem dX1_lookAt_40 : decode cX1_lookAt 40 = .ok (.iload_n 1, 1) := by decide +kernel
theorem dX1_lookAt_41 : decode cX1_lookAt 41 = .ok (.iadd, 1) := by decide +kernel
theorem dX1_lookAt_42 : decode cX1_lookAt 42 = .ok (.ireturn, 1) := by decide +kernel
theorem dX1_lookAt_43 : decode cX1_lookAt 43 = .ok (.aload_n 0, 1) := by decide +kernel
theorem dX1_lookAt_44 : decode cX1_lookAt 44 = .ok (.iload_n 1, 1) := by decide +kernel
theorem dX1_lookAt_45 : decode cX1_lookAt 45 = .ok (.invokevirtual 65, 3) := by decide +kernel
theorem dX1_lookAt_48 : decode cX1_lookAt 48 = .ok (.aload_n 0, 1) := by decide +kernel
theorem dX1_lookAt_49 : decode cX1_lookAt 49 = .ok (.getfield 25, 3) := by decide +kernel
theorem dX1_lookAt_52 : decode cX1_lookAt 52 = .ok (.iload_n 1, 1) := by decide +kernel
theorem dX1_lookAt_53 : decode cX1_lookAt 53 = .ok (.invokevirtual 69, 3) := by decide +kernel
theorem dX1_lookAt_56 : decode cX1_lookAt 56 = .ok (.istore_n 3, 1) := by decide +kernel
theorem dX1_lookAt_57 : decode cX1_lookAt 57 = .ok (.aload_n 0, 1) := by decide +kernel
theorem dX1_lookAt_58 : decode cX1_lookAt 58 = .ok (.getfield 25, 3) := by decide +kernel
theorem dX1_lookAt_61 : decode cX1_lookAt 61 = .ok (.iload_n 1, 1) := by decide +kernel
theorem dX1_lookAt_62 : decode cX1_lookAt 62 = .ok (.iconst 1, 1) := by decide +kernel
theorem dX1_lookAt_63 : decode cX1_lookAt 63 = .ok (.iadd, 1) := by decide +kernel
theorem dX1_lookAt_64 : decode cX1_lookAt 64 = .ok (.invokevirtual 69, 3) := by decide +kernel
theorem dX1_lookAt_67 : decode cX1_lookAt 67 = .ok (.istore 4, 2) := by decide +kernel
theorem dX1_lookAt_69 : decode cX1_lookAt 69 = .ok (.aload_n 0, 1) := by decide +kernel
theorem dX1_lookAt_70 : decode cX1_lookAt 70 = .ok (.iload_n 3, 1) := by decide +kernel
theorem dX1_lookAt_71 : decode cX1_lookAt 71 = .ok (.iload 4, 2) := by decide +kernel
theorem dX1_lookAt_73 : decode cX1_lookAt 73 = .ok (.aload_n 0, 1) := by decide +kernel
theorem dX1_lookAt_74 : decode cX1_lookAt 74 = .ok (.getfield 25, 3) := by decide +kernel
theorem dX1_lookAt_77 : decode cX1_lookAt 77 = .ok (.iload_n 1, 1) := by decide +kernel
theorem dX1_lookAt_78 : decode cX1_lookAt 78 = .ok (.iconst 2, 1) := by decide +kernel
theorem dX1_lookAt_79 : decode cX1_lookAt 79 = .ok (.iadd, 1) := by decide +kernel
theorem dX1_lookAt_80 : decode cX1_lookAt 80 = .ok (.invokevirtual 69, 3) := by decide +kernel
theorem dX1_lookAt_83 : decode cX1_lookAt 83 = .ok (.invokevirtual 72, 3) := by decide +kernel
theorem dX1_lookAt_86 : decode cX1_lookAt 86 = .ok (.istore 5, 2) := by decide +kernel
theorem dX1_lookAt_88 : decode cX1_lookAt 88 = .ok (.iload 5, 2) := by decide +kernel
theorem dX1_lookAt_90 : decode cX1_lookAt 90 = .ok (.ifCond .eq 11, 3) := by decide +kernel
theorem dX1_lookAt_93 : decode cX1_lookAt 93 = .ok (.bipush 100, 2) := by decide +kernel
theorem dX1_lookAt_95 : decode cX1_lookAt 95 = .ok (.iload 5, 2) := by decide +kernel
theorem dX1_lookAt_97 : decode cX1_lookAt 97 = .ok (.imul, 1) := by decide +kernel
theorem dX1_lookAt_98 : decode cX1_lookAt 98 = .ok (.iload_n 1, 1) := by decide +kernel
theorem dX1_lookAt_99 : decode cX1_lookAt 99 = .ok (.iadd, 1) := by decide +kernel
theorem dX1_lookAt_100 : decode cX1_lookAt 100 = .ok (.ireturn, 1) := by decide +kernel
theorem dX1_lookAt_101 : decode cX1_lookAt 101 = .ok (.iload_n 3, 1) := by decide +kernel
theorem dX1_lookAt_102 : decode cX1_lookAt 102 = .ok (.bipush 8, 2) := by decide +kernel
theorem dX1_lookAt_104 : decode cX1_lookAt 104 = .ok (.if_icmp .eq 9, 3) := by decide +kernel
theorem dX1_lookAt_107 : decode cX1_lookAt 107 = .ok (.iload_n 3, 1) := by decide +kernel
theorem dX1_lookAt_108 : decode cX1_lookAt 108 = .ok (.bipush 9, 2) := by decide +kernel
theorem dX1_lookAt_110 : decode cX1_lookAt 110 = .ok (.if_icmp .ne 7, 3) := by decide +kernel
theorem dX1_lookAt_113 : decode cX1_lookAt 113 = .ok (.iconst 0, 1) := by decide +kernel
theorem dX1_lookAt_114 : decode cX1_lookAt 114 = .ok (.goto 10, 3) := by decide +kernel
theorem dX1_lookAt_117 : decode cX1_lookAt 117 = .ok (.aload_n 0, 1) := by decide +kernel
theorem dX1_lookAt_118 : decode cX1_lookAt 118 = .ok (.iload_n 1, 1) := by decide +kernel
theorem dX1_lookAt_119 : decode cX1_lookAt 119 = .ok (.iload_n 2, 1) := by decide +kernel
theorem dX1_lookAt_120 : decode cX1_lookAt 120 = .ok (.iadd, 1) := by decide +kernel
theorem dX1_lookAt_121 : decode cX1_lookAt 121 = .ok (.invokevirtual 48, 3) := by decide +kernel
theorem dX1_lookAt_124 : decode cX1_lookAt 124 = .ok (.istore 6, 2) := by decide +kernel
theorem dX1_lookAt_126 : decode cX1_lookAt 126 = .ok (.iload_n 3, 1) := by decide +kernel
theorem dX1_lookAt_127 : decode cX1_lookAt 127 = .ok (.bipush 9, 2) := by decide +kernel
theorem dX1_lookAt_129 : decode cX1_lookAt 129 = .ok (.if_icmp .eq 9, 3) := by decide +kernel
theorem dX1_lookAt_132 : decode cX1_lookAt 132 = .ok (.iload_n 3, 1) := by decide +kernel
theorem dX1_lookAt_133 : decode cX1_lookAt 133 = .ok (.bipush 10, 2) := by decide +kernel
theorem dX1_lookAt_135 : decode cX1_lookAt 135 = .ok (.if_icmp .ne 16, 3) := by decide +kernel
theorem dX1_lookAt_138 : decode cX1_lookAt 138 = .ok (.aload_n 0, 1) := by decide +kernel
theorem dX1_lookAt_139 : decode cX1_lookAt 139 = .ok (.iload 4, 2) := by decide +kernel
theorem dX1_lookAt_141 : decode cX1_lookAt 141 = .ok (.invokevirtual 76, 3) := by decide +kernel
theorem dX1_lookAt_144 : decode cX1_lookAt 144 = .ok (.ifCond .eq 7, 3) := by decide +kernel
theorem dX1_lookAt_147 : decode cX1_lookAt 147 = .ok (.iconst 1, 1) := by decide +kernel
theorem dX1_lookAt_148 : decode cX1_lookAt 148 = .ok (.goto 4, 3) := by decide +kernel
theorem dX1_lookAt_151 : decode cX1_lookAt 151 = .ok (.iconst 0, 1) := by decide +kernel
theorem dX1_lookAt_152 : decode cX1_lookAt 152 = .ok (.istore 7, 2) := by decide +kernel
theorem dX1_lookAt_154 : decode cX1_lookAt 154 = .ok (.iload 6, 2) := by decide +kernel
theorem dX1_lookAt_156 : decode cX1_lookAt 156 = .ok (.ifCond .ne 17, 3) := by decide +kernel
theorem dX1_lookAt_159 : decode cX1_lookAt 159 = .ok (.iload 7, 2) := by decide +kernel
theorem dX1_lookAt_161 : decode cX1_lookAt 161 = .ok (.ifCond .eq 12, 3) := by decide +kernel
theorem dX1_lookAt_164 : decode cX1_lookAt 164 = .ok (.aload_n 0, 1) := by decide +kernel
theorem dX1_lookAt_165 : decode cX1_lookAt 165 = .ok (.iload 4, 2) := by decide +kernel
theorem dX1_lookAt_167 : decode cX1_lookAt 167 = .ok (.invokevirtual 48, 3) := by decide +kernel
theorem dX1_lookAt_170 : decode cX1_lookAt 170 = .ok (.goto 5, 3) := by decide +kernel
theorem dX1_lookAt_173 : decode cX1_lookAt 173 = .ok (.iload 6, 2) := by decide +kernel
theorem dX1_lookAt_175 : decode cX1_lookAt 175 = .ok (.ireturn, 1) := by decide +kernel
theorem dX1_inFunction_0 : decode cX1_inFunction 0 = .ok (.iload_n 1, 1) := by decide +kernel
theorem dX1_inFunction_1 : decode cX1_inFunction 1 = .ok (.aload_n 0, 1) := by decide +kernel
theorem dX1_inFunction_2 : decode cX1_inFunction 2 = .ok (.getfield 29, 3) := by decide +kernel
theorem dX1_inFunction_5 : decode cX1_inFunction 5 = .ok (.if_icmp .lt 15, 3) := by decide +kernel
theorem dX1_inFunction_8 : decode cX1_inFunction 8 = .ok (.iload_n 1, 1) := by decide +kernel
theorem dX1_inFunction_9 : decode cX1_inFunction 9 = .ok (.aload_n 0, 1) := by decide +kernel
theorem dX1_inFunction_10 : decode cX1_inFunction 10 = .ok (.getfield 33, 3) := by decide +kernel
theorem dX1_inFunction_13 : decode cX1_inFunction 13 = .ok (.if_icmp .ge 7, 3) := by decide +kernel
theorem dX1_inFunction_16 : decode cX1_inFunction 16 = .ok (.iconst 1, 1) := by decide +kernel
theorem dX1_inFunction_17 : decode cX1_inFunction 17 = .ok (.goto 4, 3) := by decide +kernel
theorem dX1_inFunction_20 : decode cX1_inFunction 20 = .ok (.iconst 0, 1) := by decide +kernel
theorem dX1_inFunction_21 : decode cX1_inFunction 21 = .ok (.ireturn, 1) := by decide +kernel
theorem dX1_recall_0 : decode cX1_recall 0 = .ok (.iload_n 1, 1) := by decide +kernel
theorem dX1_recall_1 : decode cX1_recall 1 = .ok (.iconst 5, 1) := by decide +kernel
theorem dX1_recall_2 : decode cX1_recall 2 = .ok (.imul, 1) := by decide +kernel
theorem dX1_recall_3 : decode cX1_recall 3 = .ok (.istore_n 2, 1) := by decide +kernel
theorem dX1_recall_4 : decode cX1_recall 4 = .ok (.aload_n 0, 1) := by decide +kernel
theorem dX1_recall_5 : decode cX1_recall 5 = .ok (.aload_n 0, 1) := by decide +kernel
theorem dX1_recall_6 : decode cX1_recall 6 = .ok (.getfield 19, 3) := by decide +kernel
theorem dX1_recall_9 : decode cX1_recall 9 = .ok (.iload_n 2, 1) := by decide +kernel
theorem dX1_recall_10 : decode cX1_recall 10 = .ok (.iaload, 1) := by decide +kernel
theorem dX1_recall_11 : decode cX1_recall 11 = .ok (.putfield 42, 3) := by decide +kernel
theorem dX1_recall_14 : decode cX1_recall 14 = .ok (.aload_n 0, 1) := by decide +kernel
theorem dX1_recall_15 : decode cX1_recall 15 = .ok (.aload_n 0, 1) := by decide +kernel
theorem dX1_recall_16 : decode cX1_recall 16 = .ok (.getfield 19, 3) := by decide +kernel
theorem dX1_recall_19 : decode cX1_recall 19 = .ok (.iload_n 2, 1) := by decide +kernel
theorem dX1_recall_20 : decode cX1_recall 20 = .ok (.iconst 1, 1) := by decide +kernel
theorem dX1_recall_21 : decode cX1_recall 21 = .ok (.iadd, 1) := by decide +kernel
theorem dX1_recall_22 : decode cX1_recall 22 = .ok (.iaload, 1) := by decide +kernel
theorem dX1_recall_23 : decode cX1_recall 23 = .ok (.putfield 45, 3) := by decide +kernel
theorem dX1_recall_26 : decode cX1_recall 26 = .ok (.iconst 0, 1) := by decide +kernel
theorem dX1_recall_27 : decode cX1_recall 27 = .ok (.istore_n 3, 1) := by decide +kernel
theorem dX1_recall_28 : decode cX1_recall 28 = .ok (.iload_n 3, 1) := by decide +kernel
theorem dX1_recall_29 : decode cX1_recall 29 = .ok (.iconst 3, 1) := by decide +kernel
theorem dX1_recall_30 : decode cX1_recall 30 = .ok (.if_icmp .ge 25, 3) := by decide +kernel
theorem dX1_recall_33 : decode cX1_recall 33 = .ok (.aload_n 0, 1) := by decide +kernel
theorem dX1_recall_34 : decode cX1_recall 34 = .ok (.getfield 22, 3) := by decide +kernel
theorem dX1_recall_37 : decode cX1_recall 37 = .ok (.iload_n 3, 1) := by decide +kernel
theorem dX1_recall_38 : decode cX1_recall 38 = .ok (.aload_n 0, 1) := by decide +kernel
theorem dX1_recall_39 : decode cX1_recall 39 = .ok (.getfield 19, 3) := by decide +kernel
theorem dX1_recall_42 : decode cX1_recall 42 = .ok (.iload_n 2, 1) := by decide +kernel
theorem dX1_recall_43 : decode cX1_recall 43 = .ok (.iconst 2, 1) := by decide +kernel
theorem dX1_recall_44 : decode cX1_recall 44 = .ok (.iadd, 1) := by decide +kernel
theorem dX1_recall_45 : decode cX1_recall 45 = .ok (.iload_n 3, 1) := by decide +kernel
theorem dX1_recall_46 : decode cX1_recall 46 = .ok (.iadd, 1) := by decide +kernel
theorem dX1_recall_47 : decode cX1_recall 47 = .ok (.iaload, 1) := by decide +kernel
theorem dX1_recall_48 : decode cX1_recall 48 = .ok (.iastore, 1) := by decide +kernel
theorem dX1_recall_49 : decode cX1_recall 49 = .ok (.iinc 3 1, 3) := by decide +kernel
theorem dX1_recall_52 : decode cX1_recall 52 = .ok (.goto (-24), 3) := by decide +kernel
theorem dX1_recall_55 : decode cX1_recall 55 = .ok (.return_, 1) := by decide +kernel
theorem dX1_learn_0 : decode cX1_learn 0 = .ok (.aload_n 0, 1) := by decide +kernel
theorem dX1_learn_1 : decode cX1_learn 1 = .ok (.getfield 9, 3) := by decide +kernel
theorem dX1_learn_4 : decode cX1_learn 4 = .ok (.iload_n 1, 1) := by decide +kernel
theorem dX1_learn_5 : decode cX1_learn 5 = .ok (.iaload, 1) := by decide +kernel
theorem dX1_learn_6 : decode cX1_learn 6 = .ok (.ifCond .eq 21, 3) := by decide +kernel
theorem dX1_learn_9 : decode cX1_learn 9 = .ok (.aload_n 0, 1) := by decide +kernel
theorem dX1_learn_10 : decode cX1_learn 10 = .ok (.iload_n 1, 1) := by decide +kernel
theorem dX1_learn_11 : decode cX1_learn 11 = .ok (.invokevirtual 80, 3) := by decide +kernel
theorem dX1_learn_14 : decode cX1_learn 14 = .ok (.ifCond .eq 7, 3) := by decide +kernel
theorem dX1_learn_17 : decode cX1_learn 17 = .ok (.iconst 0, 1) := by decide +kernel
theorem dX1_learn_18 : decode cX1_learn 18 = .ok (.goto 8, 3) := by decide +kernel
theorem dX1_learn_21 : decode cX1_learn 21 = .ok (.sipush 700, 3) := by decide +kernel
theorem dX1_learn_24 : decode cX1_learn 24 = .ok (.iload_n 1, 1) := by decide +kernel
theorem dX1_learn_25 : decode cX1_learn 25 = .ok (.iadd, 1) := by decide +kernel
theorem dX1_learn_26 : decode cX1_learn 26 = .ok (.ireturn, 1) := by decide +kernel
theorem dX1_learn_27 : decode cX1_learn 27 = .ok (.iload_n 1, 1) := by decide +kernel
theorem dX1_learn_28 : decode cX1_learn 28 = .ok (.iconst 5, 1) := by decide +kernel
theorem dX1_learn_29 : decode cX1_learn 29 = .ok (.imul, 1) := by decide +kernel
theorem dX1_learn_30 : decode cX1_learn 30 = .ok (.istore_n 2, 1) := by decide +kernel
theorem dX1_learn_31 : decode cX1_learn 31 = .ok (.aload_n 0, 1) := by decide +kernel
theorem dX1_learn_32 : decode cX1_learn 32 = .ok (.getfield 9, 3) := by decide +kernel
theorem dX1_learn_35 : decode cX1_learn 35 = .ok (.iload_n 1, 1) := by decide +kernel
theorem dX1_learn_36 : decode cX1_learn 36 = .ok (.iconst 1, 1) := by decide +kernel
theorem dX1_learn_37 : decode cX1_learn 37 = .ok (.iastore, 1) := by decide +kernel
theorem dX1_learn_38 : decode cX1_learn 38 = .ok (.aload_n 0, 1) := by decide +kernel
theorem dX1_learn_39 : decode cX1_learn 39 = .ok (.getfield 19, 3) := by decide +kernel
theorem dX1_learn_42 : decode cX1_learn 42 = .ok (.iload_n 2, 1) := by decide +kernel
theorem dX1_learn_43 : decode cX1_learn 43 = .ok (.aload_n 0, 1) := by decide +kernel
theorem dX1_learn_44 : decode cX1_learn 44 = .ok (.getfield 42, 3) := by decide +kernel
theorem dX1_learn_47 : decode cX1_learn 47 = .ok (.iastore, 1) := by decide +kernel
theorem dX1_learn_48 : decode cX1_learn 48 = .ok (.aload_n 0, 1) := by decide +kernel
theorem dX1_learn_49 : decode cX1_learn 49 = .ok (.getfield 19, 3) := by decide +kernel
theorem dX1_learn_52 : decode cX1_learn 52 = .ok (.iload_n 2, 1) := by decide +kernel
theorem dX1_learn_53 : decode cX1_learn 53 = .ok (.iconst 1, 1) := by decide +kernel
theorem dX1_learn_54 : decode cX1_learn 54 = .ok (.iadd, 1) := by decide +kernel
theorem dX1_learn_55 : decode cX1_learn 55 = .ok (.aload_n 0, 1) := by decide +kernel
theorem dX1_learn_56 : decode cX1_learn 56 = .ok (.getfield 45, 3) := by decide +kernel
theorem dX1_learn_59 : decode cX1_learn 59 = .ok (.iastore, 1) := by decide +kernel
theorem dX1_learn_60 : decode cX1_learn 60 = .ok (.iconst 0, 1) := by decide +kernel
theorem dX1_learn_61 : decode cX1_learn 61 = .ok (.istore_n 3, 1) := by decide +kernel
theorem dX1_learn_62 : decode cX1_learn 62 = .ok (.iload_n 3, 1) := by decide +kernel
theorem dX1_learn_63 : decode cX1_learn 63 = .ok (.iconst 3, 1) := by decide +kernel
theorem dX1_learn_64 : decode cX1_learn 64 = .ok (.if_icmp .ge 25, 3) := by decide +kernel
theorem dX1_learn_67 : decode cX1_learn 67 = .ok (.aload_n 0, 1) := by decide +kernel
theorem dX1_learn_68 : decode cX1_learn 68 = .ok (.getfield 19, 3) := by decide +kernel
theorem dX1_learn_71 : decode cX1_learn 71 = .ok (.iload_n 2, 1) := by decide +kernel
theorem dX1_learn_72 : decode cX1_learn 72 = .ok (.iconst 2, 1) := by decide +kernel
theorem dX1_learn_73 : decode cX1_learn 73 = .ok (.iadd, 1) := by decide +kernel
theorem dX1_learn_74 : decode cX1_learn 74 = .ok (.iload_n 3, 1) := by decide +kernel
theorem dX1_learn_75 : decode cX1_learn 75 = .ok (.iadd, 1) := by decide +kernel
theorem dX1_learn_76 : decode cX1_learn 76 = .ok (.aload_n 0, 1) := by decide +kernel
theorem dX1_learn_77 : decode cX1_learn 77 = .ok (.getfield 22, 3) := by decide +kernel
theorem dX1_learn_80 : decode cX1_learn 80 = .ok (.iload_n 3, 1) := by decide +kernel
theorem dX1_learn_81 : decode cX1_learn 81 = .ok (.iaload, 1) := by decide +kernel
theorem dX1_learn_82 : decode cX1_learn 82 = .ok (.iastore, 1) := by decide +kernel
theorem dX1_learn_83 : decode cX1_learn 83 = .ok (.iinc 3 1, 3) := by decide +kernel
theorem dX1_learn_86 : decode cX1_learn 86 = .ok (.goto (-24), 3) := by decide +kernel
theorem dX1_learn_89 : decode cX1_learn 89 = .ok (.iconst 0, 1) := by decide +kernel
theorem dX1_learn_90 : decode cX1_learn 90 = .ok (.ireturn, 1) := by decide +kernel
theorem dX1_isKnown_0 : decode cX1_isKnown 0 = .ok (.iload_n 1, 1) := by decide +kernel
theorem dX1_isKnown_1 : decode cX1_isKnown 1 = .ok (.iconst 5, 1) := by decide +kernel
theorem dX1_isKnown_2 : decode cX1_isKnown 2 = .ok (.imul, 1) := by decide +kernel
theorem dX1_isKnown_3 : decode cX1_isKnown 3 = .ok (.istore_n 2, 1) := by decide +kernel
theorem dX1_isKnown_4 : decode cX1_isKnown 4 = .ok (.aload_n 0, 1) := by decide +kernel
theorem dX1_isKnown_5 : decode cX1_isKnown 5 = .ok (.getfield 19, 3) := by decide +kernel
theorem dX1_isKnown_8 : decode cX1_isKnown 8 = .ok (.iload_n 2, 1) := by decide +kernel
theorem dX1_isKnown_9 : decode cX1_isKnown 9 = .ok (.iaload, 1) := by decide +kernel
theorem dX1_isKnown_10 : decode cX1_isKnown 10 = .ok (.aload_n 0, 1) := by decide +kernel
theorem dX1_isKnown_11 : decode cX1_isKnown 11 = .ok (.getfield 42, 3) := by decide +kernel
theorem dX1_isKnown_14 : decode cX1_isKnown 14 = .ok (.if_icmp .ne 22, 3) := by decide +kernel
theorem dX1_isKnown_17 : decode cX1_isKnown 17 = .ok (.aload_n 0, 1) := by decide +kernel
theorem dX1_isKnown_18 : decode cX1_isKnown 18 = .ok (.getfield 19, 3) := by decide +kernel
theorem dX1_isKnown_21 : decode cX1_isKnown 21 = .ok (.iload_n 2, 1) := by decide +kernel
theorem dX1_isKnown_22 : decode cX1_isKnown 22 = .ok (.iconst 1, 1) := by decide +kernel
theorem dX1_isKnown_23 : decode cX1_isKnown 23 = .ok (.iadd, 1) := by decide +kernel
theorem dX1_isKnown_24 : decode cX1_isKnown 24 = .ok (.iaload, 1) := by decide +kernel
theorem dX1_isKnown_25 : decode cX1_isKnown 25 = .ok (.aload_n 0, 1) := by decide +kernel
theorem dX1_isKnown_26 : decode cX1_isKnown 26 = .ok (.getfield 45, 3) := by decide +kernel
theorem dX1_isKnown_29 : decode cX1_isKnown 29 = .ok (.if_icmp .ne 7, 3) := by decide +kernel
theorem dX1_isKnown_32 : decode cX1_isKnown 32 = .ok (.iconst 1, 1) := by decide +kernel
theorem dX1_isKnown_33 : decode cX1_isKnown 33 = .ok (.goto 4, 3) := by decide +kernel
theorem dX1_isKnown_36 : decode cX1_isKnown 36 = .ok (.iconst 0, 1) := by decide +kernel
theorem dX1_isKnown_37 : decode cX1_isKnown 37 = .ok (.istore_n 3, 1) := by decide +kernel
theorem dX1_isKnown_38 : decode cX1_isKnown 38 = .ok (.iconst 0, 1) := by decide +kernel
theorem dX1_isKnown_39 : decode cX1_isKnown 39 = .ok (.istore 4, 2) := by decide +kernel
theorem dX1_isKnown_41 : decode cX1_isKnown 41 = .ok (.iload 4, 2) := by decide +kernel
theorem dX1_isKnown_43 : decode cX1_isKnown 43 = .ok (.iconst 3, 1) := by decide +kernel
theorem dX1_isKnown_44 : decode cX1_isKnown 44 = .ok (.if_icmp .ge 40, 3) := by decide +kernel
theorem dX1_isKnown_47 : decode cX1_isKnown 47 = .ok (.iload_n 3, 1) := by decide +kernel
theorem dX1_isKnown_48 : decode cX1_isKnown 48 = .ok (.ifCond .eq 28, 3) := by decide +kernel
theorem dX1_isKnown_51 : decode cX1_isKnown 51 = .ok (.aload_n 0, 1) := by decide +kernel
theorem dX1_isKnown_52 : decode cX1_isKnown 52 = .ok (.getfield 19, 3) := by decide +kernel
theorem dX1_isKnown_55 : decode cX1_isKnown 55 = .ok (.iload_n 2, 1) := by decide +kernel
theorem dX1_isKnown_56 : decode cX1_isKnown 56 = .ok (.iconst 2, 1) := by decide +kernel
theorem dX1_isKnown_57 : decode cX1_isKnown 57 = .ok (.iadd, 1) := by decide +kernel
theorem dX1_isKnown_58 : decode cX1_isKnown 58 = .ok (.iload 4, 2) := by decide +kernel
theorem dX1_isKnown_60 : decode cX1_isKnown 60 = .ok (.iadd, 1) := by decide +kernel
theorem dX1_isKnown_61 : decode cX1_isKnown 61 = .ok (.iaload, 1) := by decide +kernel
theorem dX1_isKnown_62 : decode cX1_isKnown 62 = .ok (.aload_n 0, 1) := by decide +kernel
theorem dX1_isKnown_63 : decode cX1_isKnown 63 = .ok (.getfield 22, 3) := by decide +kernel
theorem dX1_isKnown_66 : decode cX1_isKnown 66 = .ok (.iload 4, 2) := by decide +kernel
theorem dX1_isKnown_68 : decode cX1_isKnown 68 = .ok (.iaload, 1) := by decide +kernel
theorem dX1_isKnown_69 : decode cX1_isKnown 69 = .ok (.if_icmp .ne 7, 3) := by decide +kernel
theorem dX1_isKnown_72 : decode cX1_isKnown 72 = .ok (.iconst 1, 1) := by decide +kernel
theorem dX1_isKnown_73 : decode cX1_isKnown 73 = .ok (.goto 4, 3) := by decide +kernel
theorem dX1_isKnown_76 : decode cX1_isKnown 76 = .ok (.iconst 0, 1) := by decide +kernel
theorem dX1_isKnown_77 : decode cX1_isKnown 77 = .ok (.istore_n 3, 1) := by decide +kernel
theorem dX1_isKnown_78 : decode cX1_isKnown 78 = .ok (.iinc 4 1, 3) := by decide +kernel
theorem dX1_isKnown_81 : decode cX1_isKnown 81 = .ok (.goto (-40), 3) := by decide +kernel
theorem dX1_isKnown_84 : decode cX1_isKnown 84 = .ok (.iload_n 3, 1) := by decide +kernel
theorem dX1_isKnown_85 : decode cX1_isKnown 85 = .ok (.ireturn, 1) := by decide +kernel
theorem dX1_effect_0 : decode cX1_effect 0 = .ok (.iload_n 1, 1) := by decide +kernel
theorem dX1_effect_1 : decode cX1_effect 1 = .ok (.tableswitch 214 1 15 #[75, 81, 87, 93, 99, 104, 109, 126, 140, 146, 169, 214, 214, 175, 187], 75) := by decide +kernel
theorem dX1_effect_76 : decode cX1_effect 76 = .ok (.aload_n 0, 1) := by decide +kernel
theorem dX1_effect_77 : decode cX1_effect 77 = .ok (.iload_n 2, 1) := by decide +kernel
theorem dX1_effect_78 : decode cX1_effect 78 = .ok (.invokevirtual 83, 3) := by decide +kernel
theorem dX1_effect_81 : decode cX1_effect 81 = .ok (.ireturn, 1) := by decide +kernel
theorem dX1_effect_82 : decode cX1_effect 82 = .ok (.aload_n 0, 1) := by decide +kernel
theorem dX1_effect_83 : decode cX1_effect 83 = .ok (.iload_n 2, 1) := by decide +kernel
theorem dX1_effect_84 : decode cX1_effect 84 = .ok (.invokevirtual 86, 3) := by decide +kernel
theorem dX1_effect_87 : decode cX1_effect 87 = .ok (.ireturn, 1) := by decide +kernel
theorem dX1_effect_88 : decode cX1_effect 88 = .ok (.aload_n 0, 1) := by decide +kernel
theorem dX1_effect_89 : decode cX1_effect 89 = .ok (.iload_n 2, 1) := by decide +kernel
theorem dX1_effect_90 : decode cX1_effect 90 = .ok (.invokevirtual 89, 3) := by decide +kernel
theorem dX1_effect_93 : decode cX1_effect 93 = .ok (.ireturn, 1) := by decide +kernel
theorem dX1_effect_94 : decode cX1_effect 94 = .ok (.aload_n 0, 1) := by decide +kernel
theorem dX1_effect_95 : decode cX1_effect 95 = .ok (.iload_n 2, 1) := by decide +kernel
theorem dX1_effect_96 : decode cX1_effect 96 = .ok (.invokevirtual 92, 3) := by decide +kernel
theorem dX1_effect_99 : decode cX1_effect 99 = .ok (.ireturn, 1) := by decide +kernel
theorem dX1_effect_100 : decode cX1_effect 100 = .ok (.aload_n 0, 1) := by decide +kernel
theorem dX1_effect_101 : decode cX1_effect 101 = .ok (.invokevirtual 95, 3) := by decide +kernel
theorem dX1_effect_104 : decode cX1_effect 104 = .ok (.ireturn, 1) := by decide +kernel
theorem dX1_effect_105 : decode cX1_effect 105 = .ok (.aload_n 0, 1) := by decide +kernel
theorem dX1_effect_106 : decode cX1_effect 106 = .ok (.invokevirtual 98, 3) := by decide +kernel
theorem dX1_effect_109 : decode cX1_effect 109 = .ok (.ireturn, 1) := by decide +kernel
theorem dX1_effect_110 : decode cX1_effect 110 = .ok (.aload_n 0, 1) := by decide +kernel
theorem dX1_effect_111 : decode cX1_effect 111 = .ok (.getfield 25, 3) := by decide +kernel
theorem dX1_effect_114 : decode cX1_effect 114 = .ok (.iload_n 2, 1) := by decide +kernel
theorem dX1_effect_115 : decode cX1_effect 115 = .ok (.invokevirtual 101, 3) := by decide +kernel
theorem dX1_effect_118 : decode cX1_effect 118 = .ok (.ifCond .eq 7, 3) := by decide +kernel
theorem dX1_effect_121 : decode cX1_effect 121 = .ok (.iconst 0, 1) := by decide +kernel
theorem dX1_effect_122 : decode cX1_effect 122 = .ok (.goto 4, 3) := by decide +kernel
theorem dX1_effect_125 : decode cX1_effect 125 = .ok (.iconst 3, 1) := by decide +kernel
theorem dX1_effect_126 : decode cX1_effect 126 = .ok (.ireturn, 1) := by decide +kernel
theorem dX1_effect_127 : decode cX1_effect 127 = .ok (.aload_n 0, 1) := by decide +kernel
theorem dX1_effect_128 : decode cX1_effect 128 = .ok (.invokevirtual 104, 3) := by decide +kernel
theorem dX1_effect_131 : decode cX1_effect 131 = .ok (.ifCond .eq 7, 3) := by decide +kernel
theorem dX1_effect_134 : decode cX1_effect 134 = .ok (.iconst 0, 1) := by decide +kernel
theorem dX1_effect_135 : decode cX1_effect 135 = .ok (.goto 5, 3) := by decide +kernel
theorem dX1_effect_138 : decode cX1_effect 138 = .ok (.bipush 6, 2) := by decide +kernel
theorem dX1_effect_140 : decode cX1_effect 140 = .ok (.ireturn, 1) := by decide +kernel
theorem dX1_effect_141 : decode cX1_effect 141 = .ok (.aload_n 0, 1) := by decide +kernel
theorem dX1_effect_142 : decode cX1_effect 142 = .ok (.iload_n 2, 1) := by decide +kernel
theorem dX1_effect_143 : decode cX1_effect 143 = .ok (.invokevirtual 108, 3) := by decide +kernel
theorem dX1_effect_146 : decode cX1_effect 146 = .ok (.ireturn, 1) := by decide +kernel
theorem dX1_effect_147 : decode cX1_effect 147 = .ok (.aload_n 0, 1) := by decide +kernel
theorem dX1_effect_148 : decode cX1_effect 148 = .ok (.iload_n 2, 1) := by decide +kernel
theorem dX1_effect_149 : decode cX1_effect 149 = .ok (.invokevirtual 76, 3) := by decide +kernel
theorem dX1_effect_152 : decode cX1_effect 152 = .ok (.ifCond .eq 16, 3) := by decide +kernel
theorem dX1_effect_155 : decode cX1_effect 155 = .ok (.aload_n 0, 1) := by decide +kernel
theorem dX1_effect_156 : decode cX1_effect 156 = .ok (.getfield 15, 3) := by decide +kernel
theorem dX1_effect_159 : decode cX1_effect 159 = .ok (.iload_n 2, 1) := by decide +kernel
theorem dX1_effect_160 : decode cX1_effect 160 = .ok (.baload, 1) := by decide +kernel
theorem dX1_effect_161 : decode cX1_effect 161 = .ok (.ifCond .eq 7, 3) := by decide +kernel
theorem dX1_effect_164 : decode cX1_effect 164 = .ok (.iconst 0, 1) := by decide +kernel
theorem dX1_effect_165 : decode cX1_effect 165 = .ok (.goto 4, 3) := by decide +kernel
theorem dX1_effect_168 : decode cX1_effect 168 = .ok (.iconst 3, 1) := by decide +kernel
theorem dX1_effect_169 : decode cX1_effect 169 = .ok (.ireturn, 1) := by decide +kernel
theorem dX1_effect_170 : decode cX1_effect 170 = .ok (.aload_n 0, 1) := by decide +kernel
theorem dX1_effect_171 : decode cX1_effect 171 = .ok (.iload_n 2, 1) := by decide +kernel
theorem dX1_effect_172 : decode cX1_effect 172 = .ok (.invokevirtual 111, 3) := by decide +kernel
theorem dX1_effect_175 : decode cX1_effect 175 = .ok (.ireturn, 1) := by decide +kernel
theorem dX1_effect_176 : decode cX1_effect 176 = .ok (.aload_n 0, 1) := by decide +kernel
theorem dX1_effect_177 : decode cX1_effect 177 = .ok (.iload_n 2, 1) := by decide +kernel
theorem dX1_effect_178 : decode cX1_effect 178 = .ok (.aload_n 0, 1) := by decide +kernel
theorem dX1_effect_179 : decode cX1_effect 179 = .ok (.getfield 42, 3) := by decide +kernel
theorem dX1_effect_182 : decode cX1_effect 182 = .ok (.iload_n 3, 1) := by decide +kernel
theorem dX1_effect_183 : decode cX1_effect 183 = .ok (.isub, 1) := by decide +kernel
theorem dX1_effect_184 : decode cX1_effect 184 = .ok (.invokevirtual 114, 3) := by decide +kernel
theorem dX1_effect_187 : decode cX1_effect 187 = .ok (.ireturn, 1) := by decide +kernel
theorem dX1_effect_188 : decode cX1_effect 188 = .ok (.iload_n 3, 1) := by decide +kernel
theorem dX1_effect_189 : decode cX1_effect 189 = .ok (.aload_n 0, 1) := by decide +kernel
theorem dX1_effect_190 : decode cX1_effect 190 = .ok (.getfield 42, 3) := by decide +kernel
theorem dX1_effect_193 : decode cX1_effect 193 = .ok (.iconst 1, 1) := by decide +kernel
theorem dX1_effect_194 : decode cX1_effect 194 = .ok (.isub, 1) := by decide +kernel
theorem dX1_effect_195 : decode cX1_effect 195 = .ok (.if_icmp .ge 17, 3) := by decide +kernel
theorem dX1_effect_198 : decode cX1_effect 198 = .ok (.aload_n 0, 1) := by decide +kernel
theorem dX1_effect_199 : decode cX1_effect 199 = .ok (.iload_n 2, 1) := by decide +kernel
theorem dX1_effect_200 : decode cX1_effect 200 = .ok (.aload_n 0, 1) := by decide +kernel
theorem dX1_effect_201 : decode cX1_effect 201 = .ok (.getfield 42, 3) := by decide +kernel
theorem dX1_effect_204 : decode cX1_effect 204 = .ok (.iload_n 3, 1) := by decide +kernel
theorem dX1_effect_205 : decode cX1_effect 205 = .ok (.isub, 1) := by decide +kernel
theorem dX1_effect_206 : decode cX1_effect 206 = .ok (.invokevirtual 117, 3) := by decide +kernel
theorem dX1_effect_209 : decode cX1_effect 209 = .ok (.goto 5, 3) := by decide +kernel
theorem dX1_effect_212 : decode cX1_effect 212 = .ok (.bipush 8, 2) := by decide +kernel
theorem dX1_effect_214 : decode cX1_effect 214 = .ok (.ireturn, 1) := by decide +kernel
theorem dX1_effect_215 : decode cX1_effect 215 = .ok (.iconst 0, 1) := by decide +kernel
theorem dX1_effect_216 : decode cX1_effect 216 = .ok (.ireturn, 1) := by decide +kernel
theorem dX1_pushRegister_0 : decode cX1_pushRegister 0 = .ok (.aload_n 0, 1) := by decide +kernel
theorem dX1_pushRegister_1 : decode cX1_pushRegister 1 = .ok (.iconst 1, 1) := by decide +kernel
theorem dX1_pushRegister_2 : decode cX1_pushRegister 2 = .ok (.invokevirtual 89, 3) := by decide +kernel
theorem dX1_pushRegister_5 : decode cX1_pushRegister 5 = .ok (.istore_n 2, 1) := by decide +kernel
theorem dX1_pushRegister_6 : decode cX1_pushRegister 6 = .ok (.iload_n 2, 1) := by decide +kernel
theorem dX1_pushRegister_7 : decode cX1_pushRegister 7 = .ok (.ifCond .ne 12, 3) := by decide +kernel
theorem dX1_pushRegister_10 : decode cX1_pushRegister 10 = .ok (.aload_n 0, 1) := by decide +kernel
theorem dX1_pushRegister_11 : decode cX1_pushRegister 11 = .ok (.iload_n 1, 1) := by decide +kernel
theorem dX1_pushRegister_12 : decode cX1_pushRegister 12 = .ok (.aload_n 0, 1) := by decide +kernel
theorem dX1_pushRegister_13 : decode cX1_pushRegister 13 = .ok (.getfield 42, 3) := by decide +kernel
theorem dX1_pushRegister_16 : decode cX1_pushRegister 16 = .ok (.invokevirtual 120, 3) := by decide +kernel
theorem dX1_pushRegister_19 : decode cX1_pushRegister 19 = .ok (.iload_n 2, 1) := by decide +kernel
theorem dX1_pushRegister_20 : decode cX1_pushRegister 20 = .ok (.ireturn, 1) := by decide +kernel
theorem dX1_popRegister_0 : decode cX1_popRegister 0 = .ok (.aload_n 0, 1) := by decide +kernel
theorem dX1_popRegister_1 : decode cX1_popRegister 1 = .ok (.getfield 42, 3) := by decide +kernel
theorem dX1_popRegister_4 : decode cX1_popRegister 4 = .ok (.iconst 1, 1) := by decide +kernel
theorem dX1_popRegister_5 : decode cX1_popRegister 5 = .ok (.if_icmp .ne 5, 3) := by decide +kernel
theorem dX1_popRegister_8 : decode cX1_popRegister 8 = .ok (.iconst 5, 1) := by decide +kernel
theorem dX1_popRegister_9 : decode cX1_popRegister 9 = .ok (.ireturn, 1) := by decide +kernel
theorem dX1_popRegister_10 : decode cX1_popRegister 10 = .ok (.aload_n 0, 1) := by decide +kernel
theorem dX1_popRegister_11 : decode cX1_popRegister 11 = .ok (.iload_n 1, 1) := by decide +kernel
theorem dX1_popRegister_12 : decode cX1_popRegister 12 = .ok (.aload_n 0, 1) := by decide +kernel
theorem dX1_popRegister_13 : decode cX1_popRegister 13 = .ok (.getfield 42, 3) := by decide +kernel
theorem dX1_popRegister_16 : decode cX1_popRegister 16 = .ok (.invokevirtual 117, 3) := by decide +kernel
theorem dX1_popRegister_19 : decode cX1_popRegister 19 = .ok (.istore_n 2, 1) := by decide +kernel
theorem dX1_popRegister_20 : decode cX1_popRegister 20 = .ok (.iload_n 2, 1) := by decide +kernel
theorem dX1_popRegister_21 : decode cX1_popRegister 21 = .ok (.ifCond .ne 11, 3) := by decide +kernel
theorem dX1_popRegister_24 : decode cX1_popRegister 24 = .ok (.aload_n 0, 1) := by decide +kernel
theorem dX1_popRegister_25 : decode cX1_popRegister 25 = .ok (.iconst 1, 1) := by decide +kernel
theorem dX1_popRegister_26 : decode cX1_popRegister 26 = .ok (.invokevirtual 92, 3) := by decide +kernel
theorem dX1_popRegister_29 : decode cX1_popRegister 29 = .ok (.goto 4, 3) := by decide +kernel
theorem dX1_popRegister_32 : decode cX1_popRegister 32 = .ok (.iload_n 2, 1) := by decide +kernel
theorem dX1_popRegister_33 : decode cX1_popRegister 33 = .ok (.ireturn, 1) := by decide +kernel
theorem dX1_setFrame_0 : decode cX1_setFrame 0 = .ok (.aload_n 0, 1) := by decide +kernel
theorem dX1_setFrame_1 : decode cX1_setFrame 1 = .ok (.iconst 0, 1) := by decide +kernel
theorem dX1_setFrame_2 : decode cX1_setFrame 2 = .ok (.invokevirtual 111, 3) := by decide +kernel
theorem dX1_setFrame_5 : decode cX1_setFrame 5 = .ok (.istore_n 1, 1) := by decide +kernel
theorem dX1_setFrame_6 : decode cX1_setFrame 6 = .ok (.iload_n 1, 1) := by decide +kernel
theorem dX1_setFrame_7 : decode cX1_setFrame 7 = .ok (.ifCond .ne 11, 3) := by decide +kernel
theorem dX1_setFrame_10 : decode cX1_setFrame 10 = .ok (.aload_n 0, 1) := by decide +kernel
theorem dX1_setFrame_11 : decode cX1_setFrame 11 = .ok (.aload_n 0, 1) := by decide +kernel
theorem dX1_setFrame_12 : decode cX1_setFrame 12 = .ok (.getfield 42, 3) := by decide +kernel
theorem dX1_setFrame_15 : decode cX1_setFrame 15 = .ok (.putfield 45, 3) := by decide +kernel
theorem dX1_setFrame_18 : decode cX1_setFrame 18 = .ok (.iload_n 1, 1) := by decide +kernel
theorem dX1_setFrame_19 : decode cX1_setFrame 19 = .ok (.ireturn, 1) := by decide +kernel
theorem dX1_dropToFrame_0 : decode cX1_dropToFrame 0 = .ok (.aload_n 0, 1) := by decide +kernel
theorem dX1_dropToFrame_1 : decode cX1_dropToFrame 1 = .ok (.getfield 45, 3) := by decide +kernel
theorem dX1_dropToFrame_4 : decode cX1_dropToFrame 4 = .ok (.ifCond .eq 14, 3) := by decide +kernel
theorem dX1_dropToFrame_7 : decode cX1_dropToFrame 7 = .ok (.aload_n 0, 1) := by decide +kernel
theorem dX1_dropToFrame_8 : decode cX1_dropToFrame 8 = .ok (.getfield 45, 3) := by decide +kernel
theorem dX1_dropToFrame_11 : decode cX1_dropToFrame 11 = .ok (.aload_n 0, 1) := by decide +kernel
theorem dX1_dropToFrame_12 : decode cX1_dropToFrame 12 = .ok (.getfield 42, 3) := by decide +kernel
theorem dX1_dropToFrame_15 : decode cX1_dropToFrame 15 = .ok (.if_icmp .le 7, 3) := by decide +kernel
theorem dX1_dropToFrame_18 : decode cX1_dropToFrame 18 = .ok (.iconst 5, 1) := by decide +kernel
theorem dX1_dropToFrame_19 : decode cX1_dropToFrame 19 = .ok (.goto 16, 3) := by decide +kernel
theorem dX1_dropToFrame_22 : decode cX1_dropToFrame 22 = .ok (.aload_n 0, 1) := by decide +kernel
theorem dX1_dropToFrame_23 : decode cX1_dropToFrame 23 = .ok (.aload_n 0, 1) := by decide +kernel
theorem dX1_dropToFrame_24 : decode cX1_dropToFrame 24 = .ok (.getfield 42, 3) := by decide +kernel
theorem dX1_dropToFrame_27 : decode cX1_dropToFrame 27 = .ok (.aload_n 0, 1) := by decide +kernel
theorem dX1_dropToFrame_28 : decode cX1_dropToFrame 28 = .ok (.getfield 45, 3) := by decide +kernel
theorem dX1_dropToFrame_31 : decode cX1_dropToFrame 31 = .ok (.isub, 1) := by decide +kernel
theorem dX1_dropToFrame_32 : decode cX1_dropToFrame 32 = .ok (.invokevirtual 92, 3) := by decide +kernel
theorem dX1_dropToFrame_35 : decode cX1_dropToFrame 35 = .ok (.ireturn, 1) := by decide +kernel
theorem dX1_jumpTo_0 : decode cX1_jumpTo 0 = .ok (.aload_n 0, 1) := by decide +kernel
theorem dX1_jumpTo_1 : decode cX1_jumpTo 1 = .ok (.iload_n 1, 1) := by decide +kernel
theorem dX1_jumpTo_2 : decode cX1_jumpTo 2 = .ok (.invokevirtual 76, 3) := by decide +kernel
theorem dX1_jumpTo_5 : decode cX1_jumpTo 5 = .ok (.ifCond .eq 18, 3) := by decide +kernel
theorem dX1_jumpTo_8 : decode cX1_jumpTo 8 = .ok (.aload_n 0, 1) := by decide +kernel
theorem dX1_jumpTo_9 : decode cX1_jumpTo 9 = .ok (.getfield 15, 3) := by decide +kernel
theorem dX1_jumpTo_12 : decode cX1_jumpTo 12 = .ok (.iload_n 1, 1) := by decide +kernel
theorem dX1_jumpTo_13 : decode cX1_jumpTo 13 = .ok (.baload, 1) := by decide +kernel
theorem dX1_jumpTo_14 : decode cX1_jumpTo 14 = .ok (.ifCond .eq 7, 3) := by decide +kernel
theorem dX1_jumpTo_17 : decode cX1_jumpTo 17 = .ok (.iconst 0, 1) := by decide +kernel
theorem dX1_jumpTo_18 : decode cX1_jumpTo 18 = .ok (.goto 4, 3) := by decide +kernel
theorem dX1_jumpTo_21 : decode cX1_jumpTo 21 = .ok (.iconst 3, 1) := by decide +kernel
theorem dX1_jumpTo_22 : decode cX1_jumpTo 22 = .ok (.ireturn, 1) := by decide +kernel
theorem dX1_jumpTo_23 : decode cX1_jumpTo 23 = .ok (.aload_n 0, 1) := by decide +kernel
theorem dX1_jumpTo_24 : decode cX1_jumpTo 24 = .ok (.getfield 25, 3) := by decide +kernel
theorem dX1_jumpTo_27 : decode cX1_jumpTo 27 = .ok (.iload_n 1, 1) := by decide +kernel
theorem dX1_jumpTo_28 : decode cX1_jumpTo 28 = .ok (.invokevirtual 101, 3) := by decide +kernel
theorem dX1_jumpTo_31 : decode cX1_jumpTo 31 = .ok (.ifCond .ne 5, 3) := by decide +kernel
theorem dX1_jumpTo_34 : decode cX1_jumpTo 34 = .ok (.iconst 3, 1) := by decide +kernel
theorem dX1_jumpTo_35 : decode cX1_jumpTo 35 = .ok (.ireturn, 1) := by decide +kernel
theorem dX1_jumpTo_36 : decode cX1_jumpTo 36 = .ok (.aload_n 0, 1) := by decide +kernel
theorem dX1_jumpTo_37 : decode cX1_jumpTo 37 = .ok (.invokevirtual 104, 3) := by decide +kernel
theorem dX1_jumpTo_40 : decode cX1_jumpTo 40 = .ok (.ifCond .eq 7, 3) := by decide +kernel
theorem dX1_jumpTo_43 : decode cX1_jumpTo 43 = .ok (.iconst 0, 1) := by decide +kernel
theorem dX1_jumpTo_44 : decode cX1_jumpTo 44 = .ok (.goto 5, 3) := by decide +kernel
theorem dX1_jumpTo_47 : decode cX1_jumpTo 47 = .ok (.bipush 6, 2) := by decide +kernel
theorem dX1_jumpTo_49 : decode cX1_jumpTo 49 = .ok (.ireturn, 1) := by decide +kernel
theorem dX1_store_0 : decode cX1_store 0 = .ok (.iload_n 2, 1) := by decide +kernel
theorem dX1_store_1 : decode cX1_store 1 = .ok (.iconst 2, 1) := by decide +kernel
theorem dX1_store_2 : decode cX1_store 2 = .ok (.if_icmp .lt 19, 3) := by decide +kernel
theorem dX1_store_5 : decode cX1_store 5 = .ok (.iload_n 2, 1) := by decide +kernel
theorem dX1_store_6 : decode cX1_store 6 = .ok (.aload_n 0, 1) := by decide +kernel
theorem dX1_store_7 : decode cX1_store 7 = .ok (.getfield 42, 3) := by decide +kernel
theorem dX1_store_10 : decode cX1_store 10 = .ok (.if_icmp .gt 11, 3) := by decide +kernel
theorem dX1_store_13 : decode cX1_store 13 = .ok (.aload_n 0, 1) := by decide +kernel
theorem dX1_store_14 : decode cX1_store 14 = .ok (.iload_n 2, 1) := by decide +kernel
theorem dX1_store_15 : decode cX1_store 15 = .ok (.invokevirtual 124, 3) := by decide +kernel
theorem dX1_store_18 : decode cX1_store 18 = .ok (.ifCond .eq 6, 3) := by decide +kernel
theorem dX1_store_21 : decode cX1_store 21 = .ok (.bipush 8, 2) := by decide +kernel
theorem dX1_store_23 : decode cX1_store 23 = .ok (.ireturn, 1) := by decide +kernel
theorem dX1_store_24 : decode cX1_store 24 = .ok (.aload_n 0, 1) := by decide +kernel
theorem dX1_store_25 : decode cX1_store 25 = .ok (.iload_n 1, 1) := by decide +kernel
theorem dX1_store_26 : decode cX1_store 26 = .ok (.iload_n 2, 1) := by decide +kernel
theorem dX1_store_27 : decode cX1_store 27 = .ok (.invokevirtual 120, 3) := by decide +kernel
theorem dX1_store_30 : decode cX1_store 30 = .ok (.iconst 0, 1) := by decide +kernel
theorem dX1_store_31 : decode cX1_store 31 = .ok (.ireturn, 1) := by decide +kernel
theorem dX1_gain_0 : decode cX1_gain 0 = .ok (.aload_n 0, 1) := by decide +kernel
theorem dX1_gain_1 : decode cX1_gain 1 = .ok (.dup, 1) := by decide +kernel
theorem dX1_gain_2 : decode cX1_gain 2 = .ok (.getfield 42, 3) := by decide +kernel
theorem dX1_gain_5 : decode cX1_gain 5 = .ok (.iload_n 1, 1) := by decide +kernel
theorem dX1_gain_6 : decode cX1_gain 6 = .ok (.iadd, 1) := by decide +kernel
theorem dX1_gain_7 : decode cX1_gain 7 = .ok (.putfield 42, 3) := by decide +kernel
theorem dX1_gain_10 : decode cX1_gain 10 = .ok (.aload_n 0, 1) := by decide +kernel
theorem dX1_gain_11 : decode cX1_gain 11 = .ok (.getfield 42, 3) := by decide +kernel
theorem dX1_gain_14 : decode cX1_gain 14 = .ok (.bipush 30, 2) := by decide +kernel
theorem dX1_gain_16 : decode cX1_gain 16 = .ok (.if_icmp .le 8, 3) := by decide +kernel
theorem dX1_gain_19 : decode cX1_gain 19 = .ok (.bipush 9, 2) := by decide +kernel
theorem dX1_gain_21 : decode cX1_gain 21 = .ok (.goto 4, 3) := by decide +kernel
theorem dX1_gain_24 : decode cX1_gain 24 = .ok (.iconst 0, 1) := by decide +kernel
theorem dX1_gain_25 : decode cX1_gain 25 = .ok (.ireturn, 1) := by decide +kernel
theorem dX1_lose_0 : decode cX1_lose 0 = .ok (.aload_n 0, 1) := by decide +kernel
theorem dX1_lose_1 : decode cX1_lose 1 = .ok (.dup, 1) := by decide +kernel
theorem dX1_lose_2 : decode cX1_lose 2 = .ok (.getfield 42, 3) := by decide +kernel
theorem dX1_lose_5 : decode cX1_lose 5 = .ok (.iload_n 1, 1) := by decide +kernel
theorem dX1_lose_6 : decode cX1_lose 6 = .ok (.isub, 1) := by decide +kernel
theorem dX1_lose_7 : decode cX1_lose 7 = .ok (.putfield 42, 3) := by decide +kernel
theorem dX1_lose_10 : decode cX1_lose 10 = .ok (.aload_n 0, 1) := by decide +kernel
theorem dX1_lose_11 : decode cX1_lose 11 = .ok (.getfield 42, 3) := by decide +kernel
theorem dX1_lose_14 : decode cX1_lose 14 = .ok (.iconst 1, 1) := by decide +kernel
theorem dX1_lose_15 : decode cX1_lose 15 = .ok (.if_icmp .ge 7, 3) := by decide +kernel
theorem dX1_lose_18 : decode cX1_lose 18 = .ok (.iconst 1, 1) := by decide +kernel
theorem dX1_lose_19 : decode cX1_lose 19 = .ok (.goto 4, 3) := by decide +kernel
theorem dX1_lose_22 : decode cX1_lose 22 = .ok (.iconst 0, 1) := by decide +kernel
theorem dX1_lose_23 : decode cX1_lose 23 = .ok (.istore_n 2, 1) := by decide +kernel
theorem dX1_lose_24 : decode cX1_lose 24 = .ok (.iconst 0, 1) := by decide +kernel
theorem dX1_lose_25 : decode cX1_lose 25 = .ok (.istore_n 3, 1) := by decide +kernel
theorem dX1_lose_26 : decode cX1_lose 26 = .ok (.iload_n 3, 1) := by decide +kernel
theorem dX1_lose_27 : decode cX1_lose 27 = .ok (.iconst 3, 1) := by decide +kernel
theorem dX1_lose_28 : decode cX1_lose 28 = .ok (.if_icmp .ge 32, 3) := by decide +kernel
theorem dX1_lose_31 : decode cX1_lose 31 = .ok (.iload_n 2, 1) := by decide +kernel
theorem dX1_lose_32 : decode cX1_lose 32 = .ok (.ifCond .ne 16, 3) := by decide +kernel
theorem dX1_lose_35 : decode cX1_lose 35 = .ok (.aload_n 0, 1) := by decide +kernel
theorem dX1_lose_36 : decode cX1_lose 36 = .ok (.getfield 22, 3) := by decide +kernel
theorem dX1_lose_39 : decode cX1_lose 39 = .ok (.iload_n 3, 1) := by decide +kernel
theorem dX1_lose_40 : decode cX1_lose 40 = .ok (.iaload, 1) := by decide +kernel
theorem dX1_lose_41 : decode cX1_lose 41 = .ok (.aload_n 0, 1) := by decide +kernel
theorem dX1_lose_42 : decode cX1_lose 42 = .ok (.getfield 42, 3) := by decide +kernel
theorem dX1_lose_45 : decode cX1_lose 45 = .ok (.if_icmp .le 7, 3) := by decide +kernel
theorem dX1_lose_48 : decode cX1_lose 48 = .ok (.iconst 1, 1) := by decide +kernel
theorem dX1_lose_49 : decode cX1_lose 49 = .ok (.goto 4, 3) := by decide +kernel
theorem dX1_lose_52 : decode cX1_lose 52 = .ok (.iconst 0, 1) := by decide +kernel
theorem dX1_lose_53 : decode cX1_lose 53 = .ok (.istore_n 2, 1) := by decide +kernel
theorem dX1_lose_54 : decode cX1_lose 54 = .ok (.iinc 3 1, 3) := by decide +kernel
theorem dX1_lose_57 : decode cX1_lose 57 = .ok (.goto (-31), 3) := by decide +kernel
theorem dX1_lose_60 : decode cX1_lose 60 = .ok (.iload_n 2, 1) := by decide +kernel
theorem dX1_lose_61 : decode cX1_lose 61 = .ok (.ifCond .eq 7, 3) := by decide +kernel
theorem dX1_lose_64 : decode cX1_lose 64 = .ok (.iconst 5, 1) := by decide +kernel
theorem dX1_lose_65 : decode cX1_lose 65 = .ok (.goto 4, 3) := by decide +kernel
theorem dX1_lose_68 : decode cX1_lose 68 = .ok (.iconst 0, 1) := by decide +kernel
theorem dX1_lose_69 : decode cX1_lose 69 = .ok (.ireturn, 1) := by decide +kernel
theorem dX1_save_0 : decode cX1_save 0 = .ok (.aload_n 0, 1) := by decide +kernel
theorem dX1_save_1 : decode cX1_save 1 = .ok (.getfield 22, 3) := by decide +kernel
theorem dX1_save_4 : decode cX1_save 4 = .ok (.iload_n 1, 1) := by decide +kernel
theorem dX1_save_5 : decode cX1_save 5 = .ok (.iaload, 1) := by decide +kernel
theorem dX1_save_6 : decode cX1_save 6 = .ok (.ifCond .ne 10, 3) := by decide +kernel
theorem dX1_save_9 : decode cX1_save 9 = .ok (.aload_n 0, 1) := by decide +kernel
theorem dX1_save_10 : decode cX1_save 10 = .ok (.getfield 22, 3) := by decide +kernel
theorem dX1_save_13 : decode cX1_save 13 = .ok (.iload_n 1, 1) := by decide +kernel
theorem dX1_save_14 : decode cX1_save 14 = .ok (.iload_n 2, 1) := by decide +kernel
theorem dX1_save_15 : decode cX1_save 15 = .ok (.iastore, 1) := by decide +kernel
theorem dX1_save_16 : decode cX1_save 16 = .ok (.return_, 1) := by decide +kernel
theorem dX1_spoil_0 : decode cX1_spoil 0 = .ok (.aload_n 0, 1) := by decide +kernel
theorem dX1_spoil_1 : decode cX1_spoil 1 = .ok (.getfield 22, 3) := by decide +kernel
theorem dX1_spoil_4 : decode cX1_spoil 4 = .ok (.iload_n 1, 1) := by decide +kernel
theorem dX1_spoil_5 : decode cX1_spoil 5 = .ok (.iaload, 1) := by decide +kernel
theorem dX1_spoil_6 : decode cX1_spoil 6 = .ok (.ifCond .ne 5, 3) := by decide +kernel
theorem dX1_spoil_9 : decode cX1_spoil 9 = .ok (.iconst 4, 1) := by decide +kernel
theorem dX1_spoil_10 : decode cX1_spoil 10 = .ok (.ireturn, 1) := by decide +kernel
theorem dX1_spoil_11 : decode cX1_spoil 11 = .ok (.iload_n 1, 1) := by decide +kernel
theorem dX1_spoil_12 : decode cX1_spoil 12 = .ok (.ifCond .ne 8, 3) := by decide +kernel
theorem dX1_spoil_15 : decode cX1_spoil 15 = .ok (.aload_n 0, 1) := by decide +kernel
theorem dX1_spoil_16 : decode cX1_spoil 16 = .ok (.iconst 0, 1) := by decide +kernel
theorem dX1_spoil_17 : decode cX1_spoil 17 = .ok (.putfield 45, 3) := by decide +kernel
theorem dX1_spoil_20 : decode cX1_spoil 20 = .ok (.iconst 0, 1) := by decide +kernel
theorem dX1_spoil_21 : decode cX1_spoil 21 = .ok (.ireturn, 1) := by decide +kernel
theorem dX1_give_0 : decode cX1_give 0 = .ok (.aload_n 0, 1) := by decide +kernel
theorem dX1_give_1 : decode cX1_give 1 = .ok (.getfield 22, 3) := by decide +kernel
theorem dX1_give_4 : decode cX1_give 4 = .ok (.iload_n 1, 1) := by decide +kernel
theorem dX1_give_5 : decode cX1_give 5 = .ok (.iaload, 1) := by decide +kernel
theorem dX1_give_6 : decode cX1_give 6 = .ok (.ifCond .ne 5, 3) := by decide +kernel
theorem dX1_give_9 : decode cX1_give 9 = .ok (.iconst 4, 1) := by decide +kernel
theorem dX1_give_10 : decode cX1_give 10 = .ok (.ireturn, 1) := by decide +kernel
theorem dX1_give_11 : decode cX1_give 11 = .ok (.aload_n 0, 1) := by decide +kernel
theorem dX1_give_12 : decode cX1_give 12 = .ok (.getfield 22, 3) := by decide +kernel
theorem dX1_give_15 : decode cX1_give 15 = .ok (.iload_n 1, 1) := by decide +kernel
theorem dX1_give_16 : decode cX1_give 16 = .ok (.iaload, 1) := by decide +kernel
theorem dX1_give_17 : decode cX1_give 17 = .ok (.iload_n 2, 1) := by decide +kernel
theorem dX1_give_18 : decode cX1_give 18 = .ok (.if_icmp .ne 10, 3) := by decide +kernel
theorem dX1_give_21 : decode cX1_give 21 = .ok (.aload_n 0, 1) := by decide +kernel
theorem dX1_give_22 : decode cX1_give 22 = .ok (.getfield 22, 3) := by decide +kernel
theorem dX1_give_25 : decode cX1_give 25 = .ok (.iload_n 1, 1) := by decide +kernel
theorem dX1_give_26 : decode cX1_give 26 = .ok (.iconst 0, 1) := by decide +kernel
theorem dX1_give_27 : decode cX1_give 27 = .ok (.iastore, 1) := by decide +kernel
theorem dX1_give_28 : decode cX1_give 28 = .ok (.iload_n 1, 1) := by decide +kernel
theorem dX1_give_29 : decode cX1_give 29 = .ok (.ifCond .ne 8, 3) := by decide +kernel
theorem dX1_give_32 : decode cX1_give 32 = .ok (.aload_n 0, 1) := by decide +kernel
theorem dX1_give_33 : decode cX1_give 33 = .ok (.iconst 0, 1) := by decide +kernel
theorem dX1_give_34 : decode cX1_give 34 = .ok (.putfield 45, 3) := by decide +kernel
theorem dX1_give_37 : decode cX1_give 37 = .ok (.iconst 0, 1) := by decide +kernel
theorem dX1_give_38 : decode cX1_give 38 = .ok (.ireturn, 1) := by decide +kernel
theorem dX1_holdsSaved_0 : decode cX1_holdsSaved 0 = .ok (.iconst 0, 1) := by decide +kernel
theorem dX1_holdsSaved_1 : decode cX1_holdsSaved 1 = .ok (.istore_n 2, 1) := by decide +kernel
theorem dX1_holdsSaved_2 : decode cX1_holdsSaved 2 = .ok (.iload_n 2, 1) := by decide +kernel
theorem dX1_holdsSaved_3 : decode cX1_holdsSaved 3 = .ok (.iconst 3, 1) := by decide +kernel
theorem dX1_holdsSaved_4 : decode cX1_holdsSaved 4 = .ok (.if_icmp .ge 21, 3) := by decide +kernel
theorem dX1_holdsSaved_7 : decode cX1_holdsSaved 7 = .ok (.aload_n 0, 1) := by decide +kernel
theorem dX1_holdsSaved_8 : decode cX1_holdsSaved 8 = .ok (.getfield 22, 3) := by decide +kernel
theorem dX1_holdsSaved_11 : decode cX1_holdsSaved 11 = .ok (.iload_n 2, 1) := by decide +kernel
theorem dX1_holdsSaved_12 : decode cX1_holdsSaved 12 = .ok (.iaload, 1) := by decide +kernel
theorem dX1_holdsSaved_13 : decode cX1_holdsSaved 13 = .ok (.iload_n 1, 1) := by decide +kernel
theorem dX1_holdsSaved_14 : decode cX1_holdsSaved 14 = .ok (.if_icmp .ne 5, 3) := by decide +kernel
theorem dX1_holdsSaved_17 : decode cX1_holdsSaved 17 = .ok (.iconst 1, 1) := by decide +kernel
theorem dX1_holdsSaved_18 : decode cX1_holdsSaved 18 = .ok (.ireturn, 1) := by decide +kernel
theorem dX1_holdsSaved_19 : decode cX1_holdsSaved 19 = .ok (.iinc 2 1, 3) := by decide +kernel
theorem dX1_holdsSaved_22 : decode cX1_holdsSaved 22 = .ok (.goto (-20), 3) := by decide +kernel
theorem dX1_holdsSaved_25 : decode cX1_holdsSaved 25 = .ok (.iconst 0, 1) := by decide +kernel
theorem dX1_holdsSaved_26 : decode cX1_holdsSaved 26 = .ok (.ireturn, 1) := by decide +kernel
theorem dX1_isAsBeforeCall_0 : decode cX1_isAsBeforeCall 0 = .ok (.aload_n 0, 1) := by decide +kernel
theorem dX1_isAsBeforeCall_1 : decode cX1_isAsBeforeCall 1 = .ok (.getfield 42, 3) := by decide +kernel
theorem dX1_isAsBeforeCall_4 : decode cX1_isAsBeforeCall 4 = .ok (.iconst 1, 1) := by decide +kernel
theorem dX1_isAsBeforeCall_5 : decode cX1_isAsBeforeCall 5 = .ok (.if_icmp .ne 7, 3) := by decide +kernel
theorem dX1_isAsBeforeCall_8 : decode cX1_isAsBeforeCall 8 = .ok (.iconst 1, 1) := by decide +kernel
theorem dX1_isAsBeforeCall_9 : decode cX1_isAsBeforeCall 9 = .ok (.goto 4, 3) := by decide +kernel
theorem dX1_isAsBeforeCall_12 : decode cX1_isAsBeforeCall 12 = .ok (.iconst 0, 1) := by decide +kernel
theorem dX1_isAsBeforeCall_13 : decode cX1_isAsBeforeCall 13 = .ok (.istore_n 1, 1) := by decide +kernel
theorem dX1_isAsBeforeCall_14 : decode cX1_isAsBeforeCall 14 = .ok (.iconst 0, 1) := by decide +kernel
theorem dX1_isAsBeforeCall_15 : decode cX1_isAsBeforeCall 15 = .ok (.istore_n 2, 1) := by decide +kernel
theorem dX1_isAsBeforeCall_16 : decode cX1_isAsBeforeCall 16 = .ok (.iload_n 2, 1) := by decide +kernel
theorem dX1_isAsBeforeCall_17 : decode cX1_isAsBeforeCall 17 = .ok (.iconst 3, 1) := by decide +kernel
theorem dX1_isAsBeforeCall_18 : decode cX1_isAsBeforeCall 18 = .ok (.if_icmp .ge 28, 3) := by decide +kernel
theorem dX1_isAsBeforeCall_21 : decode cX1_isAsBeforeCall 21 = .ok (.iload_n 1, 1) := by decide +kernel
theorem dX1_isAsBeforeCall_22 : decode cX1_isAsBeforeCall 22 = .ok (.ifCond .eq 16, 3) := by decide +kernel
theorem dX1_isAsBeforeCall_25 : decode cX1_isAsBeforeCall 25 = .ok (.aload_n 0, 1) := by decide +kernel
theorem dX1_isAsBeforeCall_26 : decode cX1_isAsBeforeCall 26 = .ok (.getfield 22, 3) := by decide +kernel
theorem dX1_isAsBeforeCall_29 : decode cX1_isAsBeforeCall 29 = .ok (.iload_n 2, 1) := by decide +kernel
theorem dX1_isAsBeforeCall_30 : decode cX1_isAsBeforeCall 30 = .ok (.iaload, 1) := by decide +kernel
theorem dX1_isAsBeforeCall_31 : decode cX1_isAsBeforeCall 31 = .ok (.ifCond .ne 7, 3) := by decide +kernel
theorem dX1_isAsBeforeCall_34 : decode cX1_isAsBeforeCall 34 = .ok (.iconst 1, 1) := by decide +kernel
theorem dX1_isAsBeforeCall_35 : decode cX1_isAsBeforeCall 35 = .ok (.goto 4, 3) := by decide +kernel
theorem dX1_isAsBeforeCall_38 : decode cX1_isAsBeforeCall 38 = .ok (.iconst 0, 1) := by decide +kernel
theorem dX1_isAsBeforeCall_39 : decode cX1_isAsBeforeCall 39 = .ok (.istore_n 1, 1) := by decide +kernel
theorem dX1_isAsBeforeCall_40 : decode cX1_isAsBeforeCall 40 = .ok (.iinc 2 1, 3) := by decide +kernel
theorem dX1_isAsBeforeCall_43 : decode cX1_isAsBeforeCall 43 = .ok (.goto (-27), 3) := by decide +kernel
theorem dX1_isAsBeforeCall_46 : decode cX1_isAsBeforeCall 46 = .ok (.iload_n 1, 1) := by decide +kernel
theorem dX1_isAsBeforeCall_47 : decode cX1_isAsBeforeCall 47 = .ok (.ireturn, 1) := by decide +kernel
theorem dX1_fillRow_0 : decode cX1_fillRow 0 = .ok (.aload_n 0, 1) := by decide +kernel
theorem dX1_fillRow_1 : decode cX1_fillRow 1 = .ok (.getfield 9, 3) := by decide +kernel
theorem dX1_fillRow_4 : decode cX1_fillRow 4 = .ok (.iload_n 1, 1) := by decide +kernel
theorem dX1_fillRow_5 : decode cX1_fillRow 5 = .ok (.iaload, 1) := by decide +kernel
theorem dX1_fillRow_6 : decode cX1_fillRow 6 = .ok (.ifCond .ne 5, 3) := by decide +kernel
theorem dX1_fillRow_9 : decode cX1_fillRow 9 = .ok (.iconst 0, 1) := by decide +kernel
theorem dX1_fillRow_10 : decode cX1_fillRow 10 = .ok (.ireturn, 1) := by decide +kernel
theorem dX1_fillRow_11 : decode cX1_fillRow 11 = .ok (.aload_n 0, 1) := by decide +kernel
theorem dX1_fillRow_12 : decode cX1_fillRow 12 = .ok (.iload_n 1, 1) := by decide +kernel
theorem dX1_fillRow_13 : decode cX1_fillRow 13 = .ok (.invokevirtual 65, 3) := by decide +kernel
theorem dX1_fillRow_16 : decode cX1_fillRow 16 = .ok (.aload_n 2, 1) := by decide +kernel
theorem dX1_fillRow_17 : decode cX1_fillRow 17 = .ok (.aload_n 0, 1) := by decide +kernel
theorem dX1_fillRow_18 : decode cX1_fillRow 18 = .ok (.getfield 45, 3) := by decide +kernel
theorem dX1_fillRow_21 : decode cX1_fillRow 21 = .ok (.ifCond .eq 7, 3) := by decide +kernel
theorem dX1_fillRow_24 : decode cX1_fillRow 24 = .ok (.iconst 1, 1) := by decide +kernel
theorem dX1_fillRow_25 : decode cX1_fillRow 25 = .ok (.goto 4, 3) := by decide +kernel
theorem dX1_fillRow_28 : decode cX1_fillRow 28 = .ok (.iconst 0, 1) := by decide +kernel
theorem dX1_fillRow_29 : decode cX1_fillRow 29 = .ok (.putfield 127, 3) := by decide +kernel
theorem dX1_fillRow_32 : decode cX1_fillRow 32 = .ok (.aload_n 2, 1) := by decide +kernel
theorem dX1_fillRow_33 : decode cX1_fillRow 33 = .ok (.aload_n 0, 1) := by decide +kernel
theorem dX1_fillRow_34 : decode cX1_fillRow 34 = .ok (.getfield 45, 3) := by decide +kernel
theorem dX1_fillRow_37 : decode cX1_fillRow 37 = .ok (.ifCond .eq 10, 3) := by decide +kernel
theorem dX1_fillRow_40 : decode cX1_fillRow 40 = .ok (.aload_n 0, 1) := by decide +kernel
theorem dX1_fillRow_41 : decode cX1_fillRow 41 = .ok (.getfield 45, 3) := by decide +kernel
theorem dX1_fillRow_44 : decode cX1_fillRow 44 = .ok (.goto 7, 3) := by decide +kernel
theorem dX1_fillRow_47 : decode cX1_fillRow 47 = .ok (.aload_n 0, 1) := by decide +kernel
theorem dX1_fillRow_48 : decode cX1_fillRow 48 = .ok (.getfield 42, 3) := by decide +kernel
theorem dX1_fillRow_51 : decode cX1_fillRow 51 = .ok (.putfield 132, 3) := by decide +kernel
theorem dX1_fillRow_54 : decode cX1_fillRow 54 = .ok (.iconst 0, 1) := by decide +kernel
theorem dX1_fillRow_55 : decode cX1_fillRow 55 = .ok (.istore_n 3, 1) := by decide +kernel
theorem dX1_fillRow_56 : decode cX1_fillRow 56 = .ok (.iload_n 3, 1) := by decide +kernel
theorem dX1_fillRow_57 : decode cX1_fillRow 57 = .ok (.iconst 3, 1) := by decide +kernel
theorem dX1_fillRow_58 : decode cX1_fillRow 58 = .ok (.if_icmp .ge 21, 3) := by decide +kernel
theorem dX1_fillRow_61 : decode cX1_fillRow 61 = .ok (.aload_n 2, 1) := by decide +kernel
theorem dX1_fillRow_62 : decode cX1_fillRow 62 = .ok (.getfield 135, 3) := by decide +kernel
theorem dX1_fillRow_65 : decode cX1_fillRow 65 = .ok (.iload_n 3, 1) := by decide +kernel
theorem dX1_fillRow_66 : decode cX1_fillRow 66 = .ok (.aload_n 0, 1) := by decide +kernel
theorem dX1_fillRow_67 : decode cX1_fillRow 67 = .ok (.getfield 22, 3) := by decide +kernel
theorem dX1_fillRow_70 : decode cX1_fillRow 70 = .ok (.iload_n 3, 1) := by decide +kernel
theorem dX1_fillRow_71 : decode cX1_fillRow 71 = .ok (.iaload, 1) := by decide +kernel
theorem dX1_fillRow_72 : decode cX1_fillRow 72 = .ok (.iastore, 1) := by decide +kernel
theorem dX1_fillRow_73 : decode cX1_fillRow 73 = .ok (.iinc 3 1, 3) := by decide +kernel
theorem dX1_fillRow_76 : decode cX1_fillRow 76 = .ok (.goto (-20), 3) := by decide +kernel
theorem dX1_fillRow_79 : decode cX1_fillRow 79 = .ok (.iconst 1, 1) := by decide +kernel
theorem dX1_fillRow_80 : decode cX1_fillRow 80 = .ok (.ireturn, 1) := by decide +kernel
theorem dX2_init_0 : decode cX2_init 0 = .ok (.aload_n 0, 1) := by decide +kernel
theorem dX2_init_1 : decode cX2_init 1 = .ok (.invokespecial 3, 3) := by decide +kernel
theorem dX2_init_4 : decode cX2_init 4 = .ok (.aload_n 0, 1) := by decide +kernel
theorem dX2_init_5 : decode cX2_init 5 = .ok (.bipush 40, 2) := by decide +kernel
theorem dX2_init_7 : decode cX2_init 7 = .ok (.newarray .int, 2) := by decide +kernel
theorem dX2_init_9 : decode cX2_init 9 = .ok (.putfield 9, 3) := by decide +kernel
theorem dX2_init_12 : decode cX2_init 12 = .ok (.aload_n 0, 1) := by decide +kernel
theorem dX2_init_13 : decode cX2_init 13 = .ok (.iconst 3, 1) := by decide +kernel
theorem dX2_init_14 : decode cX2_init 14 = .ok (.newarray .int, 2) := by decide +kernel
theorem dX2_init_16 : decode cX2_init 16 = .ok (.putfield 15, 3) := by decide +kernel
theorem dX2_init_19 : decode cX2_init 19 = .ok (.aload_n 0, 1) := by decide +kernel
theorem dX2_init_20 : decode cX2_init 20 = .ok (.bipush 40, 2) := by decide +kernel
theorem dX2_init_22 : decode cX2_init 22 = .ok (.newarray .int, 2) := by decide +kernel
theorem dX2_init_24 : decode cX2_init 24 = .ok (.putfield 18, 3) := by decide +kernel
theorem dX2_init_27 : decode cX2_init 27 = .ok (.aload_n 0, 1) := by decide +kernel
theorem dX2_init_28 : decode cX2_init 28 = .ok (.aload_n 1, 1) := by decide +kernel
theorem dX2_init_29 : decode cX2_init 29 = .ok (.putfield 21, 3) := by decide +kernel
theorem dX2_init_32 : decode cX2_init 32 = .ok (.return_, 1) := by decide +kernel
theorem dX2_start_0 : decode cX2_start 0 = .ok (.aload_n 0, 1) := by decide +kernel
theorem dX2_start_1 : decode cX2_start 1 = .ok (.getfield 21, 3) := by decide +kernel
theorem dX2_start_4 : decode cX2_start 4 = .ok (.getfield 25, 3) := by decide +kernel
theorem dX2_start_7 : decode cX2_start 7 = .ok (.ifCond .ne 5, 3) := by decide +kernel
theorem dX2_start_10 : decode cX2_start 10 = .ok (.iconst 0, 1) := by decide +kernel
theorem dX2_start_11 : decode cX2_start 11 = .ok (.ireturn, 1) := by decide +kernel
theorem dX2_start_12 : decode cX2_start 12 = .ok (.iconst 0, 1) := by decide +kernel
theorem dX2_start_13 : decode cX2_start 13 = .ok (.istore 5, 2) := by decide +kernel
theorem dX2_start_15 : decode cX2_start 15 = .ok (.iload 5, 2) := by decide +kernel
theorem dX2_start_17 : decode cX2_start 17 = .ok (.bipush 40, 2) := by decide +kernel
theorem dX2_start_19 : decode cX2_start 19 = .ok (.if_icmp .ge 17, 3) := by decide +kernel
theorem dX2_start_22 : decode cX2_start 22 = .ok (.aload_n 0, 1) := by decide +kernel
theorem dX2_start_23 : decode cX2_start 23 = .ok (.getfield 9, 3) := by decide +kernel
theorem dX2_start_26 : decode cX2_start 26 = .ok (.iload 5, 2) := by decide +kernel
theorem dX2_start_28 : decode cX2_start 28 = .ok (.iconst 0, 1) := by decide +kernel
theorem dX2_start_29 : decode cX2_start 29 = .ok (.iastore, 1) := by decide +kernel
theorem dX2_start_30 : decode cX2_start 30 = .ok (.iinc 5 1, 3) := by decide +kernel
theorem dX2_start_33 : decode cX2_start 33 = .ok (.goto (-18), 3) := by decide +kernel
theorem dX2_start_36 : decode cX2_start 36 = .ok (.aload_n 0, 1) := by decide +kernel
theorem dX2_start_37 : decode cX2_start 37 = .ok (.bipush 39, 2) := by decide +kernel
theorem dX2_start_39 : decode cX2_start 39 = .ok (.putfield 31, 3) := by decide +kernel
theorem dX2_start_42 : decode cX2_start 42 = .ok (.aload_n 0, 1) := by decide +kernel
theorem dX2_start_43 : decode cX2_start 43 = .ok (.getfield 9, 3) := by decide +kernel
theorem dX2_start_46 : decode cX2_start 46 = .ok (.aload_n 0, 1) := by decide +kernel
theorem dX2_start_47 : decode cX2_start 47 = .ok (.getfield 31, 3) := by decide +kernel
theorem dX2_start_50 : decode cX2_start 50 = .ok (.sipush 255, 3) := by decide +kernel
theorem dX2_start_53 : decode cX2_start 53 = .ok (.iastore, 1) := by decide +kernel
theorem dX2_start_54 : decode cX2_start 54 = .ok (.aload_n 0, 1) := by decide +kernel
theorem dX2_start_55 : decode cX2_start 55 = .ok (.getfield 15, 3) := by decide +kernel
theorem dX2_start_58 : decode cX2_start 58 = .ok (.iconst 0, 1) := by decide +kernel
theorem dX2_start_59 : decode cX2_start 59 = .ok (.iload_n 1, 1) := by decide +kernel
theorem dX2_start_60 : decode cX2_start 60 = .ok (.iastore, 1) := by decide +kernel
theorem dX2_start_61 : decode cX2_start 61 = .ok (.aload_n 0, 1) := by decide +kernel
theorem dX2_start_62 : decode cX2_start 62 = .ok (.getfield 15, 3) := by decide +kernel
theorem dX2_start_65 : decode cX2_start 65 = .ok (.iconst 1, 1) := by decide +kernel
theorem dX2_start_66 : decode cX2_start 66 = .ok (.iload_n 2, 1) := by decide +kernel
theorem dX2_start_67 : decode cX2_start 67 = .ok (.iastore, 1) := by decide +kernel
theorem dX2_start_68 : decode cX2_start 68 = .ok (.aload_n 0, 1) := by decide +kernel
theorem dX2_start_69 : decode cX2_start 69 = .ok (.getfield 15, 3) := by decide +kernel
theorem dX2_start_72 : decode cX2_start 72 = .ok (.iconst 2, 1) := by decide +kernel
theorem dX2_start_73 : decode cX2_start 73 = .ok (.iload_n 3, 1) := by decide +kernel
theorem dX2_start_74 : decode cX2_start 74 = .ok (.iastore, 1) := by decide +kernel
theorem dX2_start_75 : decode cX2_start 75 = .ok (.aload_n 0, 1) := by decide +kernel
theorem dX2_start_76 : decode cX2_start 76 = .ok (.iload 4, 2) := by decide +kernel
theorem dX2_start_78 : decode cX2_start 78 = .ok (.putfield 34, 3) := by decide +kernel
theorem dX2_start_81 : decode cX2_start 81 = .ok (.aload_n 0, 1) := by decide +kernel
theorem dX2_start_82 : decode cX2_start 82 = .ok (.getfield 18, 3) := by decide +kernel
theorem dX2_start_85 : decode cX2_start 85 = .ok (.iconst 0, 1) := by decide +kernel
theorem dX2_start_86 : decode cX2_start 86 = .ok (.sipush 255, 3) := by decide +kernel
theorem dX2_start_89 : decode cX2_start 89 = .ok (.iastore, 1) := by decide +kernel
theorem dX2_start_90 : decode cX2_start 90 = .ok (.aload_n 0, 1) := by decide +kernel
theorem dX2_start_91 : decode cX2_start 91 = .ok (.iconst 1, 1) := by decide +kernel
theorem dX2_start_92 : decode cX2_start 92 = .ok (.putfield 37, 3) := by decide +kernel
theorem dX2_start_95 : decode cX2_start 95 = .ok (.aload_n 0, 1) := by decide +kernel
theorem dX2_start_96 : decode cX2_start 96 = .ok (.aload_n 0, 1) := by decide +kernel
theorem dX2_start_97 : decode cX2_start 97 = .ok (.getfield 21, 3) := by decide +kernel
theorem dX2_start_100 : decode cX2_start 100 = .ok (.getfield 40, 3) := by decide +kernel
theorem dX2_start_103 : decode cX2_start 103 = .ok (.iconst 0, 1) := by decide +kernel
theorem dX2_start_104 : decode cX2_start 104 = .ok (.iaload, 1) := by decide +kernel
theorem dX2_start_105 : decode cX2_start 105 = .ok (.putfield 43, 3) := by decide +kernel
theorem dX2_start_108 : decode cX2_start 108 = .ok (.aload_n 0, 1) := by decide +kernel
theorem dX2_start_109 : decode cX2_start 109 = .ok (.iconst 1, 1) := by decide +kernel
theorem dX2_start_110 : decode cX2_start 110 = .ok (.putfield 46, 3) := by decide +kernel
theorem dX2_start_113 : decode cX2_start 113 = .ok (.aload_n 0, 1) := by decide +kernel
theorem dX2_start_114 : decode cX2_start 114 = .ok (.iconst 1, 1) := by decide +kernel
theorem dX2_start_115 : decode cX2_start 115 = .ok (.putfield 50, 3) := by decide +kernel
theorem dX2_start_118 : decode cX2_start 118 = .ok (.iconst 1, 1) := by decide +kernel
theorem dX2_start_119 : decode cX2_start 119 = .ok (.ireturn, 1) := by decide +kernel
theorem dX2_end_0 : decode cX2_end 0 = .ok (.aload_n 0, 1) := by decide +kernel
theorem dX2_end_1 : decode cX2_end 1 = .ok (.iconst 0, 1) := by decide +kernel
theorem dX2_end_2 : decode cX2_end 2 = .ok (.putfield 50, 3) := by decide +kernel
theorem dX2_end_5 : decode cX2_end 5 = .ok (.aload_n 0, 1) := by decide +kernel
theorem dX2_end_6 : decode cX2_end 6 = .ok (.sipush 255, 3) := by decide +kernel
theorem dX2_end_9 : decode cX2_end 9 = .ok (.putfield 43, 3) := by decide +kernel
theorem dX2_end_12 : decode cX2_end 12 = .ok (.return_, 1) := by decide +kernel
theorem dX2_advance_0 : decode cX2_advance 0 = .ok (.aload_n 0, 1) := by decide +kernel
theorem dX2_advance_1 : decode cX2_advance 1 = .ok (.getfield 50, 3) := by decide +kernel
theorem dX2_advance_4 : decode cX2_advance 4 = .ok (.ifCond .eq 24, 3) := by decide +kernel
theorem dX2_advance_7 : decode cX2_advance 7 = .ok (.aload_n 0, 1) := by decide +kernel
theorem dX2_advance_8 : decode cX2_advance 8 = .ok (.getfield 21, 3) := by decide +kernel
theorem dX2_advance_11 : decode cX2_advance 11 = .ok (.aload_n 0, 1) := by decide +kernel
theorem dX2_advance_12 : decode cX2_advance 12 = .ok (.getfield 43, 3) := by decide +kernel
theorem dX2_advance_15 : decode cX2_advance 15 = .ok (.aload_n 0, 1) := by decide +kernel
theorem dX2_advance_16 : decode cX2_advance 16 = .ok (.getfield 21, 3) := by decide +kernel
theorem dX2_advance_19 : decode cX2_advance 19 = .ok (.getfield 53, 3) := by decide +kernel
theorem dX2_advance_22 : decode cX2_advance 22 = .ok (.invokevirtual 56, 3) := by decide +kernel
theorem dX2_advance_25 : decode cX2_advance 25 = .ok (.goto 4, 3) := by decide +kernel
theorem dX2_advance_28 : decode cX2_advance 28 = .ok (.iconst 0, 1) := by decide +kernel
theorem dX2_advance_29 : decode cX2_advance 29 = .ok (.istore_n 1, 1) := by decide +kernel
theorem dX2_advance_30 : decode cX2_advance 30 = .ok (.iload_n 1, 1) := by decide +kernel
theorem dX2_advance_31 : decode cX2_advance 31 = .ok (.ifCond .ne 5, 3) := by decide +kernel
theorem dX2_advance_34 : decode cX2_advance 34 = .ok (.iconst 1, 1) := by decide +kernel
theorem dX2_advance_35 : decode cX2_advance 35 = .ok (.ireturn, 1) := by decide +kernel
theorem dX2_advance_36 : decode cX2_advance 36 = .ok (.aload_n 0, 1) := by decide +kernel
theorem dX2_advance_37 : decode cX2_advance 37 = .ok (.getfield 21, 3) := by decide +kernel
theorem dX2_advance_40 : decode cX2_advance 40 = .ok (.aload_n 0, 1) := by decide +kernel
theorem dX2_advance_41 : decode cX2_advance 41 = .ok (.getfield 43, 3) := by decide +kernel
theorem dX2_advance_44 : decode cX2_advance 44 = .ok (.invokevirtual 60, 3) := by decide +kernel
theorem dX2_advance_47 : decode cX2_advance 47 = .ok (.istore_n 2, 1) := by decide +kernel
theorem dX2_advance_48 : decode cX2_advance 48 = .ok (.aload_n 0, 1) := by decide +kernel
theorem dX2_advance_49 : decode cX2_advance 49 = .ok (.getfield 21, 3) := by decide +kernel
theorem dX2_advance_52 : decode cX2_advance 52 = .ok (.aload_n 0, 1) := by decide +kernel
theorem dX2_advance_53 : decode cX2_advance 53 = .ok (.getfield 43, 3) := by decide +kernel
theorem dX2_advance_56 : decode cX2_advance 56 = .ok (.iconst 1, 1) := by decide +kernel
theorem dX2_advance_57 : decode cX2_advance 57 = .ok (.iadd, 1) := by decide +kernel
theorem dX2_advance_58 : decode cX2_advance 58 = .ok (.invokevirtual 60, 3) := by decide +kernel
theorem dX2_advance_61 : decode cX2_advance 61 = .ok (.istore_n 3, 1) := by decide +kernel
theorem dX2_advance_62 : decode cX2_advance 62 = .ok (.aload_n 0, 1) := by decide +kernel
theorem dX2_advance_63 : decode cX2_advance 63 = .ok (.getfield 43, 3) := by decide +kernel
theorem dX2_advance_66 : decode cX2_advance 66 = .ok (.iload_n 1, 1) := by decide +kernel
theorem dX2_advance_67 : decode cX2_advance 67 = .ok (.iadd, 1) := by decide +kernel
theorem dX2_advance_68 : decode cX2_advance 68 = .ok (.istore 4, 2) := by decide +kernel
