theorem dX5_follow_136 : decode cX5_follow 136 = .ok (.ireturn, 1) := by decide +kernel
theorem dX5_follow_137 : decode cX5_follow 137 = .ok (.aload_n 0, 1) := by decide +kernel
theorem dX5_follow_138 : decode cX5_follow 138 = .ok (.iload_n 3, 1) := by decide +kernel
theorem dX5_follow_139 : decode cX5_follow 139 = .ok (.invokevirtual 82, 3) := by decide +kernel
theorem dX5_follow_142 : decode cX5_follow 142 = .ok (.ireturn, 1) := by decide +kernel
theorem dX5_follow_143 : decode cX5_follow 143 = .ok (.aload_n 0, 1) := by decide +kernel
theorem dX5_follow_144 : decode cX5_follow 144 = .ok (.getfield 18, 3) := by decide +kernel
theorem dX5_follow_147 : decode cX5_follow 147 = .ok (.iload_n 3, 1) := by decide +kernel
theorem dX5_follow_148 : decode cX5_follow 148 = .ok (.putfield 79, 3) := by decide +kernel
theorem dX5_follow_151 : decode cX5_follow 151 = .ok (.iconst 1, 1) := by decide +kernel
theorem dX5_follow_152 : decode cX5_follow 152 = .ok (.ireturn, 1) := by decide +kernel
theorem dX5_follow_153 : decode cX5_follow 153 = .ok (.aload_n 0, 1) := by decide +kernel
theorem dX5_follow_154 : decode cX5_follow 154 = .ok (.iload_n 2, 1) := by decide +kernel
theorem dX5_follow_155 : decode cX5_follow 155 = .ok (.iload_n 3, 1) := by decide +kernel
theorem dX5_follow_156 : decode cX5_follow 156 = .ok (.invokevirtual 85, 3) := by decide +kernel
theorem dX5_follow_159 : decode cX5_follow 159 = .ok (.ireturn, 1) := by decide +kernel
theorem dX5_followRange_0 : decode cX5_followRange 0 = .ok (.iload_n 1, 1) := by decide +kernel
theorem dX5_followRange_1 : decode cX5_followRange 1 = .ok (.sipush 128, 3) := by decide +kernel
theorem dX5_followRange_4 : decode cX5_followRange 4 = .ok (.if_icmp .ge 12, 3) := by decide +kernel
theorem dX5_followRange_7 : decode cX5_followRange 7 = .ok (.aload_n 0, 1) := by decide +kernel
theorem dX5_followRange_8 : decode cX5_followRange 8 = .ok (.iload_n 1, 1) := by decide +kernel
theorem dX5_followRange_9 : decode cX5_followRange 9 = .ok (.bipush 64, 2) := by decide +kernel
theorem dX5_followRange_11 : decode cX5_followRange 11 = .ok (.isub, 1) := by decide +kernel
theorem dX5_followRange_12 : decode cX5_followRange 12 = .ok (.invokevirtual 69, 3) := by decide +kernel
theorem dX5_followRange_15 : decode cX5_followRange 15 = .ok (.ireturn, 1) := by decide +kernel
theorem dX5_followRange_16 : decode cX5_followRange 16 = .ok (.iload_n 1, 1) := by decide +kernel
theorem dX5_followRange_17 : decode cX5_followRange 17 = .ok (.sipush 192, 3) := by decide +kernel
theorem dX5_followRange_20 : decode cX5_followRange 20 = .ok (.if_icmp .ge 20, 3) := by decide +kernel
theorem dX5_followRange_23 : decode cX5_followRange 23 = .ok (.aload_n 0, 1) := by decide +kernel
theorem dX5_followRange_24 : decode cX5_followRange 24 = .ok (.getfield 18, 3) := by decide +kernel
theorem dX5_followRange_27 : decode cX5_followRange 27 = .ok (.getfield 89, 3) := by decide +kernel
theorem dX5_followRange_30 : decode cX5_followRange 30 = .ok (.iload_n 1, 1) := by decide +kernel
theorem dX5_followRange_31 : decode cX5_followRange 31 = .ok (.sipush 128, 3) := by decide +kernel
theorem dX5_followRange_34 : decode cX5_followRange 34 = .ok (.isub, 1) := by decide +kernel
theorem dX5_followRange_35 : decode cX5_followRange 35 = .ok (.iload_n 2, 1) := by decide +kernel
theorem dX5_followRange_36 : decode cX5_followRange 36 = .ok (.iastore, 1) := by decide +kernel
theorem dX5_followRange_37 : decode cX5_followRange 37 = .ok (.goto 17, 3) := by decide +kernel
theorem dX5_followRange_40 : decode cX5_followRange 40 = .ok (.aload_n 0, 1) := by decide +kernel
theorem dX5_followRange_41 : decode cX5_followRange 41 = .ok (.getfield 18, 3) := by decide +kernel
theorem dX5_followRange_44 : decode cX5_followRange 44 = .ok (.getfield 89, 3) := by decide +kernel
theorem dX5_followRange_47 : decode cX5_followRange 47 = .ok (.iload_n 1, 1) := by decide +kernel
theorem dX5_followRange_48 : decode cX5_followRange 48 = .ok (.sipush 192, 3) := by decide +kernel
theorem dX5_followRange_51 : decode cX5_followRange 51 = .ok (.isub, 1) := by decide +kernel
theorem dX5_followRange_52 : decode cX5_followRange 52 = .ok (.iconst 0, 1) := by decide +kernel
theorem dX5_followRange_53 : decode cX5_followRange 53 = .ok (.iastore, 1) := by decide +kernel
theorem dX5_followRange_54 : decode cX5_followRange 54 = .ok (.iconst 1, 1) := by decide +kernel
theorem dX5_followRange_55 : decode cX5_followRange 55 = .ok (.ireturn, 1) := by decide +kernel
theorem dX5_moveBy_0 : decode cX5_moveBy 0 = .ok (.aload_n 0, 1) := by decide +kernel
theorem dX5_moveBy_1 : decode cX5_moveBy 1 = .ok (.dup, 1) := by decide +kernel
theorem dX5_moveBy_2 : decode cX5_moveBy 2 = .ok (.getfield 42, 3) := by decide +kernel
theorem dX5_moveBy_5 : decode cX5_moveBy 5 = .ok (.iload_n 1, 1) := by decide +kernel
theorem dX5_moveBy_6 : decode cX5_moveBy 6 = .ok (.iadd, 1) := by decide +kernel
theorem dX5_moveBy_7 : decode cX5_moveBy 7 = .ok (.putfield 42, 3) := by decide +kernel
theorem dX5_moveBy_10 : decode cX5_moveBy 10 = .ok (.aload_n 0, 1) := by decide +kernel
theorem dX5_moveBy_11 : decode cX5_moveBy 11 = .ok (.getfield 42, 3) := by decide +kernel
theorem dX5_moveBy_14 : decode cX5_moveBy 14 = .ok (.aload_n 0, 1) := by decide +kernel
theorem dX5_moveBy_15 : decode cX5_moveBy 15 = .ok (.getfield 45, 3) := by decide +kernel
theorem dX5_moveBy_18 : decode cX5_moveBy 18 = .ok (.if_icmp .ge 7, 3) := by decide +kernel
theorem dX5_moveBy_21 : decode cX5_moveBy 21 = .ok (.iconst 1, 1) := by decide +kernel
theorem dX5_moveBy_22 : decode cX5_moveBy 22 = .ok (.goto 4, 3) := by decide +kernel
theorem dX5_moveBy_25 : decode cX5_moveBy 25 = .ok (.iconst 0, 1) := by decide +kernel
theorem dX5_moveBy_26 : decode cX5_moveBy 26 = .ok (.ireturn, 1) := by decide +kernel
theorem dX5_setLink_0 : decode cX5_setLink 0 = .ok (.aload_n 0, 1) := by decide +kernel
theorem dX5_setLink_1 : decode cX5_setLink 1 = .ok (.getfield 18, 3) := by decide +kernel
theorem dX5_setLink_4 : decode cX5_setLink 4 = .ok (.iload_n 1, 1) := by decide +kernel
theorem dX5_setLink_5 : decode cX5_setLink 5 = .ok (.putfield 93, 3) := by decide +kernel
theorem dX5_setLink_8 : decode cX5_setLink 8 = .ok (.iload_n 1, 1) := by decide +kernel
theorem dX5_setLink_9 : decode cX5_setLink 9 = .ok (.iconst 1, 1) := by decide +kernel
theorem dX5_setLink_10 : decode cX5_setLink 10 = .ok (.if_icmp .gt 7, 3) := by decide +kernel
theorem dX5_setLink_13 : decode cX5_setLink 13 = .ok (.iconst 1, 1) := by decide +kernel
theorem dX5_setLink_14 : decode cX5_setLink 14 = .ok (.goto 4, 3) := by decide +kernel
theorem dX5_setLink_17 : decode cX5_setLink 17 = .ok (.iconst 0, 1) := by decide +kernel
theorem dX5_setLink_18 : decode cX5_setLink 18 = .ok (.ireturn, 1) := by decide +kernel
theorem dX5_putOnPile_0 : decode cX5_putOnPile 0 = .ok (.aload_n 0, 1) := by decide +kernel
theorem dX5_putOnPile_1 : decode cX5_putOnPile 1 = .ok (.getfield 59, 3) := by decide +kernel
theorem dX5_putOnPile_4 : decode cX5_putOnPile 4 = .ok (.iconst 4, 1) := by decide +kernel
theorem dX5_putOnPile_5 : decode cX5_putOnPile 5 = .ok (.if_icmp .lt 5, 3) := by decide +kernel
theorem dX5_putOnPile_8 : decode cX5_putOnPile 8 = .ok (.iconst 0, 1) := by decide +kernel
theorem dX5_putOnPile_9 : decode cX5_putOnPile 9 = .ok (.ireturn, 1) := by decide +kernel
theorem dX5_putOnPile_10 : decode cX5_putOnPile 10 = .ok (.aload_n 0, 1) := by decide +kernel
theorem dX5_putOnPile_11 : decode cX5_putOnPile 11 = .ok (.getfield 21, 3) := by decide +kernel
theorem dX5_putOnPile_14 : decode cX5_putOnPile 14 = .ok (.aload_n 0, 1) := by decide +kernel
theorem dX5_putOnPile_15 : decode cX5_putOnPile 15 = .ok (.getfield 59, 3) := by decide +kernel
theorem dX5_putOnPile_18 : decode cX5_putOnPile 18 = .ok (.aaload, 1) := by decide +kernel
theorem dX5_putOnPile_19 : decode cX5_putOnPile 19 = .ok (.aload_n 0, 1) := by decide +kernel
theorem dX5_putOnPile_20 : decode cX5_putOnPile 20 = .ok (.getfield 18, 3) := by decide +kernel
theorem dX5_putOnPile_23 : decode cX5_putOnPile 23 = .ok (.invokevirtual 55, 3) := by decide +kernel
theorem dX5_putOnPile_26 : decode cX5_putOnPile 26 = .ok (.aload_n 0, 1) := by decide +kernel
theorem dX5_putOnPile_27 : decode cX5_putOnPile 27 = .ok (.dup, 1) := by decide +kernel
theorem dX5_putOnPile_28 : decode cX5_putOnPile 28 = .ok (.getfield 59, 3) := by decide +kernel
theorem dX5_putOnPile_31 : decode cX5_putOnPile 31 = .ok (.iconst 1, 1) := by decide +kernel
theorem dX5_putOnPile_32 : decode cX5_putOnPile 32 = .ok (.iadd, 1) := by decide +kernel
theorem dX5_putOnPile_33 : decode cX5_putOnPile 33 = .ok (.putfield 59, 3) := by decide +kernel
theorem dX5_putOnPile_36 : decode cX5_putOnPile 36 = .ok (.iconst 1, 1) := by decide +kernel
theorem dX5_putOnPile_37 : decode cX5_putOnPile 37 = .ok (.ireturn, 1) := by decide +kernel
theorem dX5_takeOffPile_0 : decode cX5_takeOffPile 0 = .ok (.aload_n 0, 1) := by decide +kernel
theorem dX5_takeOffPile_1 : decode cX5_takeOffPile 1 = .ok (.getfield 59, 3) := by decide +kernel
theorem dX5_takeOffPile_4 : decode cX5_takeOffPile 4 = .ok (.ifCond .gt 5, 3) := by decide +kernel
theorem dX5_takeOffPile_7 : decode cX5_takeOffPile 7 = .ok (.iconst 0, 1) := by decide +kernel
theorem dX5_takeOffPile_8 : decode cX5_takeOffPile 8 = .ok (.ireturn, 1) := by decide +kernel
theorem dX5_takeOffPile_9 : decode cX5_takeOffPile 9 = .ok (.aload_n 0, 1) := by decide +kernel
theorem dX5_takeOffPile_10 : decode cX5_takeOffPile 10 = .ok (.dup, 1) := by decide +kernel
theorem dX5_takeOffPile_11 : decode cX5_takeOffPile 11 = .ok (.getfield 59, 3) := by decide +kernel
theorem dX5_takeOffPile_14 : decode cX5_takeOffPile 14 = .ok (.iconst 1, 1) := by decide +kernel
theorem dX5_takeOffPile_15 : decode cX5_takeOffPile 15 = .ok (.isub, 1) := by decide +kernel
theorem dX5_takeOffPile_16 : decode cX5_takeOffPile 16 = .ok (.putfield 59, 3) := by decide +kernel
theorem dX5_takeOffPile_19 : decode cX5_takeOffPile 19 = .ok (.aload_n 0, 1) := by decide +kernel
theorem dX5_takeOffPile_20 : decode cX5_takeOffPile 20 = .ok (.getfield 18, 3) := by decide +kernel
theorem dX5_takeOffPile_23 : decode cX5_takeOffPile 23 = .ok (.aload_n 0, 1) := by decide +kernel
theorem dX5_takeOffPile_24 : decode cX5_takeOffPile 24 = .ok (.getfield 21, 3) := by decide +kernel
theorem dX5_takeOffPile_27 : decode cX5_takeOffPile 27 = .ok (.aload_n 0, 1) := by decide +kernel
theorem dX5_takeOffPile_28 : decode cX5_takeOffPile 28 = .ok (.getfield 59, 3) := by decide +kernel
theorem dX5_takeOffPile_31 : decode cX5_takeOffPile 31 = .ok (.aaload, 1) := by decide +kernel
theorem dX5_takeOffPile_32 : decode cX5_takeOffPile 32 = .ok (.invokevirtual 55, 3) := by decide +kernel
theorem dX5_takeOffPile_35 : decode cX5_takeOffPile 35 = .ok (.iconst 1, 1) := by decide +kernel
theorem dX5_takeOffPile_36 : decode cX5_takeOffPile 36 = .ok (.ireturn, 1) := by decide +kernel
theorem dX6_init_0 : decode cX6_init 0 = .ok (.aload_n 0, 1) := by decide +kernel
theorem dX6_init_1 : decode cX6_init 1 = .ok (.invokespecial 3, 3) := by decide +kernel
theorem dX6_init_4 : decode cX6_init 4 = .ok (.aload_n 0, 1) := by decide +kernel
theorem dX6_init_5 : decode cX6_init 5 = .ok (.iconst 3, 1) := by decide +kernel
theorem dX6_init_6 : decode cX6_init 6 = .ok (.newarray .int, 2) := by decide +kernel
theorem dX6_init_8 : decode cX6_init 8 = .ok (.putfield 9, 3) := by decide +kernel
theorem dX6_init_11 : decode cX6_init 11 = .ok (.return_, 1) := by decide +kernel
theorem dX6_setToFirst_0 : decode cX6_setToFirst 0 = .ok (.aload_n 0, 1) := by decide +kernel
theorem dX6_setToFirst_1 : decode cX6_setToFirst 1 = .ok (.iconst 0, 1) := by decide +kernel
theorem dX6_setToFirst_2 : decode cX6_setToFirst 2 = .ok (.putfield 15, 3) := by decide +kernel
theorem dX6_setToFirst_5 : decode cX6_setToFirst 5 = .ok (.aload_n 0, 1) := by decide +kernel
theorem dX6_setToFirst_6 : decode cX6_setToFirst 6 = .ok (.iconst 1, 1) := by decide +kernel
theorem dX6_setToFirst_7 : decode cX6_setToFirst 7 = .ok (.putfield 19, 3) := by decide +kernel
theorem dX6_setToFirst_10 : decode cX6_setToFirst 10 = .ok (.iconst 0, 1) := by decide +kernel
theorem dX6_setToFirst_11 : decode cX6_setToFirst 11 = .ok (.istore_n 1, 1) := by decide +kernel
theorem dX6_setToFirst_12 : decode cX6_setToFirst 12 = .ok (.iload_n 1, 1) := by decide +kernel
theorem dX6_setToFirst_13 : decode cX6_setToFirst 13 = .ok (.iconst 3, 1) := by decide +kernel
theorem dX6_setToFirst_14 : decode cX6_setToFirst 14 = .ok (.if_icmp .ge 16, 3) := by decide +kernel
theorem dX6_setToFirst_17 : decode cX6_setToFirst 17 = .ok (.aload_n 0, 1) := by decide +kernel
theorem dX6_setToFirst_18 : decode cX6_setToFirst 18 = .ok (.getfield 9, 3) := by decide +kernel
theorem dX6_setToFirst_21 : decode cX6_setToFirst 21 = .ok (.iload_n 1, 1) := by decide +kernel
theorem dX6_setToFirst_22 : decode cX6_setToFirst 22 = .ok (.iconst 0, 1) := by decide +kernel
theorem dX6_setToFirst_23 : decode cX6_setToFirst 23 = .ok (.iastore, 1) := by decide +kernel
theorem dX6_setToFirst_24 : decode cX6_setToFirst 24 = .ok (.iinc 1 1, 3) := by decide +kernel
theorem dX6_setToFirst_27 : decode cX6_setToFirst 27 = .ok (.goto (-15), 3) := by decide +kernel
theorem dX6_setToFirst_30 : decode cX6_setToFirst 30 = .ok (.return_, 1) := by decide +kernel
theorem dX6_copyFrom_0 : decode cX6_copyFrom 0 = .ok (.aload_n 0, 1) := by decide +kernel
theorem dX6_copyFrom_1 : decode cX6_copyFrom 1 = .ok (.aload_n 1, 1) := by decide +kernel
theorem dX6_copyFrom_2 : decode cX6_copyFrom 2 = .ok (.getfield 15, 3) := by decide +kernel
theorem dX6_copyFrom_5 : decode cX6_copyFrom 5 = .ok (.putfield 15, 3) := by decide +kernel
theorem dX6_copyFrom_8 : decode cX6_copyFrom 8 = .ok (.aload_n 0, 1) := by decide +kernel
theorem dX6_copyFrom_9 : decode cX6_copyFrom 9 = .ok (.aload_n 1, 1) := by decide +kernel
theorem dX6_copyFrom_10 : decode cX6_copyFrom 10 = .ok (.getfield 19, 3) := by decide +kernel
theorem dX6_copyFrom_13 : decode cX6_copyFrom 13 = .ok (.putfield 19, 3) := by decide +kernel
theorem dX6_copyFrom_16 : decode cX6_copyFrom 16 = .ok (.iconst 0, 1) := by decide +kernel
theorem dX6_copyFrom_17 : decode cX6_copyFrom 17 = .ok (.istore_n 2, 1) := by decide +kernel
theorem dX6_copyFrom_18 : decode cX6_copyFrom 18 = .ok (.iload_n 2, 1) := by decide +kernel
theorem dX6_copyFrom_19 : decode cX6_copyFrom 19 = .ok (.iconst 3, 1) := by decide +kernel
theorem dX6_copyFrom_20 : decode cX6_copyFrom 20 = .ok (.if_icmp .ge 21, 3) := by decide +kernel
theorem dX6_copyFrom_23 : decode cX6_copyFrom 23 = .ok (.aload_n 0, 1) := by decide +kernel
theorem dX6_copyFrom_24 : decode cX6_copyFrom 24 = .ok (.getfield 9, 3) := by decide +kernel
theorem dX6_copyFrom_27 : decode cX6_copyFrom 27 = .ok (.iload_n 2, 1) := by decide +kernel
theorem dX6_copyFrom_28 : decode cX6_copyFrom 28 = .ok (.aload_n 1, 1) := by decide +kernel
theorem dX6_copyFrom_29 : decode cX6_copyFrom 29 = .ok (.getfield 9, 3) := by decide +kernel
theorem dX6_copyFrom_32 : decode cX6_copyFrom 32 = .ok (.iload_n 2, 1) := by decide +kernel
theorem dX6_copyFrom_33 : decode cX6_copyFrom 33 = .ok (.iaload, 1) := by decide +kernel
theorem dX6_copyFrom_34 : decode cX6_copyFrom 34 = .ok (.iastore, 1) := by decide +kernel
theorem dX6_copyFrom_35 : decode cX6_copyFrom 35 = .ok (.iinc 2 1, 3) := by decide +kernel
theorem dX6_copyFrom_38 : decode cX6_copyFrom 38 = .ok (.goto (-20), 3) := by decide +kernel
theorem dX6_copyFrom_41 : decode cX6_copyFrom 41 = .ok (.return_, 1) := by decide +kernel
theorem dX6_isSameAs_0 : decode cX6_isSameAs 0 = .ok (.aload_n 0, 1) := by decide +kernel
theorem dX6_isSameAs_1 : decode cX6_isSameAs 1 = .ok (.getfield 15, 3) := by decide +kernel
theorem dX6_isSameAs_4 : decode cX6_isSameAs 4 = .ok (.aload_n 1, 1) := by decide +kernel
theorem dX6_isSameAs_5 : decode cX6_isSameAs 5 = .ok (.getfield 15, 3) := by decide +kernel
theorem dX6_isSameAs_8 : decode cX6_isSameAs 8 = .ok (.if_icmp .ne 18, 3) := by decide +kernel
theorem dX6_isSameAs_11 : decode cX6_isSameAs 11 = .ok (.aload_n 0, 1) := by decide +kernel
theorem dX6_isSameAs_12 : decode cX6_isSameAs 12 = .ok (.getfield 19, 3) := by decide +kernel
theorem dX6_isSameAs_15 : decode cX6_isSameAs 15 = .ok (.aload_n 1, 1) := by decide +kernel
theorem dX6_isSameAs_16 : decode cX6_isSameAs 16 = .ok (.getfield 19, 3) := by decide +kernel
theorem dX6_isSameAs_19 : decode cX6_isSameAs 19 = .ok (.if_icmp .ne 7, 3) := by decide +kernel
theorem dX6_isSameAs_22 : decode cX6_isSameAs 22 = .ok (.iconst 1, 1) := by decide +kernel
theorem dX6_isSameAs_23 : decode cX6_isSameAs 23 = .ok (.goto 4, 3) := by decide +kernel
theorem dX6_isSameAs_26 : decode cX6_isSameAs 26 = .ok (.iconst 0, 1) := by decide +kernel
theorem dX6_isSameAs_27 : decode cX6_isSameAs 27 = .ok (.istore_n 2, 1) := by decide +kernel
theorem dX6_isSameAs_28 : decode cX6_isSameAs 28 = .ok (.iconst 0, 1) := by decide +kernel
theorem dX6_isSameAs_29 : decode cX6_isSameAs 29 = .ok (.istore_n 3, 1) := by decide +kernel
theorem dX6_isSameAs_30 : decode cX6_isSameAs 30 = .ok (.iload_n 3, 1) := by decide +kernel
theorem dX6_isSameAs_31 : decode cX6_isSameAs 31 = .ok (.iconst 3, 1) := by decide +kernel
theorem dX6_isSameAs_32 : decode cX6_isSameAs 32 = .ok (.if_icmp .ge 34, 3) := by decide +kernel
theorem dX6_isSameAs_35 : decode cX6_isSameAs 35 = .ok (.iload_n 2, 1) := by decide +kernel
theorem dX6_isSameAs_36 : decode cX6_isSameAs 36 = .ok (.ifCond .eq 22, 3) := by decide +kernel
theorem dX6_isSameAs_39 : decode cX6_isSameAs 39 = .ok (.aload_n 0, 1) := by decide +kernel
theorem dX6_isSameAs_40 : decode cX6_isSameAs 40 = .ok (.getfield 9, 3) := by decide +kernel
theorem dX6_isSameAs_43 : decode cX6_isSameAs 43 = .ok (.iload_n 3, 1) := by decide +kernel
theorem dX6_isSameAs_44 : decode cX6_isSameAs 44 = .ok (.iaload, 1) := by decide +kernel
theorem dX6_isSameAs_45 : decode cX6_isSameAs 45 = .ok (.aload_n 1, 1) := by decide +kernel
theorem dX6_isSameAs_46 : decode cX6_isSameAs 46 = .ok (.getfield 9, 3) := by decide +kernel
theorem dX6_isSameAs_49 : decode cX6_isSameAs 49 = .ok (.iload_n 3, 1) := by decide +kernel
theorem dX6_isSameAs_50 : decode cX6_isSameAs 50 = .ok (.iaload, 1) := by decide +kernel
theorem dX6_isSameAs_51 : decode cX6_isSameAs 51 = .ok (.if_icmp .ne 7, 3) := by decide +kernel
theorem dX6_isSameAs_54 : decode cX6_isSameAs 54 = .ok (.iconst 1, 1) := by decide +kernel
theorem dX6_isSameAs_55 : decode cX6_isSameAs 55 = .ok (.goto 4, 3) := by decide +kernel
theorem dX6_isSameAs_58 : decode cX6_isSameAs 58 = .ok (.iconst 0, 1) := by decide +kernel
theorem dX6_isSameAs_59 : decode cX6_isSameAs 59 = .ok (.istore_n 2, 1) := by decide +kernel
theorem dX6_isSameAs_60 : decode cX6_isSameAs 60 = .ok (.iinc 3 1, 3) := by decide +kernel
theorem dX6_isSameAs_63 : decode cX6_isSameAs 63 = .ok (.goto (-33), 3) := by decide +kernel
theorem dX6_isSameAs_66 : decode cX6_isSameAs 66 = .ok (.iload_n 2, 1) := by decide +kernel
theorem dX6_isSameAs_67 : decode cX6_isSameAs 67 = .ok (.ireturn, 1) := by decide +kernel
theorem dX6_part_0 : decode cX6_part 0 = .ok (.iload_n 1, 1) := by decide +kernel
theorem dX6_part_1 : decode cX6_part 1 = .ok (.ifCond .lt 8, 3) := by decide +kernel
theorem dX6_part_4 : decode cX6_part 4 = .ok (.iload_n 1, 1) := by decide +kernel
theorem dX6_part_5 : decode cX6_part 5 = .ok (.iconst 5, 1) := by decide +kernel
theorem dX6_part_6 : decode cX6_part 6 = .ok (.if_icmp .lt 5, 3) := by decide +kernel
theorem dX6_part_9 : decode cX6_part 9 = .ok (.iconst (-1), 1) := by decide +kernel
theorem dX6_part_10 : decode cX6_part 10 = .ok (.ireturn, 1) := by decide +kernel
theorem dX6_part_11 : decode cX6_part 11 = .ok (.iload_n 1, 1) := by decide +kernel
theorem dX6_part_12 : decode cX6_part 12 = .ok (.ifCond .ne 8, 3) := by decide +kernel
theorem dX6_part_15 : decode cX6_part 15 = .ok (.aload_n 0, 1) := by decide +kernel
theorem dX6_part_16 : decode cX6_part 16 = .ok (.getfield 15, 3) := by decide +kernel
theorem dX6_part_19 : decode cX6_part 19 = .ok (.ireturn, 1) := by decide +kernel
theorem dX6_part_20 : decode cX6_part 20 = .ok (.iload_n 1, 1) := by decide +kernel
theorem dX6_part_21 : decode cX6_part 21 = .ok (.iconst 1, 1) := by decide +kernel
theorem dX6_part_22 : decode cX6_part 22 = .ok (.if_icmp .ne 10, 3) := by decide +kernel
theorem dX6_part_25 : decode cX6_part 25 = .ok (.aload_n 0, 1) := by decide +kernel
theorem dX6_part_26 : decode cX6_part 26 = .ok (.getfield 19, 3) := by decide +kernel
theorem dX6_part_29 : decode cX6_part 29 = .ok (.goto 11, 3) := by decide +kernel
theorem dX6_part_32 : decode cX6_part 32 = .ok (.aload_n 0, 1) := by decide +kernel
theorem dX6_part_33 : decode cX6_part 33 = .ok (.getfield 9, 3) := by decide +kernel
theorem dX6_part_36 : decode cX6_part 36 = .ok (.iload_n 1, 1) := by decide +kernel
theorem dX6_part_37 : decode cX6_part 37 = .ok (.iconst 2, 1) := by decide +kernel
theorem dX6_part_38 : decode cX6_part 38 = .ok (.isub, 1) := by decide +kernel
theorem dX6_part_39 : decode cX6_part 39 = .ok (.iaload, 1) := by decide +kernel
theorem dX6_part_40 : decode cX6_part 40 = .ok (.ireturn, 1) := by decide +kernel
theorem dX7_init_0 : decode cX7_init 0 = .ok (.aload_n 0, 1) := by decide +kernel
theorem dX7_init_1 : decode cX7_init 1 = .ok (.invokespecial 3, 3) := by decide +kernel
theorem dX7_init_4 : decode cX7_init 4 = .ok (.aload_n 0, 1) := by decide +kernel
theorem dX7_init_5 : decode cX7_init 5 = .ok (.sipush 1076, 3) := by decide +kernel
theorem dX7_init_8 : decode cX7_init 8 = .ok (.newarray .int, 2) := by decide +kernel
theorem dX7_init_10 : decode cX7_init 10 = .ok (.putfield 11, 3) := by decide +kernel
theorem dX7_init_13 : decode cX7_init 13 = .ok (.return_, 1) := by decide +kernel
theorem dX7_empty_0 : decode cX7_empty 0 = .ok (.aload_n 0, 1) := by decide +kernel
theorem dX7_empty_1 : decode cX7_empty 1 = .ok (.iconst 0, 1) := by decide +kernel
theorem dX7_empty_2 : decode cX7_empty 2 = .ok (.putfield 15, 3) := by decide +kernel
theorem dX7_empty_5 : decode cX7_empty 5 = .ok (.return_, 1) := by decide +kernel
theorem dX7_append_0 : decode cX7_append 0 = .ok (.aload_n 0, 1) := by decide +kernel
theorem dX7_append_1 : decode cX7_append 1 = .ok (.getfield 15, 3) := by decide +kernel
theorem dX7_append_4 : decode cX7_append 4 = .ok (.sipush 1076, 3) := by decide +kernel
theorem dX7_append_7 : decode cX7_append 7 = .ok (.if_icmp .ge 23, 3) := by decide +kernel
theorem dX7_append_10 : decode cX7_append 10 = .ok (.aload_n 0, 1) := by decide +kernel
theorem dX7_append_11 : decode cX7_append 11 = .ok (.getfield 11, 3) := by decide +kernel
theorem dX7_append_14 : decode cX7_append 14 = .ok (.aload_n 0, 1) := by decide +kernel
theorem dX7_append_15 : decode cX7_append 15 = .ok (.getfield 15, 3) := by decide +kernel
theorem dX7_append_18 : decode cX7_append 18 = .ok (.iload_n 1, 1) := by decide +kernel
theorem dX7_append_19 : decode cX7_append 19 = .ok (.iastore, 1) := by decide +kernel
theorem dX7_append_20 : decode cX7_append 20 = .ok (.aload_n 0, 1) := by decide +kernel
theorem dX7_append_21 : decode cX7_append 21 = .ok (.dup, 1) := by decide +kernel
theorem dX7_append_22 : decode cX7_append 22 = .ok (.getfield 15, 3) := by decide +kernel
theorem dX7_append_25 : decode cX7_append 25 = .ok (.iconst 1, 1) := by decide +kernel
theorem dX7_append_26 : decode cX7_append 26 = .ok (.iadd, 1) := by decide +kernel
theorem dX7_append_27 : decode cX7_append 27 = .ok (.putfield 15, 3) := by decide +kernel
theorem dX7_append_30 : decode cX7_append 30 = .ok (.return_, 1) := by decide +kernel
theorem dX7_byteAt_0 : decode cX7_byteAt 0 = .ok (.iload_n 1, 1) := by decide +kernel
theorem dX7_byteAt_1 : decode cX7_byteAt 1 = .ok (.ifCond .lt 20, 3) := by decide +kernel
theorem dX7_byteAt_4 : decode cX7_byteAt 4 = .ok (.iload_n 1, 1) := by decide +kernel
theorem dX7_byteAt_5 : decode cX7_byteAt 5 = .ok (.aload_n 0, 1) := by decide +kernel
theorem dX7_byteAt_6 : decode cX7_byteAt 6 = .ok (.getfield 15, 3) := by decide +kernel
theorem dX7_byteAt_9 : decode cX7_byteAt 9 = .ok (.if_icmp .ge 12, 3) := by decide +kernel
theorem dX7_byteAt_12 : decode cX7_byteAt 12 = .ok (.aload_n 0, 1) := by decide +kernel
theorem dX7_byteAt_13 : decode cX7_byteAt 13 = .ok (.getfield 11, 3) := by decide +kernel
theorem dX7_byteAt_16 : decode cX7_byteAt 16 = .ok (.iload_n 1, 1) := by decide +kernel
theorem dX7_byteAt_17 : decode cX7_byteAt 17 = .ok (.iaload, 1) := by decide +kernel
theorem dX7_byteAt_18 : decode cX7_byteAt 18 = .ok (.goto 4, 3) := by decide +kernel
theorem dX7_byteAt_21 : decode cX7_byteAt 21 = .ok (.iconst (-1), 1) := by decide +kernel
theorem dX7_byteAt_22 : decode cX7_byteAt 22 = .ok (.ireturn, 1) := by decide +kernel
theorem dX7_change_0 : decode cX7_change 0 = .ok (.iload_n 1, 1) := by decide +kernel
theorem dX7_change_1 : decode cX7_change 1 = .ok (.ifCond .lt 22, 3) := by decide +kernel
theorem dX7_change_4 : decode cX7_change 4 = .ok (.iload_n 1, 1) := by decide +kernel
theorem dX7_change_5 : decode cX7_change 5 = .ok (.aload_n 0, 1) := by decide +kernel
theorem dX7_change_6 : decode cX7_change 6 = .ok (.getfield 15, 3) := by decide +kernel
theorem dX7_change_9 : decode cX7_change 9 = .ok (.if_icmp .ge 14, 3) := by decide +kernel
theorem dX7_change_12 : decode cX7_change 12 = .ok (.iload_n 2, 1) := by decide +kernel
theorem dX7_change_13 : decode cX7_change 13 = .ok (.ifCond .lt 10, 3) := by decide +kernel
theorem dX7_change_16 : decode cX7_change 16 = .ok (.iload_n 2, 1) := by decide +kernel
theorem dX7_change_17 : decode cX7_change 17 = .ok (.sipush 255, 3) := by decide +kernel
theorem dX7_change_20 : decode cX7_change 20 = .ok (.if_icmp .le 5, 3) := by decide +kernel
theorem dX7_change_23 : decode cX7_change 23 = .ok (.iconst 0, 1) := by decide +kernel
theorem dX7_change_24 : decode cX7_change 24 = .ok (.ireturn, 1) := by decide +kernel
theorem dX7_change_25 : decode cX7_change 25 = .ok (.aload_n 0, 1) := by decide +kernel
theorem dX7_change_26 : decode cX7_change 26 = .ok (.getfield 11, 3) := by decide +kernel
theorem dX7_change_29 : decode cX7_change 29 = .ok (.iload_n 1, 1) := by decide +kernel
theorem dX7_change_30 : decode cX7_change 30 = .ok (.iload_n 2, 1) := by decide +kernel
theorem dX7_change_31 : decode cX7_change 31 = .ok (.iastore, 1) := by decide +kernel
theorem dX7_change_32 : decode cX7_change 32 = .ok (.iconst 1, 1) := by decide +kernel
theorem dX7_change_33 : decode cX7_change 33 = .ok (.ireturn, 1) := by decide +kernel
theorem dX8_init_0 : decode cX8_init 0 = .ok (.aload_n 0, 1) := by decide +kernel
theorem dX8_init_1 : decode cX8_init 1 = .ok (.invokespecial 1, 3) := by decide +kernel
theorem dX8_init_4 : decode cX8_init 4 = .ok (.aload_n 0, 1) := by decide +kernel
theorem dX8_init_5 : decode cX8_init 5 = .ok (.new 7, 3) := by decide +kernel
theorem dX8_init_8 : decode cX8_init 8 = .ok (.dup, 1) := by decide +kernel
theorem dX8_init_9 : decode cX8_init 9 = .ok (.invokespecial 9, 3) := by decide +kernel
theorem dX8_init_12 : decode cX8_init 12 = .ok (.putfield 10, 3) := by decide +kernel
theorem dX8_init_15 : decode cX8_init 15 = .ok (.aload_n 0, 1) := by decide +kernel
theorem dX8_init_16 : decode cX8_init 16 = .ok (.new 16, 3) := by decide +kernel
theorem dX8_init_19 : decode cX8_init 19 = .ok (.dup, 1) := by decide +kernel
theorem dX8_init_20 : decode cX8_init 20 = .ok (.invokespecial 18, 3) := by decide +kernel
theorem dX8_init_23 : decode cX8_init 23 = .ok (.putfield 19, 3) := by decide +kernel
theorem dX8_init_26 : decode cX8_init 26 = .ok (.aload_n 0, 1) := by decide +kernel
theorem dX8_init_27 : decode cX8_init 27 = .ok (.new 23, 3) := by decide +kernel
theorem dX8_init_30 : decode cX8_init 30 = .ok (.dup, 1) := by decide +kernel
theorem dX8_init_31 : decode cX8_init 31 = .ok (.aload_n 0, 1) := by decide +kernel
theorem dX8_init_32 : decode cX8_init 32 = .ok (.getfield 10, 3) := by decide +kernel
theorem dX8_init_35 : decode cX8_init 35 = .ok (.aload_n 0, 1) := by decide +kernel
theorem dX8_init_36 : decode cX8_init 36 = .ok (.getfield 19, 3) := by decide +kernel
theorem dX8_init_39 : decode cX8_init 39 = .ok (.invokespecial 25, 3) := by decide +kernel
theorem dX8_init_42 : decode cX8_init 42 = .ok (.putfield 28, 3) := by decide +kernel
theorem dX8_init_45 : decode cX8_init 45 = .ok (.aload_n 0, 1) := by decide +kernel
theorem dX8_init_46 : decode cX8_init 46 = .ok (.new 32, 3) := by decide +kernel
theorem dX8_init_49 : decode cX8_init 49 = .ok (.dup, 1) := by decide +kernel
theorem dX8_init_50 : decode cX8_init 50 = .ok (.aload_n 0, 1) := by decide +kernel
theorem dX8_init_51 : decode cX8_init 51 = .ok (.getfield 19, 3) := by decide +kernel
theorem dX8_init_54 : decode cX8_init 54 = .ok (.invokespecial 34, 3) := by decide +kernel
theorem dX8_init_57 : decode cX8_init 57 = .ok (.putfield 37, 3) := by decide +kernel
theorem dX8_init_60 : decode cX8_init 60 = .ok (.aload_n 0, 1) := by decide +kernel
theorem dX8_init_61 : decode cX8_init 61 = .ok (.new 41, 3) := by decide +kernel
theorem dX8_init_64 : decode cX8_init 64 = .ok (.dup, 1) := by decide +kernel
theorem dX8_init_65 : decode cX8_init 65 = .ok (.aload_n 0, 1) := by decide +kernel
theorem dX8_init_66 : decode cX8_init 66 = .ok (.getfield 10, 3) := by decide +kernel
theorem dX8_init_69 : decode cX8_init 69 = .ok (.invokespecial 43, 3) := by decide +kernel
theorem dX8_init_72 : decode cX8_init 72 = .ok (.putfield 46, 3) := by decide +kernel
theorem dX8_init_75 : decode cX8_init 75 = .ok (.aload_n 0, 1) := by decide +kernel
theorem dX8_init_76 : decode cX8_init 76 = .ok (.new 50, 3) := by decide +kernel
theorem dX8_init_79 : decode cX8_init 79 = .ok (.dup, 1) := by decide +kernel
theorem dX8_init_80 : decode cX8_init 80 = .ok (.aload_n 0, 1) := by decide +kernel
theorem dX8_init_81 : decode cX8_init 81 = .ok (.getfield 46, 3) := by decide +kernel
theorem dX8_init_84 : decode cX8_init 84 = .ok (.aload_n 0, 1) := by decide +kernel
theorem dX8_init_85 : decode cX8_init 85 = .ok (.getfield 37, 3) := by decide +kernel
theorem dX8_init_88 : decode cX8_init 88 = .ok (.invokespecial 52, 3) := by decide +kernel
theorem dX8_init_91 : decode cX8_init 91 = .ok (.putfield 55, 3) := by decide +kernel
theorem dX8_init_94 : decode cX8_init 94 = .ok (.return_, 1) := by decide +kernel
theorem dX8_code_0 : decode cX8_code 0 = .ok (.aload_n 0, 1) := by decide +kernel
theorem dX8_code_1 : decode cX8_code 1 = .ok (.getfield 10, 3) := by decide +kernel
theorem dX8_code_4 : decode cX8_code 4 = .ok (.lload_n 1, 1) := by decide +kernel
theorem dX8_code_5 : decode cX8_code 5 = .ok (.iload_n 3, 1) := by decide +kernel
theorem dX8_code_6 : decode cX8_code 6 = .ok (.invokevirtual 59, 3) := by decide +kernel
theorem dX8_code_9 : decode cX8_code 9 = .ok (.istore 4, 2) := by decide +kernel
theorem dX8_code_11 : decode cX8_code 11 = .ok (.iload 4, 2) := by decide +kernel
theorem dX8_code_13 : decode cX8_code 13 = .ok (.iconst (-1), 1) := by decide +kernel
theorem dX8_code_14 : decode cX8_code 14 = .ok (.if_icmp .eq 10, 3) := by decide +kernel
theorem dX8_code_17 : decode cX8_code 17 = .ok (.aload_n 0, 1) := by decide +kernel
theorem dX8_code_18 : decode cX8_code 18 = .ok (.getfield 46, 3) := by decide +kernel
theorem dX8_code_21 : decode cX8_code 21 = .ok (.invokevirtual 63, 3) := by decide +kernel
theorem dX8_code_24 : decode cX8_code 24 = .ok (.iload 4, 2) := by decide +kernel
theorem dX8_code_26 : decode cX8_code 26 = .ok (.ireturn, 1) := by decide +kernel
theorem dX8_function_0 : decode cX8_function 0 = .ok (.aload_n 0, 1) := by decide +kernel
theorem dX8_function_1 : decode cX8_function 1 = .ok (.getfield 10, 3) := by decide +kernel
theorem dX8_function_4 : decode cX8_function 4 = .ok (.iload_n 1, 1) := by decide +kernel
theorem dX8_function_5 : decode cX8_function 5 = .ok (.iload_n 2, 1) := by decide +kernel
theorem dX8_function_6 : decode cX8_function 6 = .ok (.invokevirtual 66, 3) := by decide +kernel
theorem dX8_function_9 : decode cX8_function 9 = .ok (.istore_n 3, 1) := by decide +kernel
theorem dX8_function_10 : decode cX8_function 10 = .ok (.iload_n 3, 1) := by decide +kernel
theorem dX8_function_11 : decode cX8_function 11 = .ok (.iconst (-1), 1) := by decide +kernel
theorem dX8_function_12 : decode cX8_function 12 = .ok (.if_icmp .eq 10, 3) := by decide +kernel
theorem dX8_function_15 : decode cX8_function 15 = .ok (.aload_n 0, 1) := by decide +kernel
theorem dX8_function_16 : decode cX8_function 16 = .ok (.getfield 46, 3) := by decide +kernel
theorem dX8_function_19 : decode cX8_function 19 = .ok (.invokevirtual 63, 3) := by decide +kernel
theorem dX8_function_22 : decode cX8_function 22 = .ok (.iload_n 3, 1) := by decide +kernel
theorem dX8_function_23 : decode cX8_function 23 = .ok (.ireturn, 1) := by decide +kernel
theorem dX8_clear_0 : decode cX8_clear 0 = .ok (.aload_n 0, 1) := by decide +kernel
theorem dX8_clear_1 : decode cX8_clear 1 = .ok (.getfield 46, 3) := by decide +kernel
theorem dX8_clear_4 : decode cX8_clear 4 = .ok (.invokevirtual 63, 3) := by decide +kernel
theorem dX8_clear_7 : decode cX8_clear 7 = .ok (.aload_n 0, 1) := by decide +kernel
theorem dX8_clear_8 : decode cX8_clear 8 = .ok (.getfield 10, 3) := by decide +kernel
theorem dX8_clear_11 : decode cX8_clear 11 = .ok (.invokevirtual 70, 3) := by decide +kernel
theorem dX8_clear_14 : decode cX8_clear 14 = .ok (.ireturn, 1) := by decide +kernel
theorem dX8_pack_0 : decode cX8_pack 0 = .ok (.aload_n 0, 1) := by decide +kernel
theorem dX8_pack_1 : decode cX8_pack 1 = .ok (.getfield 28, 3) := by decide +kernel
theorem dX8_pack_4 : decode cX8_pack 4 = .ok (.invokevirtual 74, 3) := by decide +kernel
theorem dX8_pack_7 : decode cX8_pack 7 = .ok (.ireturn, 1) := by decide +kernel
theorem dX8_section_0 : decode cX8_section 0 = .ok (.aload_n 0, 1) := by decide +kernel
theorem dX8_section_1 : decode cX8_section 1 = .ok (.getfield 19, 3) := by decide +kernel
theorem dX8_section_4 : decode cX8_section 4 = .ok (.iload_n 1, 1) := by decide +kernel
theorem dX8_section_5 : decode cX8_section 5 = .ok (.invokevirtual 77, 3) := by decide +kernel
theorem dX8_section_8 : decode cX8_section 8 = .ok (.ireturn, 1) := by decide +kernel
theorem dX8_poke_0 : decode cX8_poke 0 = .ok (.aload_n 0, 1) := by decide +kernel
theorem dX8_poke_1 : decode cX8_poke 1 = .ok (.getfield 19, 3) := by decide +kernel
theorem dX8_poke_4 : decode cX8_poke 4 = .ok (.iload_n 1, 1) := by decide +kernel
theorem dX8_poke_5 : decode cX8_poke 5 = .ok (.iload_n 2, 1) := by decide +kernel
theorem dX8_poke_6 : decode cX8_poke 6 = .ok (.invokevirtual 81, 3) := by decide +kernel
theorem dX8_poke_9 : decode cX8_poke 9 = .ok (.ireturn, 1) := by decide +kernel
theorem dX8_row_0 : decode cX8_row 0 = .ok (.aload_n 0, 1) := by decide +kernel
theorem dX8_row_1 : decode cX8_row 1 = .ok (.getfield 37, 3) := by decide +kernel
theorem dX8_row_4 : decode cX8_row 4 = .ok (.iload_n 1, 1) := by decide +kernel
theorem dX8_row_5 : decode cX8_row 5 = .ok (.invokevirtual 85, 3) := by decide +kernel
theorem dX8_row_8 : decode cX8_row 8 = .ok (.istore_n 3, 1) := by decide +kernel
theorem dX8_row_9 : decode cX8_row 9 = .ok (.iload_n 3, 1) := by decide +kernel
theorem dX8_row_10 : decode cX8_row 10 = .ok (.bipush (-2), 2) := by decide +kernel
theorem dX8_row_12 : decode cX8_row 12 = .ok (.if_icmp .ne 11, 3) := by decide +kernel
theorem dX8_row_15 : decode cX8_row 15 = .ok (.new 88, 3) := by decide +kernel
theorem dX8_row_18 : decode cX8_row 18 = .ok (.dup, 1) := by decide +kernel
theorem dX8_row_19 : decode cX8_row 19 = .ok (.invokespecial 90, 3) := by decide +kernel
theorem dX8_row_22 : decode cX8_row 22 = .ok (.athrow, 1) := by decide +kernel
theorem dX8_row_23 : decode cX8_row 23 = .ok (.iload_n 3, 1) := by decide +kernel
theorem dX8_row_24 : decode cX8_row 24 = .ok (.ifCond .ne 17, 3) := by decide +kernel
theorem dX8_row_27 : decode cX8_row 27 = .ok (.aload_n 0, 1) := by decide +kernel
theorem dX8_row_28 : decode cX8_row 28 = .ok (.getfield 37, 3) := by decide +kernel
theorem dX8_row_31 : decode cX8_row 31 = .ok (.getfield 91, 3) := by decide +kernel
theorem dX8_row_34 : decode cX8_row 34 = .ok (.iload_n 2, 1) := by decide +kernel
theorem dX8_row_35 : decode cX8_row 35 = .ok (.invokevirtual 95, 3) := by decide +kernel
theorem dX8_row_38 : decode cX8_row 38 = .ok (.goto 4, 3) := by decide +kernel
theorem dX8_row_41 : decode cX8_row 41 = .ok (.iconst (-1), 1) := by decide +kernel
theorem dX8_row_42 : decode cX8_row 42 = .ok (.ireturn, 1) := by decide +kernel
theorem dX8_begin_0 : decode cX8_begin 0 = .ok (.aload_n 0, 1) := by decide +kernel
theorem dX8_begin_1 : decode cX8_begin 1 = .ok (.getfield 46, 3) := by decide +kernel
theorem dX8_begin_4 : decode cX8_begin 4 = .ok (.iload_n 1, 1) := by decide +kernel
theorem dX8_begin_5 : decode cX8_begin 5 = .ok (.iload_n 2, 1) := by decide +kernel
theorem dX8_begin_6 : decode cX8_begin 6 = .ok (.iload_n 3, 1) := by decide +kernel
theorem dX8_begin_7 : decode cX8_begin 7 = .ok (.iload 4, 2) := by decide +kernel
theorem dX8_begin_9 : decode cX8_begin 9 = .ok (.invokevirtual 100, 3) := by decide +kernel
theorem dX8_begin_12 : decode cX8_begin 12 = .ok (.ireturn, 1) := by decide +kernel
theorem dX8_step_0 : decode cX8_step 0 = .ok (.aload_n 0, 1) := by decide +kernel
theorem dX8_step_1 : decode cX8_step 1 = .ok (.getfield 46, 3) := by decide +kernel
theorem dX8_step_4 : decode cX8_step 4 = .ok (.invokevirtual 104, 3) := by decide +kernel
theorem dX8_step_7 : decode cX8_step 7 = .ok (.istore_n 1, 1) := by decide +kernel
theorem dX8_step_8 : decode cX8_step 8 = .ok (.iload_n 1, 1) := by decide +kernel
theorem dX8_step_9 : decode cX8_step 9 = .ok (.iconst 1, 1) := by decide +kernel
theorem dX8_step_10 : decode cX8_step 10 = .ok (.if_icmp .ne 11, 3) := by decide +kernel
theorem dX8_step_13 : decode cX8_step 13 = .ok (.new 107, 3) := by decide +kernel
theorem dX8_step_16 : decode cX8_step 16 = .ok (.dup, 1) := by decide +kernel
theorem dX8_step_17 : decode cX8_step 17 = .ok (.invokespecial 109, 3) := by decide +kernel
theorem dX8_step_20 : decode cX8_step 20 = .ok (.athrow, 1) := by decide +kernel
theorem dX8_step_21 : decode cX8_step 21 = .ok (.iload_n 1, 1) := by decide +kernel
theorem dX8_step_22 : decode cX8_step 22 = .ok (.iconst 2, 1) := by decide +kernel
theorem dX8_step_23 : decode cX8_step 23 = .ok (.if_icmp .ne 11, 3) := by decide +kernel
theorem dX8_step_26 : decode cX8_step 26 = .ok (.new 110, 3) := by decide +kernel
theorem dX8_step_29 : decode cX8_step 29 = .ok (.dup, 1) := by decide +kernel
theorem dX8_step_30 : decode cX8_step 30 = .ok (.invokespecial 112, 3) := by decide +kernel
theorem dX8_step_33 : decode cX8_step 33 = .ok (.athrow, 1) := by decide +kernel
theorem dX8_step_34 : decode cX8_step 34 = .ok (.aload_n 0, 1) := by decide +kernel
theorem dX8_step_35 : decode cX8_step 35 = .ok (.getfield 46, 3) := by decide +kernel
theorem dX8_step_38 : decode cX8_step 38 = .ok (.getfield 113, 3) := by decide +kernel
theorem dX8_step_41 : decode cX8_step 41 = .ok (.ireturn, 1) := by decide +kernel
theorem dX8_machine_0 : decode cX8_machine 0 = .ok (.aload_n 0, 1) := by decide +kernel
theorem dX8_machine_1 : decode cX8_machine 1 = .ok (.getfield 46, 3) := by decide +kernel
theorem dX8_machine_4 : decode cX8_machine 4 = .ok (.iload_n 1, 1) := by decide +kernel
theorem dX8_machine_5 : decode cX8_machine 5 = .ok (.invokevirtual 117, 3) := by decide +kernel
theorem dX8_machine_8 : decode cX8_machine 8 = .ok (.ireturn, 1) := by decide +kernel
theorem dX8_call_0 : decode cX8_call 0 = .ok (.aload_n 0, 1) := by decide +kernel
theorem dX8_call_1 : decode cX8_call 1 = .ok (.getfield 46, 3) := by decide +kernel
theorem dX8_call_4 : decode cX8_call 4 = .ok (.iload_n 1, 1) := by decide +kernel
theorem dX8_call_5 : decode cX8_call 5 = .ok (.invokevirtual 118, 3) := by decide +kernel
theorem dX8_call_8 : decode cX8_call 8 = .ok (.ireturn, 1) := by decide +kernel
theorem dX8_unwind_0 : decode cX8_unwind 0 = .ok (.aload_n 0, 1) := by decide +kernel
theorem dX8_unwind_1 : decode cX8_unwind 1 = .ok (.getfield 55, 3) := by decide +kernel
theorem dX8_unwind_4 : decode cX8_unwind 4 = .ok (.invokevirtual 121, 3) := by decide +kernel
theorem dX8_unwind_7 : decode cX8_unwind 7 = .ok (.ireturn, 1) := by decide +kernel
theorem dX8_frame_0 : decode cX8_frame 0 = .ok (.aload_n 0, 1) := by decide +kernel
theorem dX8_frame_1 : decode cX8_frame 1 = .ok (.getfield 55, 3) := by decide +kernel
theorem dX8_frame_4 : decode cX8_frame 4 = .ok (.iload_n 1, 1) := by decide +kernel
theorem dX8_frame_5 : decode cX8_frame 5 = .ok (.iload_n 2, 1) := by decide +kernel
theorem dX8_frame_6 : decode cX8_frame 6 = .ok (.invokevirtual 124, 3) := by decide +kernel
theorem dX8_frame_9 : decode cX8_frame 9 = .ok (.ireturn, 1) := by decide +kernel
theorem dX9_init_0 : decode cX9_init 0 = .ok (.aload_n 0, 1) := by decide +kernel
theorem dX9_init_1 : decode cX9_init 1 = .ok (.invokespecial 1, 3) := by decide +kernel
theorem dX9_init_4 : decode cX9_init 4 = .ok (.aload_n 0, 1) := by decide +kernel
theorem dX9_init_5 : decode cX9_init 5 = .ok (.bipush 96, 2) := by decide +kernel
theorem dX9_init_7 : decode cX9_init 7 = .ok (.newarray .int, 2) := by decide +kernel
theorem dX9_init_9 : decode cX9_init 9 = .ok (.putfield 7, 3) := by decide +kernel
theorem dX9_init_12 : decode cX9_init 12 = .ok (.aload_n 0, 1) := by decide +kernel
theorem dX9_init_13 : decode cX9_init 13 = .ok (.iconst 5, 1) := by decide +kernel
theorem dX9_init_14 : decode cX9_init 14 = .ok (.newarray .int, 2) := by decide +kernel
theorem dX9_init_16 : decode cX9_init 16 = .ok (.putfield 13, 3) := by decide +kernel
theorem dX9_init_19 : decode cX9_init 19 = .ok (.aload_n 0, 1) := by decide +kernel
theorem dX9_init_20 : decode cX9_init 20 = .ok (.iconst 5, 1) := by decide +kernel
theorem dX9_init_21 : decode cX9_init 21 = .ok (.newarray .int, 2) := by decide +kernel
theorem dX9_init_23 : decode cX9_init 23 = .ok (.putfield 16, 3) := by decide +kernel
theorem dX9_init_26 : decode cX9_init 26 = .ok (.aload_n 0, 1) := by decide +kernel
theorem dX9_init_27 : decode cX9_init 27 = .ok (.sipush 485, 3) := by decide +kernel
theorem dX9_init_30 : decode cX9_init 30 = .ok (.newarray .int, 2) := by decide +kernel
theorem dX9_init_32 : decode cX9_init 32 = .ok (.putfield 19, 3) := by decide +kernel
theorem dX9_init_35 : decode cX9_init 35 = .ok (.aload_n 0, 1) := by decide +kernel
theorem dX9_init_36 : decode cX9_init 36 = .ok (.bipush 97, 2) := by decide +kernel
theorem dX9_init_38 : decode cX9_init 38 = .ok (.newarray .boolean, 2) := by decide +kernel
theorem dX9_init_40 : decode cX9_init 40 = .ok (.putfield 22, 3) := by decide +kernel
theorem dX9_init_43 : decode cX9_init 43 = .ok (.aload_n 0, 1) := by decide +kernel
theorem dX9_init_44 : decode cX9_init 44 = .ok (.bipush 97, 2) := by decide +kernel
theorem dX9_init_46 : decode cX9_init 46 = .ok (.newarray .boolean, 2) := by decide +kernel
theorem dX9_init_48 : decode cX9_init 48 = .ok (.putfield 26, 3) := by decide +kernel
theorem dX9_init_51 : decode cX9_init 51 = .ok (.aload_n 0, 1) := by decide +kernel
theorem dX9_init_52 : decode cX9_init 52 = .ok (.iconst 5, 1) := by decide +kernel
theorem dX9_init_53 : decode cX9_init 53 = .ok (.newarray .int, 2) := by decide +kernel
theorem dX9_init_55 : decode cX9_init 55 = .ok (.putfield 29, 3) := by decide +kernel
theorem dX9_init_58 : decode cX9_init 58 = .ok (.aload_n 0, 1) := by decide +kernel
theorem dX9_init_59 : decode cX9_init 59 = .ok (.sipush 6000, 3) := by decide +kernel
theorem dX9_init_62 : decode cX9_init 62 = .ok (.newarray .int, 2) := by decide +kernel
theorem dX9_init_64 : decode cX9_init 64 = .ok (.putfield 32, 3) := by decide +kernel
theorem dX9_init_67 : decode cX9_init 67 = .ok (.aload_n 0, 1) := by decide +kernel
theorem dX9_init_68 : decode cX9_init 68 = .ok (.sipush 6000, 3) := by decide +kernel
theorem dX9_init_71 : decode cX9_init 71 = .ok (.newarray .int, 2) := by decide +kernel
theorem dX9_init_73 : decode cX9_init 73 = .ok (.putfield 35, 3) := by decide +kernel
theorem dX9_init_76 : decode cX9_init 76 = .ok (.aload_n 0, 1) := by decide +kernel
theorem dX9_init_77 : decode cX9_init 77 = .ok (.iconst 5, 1) := by decide +kernel
theorem dX9_init_78 : decode cX9_init 78 = .ok (.newarray .int, 2) := by decide +kernel
theorem dX9_init_80 : decode cX9_init 80 = .ok (.putfield 38, 3) := by decide +kernel
theorem dX9_init_83 : decode cX9_init 83 = .ok (.aload_n 0, 1) := by decide +kernel
theorem dX9_init_84 : decode cX9_init 84 = .ok (.iconst 5, 1) := by decide +kernel
theorem dX9_init_85 : decode cX9_init 85 = .ok (.newarray .int, 2) := by decide +kernel
theorem dX9_init_87 : decode cX9_init 87 = .ok (.putfield 41, 3) := by decide +kernel
theorem dX9_init_90 : decode cX9_init 90 = .ok (.aload_n 0, 1) := by decide +kernel
theorem dX9_init_91 : decode cX9_init 91 = .ok (.bipush 20, 2) := by decide +kernel
theorem dX9_init_93 : decode cX9_init 93 = .ok (.newarray .int, 2) := by decide +kernel
theorem dX9_init_95 : decode cX9_init 95 = .ok (.putfield 44, 3) := by decide +kernel
theorem dX9_init_98 : decode cX9_init 98 = .ok (.aload_n 0, 1) := by decide +kernel
theorem dX9_init_99 : decode cX9_init 99 = .ok (.iconst 3, 1) := by decide +kernel
theorem dX9_init_100 : decode cX9_init 100 = .ok (.newarray .int, 2) := by decide +kernel
theorem dX9_init_102 : decode cX9_init 102 = .ok (.putfield 47, 3) := by decide +kernel
theorem dX9_init_105 : decode cX9_init 105 = .ok (.aload_n 0, 1) := by decide +kernel
theorem dX9_init_106 : decode cX9_init 106 = .ok (.bipush 40, 2) := by decide +kernel
theorem dX9_init_108 : decode cX9_init 108 = .ok (.newarray .int, 2) := by decide +kernel
theorem dX9_init_110 : decode cX9_init 110 = .ok (.putfield 50, 3) := by decide +kernel
theorem dX9_init_113 : decode cX9_init 113 = .ok (.aload_n 0, 1) := by decide +kernel
theorem dX9_init_114 : decode cX9_init 114 = .ok (.bipush 40, 2) := by decide +kernel
theorem dX9_init_116 : decode cX9_init 116 = .ok (.newarray .int, 2) := by decide +kernel
theorem dX9_init_118 : decode cX9_init 118 = .ok (.putfield 53, 3) := by decide +kernel
theorem dX9_init_121 : decode cX9_init 121 = .ok (.aload_n 0, 1) := by decide +kernel
theorem dX9_init_122 : decode cX9_init 122 = .ok (.bipush 100, 2) := by decide +kernel
theorem dX9_init_124 : decode cX9_init 124 = .ok (.newarray .int, 2) := by decide +kernel
theorem dX9_init_126 : decode cX9_init 126 = .ok (.putfield 56, 3) := by decide +kernel
theorem dX9_init_129 : decode cX9_init 129 = .ok (.return_, 1) := by decide +kernel
theorem dX9_thrown_0 : decode cX9_thrown 0 = .ok (.aload_n 0, 1) := by decide +kernel
theorem dX9_thrown_1 : decode cX9_thrown 1 = .ok (.getfield 59, 3) := by decide +kernel
theorem dX9_thrown_4 : decode cX9_thrown 4 = .ok (.ireturn, 1) := by decide +kernel
theorem dX9_over_0 : decode cX9_over 0 = .ok (.aload_n 0, 1) := by decide +kernel
theorem dX9_over_1 : decode cX9_over 1 = .ok (.aload_n 0, 1) := by decide +kernel
theorem dX9_over_2 : decode cX9_over 2 = .ok (.getfield 63, 3) := by decide +kernel
theorem dX9_over_5 : decode cX9_over 5 = .ok (.ifCond .eq 9, 3) := by decide +kernel
theorem dX9_over_8 : decode cX9_over 8 = .ok (.sipush 255, 3) := by decide +kernel
theorem dX9_over_11 : decode cX9_over 11 = .ok (.goto 7, 3) := by decide +kernel
theorem dX9_over_14 : decode cX9_over 14 = .ok (.aload_n 0, 1) := by decide +kernel
theorem dX9_over_15 : decode cX9_over 15 = .ok (.getfield 67, 3) := by decide +kernel
theorem dX9_over_18 : decode cX9_over 18 = .ok (.putfield 67, 3) := by decide +kernel
theorem dX9_over_21 : decode cX9_over 21 = .ok (.aload_n 0, 1) := by decide +kernel
theorem dX9_over_22 : decode cX9_over 22 = .ok (.iconst 0, 1) := by decide +kernel
theorem dX9_over_23 : decode cX9_over 23 = .ok (.putfield 63, 3) := by decide +kernel
theorem dX9_over_26 : decode cX9_over 26 = .ok (.return_, 1) := by decide +kernel
theorem dX9_code_0 : decode cX9_code 0 = .ok (.aload_n 0, 1) := by decide +kernel
theorem dX9_code_1 : decode cX9_code 1 = .ok (.iconst 0, 1) := by decide +kernel
theorem dX9_code_2 : decode cX9_code 2 = .ok (.putfield 59, 3) := by decide +kernel
theorem dX9_code_5 : decode cX9_code 5 = .ok (.iload_n 3, 1) := by decide +kernel
theorem dX9_code_6 : decode cX9_code 6 = .ok (.iconst 1, 1) := by decide +kernel
theorem dX9_code_7 : decode cX9_code 7 = .ok (.if_icmp .lt 20, 3) := by decide +kernel
theorem dX9_code_10 : decode cX9_code 10 = .ok (.iload_n 3, 1) := by decide +kernel
theorem dX9_code_11 : decode cX9_code 11 = .ok (.bipush 8, 2) := by decide +kernel
theorem dX9_code_13 : decode cX9_code 13 = .ok (.if_icmp .gt 14, 3) := by decide +kernel
theorem dX9_code_16 : decode cX9_code 16 = .ok (.aload_n 0, 1) := by decide +kernel
theorem dX9_code_17 : decode cX9_code 17 = .ok (.getfield 70, 3) := by decide +kernel
theorem dX9_code_20 : decode cX9_code 20 = .ok (.iload_n 3, 1) := by decide +kernel
theorem dX9_code_21 : decode cX9_code 21 = .ok (.iadd, 1) := by decide +kernel
theorem dX9_code_22 : decode cX9_code 22 = .ok (.bipush 96, 2) := by decide +kernel
theorem dX9_code_24 : decode cX9_code 24 = .ok (.if_icmp .le 5, 3) := by decide +kernel
theorem dX9_code_27 : decode cX9_code 27 = .ok (.iconst (-1), 1) := by decide +kernel
theorem dX9_code_28 : decode cX9_code 28 = .ok (.ireturn, 1) := by decide +kernel
theorem dX9_code_29 : decode cX9_code 29 = .ok (.aload_n 0, 1) := by decide +kernel
theorem dX9_code_30 : decode cX9_code 30 = .ok (.invokevirtual 73, 3) := by decide +kernel
theorem dX9_code_33 : decode cX9_code 33 = .ok (.iload_n 3, 1) := by decide +kernel
theorem dX9_code_34 : decode cX9_code 34 = .ok (.iconst 1, 1) := by decide +kernel
theorem dX9_code_35 : decode cX9_code 35 = .ok (.isub, 1) := by decide +kernel
theorem dX9_code_36 : decode cX9_code 36 = .ok (.istore 4, 2) := by decide +kernel
theorem dX9_code_38 : decode cX9_code 38 = .ok (.iload 4, 2) := by decide +kernel
theorem dX9_code_40 : decode cX9_code 40 = .ok (.ifCond .lt 40, 3) := by decide +kernel
theorem dX9_code_43 : decode cX9_code 43 = .ok (.aload_n 0, 1) := by decide +kernel
theorem dX9_code_44 : decode cX9_code 44 = .ok (.getfield 7, 3) := by decide +kernel
theorem dX9_code_47 : decode cX9_code 47 = .ok (.aload_n 0, 1) := by decide +kernel
theorem dX9_code_48 : decode cX9_code 48 = .ok (.getfield 70, 3) := by decide +kernel
theorem dX9_code_51 : decode cX9_code 51 = .ok (.lload_n 1, 1) := by decide +kernel
theorem dX9_code_52 : decode cX9_code 52 = .ok (.bipush 8, 2) := by decide +kernel
theorem dX9_code_54 : decode cX9_code 54 = .ok (.iload 4, 2) := by decide +kernel
theorem dX9_code_56 : decode cX9_code 56 = .ok (.imul, 1) := by decide +kernel
theorem dX9_code_57 : decode cX9_code 57 = .ok (.lshr, 1) := by decide +kernel
theorem dX9_code_58 : decode cX9_code 58 = .ok (.l2i, 1) := by decide +kernel
theorem dX9_code_59 : decode cX9_code 59 = .ok (.sipush 255, 3) := by decide +kernel
theorem dX9_code_62 : decode cX9_code 62 = .ok (.iand, 1) := by decide +kernel
theorem dX9_code_63 : decode cX9_code 63 = .ok (.iastore, 1) := by decide +kernel
theorem dX9_code_64 : decode cX9_code 64 = .ok (.aload_n 0, 1) := by decide +kernel
theorem dX9_code_65 : decode cX9_code 65 = .ok (.dup, 1) := by decide +kernel
theorem dX9_code_66 : decode cX9_code 66 = .ok (.getfield 70, 3) := by decide +kernel
theorem dX9_code_69 : decode cX9_code 69 = .ok (.iconst 1, 1) := by decide +kernel
theorem dX9_code_70 : decode cX9_code 70 = .ok (.iadd, 1) := by decide +kernel
theorem dX9_code_71 : decode cX9_code 71 = .ok (.putfield 70, 3) := by decide +kernel
theorem dX9_code_74 : decode cX9_code 74 = .ok (.iinc 4 (-1), 3) := by decide +kernel
theorem dX9_code_77 : decode cX9_code 77 = .ok (.goto (-39), 3) := by decide +kernel
theorem dX9_code_80 : decode cX9_code 80 = .ok (.aload_n 0, 1) := by decide +kernel
theorem dX9_code_81 : decode cX9_code 81 = .ok (.getfield 70, 3) := by decide +kernel
theorem dX9_code_84 : decode cX9_code 84 = .ok (.ireturn, 1) := by decide +kernel
theorem dX9_function_0 : decode cX9_function 0 = .ok (.aload_n 0, 1) := by decide +kernel
theorem dX9_function_1 : decode cX9_function 1 = .ok (.iconst 0, 1) := by decide +kernel
theorem dX9_function_2 : decode cX9_function 2 = .ok (.putfield 59, 3) := by decide +kernel
theorem dX9_function_5 : decode cX9_function 5 = .ok (.aload_n 0, 1) := by decide +kernel
theorem dX9_function_6 : decode cX9_function 6 = .ok (.getfield 76, 3) := by decide +kernel
theorem dX9_function_9 : decode cX9_function 9 = .ok (.iconst 5, 1) := by decide +kernel
theorem dX9_function_10 : decode cX9_function 10 = .ok (.if_icmp .eq 20, 3) := by decide +kernel
theorem dX9_function_13 : decode cX9_function 13 = .ok (.iload_n 1, 1) := by decide +kernel
theorem dX9_function_14 : decode cX9_function 14 = .ok (.ifCond .lt 16, 3) := by decide +kernel
theorem dX9_function_17 : decode cX9_function 17 = .ok (.iload_n 2, 1) := by decide +kernel
theorem dX9_function_18 : decode cX9_function 18 = .ok (.aload_n 0, 1) := by decide +kernel
theorem dX9_function_19 : decode cX9_function 19 = .ok (.getfield 70, 3) := by decide +kernel
theorem dX9_function_22 : decode cX9_function 22 = .ok (.if_icmp .gt 8, 3) := by decide +kernel
theorem dX9_function_25 : decode cX9_function 25 = .ok (.iload_n 1, 1) := by decide +kernel
theorem dX9_function_26 : decode cX9_function 26 = .ok (.iload_n 2, 1) := by decide +kernel
theorem dX9_function_27 : decode cX9_function 27 = .ok (.if_icmp .lt 5, 3) := by decide +kernel
theorem dX9_function_30 : decode cX9_function 30 = .ok (.iconst (-1), 1) := by decide +kernel
theorem dX9_function_31 : decode cX9_function 31 = .ok (.ireturn, 1) := by decide +kernel
theorem dX9_function_32 : decode cX9_function 32 = .ok (.iconst 0, 1) := by decide +kernel
theorem dX9_function_33 : decode cX9_function 33 = .ok (.istore_n 3, 1) := by decide +kernel
theorem dX9_function_34 : decode cX9_function 34 = .ok (.iload_n 3, 1) := by decide +kernel
theorem dX9_function_35 : decode cX9_function 35 = .ok (.aload_n 0, 1) := by decide +kernel
theorem dX9_function_36 : decode cX9_function 36 = .ok (.getfield 76, 3) := by decide +kernel
theorem dX9_function_39 : decode cX9_function 39 = .ok (.if_icmp .ge 31, 3) := by decide +kernel
theorem dX9_function_42 : decode cX9_function 42 = .ok (.iload_n 1, 1) := by decide +kernel
theorem dX9_function_43 : decode cX9_function 43 = .ok (.aload_n 0, 1) := by decide +kernel
theorem dX9_function_44 : decode cX9_function 44 = .ok (.getfield 16, 3) := by decide +kernel
theorem dX9_function_47 : decode cX9_function 47 = .ok (.iload_n 3, 1) := by decide +kernel
theorem dX9_function_48 : decode cX9_function 48 = .ok (.iaload, 1) := by decide +kernel
theorem dX9_function_49 : decode cX9_function 49 = .ok (.if_icmp .ge 15, 3) := by decide +kernel
theorem dX9_function_52 : decode cX9_function 52 = .ok (.aload_n 0, 1) := by decide +kernel
theorem dX9_function_53 : decode cX9_function 53 = .ok (.getfield 13, 3) := by decide +kernel
theorem dX9_function_56 : decode cX9_function 56 = .ok (.iload_n 3, 1) := by decide +kernel
theorem dX9_function_57 : decode cX9_function 57 = .ok (.iaload, 1) := by decide +kernel
theorem dX9_function_58 : decode cX9_function 58 = .ok (.iload_n 2, 1) := by decide +kernel
theorem dX9_function_59 : decode cX9_function 59 = .ok (.if_icmp .ge 5, 3) := by decide +kernel
theorem dX9_function_62 : decode cX9_function 62 = .ok (.iconst (-1), 1) := by decide +kernel
theorem dX9_function_63 : decode cX9_function 63 = .ok (.ireturn, 1) := by decide +kernel
theorem dX9_function_64 : decode cX9_function 64 = .ok (.iinc 3 1, 3) := by decide +kernel
theorem dX9_function_67 : decode cX9_function 67 = .ok (.goto (-33), 3) := by decide +kernel
theorem dX9_function_70 : decode cX9_function 70 = .ok (.aload_n 0, 1) := by decide +kernel
theorem dX9_function_71 : decode cX9_function 71 = .ok (.invokevirtual 73, 3) := by decide +kernel
theorem dX9_function_74 : decode cX9_function 74 = .ok (.aload_n 0, 1) := by decide +kernel
theorem dX9_function_75 : decode cX9_function 75 = .ok (.getfield 76, 3) := by decide +kernel
theorem dX9_function_78 : decode cX9_function 78 = .ok (.istore_n 3, 1) := by decide +kernel
theorem dX9_function_79 : decode cX9_function 79 = .ok (.iload_n 3, 1) := by decide +kernel
theorem dX9_function_80 : decode cX9_function 80 = .ok (.ifCond .le 49, 3) := by decide +kernel
theorem dX9_function_83 : decode cX9_function 83 = .ok (.aload_n 0, 1) := by decide +kernel
theorem dX9_function_84 : decode cX9_function 84 = .ok (.getfield 13, 3) := by decide +kernel
theorem dX9_function_87 : decode cX9_function 87 = .ok (.iload_n 3, 1) := by decide +kernel
theorem dX9_function_88 : decode cX9_function 88 = .ok (.iconst 1, 1) := by decide +kernel
theorem dX9_function_89 : decode cX9_function 89 = .ok (.isub, 1) := by decide +kernel
theorem dX9_function_90 : decode cX9_function 90 = .ok (.iaload, 1) := by decide +kernel
theorem dX9_function_91 : decode cX9_function 91 = .ok (.iload_n 1, 1) := by decide +kernel
theorem dX9_function_92 : decode cX9_function 92 = .ok (.if_icmp .le 37, 3) := by decide +kernel
theorem dX9_function_95 : decode cX9_function 95 = .ok (.aload_n 0, 1) := by decide +kernel
theorem dX9_function_96 : decode cX9_function 96 = .ok (.getfield 13, 3) := by decide +kernel
theorem dX9_function_99 : decode cX9_function 99 = .ok (.iload_n 3, 1) := by decide +kernel
theorem dX9_function_100 : decode cX9_function 100 = .ok (.aload_n 0, 1) := by decide +kernel
theorem dX9_function_101 : decode cX9_function 101 = .ok (.getfield 13, 3) := by decide +kernel
theorem dX9_function_104 : decode cX9_function 104 = .ok (.iload_n 3, 1) := by decide +kernel
theorem dX9_function_105 : decode cX9_function 105 = .ok (.iconst 1, 1) := by decide +kernel
theorem dX9_function_106 : decode cX9_function 106 = .ok (.isub, 1) := by decide +kernel
theorem dX9_function_107 : decode cX9_function 107 = .ok (.iaload, 1) := by decide +kernel
theorem dX9_function_108 : decode cX9_function 108 = .ok (.iastore, 1) := by decide +kernel
theorem dX9_function_109 : decode cX9_function 109 = .ok (.aload_n 0, 1) := by decide +kernel
theorem dX9_function_110 : decode cX9_function 110 = .ok (.getfield 16, 3) := by decide +kernel
theorem dX9_function_113 : decode cX9_function 113 = .ok (.iload_n 3, 1) := by decide +kernel
theorem dX9_function_114 : decode cX9_function 114 = .ok (.aload_n 0, 1) := by decide +kernel
theorem dX9_function_115 : decode cX9_function 115 = .ok (.getfield 16, 3) := by decide +kernel
theorem dX9_function_118 : decode cX9_function 118 = .ok (.iload_n 3, 1) := by decide +kernel
theorem dX9_function_119 : decode cX9_function 119 = .ok (.iconst 1, 1) := by decide +kernel
theorem dX9_function_120 : decode cX9_function 120 = .ok (.isub, 1) := by decide +kernel
theorem dX9_function_121 : decode cX9_function 121 = .ok (.iaload, 1) := by decide +kernel
theorem dX9_function_122 : decode cX9_function 122 = .ok (.iastore, 1) := by decide +kernel
theorem dX9_function_123 : decode cX9_function 123 = .ok (.iinc 3 (-1), 3) := by decide +kernel
theorem dX9_function_126 : decode cX9_function 126 = .ok (.goto (-47), 3) := by decide +kernel
theorem dX9_function_129 : decode cX9_function 129 = .ok (.aload_n 0, 1) := by decide +kernel
theorem dX9_function_130 : decode cX9_function 130 = .ok (.getfield 13, 3) := by decide +kernel
theorem dX9_function_133 : decode cX9_function 133 = .ok (.iload_n 3, 1) := by decide +kernel
theorem dX9_function_134 : decode cX9_function 134 = .ok (.iload_n 1, 1) := by decide +kernel
theorem dX9_function_135 : decode cX9_function 135 = .ok (.iastore, 1) := by decide +kernel
theorem dX9_function_136 : decode cX9_function 136 = .ok (.aload_n 0, 1) := by decide +kernel
theorem dX9_function_137 : decode cX9_function 137 = .ok (.getfield 16, 3) := by decide +kernel
theorem dX9_function_140 : decode cX9_function 140 = .ok (.iload_n 3, 1) := by decide +kernel
theorem dX9_function_141 : decode cX9_function 141 = .ok (.iload_n 2, 1) := by decide +kernel
theorem dX9_function_142 : decode cX9_function 142 = .ok (.iastore, 1) := by decide +kernel
theorem dX9_function_143 : decode cX9_function 143 = .ok (.aload_n 0, 1) := by decide +kernel
theorem dX9_function_144 : decode cX9_function 144 = .ok (.dup, 1) := by decide +kernel
theorem dX9_function_145 : decode cX9_function 145 = .ok (.getfield 76, 3) := by decide +kernel
theorem dX9_function_148 : decode cX9_function 148 = .ok (.iconst 1, 1) := by decide +kernel
theorem dX9_function_149 : decode cX9_function 149 = .ok (.iadd, 1) := by decide +kernel
theorem dX9_function_150 : decode cX9_function 150 = .ok (.putfield 76, 3) := by decide +kernel
theorem dX9_function_153 : decode cX9_function 153 = .ok (.aload_n 0, 1) := by decide +kernel
theorem dX9_function_154 : decode cX9_function 154 = .ok (.getfield 76, 3) := by decide +kernel
theorem dX9_function_157 : decode cX9_function 157 = .ok (.ireturn, 1) := by decide +kernel
theorem dX9_clear_0 : decode cX9_clear 0 = .ok (.aload_n 0, 1) := by decide +kernel
theorem dX9_clear_1 : decode cX9_clear 1 = .ok (.iconst 0, 1) := by decide +kernel
theorem dX9_clear_2 : decode cX9_clear 2 = .ok (.putfield 59, 3) := by decide +kernel
theorem dX9_clear_5 : decode cX9_clear 5 = .ok (.aload_n 0, 1) := by decide +kernel
theorem dX9_clear_6 : decode cX9_clear 6 = .ok (.getfield 76, 3) := by decide +kernel
theorem dX9_clear_9 : decode cX9_clear 9 = .ok (.istore_n 1, 1) := by decide +kernel
theorem dX9_clear_10 : decode cX9_clear 10 = .ok (.aload_n 0, 1) := by decide +kernel
theorem dX9_clear_11 : decode cX9_clear 11 = .ok (.invokevirtual 73, 3) := by decide +kernel
theorem dX9_clear_14 : decode cX9_clear 14 = .ok (.aload_n 0, 1) := by decide +kernel
theorem dX9_clear_15 : decode cX9_clear 15 = .ok (.iconst 0, 1) := by decide +kernel
theorem dX9_clear_16 : decode cX9_clear 16 = .ok (.putfield 76, 3) := by decide +kernel
theorem dX9_clear_19 : decode cX9_clear 19 = .ok (.aload_n 0, 1) := by decide +kernel
theorem dX9_clear_20 : decode cX9_clear 20 = .ok (.iconst 0, 1) := by decide +kernel
theorem dX9_clear_21 : decode cX9_clear 21 = .ok (.putfield 70, 3) := by decide +kernel
theorem dX9_clear_24 : decode cX9_clear 24 = .ok (.iload_n 1, 1) := by decide +kernel
theorem dX9_clear_25 : decode cX9_clear 25 = .ok (.ireturn, 1) := by decide +kernel
theorem dX9_lengthOf_0 : decode cX9_lengthOf 0 = .ok (.iload_n 0, 1) := by decide +kernel
theorem dX9_lengthOf_1 : decode cX9_lengthOf 1 = .ok (.tableswitch 83 0 15 #[79, 83, 83, 83, 83, 79, 79, 83, 79, 83, 83, 81, 83, 79, 81, 81], 79) := by decide +kernel
theorem dX9_lengthOf_80 : decode cX9_lengthOf 80 = .ok (.iconst 1, 1) := by decide +kernel
theorem dX9_lengthOf_81 : decode cX9_lengthOf 81 = .ok (.ireturn, 1) := by decide +kernel
theorem dX9_lengthOf_82 : decode cX9_lengthOf 82 = .ok (.iconst 3, 1) := by decide +kernel
theorem dX9_lengthOf_83 : decode cX9_lengthOf 83 = .ok (.ireturn, 1) := by decide +kernel
theorem dX9_lengthOf_84 : decode cX9_lengthOf 84 = .ok (.iload_n 0, 1) := by decide +kernel
theorem dX9_lengthOf_85 : decode cX9_lengthOf 85 = .ok (.bipush 16, 2) := by decide +kernel
theorem dX9_lengthOf_87 : decode cX9_lengthOf 87 = .ok (.if_icmp .ge 7, 3) := by decide +kernel
theorem dX9_lengthOf_90 : decode cX9_lengthOf 90 = .ok (.iconst 2, 1) := by decide +kernel
theorem dX9_lengthOf_91 : decode cX9_lengthOf 91 = .ok (.goto 4, 3) := by decide +kernel
theorem dX9_lengthOf_94 : decode cX9_lengthOf 94 = .ok (.iconst 0, 1) := by decide +kernel
theorem dX9_lengthOf_95 : decode cX9_lengthOf 95 = .ok (.ireturn, 1) := by decide +kernel
theorem dX9_hasRegister_0 : decode cX9_hasRegister 0 = .ok (.iload_n 0, 1) := by decide +kernel
theorem dX9_hasRegister_1 : decode cX9_hasRegister 1 = .ok (.iconst 1, 1) := by decide +kernel
theorem dX9_hasRegister_2 : decode cX9_hasRegister 2 = .ok (.if_icmp .eq 26, 3) := by decide +kernel
theorem dX9_hasRegister_5 : decode cX9_hasRegister 5 = .ok (.iload_n 0, 1) := by decide +kernel
theorem dX9_hasRegister_6 : decode cX9_hasRegister 6 = .ok (.iconst 2, 1) := by decide +kernel
theorem dX9_hasRegister_7 : decode cX9_hasRegister 7 = .ok (.if_icmp .eq 21, 3) := by decide +kernel
theorem dX9_hasRegister_10 : decode cX9_hasRegister 10 = .ok (.iload_n 0, 1) := by decide +kernel
theorem dX9_hasRegister_11 : decode cX9_hasRegister 11 = .ok (.bipush 11, 2) := by decide +kernel
theorem dX9_hasRegister_13 : decode cX9_hasRegister 13 = .ok (.if_icmp .eq 15, 3) := by decide +kernel
theorem dX9_hasRegister_16 : decode cX9_hasRegister 16 = .ok (.iload_n 0, 1) := by decide +kernel
theorem dX9_hasRegister_17 : decode cX9_hasRegister 17 = .ok (.bipush 14, 2) := by decide +kernel
theorem dX9_hasRegister_19 : decode cX9_hasRegister 19 = .ok (.if_icmp .eq 9, 3) := by decide +kernel
theorem dX9_hasRegister_22 : decode cX9_hasRegister 22 = .ok (.iload_n 0, 1) := by decide +kernel
theorem dX9_hasRegister_23 : decode cX9_hasRegister 23 = .ok (.bipush 15, 2) := by decide +kernel
theorem dX9_hasRegister_25 : decode cX9_hasRegister 25 = .ok (.if_icmp .ne 7, 3) := by decide +kernel
theorem dX9_hasRegister_28 : decode cX9_hasRegister 28 = .ok (.iconst 1, 1) := by decide +kernel
theorem dX9_hasRegister_29 : decode cX9_hasRegister 29 = .ok (.goto 4, 3) := by decide +kernel
theorem dX9_hasRegister_32 : decode cX9_hasRegister 32 = .ok (.iconst 0, 1) := by decide +kernel
theorem dX9_hasRegister_33 : decode cX9_hasRegister 33 = .ok (.ireturn, 1) := by decide +kernel
theorem dX9_isWhole_0 : decode cX9_isWhole 0 = .ok (.iload_n 1, 1) := by decide +kernel
theorem dX9_isWhole_1 : decode cX9_isWhole 1 = .ok (.ifCond .lt 8, 3) := by decide +kernel
theorem dX9_isWhole_4 : decode cX9_isWhole 4 = .ok (.iload_n 1, 1) := by decide +kernel
theorem dX9_isWhole_5 : decode cX9_isWhole 5 = .ok (.iload_n 2, 1) := by decide +kernel
theorem dX9_isWhole_6 : decode cX9_isWhole 6 = .ok (.if_icmp .lt 5, 3) := by decide +kernel
theorem dX9_isWhole_9 : decode cX9_isWhole 9 = .ok (.iconst 0, 1) := by decide +kernel
theorem dX9_isWhole_10 : decode cX9_isWhole 10 = .ok (.ireturn, 1) := by decide +kernel
theorem dX9_isWhole_11 : decode cX9_isWhole 11 = .ok (.aload_n 0, 1) := by decide +kernel
theorem dX9_isWhole_12 : decode cX9_isWhole 12 = .ok (.getfield 7, 3) := by decide +kernel
theorem dX9_isWhole_15 : decode cX9_isWhole 15 = .ok (.iload_n 1, 1) := by decide +kernel
theorem dX9_isWhole_16 : decode cX9_isWhole 16 = .ok (.iaload, 1) := by decide +kernel
theorem dX9_isWhole_17 : decode cX9_isWhole 17 = .ok (.invokestatic 79, 3) := by decide +kernel
theorem dX9_isWhole_20 : decode cX9_isWhole 20 = .ok (.istore_n 3, 1) := by decide +kernel
theorem dX9_isWhole_21 : decode cX9_isWhole 21 = .ok (.iload_n 3, 1) := by decide +kernel
theorem dX9_isWhole_22 : decode cX9_isWhole 22 = .ok (.ifCond .le 38, 3) := by decide +kernel
theorem dX9_isWhole_25 : decode cX9_isWhole 25 = .ok (.iload_n 1, 1) := by decide +kernel
theorem dX9_isWhole_26 : decode cX9_isWhole 26 = .ok (.iload_n 3, 1) := by decide +kernel
theorem dX9_isWhole_27 : decode cX9_isWhole 27 = .ok (.iadd, 1) := by decide +kernel
theorem dX9_isWhole_28 : decode cX9_isWhole 28 = .ok (.iload_n 2, 1) := by decide +kernel
theorem dX9_isWhole_29 : decode cX9_isWhole 29 = .ok (.if_icmp .gt 31, 3) := by decide +kernel
theorem dX9_isWhole_32 : decode cX9_isWhole 32 = .ok (.aload_n 0, 1) := by decide +kernel
theorem dX9_isWhole_33 : decode cX9_isWhole 33 = .ok (.getfield 7, 3) := by decide +kernel
theorem dX9_isWhole_36 : decode cX9_isWhole 36 = .ok (.iload_n 1, 1) := by decide +kernel
theorem dX9_isWhole_37 : decode cX9_isWhole 37 = .ok (.iaload, 1) := by decide +kernel
theorem dX9_isWhole_38 : decode cX9_isWhole 38 = .ok (.invokestatic 83, 3) := by decide +kernel
theorem dX9_isWhole_41 : decode cX9_isWhole 41 = .ok (.ifCond .eq 15, 3) := by decide +kernel
theorem dX9_isWhole_44 : decode cX9_isWhole 44 = .ok (.aload_n 0, 1) := by decide +kernel
theorem dX9_isWhole_45 : decode cX9_isWhole 45 = .ok (.getfield 7, 3) := by decide +kernel
theorem dX9_isWhole_48 : decode cX9_isWhole 48 = .ok (.iload_n 1, 1) := by decide +kernel
theorem dX9_isWhole_49 : decode cX9_isWhole 49 = .ok (.iconst 1, 1) := by decide +kernel
theorem dX9_isWhole_50 : decode cX9_isWhole 50 = .ok (.iadd, 1) := by decide +kernel
theorem dX9_isWhole_51 : decode cX9_isWhole 51 = .ok (.iaload, 1) := by decide +kernel
theorem dX9_isWhole_52 : decode cX9_isWhole 52 = .ok (.iconst 3, 1) := by decide +kernel
theorem dX9_isWhole_53 : decode cX9_isWhole 53 = .ok (.if_icmp .ge 7, 3) := by decide +kernel
theorem dX9_isWhole_56 : decode cX9_isWhole 56 = .ok (.iconst 1, 1) := by decide +kernel
theorem dX9_isWhole_57 : decode cX9_isWhole 57 = .ok (.goto 4, 3) := by decide +kernel
theorem dX9_isWhole_60 : decode cX9_isWhole 60 = .ok (.iconst 0, 1) := by decide +kernel
theorem dX9_isWhole_61 : decode cX9_isWhole 61 = .ok (.ireturn, 1) := by decide +kernel
theorem dX9_isFirst_0 : decode cX9_isFirst 0 = .ok (.iconst 0, 1) := by decide +kernel
theorem dX9_isFirst_1 : decode cX9_isFirst 1 = .ok (.istore_n 2, 1) := by decide +kernel
theorem dX9_isFirst_2 : decode cX9_isFirst 2 = .ok (.iconst 0, 1) := by decide +kernel
theorem dX9_isFirst_3 : decode cX9_isFirst 3 = .ok (.istore_n 3, 1) := by decide +kernel
theorem dX9_isFirst_4 : decode cX9_isFirst 4 = .ok (.iload_n 3, 1) := by decide +kernel
theorem dX9_isFirst_5 : decode cX9_isFirst 5 = .ok (.aload_n 0, 1) := by decide +kernel
theorem dX9_isFirst_6 : decode cX9_isFirst 6 = .ok (.getfield 76, 3) := by decide +kernel
theorem dX9_isFirst_9 : decode cX9_isFirst 9 = .ok (.if_icmp .ge 29, 3) := by decide +kernel
theorem dX9_isFirst_12 : decode cX9_isFirst 12 = .ok (.iload_n 2, 1) := by decide +kernel
theorem dX9_isFirst_13 : decode cX9_isFirst 13 = .ok (.ifCond .ne 13, 3) := by decide +kernel
theorem dX9_isFirst_16 : decode cX9_isFirst 16 = .ok (.aload_n 0, 1) := by decide +kernel
theorem dX9_isFirst_17 : decode cX9_isFirst 17 = .ok (.getfield 13, 3) := by decide +kernel
theorem dX9_isFirst_20 : decode cX9_isFirst 20 = .ok (.iload_n 3, 1) := by decide +kernel
theorem dX9_isFirst_21 : decode cX9_isFirst 21 = .ok (.iaload, 1) := by decide +kernel
theorem dX9_isFirst_22 : decode cX9_isFirst 22 = .ok (.iload_n 1, 1) := by decide +kernel
theorem dX9_isFirst_23 : decode cX9_isFirst 23 = .ok (.if_icmp .ne 7, 3) := by decide +kernel
theorem dX9_isFirst_26 : decode cX9_isFirst 26 = .ok (.iconst 1, 1) := by decide +kernel
theorem dX9_isFirst_27 : decode cX9_isFirst 27 = .ok (.goto 4, 3) := by decide +kernel
theorem dX9_isFirst_30 : decode cX9_isFirst 30 = .ok (.iconst 0, 1) := by decide +kernel
theorem dX9_isFirst_31 : decode cX9_isFirst 31 = .ok (.istore_n 2, 1) := by decide +kernel
theorem dX9_isFirst_32 : decode cX9_isFirst 32 = .ok (.iinc 3 1, 3) := by decide +kernel
theorem dX9_isFirst_35 : decode cX9_isFirst 35 = .ok (.goto (-31), 3) := by decide +kernel
theorem dX9_isFirst_38 : decode cX9_isFirst 38 = .ok (.iload_n 2, 1) := by decide +kernel
theorem dX9_isFirst_39 : decode cX9_isFirst 39 = .ok (.ireturn, 1) := by decide +kernel
theorem dX9_isClean_0 : decode cX9_isClean 0 = .ok (.aload_n 0, 1) := by decide +kernel
theorem dX9_isClean_1 : decode cX9_isClean 1 = .ok (.getfield 29, 3) := by decide +kernel
theorem dX9_isClean_4 : decode cX9_isClean 4 = .ok (.iconst 0, 1) := by decide +kernel
theorem dX9_isClean_5 : decode cX9_isClean 5 = .ok (.iaload, 1) := by decide +kernel
theorem dX9_isClean_6 : decode cX9_isClean 6 = .ok (.iconst 1, 1) := by decide +kernel
theorem dX9_isClean_7 : decode cX9_isClean 7 = .ok (.if_icmp .ne 34, 3) := by decide +kernel
theorem dX9_isClean_10 : decode cX9_isClean 10 = .ok (.aload_n 0, 1) := by decide +kernel
theorem dX9_isClean_11 : decode cX9_isClean 11 = .ok (.getfield 29, 3) := by decide +kernel
theorem dX9_isClean_14 : decode cX9_isClean 14 = .ok (.iconst 2, 1) := by decide +kernel
theorem dX9_isClean_15 : decode cX9_isClean 15 = .ok (.iaload, 1) := by decide +kernel
theorem dX9_isClean_16 : decode cX9_isClean 16 = .ok (.ifCond .ne 25, 3) := by decide +kernel
theorem dX9_isClean_19 : decode cX9_isClean 19 = .ok (.aload_n 0, 1) := by decide +kernel
theorem dX9_isClean_20 : decode cX9_isClean 20 = .ok (.getfield 29, 3) := by decide +kernel
theorem dX9_isClean_23 : decode cX9_isClean 23 = .ok (.iconst 3, 1) := by decide +kernel
theorem dX9_isClean_24 : decode cX9_isClean 24 = .ok (.iaload, 1) := by decide +kernel
theorem dX9_isClean_25 : decode cX9_isClean 25 = .ok (.ifCond .ne 16, 3) := by decide +kernel
theorem dX9_isClean_28 : decode cX9_isClean 28 = .ok (.aload_n 0, 1) := by decide +kernel
theorem dX9_isClean_29 : decode cX9_isClean 29 = .ok (.getfield 29, 3) := by decide +kernel
theorem dX9_isClean_32 : decode cX9_isClean 32 = .ok (.iconst 4, 1) := by decide +kernel
theorem dX9_isClean_33 : decode cX9_isClean 33 = .ok (.iaload, 1) := by decide +kernel
theorem dX9_isClean_34 : decode cX9_isClean 34 = .ok (.ifCond .ne 7, 3) := by decide +kernel
theorem dX9_isClean_37 : decode cX9_isClean 37 = .ok (.iconst 1, 1) := by decide +kernel
theorem dX9_isClean_38 : decode cX9_isClean 38 = .ok (.goto 4, 3) := by decide +kernel
theorem dX9_isClean_41 : decode cX9_isClean 41 = .ok (.iconst 0, 1) := by decide +kernel
theorem dX9_isClean_42 : decode cX9_isClean 42 = .ok (.ireturn, 1) := by decide +kernel
theorem dX9_spoil_0 : decode cX9_spoil 0 = .ok (.aload_n 0, 1) := by decide +kernel
theorem dX9_spoil_1 : decode cX9_spoil 1 = .ok (.getfield 29, 3) := by decide +kernel
theorem dX9_spoil_4 : decode cX9_spoil 4 = .ok (.iconst 2, 1) := by decide +kernel
theorem dX9_spoil_5 : decode cX9_spoil 5 = .ok (.iload_n 1, 1) := by decide +kernel
theorem dX9_spoil_6 : decode cX9_spoil 6 = .ok (.iadd, 1) := by decide +kernel
theorem dX9_spoil_7 : decode cX9_spoil 7 = .ok (.iaload, 1) := by decide +kernel
theorem dX9_spoil_8 : decode cX9_spoil 8 = .ok (.ifCond .ne 5, 3) := by decide +kernel
theorem dX9_spoil_11 : decode cX9_spoil 11 = .ok (.iconst 4, 1) := by decide +kernel
theorem dX9_spoil_12 : decode cX9_spoil 12 = .ok (.ireturn, 1) := by decide +kernel
theorem dX9_spoil_13 : decode cX9_spoil 13 = .ok (.aload_n 0, 1) := by decide +kernel
theorem dX9_spoil_14 : decode cX9_spoil 14 = .ok (.getfield 29, 3) := by decide +kernel
theorem dX9_spoil_17 : decode cX9_spoil 17 = .ok (.iconst 1, 1) := by decide +kernel
theorem dX9_spoil_18 : decode cX9_spoil 18 = .ok (.iload_n 1, 1) := by decide +kernel
theorem dX9_spoil_19 : decode cX9_spoil 19 = .ok (.ifCond .ne 7, 3) := by decide +kernel
theorem dX9_spoil_22 : decode cX9_spoil 22 = .ok (.iconst 0, 1) := by decide +kernel
theorem dX9_spoil_23 : decode cX9_spoil 23 = .ok (.goto 9, 3) := by decide +kernel
theorem dX9_spoil_26 : decode cX9_spoil 26 = .ok (.aload_n 0, 1) := by decide +kernel
theorem dX9_spoil_27 : decode cX9_spoil 27 = .ok (.getfield 29, 3) := by decide +kernel
theorem dX9_spoil_30 : decode cX9_spoil 30 = .ok (.iconst 1, 1) := by decide +kernel
theorem dX9_spoil_31 : decode cX9_spoil 31 = .ok (.iaload, 1) := by decide +kernel
theorem dX9_spoil_32 : decode cX9_spoil 32 = .ok (.iastore, 1) := by decide +kernel
theorem dX9_spoil_33 : decode cX9_spoil 33 = .ok (.iconst 0, 1) := by decide +kernel
theorem dX9_spoil_34 : decode cX9_spoil 34 = .ok (.ireturn, 1) := by decide +kernel
theorem dX9_give_0 : decode cX9_give 0 = .ok (.aload_n 0, 1) := by decide +kernel
theorem dX9_give_1 : decode cX9_give 1 = .ok (.getfield 29, 3) := by decide +kernel
theorem dX9_give_4 : decode cX9_give 4 = .ok (.iconst 2, 1) := by decide +kernel
theorem dX9_give_5 : decode cX9_give 5 = .ok (.iload_n 1, 1) := by decide +kernel
theorem dX9_give_6 : decode cX9_give 6 = .ok (.iadd, 1) := by decide +kernel
theorem dX9_give_7 : decode cX9_give 7 = .ok (.iaload, 1) := by decide +kernel
theorem dX9_give_8 : decode cX9_give 8 = .ok (.iload_n 2, 1) := by decide +kernel
theorem dX9_give_9 : decode cX9_give 9 = .ok (.if_icmp .eq 9, 3) := by decide +kernel
theorem dX9_give_12 : decode cX9_give 12 = .ok (.aload_n 0, 1) := by decide +kernel
theorem dX9_give_13 : decode cX9_give 13 = .ok (.iload_n 1, 1) := by decide +kernel
theorem dX9_give_14 : decode cX9_give 14 = .ok (.invokevirtual 87, 3) := by decide +kernel
theorem dX9_give_17 : decode cX9_give 17 = .ok (.ireturn, 1) := by decide +kernel
theorem dX9_give_18 : decode cX9_give 18 = .ok (.aload_n 0, 1) := by decide +kernel
theorem dX9_give_19 : decode cX9_give 19 = .ok (.getfield 29, 3) := by decide +kernel
theorem dX9_give_22 : decode cX9_give 22 = .ok (.iconst 2, 1) := by decide +kernel
theorem dX9_give_23 : decode cX9_give 23 = .ok (.iload_n 1, 1) := by decide +kernel
theorem dX9_give_24 : decode cX9_give 24 = .ok (.iadd, 1) := by decide +kernel
theorem dX9_give_25 : decode cX9_give 25 = .ok (.iconst 0, 1) := by decide +kernel
theorem dX9_give_26 : decode cX9_give 26 = .ok (.iastore, 1) := by decide +kernel
theorem dX9_give_27 : decode cX9_give 27 = .ok (.aload_n 0, 1) := by decide +kernel
theorem dX9_give_28 : decode cX9_give 28 = .ok (.getfield 29, 3) := by decide +kernel
theorem dX9_give_31 : decode cX9_give 31 = .ok (.iconst 1, 1) := by decide +kernel
theorem dX9_give_32 : decode cX9_give 32 = .ok (.iload_n 1, 1) := by decide +kernel
theorem dX9_give_33 : decode cX9_give 33 = .ok (.ifCond .ne 7, 3) := by decide +kernel
theorem dX9_give_36 : decode cX9_give 36 = .ok (.iconst 0, 1) := by decide +kernel
theorem dX9_give_37 : decode cX9_give 37 = .ok (.goto 9, 3) := by decide +kernel
theorem dX9_give_40 : decode cX9_give 40 = .ok (.aload_n 0, 1) := by decide +kernel
theorem dX9_give_41 : decode cX9_give 41 = .ok (.getfield 29, 3) := by decide +kernel
theorem dX9_give_44 : decode cX9_give 44 = .ok (.iconst 1, 1) := by decide +kernel
theorem dX9_give_45 : decode cX9_give 45 = .ok (.iaload, 1) := by decide +kernel
theorem dX9_give_46 : decode cX9_give 46 = .ok (.iastore, 1) := by decide +kernel
theorem dX9_give_47 : decode cX9_give 47 = .ok (.iconst 0, 1) := by decide +kernel
theorem dX9_give_48 : decode cX9_give 48 = .ok (.ireturn, 1) := by decide +kernel
theorem dX9_lose_0 : decode cX9_lose 0 = .ok (.aload_n 0, 1) := by decide +kernel
theorem dX9_lose_1 : decode cX9_lose 1 = .ok (.getfield 29, 3) := by decide +kernel
theorem dX9_lose_4 : decode cX9_lose 4 = .ok (.iconst 0, 1) := by decide +kernel
theorem dX9_lose_5 : decode cX9_lose 5 = .ok (.dup2, 1) := by decide +kernel
theorem dX9_lose_6 : decode cX9_lose 6 = .ok (.iaload, 1) := by decide +kernel
theorem dX9_lose_7 : decode cX9_lose 7 = .ok (.iload_n 1, 1) := by decide +kernel
theorem dX9_lose_8 : decode cX9_lose 8 = .ok (.isub, 1) := by decide +kernel
theorem dX9_lose_9 : decode cX9_lose 9 = .ok (.iastore, 1) := by decide +kernel
theorem dX9_lose_10 : decode cX9_lose 10 = .ok (.aload_n 0, 1) := by decide +kernel
theorem dX9_lose_11 : decode cX9_lose 11 = .ok (.getfield 29, 3) := by decide +kernel
theorem dX9_lose_14 : decode cX9_lose 14 = .ok (.iconst 0, 1) := by decide +kernel
theorem dX9_lose_15 : decode cX9_lose 15 = .ok (.iaload, 1) := by decide +kernel
theorem dX9_lose_16 : decode cX9_lose 16 = .ok (.iconst 1, 1) := by decide +kernel
theorem dX9_lose_17 : decode cX9_lose 17 = .ok (.if_icmp .lt 48, 3) := by decide +kernel
theorem dX9_lose_20 : decode cX9_lose 20 = .ok (.aload_n 0, 1) := by decide +kernel
theorem dX9_lose_21 : decode cX9_lose 21 = .ok (.getfield 29, 3) := by decide +kernel
theorem dX9_lose_24 : decode cX9_lose 24 = .ok (.iconst 2, 1) := by decide +kernel
theorem dX9_lose_25 : decode cX9_lose 25 = .ok (.iaload, 1) := by decide +kernel
theorem dX9_lose_26 : decode cX9_lose 26 = .ok (.aload_n 0, 1) := by decide +kernel
theorem dX9_lose_27 : decode cX9_lose 27 = .ok (.getfield 29, 3) := by decide +kernel
theorem dX9_lose_30 : decode cX9_lose 30 = .ok (.iconst 0, 1) := by decide +kernel
theorem dX9_lose_31 : decode cX9_lose 31 = .ok (.iaload, 1) := by decide +kernel
theorem dX9_lose_32 : decode cX9_lose 32 = .ok (.if_icmp .gt 33, 3) := by decide +kernel
theorem dX9_lose_35 : decode cX9_lose 35 = .ok (.aload_n 0, 1) := by decide +kernel
theorem dX9_lose_36 : decode cX9_lose 36 = .ok (.getfield 29, 3) := by decide +kernel
theorem dX9_lose_39 : decode cX9_lose 39 = .ok (.iconst 3, 1) := by decide +kernel
theorem dX9_lose_40 : decode cX9_lose 40 = .ok (.iaload, 1) := by decide +kernel
theorem dX9_lose_41 : decode cX9_lose 41 = .ok (.aload_n 0, 1) := by decide +kernel
theorem dX9_lose_42 : decode cX9_lose 42 = .ok (.getfield 29, 3) := by decide +kernel
theorem dX9_lose_45 : decode cX9_lose 45 = .ok (.iconst 0, 1) := by decide +kernel
theorem dX9_lose_46 : decode cX9_lose 46 = .ok (.iaload, 1) := by decide +kernel
theorem dX9_lose_47 : decode cX9_lose 47 = .ok (.if_icmp .gt 18, 3) := by decide +kernel
theorem dX9_lose_50 : decode cX9_lose 50 = .ok (.aload_n 0, 1) := by decide +kernel
theorem dX9_lose_51 : decode cX9_lose 51 = .ok (.getfield 29, 3) := by decide +kernel
theorem dX9_lose_54 : decode cX9_lose 54 = .ok (.iconst 4, 1) := by decide +kernel
theorem dX9_lose_55 : decode cX9_lose 55 = .ok (.iaload, 1) := by decide +kernel
theorem dX9_lose_56 : decode cX9_lose 56 = .ok (.aload_n 0, 1) := by decide +kernel
theorem dX9_lose_57 : decode cX9_lose 57 = .ok (.getfield 29, 3) := by decide +kernel
theorem dX9_lose_60 : decode cX9_lose 60 = .ok (.iconst 0, 1) := by decide +kernel
theorem dX9_lose_61 : decode cX9_lose 61 = .ok (.iaload, 1) := by decide +kernel
theorem dX9_lose_62 : decode cX9_lose 62 = .ok (.if_icmp .le 7, 3) := by decide +kernel
theorem dX9_lose_65 : decode cX9_lose 65 = .ok (.iconst 5, 1) := by decide +kernel
theorem dX9_lose_66 : decode cX9_lose 66 = .ok (.goto 4, 3) := by decide +kernel
theorem dX9_lose_69 : decode cX9_lose 69 = .ok (.iconst 0, 1) := by decide +kernel
theorem dX9_lose_70 : decode cX9_lose 70 = .ok (.ireturn, 1) := by decide +kernel
theorem dX9_save_0 : decode cX9_save 0 = .ok (.aload_n 0, 1) := by decide +kernel
theorem dX9_save_1 : decode cX9_save 1 = .ok (.getfield 29, 3) := by decide +kernel
theorem dX9_save_4 : decode cX9_save 4 = .ok (.iconst 2, 1) := by decide +kernel
theorem dX9_save_5 : decode cX9_save 5 = .ok (.iload_n 1, 1) := by decide +kernel
theorem dX9_save_6 : decode cX9_save 6 = .ok (.iadd, 1) := by decide +kernel
theorem dX9_save_7 : decode cX9_save 7 = .ok (.aload_n 0, 1) := by decide +kernel
theorem dX9_save_8 : decode cX9_save 8 = .ok (.getfield 29, 3) := by decide +kernel
theorem dX9_save_11 : decode cX9_save 11 = .ok (.iconst 2, 1) := by decide +kernel
theorem dX9_save_12 : decode cX9_save 12 = .ok (.iload_n 1, 1) := by decide +kernel
theorem dX9_save_13 : decode cX9_save 13 = .ok (.iadd, 1) := by decide +kernel
theorem dX9_save_14 : decode cX9_save 14 = .ok (.iaload, 1) := by decide +kernel
theorem dX9_save_15 : decode cX9_save 15 = .ok (.ifCond .ne 7, 3) := by decide +kernel
theorem dX9_save_18 : decode cX9_save 18 = .ok (.iload_n 2, 1) := by decide +kernel
theorem dX9_save_19 : decode cX9_save 19 = .ok (.goto 11, 3) := by decide +kernel
theorem dX9_save_22 : decode cX9_save 22 = .ok (.aload_n 0, 1) := by decide +kernel
theorem dX9_save_23 : decode cX9_save 23 = .ok (.getfield 29, 3) := by decide +kernel
theorem dX9_save_26 : decode cX9_save 26 = .ok (.iconst 2, 1) := by decide +kernel
theorem dX9_save_27 : decode cX9_save 27 = .ok (.iload_n 1, 1) := by decide +kernel
theorem dX9_save_28 : decode cX9_save 28 = .ok (.iadd, 1) := by decide +kernel
theorem dX9_save_29 : decode cX9_save 29 = .ok (.iaload, 1) := by decide +kernel
theorem dX9_save_30 : decode cX9_save 30 = .ok (.iastore, 1) := by decide +kernel
theorem dX9_save_31 : decode cX9_save 31 = .ok (.return_, 1) := by decide +kernel
theorem dX9_raise_0 : decode cX9_raise 0 = .ok (.aload_n 0, 1) := by decide +kernel
theorem dX9_raise_1 : decode cX9_raise 1 = .ok (.getfield 29, 3) := by decide +kernel
theorem dX9_raise_4 : decode cX9_raise 4 = .ok (.iconst 0, 1) := by decide +kernel
theorem dX9_raise_5 : decode cX9_raise 5 = .ok (.dup2, 1) := by decide +kernel
theorem dX9_raise_6 : decode cX9_raise 6 = .ok (.iaload, 1) := by decide +kernel
theorem dX9_raise_7 : decode cX9_raise 7 = .ok (.iload_n 1, 1) := by decide +kernel
theorem dX9_raise_8 : decode cX9_raise 8 = .ok (.iadd, 1) := by decide +kernel
theorem dX9_raise_9 : decode cX9_raise 9 = .ok (.iastore, 1) := by decide +kernel
theorem dX9_raise_10 : decode cX9_raise 10 = .ok (.aload_n 0, 1) := by decide +kernel
theorem dX9_raise_11 : decode cX9_raise 11 = .ok (.getfield 29, 3) := by decide +kernel
theorem dX9_raise_14 : decode cX9_raise 14 = .ok (.iconst 0, 1) := by decide +kernel
theorem dX9_raise_15 : decode cX9_raise 15 = .ok (.iaload, 1) := by decide +kernel
theorem dX9_raise_16 : decode cX9_raise 16 = .ok (.bipush 30, 2) := by decide +kernel
theorem dX9_raise_18 : decode cX9_raise 18 = .ok (.if_icmp .le 8, 3) := by decide +kernel
theorem dX9_raise_21 : decode cX9_raise 21 = .ok (.bipush 9, 2) := by decide +kernel
theorem dX9_raise_23 : decode cX9_raise 23 = .ok (.goto 4, 3) := by decide +kernel
theorem dX9_raise_26 : decode cX9_raise 26 = .ok (.iconst 0, 1) := by decide +kernel
theorem dX9_raise_27 : decode cX9_raise 27 = .ok (.ireturn, 1) := by decide +kernel
theorem dX9_isTarget_0 : decode cX9_isTarget 0 = .ok (.iload_n 2, 1) := by decide +kernel
theorem dX9_isTarget_1 : decode cX9_isTarget 1 = .ok (.aload_n 0, 1) := by decide +kernel
theorem dX9_isTarget_2 : decode cX9_isTarget 2 = .ok (.getfield 13, 3) := by decide +kernel
theorem dX9_isTarget_5 : decode cX9_isTarget 5 = .ok (.iload_n 1, 1) := by decide +kernel
theorem dX9_isTarget_6 : decode cX9_isTarget 6 = .ok (.iaload, 1) := by decide +kernel
theorem dX9_isTarget_7 : decode cX9_isTarget 7 = .ok (.if_icmp .lt 26, 3) := by decide +kernel
theorem dX9_isTarget_10 : decode cX9_isTarget 10 = .ok (.iload_n 2, 1) := by decide +kernel
theorem dX9_isTarget_11 : decode cX9_isTarget 11 = .ok (.aload_n 0, 1) := by decide +kernel
theorem dX9_isTarget_12 : decode cX9_isTarget 12 = .ok (.getfield 16, 3) := by decide +kernel
theorem dX9_isTarget_15 : decode cX9_isTarget 15 = .ok (.iload_n 1, 1) := by decide +kernel
theorem dX9_isTarget_16 : decode cX9_isTarget 16 = .ok (.iaload, 1) := by decide +kernel
theorem dX9_isTarget_17 : decode cX9_isTarget 17 = .ok (.if_icmp .ge 16, 3) := by decide +kernel
theorem dX9_isTarget_20 : decode cX9_isTarget 20 = .ok (.aload_n 0, 1) := by decide +kernel
theorem dX9_isTarget_21 : decode cX9_isTarget 21 = .ok (.getfield 26, 3) := by decide +kernel
theorem dX9_isTarget_24 : decode cX9_isTarget 24 = .ok (.iload_n 2, 1) := by decide +kernel
theorem dX9_isTarget_25 : decode cX9_isTarget 25 = .ok (.baload, 1) := by decide +kernel
theorem dX9_isTarget_26 : decode cX9_isTarget 26 = .ok (.ifCond .eq 7, 3) := by decide +kernel
theorem dX9_isTarget_29 : decode cX9_isTarget 29 = .ok (.iconst 1, 1) := by decide +kernel
theorem dX9_isTarget_30 : decode cX9_isTarget 30 = .ok (.goto 4, 3) := by decide +kernel
theorem dX9_isTarget_33 : decode cX9_isTarget 33 = .ok (.iconst 0, 1) := by decide +kernel
theorem dX9_isTarget_34 : decode cX9_isTarget 34 = .ok (.ireturn, 1) := by decide +kernel
theorem dX9_effect_0 : decode cX9_effect 0 = .ok (.aload_n 0, 1) := by decide +kernel
theorem dX9_effect_1 : decode cX9_effect 1 = .ok (.getfield 7, 3) := by decide +kernel
theorem dX9_effect_4 : decode cX9_effect 4 = .ok (.iload_n 2, 1) := by decide +kernel
theorem dX9_effect_5 : decode cX9_effect 5 = .ok (.iaload, 1) := by decide +kernel
theorem dX9_effect_6 : decode cX9_effect 6 = .ok (.istore_n 3, 1) := by decide +kernel
theorem dX9_effect_7 : decode cX9_effect 7 = .ok (.iload_n 3, 1) := by decide +kernel
theorem dX9_effect_8 : decode cX9_effect 8 = .ok (.invokestatic 79, 3) := by decide +kernel
theorem dX9_effect_11 : decode cX9_effect 11 = .ok (.iconst 1, 1) := by decide +kernel
theorem dX9_effect_12 : decode cX9_effect 12 = .ok (.if_icmp .le 14, 3) := by decide +kernel
theorem dX9_effect_15 : decode cX9_effect 15 = .ok (.aload_n 0, 1) := by decide +kernel
theorem dX9_effect_16 : decode cX9_effect 16 = .ok (.getfield 7, 3) := by decide +kernel
theorem dX9_effect_19 : decode cX9_effect 19 = .ok (.iload_n 2, 1) := by decide +kernel
theorem dX9_effect_20 : decode cX9_effect 20 = .ok (.iconst 1, 1) := by decide +kernel
theorem dX9_effect_21 : decode cX9_effect 21 = .ok (.iadd, 1) := by decide +kernel
theorem dX9_effect_22 : decode cX9_effect 22 = .ok (.iaload, 1) := by decide +kernel
theorem dX9_effect_23 : decode cX9_effect 23 = .ok (.goto 4, 3) := by decide +kernel
theorem dX9_effect_26 : decode cX9_effect 26 = .ok (.iconst 0, 1) := by decide +kernel
theorem dX9_effect_27 : decode cX9_effect 27 = .ok (.istore 4, 2) := by decide +kernel
theorem dX9_effect_29 : decode cX9_effect 29 = .ok (.iload_n 3, 1) := by decide +kernel
theorem dX9_effect_30 : decode cX9_effect 30 = .ok (.invokestatic 79, 3) := by decide +kernel
theorem dX9_effect_33 : decode cX9_effect 33 = .ok (.iconst 2, 1) := by decide +kernel
theorem dX9_effect_34 : decode cX9_effect 34 = .ok (.if_icmp .le 14, 3) := by decide +kernel
theorem dX9_effect_37 : decode cX9_effect 37 = .ok (.aload_n 0, 1) := by decide +kernel
theorem dX9_effect_38 : decode cX9_effect 38 = .ok (.getfield 7, 3) := by decide +kernel
theorem dX9_effect_41 : decode cX9_effect 41 = .ok (.iload_n 2, 1) := by decide +kernel
theorem dX9_effect_42 : decode cX9_effect 42 = .ok (.iconst 2, 1) := by decide +kernel
theorem dX9_effect_43 : decode cX9_effect 43 = .ok (.iadd, 1) := by decide +kernel
theorem dX9_effect_44 : decode cX9_effect 44 = .ok (.iaload, 1) := by decide +kernel
theorem dX9_effect_45 : decode cX9_effect 45 = .ok (.goto 4, 3) := by decide +kernel
theorem dX9_effect_48 : decode cX9_effect 48 = .ok (.iconst 0, 1) := by decide +kernel
theorem dX9_effect_49 : decode cX9_effect 49 = .ok (.istore 5, 2) := by decide +kernel
theorem dX9_effect_51 : decode cX9_effect 51 = .ok (.aload_n 0, 1) := by decide +kernel
theorem dX9_effect_52 : decode cX9_effect 52 = .ok (.getfield 29, 3) := by decide +kernel
theorem dX9_effect_55 : decode cX9_effect 55 = .ok (.iconst 0, 1) := by decide +kernel
theorem dX9_effect_56 : decode cX9_effect 56 = .ok (.iaload, 1) := by decide +kernel
theorem dX9_effect_57 : decode cX9_effect 57 = .ok (.iload 5, 2) := by decide +kernel
theorem dX9_effect_59 : decode cX9_effect 59 = .ok (.isub, 1) := by decide +kernel
theorem dX9_effect_60 : decode cX9_effect 60 = .ok (.istore 6, 2) := by decide +kernel
theorem dX9_effect_62 : decode cX9_effect 62 = .ok (.iconst 0, 1) := by decide +kernel
theorem dX9_effect_63 : decode cX9_effect 63 = .ok (.istore 7, 2) := by decide +kernel
theorem dX9_effect_65 : decode cX9_effect 65 = .ok (.iload_n 3, 1) := by decide +kernel
theorem dX9_effect_66 : decode cX9_effect 66 = .ok (.tableswitch 416 1 15 #[74, 96, 138, 145, 152, 174, 220, 235, 249, 314, 330, 416, 416, 337, 389], 74) := by decide +kernel
theorem dX9_effect_140 : decode cX9_effect 140 = .ok (.aload_n 0, 1) := by decide +kernel
theorem dX9_effect_141 : decode cX9_effect 141 = .ok (.iconst 1, 1) := by decide +kernel
theorem dX9_effect_142 : decode cX9_effect 142 = .ok (.invokevirtual 90, 3) := by decide +kernel
theorem dX9_effect_145 : decode cX9_effect 145 = .ok (.istore 7, 2) := by decide +kernel
theorem dX9_effect_147 : decode cX9_effect 147 = .ok (.aload_n 0, 1) := by decide +kernel
theorem dX9_effect_148 : decode cX9_effect 148 = .ok (.iload 4, 2) := by decide +kernel
theorem dX9_effect_150 : decode cX9_effect 150 = .ok (.aload_n 0, 1) := by decide +kernel
theorem dX9_effect_151 : decode cX9_effect 151 = .ok (.getfield 29, 3) := by decide +kernel
theorem dX9_effect_154 : decode cX9_effect 154 = .ok (.iconst 0, 1) := by decide +kernel
theorem dX9_effect_155 : decode cX9_effect 155 = .ok (.iaload, 1) := by decide +kernel
theorem dX9_effect_156 : decode cX9_effect 156 = .ok (.invokevirtual 93, 3) := by decide +kernel
theorem dX9_effect_159 : decode cX9_effect 159 = .ok (.iload 7, 2) := by decide +kernel
theorem dX9_effect_161 : decode cX9_effect 161 = .ok (.ireturn, 1) := by decide +kernel
theorem dX9_effect_162 : decode cX9_effect 162 = .ok (.aload_n 0, 1) := by decide +kernel
theorem dX9_effect_163 : decode cX9_effect 163 = .ok (.getfield 29, 3) := by decide +kernel
theorem dX9_effect_166 : decode cX9_effect 166 = .ok (.iconst 0, 1) := by decide +kernel
theorem dX9_effect_167 : decode cX9_effect 167 = .ok (.iaload, 1) := by decide +kernel
theorem dX9_effect_168 : decode cX9_effect 168 = .ok (.iconst 1, 1) := by decide +kernel
theorem dX9_effect_169 : decode cX9_effect 169 = .ok (.if_icmp .ne 5, 3) := by decide +kernel
theorem dX9_effect_172 : decode cX9_effect 172 = .ok (.iconst 5, 1) := by decide +kernel
theorem dX9_effect_173 : decode cX9_effect 173 = .ok (.ireturn, 1) := by decide +kernel
theorem dX9_effect_174 : decode cX9_effect 174 = .ok (.aload_n 0, 1) := by decide +kernel
theorem dX9_effect_175 : decode cX9_effect 175 = .ok (.iload 4, 2) := by decide +kernel
theorem dX9_effect_177 : decode cX9_effect 177 = .ok (.aload_n 0, 1) := by decide +kernel
theorem dX9_effect_178 : decode cX9_effect 178 = .ok (.getfield 29, 3) := by decide +kernel
theorem dX9_effect_181 : decode cX9_effect 181 = .ok (.iconst 0, 1) := by decide +kernel
theorem dX9_effect_182 : decode cX9_effect 182 = .ok (.iaload, 1) := by decide +kernel
theorem dX9_effect_183 : decode cX9_effect 183 = .ok (.invokevirtual 97, 3) := by decide +kernel
theorem dX9_effect_186 : decode cX9_effect 186 = .ok (.istore 7, 2) := by decide +kernel
theorem dX9_effect_188 : decode cX9_effect 188 = .ok (.iload 7, 2) := by decide +kernel
theorem dX9_effect_190 : decode cX9_effect 190 = .ok (.ifCond .le 8, 3) := by decide +kernel
theorem dX9_effect_193 : decode cX9_effect 193 = .ok (.iload 7, 2) := by decide +kernel
theorem dX9_effect_195 : decode cX9_effect 195 = .ok (.goto 8, 3) := by decide +kernel
theorem dX9_effect_198 : decode cX9_effect 198 = .ok (.aload_n 0, 1) := by decide +kernel
theorem dX9_effect_199 : decode cX9_effect 199 = .ok (.iconst 1, 1) := by decide +kernel
theorem dX9_effect_200 : decode cX9_effect 200 = .ok (.invokevirtual 101, 3) := by decide +kernel
theorem dX9_effect_203 : decode cX9_effect 203 = .ok (.ireturn, 1) := by decide +kernel
theorem dX9_effect_204 : decode cX9_effect 204 = .ok (.aload_n 0, 1) := by decide +kernel
theorem dX9_effect_205 : decode cX9_effect 205 = .ok (.iload 4, 2) := by decide +kernel
theorem dX9_effect_207 : decode cX9_effect 207 = .ok (.invokevirtual 90, 3) := by decide +kernel
theorem dX9_effect_210 : decode cX9_effect 210 = .ok (.ireturn, 1) := by decide +kernel
theorem dX9_effect_211 : decode cX9_effect 211 = .ok (.aload_n 0, 1) := by decide +kernel
theorem dX9_effect_212 : decode cX9_effect 212 = .ok (.iload 4, 2) := by decide +kernel
theorem dX9_effect_214 : decode cX9_effect 214 = .ok (.invokevirtual 101, 3) := by decide +kernel
theorem dX9_effect_217 : decode cX9_effect 217 = .ok (.ireturn, 1) := by decide +kernel
theorem dX9_effect_218 : decode cX9_effect 218 = .ok (.aload_n 0, 1) := by decide +kernel
theorem dX9_effect_219 : decode cX9_effect 219 = .ok (.iconst 0, 1) := by decide +kernel
theorem dX9_effect_220 : decode cX9_effect 220 = .ok (.invokevirtual 87, 3) := by decide +kernel
theorem dX9_effect_223 : decode cX9_effect 223 = .ok (.istore 7, 2) := by decide +kernel
theorem dX9_effect_225 : decode cX9_effect 225 = .ok (.aload_n 0, 1) := by decide +kernel
theorem dX9_effect_226 : decode cX9_effect 226 = .ok (.getfield 29, 3) := by decide +kernel
theorem dX9_effect_229 : decode cX9_effect 229 = .ok (.iconst 1, 1) := by decide +kernel
theorem dX9_effect_230 : decode cX9_effect 230 = .ok (.aload_n 0, 1) := by decide +kernel
theorem dX9_effect_231 : decode cX9_effect 231 = .ok (.getfield 29, 3) := by decide +kernel
theorem dX9_effect_234 : decode cX9_effect 234 = .ok (.iconst 0, 1) := by decide +kernel
theorem dX9_effect_235 : decode cX9_effect 235 = .ok (.iaload, 1) := by decide +kernel
theorem dX9_effect_236 : decode cX9_effect 236 = .ok (.iastore, 1) := by decide +kernel
theorem dX9_effect_237 : decode cX9_effect 237 = .ok (.iload 7, 2) := by decide +kernel
theorem dX9_effect_239 : decode cX9_effect 239 = .ok (.ireturn, 1) := by decide +kernel
theorem dX9_effect_240 : decode cX9_effect 240 = .ok (.aload_n 0, 1) := by decide +kernel
theorem dX9_effect_241 : decode cX9_effect 241 = .ok (.getfield 29, 3) := by decide +kernel
theorem dX9_effect_244 : decode cX9_effect 244 = .ok (.iconst 1, 1) := by decide +kernel
theorem dX9_effect_245 : decode cX9_effect 245 = .ok (.iaload, 1) := by decide +kernel
theorem dX9_effect_246 : decode cX9_effect 246 = .ok (.ifCond .eq 18, 3) := by decide +kernel
theorem dX9_effect_249 : decode cX9_effect 249 = .ok (.aload_n 0, 1) := by decide +kernel
theorem dX9_effect_250 : decode cX9_effect 250 = .ok (.getfield 29, 3) := by decide +kernel
theorem dX9_effect_253 : decode cX9_effect 253 = .ok (.iconst 1, 1) := by decide +kernel
theorem dX9_effect_254 : decode cX9_effect 254 = .ok (.iaload, 1) := by decide +kernel
theorem dX9_effect_255 : decode cX9_effect 255 = .ok (.aload_n 0, 1) := by decide +kernel
theorem dX9_effect_256 : decode cX9_effect 256 = .ok (.getfield 29, 3) := by decide +kernel
theorem dX9_effect_259 : decode cX9_effect 259 = .ok (.iconst 0, 1) := by decide +kernel
theorem dX9_effect_260 : decode cX9_effect 260 = .ok (.iaload, 1) := by decide +kernel
theorem dX9_effect_261 : decode cX9_effect 261 = .ok (.if_icmp .le 7, 3) := by decide +kernel
theorem dX9_effect_264 : decode cX9_effect 264 = .ok (.iconst 5, 1) := by decide +kernel
theorem dX9_effect_265 : decode cX9_effect 265 = .ok (.goto 20, 3) := by decide +kernel
theorem dX9_effect_268 : decode cX9_effect 268 = .ok (.aload_n 0, 1) := by decide +kernel
theorem dX9_effect_269 : decode cX9_effect 269 = .ok (.aload_n 0, 1) := by decide +kernel
theorem dX9_effect_270 : decode cX9_effect 270 = .ok (.getfield 29, 3) := by decide +kernel
theorem dX9_effect_273 : decode cX9_effect 273 = .ok (.iconst 0, 1) := by decide +kernel
theorem dX9_effect_274 : decode cX9_effect 274 = .ok (.iaload, 1) := by decide +kernel
theorem dX9_effect_275 : decode cX9_effect 275 = .ok (.aload_n 0, 1) := by decide +kernel
theorem dX9_effect_276 : decode cX9_effect 276 = .ok (.getfield 29, 3) := by decide +kernel
theorem dX9_effect_279 : decode cX9_effect 279 = .ok (.iconst 1, 1) := by decide +kernel
theorem dX9_effect_280 : decode cX9_effect 280 = .ok (.iaload, 1) := by decide +kernel
theorem dX9_effect_281 : decode cX9_effect 281 = .ok (.isub, 1) := by decide +kernel
theorem dX9_effect_282 : decode cX9_effect 282 = .ok (.invokevirtual 101, 3) := by decide +kernel
theorem dX9_effect_285 : decode cX9_effect 285 = .ok (.ireturn, 1) := by decide +kernel
theorem dX9_effect_286 : decode cX9_effect 286 = .ok (.aload_n 0, 1) := by decide +kernel
theorem dX9_effect_287 : decode cX9_effect 287 = .ok (.iload 4, 2) := by decide +kernel
theorem dX9_effect_289 : decode cX9_effect 289 = .ok (.invokevirtual 104, 3) := by decide +kernel
theorem dX9_effect_292 : decode cX9_effect 292 = .ok (.ifCond .eq 7, 3) := by decide +kernel
theorem dX9_effect_295 : decode cX9_effect 295 = .ok (.iconst 0, 1) := by decide +kernel
theorem dX9_effect_296 : decode cX9_effect 296 = .ok (.goto 4, 3) := by decide +kernel
theorem dX9_effect_299 : decode cX9_effect 299 = .ok (.iconst 3, 1) := by decide +kernel
theorem dX9_effect_300 : decode cX9_effect 300 = .ok (.ireturn, 1) := by decide +kernel
theorem dX9_effect_301 : decode cX9_effect 301 = .ok (.aload_n 0, 1) := by decide +kernel
theorem dX9_effect_302 : decode cX9_effect 302 = .ok (.invokevirtual 107, 3) := by decide +kernel
theorem dX9_effect_305 : decode cX9_effect 305 = .ok (.ifCond .eq 7, 3) := by decide +kernel
theorem dX9_effect_308 : decode cX9_effect 308 = .ok (.iconst 0, 1) := by decide +kernel
theorem dX9_effect_309 : decode cX9_effect 309 = .ok (.goto 5, 3) := by decide +kernel
theorem dX9_effect_312 : decode cX9_effect 312 = .ok (.bipush 6, 2) := by decide +kernel
theorem dX9_effect_314 : decode cX9_effect 314 = .ok (.ireturn, 1) := by decide +kernel
theorem dX9_effect_315 : decode cX9_effect 315 = .ok (.iload 4, 2) := by decide +kernel
theorem dX9_effect_317 : decode cX9_effect 317 = .ok (.aload_n 0, 1) := by decide +kernel
theorem dX9_effect_318 : decode cX9_effect 318 = .ok (.getfield 13, 3) := by decide +kernel
theorem dX9_effect_321 : decode cX9_effect 321 = .ok (.iload_n 1, 1) := by decide +kernel
theorem dX9_effect_322 : decode cX9_effect 322 = .ok (.iaload, 1) := by decide +kernel
theorem dX9_effect_323 : decode cX9_effect 323 = .ok (.if_icmp .lt 30, 3) := by decide +kernel
theorem dX9_effect_326 : decode cX9_effect 326 = .ok (.iload 4, 2) := by decide +kernel
theorem dX9_effect_328 : decode cX9_effect 328 = .ok (.aload_n 0, 1) := by decide +kernel
theorem dX9_effect_329 : decode cX9_effect 329 = .ok (.getfield 16, 3) := by decide +kernel
theorem dX9_effect_332 : decode cX9_effect 332 = .ok (.iload_n 1, 1) := by decide +kernel
theorem dX9_effect_333 : decode cX9_effect 333 = .ok (.iaload, 1) := by decide +kernel
theorem dX9_effect_334 : decode cX9_effect 334 = .ok (.if_icmp .ge 19, 3) := by decide +kernel
theorem dX9_effect_337 : decode cX9_effect 337 = .ok (.aload_n 0, 1) := by decide +kernel
theorem dX9_effect_338 : decode cX9_effect 338 = .ok (.getfield 26, 3) := by decide +kernel
theorem dX9_effect_341 : decode cX9_effect 341 = .ok (.iload 4, 2) := by decide +kernel
theorem dX9_effect_343 : decode cX9_effect 343 = .ok (.baload, 1) := by decide +kernel
theorem dX9_effect_344 : decode cX9_effect 344 = .ok (.ifCond .eq 7, 3) := by decide +kernel
theorem dX9_effect_347 : decode cX9_effect 347 = .ok (.iconst 0, 1) := by decide +kernel
theorem dX9_effect_348 : decode cX9_effect 348 = .ok (.goto 4, 3) := by decide +kernel
theorem dX9_effect_351 : decode cX9_effect 351 = .ok (.iconst 3, 1) := by decide +kernel
theorem dX9_effect_352 : decode cX9_effect 352 = .ok (.ireturn, 1) := by decide +kernel
theorem dX9_effect_353 : decode cX9_effect 353 = .ok (.aload_n 0, 1) := by decide +kernel
theorem dX9_effect_354 : decode cX9_effect 354 = .ok (.iload 4, 2) := by decide +kernel
theorem dX9_effect_356 : decode cX9_effect 356 = .ok (.invokevirtual 104, 3) := by decide +kernel
