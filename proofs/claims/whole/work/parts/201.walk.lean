set_option maxHeartbeats 4000000 in
set_option maxRecDepth 100000 in
theorem g_X0_addBehind_L130 {p : Program} {l : Launch} {e : Env} {s : State} {m : MethodId} {args : Array Value} {below : List Frame} {meth : Method} {c : Code} {D : va_G} {cI cZ cR : ClassId} {a : Nat → Nat} {tZ : Nat} {A : Nat → Prop} (hC : CX p s m args meth c cX0_addBehind 8 (some .boolean) yX0_addBehind.cls D (tyl cI cZ cR) tZ A) (k93 : Int32 → Int32 → Int32 → Int32 → St → Option (Int32 × St)) (hk93 : ∀ (x3 : Int32) (x4 : Int32) (x5 : Int32) (x6 : Int32) (S : St), GX p l e rm_X0_addBehind s m args below meth c 8 D A (wX cI cZ cR a) (KI below D (tyl cI cZ cR) (wX cI cZ cR a) A args s) 93 [(0, .ref (a 19)), (2, .ref (a 25)), (3, .int x3), (4, .int x4), (5, .int x5), (6, .int x6)] [] S (k93 x3 x4 x5 x6 S)) (x3 : Int32) (x4 : Int32) (x5 : Int32) (x6 : Int32) (x7 : Int32) (S : St) : GX p l e rm_X0_addBehind s m args below meth c 8 D A (wX cI cZ cR a) (KI below D (tyl cI cZ cR) (wX cI cZ cR a) A args s) 130 [(0, .ref (a 19)), (2, .ref (a 25)), (3, .int x3), (4, .int x4), (5, .int x5), (6, .int x6), (7, .int x7)] [] S (m_X0_addBehind_L130 k93 x3 x4 x5 x6 x7 S) := by
  rw [m_X0_addBehind_L130]
  refine gx_aload_n (pc' := 131) hC rfl dX0_addBehind_130 rfl ?_
  refine gx_get (pc' := 134) hC 19 (atX19 cI cZ cR a _) rfl inw_X0 2 (by decide) lk_X0_11 rfl rfl dX0_addBehind_131 ?_
  refine gx_iload (pc' := 136) hC rfl dX0_addBehind_134 rfl ?_
  refine gx_iconst (v := (2 : Int32)) (pc' := 137) hC rfl dX0_addBehind_136 (by decide) ?_
  refine gx_iadd (pc' := 138) hC rfl dX0_addBehind_137 ?_
  refine gx_iload (pc' := 140) hC rfl dX0_addBehind_138 rfl ?_
  refine gx_iadd (pc' := 141) hC rfl dX0_addBehind_140 ?_
  refine gx_iload (pc' := 143) hC rfl dX0_addBehind_141 rfl ?_
  refine gx_if_eq (pc' := 146) hC 161 rfl dX0_addBehind_143 (by decide) (fun h6 => ?_) (fun h6 => ?_)
  · refine gx_aload_n (pc' := 162) hC rfl dX0_addBehind_161 rfl ?_
    refine gx_get (pc' := 165) hC 19 (atX19 cI cZ cR a _) rfl inw_X0 2 (by decide) lk_X0_11 rfl rfl dX0_addBehind_162 ?_
    refine gx_iload_n (pc' := 166) hC rfl dX0_addBehind_165 rfl ?_
    refine gx_iconst (v := (2 : Int32)) (pc' := 167) hC rfl dX0_addBehind_166 (by decide) ?_
    refine gx_iadd (pc' := 168) hC rfl dX0_addBehind_167 ?_
    refine gx_iload (pc' := 170) hC rfl dX0_addBehind_168 rfl ?_
    refine gx_iadd (pc' := 171) hC rfl dX0_addBehind_170 ?_
    refine gx_iald (pc' := 172) hC 20 0 (atX20 cI cZ cR a _) rfl rfl dX0_addBehind_171 ?_
    refine gx_iast (pc' := 173) hC 20 0 (atX20 cI cZ cR a _) rfl (st S 11 ((x4 + (2 : Int32)) + x6).toNatClampNeg (S 11 ((x3 + (2 : Int32)) + x6).toNatClampNeg)) (stX20 cI cZ cR a _ _ _) rfl dX0_addBehind_172 ?_
    refine gx_iinc (v := (x6 + (1 : Int32))) (pc' := 176) hC [(6, .int (x6 + (1 : Int32))), (0, .ref (a 19)), (2, .ref (a 25)), (3, .int x3), (4, .int x4), (5, .int x5), (7, .int x7)] rfl dX0_addBehind_173 rfl rfl (by decide) rfl ?_
    refine gx_goto hC 93 dX0_addBehind_176 (by decide) ?_
    exact gx_sub [(0, .ref (a 19)), (2, .ref (a 25)), (3, .int x3), (4, .int x4), (5, .int x5), (6, .int (x6 + (1 : Int32)))] [1, 2, 3, 4, 5, 0] rfl (hk93 x3 x4 x5 (x6 + (1 : Int32)) (st S 11 ((x4 + (2 : Int32)) + x6).toNatClampNeg (S 11 ((x3 + (2 : Int32)) + x6).toNatClampNeg)))
  · refine gx_aload_n (pc' := 147) hC rfl dX0_addBehind_146 rfl ?_
    refine gx_get (pc' := 150) hC 19 (atX19 cI cZ cR a _) rfl inw_X0 0 (by decide) lk_X0_15 rfl rfl dX0_addBehind_147 ?_
    refine gx_iload (pc' := 152) hC rfl dX0_addBehind_150 rfl ?_
    refine gx_iload (pc' := 154) hC rfl dX0_addBehind_152 rfl ?_
    refine gx_isub (pc' := 155) hC rfl dX0_addBehind_154 ?_
    refine gx_callVI (pc' := 158) hC (c_X2_wordAt cI cZ cR a (x5 - x7) _) 15 (atX15 cI cZ cR a _) rfl kw_X0_62 hy_X2_wordAt ⟨rfl, rfl⟩ (by decide) rfl rfl (Nat.le_of_ble_eq_true rfl) rfl dX0_addBehind_155 (fun r4 => ?_)
    refine gx_goto hC 172 dX0_addBehind_158 (by decide) ?_
    refine gx_iast (pc' := 173) hC 20 0 (atX20 cI cZ cR a _) rfl (st r4.2 11 ((x4 + (2 : Int32)) + x6).toNatClampNeg r4.1) (stX20 cI cZ cR a _ _ _) rfl dX0_addBehind_172 ?_
    refine gx_iinc (v := (x6 + (1 : Int32))) (pc' := 176) hC [(6, .int (x6 + (1 : Int32))), (0, .ref (a 19)), (2, .ref (a 25)), (3, .int x3), (4, .int x4), (5, .int x5), (7, .int x7)] rfl dX0_addBehind_173 rfl rfl (by decide) rfl ?_
    refine gx_goto hC 93 dX0_addBehind_176 (by decide) ?_
    exact gx_sub [(0, .ref (a 19)), (2, .ref (a 25)), (3, .int x3), (4, .int x4), (5, .int x5), (6, .int (x6 + (1 : Int32)))] [1, 2, 3, 4, 5, 0] rfl (hk93 x3 x4 x5 (x6 + (1 : Int32)) (st r4.2 11 ((x4 + (2 : Int32)) + x6).toNatClampNeg r4.1))
set_option maxHeartbeats 4000000 in
set_option maxRecDepth 100000 in
theorem g_X0_addBehind_L93 {p : Program} {l : Launch} {e : Env} {s : State} {m : MethodId} {args : Array Value} {below : List Frame} {meth : Method} {c : Code} {D : va_G} {cI cZ cR : ClassId} {a : Nat → Nat} {tZ : Nat} {A : Nat → Prop} (hC : CX p s m args meth c cX0_addBehind 8 (some .boolean) yX0_addBehind.cls D (tyl cI cZ cR) tZ A) : ∀ (n : Nat) (x3 : Int32) (x4 : Int32) (x5 : Int32) (x6 : Int32) (S : St), GX p l e rm_X0_addBehind s m args below meth c 8 D A (wX cI cZ cR a) (KI below D (tyl cI cZ cR) (wX cI cZ cR a) A args s) 93 [(0, .ref (a 19)), (2, .ref (a 25)), (3, .int x3), (4, .int x4), (5, .int x5), (6, .int x6)] [] S (m_X0_addBehind_L93 n x3 x4 x5 x6 S) := by
  intro n
  induction n with
  | zero => intro x3 x4 x5 x6 S; exact gx_none
  | succ n ih =>
    intro x3 x4 x5 x6 S
    rw [m_X0_addBehind_L93]
    refine gx_iload (pc' := 95) hC rfl dX0_addBehind_93 rfl ?_
    refine gx_iconst (v := (3 : Int32)) (pc' := 96) hC rfl dX0_addBehind_95 (by decide) ?_
    refine gx_icmp_ge (pc' := 99) hC 179 rfl dX0_addBehind_96 (by decide) (fun h3 => ?_) (fun h3 => ?_)
    · refine gx_iconst (v := (1 : Int32)) (pc' := 180) hC rfl dX0_addBehind_179 (by decide) ?_
      exact gx_zret hC dX0_addBehind_180
    · refine gx_aload_n (pc' := 100) hC rfl dX0_addBehind_99 rfl ?_
      refine gx_getN (pc' := 103) hC 25 (atX25 cI cZ cR a _) rfl inw_X6 2 (by decide) lk_X0_65 rfl rfl dX0_addBehind_100 ?_
      refine gx_iload (pc' := 105) hC rfl dX0_addBehind_103 rfl ?_
      refine gx_iald (pc' := 106) hC 26 0 (atX26 cI cZ cR a _) rfl rfl dX0_addBehind_105 ?_
      refine gx_istore (pc' := 108) hC [(7, .int (S 14 x6.toNatClampNeg)), (0, .ref (a 19)), (2, .ref (a 25)), (3, .int x3), (4, .int x4), (5, .int x5), (6, .int x6)] rfl dX0_addBehind_106 (by decide) rfl ?_
      refine gx_iload (pc' := 110) hC rfl dX0_addBehind_108 rfl ?_
      refine gx_if_eq (pc' := 113) hC 130 rfl dX0_addBehind_110 (by decide) (fun h4 => ?_) (fun h4 => ?_)
      · exact gx_sub [(0, .ref (a 19)), (2, .ref (a 25)), (3, .int x3), (4, .int x4), (5, .int x5), (6, .int x6), (7, .int (S 14 x6.toNatClampNeg))] [1, 2, 3, 4, 5, 6, 0] rfl (g_X0_addBehind_L130 hC (m_X0_addBehind_L93 n) ih x3 x4 x5 x6 (S 14 x6.toNatClampNeg) S)
      · refine gx_aload_n (pc' := 114) hC rfl dX0_addBehind_113 rfl ?_
        refine gx_get (pc' := 117) hC 19 (atX19 cI cZ cR a _) rfl inw_X0 0 (by decide) lk_X0_15 rfl rfl dX0_addBehind_114 ?_
        refine gx_iload (pc' := 119) hC rfl dX0_addBehind_117 rfl ?_
        refine gx_iload (pc' := 121) hC rfl dX0_addBehind_119 rfl ?_
        refine gx_isub (pc' := 122) hC rfl dX0_addBehind_121 ?_
        refine gx_callVI (pc' := 125) hC (c_X2_isWord cI cZ cR a (x5 - (S 14 x6.toNatClampNeg)) _) 15 (atX15 cI cZ cR a _) rfl kw_X0_58 hy_X2_isWord ⟨rfl, rfl⟩ (by decide) rfl rfl (Nat.le_of_ble_eq_true rfl) rfl dX0_addBehind_122 (fun r3 => ?_)
        refine gx_if_ne (pc' := 128) hC 130 rfl dX0_addBehind_125 (by decide) (fun h5 => ?_) (fun h5 => ?_)
        · refine gx_iconst (v := (0 : Int32)) (pc' := 129) hC rfl dX0_addBehind_128 (by decide) ?_
          exact gx_zret hC dX0_addBehind_129
        · exact gx_sub [(0, .ref (a 19)), (2, .ref (a 25)), (3, .int x3), (4, .int x4), (5, .int x5), (6, .int x6), (7, .int (S 14 x6.toNatClampNeg))] [1, 2, 3, 4, 5, 6, 0] rfl (g_X0_addBehind_L130 hC (m_X0_addBehind_L93 n) ih x3 x4 x5 x6 (S 14 x6.toNatClampNeg) r3.2)
set_option maxHeartbeats 4000000 in
set_option maxRecDepth 100000 in
theorem g_X0_addBehind_L42 {p : Program} {l : Launch} {e : Env} {s : State} {m : MethodId} {args : Array Value} {below : List Frame} {meth : Method} {c : Code} {D : va_G} {cI cZ cR : ClassId} {a : Nat → Nat} {tZ : Nat} {A : Nat → Prop} (hC : CX p s m args meth c cX0_addBehind 8 (some .boolean) yX0_addBehind.cls D (tyl cI cZ cR) tZ A) (x3 : Int32) (x4 : Int32) (z0 : Int32) (z1 : Int32) (S : St) : GX p l e rm_X0_addBehind s m args below meth c 8 D A (wX cI cZ cR a) (KI below D (tyl cI cZ cR) (wX cI cZ cR a) A args s) 42 [(0, .ref (a 19)), (2, .ref (a 25)), (3, .int x3), (4, .int x4)] [.int z1, .int z0] S (m_X0_addBehind_L42 x3 x4 z0 z1 S) := by
  rw [m_X0_addBehind_L42]
  refine gx_iadd (pc' := 43) hC rfl dX0_addBehind_42 ?_
  refine gx_istore (pc' := 45) hC [(5, .int (z0 + z1)), (0, .ref (a 19)), (2, .ref (a 25)), (3, .int x3), (4, .int x4)] rfl dX0_addBehind_43 (by decide) rfl ?_
  refine gx_aload_n (pc' := 46) hC rfl dX0_addBehind_45 rfl ?_
  refine gx_get (pc' := 49) hC 19 (atX19 cI cZ cR a _) rfl inw_X0 0 (by decide) lk_X0_15 rfl rfl dX0_addBehind_46 ?_
  refine gx_iload (pc' := 51) hC rfl dX0_addBehind_49 rfl ?_
  refine gx_iconst (v := (1 : Int32)) (pc' := 52) hC rfl dX0_addBehind_51 (by decide) ?_
  refine gx_isub (pc' := 53) hC rfl dX0_addBehind_52 ?_
  refine gx_callVI (pc' := 56) hC (c_X2_isWord cI cZ cR a ((z0 + z1) - (1 : Int32)) _) 15 (atX15 cI cZ cR a _) rfl kw_X0_58 hy_X2_isWord ⟨rfl, rfl⟩ (by decide) rfl rfl (Nat.le_of_ble_eq_true rfl) rfl dX0_addBehind_53 (fun r1 => ?_)
  refine gx_if_ne (pc' := 59) hC 61 rfl dX0_addBehind_56 (by decide) (fun h2 => ?_) (fun h2 => ?_)
  · refine gx_iconst (v := (0 : Int32)) (pc' := 60) hC rfl dX0_addBehind_59 (by decide) ?_
    exact gx_zret hC dX0_addBehind_60
  · refine gx_aload_n (pc' := 62) hC rfl dX0_addBehind_61 rfl ?_
    refine gx_get (pc' := 65) hC 19 (atX19 cI cZ cR a _) rfl inw_X0 2 (by decide) lk_X0_11 rfl rfl dX0_addBehind_62 ?_
    refine gx_iload (pc' := 67) hC rfl dX0_addBehind_65 rfl ?_
    refine gx_aload_n (pc' := 68) hC rfl dX0_addBehind_67 rfl ?_
    refine gx_get (pc' := 71) hC 19 (atX19 cI cZ cR a _) rfl inw_X0 0 (by decide) lk_X0_15 rfl rfl dX0_addBehind_68 ?_
    refine gx_iload (pc' := 73) hC rfl dX0_addBehind_71 rfl ?_
    refine gx_iconst (v := (1 : Int32)) (pc' := 74) hC rfl dX0_addBehind_73 (by decide) ?_
    refine gx_isub (pc' := 75) hC rfl dX0_addBehind_74 ?_
    refine gx_callVI (pc' := 78) hC (c_X2_wordAt cI cZ cR a ((z0 + z1) - (1 : Int32)) _) 15 (atX15 cI cZ cR a _) rfl kw_X0_62 hy_X2_wordAt ⟨rfl, rfl⟩ (by decide) rfl rfl (Nat.le_of_ble_eq_true rfl) rfl dX0_addBehind_75 (fun r2 => ?_)
    refine gx_iast (pc' := 79) hC 20 0 (atX20 cI cZ cR a _) rfl (st r2.2 11 x4.toNatClampNeg r2.1) (stX20 cI cZ cR a _ _ _) rfl dX0_addBehind_78 ?_
    refine gx_aload_n (pc' := 80) hC rfl dX0_addBehind_79 rfl ?_
    refine gx_get (pc' := 83) hC 19 (atX19 cI cZ cR a _) rfl inw_X0 2 (by decide) lk_X0_11 rfl rfl dX0_addBehind_80 ?_
    refine gx_iload (pc' := 85) hC rfl dX0_addBehind_83 rfl ?_
    refine gx_iconst (v := (1 : Int32)) (pc' := 86) hC rfl dX0_addBehind_85 (by decide) ?_
    refine gx_iadd (pc' := 87) hC rfl dX0_addBehind_86 ?_
    refine gx_iload (pc' := 89) hC rfl dX0_addBehind_87 rfl ?_
    refine gx_iast (pc' := 90) hC 20 0 (atX20 cI cZ cR a _) rfl (st (st r2.2 11 x4.toNatClampNeg r2.1) 11 (x4 + (1 : Int32)).toNatClampNeg (z0 + z1)) (stX20 cI cZ cR a _ _ _) rfl dX0_addBehind_89 ?_
    refine gx_iconst (v := (0 : Int32)) (pc' := 91) hC rfl dX0_addBehind_90 (by decide) ?_
    refine gx_istore (pc' := 93) hC [(6, .int (0 : Int32)), (5, .int (z0 + z1)), (0, .ref (a 19)), (2, .ref (a 25)), (3, .int x3), (4, .int x4)] rfl dX0_addBehind_91 (by decide) rfl ?_
    exact gx_sub [(0, .ref (a 19)), (2, .ref (a 25)), (3, .int x3), (4, .int x4), (5, .int (z0 + z1)), (6, .int (0 : Int32))] [2, 3, 4, 5, 1, 0] rfl (g_X0_addBehind_L93 hC 10000 x3 x4 (z0 + z1) (0 : Int32) (st (st r2.2 11 x4.toNatClampNeg r2.1) 11 (x4 + (1 : Int32)).toNatClampNeg (z0 + z1)))
set_option maxHeartbeats 4000000 in
set_option maxRecDepth 100000 in
theorem c_X0_addBehind {l : Launch} {D : va_G} {tZ : Nat} (cI cZ cR : ClassId) (a : Nat → Nat) (x1 : Int32) (S : St) : MI l D (tyl cI cZ cR) tZ (wX cI cZ cR a) yX0_addBehind cX0_addBehind 8 (some .boolean) rm_X0_addBehind [.ref (a 19), .int x1, .ref (a 25)] S (m_X0_addBehind x1 S) := by
  refine gx_metI (by decide) (Nat.le_of_ble_eq_true rfl) ?_
  intro p e s m below meth c A hC
  refine gx_sub [(0, .ref (a 19)), (1, .int x1), (2, .ref (a 25))] [0, 1, 2] rfl ?_
  rw [m_X0_addBehind]
  refine gx_iload_n (pc' := 1) hC rfl dX0_addBehind_0 rfl ?_
  refine gx_iconst (v := (5 : Int32)) (pc' := 2) hC rfl dX0_addBehind_1 (by decide) ?_
  refine gx_imul (pc' := 3) hC rfl dX0_addBehind_2 ?_
  refine gx_istore_n (pc' := 4) hC [(3, .int (x1 * (5 : Int32))), (0, .ref (a 19)), (1, .int x1), (2, .ref (a 25))] rfl dX0_addBehind_3 (by decide) rfl ?_
  refine gx_iload_n (pc' := 5) hC rfl dX0_addBehind_4 rfl ?_
  refine gx_iconst (v := (5 : Int32)) (pc' := 6) hC rfl dX0_addBehind_5 (by decide) ?_
  refine gx_iadd (pc' := 7) hC rfl dX0_addBehind_6 ?_
  refine gx_istore (pc' := 9) hC [(4, .int ((x1 * (5 : Int32)) + (5 : Int32))), (3, .int (x1 * (5 : Int32))), (0, .ref (a 19)), (1, .int x1), (2, .ref (a 25))] rfl dX0_addBehind_7 (by decide) rfl ?_
  refine gx_aload_n (pc' := 10) hC rfl dX0_addBehind_9 rfl ?_
  refine gx_getN (pc' := 13) hC 25 (atX25 cI cZ cR a _) rfl inw_X6 1 (by decide) lk_X0_50 rfl rfl dX0_addBehind_10 ?_
  refine gx_aload_n (pc' := 14) hC rfl dX0_addBehind_13 rfl ?_
  refine gx_getN (pc' := 17) hC 25 (atX25 cI cZ cR a _) rfl inw_X6 0 (by decide) lk_X0_55 rfl rfl dX0_addBehind_14 ?_
  refine gx_iconst (v := (1 : Int32)) (pc' := 18) hC rfl dX0_addBehind_17 (by decide) ?_
  refine gx_icmp_ne (pc' := 21) hC 34 rfl dX0_addBehind_18 (by decide) (fun h1 => ?_) (fun h1 => ?_)
  · refine gx_aload_n (pc' := 22) hC rfl dX0_addBehind_21 rfl ?_
    refine gx_get (pc' := 25) hC 19 (atX19 cI cZ cR a _) rfl inw_X0 2 (by decide) lk_X0_11 rfl rfl dX0_addBehind_22 ?_
    refine gx_iload_n (pc' := 26) hC rfl dX0_addBehind_25 rfl ?_
    refine gx_iconst (v := (2 : Int32)) (pc' := 27) hC rfl dX0_addBehind_26 (by decide) ?_
    refine gx_iadd (pc' := 28) hC rfl dX0_addBehind_27 ?_
    refine gx_iconst (v := (0 : Int32)) (pc' := 29) hC rfl dX0_addBehind_28 (by decide) ?_
    refine gx_iadd (pc' := 30) hC rfl dX0_addBehind_29 ?_
    refine gx_iald (pc' := 31) hC 20 0 (atX20 cI cZ cR a _) rfl rfl dX0_addBehind_30 ?_
    refine gx_goto hC 42 dX0_addBehind_31 (by decide) ?_
    exact gx_sub [(0, .ref (a 19)), (2, .ref (a 25)), (3, .int (x1 * (5 : Int32))), (4, .int ((x1 * (5 : Int32)) + (5 : Int32)))] [2, 4, 1, 0] rfl (g_X0_addBehind_L42 hC (x1 * (5 : Int32)) ((x1 * (5 : Int32)) + (5 : Int32)) (S 20 22) (S 11 (((x1 * (5 : Int32)) + (2 : Int32)) + (0 : Int32)).toNatClampNeg) S)
  · refine gx_aload_n (pc' := 35) hC rfl dX0_addBehind_34 rfl ?_
    refine gx_get (pc' := 38) hC 19 (atX19 cI cZ cR a _) rfl inw_X0 2 (by decide) lk_X0_11 rfl rfl dX0_addBehind_35 ?_
    refine gx_iload_n (pc' := 39) hC rfl dX0_addBehind_38 rfl ?_
    refine gx_iconst (v := (1 : Int32)) (pc' := 40) hC rfl dX0_addBehind_39 (by decide) ?_
    refine gx_iadd (pc' := 41) hC rfl dX0_addBehind_40 ?_
    refine gx_iald (pc' := 42) hC 20 0 (atX20 cI cZ cR a _) rfl rfl dX0_addBehind_41 ?_
    exact gx_sub [(0, .ref (a 19)), (2, .ref (a 25)), (3, .int (x1 * (5 : Int32))), (4, .int ((x1 * (5 : Int32)) + (5 : Int32)))] [2, 4, 1, 0] rfl (g_X0_addBehind_L42 hC (x1 * (5 : Int32)) ((x1 * (5 : Int32)) + (5 : Int32)) (S 20 22) (S 11 ((x1 * (5 : Int32)) + (1 : Int32)).toNatClampNeg) S)
set_option maxHeartbeats 4000000 in
set_option maxRecDepth 100000 in
theorem g_X0_findFrames_L89 {p : Program} {l : Launch} {e : Env} {s : State} {m : MethodId} {args : Array Value} {below : List Frame} {meth : Method} {c : Code} {D : va_G} {cI cZ cR : ClassId} {a : Nat → Nat} {tZ : Nat} {A : Nat → Prop} (hC : CX p s m args meth c cX0_findFrames 3 (some .int) yX0_findFrames.cls D (tyl cI cZ cR) tZ A) (k46 : Int32 → St → Option (Int32 × St)) (hk46 : ∀ (x1 : Int32) (S : St), GX p l e rm_X0_findFrames s m args below meth c 3 D A (wX cI cZ cR a) (KI below D (tyl cI cZ cR) (wX cI cZ cR a) A args s) 46 [(0, .ref (a 19)), (1, .int x1)] [] S (k46 x1 S)) (x1 : Int32) (z0 : Int32) (S : St) : GX p l e rm_X0_findFrames s m args below meth c 3 D A (wX cI cZ cR a) (KI below D (tyl cI cZ cR) (wX cI cZ cR a) A args s) 89 [(0, .ref (a 19)), (1, .int x1)] [.int z0] S (m_X0_findFrames_L89 k46 x1 z0 S) := by
  rw [m_X0_findFrames_L89]
  refine gx_istore_n (pc' := 90) hC [(2, .int z0), (0, .ref (a 19)), (1, .int x1)] rfl dX0_findFrames_89 (by decide) rfl ?_
  refine gx_iload_n (pc' := 91) hC rfl dX0_findFrames_90 rfl ?_
  refine gx_if_eq (pc' := 94) hC 109 rfl dX0_findFrames_91 (by decide) (fun h7 => ?_) (fun h7 => ?_)
  · refine gx_iconst (v := (-1 : Int32)) (pc' := 110) hC rfl dX0_findFrames_109 (by decide) ?_
    exact gx_iret hC dX0_findFrames_110
  · refine gx_aload_n (pc' := 95) hC rfl dX0_findFrames_94 rfl ?_
    refine gx_iload_n (pc' := 96) hC rfl dX0_findFrames_95 rfl ?_
    refine gx_aload_n (pc' := 97) hC rfl dX0_findFrames_96 rfl ?_
    refine gx_get (pc' := 100) hC 19 (atX19 cI cZ cR a _) rfl inw_X0 1 (by decide) lk_X0_19 rfl rfl dX0_findFrames_97 ?_
    refine gx_getN (pc' := 103) hC 13 (atX13 cI cZ cR a _) rfl inw_X5 1 (by decide) lk_X0_42 rfl rfl dX0_findFrames_100 ?_
    refine gx_callVI (pc' := 106) hC (c_X0_addBehind cI cZ cR a x1 _) 19 (atX19 cI cZ cR a _) rfl kw_X0_46 hy_X0_addBehind ⟨rfl, rfl⟩ (by decide) rfl rfl (Nat.le_of_ble_eq_true rfl) rfl dX0_findFrames_103 (fun r3 => ?_)
    refine gx_if_ne (pc' := 109) hC 111 rfl dX0_findFrames_106 (by decide) (fun h8 => ?_) (fun h8 => ?_)
    · refine gx_iconst (v := (-1 : Int32)) (pc' := 110) hC rfl dX0_findFrames_109 (by decide) ?_
      exact gx_iret hC dX0_findFrames_110
    · refine gx_iinc (v := (x1 + (1 : Int32))) (pc' := 114) hC [(1, .int (x1 + (1 : Int32))), (2, .int z0), (0, .ref (a 19))] rfl dX0_findFrames_111 rfl rfl (by decide) rfl ?_
      refine gx_goto hC 46 dX0_findFrames_114 (by decide) ?_
      exact gx_sub [(0, .ref (a 19)), (1, .int (x1 + (1 : Int32)))] [2, 0] rfl (hk46 (x1 + (1 : Int32)) r3.2)
set_option maxHeartbeats 4000000 in
set_option maxRecDepth 100000 in
theorem g_X0_findFrames_L117 {p : Program} {l : Launch} {e : Env} {s : State} {m : MethodId} {args : Array Value} {below : List Frame} {meth : Method} {c : Code} {D : va_G} {cI cZ cR : ClassId} {a : Nat → Nat} {tZ : Nat} {A : Nat → Prop} (hC : CX p s m args meth c cX0_findFrames 3 (some .int) yX0_findFrames.cls D (tyl cI cZ cR) tZ A) (x1 : Int32) (S : St) : GX p l e rm_X0_findFrames s m args below meth c 3 D A (wX cI cZ cR a) (KI below D (tyl cI cZ cR) (wX cI cZ cR a) A args s) 117 [(0, .ref (a 19)), (1, .int x1)] [] S (m_X0_findFrames_L117 x1 S) := by
  rw [m_X0_findFrames_L117]
  refine gx_aload_n (pc' := 118) hC rfl dX0_findFrames_117 rfl ?_
  refine gx_get (pc' := 121) hC 19 (atX19 cI cZ cR a _) rfl inw_X0 2 (by decide) lk_X0_11 rfl rfl dX0_findFrames_118 ?_
  refine gx_iload_n (pc' := 122) hC rfl dX0_findFrames_121 rfl ?_
  refine gx_iconst (v := (5 : Int32)) (pc' := 123) hC rfl dX0_findFrames_122 (by decide) ?_
  refine gx_imul (pc' := 124) hC rfl dX0_findFrames_123 ?_
  refine gx_iald (pc' := 125) hC 20 0 (atX20 cI cZ cR a _) rfl rfl dX0_findFrames_124 ?_
  refine gx_sipush (v := (255 : Int32)) (pc' := 128) hC rfl dX0_findFrames_125 (by decide) ?_
  refine gx_icmp_eq (pc' := 131) hC 133 rfl dX0_findFrames_128 (by decide) (fun h6 => ?_) (fun h6 => ?_)
  · refine gx_aload_n (pc' := 134) hC rfl dX0_findFrames_133 rfl ?_
    refine gx_iload_n (pc' := 135) hC rfl dX0_findFrames_134 rfl ?_
    refine gx_iconst (v := (1 : Int32)) (pc' := 136) hC rfl dX0_findFrames_135 (by decide) ?_
    refine gx_iadd (pc' := 137) hC rfl dX0_findFrames_136 ?_
    refine gx_put (pc' := 140) hC tyX0_ok nmX0 19 (atX19 cI cZ cR a _) rfl inw_X0 3 (by decide) lk_X0_23 rfl rfl rfl (Nat.le_of_ble_eq_true rfl) (st S 20 16 (x1 + (1 : Int32))) (ptX19_3 cI cZ cR a _ _) rfl dX0_findFrames_137 ?_
    refine gx_aload_n (pc' := 141) hC rfl dX0_findFrames_140 rfl ?_
    refine gx_get (pc' := 144) hC 19 (atX19 cI cZ cR a _) rfl inw_X0 3 (by decide) lk_X0_23 rfl rfl dX0_findFrames_141 ?_
    exact gx_iret hC dX0_findFrames_144
  · refine gx_iconst (v := (-1 : Int32)) (pc' := 132) hC rfl dX0_findFrames_131 (by decide) ?_
    exact gx_iret hC dX0_findFrames_132
set_option maxHeartbeats 4000000 in
set_option maxRecDepth 100000 in
theorem g_X0_findFrames_L46 {p : Program} {l : Launch} {e : Env} {s : State} {m : MethodId} {args : Array Value} {below : List Frame} {meth : Method} {c : Code} {D : va_G} {cI cZ cR : ClassId} {a : Nat → Nat} {tZ : Nat} {A : Nat → Prop} (hC : CX p s m args meth c cX0_findFrames 3 (some .int) yX0_findFrames.cls D (tyl cI cZ cR) tZ A) : ∀ (n : Nat) (x1 : Int32) (S : St), GX p l e rm_X0_findFrames s m args below meth c 3 D A (wX cI cZ cR a) (KI below D (tyl cI cZ cR) (wX cI cZ cR a) A args s) 46 [(0, .ref (a 19)), (1, .int x1)] [] S (m_X0_findFrames_L46 n x1 S) := by
  intro n
  induction n with
  | zero => intro x1 S; exact gx_none
  | succ n ih =>
    intro x1 S
    rw [m_X0_findFrames_L46]
    refine gx_iload_n (pc' := 47) hC rfl dX0_findFrames_46 rfl ?_
    refine gx_bipush (v := (19 : Int32)) (pc' := 49) hC rfl dX0_findFrames_47 (by decide) ?_
    refine gx_icmp_ge (pc' := 52) hC 117 rfl dX0_findFrames_49 (by decide) (fun h3 => ?_) (fun h3 => ?_)
    · exact gx_sub [(0, .ref (a 19)), (1, .int x1)] [0, 1] rfl (g_X0_findFrames_L117 hC x1 S)
    · refine gx_aload_n (pc' := 53) hC rfl dX0_findFrames_52 rfl ?_
      refine gx_get (pc' := 56) hC 19 (atX19 cI cZ cR a _) rfl inw_X0 2 (by decide) lk_X0_11 rfl rfl dX0_findFrames_53 ?_
      refine gx_iload_n (pc' := 57) hC rfl dX0_findFrames_56 rfl ?_
      refine gx_iconst (v := (5 : Int32)) (pc' := 58) hC rfl dX0_findFrames_57 (by decide) ?_
      refine gx_imul (pc' := 59) hC rfl dX0_findFrames_58 ?_
      refine gx_iald (pc' := 60) hC 20 0 (atX20 cI cZ cR a _) rfl rfl dX0_findFrames_59 ?_
      refine gx_sipush (v := (255 : Int32)) (pc' := 63) hC rfl dX0_findFrames_60 (by decide) ?_
      refine gx_icmp_eq (pc' := 66) hC 117 rfl dX0_findFrames_63 (by decide) (fun h4 => ?_) (fun h4 => ?_)
      · exact gx_sub [(0, .ref (a 19)), (1, .int x1)] [0, 1] rfl (g_X0_findFrames_L117 hC x1 S)
      · refine gx_aload_n (pc' := 67) hC rfl dX0_findFrames_66 rfl ?_
        refine gx_get (pc' := 70) hC 19 (atX19 cI cZ cR a _) rfl inw_X0 1 (by decide) lk_X0_19 rfl rfl dX0_findFrames_67 ?_
        refine gx_aload_n (pc' := 71) hC rfl dX0_findFrames_70 rfl ?_
        refine gx_get (pc' := 74) hC 19 (atX19 cI cZ cR a _) rfl inw_X0 2 (by decide) lk_X0_11 rfl rfl dX0_findFrames_71 ?_
        refine gx_iload_n (pc' := 75) hC rfl dX0_findFrames_74 rfl ?_
        refine gx_iconst (v := (5 : Int32)) (pc' := 76) hC rfl dX0_findFrames_75 (by decide) ?_
        refine gx_imul (pc' := 77) hC rfl dX0_findFrames_76 ?_
        refine gx_iald (pc' := 78) hC 20 0 (atX20 cI cZ cR a _) rfl rfl dX0_findFrames_77 ?_
        refine gx_callVI (pc' := 81) hC (c_X5_lookUp cI cZ cR a (S 11 (x1 * (5 : Int32)).toNatClampNeg) _) 13 (atX13 cI cZ cR a _) rfl kw_X0_37 hy_X5_lookUp ⟨rfl, rfl⟩ (by decide) rfl rfl (Nat.le_of_ble_eq_true rfl) rfl dX0_findFrames_78 (fun r2 => ?_)
        refine gx_if_ne (pc' := 84) hC 88 rfl dX0_findFrames_81 (by decide) (fun h5 => ?_) (fun h5 => ?_)
        · refine gx_iconst (v := (1 : Int32)) (pc' := 85) hC rfl dX0_findFrames_84 (by decide) ?_
          refine gx_goto hC 89 dX0_findFrames_85 (by decide) ?_
          exact gx_sub [(0, .ref (a 19)), (1, .int x1)] [0, 1] rfl (g_X0_findFrames_L89 hC (m_X0_findFrames_L46 n) ih x1 (1 : Int32) r2.2)
        · refine gx_iconst (v := (0 : Int32)) (pc' := 89) hC rfl dX0_findFrames_88 (by decide) ?_
          exact gx_sub [(0, .ref (a 19)), (1, .int x1)] [0, 1] rfl (g_X0_findFrames_L89 hC (m_X0_findFrames_L46 n) ih x1 (0 : Int32) r2.2)
set_option maxHeartbeats 4000000 in
set_option maxRecDepth 100000 in
theorem g_X0_findFrames_L19 {p : Program} {l : Launch} {e : Env} {s : State} {m : MethodId} {args : Array Value} {below : List Frame} {meth : Method} {c : Code} {D : va_G} {cI cZ cR : ClassId} {a : Nat → Nat} {tZ : Nat} {A : Nat → Prop} (hC : CX p s m args meth c cX0_findFrames 3 (some .int) yX0_findFrames.cls D (tyl cI cZ cR) tZ A) : ∀ (n : Nat) (x1 : Int32) (S : St), GX p l e rm_X0_findFrames s m args below meth c 3 D A (wX cI cZ cR a) (KI below D (tyl cI cZ cR) (wX cI cZ cR a) A args s) 19 [(0, .ref (a 19)), (1, .int x1)] [] S (m_X0_findFrames_L19 n x1 S) := by
  intro n
  induction n with
  | zero => intro x1 S; exact gx_none
  | succ n ih =>
    intro x1 S
    rw [m_X0_findFrames_L19]
    refine gx_iload_n (pc' := 20) hC rfl dX0_findFrames_19 rfl ?_
    refine gx_iconst (v := (5 : Int32)) (pc' := 21) hC rfl dX0_findFrames_20 (by decide) ?_
    refine gx_icmp_ge (pc' := 24) hC 44 rfl dX0_findFrames_21 (by decide) (fun h2 => ?_) (fun h2 => ?_)
    · refine gx_iconst (v := (0 : Int32)) (pc' := 45) hC rfl dX0_findFrames_44 (by decide) ?_
      refine gx_istore_n (pc' := 46) hC [(1, .int (0 : Int32)), (0, .ref (a 19))] rfl dX0_findFrames_45 (by decide) rfl ?_
      exact gx_sub [(0, .ref (a 19)), (1, .int (0 : Int32))] [1, 0] rfl (g_X0_findFrames_L46 hC 10000 (0 : Int32) S)
    · refine gx_aload_n (pc' := 25) hC rfl dX0_findFrames_24 rfl ?_
      refine gx_get (pc' := 28) hC 19 (atX19 cI cZ cR a _) rfl inw_X0 2 (by decide) lk_X0_11 rfl rfl dX0_findFrames_25 ?_
      refine gx_iload_n (pc' := 29) hC rfl dX0_findFrames_28 rfl ?_
      refine gx_aload_n (pc' := 30) hC rfl dX0_findFrames_29 rfl ?_
      refine gx_get (pc' := 33) hC 19 (atX19 cI cZ cR a _) rfl inw_X0 0 (by decide) lk_X0_15 rfl rfl dX0_findFrames_30 ?_
      refine gx_iload_n (pc' := 34) hC rfl dX0_findFrames_33 rfl ?_
      refine gx_callVI (pc' := 37) hC (c_X2_part cI cZ cR a x1 _) 15 (atX15 cI cZ cR a _) rfl kw_X0_33 hy_X2_part ⟨rfl, rfl⟩ (by decide) rfl rfl (Nat.le_of_ble_eq_true rfl) rfl dX0_findFrames_34 (fun r1 => ?_)
      refine gx_iast (pc' := 38) hC 20 0 (atX20 cI cZ cR a _) rfl (st r1.2 11 x1.toNatClampNeg r1.1) (stX20 cI cZ cR a _ _ _) rfl dX0_findFrames_37 ?_
      refine gx_iinc (v := (x1 + (1 : Int32))) (pc' := 41) hC [(1, .int (x1 + (1 : Int32))), (0, .ref (a 19))] rfl dX0_findFrames_38 rfl rfl (by decide) rfl ?_
      refine gx_goto hC 19 dX0_findFrames_41 (by decide) ?_
      exact gx_sub [(0, .ref (a 19)), (1, .int (x1 + (1 : Int32)))] [1, 0] rfl (ih (x1 + (1 : Int32)) (st r1.2 11 x1.toNatClampNeg r1.1))
set_option maxHeartbeats 4000000 in
set_option maxRecDepth 100000 in
theorem c_X0_findFrames {l : Launch} {D : va_G} {tZ : Nat} (cI cZ cR : ClassId) (a : Nat → Nat)  (S : St) : MI l D (tyl cI cZ cR) tZ (wX cI cZ cR a) yX0_findFrames cX0_findFrames 3 (some .int) rm_X0_findFrames [.ref (a 19)] S (m_X0_findFrames  S) := by
  refine gx_metI (by decide) (Nat.le_of_ble_eq_true rfl) ?_
  intro p e s m below meth c A hC
  refine gx_sub [(0, .ref (a 19))] [0] rfl ?_
  rw [m_X0_findFrames]
  refine gx_aload_n (pc' := 1) hC rfl dX0_findFrames_0 rfl ?_
  refine gx_iconst (v := (0 : Int32)) (pc' := 2) hC rfl dX0_findFrames_1 (by decide) ?_
  refine gx_put (pc' := 5) hC tyX0_ok nmX0 19 (atX19 cI cZ cR a _) rfl inw_X0 3 (by decide) lk_X0_23 rfl rfl rfl (Nat.le_of_ble_eq_true rfl) (st S 20 16 (0 : Int32)) (ptX19_3 cI cZ cR a _ _) rfl dX0_findFrames_2 ?_
  refine gx_aload_n (pc' := 6) hC rfl dX0_findFrames_5 rfl ?_
  refine gx_get (pc' := 9) hC 19 (atX19 cI cZ cR a _) rfl inw_X0 0 (by decide) lk_X0_15 rfl rfl dX0_findFrames_6 ?_
  refine gx_getN (pc' := 12) hC 15 (atX15 cI cZ cR a _) rfl inw_X2 5 (by decide) lk_X0_27 rfl rfl dX0_findFrames_9 ?_
  refine gx_if_ne (pc' := 15) hC 17 rfl dX0_findFrames_12 (by decide) (fun h1 => ?_) (fun h1 => ?_)
  · refine gx_iconst (v := (-1 : Int32)) (pc' := 16) hC rfl dX0_findFrames_15 (by decide) ?_
    exact gx_iret hC dX0_findFrames_16
  · refine gx_iconst (v := (0 : Int32)) (pc' := 18) hC rfl dX0_findFrames_17 (by decide) ?_
    refine gx_istore_n (pc' := 19) hC [(1, .int (0 : Int32)), (0, .ref (a 19))] rfl dX0_findFrames_18 (by decide) rfl ?_
    exact gx_sub [(0, .ref (a 19)), (1, .int (0 : Int32))] [1, 0] rfl (g_X0_findFrames_L19 hC 10000 (0 : Int32) (st S 20 16 (0 : Int32)))
set_option maxHeartbeats 4000000 in
set_option maxRecDepth 100000 in
theorem c_X0_part {l : Launch} {D : va_G} {tZ : Nat} (cI cZ cR : ClassId) (a : Nat → Nat) (x1 : Int32) (x2 : Int32) (S : St) : MI l D (tyl cI cZ cR) tZ (wX cI cZ cR a) yX0_part cX0_part 3 (some .int) rm_X0_part [.ref (a 19), .int x1, .int x2] S (m_X0_part x1 x2 S) := by
  refine gx_metI (by decide) (Nat.le_of_ble_eq_true rfl) ?_
  intro p e s m below meth c A hC
  refine gx_sub [(0, .ref (a 19)), (1, .int x1), (2, .int x2)] [0, 1, 2] rfl ?_
  rw [m_X0_part]
  refine gx_iload_n (pc' := 1) hC rfl dX0_part_0 rfl ?_
  refine gx_if_lt (pc' := 4) hC 21 rfl dX0_part_1 (by decide) (fun h1 => ?_) (fun h1 => ?_)
  · refine gx_iconst (v := (-1 : Int32)) (pc' := 22) hC rfl dX0_part_21 (by decide) ?_
    exact gx_iret hC dX0_part_22
  · refine gx_iload_n (pc' := 5) hC rfl dX0_part_4 rfl ?_
    refine gx_aload_n (pc' := 6) hC rfl dX0_part_5 rfl ?_
    refine gx_get (pc' := 9) hC 19 (atX19 cI cZ cR a _) rfl inw_X0 3 (by decide) lk_X0_23 rfl rfl dX0_part_6 ?_
    refine gx_icmp_ge (pc' := 12) hC 21 rfl dX0_part_9 (by decide) (fun h2 => ?_) (fun h2 => ?_)
    · refine gx_iconst (v := (-1 : Int32)) (pc' := 22) hC rfl dX0_part_21 (by decide) ?_
      exact gx_iret hC dX0_part_22
    · refine gx_iload_n (pc' := 13) hC rfl dX0_part_12 rfl ?_
      refine gx_if_lt (pc' := 16) hC 21 rfl dX0_part_13 (by decide) (fun h3 => ?_) (fun h3 => ?_)
      · refine gx_iconst (v := (-1 : Int32)) (pc' := 22) hC rfl dX0_part_21 (by decide) ?_
        exact gx_iret hC dX0_part_22
      · refine gx_iload_n (pc' := 17) hC rfl dX0_part_16 rfl ?_
        refine gx_iconst (v := (5 : Int32)) (pc' := 18) hC rfl dX0_part_17 (by decide) ?_
        refine gx_icmp_lt (pc' := 21) hC 23 rfl dX0_part_18 (by decide) (fun h4 => ?_) (fun h4 => ?_)
        · refine gx_aload_n (pc' := 24) hC rfl dX0_part_23 rfl ?_
          refine gx_get (pc' := 27) hC 19 (atX19 cI cZ cR a _) rfl inw_X0 2 (by decide) lk_X0_11 rfl rfl dX0_part_24 ?_
          refine gx_iload_n (pc' := 28) hC rfl dX0_part_27 rfl ?_
          refine gx_iconst (v := (5 : Int32)) (pc' := 29) hC rfl dX0_part_28 (by decide) ?_
          refine gx_imul (pc' := 30) hC rfl dX0_part_29 ?_
          refine gx_iload_n (pc' := 31) hC rfl dX0_part_30 rfl ?_
          refine gx_iadd (pc' := 32) hC rfl dX0_part_31 ?_
          refine gx_iald (pc' := 33) hC 20 0 (atX20 cI cZ cR a _) rfl rfl dX0_part_32 ?_
          exact gx_iret hC dX0_part_33
        · refine gx_iconst (v := (-1 : Int32)) (pc' := 22) hC rfl dX0_part_21 (by decide) ?_
          exact gx_iret hC dX0_part_22
set_option maxHeartbeats 4000000 in
set_option maxRecDepth 100000 in
theorem g_X1_forget_L5 {p : Program} {l : Launch} {e : Env} {s : State} {m : MethodId} {args : Array Value} {below : List Frame} {meth : Method} {c : Code} {D : va_G} {cI cZ cR : ClassId} {a : Nat → Nat} {tZ : Nat} {A : Nat → Prop} (hC : CX p s m args meth c cX1_forget 2 none yX1_forget.cls D (tyl cI cZ cR) tZ A) : ∀ (n : Nat) (x1 : Int32) (S : St), GX p l e rm_X1_forget s m args below meth c 2 D A (wX cI cZ cR a) (KV below D (tyl cI cZ cR) (wX cI cZ cR a) A args s) 5 [(0, .ref (a 6)), (1, .int x1)] [] S (m_X1_forget_L5 n x1 S) := by
  intro n
  induction n with
  | zero => intro x1 S; exact gx_none
  | succ n ih =>
    intro x1 S
    rw [m_X1_forget_L5]
    refine gx_iload_n (pc' := 6) hC rfl dX1_forget_5 rfl ?_
    refine gx_aload_n (pc' := 7) hC rfl dX1_forget_6 rfl ?_
    refine gx_get (pc' := 10) hC 6 (atX6 cI cZ cR a _) rfl inw_X1 8 (by decide) lk_X1_33 rfl rfl dX1_forget_7 ?_
    refine gx_icmp_gt (pc' := 13) hC 33 rfl dX1_forget_10 (by decide) (fun h1 => ?_) (fun h1 => ?_)
    · exact gx_vret hC dX1_forget_33
    · refine gx_aload_n (pc' := 14) hC rfl dX1_forget_13 rfl ?_
      refine gx_get (pc' := 17) hC 6 (atX6 cI cZ cR a _) rfl inw_X1 1 (by decide) lk_X1_9 rfl rfl dX1_forget_14 ?_
      refine gx_iload_n (pc' := 18) hC rfl dX1_forget_17 rfl ?_
      refine gx_iconst (v := (0 : Int32)) (pc' := 19) hC rfl dX1_forget_18 (by decide) ?_
      refine gx_iast (pc' := 20) hC 7 0 (atX7 cI cZ cR a _) rfl (st S 3 x1.toNatClampNeg (0 : Int32)) (stX7 cI cZ cR a _ _ _) rfl dX1_forget_19 ?_
      refine gx_aload_n (pc' := 21) hC rfl dX1_forget_20 rfl ?_
      refine gx_get (pc' := 24) hC 6 (atX6 cI cZ cR a _) rfl inw_X1 2 (by decide) lk_X1_15 rfl rfl dX1_forget_21 ?_
      refine gx_iload_n (pc' := 25) hC rfl dX1_forget_24 rfl ?_
      refine gx_iconst (v := (0 : Int32)) (pc' := 26) hC rfl dX1_forget_25 (by decide) ?_
      refine gx_zast (pc' := 27) hC 8 1 (atX8 cI cZ cR a _) rfl (by decide) (st (st S 3 x1.toNatClampNeg (0 : Int32)) 4 x1.toNatClampNeg (0 : Int32)) (stX8 cI cZ cR a _ _ _) rfl dX1_forget_26 ?_
      refine gx_iinc (v := (x1 + (1 : Int32))) (pc' := 30) hC [(1, .int (x1 + (1 : Int32))), (0, .ref (a 6))] rfl dX1_forget_27 rfl rfl (by decide) rfl ?_
      refine gx_goto hC 5 dX1_forget_30 (by decide) ?_
      exact gx_sub [(0, .ref (a 6)), (1, .int (x1 + (1 : Int32)))] [1, 0] rfl (ih (x1 + (1 : Int32)) (st (st S 3 x1.toNatClampNeg (0 : Int32)) 4 x1.toNatClampNeg (0 : Int32)))
set_option maxHeartbeats 4000000 in
set_option maxRecDepth 100000 in
theorem c_X1_forget {l : Launch} {D : va_G} {tZ : Nat} (cI cZ cR : ClassId) (a : Nat → Nat)  (S : St) : MV l D (tyl cI cZ cR) tZ (wX cI cZ cR a) yX1_forget cX1_forget 2 none rm_X1_forget [.ref (a 6)] S (m_X1_forget  S) := by
  refine gx_metV (by decide) (Nat.le_of_ble_eq_true rfl) ?_
  intro p e s m below meth c A hC
  refine gx_sub [(0, .ref (a 6))] [0] rfl ?_
  rw [m_X1_forget]
  refine gx_aload_n (pc' := 1) hC rfl dX1_forget_0 rfl ?_
  refine gx_get (pc' := 4) hC 6 (atX6 cI cZ cR a _) rfl inw_X1 7 (by decide) lk_X1_29 rfl rfl dX1_forget_1 ?_
  refine gx_istore_n (pc' := 5) hC [(1, .int (S 20 4)), (0, .ref (a 6))] rfl dX1_forget_4 (by decide) rfl ?_
  exact gx_sub [(0, .ref (a 6)), (1, .int (S 20 4))] [1, 0] rfl (g_X1_forget_L5 hC 10000 (S 20 4) S)
set_option maxHeartbeats 4000000 in
set_option maxRecDepth 100000 in
theorem c_X4_codeAt {l : Launch} {D : va_G} {tZ : Nat} (cI cZ cR : ClassId) (a : Nat → Nat) (x1 : Int32) (S : St) : MI l D (tyl cI cZ cR) tZ (wX cI cZ cR a) yX4_codeAt cX4_codeAt 2 (some .int) rm_X4_codeAt [.ref (a 1), .int x1] S (m_X4_codeAt x1 S) := by
  refine gx_metI (by decide) (Nat.le_of_ble_eq_true rfl) ?_
  intro p e s m below meth c A hC
  refine gx_sub [(0, .ref (a 1)), (1, .int x1)] [0, 1] rfl ?_
  rw [m_X4_codeAt]
  refine gx_iload_n (pc' := 1) hC rfl dX4_codeAt_0 rfl ?_
  refine gx_if_lt (pc' := 4) hC 21 rfl dX4_codeAt_1 (by decide) (fun h1 => ?_) (fun h1 => ?_)
  · refine gx_iconst (v := (-1 : Int32)) (pc' := 22) hC rfl dX4_codeAt_21 (by decide) ?_
    exact gx_iret hC dX4_codeAt_22
  · refine gx_iload_n (pc' := 5) hC rfl dX4_codeAt_4 rfl ?_
    refine gx_aload_n (pc' := 6) hC rfl dX4_codeAt_5 rfl ?_
    refine gx_get (pc' := 9) hC 1 (atX1 cI cZ cR a _) rfl inw_X4 3 (by decide) lk_X4_21 rfl rfl dX4_codeAt_6 ?_
    refine gx_icmp_ge (pc' := 12) hC 21 rfl dX4_codeAt_9 (by decide) (fun h2 => ?_) (fun h2 => ?_)
    · refine gx_iconst (v := (-1 : Int32)) (pc' := 22) hC rfl dX4_codeAt_21 (by decide) ?_
      exact gx_iret hC dX4_codeAt_22
    · refine gx_aload_n (pc' := 13) hC rfl dX4_codeAt_12 rfl ?_
      refine gx_get (pc' := 16) hC 1 (atX1 cI cZ cR a _) rfl inw_X4 0 (by decide) lk_X4_9 rfl rfl dX4_codeAt_13 ?_
      refine gx_iload_n (pc' := 17) hC rfl dX4_codeAt_16 rfl ?_
      refine gx_iald (pc' := 18) hC 2 0 (atX2 cI cZ cR a _) rfl rfl dX4_codeAt_17 ?_
      refine gx_goto hC 22 dX4_codeAt_18 (by decide) ?_
      exact gx_iret hC dX4_codeAt_22
set_option maxHeartbeats 4000000 in
set_option maxRecDepth 100000 in
theorem c_X4_namesRegister {l : Launch} {D : va_G} {tZ : Nat} (cI cZ cR : ClassId) (a : Nat → Nat) (x0 : Int32) (S : St) : MI l D (tyl cI cZ cR) tZ (wX cI cZ cR a) yX4_namesRegister cX4_namesRegister 1 (some .boolean) rm_X4_namesRegister [.int x0] S (m_X4_namesRegister x0 S) := by
  refine gx_metI (by decide) (Nat.le_of_ble_eq_true rfl) ?_
  intro p e s m below meth c A hC
  refine gx_sub [(0, .int x0)] [0] rfl ?_
  rw [m_X4_namesRegister]
  refine gx_iload_n (pc' := 1) hC rfl dX4_namesRegister_0 rfl ?_
  refine gx_iconst (v := (1 : Int32)) (pc' := 2) hC rfl dX4_namesRegister_1 (by decide) ?_
  refine gx_icmp_eq (pc' := 5) hC 28 rfl dX4_namesRegister_2 (by decide) (fun h1 => ?_) (fun h1 => ?_)
  · refine gx_iconst (v := (1 : Int32)) (pc' := 29) hC rfl dX4_namesRegister_28 (by decide) ?_
    refine gx_goto hC 33 dX4_namesRegister_29 (by decide) ?_
    exact gx_zret hC dX4_namesRegister_33
  · refine gx_iload_n (pc' := 6) hC rfl dX4_namesRegister_5 rfl ?_
    refine gx_iconst (v := (2 : Int32)) (pc' := 7) hC rfl dX4_namesRegister_6 (by decide) ?_
    refine gx_icmp_eq (pc' := 10) hC 28 rfl dX4_namesRegister_7 (by decide) (fun h2 => ?_) (fun h2 => ?_)
    · refine gx_iconst (v := (1 : Int32)) (pc' := 29) hC rfl dX4_namesRegister_28 (by decide) ?_
      refine gx_goto hC 33 dX4_namesRegister_29 (by decide) ?_
      exact gx_zret hC dX4_namesRegister_33
    · refine gx_iload_n (pc' := 11) hC rfl dX4_namesRegister_10 rfl ?_
      refine gx_bipush (v := (11 : Int32)) (pc' := 13) hC rfl dX4_namesRegister_11 (by decide) ?_
      refine gx_icmp_eq (pc' := 16) hC 28 rfl dX4_namesRegister_13 (by decide) (fun h3 => ?_) (fun h3 => ?_)
      · refine gx_iconst (v := (1 : Int32)) (pc' := 29) hC rfl dX4_namesRegister_28 (by decide) ?_
        refine gx_goto hC 33 dX4_namesRegister_29 (by decide) ?_
        exact gx_zret hC dX4_namesRegister_33
      · refine gx_iload_n (pc' := 17) hC rfl dX4_namesRegister_16 rfl ?_
        refine gx_bipush (v := (14 : Int32)) (pc' := 19) hC rfl dX4_namesRegister_17 (by decide) ?_
        refine gx_icmp_eq (pc' := 22) hC 28 rfl dX4_namesRegister_19 (by decide) (fun h4 => ?_) (fun h4 => ?_)
        · refine gx_iconst (v := (1 : Int32)) (pc' := 29) hC rfl dX4_namesRegister_28 (by decide) ?_
          refine gx_goto hC 33 dX4_namesRegister_29 (by decide) ?_
          exact gx_zret hC dX4_namesRegister_33
        · refine gx_iload_n (pc' := 23) hC rfl dX4_namesRegister_22 rfl ?_
          refine gx_bipush (v := (15 : Int32)) (pc' := 25) hC rfl dX4_namesRegister_23 (by decide) ?_
          refine gx_icmp_ne (pc' := 28) hC 32 rfl dX4_namesRegister_25 (by decide) (fun h5 => ?_) (fun h5 => ?_)
          · refine gx_iconst (v := (1 : Int32)) (pc' := 29) hC rfl dX4_namesRegister_28 (by decide) ?_
            refine gx_goto hC 33 dX4_namesRegister_29 (by decide) ?_
            exact gx_zret hC dX4_namesRegister_33
          · refine gx_iconst (v := (0 : Int32)) (pc' := 33) hC rfl dX4_namesRegister_32 (by decide) ?_
            exact gx_zret hC dX4_namesRegister_33
set_option maxHeartbeats 4000000 in
set_option maxRecDepth 100000 in
theorem c_X4_wholeSize {l : Launch} {D : va_G} {tZ : Nat} (cI cZ cR : ClassId) (a : Nat → Nat) (x1 : Int32) (x2 : Int32) (S : St) : MI l D (tyl cI cZ cR) tZ (wX cI cZ cR a) yX4_wholeSize cX4_wholeSize 5 (some .int) rm_X4_wholeSize [.ref (a 1), .int x1, .int x2] S (m_X4_wholeSize x1 x2 S) := by
  refine gx_metI (by decide) (Nat.le_of_ble_eq_true rfl) ?_
  intro p e s m below meth c A hC
  refine gx_sub [(0, .ref (a 1)), (1, .int x1), (2, .int x2)] [0, 1, 2] rfl ?_
  rw [m_X4_wholeSize]
  refine gx_aload_n (pc' := 1) hC rfl dX4_wholeSize_0 rfl ?_
  refine gx_iload_n (pc' := 2) hC rfl dX4_wholeSize_1 rfl ?_
  refine gx_callVI (pc' := 5) hC (c_X4_codeAt cI cZ cR a x1 _) 1 (atX1 cI cZ cR a _) rfl kw_X4_32 hy_X4_codeAt ⟨rfl, rfl⟩ (by decide) rfl rfl (Nat.le_of_ble_eq_true rfl) rfl dX4_wholeSize_2 (fun r1 => ?_)
  refine gx_istore_n (pc' := 6) hC [(3, .int r1.1), (0, .ref (a 1)), (1, .int x1), (2, .int x2)] rfl dX4_wholeSize_5 (by decide) rfl ?_
  refine gx_iload_n (pc' := 7) hC rfl dX4_wholeSize_6 rfl ?_
  refine gx_if_lt (pc' := 10) hC 18 rfl dX4_wholeSize_7 (by decide) (fun h1 => ?_) (fun h1 => ?_)
  · refine gx_iconst (v := (0 : Int32)) (pc' := 19) hC rfl dX4_wholeSize_18 (by decide) ?_
    exact gx_iret hC dX4_wholeSize_19
  · refine gx_iload_n (pc' := 11) hC rfl dX4_wholeSize_10 rfl ?_
    refine gx_gets (pc' := 14) hC lk_X4_36 rfl dX4_wholeSize_11 ?_
    refine gx_tlen (pc' := 15) hC rfl dX4_wholeSize_14 ?_
    refine gx_icmp_lt (pc' := 18) hC 20 rfl dX4_wholeSize_15 (by decide) (fun h2 => ?_) (fun h2 => ?_)
    · refine gx_gets (pc' := 23) hC lk_X4_36 rfl dX4_wholeSize_20 ?_
      refine gx_iload_n (pc' := 24) hC rfl dX4_wholeSize_23 rfl ?_
      refine gx_ti (pc' := 25) hC rfl dX4_wholeSize_24 ?_
      refine gx_istore (pc' := 27) hC [(4, .int (szs r1.1.toNatClampNeg)), (3, .int r1.1), (0, .ref (a 1)), (1, .int x1), (2, .int x2)] rfl dX4_wholeSize_25 (by decide) rfl ?_
      refine gx_iload (pc' := 29) hC rfl dX4_wholeSize_27 rfl ?_
      refine gx_iload_n (pc' := 30) hC rfl dX4_wholeSize_29 rfl ?_
      refine gx_iload_n (pc' := 31) hC rfl dX4_wholeSize_30 rfl ?_
      refine gx_isub (pc' := 32) hC rfl dX4_wholeSize_31 ?_
      refine gx_icmp_le (pc' := 35) hC 37 rfl dX4_wholeSize_32 (by decide) (fun h3 => ?_) (fun h3 => ?_)
      · refine gx_iload_n (pc' := 38) hC rfl dX4_wholeSize_37 rfl ?_
        refine gx_callSI (pc' := 41) hC (c_X4_namesRegister cI cZ cR a r1.1 _) kw_X4_39 hy_X4_namesRegister ⟨rfl, rfl⟩ (by decide) rfl rfl (Nat.le_of_ble_eq_true rfl) rfl dX4_wholeSize_38 (fun r2 => ?_)
        refine gx_if_eq (pc' := 44) hC 59 rfl dX4_wholeSize_41 (by decide) (fun h4 => ?_) (fun h4 => ?_)
        · refine gx_iload (pc' := 61) hC rfl dX4_wholeSize_59 rfl ?_
          exact gx_iret hC dX4_wholeSize_61
        · refine gx_aload_n (pc' := 45) hC rfl dX4_wholeSize_44 rfl ?_
          refine gx_iload_n (pc' := 46) hC rfl dX4_wholeSize_45 rfl ?_
          refine gx_iconst (v := (1 : Int32)) (pc' := 47) hC rfl dX4_wholeSize_46 (by decide) ?_
          refine gx_iadd (pc' := 48) hC rfl dX4_wholeSize_47 ?_
          refine gx_callVI (pc' := 51) hC (c_X4_codeAt cI cZ cR a (x1 + (1 : Int32)) _) 1 (atX1 cI cZ cR a _) rfl kw_X4_32 hy_X4_codeAt ⟨rfl, rfl⟩ (by decide) rfl rfl (Nat.le_of_ble_eq_true rfl) rfl dX4_wholeSize_48 (fun r3 => ?_)
          refine gx_iconst (v := (3 : Int32)) (pc' := 52) hC rfl dX4_wholeSize_51 (by decide) ?_
          refine gx_icmp_lt (pc' := 55) hC 59 rfl dX4_wholeSize_52 (by decide) (fun h5 => ?_) (fun h5 => ?_)
          · refine gx_iload (pc' := 61) hC rfl dX4_wholeSize_59 rfl ?_
            exact gx_iret hC dX4_wholeSize_61
          · refine gx_iconst (v := (0 : Int32)) (pc' := 56) hC rfl dX4_wholeSize_55 (by decide) ?_
            refine gx_goto hC 61 dX4_wholeSize_56 (by decide) ?_
            exact gx_iret hC dX4_wholeSize_61
      · refine gx_iconst (v := (0 : Int32)) (pc' := 36) hC rfl dX4_wholeSize_35 (by decide) ?_
        exact gx_iret hC dX4_wholeSize_36
    · refine gx_iconst (v := (0 : Int32)) (pc' := 19) hC rfl dX4_wholeSize_18 (by decide) ?_
      exact gx_iret hC dX4_wholeSize_19
set_option maxHeartbeats 4000000 in
set_option maxRecDepth 100000 in
theorem g_X1_markBegins_L7 {p : Program} {l : Launch} {e : Env} {s : State} {m : MethodId} {args : Array Value} {below : List Frame} {meth : Method} {c : Code} {D : va_G} {cI cZ cR : ClassId} {a : Nat → Nat} {tZ : Nat} {A : Nat → Prop} (hC : CX p s m args meth c cX1_markBegins 3 none yX1_markBegins.cls D (tyl cI cZ cR) tZ A) : ∀ (n : Nat) (x1 : Int32) (x2 : Int32) (S : St), GX p l e rm_X1_markBegins s m args below meth c 3 D A (wX cI cZ cR a) (KV below D (tyl cI cZ cR) (wX cI cZ cR a) A args s) 7 [(0, .ref (a 6)), (1, .int x1), (2, .int x2)] [] S (m_X1_markBegins_L7 n x1 x2 S) := by
  intro n
  induction n with
  | zero => intro x1 x2 S; exact gx_none
  | succ n ih =>
    intro x1 x2 S
    rw [m_X1_markBegins_L7]
    refine gx_iload_n (pc' := 8) hC rfl dX1_markBegins_7 rfl ?_
    refine gx_aload_n (pc' := 9) hC rfl dX1_markBegins_8 rfl ?_
    refine gx_get (pc' := 12) hC 6 (atX6 cI cZ cR a _) rfl inw_X1 8 (by decide) lk_X1_33 rfl rfl dX1_markBegins_9 ?_
    refine gx_icmp_ge (pc' := 15) hC 46 rfl dX1_markBegins_12 (by decide) (fun h1 => ?_) (fun h1 => ?_)
    · exact gx_vret hC dX1_markBegins_46
    · refine gx_iload_n (pc' := 16) hC rfl dX1_markBegins_15 rfl ?_
      refine gx_if_le (pc' := 19) hC 46 rfl dX1_markBegins_16 (by decide) (fun h2 => ?_) (fun h2 => ?_)
      · exact gx_vret hC dX1_markBegins_46
      · refine gx_aload_n (pc' := 20) hC rfl dX1_markBegins_19 rfl ?_
        refine gx_get (pc' := 23) hC 6 (atX6 cI cZ cR a _) rfl inw_X1 2 (by decide) lk_X1_15 rfl rfl dX1_markBegins_20 ?_
        refine gx_iload_n (pc' := 24) hC rfl dX1_markBegins_23 rfl ?_
        refine gx_iconst (v := (1 : Int32)) (pc' := 25) hC rfl dX1_markBegins_24 (by decide) ?_
        refine gx_zast (pc' := 26) hC 8 1 (atX8 cI cZ cR a _) rfl (by decide) (st S 4 x1.toNatClampNeg (1 : Int32)) (stX8 cI cZ cR a _ _ _) rfl dX1_markBegins_25 ?_
        refine gx_aload_n (pc' := 27) hC rfl dX1_markBegins_26 rfl ?_
        refine gx_get (pc' := 30) hC 6 (atX6 cI cZ cR a _) rfl inw_X1 0 (by decide) lk_X1_25 rfl rfl dX1_markBegins_27 ?_
        refine gx_iload_n (pc' := 31) hC rfl dX1_markBegins_30 rfl ?_
        refine gx_aload_n (pc' := 32) hC rfl dX1_markBegins_31 rfl ?_
        refine gx_get (pc' := 35) hC 6 (atX6 cI cZ cR a _) rfl inw_X1 8 (by decide) lk_X1_33 rfl rfl dX1_markBegins_32 ?_
        refine gx_callVI (pc' := 38) hC (c_X4_wholeSize cI cZ cR a x1 ((st S 4 x1.toNatClampNeg (1 : Int32)) 20 5) _) 1 (atX1 cI cZ cR a _) rfl kw_X1_59 hy_X4_wholeSize ⟨rfl, rfl⟩ (by decide) rfl rfl (Nat.le_of_ble_eq_true rfl) rfl dX1_markBegins_35 (fun r1 => ?_)
        refine gx_istore_n (pc' := 39) hC [(2, .int r1.1), (0, .ref (a 6)), (1, .int x1)] rfl dX1_markBegins_38 (by decide) rfl ?_
        refine gx_iload_n (pc' := 40) hC rfl dX1_markBegins_39 rfl ?_
        refine gx_iload_n (pc' := 41) hC rfl dX1_markBegins_40 rfl ?_
        refine gx_iadd (pc' := 42) hC rfl dX1_markBegins_41 ?_
        refine gx_istore_n (pc' := 43) hC [(1, .int (x1 + r1.1)), (2, .int r1.1), (0, .ref (a 6))] rfl dX1_markBegins_42 (by decide) rfl ?_
        refine gx_goto hC 7 dX1_markBegins_43 (by decide) ?_
        exact gx_sub [(0, .ref (a 6)), (1, .int (x1 + r1.1)), (2, .int r1.1)] [2, 0, 1] rfl (ih (x1 + r1.1) r1.1 r1.2)
set_option maxHeartbeats 4000000 in
set_option maxRecDepth 100000 in
theorem c_X1_markBegins {l : Launch} {D : va_G} {tZ : Nat} (cI cZ cR : ClassId) (a : Nat → Nat)  (S : St) : MV l D (tyl cI cZ cR) tZ (wX cI cZ cR a) yX1_markBegins cX1_markBegins 3 none rm_X1_markBegins [.ref (a 6)] S (m_X1_markBegins  S) := by
  refine gx_metV (by decide) (Nat.le_of_ble_eq_true rfl) ?_
  intro p e s m below meth c A hC
  refine gx_sub [(0, .ref (a 6))] [0] rfl ?_
  rw [m_X1_markBegins]
  refine gx_aload_n (pc' := 1) hC rfl dX1_markBegins_0 rfl ?_
  refine gx_get (pc' := 4) hC 6 (atX6 cI cZ cR a _) rfl inw_X1 7 (by decide) lk_X1_29 rfl rfl dX1_markBegins_1 ?_
  refine gx_istore_n (pc' := 5) hC [(1, .int (S 20 4)), (0, .ref (a 6))] rfl dX1_markBegins_4 (by decide) rfl ?_
  refine gx_iconst (v := (1 : Int32)) (pc' := 6) hC rfl dX1_markBegins_5 (by decide) ?_
  refine gx_istore_n (pc' := 7) hC [(2, .int (1 : Int32)), (1, .int (S 20 4)), (0, .ref (a 6))] rfl dX1_markBegins_6 (by decide) rfl ?_
  exact gx_sub [(0, .ref (a 6)), (1, .int (S 20 4)), (2, .int (1 : Int32))] [2, 1, 0] rfl (g_X1_markBegins_L7 hC 10000 (S 20 4) (1 : Int32) S)
set_option maxHeartbeats 4000000 in
set_option maxRecDepth 100000 in
theorem g_X1_isKnown_L41 {p : Program} {l : Launch} {e : Env} {s : State} {m : MethodId} {args : Array Value} {below : List Frame} {meth : Method} {c : Code} {D : va_G} {cI cZ cR : ClassId} {a : Nat → Nat} {tZ : Nat} {A : Nat → Prop} (hC : CX p s m args meth c cX1_isKnown 5 (some .boolean) yX1_isKnown.cls D (tyl cI cZ cR) tZ A) : ∀ (n : Nat) (x2 : Int32) (x3 : Int32) (x4 : Int32) (S : St), GX p l e rm_X1_isKnown s m args below meth c 5 D A (wX cI cZ cR a) (KI below D (tyl cI cZ cR) (wX cI cZ cR a) A args s) 41 [(0, .ref (a 6)), (2, .int x2), (3, .int x3), (4, .int x4)] [] S (m_X1_isKnown_L41 n x2 x3 x4 S) := by
  intro n
  induction n with
  | zero => intro x2 x3 x4 S; exact gx_none
  | succ n ih =>
    intro x2 x3 x4 S
    rw [m_X1_isKnown_L41]
    refine gx_iload (pc' := 43) hC rfl dX1_isKnown_41 rfl ?_
    refine gx_iconst (v := (3 : Int32)) (pc' := 44) hC rfl dX1_isKnown_43 (by decide) ?_
    refine gx_icmp_ge (pc' := 47) hC 84 rfl dX1_isKnown_44 (by decide) (fun h3 => ?_) (fun h3 => ?_)
    · refine gx_iload_n (pc' := 85) hC rfl dX1_isKnown_84 rfl ?_
      exact gx_zret hC dX1_isKnown_85
    · refine gx_iload_n (pc' := 48) hC rfl dX1_isKnown_47 rfl ?_
      refine gx_if_eq (pc' := 51) hC 76 rfl dX1_isKnown_48 (by decide) (fun h4 => ?_) (fun h4 => ?_)
      · refine gx_iconst (v := (0 : Int32)) (pc' := 77) hC rfl dX1_isKnown_76 (by decide) ?_
        refine gx_istore_n (pc' := 78) hC [(3, .int (0 : Int32)), (0, .ref (a 6)), (2, .int x2), (4, .int x4)] rfl dX1_isKnown_77 (by decide) rfl ?_
        refine gx_iinc (v := (x4 + (1 : Int32))) (pc' := 81) hC [(4, .int (x4 + (1 : Int32))), (3, .int (0 : Int32)), (0, .ref (a 6)), (2, .int x2)] rfl dX1_isKnown_78 rfl rfl (by decide) rfl ?_
        refine gx_goto hC 41 dX1_isKnown_81 (by decide) ?_
        exact gx_sub [(0, .ref (a 6)), (2, .int x2), (3, .int (0 : Int32)), (4, .int (x4 + (1 : Int32)))] [2, 3, 1, 0] rfl (ih x2 (0 : Int32) (x4 + (1 : Int32)) S)
      · refine gx_aload_n (pc' := 52) hC rfl dX1_isKnown_51 rfl ?_
        refine gx_get (pc' := 55) hC 6 (atX6 cI cZ cR a _) rfl inw_X1 3 (by decide) lk_X1_19 rfl rfl dX1_isKnown_52 ?_
        refine gx_iload_n (pc' := 56) hC rfl dX1_isKnown_55 rfl ?_
        refine gx_iconst (v := (2 : Int32)) (pc' := 57) hC rfl dX1_isKnown_56 (by decide) ?_
        refine gx_iadd (pc' := 58) hC rfl dX1_isKnown_57 ?_
        refine gx_iload (pc' := 60) hC rfl dX1_isKnown_58 rfl ?_
        refine gx_iadd (pc' := 61) hC rfl dX1_isKnown_60 ?_
        refine gx_iald (pc' := 62) hC 9 0 (atX9 cI cZ cR a _) rfl rfl dX1_isKnown_61 ?_
        refine gx_aload_n (pc' := 63) hC rfl dX1_isKnown_62 rfl ?_
        refine gx_get (pc' := 66) hC 6 (atX6 cI cZ cR a _) rfl inw_X1 4 (by decide) lk_X1_22 rfl rfl dX1_isKnown_63 ?_
        refine gx_iload (pc' := 68) hC rfl dX1_isKnown_66 rfl ?_
        refine gx_iald (pc' := 69) hC 10 0 (atX10 cI cZ cR a _) rfl rfl dX1_isKnown_68 ?_
        refine gx_icmp_ne (pc' := 72) hC 76 rfl dX1_isKnown_69 (by decide) (fun h5 => ?_) (fun h5 => ?_)
        · refine gx_iconst (v := (1 : Int32)) (pc' := 73) hC rfl dX1_isKnown_72 (by decide) ?_
          refine gx_goto hC 77 dX1_isKnown_73 (by decide) ?_
          refine gx_istore_n (pc' := 78) hC [(3, .int (1 : Int32)), (0, .ref (a 6)), (2, .int x2), (4, .int x4)] rfl dX1_isKnown_77 (by decide) rfl ?_
          refine gx_iinc (v := (x4 + (1 : Int32))) (pc' := 81) hC [(4, .int (x4 + (1 : Int32))), (3, .int (1 : Int32)), (0, .ref (a 6)), (2, .int x2)] rfl dX1_isKnown_78 rfl rfl (by decide) rfl ?_
          refine gx_goto hC 41 dX1_isKnown_81 (by decide) ?_
          exact gx_sub [(0, .ref (a 6)), (2, .int x2), (3, .int (1 : Int32)), (4, .int (x4 + (1 : Int32)))] [2, 3, 1, 0] rfl (ih x2 (1 : Int32) (x4 + (1 : Int32)) S)
        · refine gx_iconst (v := (0 : Int32)) (pc' := 77) hC rfl dX1_isKnown_76 (by decide) ?_
          refine gx_istore_n (pc' := 78) hC [(3, .int (0 : Int32)), (0, .ref (a 6)), (2, .int x2), (4, .int x4)] rfl dX1_isKnown_77 (by decide) rfl ?_
          refine gx_iinc (v := (x4 + (1 : Int32))) (pc' := 81) hC [(4, .int (x4 + (1 : Int32))), (3, .int (0 : Int32)), (0, .ref (a 6)), (2, .int x2)] rfl dX1_isKnown_78 rfl rfl (by decide) rfl ?_
          refine gx_goto hC 41 dX1_isKnown_81 (by decide) ?_
          exact gx_sub [(0, .ref (a 6)), (2, .int x2), (3, .int (0 : Int32)), (4, .int (x4 + (1 : Int32)))] [2, 3, 1, 0] rfl (ih x2 (0 : Int32) (x4 + (1 : Int32)) S)
set_option maxHeartbeats 4000000 in
set_option maxRecDepth 100000 in
theorem c_X1_isKnown {l : Launch} {D : va_G} {tZ : Nat} (cI cZ cR : ClassId) (a : Nat → Nat) (x1 : Int32) (S : St) : MI l D (tyl cI cZ cR) tZ (wX cI cZ cR a) yX1_isKnown cX1_isKnown 5 (some .boolean) rm_X1_isKnown [.ref (a 6), .int x1] S (m_X1_isKnown x1 S) := by
  refine gx_metI (by decide) (Nat.le_of_ble_eq_true rfl) ?_
  intro p e s m below meth c A hC
  refine gx_sub [(0, .ref (a 6)), (1, .int x1)] [0, 1] rfl ?_
  rw [m_X1_isKnown]
  refine gx_iload_n (pc' := 1) hC rfl dX1_isKnown_0 rfl ?_
  refine gx_iconst (v := (5 : Int32)) (pc' := 2) hC rfl dX1_isKnown_1 (by decide) ?_
  refine gx_imul (pc' := 3) hC rfl dX1_isKnown_2 ?_
  refine gx_istore_n (pc' := 4) hC [(2, .int (x1 * (5 : Int32))), (0, .ref (a 6)), (1, .int x1)] rfl dX1_isKnown_3 (by decide) rfl ?_
  refine gx_aload_n (pc' := 5) hC rfl dX1_isKnown_4 rfl ?_
  refine gx_get (pc' := 8) hC 6 (atX6 cI cZ cR a _) rfl inw_X1 3 (by decide) lk_X1_19 rfl rfl dX1_isKnown_5 ?_
  refine gx_iload_n (pc' := 9) hC rfl dX1_isKnown_8 rfl ?_
  refine gx_iald (pc' := 10) hC 9 0 (atX9 cI cZ cR a _) rfl rfl dX1_isKnown_9 ?_
  refine gx_aload_n (pc' := 11) hC rfl dX1_isKnown_10 rfl ?_
  refine gx_get (pc' := 14) hC 6 (atX6 cI cZ cR a _) rfl inw_X1 5 (by decide) lk_X1_42 rfl rfl dX1_isKnown_11 ?_
  refine gx_icmp_ne (pc' := 17) hC 36 rfl dX1_isKnown_14 (by decide) (fun h1 => ?_) (fun h1 => ?_)
  · refine gx_aload_n (pc' := 18) hC rfl dX1_isKnown_17 rfl ?_
    refine gx_get (pc' := 21) hC 6 (atX6 cI cZ cR a _) rfl inw_X1 3 (by decide) lk_X1_19 rfl rfl dX1_isKnown_18 ?_
    refine gx_iload_n (pc' := 22) hC rfl dX1_isKnown_21 rfl ?_
    refine gx_iconst (v := (1 : Int32)) (pc' := 23) hC rfl dX1_isKnown_22 (by decide) ?_
    refine gx_iadd (pc' := 24) hC rfl dX1_isKnown_23 ?_
    refine gx_iald (pc' := 25) hC 9 0 (atX9 cI cZ cR a _) rfl rfl dX1_isKnown_24 ?_
    refine gx_aload_n (pc' := 26) hC rfl dX1_isKnown_25 rfl ?_
    refine gx_get (pc' := 29) hC 6 (atX6 cI cZ cR a _) rfl inw_X1 6 (by decide) lk_X1_45 rfl rfl dX1_isKnown_26 ?_
    refine gx_icmp_ne (pc' := 32) hC 36 rfl dX1_isKnown_29 (by decide) (fun h2 => ?_) (fun h2 => ?_)
    · refine gx_iconst (v := (1 : Int32)) (pc' := 33) hC rfl dX1_isKnown_32 (by decide) ?_
      refine gx_goto hC 37 dX1_isKnown_33 (by decide) ?_
      refine gx_istore_n (pc' := 38) hC [(3, .int (1 : Int32)), (2, .int (x1 * (5 : Int32))), (0, .ref (a 6)), (1, .int x1)] rfl dX1_isKnown_37 (by decide) rfl ?_
      refine gx_iconst (v := (0 : Int32)) (pc' := 39) hC rfl dX1_isKnown_38 (by decide) ?_
      refine gx_istore (pc' := 41) hC [(4, .int (0 : Int32)), (3, .int (1 : Int32)), (2, .int (x1 * (5 : Int32))), (0, .ref (a 6)), (1, .int x1)] rfl dX1_isKnown_39 (by decide) rfl ?_
      exact gx_sub [(0, .ref (a 6)), (2, .int (x1 * (5 : Int32))), (3, .int (1 : Int32)), (4, .int (0 : Int32))] [3, 2, 1, 0] rfl (g_X1_isKnown_L41 hC 10000 (x1 * (5 : Int32)) (1 : Int32) (0 : Int32) S)
    · refine gx_iconst (v := (0 : Int32)) (pc' := 37) hC rfl dX1_isKnown_36 (by decide) ?_
      refine gx_istore_n (pc' := 38) hC [(3, .int (0 : Int32)), (2, .int (x1 * (5 : Int32))), (0, .ref (a 6)), (1, .int x1)] rfl dX1_isKnown_37 (by decide) rfl ?_
      refine gx_iconst (v := (0 : Int32)) (pc' := 39) hC rfl dX1_isKnown_38 (by decide) ?_
      refine gx_istore (pc' := 41) hC [(4, .int (0 : Int32)), (3, .int (0 : Int32)), (2, .int (x1 * (5 : Int32))), (0, .ref (a 6)), (1, .int x1)] rfl dX1_isKnown_39 (by decide) rfl ?_
      exact gx_sub [(0, .ref (a 6)), (2, .int (x1 * (5 : Int32))), (3, .int (0 : Int32)), (4, .int (0 : Int32))] [3, 2, 1, 0] rfl (g_X1_isKnown_L41 hC 10000 (x1 * (5 : Int32)) (0 : Int32) (0 : Int32) S)
  · refine gx_iconst (v := (0 : Int32)) (pc' := 37) hC rfl dX1_isKnown_36 (by decide) ?_
    refine gx_istore_n (pc' := 38) hC [(3, .int (0 : Int32)), (2, .int (x1 * (5 : Int32))), (0, .ref (a 6)), (1, .int x1)] rfl dX1_isKnown_37 (by decide) rfl ?_
    refine gx_iconst (v := (0 : Int32)) (pc' := 39) hC rfl dX1_isKnown_38 (by decide) ?_
    refine gx_istore (pc' := 41) hC [(4, .int (0 : Int32)), (3, .int (0 : Int32)), (2, .int (x1 * (5 : Int32))), (0, .ref (a 6)), (1, .int x1)] rfl dX1_isKnown_39 (by decide) rfl ?_
    exact gx_sub [(0, .ref (a 6)), (2, .int (x1 * (5 : Int32))), (3, .int (0 : Int32)), (4, .int (0 : Int32))] [3, 2, 1, 0] rfl (g_X1_isKnown_L41 hC 10000 (x1 * (5 : Int32)) (0 : Int32) (0 : Int32) S)
set_option maxHeartbeats 4000000 in
set_option maxRecDepth 100000 in
theorem g_X1_learn_L62 {p : Program} {l : Launch} {e : Env} {s : State} {m : MethodId} {args : Array Value} {below : List Frame} {meth : Method} {c : Code} {D : va_G} {cI cZ cR : ClassId} {a : Nat → Nat} {tZ : Nat} {A : Nat → Prop} (hC : CX p s m args meth c cX1_learn 4 (some .int) yX1_learn.cls D (tyl cI cZ cR) tZ A) : ∀ (n : Nat) (x2 : Int32) (x3 : Int32) (S : St), GX p l e rm_X1_learn s m args below meth c 4 D A (wX cI cZ cR a) (KI below D (tyl cI cZ cR) (wX cI cZ cR a) A args s) 62 [(0, .ref (a 6)), (2, .int x2), (3, .int x3)] [] S (m_X1_learn_L62 n x2 x3 S) := by
  intro n
  induction n with
  | zero => intro x2 x3 S; exact gx_none
  | succ n ih =>
    intro x2 x3 S
    rw [m_X1_learn_L62]
    refine gx_iload_n (pc' := 63) hC rfl dX1_learn_62 rfl ?_
    refine gx_iconst (v := (3 : Int32)) (pc' := 64) hC rfl dX1_learn_63 (by decide) ?_
    refine gx_icmp_ge (pc' := 67) hC 89 rfl dX1_learn_64 (by decide) (fun h3 => ?_) (fun h3 => ?_)
    · refine gx_iconst (v := (0 : Int32)) (pc' := 90) hC rfl dX1_learn_89 (by decide) ?_
      exact gx_iret hC dX1_learn_90
    · refine gx_aload_n (pc' := 68) hC rfl dX1_learn_67 rfl ?_
      refine gx_get (pc' := 71) hC 6 (atX6 cI cZ cR a _) rfl inw_X1 3 (by decide) lk_X1_19 rfl rfl dX1_learn_68 ?_
      refine gx_iload_n (pc' := 72) hC rfl dX1_learn_71 rfl ?_
      refine gx_iconst (v := (2 : Int32)) (pc' := 73) hC rfl dX1_learn_72 (by decide) ?_
      refine gx_iadd (pc' := 74) hC rfl dX1_learn_73 ?_
      refine gx_iload_n (pc' := 75) hC rfl dX1_learn_74 rfl ?_
      refine gx_iadd (pc' := 76) hC rfl dX1_learn_75 ?_
      refine gx_aload_n (pc' := 77) hC rfl dX1_learn_76 rfl ?_
      refine gx_get (pc' := 80) hC 6 (atX6 cI cZ cR a _) rfl inw_X1 4 (by decide) lk_X1_22 rfl rfl dX1_learn_77 ?_
      refine gx_iload_n (pc' := 81) hC rfl dX1_learn_80 rfl ?_
      refine gx_iald (pc' := 82) hC 10 0 (atX10 cI cZ cR a _) rfl rfl dX1_learn_81 ?_
      refine gx_iast (pc' := 83) hC 9 0 (atX9 cI cZ cR a _) rfl (st S 5 ((x2 + (2 : Int32)) + x3).toNatClampNeg (S 6 x3.toNatClampNeg)) (stX9 cI cZ cR a _ _ _) rfl dX1_learn_82 ?_
      refine gx_iinc (v := (x3 + (1 : Int32))) (pc' := 86) hC [(3, .int (x3 + (1 : Int32))), (0, .ref (a 6)), (2, .int x2)] rfl dX1_learn_83 rfl rfl (by decide) rfl ?_
      refine gx_goto hC 62 dX1_learn_86 (by decide) ?_
      exact gx_sub [(0, .ref (a 6)), (2, .int x2), (3, .int (x3 + (1 : Int32)))] [1, 2, 0] rfl (ih x2 (x3 + (1 : Int32)) (st S 5 ((x2 + (2 : Int32)) + x3).toNatClampNeg (S 6 x3.toNatClampNeg)))
set_option maxHeartbeats 4000000 in
set_option maxRecDepth 100000 in
theorem c_X1_learn {l : Launch} {D : va_G} {tZ : Nat} (cI cZ cR : ClassId) (a : Nat → Nat) (x1 : Int32) (S : St) : MI l D (tyl cI cZ cR) tZ (wX cI cZ cR a) yX1_learn cX1_learn 4 (some .int) rm_X1_learn [.ref (a 6), .int x1] S (m_X1_learn x1 S) := by
  refine gx_metI (by decide) (Nat.le_of_ble_eq_true rfl) ?_
  intro p e s m below meth c A hC
  refine gx_sub [(0, .ref (a 6)), (1, .int x1)] [0, 1] rfl ?_
  rw [m_X1_learn]
  refine gx_aload_n (pc' := 1) hC rfl dX1_learn_0 rfl ?_
  refine gx_get (pc' := 4) hC 6 (atX6 cI cZ cR a _) rfl inw_X1 1 (by decide) lk_X1_9 rfl rfl dX1_learn_1 ?_
  refine gx_iload_n (pc' := 5) hC rfl dX1_learn_4 rfl ?_
  refine gx_iald (pc' := 6) hC 7 0 (atX7 cI cZ cR a _) rfl rfl dX1_learn_5 ?_
  refine gx_if_eq (pc' := 9) hC 27 rfl dX1_learn_6 (by decide) (fun h1 => ?_) (fun h1 => ?_)
  · refine gx_iload_n (pc' := 28) hC rfl dX1_learn_27 rfl ?_
    refine gx_iconst (v := (5 : Int32)) (pc' := 29) hC rfl dX1_learn_28 (by decide) ?_
    refine gx_imul (pc' := 30) hC rfl dX1_learn_29 ?_
    refine gx_istore_n (pc' := 31) hC [(2, .int (x1 * (5 : Int32))), (0, .ref (a 6)), (1, .int x1)] rfl dX1_learn_30 (by decide) rfl ?_
    refine gx_aload_n (pc' := 32) hC rfl dX1_learn_31 rfl ?_
    refine gx_get (pc' := 35) hC 6 (atX6 cI cZ cR a _) rfl inw_X1 1 (by decide) lk_X1_9 rfl rfl dX1_learn_32 ?_
    refine gx_iload_n (pc' := 36) hC rfl dX1_learn_35 rfl ?_
    refine gx_iconst (v := (1 : Int32)) (pc' := 37) hC rfl dX1_learn_36 (by decide) ?_
    refine gx_iast (pc' := 38) hC 7 0 (atX7 cI cZ cR a _) rfl (st S 3 x1.toNatClampNeg (1 : Int32)) (stX7 cI cZ cR a _ _ _) rfl dX1_learn_37 ?_
    refine gx_aload_n (pc' := 39) hC rfl dX1_learn_38 rfl ?_
    refine gx_get (pc' := 42) hC 6 (atX6 cI cZ cR a _) rfl inw_X1 3 (by decide) lk_X1_19 rfl rfl dX1_learn_39 ?_
    refine gx_iload_n (pc' := 43) hC rfl dX1_learn_42 rfl ?_
    refine gx_aload_n (pc' := 44) hC rfl dX1_learn_43 rfl ?_
    refine gx_get (pc' := 47) hC 6 (atX6 cI cZ cR a _) rfl inw_X1 5 (by decide) lk_X1_42 rfl rfl dX1_learn_44 ?_
    refine gx_iast (pc' := 48) hC 9 0 (atX9 cI cZ cR a _) rfl (st (st S 3 x1.toNatClampNeg (1 : Int32)) 5 (x1 * (5 : Int32)).toNatClampNeg ((st S 3 x1.toNatClampNeg (1 : Int32)) 20 2)) (stX9 cI cZ cR a _ _ _) rfl dX1_learn_47 ?_
    refine gx_aload_n (pc' := 49) hC rfl dX1_learn_48 rfl ?_
    refine gx_get (pc' := 52) hC 6 (atX6 cI cZ cR a _) rfl inw_X1 3 (by decide) lk_X1_19 rfl rfl dX1_learn_49 ?_
    refine gx_iload_n (pc' := 53) hC rfl dX1_learn_52 rfl ?_
    refine gx_iconst (v := (1 : Int32)) (pc' := 54) hC rfl dX1_learn_53 (by decide) ?_
    refine gx_iadd (pc' := 55) hC rfl dX1_learn_54 ?_
    refine gx_aload_n (pc' := 56) hC rfl dX1_learn_55 rfl ?_
    refine gx_get (pc' := 59) hC 6 (atX6 cI cZ cR a _) rfl inw_X1 6 (by decide) lk_X1_45 rfl rfl dX1_learn_56 ?_
    refine gx_iast (pc' := 60) hC 9 0 (atX9 cI cZ cR a _) rfl (st (st (st S 3 x1.toNatClampNeg (1 : Int32)) 5 (x1 * (5 : Int32)).toNatClampNeg ((st S 3 x1.toNatClampNeg (1 : Int32)) 20 2)) 5 ((x1 * (5 : Int32)) + (1 : Int32)).toNatClampNeg ((st (st S 3 x1.toNatClampNeg (1 : Int32)) 5 (x1 * (5 : Int32)).toNatClampNeg ((st S 3 x1.toNatClampNeg (1 : Int32)) 20 2)) 20 3)) (stX9 cI cZ cR a _ _ _) rfl dX1_learn_59 ?_
    refine gx_iconst (v := (0 : Int32)) (pc' := 61) hC rfl dX1_learn_60 (by decide) ?_
    refine gx_istore_n (pc' := 62) hC [(3, .int (0 : Int32)), (2, .int (x1 * (5 : Int32))), (0, .ref (a 6)), (1, .int x1)] rfl dX1_learn_61 (by decide) rfl ?_
    exact gx_sub [(0, .ref (a 6)), (2, .int (x1 * (5 : Int32))), (3, .int (0 : Int32))] [2, 1, 0] rfl (g_X1_learn_L62 hC 10000 (x1 * (5 : Int32)) (0 : Int32) (st (st (st S 3 x1.toNatClampNeg (1 : Int32)) 5 (x1 * (5 : Int32)).toNatClampNeg ((st S 3 x1.toNatClampNeg (1 : Int32)) 20 2)) 5 ((x1 * (5 : Int32)) + (1 : Int32)).toNatClampNeg ((st (st S 3 x1.toNatClampNeg (1 : Int32)) 5 (x1 * (5 : Int32)).toNatClampNeg ((st S 3 x1.toNatClampNeg (1 : Int32)) 20 2)) 20 3)))
  · refine gx_aload_n (pc' := 10) hC rfl dX1_learn_9 rfl ?_
    refine gx_iload_n (pc' := 11) hC rfl dX1_learn_10 rfl ?_
    refine gx_callVI (pc' := 14) hC (c_X1_isKnown cI cZ cR a x1 _) 6 (atX6 cI cZ cR a _) rfl kw_X1_80 hy_X1_isKnown ⟨rfl, rfl⟩ (by decide) rfl rfl (Nat.le_of_ble_eq_true rfl) rfl dX1_learn_11 (fun r1 => ?_)
    refine gx_if_eq (pc' := 17) hC 21 rfl dX1_learn_14 (by decide) (fun h2 => ?_) (fun h2 => ?_)
    · refine gx_sipush (v := (700 : Int32)) (pc' := 24) hC rfl dX1_learn_21 (by decide) ?_
      refine gx_iload_n (pc' := 25) hC rfl dX1_learn_24 rfl ?_
      refine gx_iadd (pc' := 26) hC rfl dX1_learn_25 ?_
      exact gx_iret hC dX1_learn_26
    · refine gx_iconst (v := (0 : Int32)) (pc' := 18) hC rfl dX1_learn_17 (by decide) ?_
      refine gx_goto hC 26 dX1_learn_18 (by decide) ?_
      exact gx_iret hC dX1_learn_26
set_option maxHeartbeats 4000000 in
set_option maxRecDepth 100000 in
theorem g_X1_lowestToLookAt_L5 {p : Program} {l : Launch} {e : Env} {s : State} {m : MethodId} {args : Array Value} {below : List Frame} {meth : Method} {c : Code} {D : va_G} {cI cZ cR : ClassId} {a : Nat → Nat} {tZ : Nat} {A : Nat → Prop} (hC : CX p s m args meth c cX1_lowestToLookAt 2 (some .int) yX1_lowestToLookAt.cls D (tyl cI cZ cR) tZ A) : ∀ (n : Nat) (x1 : Int32) (S : St), GX p l e rm_X1_lowestToLookAt s m args below meth c 2 D A (wX cI cZ cR a) (KI below D (tyl cI cZ cR) (wX cI cZ cR a) A args s) 5 [(0, .ref (a 6)), (1, .int x1)] [] S (m_X1_lowestToLookAt_L5 n x1 S) := by
  intro n
  induction n with
  | zero => intro x1 S; exact gx_none
  | succ n ih =>
    intro x1 S
    rw [m_X1_lowestToLookAt_L5]
    refine gx_iload_n (pc' := 6) hC rfl dX1_lowestToLookAt_5 rfl ?_
    refine gx_aload_n (pc' := 7) hC rfl dX1_lowestToLookAt_6 rfl ?_
    refine gx_get (pc' := 10) hC 6 (atX6 cI cZ cR a _) rfl inw_X1 8 (by decide) lk_X1_33 rfl rfl dX1_lowestToLookAt_7 ?_
    refine gx_icmp_gt (pc' := 13) hC 31 rfl dX1_lowestToLookAt_10 (by decide) (fun h1 => ?_) (fun h1 => ?_)
    · refine gx_iconst (v := (-1 : Int32)) (pc' := 32) hC rfl dX1_lowestToLookAt_31 (by decide) ?_
      exact gx_iret hC dX1_lowestToLookAt_32
    · refine gx_aload_n (pc' := 14) hC rfl dX1_lowestToLookAt_13 rfl ?_
      refine gx_get (pc' := 17) hC 6 (atX6 cI cZ cR a _) rfl inw_X1 1 (by decide) lk_X1_9 rfl rfl dX1_lowestToLookAt_14 ?_
      refine gx_iload_n (pc' := 18) hC rfl dX1_lowestToLookAt_17 rfl ?_
      refine gx_iald (pc' := 19) hC 7 0 (atX7 cI cZ cR a _) rfl rfl dX1_lowestToLookAt_18 ?_
      refine gx_iconst (v := (1 : Int32)) (pc' := 20) hC rfl dX1_lowestToLookAt_19 (by decide) ?_
      refine gx_icmp_ne (pc' := 23) hC 25 rfl dX1_lowestToLookAt_20 (by decide) (fun h2 => ?_) (fun h2 => ?_)
      · refine gx_iload_n (pc' := 24) hC rfl dX1_lowestToLookAt_23 rfl ?_
        exact gx_iret hC dX1_lowestToLookAt_24
      · refine gx_iinc (v := (x1 + (1 : Int32))) (pc' := 28) hC [(1, .int (x1 + (1 : Int32))), (0, .ref (a 6))] rfl dX1_lowestToLookAt_25 rfl rfl (by decide) rfl ?_
        refine gx_goto hC 5 dX1_lowestToLookAt_28 (by decide) ?_
        exact gx_sub [(0, .ref (a 6)), (1, .int (x1 + (1 : Int32)))] [1, 0] rfl (ih (x1 + (1 : Int32)) S)
set_option maxHeartbeats 4000000 in
set_option maxRecDepth 100000 in
theorem c_X1_lowestToLookAt {l : Launch} {D : va_G} {tZ : Nat} (cI cZ cR : ClassId) (a : Nat → Nat)  (S : St) : MI l D (tyl cI cZ cR) tZ (wX cI cZ cR a) yX1_lowestToLookAt cX1_lowestToLookAt 2 (some .int) rm_X1_lowestToLookAt [.ref (a 6)] S (m_X1_lowestToLookAt  S) := by
  refine gx_metI (by decide) (Nat.le_of_ble_eq_true rfl) ?_
  intro p e s m below meth c A hC
  refine gx_sub [(0, .ref (a 6))] [0] rfl ?_
  rw [m_X1_lowestToLookAt]
  refine gx_aload_n (pc' := 1) hC rfl dX1_lowestToLookAt_0 rfl ?_
  refine gx_get (pc' := 4) hC 6 (atX6 cI cZ cR a _) rfl inw_X1 7 (by decide) lk_X1_29 rfl rfl dX1_lowestToLookAt_1 ?_
  refine gx_istore_n (pc' := 5) hC [(1, .int (S 20 4)), (0, .ref (a 6))] rfl dX1_lowestToLookAt_4 (by decide) rfl ?_
  exact gx_sub [(0, .ref (a 6)), (1, .int (S 20 4))] [1, 0] rfl (g_X1_lowestToLookAt_L5 hC 10000 (S 20 4) S)
set_option maxHeartbeats 4000000 in
set_option maxRecDepth 100000 in
theorem g_X1_recall_L28 {p : Program} {l : Launch} {e : Env} {s : State} {m : MethodId} {args : Array Value} {below : List Frame} {meth : Method} {c : Code} {D : va_G} {cI cZ cR : ClassId} {a : Nat → Nat} {tZ : Nat} {A : Nat → Prop} (hC : CX p s m args meth c cX1_recall 4 none yX1_recall.cls D (tyl cI cZ cR) tZ A) : ∀ (n : Nat) (x2 : Int32) (x3 : Int32) (S : St), GX p l e rm_X1_recall s m args below meth c 4 D A (wX cI cZ cR a) (KV below D (tyl cI cZ cR) (wX cI cZ cR a) A args s) 28 [(0, .ref (a 6)), (2, .int x2), (3, .int x3)] [] S (m_X1_recall_L28 n x2 x3 S) := by
  intro n
  induction n with
  | zero => intro x2 x3 S; exact gx_none
  | succ n ih =>
    intro x2 x3 S
    rw [m_X1_recall_L28]
    refine gx_iload_n (pc' := 29) hC rfl dX1_recall_28 rfl ?_
    refine gx_iconst (v := (3 : Int32)) (pc' := 30) hC rfl dX1_recall_29 (by decide) ?_
    refine gx_icmp_ge (pc' := 33) hC 55 rfl dX1_recall_30 (by decide) (fun h1 => ?_) (fun h1 => ?_)
    · exact gx_vret hC dX1_recall_55
    · refine gx_aload_n (pc' := 34) hC rfl dX1_recall_33 rfl ?_
      refine gx_get (pc' := 37) hC 6 (atX6 cI cZ cR a _) rfl inw_X1 4 (by decide) lk_X1_22 rfl rfl dX1_recall_34 ?_
      refine gx_iload_n (pc' := 38) hC rfl dX1_recall_37 rfl ?_
      refine gx_aload_n (pc' := 39) hC rfl dX1_recall_38 rfl ?_
      refine gx_get (pc' := 42) hC 6 (atX6 cI cZ cR a _) rfl inw_X1 3 (by decide) lk_X1_19 rfl rfl dX1_recall_39 ?_
      refine gx_iload_n (pc' := 43) hC rfl dX1_recall_42 rfl ?_
      refine gx_iconst (v := (2 : Int32)) (pc' := 44) hC rfl dX1_recall_43 (by decide) ?_
      refine gx_iadd (pc' := 45) hC rfl dX1_recall_44 ?_
      refine gx_iload_n (pc' := 46) hC rfl dX1_recall_45 rfl ?_
      refine gx_iadd (pc' := 47) hC rfl dX1_recall_46 ?_
      refine gx_iald (pc' := 48) hC 9 0 (atX9 cI cZ cR a _) rfl rfl dX1_recall_47 ?_
      refine gx_iast (pc' := 49) hC 10 0 (atX10 cI cZ cR a _) rfl (st S 6 x3.toNatClampNeg (S 5 ((x2 + (2 : Int32)) + x3).toNatClampNeg)) (stX10 cI cZ cR a _ _ _) rfl dX1_recall_48 ?_
      refine gx_iinc (v := (x3 + (1 : Int32))) (pc' := 52) hC [(3, .int (x3 + (1 : Int32))), (0, .ref (a 6)), (2, .int x2)] rfl dX1_recall_49 rfl rfl (by decide) rfl ?_
      refine gx_goto hC 28 dX1_recall_52 (by decide) ?_
      exact gx_sub [(0, .ref (a 6)), (2, .int x2), (3, .int (x3 + (1 : Int32)))] [1, 2, 0] rfl (ih x2 (x3 + (1 : Int32)) (st S 6 x3.toNatClampNeg (S 5 ((x2 + (2 : Int32)) + x3).toNatClampNeg)))
set_option maxHeartbeats 4000000 in
set_option maxRecDepth 100000 in
theorem c_X1_recall {l : Launch} {D : va_G} {tZ : Nat} (cI cZ cR : ClassId) (a : Nat → Nat) (x1 : Int32) (S : St) : MV l D (tyl cI cZ cR) tZ (wX cI cZ cR a) yX1_recall cX1_recall 4 none rm_X1_recall [.ref (a 6), .int x1] S (m_X1_recall x1 S) := by
  refine gx_metV (by decide) (Nat.le_of_ble_eq_true rfl) ?_
  intro p e s m below meth c A hC
  refine gx_sub [(0, .ref (a 6)), (1, .int x1)] [0, 1] rfl ?_
  rw [m_X1_recall]
  refine gx_iload_n (pc' := 1) hC rfl dX1_recall_0 rfl ?_
  refine gx_iconst (v := (5 : Int32)) (pc' := 2) hC rfl dX1_recall_1 (by decide) ?_
  refine gx_imul (pc' := 3) hC rfl dX1_recall_2 ?_
  refine gx_istore_n (pc' := 4) hC [(2, .int (x1 * (5 : Int32))), (0, .ref (a 6)), (1, .int x1)] rfl dX1_recall_3 (by decide) rfl ?_
  refine gx_aload_n (pc' := 5) hC rfl dX1_recall_4 rfl ?_
  refine gx_aload_n (pc' := 6) hC rfl dX1_recall_5 rfl ?_
  refine gx_get (pc' := 9) hC 6 (atX6 cI cZ cR a _) rfl inw_X1 3 (by decide) lk_X1_19 rfl rfl dX1_recall_6 ?_
  refine gx_iload_n (pc' := 10) hC rfl dX1_recall_9 rfl ?_
  refine gx_iald (pc' := 11) hC 9 0 (atX9 cI cZ cR a _) rfl rfl dX1_recall_10 ?_
  refine gx_put (pc' := 14) hC tyX1_ok nmX1 6 (atX6 cI cZ cR a _) rfl inw_X1 5 (by decide) lk_X1_42 rfl rfl rfl (Nat.le_of_ble_eq_true rfl) (st S 20 2 (S 5 (x1 * (5 : Int32)).toNatClampNeg)) (ptX6_5 cI cZ cR a _ _) rfl dX1_recall_11 ?_
  refine gx_aload_n (pc' := 15) hC rfl dX1_recall_14 rfl ?_
  refine gx_aload_n (pc' := 16) hC rfl dX1_recall_15 rfl ?_
  refine gx_get (pc' := 19) hC 6 (atX6 cI cZ cR a _) rfl inw_X1 3 (by decide) lk_X1_19 rfl rfl dX1_recall_16 ?_
  refine gx_iload_n (pc' := 20) hC rfl dX1_recall_19 rfl ?_
  refine gx_iconst (v := (1 : Int32)) (pc' := 21) hC rfl dX1_recall_20 (by decide) ?_
  refine gx_iadd (pc' := 22) hC rfl dX1_recall_21 ?_
  refine gx_iald (pc' := 23) hC 9 0 (atX9 cI cZ cR a _) rfl rfl dX1_recall_22 ?_
  refine gx_put (pc' := 26) hC tyX1_ok nmX1 6 (atX6 cI cZ cR a _) rfl inw_X1 6 (by decide) lk_X1_45 rfl rfl rfl (Nat.le_of_ble_eq_true rfl) (st (st S 20 2 (S 5 (x1 * (5 : Int32)).toNatClampNeg)) 20 3 ((st S 20 2 (S 5 (x1 * (5 : Int32)).toNatClampNeg)) 5 ((x1 * (5 : Int32)) + (1 : Int32)).toNatClampNeg)) (ptX6_6 cI cZ cR a _ _) rfl dX1_recall_23 ?_
  refine gx_iconst (v := (0 : Int32)) (pc' := 27) hC rfl dX1_recall_26 (by decide) ?_
  refine gx_istore_n (pc' := 28) hC [(3, .int (0 : Int32)), (2, .int (x1 * (5 : Int32))), (0, .ref (a 6)), (1, .int x1)] rfl dX1_recall_27 (by decide) rfl ?_
  exact gx_sub [(0, .ref (a 6)), (2, .int (x1 * (5 : Int32))), (3, .int (0 : Int32))] [2, 1, 0] rfl (g_X1_recall_L28 hC 10000 (x1 * (5 : Int32)) (0 : Int32) (st (st S 20 2 (S 5 (x1 * (5 : Int32)).toNatClampNeg)) 20 3 ((st S 20 2 (S 5 (x1 * (5 : Int32)).toNatClampNeg)) 5 ((x1 * (5 : Int32)) + (1 : Int32)).toNatClampNeg)))
set_option maxHeartbeats 4000000 in
set_option maxRecDepth 100000 in
theorem c_X1_gain {l : Launch} {D : va_G} {tZ : Nat} (cI cZ cR : ClassId) (a : Nat → Nat) (x1 : Int32) (S : St) : MI l D (tyl cI cZ cR) tZ (wX cI cZ cR a) yX1_gain cX1_gain 2 (some .int) rm_X1_gain [.ref (a 6), .int x1] S (m_X1_gain x1 S) := by
  refine gx_metI (by decide) (Nat.le_of_ble_eq_true rfl) ?_
  intro p e s m below meth c A hC
  refine gx_sub [(0, .ref (a 6)), (1, .int x1)] [0, 1] rfl ?_
  rw [m_X1_gain]
  refine gx_aload_n (pc' := 1) hC rfl dX1_gain_0 rfl ?_
  refine gx_dup (pc' := 2) hC rfl dX1_gain_1 rfl ?_
  refine gx_get (pc' := 5) hC 6 (atX6 cI cZ cR a _) rfl inw_X1 5 (by decide) lk_X1_42 rfl rfl dX1_gain_2 ?_
  refine gx_iload_n (pc' := 6) hC rfl dX1_gain_5 rfl ?_
  refine gx_iadd (pc' := 7) hC rfl dX1_gain_6 ?_
  refine gx_put (pc' := 10) hC tyX1_ok nmX1 6 (atX6 cI cZ cR a _) rfl inw_X1 5 (by decide) lk_X1_42 rfl rfl rfl (Nat.le_of_ble_eq_true rfl) (st S 20 2 ((S 20 2) + x1)) (ptX6_5 cI cZ cR a _ _) rfl dX1_gain_7 ?_
  refine gx_aload_n (pc' := 11) hC rfl dX1_gain_10 rfl ?_
  refine gx_get (pc' := 14) hC 6 (atX6 cI cZ cR a _) rfl inw_X1 5 (by decide) lk_X1_42 rfl rfl dX1_gain_11 ?_
  refine gx_bipush (v := (30 : Int32)) (pc' := 16) hC rfl dX1_gain_14 (by decide) ?_
  refine gx_icmp_le (pc' := 19) hC 24 rfl dX1_gain_16 (by decide) (fun h1 => ?_) (fun h1 => ?_)
  · refine gx_iconst (v := (0 : Int32)) (pc' := 25) hC rfl dX1_gain_24 (by decide) ?_
    exact gx_iret hC dX1_gain_25
  · refine gx_bipush (v := (9 : Int32)) (pc' := 21) hC rfl dX1_gain_19 (by decide) ?_
    refine gx_goto hC 25 dX1_gain_21 (by decide) ?_
    exact gx_iret hC dX1_gain_25
set_option maxHeartbeats 4000000 in
set_option maxRecDepth 100000 in
theorem c_X1_save {l : Launch} {D : va_G} {tZ : Nat} (cI cZ cR : ClassId) (a : Nat → Nat) (x1 : Int32) (x2 : Int32) (S : St) : MV l D (tyl cI cZ cR) tZ (wX cI cZ cR a) yX1_save cX1_save 3 none rm_X1_save [.ref (a 6), .int x1, .int x2] S (m_X1_save x1 x2 S) := by
  refine gx_metV (by decide) (Nat.le_of_ble_eq_true rfl) ?_
  intro p e s m below meth c A hC
  refine gx_sub [(0, .ref (a 6)), (1, .int x1), (2, .int x2)] [0, 1, 2] rfl ?_
  rw [m_X1_save]
  refine gx_aload_n (pc' := 1) hC rfl dX1_save_0 rfl ?_
  refine gx_get (pc' := 4) hC 6 (atX6 cI cZ cR a _) rfl inw_X1 4 (by decide) lk_X1_22 rfl rfl dX1_save_1 ?_
  refine gx_iload_n (pc' := 5) hC rfl dX1_save_4 rfl ?_
  refine gx_iald (pc' := 6) hC 10 0 (atX10 cI cZ cR a _) rfl rfl dX1_save_5 ?_
  refine gx_if_ne (pc' := 9) hC 16 rfl dX1_save_6 (by decide) (fun h1 => ?_) (fun h1 => ?_)
  · refine gx_aload_n (pc' := 10) hC rfl dX1_save_9 rfl ?_
    refine gx_get (pc' := 13) hC 6 (atX6 cI cZ cR a _) rfl inw_X1 4 (by decide) lk_X1_22 rfl rfl dX1_save_10 ?_
    refine gx_iload_n (pc' := 14) hC rfl dX1_save_13 rfl ?_
    refine gx_iload_n (pc' := 15) hC rfl dX1_save_14 rfl ?_
    refine gx_iast (pc' := 16) hC 10 0 (atX10 cI cZ cR a _) rfl (st S 6 x1.toNatClampNeg x2) (stX10 cI cZ cR a _ _ _) rfl dX1_save_15 ?_
    exact gx_vret hC dX1_save_16
  · exact gx_vret hC dX1_save_16
set_option maxHeartbeats 4000000 in
set_option maxRecDepth 100000 in
theorem c_X1_pushRegister {l : Launch} {D : va_G} {tZ : Nat} (cI cZ cR : ClassId) (a : Nat → Nat) (x1 : Int32) (S : St) : MI l D (tyl cI cZ cR) tZ (wX cI cZ cR a) yX1_pushRegister cX1_pushRegister 3 (some .int) rm_X1_pushRegister [.ref (a 6), .int x1] S (m_X1_pushRegister x1 S) := by
  refine gx_metI (by decide) (Nat.le_of_ble_eq_true rfl) ?_
  intro p e s m below meth c A hC
  refine gx_sub [(0, .ref (a 6)), (1, .int x1)] [0, 1] rfl ?_
  rw [m_X1_pushRegister]
  refine gx_aload_n (pc' := 1) hC rfl dX1_pushRegister_0 rfl ?_
  refine gx_iconst (v := (1 : Int32)) (pc' := 2) hC rfl dX1_pushRegister_1 (by decide) ?_
  refine gx_callVI (pc' := 5) hC (c_X1_gain cI cZ cR a (1 : Int32) _) 6 (atX6 cI cZ cR a _) rfl kw_X1_89 hy_X1_gain ⟨rfl, rfl⟩ (by decide) rfl rfl (Nat.le_of_ble_eq_true rfl) rfl dX1_pushRegister_2 (fun r1 => ?_)
  refine gx_istore_n (pc' := 6) hC [(2, .int r1.1), (0, .ref (a 6)), (1, .int x1)] rfl dX1_pushRegister_5 (by decide) rfl ?_
  refine gx_iload_n (pc' := 7) hC rfl dX1_pushRegister_6 rfl ?_
  refine gx_if_ne (pc' := 10) hC 19 rfl dX1_pushRegister_7 (by decide) (fun h1 => ?_) (fun h1 => ?_)
  · refine gx_aload_n (pc' := 11) hC rfl dX1_pushRegister_10 rfl ?_
    refine gx_iload_n (pc' := 12) hC rfl dX1_pushRegister_11 rfl ?_
    refine gx_aload_n (pc' := 13) hC rfl dX1_pushRegister_12 rfl ?_
    refine gx_get (pc' := 16) hC 6 (atX6 cI cZ cR a _) rfl inw_X1 5 (by decide) lk_X1_42 rfl rfl dX1_pushRegister_13 ?_
    refine gx_callVV (pc' := 19) hC (c_X1_save cI cZ cR a x1 (r1.2 20 2) _) 6 (atX6 cI cZ cR a _) rfl kw_X1_120 hy_X1_save ⟨rfl, rfl⟩ (by decide) rfl rfl (Nat.le_of_ble_eq_true rfl) rfl dX1_pushRegister_16 (fun r2 => ?_)
    refine gx_iload_n (pc' := 20) hC rfl dX1_pushRegister_19 rfl ?_
    exact gx_iret hC dX1_pushRegister_20
  · refine gx_iload_n (pc' := 20) hC rfl dX1_pushRegister_19 rfl ?_
    exact gx_iret hC dX1_pushRegister_20
set_option maxHeartbeats 4000000 in
set_option maxRecDepth 100000 in
theorem c_X1_give {l : Launch} {D : va_G} {tZ : Nat} (cI cZ cR : ClassId) (a : Nat → Nat) (x1 : Int32) (x2 : Int32) (S : St) : MI l D (tyl cI cZ cR) tZ (wX cI cZ cR a) yX1_give cX1_give 3 (some .int) rm_X1_give [.ref (a 6), .int x1, .int x2] S (m_X1_give x1 x2 S) := by
  refine gx_metI (by decide) (Nat.le_of_ble_eq_true rfl) ?_
  intro p e s m below meth c A hC
  refine gx_sub [(0, .ref (a 6)), (1, .int x1), (2, .int x2)] [0, 1, 2] rfl ?_
  rw [m_X1_give]
  refine gx_aload_n (pc' := 1) hC rfl dX1_give_0 rfl ?_
  refine gx_get (pc' := 4) hC 6 (atX6 cI cZ cR a _) rfl inw_X1 4 (by decide) lk_X1_22 rfl rfl dX1_give_1 ?_
  refine gx_iload_n (pc' := 5) hC rfl dX1_give_4 rfl ?_
  refine gx_iald (pc' := 6) hC 10 0 (atX10 cI cZ cR a _) rfl rfl dX1_give_5 ?_
  refine gx_if_ne (pc' := 9) hC 11 rfl dX1_give_6 (by decide) (fun h1 => ?_) (fun h1 => ?_)
  · refine gx_iconst (v := (4 : Int32)) (pc' := 10) hC rfl dX1_give_9 (by decide) ?_
    exact gx_iret hC dX1_give_10
  · refine gx_aload_n (pc' := 12) hC rfl dX1_give_11 rfl ?_
    refine gx_get (pc' := 15) hC 6 (atX6 cI cZ cR a _) rfl inw_X1 4 (by decide) lk_X1_22 rfl rfl dX1_give_12 ?_
    refine gx_iload_n (pc' := 16) hC rfl dX1_give_15 rfl ?_
    refine gx_iald (pc' := 17) hC 10 0 (atX10 cI cZ cR a _) rfl rfl dX1_give_16 ?_
    refine gx_iload_n (pc' := 18) hC rfl dX1_give_17 rfl ?_
    refine gx_icmp_ne (pc' := 21) hC 28 rfl dX1_give_18 (by decide) (fun h2 => ?_) (fun h2 => ?_)
    · refine gx_aload_n (pc' := 22) hC rfl dX1_give_21 rfl ?_
      refine gx_get (pc' := 25) hC 6 (atX6 cI cZ cR a _) rfl inw_X1 4 (by decide) lk_X1_22 rfl rfl dX1_give_22 ?_
      refine gx_iload_n (pc' := 26) hC rfl dX1_give_25 rfl ?_
      refine gx_iconst (v := (0 : Int32)) (pc' := 27) hC rfl dX1_give_26 (by decide) ?_
      refine gx_iast (pc' := 28) hC 10 0 (atX10 cI cZ cR a _) rfl (st S 6 x1.toNatClampNeg (0 : Int32)) (stX10 cI cZ cR a _ _ _) rfl dX1_give_27 ?_
      refine gx_iload_n (pc' := 29) hC rfl dX1_give_28 rfl ?_
      refine gx_if_ne (pc' := 32) hC 37 rfl dX1_give_29 (by decide) (fun h4 => ?_) (fun h4 => ?_)
      · refine gx_aload_n (pc' := 33) hC rfl dX1_give_32 rfl ?_
        refine gx_iconst (v := (0 : Int32)) (pc' := 34) hC rfl dX1_give_33 (by decide) ?_
        refine gx_put (pc' := 37) hC tyX1_ok nmX1 6 (atX6 cI cZ cR a _) rfl inw_X1 6 (by decide) lk_X1_45 rfl rfl rfl (Nat.le_of_ble_eq_true rfl) (st (st S 6 x1.toNatClampNeg (0 : Int32)) 20 3 (0 : Int32)) (ptX6_6 cI cZ cR a _ _) rfl dX1_give_34 ?_
        refine gx_iconst (v := (0 : Int32)) (pc' := 38) hC rfl dX1_give_37 (by decide) ?_
        exact gx_iret hC dX1_give_38
      · refine gx_iconst (v := (0 : Int32)) (pc' := 38) hC rfl dX1_give_37 (by decide) ?_
        exact gx_iret hC dX1_give_38
    · refine gx_iload_n (pc' := 29) hC rfl dX1_give_28 rfl ?_
      refine gx_if_ne (pc' := 32) hC 37 rfl dX1_give_29 (by decide) (fun h3 => ?_) (fun h3 => ?_)
      · refine gx_aload_n (pc' := 33) hC rfl dX1_give_32 rfl ?_
        refine gx_iconst (v := (0 : Int32)) (pc' := 34) hC rfl dX1_give_33 (by decide) ?_
        refine gx_put (pc' := 37) hC tyX1_ok nmX1 6 (atX6 cI cZ cR a _) rfl inw_X1 6 (by decide) lk_X1_45 rfl rfl rfl (Nat.le_of_ble_eq_true rfl) (st S 20 3 (0 : Int32)) (ptX6_6 cI cZ cR a _ _) rfl dX1_give_34 ?_
        refine gx_iconst (v := (0 : Int32)) (pc' := 38) hC rfl dX1_give_37 (by decide) ?_
        exact gx_iret hC dX1_give_38
      · refine gx_iconst (v := (0 : Int32)) (pc' := 38) hC rfl dX1_give_37 (by decide) ?_
        exact gx_iret hC dX1_give_38
