set_option maxHeartbeats 4000000 in
set_option maxRecDepth 100000 in
theorem g_X9_function_L129 {p : Program} {l : Launch} {e : Env} {s : State} {m : MethodId} {args : Array Value} {below : List Frame} {meth : Method} {c : Code} {D : va_G} {cI cZ cR : ClassId} {a : Nat → Nat} {tZ : Nat} {A : Nat → Prop} (hC : CX p s m args meth c cX9_function 4 (some .int) yX9_function.cls D (tyl cI cZ cR) tZ A) (x1 : Int32) (x2 : Int32) (x3 : Int32) (S : St) : GX p l e rm_X9_function s m args below meth c 4 D A (wM cI cZ a) (KI below D (tyl cI cZ cR) (wM cI cZ a) A args s) 129 [(0, .ref (a 0)), (1, .int x1), (2, .int x2), (3, .int x3)] [] S (m_X9_function_L129 x1 x2 x3 S) := by
  rw [m_X9_function_L129]
  refine gx_aload_n (pc' := 130) hC rfl dX9_function_129 rfl ?_
  refine gx_get (pc' := 133) hC 0 (atM0 cI cZ a _) rfl inw_X9 4 (by decide) lk_X9_13 rfl rfl dX9_function_130 ?_
  refine gx_iload_n (pc' := 134) hC rfl dX9_function_133 rfl ?_
  refine gx_iload_n (pc' := 135) hC rfl dX9_function_134 rfl ?_
  refine gx_iast (pc' := 136) hC 2 0 (atM2 cI cZ a _) rfl (st S 4 x3.toNatClampNeg x1) (stM2 cI cZ a _ _ _) rfl dX9_function_135 ?_
  refine gx_aload_n (pc' := 137) hC rfl dX9_function_136 rfl ?_
  refine gx_get (pc' := 140) hC 0 (atM0 cI cZ a _) rfl inw_X9 5 (by decide) lk_X9_16 rfl rfl dX9_function_137 ?_
  refine gx_iload_n (pc' := 141) hC rfl dX9_function_140 rfl ?_
  refine gx_iload_n (pc' := 142) hC rfl dX9_function_141 rfl ?_
  refine gx_iast (pc' := 143) hC 3 0 (atM3 cI cZ a _) rfl (st (st S 4 x3.toNatClampNeg x1) 5 x3.toNatClampNeg x2) (stM3 cI cZ a _ _ _) rfl dX9_function_142 ?_
  refine gx_aload_n (pc' := 144) hC rfl dX9_function_143 rfl ?_
  refine gx_dup (pc' := 145) hC rfl dX9_function_144 rfl ?_
  refine gx_get (pc' := 148) hC 0 (atM0 cI cZ a _) rfl inw_X9 3 (by decide) lk_X9_76 rfl rfl dX9_function_145 ?_
  refine gx_iconst (v := (1 : Int32)) (pc' := 149) hC rfl dX9_function_148 (by decide) ?_
  refine gx_iadd (pc' := 150) hC rfl dX9_function_149 ?_
  refine gx_put (pc' := 153) hC tyX9_ok nmX9 0 (atM0 cI cZ a _) rfl inw_X9 3 (by decide) lk_X9_76 rfl rfl rfl (Nat.le_of_ble_eq_true rfl) (st (st (st S 4 x3.toNatClampNeg x1) 5 x3.toNatClampNeg x2) 30 3 (((st (st S 4 x3.toNatClampNeg x1) 5 x3.toNatClampNeg x2) 30 3) + (1 : Int32))) (ptM0_3 cI cZ a _ _) rfl dX9_function_150 ?_
  refine gx_aload_n (pc' := 154) hC rfl dX9_function_153 rfl ?_
  refine gx_get (pc' := 157) hC 0 (atM0 cI cZ a _) rfl inw_X9 3 (by decide) lk_X9_76 rfl rfl dX9_function_154 ?_
  exact gx_iret hC dX9_function_157
set_option maxHeartbeats 4000000 in
set_option maxRecDepth 100000 in
theorem g_X9_function_L79 {p : Program} {l : Launch} {e : Env} {s : State} {m : MethodId} {args : Array Value} {below : List Frame} {meth : Method} {c : Code} {D : va_G} {cI cZ cR : ClassId} {a : Nat → Nat} {tZ : Nat} {A : Nat → Prop} (hC : CX p s m args meth c cX9_function 4 (some .int) yX9_function.cls D (tyl cI cZ cR) tZ A) : ∀ (n : Nat) (x1 : Int32) (x2 : Int32) (x3 : Int32) (S : St), GX p l e rm_X9_function s m args below meth c 4 D A (wM cI cZ a) (KI below D (tyl cI cZ cR) (wM cI cZ a) A args s) 79 [(0, .ref (a 0)), (1, .int x1), (2, .int x2), (3, .int x3)] [] S (m_X9_function_L79 n x1 x2 x3 S) := by
  intro n
  induction n with
  | zero => intro x1 x2 x3 S; exact gx_none
  | succ n ih =>
    intro x1 x2 x3 S
    rw [m_X9_function_L79]
    refine gx_iload_n (pc' := 80) hC rfl dX9_function_79 rfl ?_
    refine gx_if_le (pc' := 83) hC 129 rfl dX9_function_80 (by decide) (fun h8 => ?_) (fun h8 => ?_)
    · exact gx_sub [(0, .ref (a 0)), (1, .int x1), (2, .int x2), (3, .int x3)] [0, 1, 2, 3] rfl (g_X9_function_L129 hC x1 x2 x3 S)
    · refine gx_aload_n (pc' := 84) hC rfl dX9_function_83 rfl ?_
      refine gx_get (pc' := 87) hC 0 (atM0 cI cZ a _) rfl inw_X9 4 (by decide) lk_X9_13 rfl rfl dX9_function_84 ?_
      refine gx_iload_n (pc' := 88) hC rfl dX9_function_87 rfl ?_
      refine gx_iconst (v := (1 : Int32)) (pc' := 89) hC rfl dX9_function_88 (by decide) ?_
      refine gx_isub (pc' := 90) hC rfl dX9_function_89 ?_
      refine gx_iald (pc' := 91) hC 2 0 (atM2 cI cZ a _) rfl rfl dX9_function_90 ?_
      refine gx_iload_n (pc' := 92) hC rfl dX9_function_91 rfl ?_
      refine gx_icmp_le (pc' := 95) hC 129 rfl dX9_function_92 (by decide) (fun h9 => ?_) (fun h9 => ?_)
      · exact gx_sub [(0, .ref (a 0)), (1, .int x1), (2, .int x2), (3, .int x3)] [0, 1, 2, 3] rfl (g_X9_function_L129 hC x1 x2 x3 S)
      · refine gx_aload_n (pc' := 96) hC rfl dX9_function_95 rfl ?_
        refine gx_get (pc' := 99) hC 0 (atM0 cI cZ a _) rfl inw_X9 4 (by decide) lk_X9_13 rfl rfl dX9_function_96 ?_
        refine gx_iload_n (pc' := 100) hC rfl dX9_function_99 rfl ?_
        refine gx_aload_n (pc' := 101) hC rfl dX9_function_100 rfl ?_
        refine gx_get (pc' := 104) hC 0 (atM0 cI cZ a _) rfl inw_X9 4 (by decide) lk_X9_13 rfl rfl dX9_function_101 ?_
        refine gx_iload_n (pc' := 105) hC rfl dX9_function_104 rfl ?_
        refine gx_iconst (v := (1 : Int32)) (pc' := 106) hC rfl dX9_function_105 (by decide) ?_
        refine gx_isub (pc' := 107) hC rfl dX9_function_106 ?_
        refine gx_iald (pc' := 108) hC 2 0 (atM2 cI cZ a _) rfl rfl dX9_function_107 ?_
        refine gx_iast (pc' := 109) hC 2 0 (atM2 cI cZ a _) rfl (st S 4 x3.toNatClampNeg (S 4 (x3 - (1 : Int32)).toNatClampNeg)) (stM2 cI cZ a _ _ _) rfl dX9_function_108 ?_
        refine gx_aload_n (pc' := 110) hC rfl dX9_function_109 rfl ?_
        refine gx_get (pc' := 113) hC 0 (atM0 cI cZ a _) rfl inw_X9 5 (by decide) lk_X9_16 rfl rfl dX9_function_110 ?_
        refine gx_iload_n (pc' := 114) hC rfl dX9_function_113 rfl ?_
        refine gx_aload_n (pc' := 115) hC rfl dX9_function_114 rfl ?_
        refine gx_get (pc' := 118) hC 0 (atM0 cI cZ a _) rfl inw_X9 5 (by decide) lk_X9_16 rfl rfl dX9_function_115 ?_
        refine gx_iload_n (pc' := 119) hC rfl dX9_function_118 rfl ?_
        refine gx_iconst (v := (1 : Int32)) (pc' := 120) hC rfl dX9_function_119 (by decide) ?_
        refine gx_isub (pc' := 121) hC rfl dX9_function_120 ?_
        refine gx_iald (pc' := 122) hC 3 0 (atM3 cI cZ a _) rfl rfl dX9_function_121 ?_
        refine gx_iast (pc' := 123) hC 3 0 (atM3 cI cZ a _) rfl (st (st S 4 x3.toNatClampNeg (S 4 (x3 - (1 : Int32)).toNatClampNeg)) 5 x3.toNatClampNeg ((st S 4 x3.toNatClampNeg (S 4 (x3 - (1 : Int32)).toNatClampNeg)) 5 (x3 - (1 : Int32)).toNatClampNeg)) (stM3 cI cZ a _ _ _) rfl dX9_function_122 ?_
        refine gx_iinc (v := (x3 + (-1 : Int32))) (pc' := 126) hC [(3, .int (x3 + (-1 : Int32))), (0, .ref (a 0)), (1, .int x1), (2, .int x2)] rfl dX9_function_123 rfl rfl (by decide) rfl ?_
        refine gx_goto hC 79 dX9_function_126 (by decide) ?_
        exact gx_sub [(0, .ref (a 0)), (1, .int x1), (2, .int x2), (3, .int (x3 + (-1 : Int32)))] [1, 2, 3, 0] rfl (ih x1 x2 (x3 + (-1 : Int32)) (st (st S 4 x3.toNatClampNeg (S 4 (x3 - (1 : Int32)).toNatClampNeg)) 5 x3.toNatClampNeg ((st S 4 x3.toNatClampNeg (S 4 (x3 - (1 : Int32)).toNatClampNeg)) 5 (x3 - (1 : Int32)).toNatClampNeg)))
set_option maxHeartbeats 4000000 in
set_option maxRecDepth 100000 in
theorem g_X9_function_L34 {p : Program} {l : Launch} {e : Env} {s : State} {m : MethodId} {args : Array Value} {below : List Frame} {meth : Method} {c : Code} {D : va_G} {cI cZ cR : ClassId} {a : Nat → Nat} {tZ : Nat} {A : Nat → Prop} (hC : CX p s m args meth c cX9_function 4 (some .int) yX9_function.cls D (tyl cI cZ cR) tZ A) : ∀ (n : Nat) (x1 : Int32) (x2 : Int32) (x3 : Int32) (S : St), GX p l e rm_X9_function s m args below meth c 4 D A (wM cI cZ a) (KI below D (tyl cI cZ cR) (wM cI cZ a) A args s) 34 [(0, .ref (a 0)), (1, .int x1), (2, .int x2), (3, .int x3)] [] S (m_X9_function_L34 n x1 x2 x3 S) := by
  intro n
  induction n with
  | zero => intro x1 x2 x3 S; exact gx_none
  | succ n ih =>
    intro x1 x2 x3 S
    rw [m_X9_function_L34]
    refine gx_iload_n (pc' := 35) hC rfl dX9_function_34 rfl ?_
    refine gx_aload_n (pc' := 36) hC rfl dX9_function_35 rfl ?_
    refine gx_get (pc' := 39) hC 0 (atM0 cI cZ a _) rfl inw_X9 3 (by decide) lk_X9_76 rfl rfl dX9_function_36 ?_
    refine gx_icmp_ge (pc' := 42) hC 70 rfl dX9_function_39 (by decide) (fun h5 => ?_) (fun h5 => ?_)
    · refine gx_aload_n (pc' := 71) hC rfl dX9_function_70 rfl ?_
      refine gx_callVV (pc' := 74) hC (c_X9_over cI cZ cR a  _) 0 (atM0 cI cZ a _) rfl kw_X9_73 hy_X9_over ⟨rfl, rfl⟩ (by decide) rfl rfl (Nat.le_of_ble_eq_true rfl) rfl dX9_function_71 (fun r1 => ?_)
      refine gx_aload_n (pc' := 75) hC rfl dX9_function_74 rfl ?_
      refine gx_get (pc' := 78) hC 0 (atM0 cI cZ a _) rfl inw_X9 3 (by decide) lk_X9_76 rfl rfl dX9_function_75 ?_
      refine gx_istore_n (pc' := 79) hC [(3, .int (r1.2 30 3)), (0, .ref (a 0)), (1, .int x1), (2, .int x2)] rfl dX9_function_78 (by decide) rfl ?_
      exact gx_sub [(0, .ref (a 0)), (1, .int x1), (2, .int x2), (3, .int (r1.2 30 3))] [1, 2, 3, 0] rfl (g_X9_function_L79 hC 10000 x1 x2 (r1.2 30 3) r1.2)
    · refine gx_iload_n (pc' := 43) hC rfl dX9_function_42 rfl ?_
      refine gx_aload_n (pc' := 44) hC rfl dX9_function_43 rfl ?_
      refine gx_get (pc' := 47) hC 0 (atM0 cI cZ a _) rfl inw_X9 5 (by decide) lk_X9_16 rfl rfl dX9_function_44 ?_
      refine gx_iload_n (pc' := 48) hC rfl dX9_function_47 rfl ?_
      refine gx_iald (pc' := 49) hC 3 0 (atM3 cI cZ a _) rfl rfl dX9_function_48 ?_
      refine gx_icmp_ge (pc' := 52) hC 64 rfl dX9_function_49 (by decide) (fun h6 => ?_) (fun h6 => ?_)
      · refine gx_iinc (v := (x3 + (1 : Int32))) (pc' := 67) hC [(3, .int (x3 + (1 : Int32))), (0, .ref (a 0)), (1, .int x1), (2, .int x2)] rfl dX9_function_64 rfl rfl (by decide) rfl ?_
        refine gx_goto hC 34 dX9_function_67 (by decide) ?_
        exact gx_sub [(0, .ref (a 0)), (1, .int x1), (2, .int x2), (3, .int (x3 + (1 : Int32)))] [1, 2, 3, 0] rfl (ih x1 x2 (x3 + (1 : Int32)) S)
      · refine gx_aload_n (pc' := 53) hC rfl dX9_function_52 rfl ?_
        refine gx_get (pc' := 56) hC 0 (atM0 cI cZ a _) rfl inw_X9 4 (by decide) lk_X9_13 rfl rfl dX9_function_53 ?_
        refine gx_iload_n (pc' := 57) hC rfl dX9_function_56 rfl ?_
        refine gx_iald (pc' := 58) hC 2 0 (atM2 cI cZ a _) rfl rfl dX9_function_57 ?_
        refine gx_iload_n (pc' := 59) hC rfl dX9_function_58 rfl ?_
        refine gx_icmp_ge (pc' := 62) hC 64 rfl dX9_function_59 (by decide) (fun h7 => ?_) (fun h7 => ?_)
        · refine gx_iinc (v := (x3 + (1 : Int32))) (pc' := 67) hC [(3, .int (x3 + (1 : Int32))), (0, .ref (a 0)), (1, .int x1), (2, .int x2)] rfl dX9_function_64 rfl rfl (by decide) rfl ?_
          refine gx_goto hC 34 dX9_function_67 (by decide) ?_
          exact gx_sub [(0, .ref (a 0)), (1, .int x1), (2, .int x2), (3, .int (x3 + (1 : Int32)))] [1, 2, 3, 0] rfl (ih x1 x2 (x3 + (1 : Int32)) S)
        · refine gx_iconst (v := (-1 : Int32)) (pc' := 63) hC rfl dX9_function_62 (by decide) ?_
          exact gx_iret hC dX9_function_63
set_option maxHeartbeats 4000000 in
set_option maxRecDepth 100000 in
theorem c_X9_function {l : Launch} {D : va_G} {tZ : Nat} (cI cZ cR : ClassId) (a : Nat → Nat) (x1 : Int32) (x2 : Int32) (S : St) : MI l D (tyl cI cZ cR) tZ (wM cI cZ a) yX9_function cX9_function 4 (some .int) rm_X9_function [.ref (a 0), .int x1, .int x2] S (m_X9_function x1 x2 S) := by
  refine gx_metI (by decide) (Nat.le_of_ble_eq_true rfl) ?_
  intro p e s m below meth c A hC
  refine gx_sub [(0, .ref (a 0)), (1, .int x1), (2, .int x2)] [0, 1, 2] rfl ?_
  rw [m_X9_function]
  refine gx_aload_n (pc' := 1) hC rfl dX9_function_0 rfl ?_
  refine gx_iconst (v := (0 : Int32)) (pc' := 2) hC rfl dX9_function_1 (by decide) ?_
  refine gx_put (pc' := 5) hC tyX9_ok nmX9 0 (atM0 cI cZ a _) rfl inw_X9 0 (by decide) lk_X9_59 rfl rfl rfl (Nat.le_of_ble_eq_true rfl) (st S 30 0 (0 : Int32)) (ptM0_0 cI cZ a _ _) rfl dX9_function_2 ?_
  refine gx_aload_n (pc' := 6) hC rfl dX9_function_5 rfl ?_
  refine gx_get (pc' := 9) hC 0 (atM0 cI cZ a _) rfl inw_X9 3 (by decide) lk_X9_76 rfl rfl dX9_function_6 ?_
  refine gx_iconst (v := (5 : Int32)) (pc' := 10) hC rfl dX9_function_9 (by decide) ?_
  refine gx_icmp_eq (pc' := 13) hC 30 rfl dX9_function_10 (by decide) (fun h1 => ?_) (fun h1 => ?_)
  · refine gx_iconst (v := (-1 : Int32)) (pc' := 31) hC rfl dX9_function_30 (by decide) ?_
    exact gx_iret hC dX9_function_31
  · refine gx_iload_n (pc' := 14) hC rfl dX9_function_13 rfl ?_
    refine gx_if_lt (pc' := 17) hC 30 rfl dX9_function_14 (by decide) (fun h2 => ?_) (fun h2 => ?_)
    · refine gx_iconst (v := (-1 : Int32)) (pc' := 31) hC rfl dX9_function_30 (by decide) ?_
      exact gx_iret hC dX9_function_31
    · refine gx_iload_n (pc' := 18) hC rfl dX9_function_17 rfl ?_
      refine gx_aload_n (pc' := 19) hC rfl dX9_function_18 rfl ?_
      refine gx_get (pc' := 22) hC 0 (atM0 cI cZ a _) rfl inw_X9 2 (by decide) lk_X9_70 rfl rfl dX9_function_19 ?_
      refine gx_icmp_gt (pc' := 25) hC 30 rfl dX9_function_22 (by decide) (fun h3 => ?_) (fun h3 => ?_)
      · refine gx_iconst (v := (-1 : Int32)) (pc' := 31) hC rfl dX9_function_30 (by decide) ?_
        exact gx_iret hC dX9_function_31
      · refine gx_iload_n (pc' := 26) hC rfl dX9_function_25 rfl ?_
        refine gx_iload_n (pc' := 27) hC rfl dX9_function_26 rfl ?_
        refine gx_icmp_lt (pc' := 30) hC 32 rfl dX9_function_27 (by decide) (fun h4 => ?_) (fun h4 => ?_)
        · refine gx_iconst (v := (0 : Int32)) (pc' := 33) hC rfl dX9_function_32 (by decide) ?_
          refine gx_istore_n (pc' := 34) hC [(3, .int (0 : Int32)), (0, .ref (a 0)), (1, .int x1), (2, .int x2)] rfl dX9_function_33 (by decide) rfl ?_
          exact gx_sub [(0, .ref (a 0)), (1, .int x1), (2, .int x2), (3, .int (0 : Int32))] [1, 2, 3, 0] rfl (g_X9_function_L34 hC 10000 x1 x2 (0 : Int32) (st S 30 0 (0 : Int32)))
        · refine gx_iconst (v := (-1 : Int32)) (pc' := 31) hC rfl dX9_function_30 (by decide) ?_
          exact gx_iret hC dX9_function_31
set_option maxHeartbeats 4000000 in
set_option maxRecDepth 100000 in
theorem c_X9_clear {l : Launch} {D : va_G} {tZ : Nat} (cI cZ cR : ClassId) (a : Nat → Nat)  (S : St) : MI l D (tyl cI cZ cR) tZ (wM cI cZ a) yX9_clear cX9_clear 2 (some .int) rm_X9_clear [.ref (a 0)] S (m_X9_clear  S) := by
  refine gx_metI (by decide) (Nat.le_of_ble_eq_true rfl) ?_
  intro p e s m below meth c A hC
  refine gx_sub [(0, .ref (a 0))] [0] rfl ?_
  rw [m_X9_clear]
  refine gx_aload_n (pc' := 1) hC rfl dX9_clear_0 rfl ?_
  refine gx_iconst (v := (0 : Int32)) (pc' := 2) hC rfl dX9_clear_1 (by decide) ?_
  refine gx_put (pc' := 5) hC tyX9_ok nmX9 0 (atM0 cI cZ a _) rfl inw_X9 0 (by decide) lk_X9_59 rfl rfl rfl (Nat.le_of_ble_eq_true rfl) (st S 30 0 (0 : Int32)) (ptM0_0 cI cZ a _ _) rfl dX9_clear_2 ?_
  refine gx_aload_n (pc' := 6) hC rfl dX9_clear_5 rfl ?_
  refine gx_get (pc' := 9) hC 0 (atM0 cI cZ a _) rfl inw_X9 3 (by decide) lk_X9_76 rfl rfl dX9_clear_6 ?_
  refine gx_istore_n (pc' := 10) hC [(1, .int ((st S 30 0 (0 : Int32)) 30 3)), (0, .ref (a 0))] rfl dX9_clear_9 (by decide) rfl ?_
  refine gx_aload_n (pc' := 11) hC rfl dX9_clear_10 rfl ?_
  refine gx_callVV (pc' := 14) hC (c_X9_over cI cZ cR a  _) 0 (atM0 cI cZ a _) rfl kw_X9_73 hy_X9_over ⟨rfl, rfl⟩ (by decide) rfl rfl (Nat.le_of_ble_eq_true rfl) rfl dX9_clear_11 (fun r1 => ?_)
  refine gx_aload_n (pc' := 15) hC rfl dX9_clear_14 rfl ?_
  refine gx_iconst (v := (0 : Int32)) (pc' := 16) hC rfl dX9_clear_15 (by decide) ?_
  refine gx_put (pc' := 19) hC tyX9_ok nmX9 0 (atM0 cI cZ a _) rfl inw_X9 3 (by decide) lk_X9_76 rfl rfl rfl (Nat.le_of_ble_eq_true rfl) (st r1.2 30 3 (0 : Int32)) (ptM0_3 cI cZ a _ _) rfl dX9_clear_16 ?_
  refine gx_aload_n (pc' := 20) hC rfl dX9_clear_19 rfl ?_
  refine gx_iconst (v := (0 : Int32)) (pc' := 21) hC rfl dX9_clear_20 (by decide) ?_
  refine gx_put (pc' := 24) hC tyX9_ok nmX9 0 (atM0 cI cZ a _) rfl inw_X9 2 (by decide) lk_X9_70 rfl rfl rfl (Nat.le_of_ble_eq_true rfl) (st (st r1.2 30 3 (0 : Int32)) 30 2 (0 : Int32)) (ptM0_2 cI cZ a _ _) rfl dX9_clear_21 ?_
  refine gx_iload_n (pc' := 25) hC rfl dX9_clear_24 rfl ?_
  exact gx_iret hC dX9_clear_25
set_option maxHeartbeats 4000000 in
set_option maxRecDepth 100000 in
theorem c_X9_lengthOf {l : Launch} {D : va_G} {tZ : Nat} (cI cZ cR : ClassId) (a : Nat → Nat) (x0 : Int32) (S : St) : MI l D (tyl cI cZ cR) tZ (wM cI cZ a) yX9_lengthOf cX9_lengthOf 1 (some .int) rm_X9_lengthOf [.int x0] S (m_X9_lengthOf x0 S) := by
  refine gx_metI (by decide) (Nat.le_of_ble_eq_true rfl) ?_
  intro p e s m below meth c A hC
  refine gx_sub [(0, .int x0)] [0] rfl ?_
  rw [m_X9_lengthOf]
  refine gx_iload_n (pc' := 1) hC rfl dX9_lengthOf_0 rfl ?_
  refine gx_ite (fun h1 => ?_) (fun h1 => ?_)
  · refine gx_case (v := (0 : Int32)) (off := 79) hC 80 h1 dX9_lengthOf_1 (by decide) ?_
    refine gx_iconst (v := (1 : Int32)) (pc' := 81) hC rfl dX9_lengthOf_80 (by decide) ?_
    exact gx_iret hC dX9_lengthOf_81
  refine gx_ite (fun h2 => ?_) (fun h2 => ?_)
  · refine gx_case (v := (1 : Int32)) (off := 83) hC 84 h2 dX9_lengthOf_1 (by decide) ?_
    refine gx_iload_n (pc' := 85) hC rfl dX9_lengthOf_84 rfl ?_
    refine gx_bipush (v := (16 : Int32)) (pc' := 87) hC rfl dX9_lengthOf_85 (by decide) ?_
    refine gx_icmp_ge (pc' := 90) hC 94 rfl dX9_lengthOf_87 (by decide) (fun h3 => ?_) (fun h3 => ?_)
    · refine gx_iconst (v := (0 : Int32)) (pc' := 95) hC rfl dX9_lengthOf_94 (by decide) ?_
      exact gx_iret hC dX9_lengthOf_95
    · refine gx_iconst (v := (2 : Int32)) (pc' := 91) hC rfl dX9_lengthOf_90 (by decide) ?_
      refine gx_goto hC 95 dX9_lengthOf_91 (by decide) ?_
      exact gx_iret hC dX9_lengthOf_95
  refine gx_ite (fun h4 => ?_) (fun h4 => ?_)
  · refine gx_case (v := (2 : Int32)) (off := 83) hC 84 h4 dX9_lengthOf_1 (by decide) ?_
    refine gx_iload_n (pc' := 85) hC rfl dX9_lengthOf_84 rfl ?_
    refine gx_bipush (v := (16 : Int32)) (pc' := 87) hC rfl dX9_lengthOf_85 (by decide) ?_
    refine gx_icmp_ge (pc' := 90) hC 94 rfl dX9_lengthOf_87 (by decide) (fun h5 => ?_) (fun h5 => ?_)
    · refine gx_iconst (v := (0 : Int32)) (pc' := 95) hC rfl dX9_lengthOf_94 (by decide) ?_
      exact gx_iret hC dX9_lengthOf_95
    · refine gx_iconst (v := (2 : Int32)) (pc' := 91) hC rfl dX9_lengthOf_90 (by decide) ?_
      refine gx_goto hC 95 dX9_lengthOf_91 (by decide) ?_
      exact gx_iret hC dX9_lengthOf_95
  refine gx_ite (fun h6 => ?_) (fun h6 => ?_)
  · refine gx_case (v := (3 : Int32)) (off := 83) hC 84 h6 dX9_lengthOf_1 (by decide) ?_
    refine gx_iload_n (pc' := 85) hC rfl dX9_lengthOf_84 rfl ?_
    refine gx_bipush (v := (16 : Int32)) (pc' := 87) hC rfl dX9_lengthOf_85 (by decide) ?_
    refine gx_icmp_ge (pc' := 90) hC 94 rfl dX9_lengthOf_87 (by decide) (fun h7 => ?_) (fun h7 => ?_)
    · refine gx_iconst (v := (0 : Int32)) (pc' := 95) hC rfl dX9_lengthOf_94 (by decide) ?_
      exact gx_iret hC dX9_lengthOf_95
    · refine gx_iconst (v := (2 : Int32)) (pc' := 91) hC rfl dX9_lengthOf_90 (by decide) ?_
      refine gx_goto hC 95 dX9_lengthOf_91 (by decide) ?_
      exact gx_iret hC dX9_lengthOf_95
  refine gx_ite (fun h8 => ?_) (fun h8 => ?_)
  · refine gx_case (v := (4 : Int32)) (off := 83) hC 84 h8 dX9_lengthOf_1 (by decide) ?_
    refine gx_iload_n (pc' := 85) hC rfl dX9_lengthOf_84 rfl ?_
    refine gx_bipush (v := (16 : Int32)) (pc' := 87) hC rfl dX9_lengthOf_85 (by decide) ?_
    refine gx_icmp_ge (pc' := 90) hC 94 rfl dX9_lengthOf_87 (by decide) (fun h9 => ?_) (fun h9 => ?_)
    · refine gx_iconst (v := (0 : Int32)) (pc' := 95) hC rfl dX9_lengthOf_94 (by decide) ?_
      exact gx_iret hC dX9_lengthOf_95
    · refine gx_iconst (v := (2 : Int32)) (pc' := 91) hC rfl dX9_lengthOf_90 (by decide) ?_
      refine gx_goto hC 95 dX9_lengthOf_91 (by decide) ?_
      exact gx_iret hC dX9_lengthOf_95
  refine gx_ite (fun h10 => ?_) (fun h10 => ?_)
  · refine gx_case (v := (5 : Int32)) (off := 79) hC 80 h10 dX9_lengthOf_1 (by decide) ?_
    refine gx_iconst (v := (1 : Int32)) (pc' := 81) hC rfl dX9_lengthOf_80 (by decide) ?_
    exact gx_iret hC dX9_lengthOf_81
  refine gx_ite (fun h11 => ?_) (fun h11 => ?_)
  · refine gx_case (v := (6 : Int32)) (off := 79) hC 80 h11 dX9_lengthOf_1 (by decide) ?_
    refine gx_iconst (v := (1 : Int32)) (pc' := 81) hC rfl dX9_lengthOf_80 (by decide) ?_
    exact gx_iret hC dX9_lengthOf_81
  refine gx_ite (fun h12 => ?_) (fun h12 => ?_)
  · refine gx_case (v := (7 : Int32)) (off := 83) hC 84 h12 dX9_lengthOf_1 (by decide) ?_
    refine gx_iload_n (pc' := 85) hC rfl dX9_lengthOf_84 rfl ?_
    refine gx_bipush (v := (16 : Int32)) (pc' := 87) hC rfl dX9_lengthOf_85 (by decide) ?_
    refine gx_icmp_ge (pc' := 90) hC 94 rfl dX9_lengthOf_87 (by decide) (fun h13 => ?_) (fun h13 => ?_)
    · refine gx_iconst (v := (0 : Int32)) (pc' := 95) hC rfl dX9_lengthOf_94 (by decide) ?_
      exact gx_iret hC dX9_lengthOf_95
    · refine gx_iconst (v := (2 : Int32)) (pc' := 91) hC rfl dX9_lengthOf_90 (by decide) ?_
      refine gx_goto hC 95 dX9_lengthOf_91 (by decide) ?_
      exact gx_iret hC dX9_lengthOf_95
  refine gx_ite (fun h14 => ?_) (fun h14 => ?_)
  · refine gx_case (v := (8 : Int32)) (off := 79) hC 80 h14 dX9_lengthOf_1 (by decide) ?_
    refine gx_iconst (v := (1 : Int32)) (pc' := 81) hC rfl dX9_lengthOf_80 (by decide) ?_
    exact gx_iret hC dX9_lengthOf_81
  refine gx_ite (fun h15 => ?_) (fun h15 => ?_)
  · refine gx_case (v := (9 : Int32)) (off := 83) hC 84 h15 dX9_lengthOf_1 (by decide) ?_
    refine gx_iload_n (pc' := 85) hC rfl dX9_lengthOf_84 rfl ?_
    refine gx_bipush (v := (16 : Int32)) (pc' := 87) hC rfl dX9_lengthOf_85 (by decide) ?_
    refine gx_icmp_ge (pc' := 90) hC 94 rfl dX9_lengthOf_87 (by decide) (fun h16 => ?_) (fun h16 => ?_)
    · refine gx_iconst (v := (0 : Int32)) (pc' := 95) hC rfl dX9_lengthOf_94 (by decide) ?_
      exact gx_iret hC dX9_lengthOf_95
    · refine gx_iconst (v := (2 : Int32)) (pc' := 91) hC rfl dX9_lengthOf_90 (by decide) ?_
      refine gx_goto hC 95 dX9_lengthOf_91 (by decide) ?_
      exact gx_iret hC dX9_lengthOf_95
  refine gx_ite (fun h17 => ?_) (fun h17 => ?_)
  · refine gx_case (v := (10 : Int32)) (off := 83) hC 84 h17 dX9_lengthOf_1 (by decide) ?_
    refine gx_iload_n (pc' := 85) hC rfl dX9_lengthOf_84 rfl ?_
    refine gx_bipush (v := (16 : Int32)) (pc' := 87) hC rfl dX9_lengthOf_85 (by decide) ?_
    refine gx_icmp_ge (pc' := 90) hC 94 rfl dX9_lengthOf_87 (by decide) (fun h18 => ?_) (fun h18 => ?_)
    · refine gx_iconst (v := (0 : Int32)) (pc' := 95) hC rfl dX9_lengthOf_94 (by decide) ?_
      exact gx_iret hC dX9_lengthOf_95
    · refine gx_iconst (v := (2 : Int32)) (pc' := 91) hC rfl dX9_lengthOf_90 (by decide) ?_
      refine gx_goto hC 95 dX9_lengthOf_91 (by decide) ?_
      exact gx_iret hC dX9_lengthOf_95
  refine gx_ite (fun h19 => ?_) (fun h19 => ?_)
  · refine gx_case (v := (11 : Int32)) (off := 81) hC 82 h19 dX9_lengthOf_1 (by decide) ?_
    refine gx_iconst (v := (3 : Int32)) (pc' := 83) hC rfl dX9_lengthOf_82 (by decide) ?_
    exact gx_iret hC dX9_lengthOf_83
  refine gx_ite (fun h20 => ?_) (fun h20 => ?_)
  · refine gx_case (v := (12 : Int32)) (off := 83) hC 84 h20 dX9_lengthOf_1 (by decide) ?_
    refine gx_iload_n (pc' := 85) hC rfl dX9_lengthOf_84 rfl ?_
    refine gx_bipush (v := (16 : Int32)) (pc' := 87) hC rfl dX9_lengthOf_85 (by decide) ?_
    refine gx_icmp_ge (pc' := 90) hC 94 rfl dX9_lengthOf_87 (by decide) (fun h21 => ?_) (fun h21 => ?_)
    · refine gx_iconst (v := (0 : Int32)) (pc' := 95) hC rfl dX9_lengthOf_94 (by decide) ?_
      exact gx_iret hC dX9_lengthOf_95
    · refine gx_iconst (v := (2 : Int32)) (pc' := 91) hC rfl dX9_lengthOf_90 (by decide) ?_
      refine gx_goto hC 95 dX9_lengthOf_91 (by decide) ?_
      exact gx_iret hC dX9_lengthOf_95
  refine gx_ite (fun h22 => ?_) (fun h22 => ?_)
  · refine gx_case (v := (13 : Int32)) (off := 79) hC 80 h22 dX9_lengthOf_1 (by decide) ?_
    refine gx_iconst (v := (1 : Int32)) (pc' := 81) hC rfl dX9_lengthOf_80 (by decide) ?_
    exact gx_iret hC dX9_lengthOf_81
  refine gx_ite (fun h23 => ?_) (fun h23 => ?_)
  · refine gx_case (v := (14 : Int32)) (off := 81) hC 82 h23 dX9_lengthOf_1 (by decide) ?_
    refine gx_iconst (v := (3 : Int32)) (pc' := 83) hC rfl dX9_lengthOf_82 (by decide) ?_
    exact gx_iret hC dX9_lengthOf_83
  refine gx_ite (fun h24 => ?_) (fun h24 => ?_)
  · refine gx_case (v := (15 : Int32)) (off := 81) hC 82 h24 dX9_lengthOf_1 (by decide) ?_
    refine gx_iconst (v := (3 : Int32)) (pc' := 83) hC rfl dX9_lengthOf_82 (by decide) ?_
    exact gx_iret hC dX9_lengthOf_83
  refine gx_dflt hC 84 dX9_lengthOf_1 (by have := lv_neT h1 (show ((0 : Int32)).toInt = 0 by decide); have := lv_neT h2 (show ((1 : Int32)).toInt = 1 by decide); have := lv_neT h4 (show ((2 : Int32)).toInt = 2 by decide); have := lv_neT h6 (show ((3 : Int32)).toInt = 3 by decide); have := lv_neT h8 (show ((4 : Int32)).toInt = 4 by decide); have := lv_neT h10 (show ((5 : Int32)).toInt = 5 by decide); have := lv_neT h11 (show ((6 : Int32)).toInt = 6 by decide); have := lv_neT h12 (show ((7 : Int32)).toInt = 7 by decide); have := lv_neT h14 (show ((8 : Int32)).toInt = 8 by decide); have := lv_neT h15 (show ((9 : Int32)).toInt = 9 by decide); have := lv_neT h17 (show ((10 : Int32)).toInt = 10 by decide); have := lv_neT h19 (show ((11 : Int32)).toInt = 11 by decide); have := lv_neT h20 (show ((12 : Int32)).toInt = 12 by decide); have := lv_neT h22 (show ((13 : Int32)).toInt = 13 by decide); have := lv_neT h23 (show ((14 : Int32)).toInt = 14 by decide); have := lv_neT h24 (show ((15 : Int32)).toInt = 15 by decide); omega) (by decide) ?_
  refine gx_iload_n (pc' := 85) hC rfl dX9_lengthOf_84 rfl ?_
  refine gx_bipush (v := (16 : Int32)) (pc' := 87) hC rfl dX9_lengthOf_85 (by decide) ?_
  refine gx_icmp_ge (pc' := 90) hC 94 rfl dX9_lengthOf_87 (by decide) (fun h25 => ?_) (fun h25 => ?_)
  · refine gx_iconst (v := (0 : Int32)) (pc' := 95) hC rfl dX9_lengthOf_94 (by decide) ?_
    exact gx_iret hC dX9_lengthOf_95
  · refine gx_iconst (v := (2 : Int32)) (pc' := 91) hC rfl dX9_lengthOf_90 (by decide) ?_
    refine gx_goto hC 95 dX9_lengthOf_91 (by decide) ?_
    exact gx_iret hC dX9_lengthOf_95
set_option maxHeartbeats 4000000 in
set_option maxRecDepth 100000 in
theorem c_X9_hasRegister {l : Launch} {D : va_G} {tZ : Nat} (cI cZ cR : ClassId) (a : Nat → Nat) (x0 : Int32) (S : St) : MI l D (tyl cI cZ cR) tZ (wM cI cZ a) yX9_hasRegister cX9_hasRegister 1 (some .boolean) rm_X9_hasRegister [.int x0] S (m_X9_hasRegister x0 S) := by
  refine gx_metI (by decide) (Nat.le_of_ble_eq_true rfl) ?_
  intro p e s m below meth c A hC
  refine gx_sub [(0, .int x0)] [0] rfl ?_
  rw [m_X9_hasRegister]
  refine gx_iload_n (pc' := 1) hC rfl dX9_hasRegister_0 rfl ?_
  refine gx_iconst (v := (1 : Int32)) (pc' := 2) hC rfl dX9_hasRegister_1 (by decide) ?_
  refine gx_icmp_eq (pc' := 5) hC 28 rfl dX9_hasRegister_2 (by decide) (fun h1 => ?_) (fun h1 => ?_)
  · refine gx_iconst (v := (1 : Int32)) (pc' := 29) hC rfl dX9_hasRegister_28 (by decide) ?_
    refine gx_goto hC 33 dX9_hasRegister_29 (by decide) ?_
    exact gx_zret hC dX9_hasRegister_33
  · refine gx_iload_n (pc' := 6) hC rfl dX9_hasRegister_5 rfl ?_
    refine gx_iconst (v := (2 : Int32)) (pc' := 7) hC rfl dX9_hasRegister_6 (by decide) ?_
    refine gx_icmp_eq (pc' := 10) hC 28 rfl dX9_hasRegister_7 (by decide) (fun h2 => ?_) (fun h2 => ?_)
    · refine gx_iconst (v := (1 : Int32)) (pc' := 29) hC rfl dX9_hasRegister_28 (by decide) ?_
      refine gx_goto hC 33 dX9_hasRegister_29 (by decide) ?_
      exact gx_zret hC dX9_hasRegister_33
    · refine gx_iload_n (pc' := 11) hC rfl dX9_hasRegister_10 rfl ?_
      refine gx_bipush (v := (11 : Int32)) (pc' := 13) hC rfl dX9_hasRegister_11 (by decide) ?_
      refine gx_icmp_eq (pc' := 16) hC 28 rfl dX9_hasRegister_13 (by decide) (fun h3 => ?_) (fun h3 => ?_)
      · refine gx_iconst (v := (1 : Int32)) (pc' := 29) hC rfl dX9_hasRegister_28 (by decide) ?_
        refine gx_goto hC 33 dX9_hasRegister_29 (by decide) ?_
        exact gx_zret hC dX9_hasRegister_33
      · refine gx_iload_n (pc' := 17) hC rfl dX9_hasRegister_16 rfl ?_
        refine gx_bipush (v := (14 : Int32)) (pc' := 19) hC rfl dX9_hasRegister_17 (by decide) ?_
        refine gx_icmp_eq (pc' := 22) hC 28 rfl dX9_hasRegister_19 (by decide) (fun h4 => ?_) (fun h4 => ?_)
        · refine gx_iconst (v := (1 : Int32)) (pc' := 29) hC rfl dX9_hasRegister_28 (by decide) ?_
          refine gx_goto hC 33 dX9_hasRegister_29 (by decide) ?_
          exact gx_zret hC dX9_hasRegister_33
        · refine gx_iload_n (pc' := 23) hC rfl dX9_hasRegister_22 rfl ?_
          refine gx_bipush (v := (15 : Int32)) (pc' := 25) hC rfl dX9_hasRegister_23 (by decide) ?_
          refine gx_icmp_ne (pc' := 28) hC 32 rfl dX9_hasRegister_25 (by decide) (fun h5 => ?_) (fun h5 => ?_)
          · refine gx_iconst (v := (1 : Int32)) (pc' := 29) hC rfl dX9_hasRegister_28 (by decide) ?_
            refine gx_goto hC 33 dX9_hasRegister_29 (by decide) ?_
            exact gx_zret hC dX9_hasRegister_33
          · refine gx_iconst (v := (0 : Int32)) (pc' := 33) hC rfl dX9_hasRegister_32 (by decide) ?_
            exact gx_zret hC dX9_hasRegister_33
set_option maxHeartbeats 4000000 in
set_option maxRecDepth 100000 in
theorem c_X9_isWhole {l : Launch} {D : va_G} {tZ : Nat} (cI cZ cR : ClassId) (a : Nat → Nat) (x1 : Int32) (x2 : Int32) (S : St) : MI l D (tyl cI cZ cR) tZ (wM cI cZ a) yX9_isWhole cX9_isWhole 4 (some .boolean) rm_X9_isWhole [.ref (a 0), .int x1, .int x2] S (m_X9_isWhole x1 x2 S) := by
  refine gx_metI (by decide) (Nat.le_of_ble_eq_true rfl) ?_
  intro p e s m below meth c A hC
  refine gx_sub [(0, .ref (a 0)), (1, .int x1), (2, .int x2)] [0, 1, 2] rfl ?_
  rw [m_X9_isWhole]
  refine gx_iload_n (pc' := 1) hC rfl dX9_isWhole_0 rfl ?_
  refine gx_if_lt (pc' := 4) hC 9 rfl dX9_isWhole_1 (by decide) (fun h1 => ?_) (fun h1 => ?_)
  · refine gx_iconst (v := (0 : Int32)) (pc' := 10) hC rfl dX9_isWhole_9 (by decide) ?_
    exact gx_zret hC dX9_isWhole_10
  · refine gx_iload_n (pc' := 5) hC rfl dX9_isWhole_4 rfl ?_
    refine gx_iload_n (pc' := 6) hC rfl dX9_isWhole_5 rfl ?_
    refine gx_icmp_lt (pc' := 9) hC 11 rfl dX9_isWhole_6 (by decide) (fun h2 => ?_) (fun h2 => ?_)
    · refine gx_aload_n (pc' := 12) hC rfl dX9_isWhole_11 rfl ?_
      refine gx_get (pc' := 15) hC 0 (atM0 cI cZ a _) rfl inw_X9 1 (by decide) lk_X9_7 rfl rfl dX9_isWhole_12 ?_
      refine gx_iload_n (pc' := 16) hC rfl dX9_isWhole_15 rfl ?_
      refine gx_iald (pc' := 17) hC 1 0 (atM1 cI cZ a _) rfl rfl dX9_isWhole_16 ?_
      refine gx_callSI (pc' := 20) hC (c_X9_lengthOf cI cZ cR a (S 1 x1.toNatClampNeg) _) kw_X9_79 hy_X9_lengthOf ⟨rfl, rfl⟩ (by decide) rfl rfl (Nat.le_of_ble_eq_true rfl) rfl dX9_isWhole_17 (fun r1 => ?_)
      refine gx_istore_n (pc' := 21) hC [(3, .int r1.1), (0, .ref (a 0)), (1, .int x1), (2, .int x2)] rfl dX9_isWhole_20 (by decide) rfl ?_
      refine gx_iload_n (pc' := 22) hC rfl dX9_isWhole_21 rfl ?_
      refine gx_if_le (pc' := 25) hC 60 rfl dX9_isWhole_22 (by decide) (fun h3 => ?_) (fun h3 => ?_)
      · refine gx_iconst (v := (0 : Int32)) (pc' := 61) hC rfl dX9_isWhole_60 (by decide) ?_
        exact gx_zret hC dX9_isWhole_61
      · refine gx_iload_n (pc' := 26) hC rfl dX9_isWhole_25 rfl ?_
        refine gx_iload_n (pc' := 27) hC rfl dX9_isWhole_26 rfl ?_
        refine gx_iadd (pc' := 28) hC rfl dX9_isWhole_27 ?_
        refine gx_iload_n (pc' := 29) hC rfl dX9_isWhole_28 rfl ?_
        refine gx_icmp_gt (pc' := 32) hC 60 rfl dX9_isWhole_29 (by decide) (fun h4 => ?_) (fun h4 => ?_)
        · refine gx_iconst (v := (0 : Int32)) (pc' := 61) hC rfl dX9_isWhole_60 (by decide) ?_
          exact gx_zret hC dX9_isWhole_61
        · refine gx_aload_n (pc' := 33) hC rfl dX9_isWhole_32 rfl ?_
          refine gx_get (pc' := 36) hC 0 (atM0 cI cZ a _) rfl inw_X9 1 (by decide) lk_X9_7 rfl rfl dX9_isWhole_33 ?_
          refine gx_iload_n (pc' := 37) hC rfl dX9_isWhole_36 rfl ?_
          refine gx_iald (pc' := 38) hC 1 0 (atM1 cI cZ a _) rfl rfl dX9_isWhole_37 ?_
          refine gx_callSI (pc' := 41) hC (c_X9_hasRegister cI cZ cR a (r1.2 1 x1.toNatClampNeg) _) kw_X9_83 hy_X9_hasRegister ⟨rfl, rfl⟩ (by decide) rfl rfl (Nat.le_of_ble_eq_true rfl) rfl dX9_isWhole_38 (fun r2 => ?_)
          refine gx_if_eq (pc' := 44) hC 56 rfl dX9_isWhole_41 (by decide) (fun h5 => ?_) (fun h5 => ?_)
          · refine gx_iconst (v := (1 : Int32)) (pc' := 57) hC rfl dX9_isWhole_56 (by decide) ?_
            refine gx_goto hC 61 dX9_isWhole_57 (by decide) ?_
            exact gx_zret hC dX9_isWhole_61
          · refine gx_aload_n (pc' := 45) hC rfl dX9_isWhole_44 rfl ?_
            refine gx_get (pc' := 48) hC 0 (atM0 cI cZ a _) rfl inw_X9 1 (by decide) lk_X9_7 rfl rfl dX9_isWhole_45 ?_
            refine gx_iload_n (pc' := 49) hC rfl dX9_isWhole_48 rfl ?_
            refine gx_iconst (v := (1 : Int32)) (pc' := 50) hC rfl dX9_isWhole_49 (by decide) ?_
            refine gx_iadd (pc' := 51) hC rfl dX9_isWhole_50 ?_
            refine gx_iald (pc' := 52) hC 1 0 (atM1 cI cZ a _) rfl rfl dX9_isWhole_51 ?_
            refine gx_iconst (v := (3 : Int32)) (pc' := 53) hC rfl dX9_isWhole_52 (by decide) ?_
            refine gx_icmp_ge (pc' := 56) hC 60 rfl dX9_isWhole_53 (by decide) (fun h6 => ?_) (fun h6 => ?_)
            · refine gx_iconst (v := (0 : Int32)) (pc' := 61) hC rfl dX9_isWhole_60 (by decide) ?_
              exact gx_zret hC dX9_isWhole_61
            · refine gx_iconst (v := (1 : Int32)) (pc' := 57) hC rfl dX9_isWhole_56 (by decide) ?_
              refine gx_goto hC 61 dX9_isWhole_57 (by decide) ?_
              exact gx_zret hC dX9_isWhole_61
    · refine gx_iconst (v := (0 : Int32)) (pc' := 10) hC rfl dX9_isWhole_9 (by decide) ?_
      exact gx_zret hC dX9_isWhole_10
set_option maxHeartbeats 4000000 in
set_option maxRecDepth 100000 in
theorem g_X9_isFirst_L4 {p : Program} {l : Launch} {e : Env} {s : State} {m : MethodId} {args : Array Value} {below : List Frame} {meth : Method} {c : Code} {D : va_G} {cI cZ cR : ClassId} {a : Nat → Nat} {tZ : Nat} {A : Nat → Prop} (hC : CX p s m args meth c cX9_isFirst 4 (some .boolean) yX9_isFirst.cls D (tyl cI cZ cR) tZ A) : ∀ (n : Nat) (x1 : Int32) (x2 : Int32) (x3 : Int32) (S : St), GX p l e rm_X9_isFirst s m args below meth c 4 D A (wM cI cZ a) (KI below D (tyl cI cZ cR) (wM cI cZ a) A args s) 4 [(0, .ref (a 0)), (1, .int x1), (2, .int x2), (3, .int x3)] [] S (m_X9_isFirst_L4 n x1 x2 x3 S) := by
  intro n
  induction n with
  | zero => intro x1 x2 x3 S; exact gx_none
  | succ n ih =>
    intro x1 x2 x3 S
    rw [m_X9_isFirst_L4]
    refine gx_iload_n (pc' := 5) hC rfl dX9_isFirst_4 rfl ?_
    refine gx_aload_n (pc' := 6) hC rfl dX9_isFirst_5 rfl ?_
    refine gx_get (pc' := 9) hC 0 (atM0 cI cZ a _) rfl inw_X9 3 (by decide) lk_X9_76 rfl rfl dX9_isFirst_6 ?_
    refine gx_icmp_ge (pc' := 12) hC 38 rfl dX9_isFirst_9 (by decide) (fun h1 => ?_) (fun h1 => ?_)
    · refine gx_iload_n (pc' := 39) hC rfl dX9_isFirst_38 rfl ?_
      exact gx_zret hC dX9_isFirst_39
    · refine gx_iload_n (pc' := 13) hC rfl dX9_isFirst_12 rfl ?_
      refine gx_if_ne (pc' := 16) hC 26 rfl dX9_isFirst_13 (by decide) (fun h2 => ?_) (fun h2 => ?_)
      · refine gx_aload_n (pc' := 17) hC rfl dX9_isFirst_16 rfl ?_
        refine gx_get (pc' := 20) hC 0 (atM0 cI cZ a _) rfl inw_X9 4 (by decide) lk_X9_13 rfl rfl dX9_isFirst_17 ?_
        refine gx_iload_n (pc' := 21) hC rfl dX9_isFirst_20 rfl ?_
        refine gx_iald (pc' := 22) hC 2 0 (atM2 cI cZ a _) rfl rfl dX9_isFirst_21 ?_
        refine gx_iload_n (pc' := 23) hC rfl dX9_isFirst_22 rfl ?_
        refine gx_icmp_ne (pc' := 26) hC 30 rfl dX9_isFirst_23 (by decide) (fun h3 => ?_) (fun h3 => ?_)
        · refine gx_iconst (v := (1 : Int32)) (pc' := 27) hC rfl dX9_isFirst_26 (by decide) ?_
          refine gx_goto hC 31 dX9_isFirst_27 (by decide) ?_
          refine gx_istore_n (pc' := 32) hC [(2, .int (1 : Int32)), (0, .ref (a 0)), (1, .int x1), (3, .int x3)] rfl dX9_isFirst_31 (by decide) rfl ?_
          refine gx_iinc (v := (x3 + (1 : Int32))) (pc' := 35) hC [(3, .int (x3 + (1 : Int32))), (2, .int (1 : Int32)), (0, .ref (a 0)), (1, .int x1)] rfl dX9_isFirst_32 rfl rfl (by decide) rfl ?_
          refine gx_goto hC 4 dX9_isFirst_35 (by decide) ?_
          exact gx_sub [(0, .ref (a 0)), (1, .int x1), (2, .int (1 : Int32)), (3, .int (x3 + (1 : Int32)))] [2, 3, 1, 0] rfl (ih x1 (1 : Int32) (x3 + (1 : Int32)) S)
        · refine gx_iconst (v := (0 : Int32)) (pc' := 31) hC rfl dX9_isFirst_30 (by decide) ?_
          refine gx_istore_n (pc' := 32) hC [(2, .int (0 : Int32)), (0, .ref (a 0)), (1, .int x1), (3, .int x3)] rfl dX9_isFirst_31 (by decide) rfl ?_
          refine gx_iinc (v := (x3 + (1 : Int32))) (pc' := 35) hC [(3, .int (x3 + (1 : Int32))), (2, .int (0 : Int32)), (0, .ref (a 0)), (1, .int x1)] rfl dX9_isFirst_32 rfl rfl (by decide) rfl ?_
          refine gx_goto hC 4 dX9_isFirst_35 (by decide) ?_
          exact gx_sub [(0, .ref (a 0)), (1, .int x1), (2, .int (0 : Int32)), (3, .int (x3 + (1 : Int32)))] [2, 3, 1, 0] rfl (ih x1 (0 : Int32) (x3 + (1 : Int32)) S)
      · refine gx_iconst (v := (1 : Int32)) (pc' := 27) hC rfl dX9_isFirst_26 (by decide) ?_
        refine gx_goto hC 31 dX9_isFirst_27 (by decide) ?_
        refine gx_istore_n (pc' := 32) hC [(2, .int (1 : Int32)), (0, .ref (a 0)), (1, .int x1), (3, .int x3)] rfl dX9_isFirst_31 (by decide) rfl ?_
        refine gx_iinc (v := (x3 + (1 : Int32))) (pc' := 35) hC [(3, .int (x3 + (1 : Int32))), (2, .int (1 : Int32)), (0, .ref (a 0)), (1, .int x1)] rfl dX9_isFirst_32 rfl rfl (by decide) rfl ?_
        refine gx_goto hC 4 dX9_isFirst_35 (by decide) ?_
        exact gx_sub [(0, .ref (a 0)), (1, .int x1), (2, .int (1 : Int32)), (3, .int (x3 + (1 : Int32)))] [2, 3, 1, 0] rfl (ih x1 (1 : Int32) (x3 + (1 : Int32)) S)
set_option maxHeartbeats 4000000 in
set_option maxRecDepth 100000 in
theorem c_X9_isFirst {l : Launch} {D : va_G} {tZ : Nat} (cI cZ cR : ClassId) (a : Nat → Nat) (x1 : Int32) (S : St) : MI l D (tyl cI cZ cR) tZ (wM cI cZ a) yX9_isFirst cX9_isFirst 4 (some .boolean) rm_X9_isFirst [.ref (a 0), .int x1] S (m_X9_isFirst x1 S) := by
  refine gx_metI (by decide) (Nat.le_of_ble_eq_true rfl) ?_
  intro p e s m below meth c A hC
  refine gx_sub [(0, .ref (a 0)), (1, .int x1)] [0, 1] rfl ?_
  rw [m_X9_isFirst]
  refine gx_iconst (v := (0 : Int32)) (pc' := 1) hC rfl dX9_isFirst_0 (by decide) ?_
  refine gx_istore_n (pc' := 2) hC [(2, .int (0 : Int32)), (0, .ref (a 0)), (1, .int x1)] rfl dX9_isFirst_1 (by decide) rfl ?_
  refine gx_iconst (v := (0 : Int32)) (pc' := 3) hC rfl dX9_isFirst_2 (by decide) ?_
  refine gx_istore_n (pc' := 4) hC [(3, .int (0 : Int32)), (2, .int (0 : Int32)), (0, .ref (a 0)), (1, .int x1)] rfl dX9_isFirst_3 (by decide) rfl ?_
  exact gx_sub [(0, .ref (a 0)), (1, .int x1), (2, .int (0 : Int32)), (3, .int (0 : Int32))] [2, 3, 1, 0] rfl (g_X9_isFirst_L4 hC 10000 x1 (0 : Int32) (0 : Int32) S)
set_option maxHeartbeats 4000000 in
set_option maxRecDepth 100000 in
theorem c_X9_isClean {l : Launch} {D : va_G} {tZ : Nat} (cI cZ cR : ClassId) (a : Nat → Nat)  (S : St) : MI l D (tyl cI cZ cR) tZ (wM cI cZ a) yX9_isClean cX9_isClean 1 (some .boolean) rm_X9_isClean [.ref (a 0)] S (m_X9_isClean  S) := by
  refine gx_metI (by decide) (Nat.le_of_ble_eq_true rfl) ?_
  intro p e s m below meth c A hC
  refine gx_sub [(0, .ref (a 0))] [0] rfl ?_
  rw [m_X9_isClean]
  refine gx_aload_n (pc' := 1) hC rfl dX9_isClean_0 rfl ?_
  refine gx_get (pc' := 4) hC 0 (atM0 cI cZ a _) rfl inw_X9 9 (by decide) lk_X9_29 rfl rfl dX9_isClean_1 ?_
  refine gx_iconst (v := (0 : Int32)) (pc' := 5) hC rfl dX9_isClean_4 (by decide) ?_
  refine gx_iald (pc' := 6) hC 7 0 (atM7 cI cZ a _) rfl rfl dX9_isClean_5 ?_
  refine gx_iconst (v := (1 : Int32)) (pc' := 7) hC rfl dX9_isClean_6 (by decide) ?_
  refine gx_icmp_ne (pc' := 10) hC 41 rfl dX9_isClean_7 (by decide) (fun h1 => ?_) (fun h1 => ?_)
  · refine gx_aload_n (pc' := 11) hC rfl dX9_isClean_10 rfl ?_
    refine gx_get (pc' := 14) hC 0 (atM0 cI cZ a _) rfl inw_X9 9 (by decide) lk_X9_29 rfl rfl dX9_isClean_11 ?_
    refine gx_iconst (v := (2 : Int32)) (pc' := 15) hC rfl dX9_isClean_14 (by decide) ?_
    refine gx_iald (pc' := 16) hC 7 0 (atM7 cI cZ a _) rfl rfl dX9_isClean_15 ?_
    refine gx_if_ne (pc' := 19) hC 41 rfl dX9_isClean_16 (by decide) (fun h2 => ?_) (fun h2 => ?_)
    · refine gx_aload_n (pc' := 20) hC rfl dX9_isClean_19 rfl ?_
      refine gx_get (pc' := 23) hC 0 (atM0 cI cZ a _) rfl inw_X9 9 (by decide) lk_X9_29 rfl rfl dX9_isClean_20 ?_
      refine gx_iconst (v := (3 : Int32)) (pc' := 24) hC rfl dX9_isClean_23 (by decide) ?_
      refine gx_iald (pc' := 25) hC 7 0 (atM7 cI cZ a _) rfl rfl dX9_isClean_24 ?_
      refine gx_if_ne (pc' := 28) hC 41 rfl dX9_isClean_25 (by decide) (fun h3 => ?_) (fun h3 => ?_)
      · refine gx_aload_n (pc' := 29) hC rfl dX9_isClean_28 rfl ?_
        refine gx_get (pc' := 32) hC 0 (atM0 cI cZ a _) rfl inw_X9 9 (by decide) lk_X9_29 rfl rfl dX9_isClean_29 ?_
        refine gx_iconst (v := (4 : Int32)) (pc' := 33) hC rfl dX9_isClean_32 (by decide) ?_
        refine gx_iald (pc' := 34) hC 7 0 (atM7 cI cZ a _) rfl rfl dX9_isClean_33 ?_
        refine gx_if_ne (pc' := 37) hC 41 rfl dX9_isClean_34 (by decide) (fun h4 => ?_) (fun h4 => ?_)
        · refine gx_iconst (v := (1 : Int32)) (pc' := 38) hC rfl dX9_isClean_37 (by decide) ?_
          refine gx_goto hC 42 dX9_isClean_38 (by decide) ?_
          exact gx_zret hC dX9_isClean_42
        · refine gx_iconst (v := (0 : Int32)) (pc' := 42) hC rfl dX9_isClean_41 (by decide) ?_
          exact gx_zret hC dX9_isClean_42
      · refine gx_iconst (v := (0 : Int32)) (pc' := 42) hC rfl dX9_isClean_41 (by decide) ?_
        exact gx_zret hC dX9_isClean_42
    · refine gx_iconst (v := (0 : Int32)) (pc' := 42) hC rfl dX9_isClean_41 (by decide) ?_
      exact gx_zret hC dX9_isClean_42
  · refine gx_iconst (v := (0 : Int32)) (pc' := 42) hC rfl dX9_isClean_41 (by decide) ?_
    exact gx_zret hC dX9_isClean_42
set_option maxHeartbeats 4000000 in
set_option maxRecDepth 100000 in
theorem c_X9_spoil {l : Launch} {D : va_G} {tZ : Nat} (cI cZ cR : ClassId) (a : Nat → Nat) (x1 : Int32) (S : St) : MI l D (tyl cI cZ cR) tZ (wM cI cZ a) yX9_spoil cX9_spoil 2 (some .int) rm_X9_spoil [.ref (a 0), .int x1] S (m_X9_spoil x1 S) := by
  refine gx_metI (by decide) (Nat.le_of_ble_eq_true rfl) ?_
  intro p e s m below meth c A hC
  refine gx_sub [(0, .ref (a 0)), (1, .int x1)] [0, 1] rfl ?_
  rw [m_X9_spoil]
  refine gx_aload_n (pc' := 1) hC rfl dX9_spoil_0 rfl ?_
  refine gx_get (pc' := 4) hC 0 (atM0 cI cZ a _) rfl inw_X9 9 (by decide) lk_X9_29 rfl rfl dX9_spoil_1 ?_
  refine gx_iconst (v := (2 : Int32)) (pc' := 5) hC rfl dX9_spoil_4 (by decide) ?_
  refine gx_iload_n (pc' := 6) hC rfl dX9_spoil_5 rfl ?_
  refine gx_iadd (pc' := 7) hC rfl dX9_spoil_6 ?_
  refine gx_iald (pc' := 8) hC 7 0 (atM7 cI cZ a _) rfl rfl dX9_spoil_7 ?_
  refine gx_if_ne (pc' := 11) hC 13 rfl dX9_spoil_8 (by decide) (fun h1 => ?_) (fun h1 => ?_)
  · refine gx_iconst (v := (4 : Int32)) (pc' := 12) hC rfl dX9_spoil_11 (by decide) ?_
    exact gx_iret hC dX9_spoil_12
  · refine gx_aload_n (pc' := 14) hC rfl dX9_spoil_13 rfl ?_
    refine gx_get (pc' := 17) hC 0 (atM0 cI cZ a _) rfl inw_X9 9 (by decide) lk_X9_29 rfl rfl dX9_spoil_14 ?_
    refine gx_iconst (v := (1 : Int32)) (pc' := 18) hC rfl dX9_spoil_17 (by decide) ?_
    refine gx_iload_n (pc' := 19) hC rfl dX9_spoil_18 rfl ?_
    refine gx_if_ne (pc' := 22) hC 26 rfl dX9_spoil_19 (by decide) (fun h2 => ?_) (fun h2 => ?_)
    · refine gx_iconst (v := (0 : Int32)) (pc' := 23) hC rfl dX9_spoil_22 (by decide) ?_
      refine gx_goto hC 32 dX9_spoil_23 (by decide) ?_
      refine gx_iast (pc' := 33) hC 7 0 (atM7 cI cZ a _) rfl (st S 9 (1 : Int32).toNatClampNeg (0 : Int32)) (stM7 cI cZ a _ _ _) rfl dX9_spoil_32 ?_
      refine gx_iconst (v := (0 : Int32)) (pc' := 34) hC rfl dX9_spoil_33 (by decide) ?_
      exact gx_iret hC dX9_spoil_34
    · refine gx_aload_n (pc' := 27) hC rfl dX9_spoil_26 rfl ?_
      refine gx_get (pc' := 30) hC 0 (atM0 cI cZ a _) rfl inw_X9 9 (by decide) lk_X9_29 rfl rfl dX9_spoil_27 ?_
      refine gx_iconst (v := (1 : Int32)) (pc' := 31) hC rfl dX9_spoil_30 (by decide) ?_
      refine gx_iald (pc' := 32) hC 7 0 (atM7 cI cZ a _) rfl rfl dX9_spoil_31 ?_
      refine gx_iast (pc' := 33) hC 7 0 (atM7 cI cZ a _) rfl (st S 9 (1 : Int32).toNatClampNeg (S 9 (1 : Int32).toNatClampNeg)) (stM7 cI cZ a _ _ _) rfl dX9_spoil_32 ?_
      refine gx_iconst (v := (0 : Int32)) (pc' := 34) hC rfl dX9_spoil_33 (by decide) ?_
      exact gx_iret hC dX9_spoil_34
set_option maxHeartbeats 4000000 in
set_option maxRecDepth 100000 in
theorem c_X9_give {l : Launch} {D : va_G} {tZ : Nat} (cI cZ cR : ClassId) (a : Nat → Nat) (x1 : Int32) (x2 : Int32) (S : St) : MI l D (tyl cI cZ cR) tZ (wM cI cZ a) yX9_give cX9_give 3 (some .int) rm_X9_give [.ref (a 0), .int x1, .int x2] S (m_X9_give x1 x2 S) := by
  refine gx_metI (by decide) (Nat.le_of_ble_eq_true rfl) ?_
  intro p e s m below meth c A hC
  refine gx_sub [(0, .ref (a 0)), (1, .int x1), (2, .int x2)] [0, 1, 2] rfl ?_
  rw [m_X9_give]
  refine gx_aload_n (pc' := 1) hC rfl dX9_give_0 rfl ?_
  refine gx_get (pc' := 4) hC 0 (atM0 cI cZ a _) rfl inw_X9 9 (by decide) lk_X9_29 rfl rfl dX9_give_1 ?_
  refine gx_iconst (v := (2 : Int32)) (pc' := 5) hC rfl dX9_give_4 (by decide) ?_
  refine gx_iload_n (pc' := 6) hC rfl dX9_give_5 rfl ?_
  refine gx_iadd (pc' := 7) hC rfl dX9_give_6 ?_
  refine gx_iald (pc' := 8) hC 7 0 (atM7 cI cZ a _) rfl rfl dX9_give_7 ?_
  refine gx_iload_n (pc' := 9) hC rfl dX9_give_8 rfl ?_
  refine gx_icmp_eq (pc' := 12) hC 18 rfl dX9_give_9 (by decide) (fun h1 => ?_) (fun h1 => ?_)
  · refine gx_aload_n (pc' := 19) hC rfl dX9_give_18 rfl ?_
    refine gx_get (pc' := 22) hC 0 (atM0 cI cZ a _) rfl inw_X9 9 (by decide) lk_X9_29 rfl rfl dX9_give_19 ?_
    refine gx_iconst (v := (2 : Int32)) (pc' := 23) hC rfl dX9_give_22 (by decide) ?_
    refine gx_iload_n (pc' := 24) hC rfl dX9_give_23 rfl ?_
    refine gx_iadd (pc' := 25) hC rfl dX9_give_24 ?_
    refine gx_iconst (v := (0 : Int32)) (pc' := 26) hC rfl dX9_give_25 (by decide) ?_
    refine gx_iast (pc' := 27) hC 7 0 (atM7 cI cZ a _) rfl (st S 9 ((2 : Int32) + x1).toNatClampNeg (0 : Int32)) (stM7 cI cZ a _ _ _) rfl dX9_give_26 ?_
    refine gx_aload_n (pc' := 28) hC rfl dX9_give_27 rfl ?_
    refine gx_get (pc' := 31) hC 0 (atM0 cI cZ a _) rfl inw_X9 9 (by decide) lk_X9_29 rfl rfl dX9_give_28 ?_
    refine gx_iconst (v := (1 : Int32)) (pc' := 32) hC rfl dX9_give_31 (by decide) ?_
    refine gx_iload_n (pc' := 33) hC rfl dX9_give_32 rfl ?_
    refine gx_if_ne (pc' := 36) hC 40 rfl dX9_give_33 (by decide) (fun h2 => ?_) (fun h2 => ?_)
    · refine gx_iconst (v := (0 : Int32)) (pc' := 37) hC rfl dX9_give_36 (by decide) ?_
      refine gx_goto hC 46 dX9_give_37 (by decide) ?_
      refine gx_iast (pc' := 47) hC 7 0 (atM7 cI cZ a _) rfl (st (st S 9 ((2 : Int32) + x1).toNatClampNeg (0 : Int32)) 9 (1 : Int32).toNatClampNeg (0 : Int32)) (stM7 cI cZ a _ _ _) rfl dX9_give_46 ?_
      refine gx_iconst (v := (0 : Int32)) (pc' := 48) hC rfl dX9_give_47 (by decide) ?_
      exact gx_iret hC dX9_give_48
    · refine gx_aload_n (pc' := 41) hC rfl dX9_give_40 rfl ?_
      refine gx_get (pc' := 44) hC 0 (atM0 cI cZ a _) rfl inw_X9 9 (by decide) lk_X9_29 rfl rfl dX9_give_41 ?_
      refine gx_iconst (v := (1 : Int32)) (pc' := 45) hC rfl dX9_give_44 (by decide) ?_
      refine gx_iald (pc' := 46) hC 7 0 (atM7 cI cZ a _) rfl rfl dX9_give_45 ?_
      refine gx_iast (pc' := 47) hC 7 0 (atM7 cI cZ a _) rfl (st (st S 9 ((2 : Int32) + x1).toNatClampNeg (0 : Int32)) 9 (1 : Int32).toNatClampNeg ((st S 9 ((2 : Int32) + x1).toNatClampNeg (0 : Int32)) 9 (1 : Int32).toNatClampNeg)) (stM7 cI cZ a _ _ _) rfl dX9_give_46 ?_
      refine gx_iconst (v := (0 : Int32)) (pc' := 48) hC rfl dX9_give_47 (by decide) ?_
      exact gx_iret hC dX9_give_48
  · refine gx_aload_n (pc' := 13) hC rfl dX9_give_12 rfl ?_
    refine gx_iload_n (pc' := 14) hC rfl dX9_give_13 rfl ?_
    refine gx_callVI (pc' := 17) hC (c_X9_spoil cI cZ cR a x1 _) 0 (atM0 cI cZ a _) rfl kw_X9_87 hy_X9_spoil ⟨rfl, rfl⟩ (by decide) rfl rfl (Nat.le_of_ble_eq_true rfl) rfl dX9_give_14 (fun r1 => ?_)
    exact gx_iret hC dX9_give_17
set_option maxHeartbeats 4000000 in
set_option maxRecDepth 100000 in
theorem c_X9_lose {l : Launch} {D : va_G} {tZ : Nat} (cI cZ cR : ClassId) (a : Nat → Nat) (x1 : Int32) (S : St) : MI l D (tyl cI cZ cR) tZ (wM cI cZ a) yX9_lose cX9_lose 2 (some .int) rm_X9_lose [.ref (a 0), .int x1] S (m_X9_lose x1 S) := by
  refine gx_metI (by decide) (Nat.le_of_ble_eq_true rfl) ?_
  intro p e s m below meth c A hC
  refine gx_sub [(0, .ref (a 0)), (1, .int x1)] [0, 1] rfl ?_
  rw [m_X9_lose]
  refine gx_aload_n (pc' := 1) hC rfl dX9_lose_0 rfl ?_
  refine gx_get (pc' := 4) hC 0 (atM0 cI cZ a _) rfl inw_X9 9 (by decide) lk_X9_29 rfl rfl dX9_lose_1 ?_
  refine gx_iconst (v := (0 : Int32)) (pc' := 5) hC rfl dX9_lose_4 (by decide) ?_
  refine gx_dup2 (pc' := 6) hC rfl dX9_lose_5 rfl rfl ?_
  refine gx_iald (pc' := 7) hC 7 0 (atM7 cI cZ a _) rfl rfl dX9_lose_6 ?_
  refine gx_iload_n (pc' := 8) hC rfl dX9_lose_7 rfl ?_
  refine gx_isub (pc' := 9) hC rfl dX9_lose_8 ?_
  refine gx_iast (pc' := 10) hC 7 0 (atM7 cI cZ a _) rfl (st S 9 (0 : Int32).toNatClampNeg ((S 9 (0 : Int32).toNatClampNeg) - x1)) (stM7 cI cZ a _ _ _) rfl dX9_lose_9 ?_
  refine gx_aload_n (pc' := 11) hC rfl dX9_lose_10 rfl ?_
  refine gx_get (pc' := 14) hC 0 (atM0 cI cZ a _) rfl inw_X9 9 (by decide) lk_X9_29 rfl rfl dX9_lose_11 ?_
  refine gx_iconst (v := (0 : Int32)) (pc' := 15) hC rfl dX9_lose_14 (by decide) ?_
  refine gx_iald (pc' := 16) hC 7 0 (atM7 cI cZ a _) rfl rfl dX9_lose_15 ?_
  refine gx_iconst (v := (1 : Int32)) (pc' := 17) hC rfl dX9_lose_16 (by decide) ?_
  refine gx_icmp_lt (pc' := 20) hC 65 rfl dX9_lose_17 (by decide) (fun h1 => ?_) (fun h1 => ?_)
  · refine gx_iconst (v := (5 : Int32)) (pc' := 66) hC rfl dX9_lose_65 (by decide) ?_
    refine gx_goto hC 70 dX9_lose_66 (by decide) ?_
    exact gx_iret hC dX9_lose_70
  · refine gx_aload_n (pc' := 21) hC rfl dX9_lose_20 rfl ?_
    refine gx_get (pc' := 24) hC 0 (atM0 cI cZ a _) rfl inw_X9 9 (by decide) lk_X9_29 rfl rfl dX9_lose_21 ?_
    refine gx_iconst (v := (2 : Int32)) (pc' := 25) hC rfl dX9_lose_24 (by decide) ?_
    refine gx_iald (pc' := 26) hC 7 0 (atM7 cI cZ a _) rfl rfl dX9_lose_25 ?_
    refine gx_aload_n (pc' := 27) hC rfl dX9_lose_26 rfl ?_
    refine gx_get (pc' := 30) hC 0 (atM0 cI cZ a _) rfl inw_X9 9 (by decide) lk_X9_29 rfl rfl dX9_lose_27 ?_
    refine gx_iconst (v := (0 : Int32)) (pc' := 31) hC rfl dX9_lose_30 (by decide) ?_
    refine gx_iald (pc' := 32) hC 7 0 (atM7 cI cZ a _) rfl rfl dX9_lose_31 ?_
    refine gx_icmp_gt (pc' := 35) hC 65 rfl dX9_lose_32 (by decide) (fun h2 => ?_) (fun h2 => ?_)
    · refine gx_iconst (v := (5 : Int32)) (pc' := 66) hC rfl dX9_lose_65 (by decide) ?_
      refine gx_goto hC 70 dX9_lose_66 (by decide) ?_
      exact gx_iret hC dX9_lose_70
    · refine gx_aload_n (pc' := 36) hC rfl dX9_lose_35 rfl ?_
      refine gx_get (pc' := 39) hC 0 (atM0 cI cZ a _) rfl inw_X9 9 (by decide) lk_X9_29 rfl rfl dX9_lose_36 ?_
      refine gx_iconst (v := (3 : Int32)) (pc' := 40) hC rfl dX9_lose_39 (by decide) ?_
      refine gx_iald (pc' := 41) hC 7 0 (atM7 cI cZ a _) rfl rfl dX9_lose_40 ?_
      refine gx_aload_n (pc' := 42) hC rfl dX9_lose_41 rfl ?_
      refine gx_get (pc' := 45) hC 0 (atM0 cI cZ a _) rfl inw_X9 9 (by decide) lk_X9_29 rfl rfl dX9_lose_42 ?_
      refine gx_iconst (v := (0 : Int32)) (pc' := 46) hC rfl dX9_lose_45 (by decide) ?_
      refine gx_iald (pc' := 47) hC 7 0 (atM7 cI cZ a _) rfl rfl dX9_lose_46 ?_
      refine gx_icmp_gt (pc' := 50) hC 65 rfl dX9_lose_47 (by decide) (fun h3 => ?_) (fun h3 => ?_)
      · refine gx_iconst (v := (5 : Int32)) (pc' := 66) hC rfl dX9_lose_65 (by decide) ?_
        refine gx_goto hC 70 dX9_lose_66 (by decide) ?_
        exact gx_iret hC dX9_lose_70
      · refine gx_aload_n (pc' := 51) hC rfl dX9_lose_50 rfl ?_
        refine gx_get (pc' := 54) hC 0 (atM0 cI cZ a _) rfl inw_X9 9 (by decide) lk_X9_29 rfl rfl dX9_lose_51 ?_
        refine gx_iconst (v := (4 : Int32)) (pc' := 55) hC rfl dX9_lose_54 (by decide) ?_
        refine gx_iald (pc' := 56) hC 7 0 (atM7 cI cZ a _) rfl rfl dX9_lose_55 ?_
        refine gx_aload_n (pc' := 57) hC rfl dX9_lose_56 rfl ?_
        refine gx_get (pc' := 60) hC 0 (atM0 cI cZ a _) rfl inw_X9 9 (by decide) lk_X9_29 rfl rfl dX9_lose_57 ?_
        refine gx_iconst (v := (0 : Int32)) (pc' := 61) hC rfl dX9_lose_60 (by decide) ?_
        refine gx_iald (pc' := 62) hC 7 0 (atM7 cI cZ a _) rfl rfl dX9_lose_61 ?_
        refine gx_icmp_le (pc' := 65) hC 69 rfl dX9_lose_62 (by decide) (fun h4 => ?_) (fun h4 => ?_)
        · refine gx_iconst (v := (0 : Int32)) (pc' := 70) hC rfl dX9_lose_69 (by decide) ?_
          exact gx_iret hC dX9_lose_70
        · refine gx_iconst (v := (5 : Int32)) (pc' := 66) hC rfl dX9_lose_65 (by decide) ?_
          refine gx_goto hC 70 dX9_lose_66 (by decide) ?_
          exact gx_iret hC dX9_lose_70
set_option maxHeartbeats 4000000 in
set_option maxRecDepth 100000 in
theorem c_X9_save {l : Launch} {D : va_G} {tZ : Nat} (cI cZ cR : ClassId) (a : Nat → Nat) (x1 : Int32) (x2 : Int32) (S : St) : MV l D (tyl cI cZ cR) tZ (wM cI cZ a) yX9_save cX9_save 3 none rm_X9_save [.ref (a 0), .int x1, .int x2] S (m_X9_save x1 x2 S) := by
  refine gx_metV (by decide) (Nat.le_of_ble_eq_true rfl) ?_
  intro p e s m below meth c A hC
  refine gx_sub [(0, .ref (a 0)), (1, .int x1), (2, .int x2)] [0, 1, 2] rfl ?_
  rw [m_X9_save]
  refine gx_aload_n (pc' := 1) hC rfl dX9_save_0 rfl ?_
  refine gx_get (pc' := 4) hC 0 (atM0 cI cZ a _) rfl inw_X9 9 (by decide) lk_X9_29 rfl rfl dX9_save_1 ?_
  refine gx_iconst (v := (2 : Int32)) (pc' := 5) hC rfl dX9_save_4 (by decide) ?_
  refine gx_iload_n (pc' := 6) hC rfl dX9_save_5 rfl ?_
  refine gx_iadd (pc' := 7) hC rfl dX9_save_6 ?_
  refine gx_aload_n (pc' := 8) hC rfl dX9_save_7 rfl ?_
  refine gx_get (pc' := 11) hC 0 (atM0 cI cZ a _) rfl inw_X9 9 (by decide) lk_X9_29 rfl rfl dX9_save_8 ?_
  refine gx_iconst (v := (2 : Int32)) (pc' := 12) hC rfl dX9_save_11 (by decide) ?_
  refine gx_iload_n (pc' := 13) hC rfl dX9_save_12 rfl ?_
  refine gx_iadd (pc' := 14) hC rfl dX9_save_13 ?_
  refine gx_iald (pc' := 15) hC 7 0 (atM7 cI cZ a _) rfl rfl dX9_save_14 ?_
  refine gx_if_ne (pc' := 18) hC 22 rfl dX9_save_15 (by decide) (fun h1 => ?_) (fun h1 => ?_)
  · refine gx_iload_n (pc' := 19) hC rfl dX9_save_18 rfl ?_
    refine gx_goto hC 30 dX9_save_19 (by decide) ?_
    refine gx_iast (pc' := 31) hC 7 0 (atM7 cI cZ a _) rfl (st S 9 ((2 : Int32) + x1).toNatClampNeg x2) (stM7 cI cZ a _ _ _) rfl dX9_save_30 ?_
    exact gx_vret hC dX9_save_31
  · refine gx_aload_n (pc' := 23) hC rfl dX9_save_22 rfl ?_
    refine gx_get (pc' := 26) hC 0 (atM0 cI cZ a _) rfl inw_X9 9 (by decide) lk_X9_29 rfl rfl dX9_save_23 ?_
    refine gx_iconst (v := (2 : Int32)) (pc' := 27) hC rfl dX9_save_26 (by decide) ?_
    refine gx_iload_n (pc' := 28) hC rfl dX9_save_27 rfl ?_
    refine gx_iadd (pc' := 29) hC rfl dX9_save_28 ?_
    refine gx_iald (pc' := 30) hC 7 0 (atM7 cI cZ a _) rfl rfl dX9_save_29 ?_
    refine gx_iast (pc' := 31) hC 7 0 (atM7 cI cZ a _) rfl (st S 9 ((2 : Int32) + x1).toNatClampNeg (S 9 ((2 : Int32) + x1).toNatClampNeg)) (stM7 cI cZ a _ _ _) rfl dX9_save_30 ?_
    exact gx_vret hC dX9_save_31
set_option maxHeartbeats 4000000 in
set_option maxRecDepth 100000 in
theorem c_X9_raise {l : Launch} {D : va_G} {tZ : Nat} (cI cZ cR : ClassId) (a : Nat → Nat) (x1 : Int32) (S : St) : MI l D (tyl cI cZ cR) tZ (wM cI cZ a) yX9_raise cX9_raise 2 (some .int) rm_X9_raise [.ref (a 0), .int x1] S (m_X9_raise x1 S) := by
  refine gx_metI (by decide) (Nat.le_of_ble_eq_true rfl) ?_
  intro p e s m below meth c A hC
  refine gx_sub [(0, .ref (a 0)), (1, .int x1)] [0, 1] rfl ?_
  rw [m_X9_raise]
  refine gx_aload_n (pc' := 1) hC rfl dX9_raise_0 rfl ?_
  refine gx_get (pc' := 4) hC 0 (atM0 cI cZ a _) rfl inw_X9 9 (by decide) lk_X9_29 rfl rfl dX9_raise_1 ?_
  refine gx_iconst (v := (0 : Int32)) (pc' := 5) hC rfl dX9_raise_4 (by decide) ?_
  refine gx_dup2 (pc' := 6) hC rfl dX9_raise_5 rfl rfl ?_
  refine gx_iald (pc' := 7) hC 7 0 (atM7 cI cZ a _) rfl rfl dX9_raise_6 ?_
  refine gx_iload_n (pc' := 8) hC rfl dX9_raise_7 rfl ?_
  refine gx_iadd (pc' := 9) hC rfl dX9_raise_8 ?_
  refine gx_iast (pc' := 10) hC 7 0 (atM7 cI cZ a _) rfl (st S 9 (0 : Int32).toNatClampNeg ((S 9 (0 : Int32).toNatClampNeg) + x1)) (stM7 cI cZ a _ _ _) rfl dX9_raise_9 ?_
  refine gx_aload_n (pc' := 11) hC rfl dX9_raise_10 rfl ?_
  refine gx_get (pc' := 14) hC 0 (atM0 cI cZ a _) rfl inw_X9 9 (by decide) lk_X9_29 rfl rfl dX9_raise_11 ?_
  refine gx_iconst (v := (0 : Int32)) (pc' := 15) hC rfl dX9_raise_14 (by decide) ?_
  refine gx_iald (pc' := 16) hC 7 0 (atM7 cI cZ a _) rfl rfl dX9_raise_15 ?_
  refine gx_bipush (v := (30 : Int32)) (pc' := 18) hC rfl dX9_raise_16 (by decide) ?_
  refine gx_icmp_le (pc' := 21) hC 26 rfl dX9_raise_18 (by decide) (fun h1 => ?_) (fun h1 => ?_)
  · refine gx_iconst (v := (0 : Int32)) (pc' := 27) hC rfl dX9_raise_26 (by decide) ?_
    exact gx_iret hC dX9_raise_27
  · refine gx_bipush (v := (9 : Int32)) (pc' := 23) hC rfl dX9_raise_21 (by decide) ?_
    refine gx_goto hC 27 dX9_raise_23 (by decide) ?_
    exact gx_iret hC dX9_raise_27
set_option maxHeartbeats 4000000 in
set_option maxRecDepth 100000 in
theorem c_X9_isTarget {l : Launch} {D : va_G} {tZ : Nat} (cI cZ cR : ClassId) (a : Nat → Nat) (x1 : Int32) (x2 : Int32) (S : St) : MI l D (tyl cI cZ cR) tZ (wM cI cZ a) yX9_isTarget cX9_isTarget 3 (some .boolean) rm_X9_isTarget [.ref (a 0), .int x1, .int x2] S (m_X9_isTarget x1 x2 S) := by
  refine gx_metI (by decide) (Nat.le_of_ble_eq_true rfl) ?_
  intro p e s m below meth c A hC
  refine gx_sub [(0, .ref (a 0)), (1, .int x1), (2, .int x2)] [0, 1, 2] rfl ?_
  rw [m_X9_isTarget]
  refine gx_iload_n (pc' := 1) hC rfl dX9_isTarget_0 rfl ?_
  refine gx_aload_n (pc' := 2) hC rfl dX9_isTarget_1 rfl ?_
  refine gx_get (pc' := 5) hC 0 (atM0 cI cZ a _) rfl inw_X9 4 (by decide) lk_X9_13 rfl rfl dX9_isTarget_2 ?_
  refine gx_iload_n (pc' := 6) hC rfl dX9_isTarget_5 rfl ?_
  refine gx_iald (pc' := 7) hC 2 0 (atM2 cI cZ a _) rfl rfl dX9_isTarget_6 ?_
  refine gx_icmp_lt (pc' := 10) hC 33 rfl dX9_isTarget_7 (by decide) (fun h1 => ?_) (fun h1 => ?_)
  · refine gx_iconst (v := (0 : Int32)) (pc' := 34) hC rfl dX9_isTarget_33 (by decide) ?_
    exact gx_zret hC dX9_isTarget_34
  · refine gx_iload_n (pc' := 11) hC rfl dX9_isTarget_10 rfl ?_
    refine gx_aload_n (pc' := 12) hC rfl dX9_isTarget_11 rfl ?_
    refine gx_get (pc' := 15) hC 0 (atM0 cI cZ a _) rfl inw_X9 5 (by decide) lk_X9_16 rfl rfl dX9_isTarget_12 ?_
    refine gx_iload_n (pc' := 16) hC rfl dX9_isTarget_15 rfl ?_
    refine gx_iald (pc' := 17) hC 3 0 (atM3 cI cZ a _) rfl rfl dX9_isTarget_16 ?_
    refine gx_icmp_ge (pc' := 20) hC 33 rfl dX9_isTarget_17 (by decide) (fun h2 => ?_) (fun h2 => ?_)
    · refine gx_iconst (v := (0 : Int32)) (pc' := 34) hC rfl dX9_isTarget_33 (by decide) ?_
      exact gx_zret hC dX9_isTarget_34
    · refine gx_aload_n (pc' := 21) hC rfl dX9_isTarget_20 rfl ?_
      refine gx_get (pc' := 24) hC 0 (atM0 cI cZ a _) rfl inw_X9 8 (by decide) lk_X9_26 rfl rfl dX9_isTarget_21 ?_
      refine gx_iload_n (pc' := 25) hC rfl dX9_isTarget_24 rfl ?_
      refine gx_zald (pc' := 26) hC 6 1 (atM6 cI cZ a _) rfl rfl dX9_isTarget_25 ?_
      refine gx_if_eq (pc' := 29) hC 33 rfl dX9_isTarget_26 (by decide) (fun h3 => ?_) (fun h3 => ?_)
      · refine gx_iconst (v := (0 : Int32)) (pc' := 34) hC rfl dX9_isTarget_33 (by decide) ?_
        exact gx_zret hC dX9_isTarget_34
      · refine gx_iconst (v := (1 : Int32)) (pc' := 30) hC rfl dX9_isTarget_29 (by decide) ?_
        refine gx_goto hC 34 dX9_isTarget_30 (by decide) ?_
        exact gx_zret hC dX9_isTarget_34
