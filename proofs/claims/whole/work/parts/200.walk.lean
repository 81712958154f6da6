set_option maxHeartbeats 4000000 in
set_option maxRecDepth 100000 in
theorem c_X2_part {l : Launch} {D : va_G} {tZ : Nat} (cI cZ cR : ClassId) (a : Nat → Nat) (x1 : Int32) (S : St) : MI l D (tyl cI cZ cR) tZ (wX cI cZ cR a) yX2_part cX2_part 2 (some .int) rm_X2_part [.ref (a 15), .int x1] S (m_X2_part x1 S) := by
  refine gx_metI (by decide) (Nat.le_of_ble_eq_true rfl) ?_
  intro p e s m below meth c A hC
  refine gx_sub [(0, .ref (a 15)), (1, .int x1)] [0, 1] rfl ?_
  rw [m_X2_part]
  refine gx_aload_n (pc' := 1) hC rfl dX2_part_0 rfl ?_
  refine gx_get (pc' := 4) hC 15 (atX15 cI cZ cR a _) rfl inw_X2 4 (by decide) lk_X2_46 rfl rfl dX2_part_1 ?_
  refine gx_if_ne (pc' := 7) hC 9 rfl dX2_part_4 (by decide) (fun h1 => ?_) (fun h1 => ?_)
  · refine gx_iconst (v := (-1 : Int32)) (pc' := 8) hC rfl dX2_part_7 (by decide) ?_
    exact gx_iret hC dX2_part_8
  · refine gx_iload_n (pc' := 10) hC rfl dX2_part_9 rfl ?_
    refine gx_ite (fun h2 => ?_) (fun h2 => ?_)
    · refine gx_case (v := (0 : Int32)) (off := 42) hC 52 h2 dX2_part_10 (by decide) ?_
      refine gx_aload_n (pc' := 53) hC rfl dX2_part_52 rfl ?_
      refine gx_get (pc' := 56) hC 15 (atX15 cI cZ cR a _) rfl inw_X2 6 (by decide) lk_X2_43 rfl rfl dX2_part_53 ?_
      exact gx_iret hC dX2_part_56
    refine gx_ite (fun h3 => ?_) (fun h3 => ?_)
    · refine gx_case (v := (1 : Int32)) (off := 47) hC 57 h3 dX2_part_10 (by decide) ?_
      refine gx_aload_n (pc' := 58) hC rfl dX2_part_57 rfl ?_
      refine gx_get (pc' := 61) hC 15 (atX15 cI cZ cR a _) rfl inw_X2 7 (by decide) lk_X2_31 rfl rfl dX2_part_58 ?_
      exact gx_iret hC dX2_part_61
    refine gx_ite (fun h4 => ?_) (fun h4 => ?_)
    · refine gx_case (v := (2 : Int32)) (off := 52) hC 62 h4 dX2_part_10 (by decide) ?_
      refine gx_aload_n (pc' := 63) hC rfl dX2_part_62 rfl ?_
      refine gx_get (pc' := 66) hC 15 (atX15 cI cZ cR a _) rfl inw_X2 2 (by decide) lk_X2_15 rfl rfl dX2_part_63 ?_
      refine gx_iload_n (pc' := 67) hC rfl dX2_part_66 rfl ?_
      refine gx_iconst (v := (2 : Int32)) (pc' := 68) hC rfl dX2_part_67 (by decide) ?_
      refine gx_isub (pc' := 69) hC rfl dX2_part_68 ?_
      refine gx_iald (pc' := 70) hC 17 0 (atX17 cI cZ cR a _) rfl rfl dX2_part_69 ?_
      exact gx_iret hC dX2_part_70
    refine gx_ite (fun h5 => ?_) (fun h5 => ?_)
    · refine gx_case (v := (3 : Int32)) (off := 52) hC 62 h5 dX2_part_10 (by decide) ?_
      refine gx_aload_n (pc' := 63) hC rfl dX2_part_62 rfl ?_
      refine gx_get (pc' := 66) hC 15 (atX15 cI cZ cR a _) rfl inw_X2 2 (by decide) lk_X2_15 rfl rfl dX2_part_63 ?_
      refine gx_iload_n (pc' := 67) hC rfl dX2_part_66 rfl ?_
      refine gx_iconst (v := (2 : Int32)) (pc' := 68) hC rfl dX2_part_67 (by decide) ?_
      refine gx_isub (pc' := 69) hC rfl dX2_part_68 ?_
      refine gx_iald (pc' := 70) hC 17 0 (atX17 cI cZ cR a _) rfl rfl dX2_part_69 ?_
      exact gx_iret hC dX2_part_70
    refine gx_ite (fun h6 => ?_) (fun h6 => ?_)
    · refine gx_case (v := (4 : Int32)) (off := 52) hC 62 h6 dX2_part_10 (by decide) ?_
      refine gx_aload_n (pc' := 63) hC rfl dX2_part_62 rfl ?_
      refine gx_get (pc' := 66) hC 15 (atX15 cI cZ cR a _) rfl inw_X2 2 (by decide) lk_X2_15 rfl rfl dX2_part_63 ?_
      refine gx_iload_n (pc' := 67) hC rfl dX2_part_66 rfl ?_
      refine gx_iconst (v := (2 : Int32)) (pc' := 68) hC rfl dX2_part_67 (by decide) ?_
      refine gx_isub (pc' := 69) hC rfl dX2_part_68 ?_
      refine gx_iald (pc' := 70) hC 17 0 (atX17 cI cZ cR a _) rfl rfl dX2_part_69 ?_
      exact gx_iret hC dX2_part_70
    refine gx_ite (fun h7 => ?_) (fun h7 => ?_)
    · refine gx_case (v := (5 : Int32)) (off := 61) hC 71 h7 dX2_part_10 (by decide) ?_
      refine gx_aload_n (pc' := 72) hC rfl dX2_part_71 rfl ?_
      refine gx_get (pc' := 75) hC 15 (atX15 cI cZ cR a _) rfl inw_X2 8 (by decide) lk_X2_34 rfl rfl dX2_part_72 ?_
      exact gx_iret hC dX2_part_75
    refine gx_ite (fun h8 => ?_) (fun h8 => ?_)
    · refine gx_case (v := (6 : Int32)) (off := 66) hC 76 h8 dX2_part_10 (by decide) ?_
      refine gx_aload_n (pc' := 77) hC rfl dX2_part_76 rfl ?_
      refine gx_get (pc' := 80) hC 15 (atX15 cI cZ cR a _) rfl inw_X2 9 (by decide) lk_X2_37 rfl rfl dX2_part_77 ?_
      exact gx_iret hC dX2_part_80
    refine gx_dflt hC 81 dX2_part_10 (by have := lv_neT h2 (show ((0 : Int32)).toInt = 0 by decide); have := lv_neT h3 (show ((1 : Int32)).toInt = 1 by decide); have := lv_neT h4 (show ((2 : Int32)).toInt = 2 by decide); have := lv_neT h5 (show ((3 : Int32)).toInt = 3 by decide); have := lv_neT h6 (show ((4 : Int32)).toInt = 4 by decide); have := lv_neT h7 (show ((5 : Int32)).toInt = 5 by decide); have := lv_neT h8 (show ((6 : Int32)).toInt = 6 by decide); omega) (by decide) ?_
    refine gx_iconst (v := (-1 : Int32)) (pc' := 82) hC rfl dX2_part_81 (by decide) ?_
    exact gx_iret hC dX2_part_82
set_option maxHeartbeats 4000000 in
set_option maxRecDepth 100000 in
theorem c_X7_byteAt {l : Launch} {D : va_G} {tZ : Nat} (cI cZ cR : ClassId) (a : Nat → Nat) (x1 : Int32) (S : St) : MI l D (tyl cI cZ cR) tZ (wX cI cZ cR a) yX7_byteAt cX7_byteAt 2 (some .int) rm_X7_byteAt [.ref (a 11), .int x1] S (m_X7_byteAt x1 S) := by
  refine gx_metI (by decide) (Nat.le_of_ble_eq_true rfl) ?_
  intro p e s m below meth c A hC
  refine gx_sub [(0, .ref (a 11)), (1, .int x1)] [0, 1] rfl ?_
  rw [m_X7_byteAt]
  refine gx_iload_n (pc' := 1) hC rfl dX7_byteAt_0 rfl ?_
  refine gx_if_lt (pc' := 4) hC 21 rfl dX7_byteAt_1 (by decide) (fun h1 => ?_) (fun h1 => ?_)
  · refine gx_iconst (v := (-1 : Int32)) (pc' := 22) hC rfl dX7_byteAt_21 (by decide) ?_
    exact gx_iret hC dX7_byteAt_22
  · refine gx_iload_n (pc' := 5) hC rfl dX7_byteAt_4 rfl ?_
    refine gx_aload_n (pc' := 6) hC rfl dX7_byteAt_5 rfl ?_
    refine gx_get (pc' := 9) hC 11 (atX11 cI cZ cR a _) rfl inw_X7 1 (by decide) lk_X7_15 rfl rfl dX7_byteAt_6 ?_
    refine gx_icmp_ge (pc' := 12) hC 21 rfl dX7_byteAt_9 (by decide) (fun h2 => ?_) (fun h2 => ?_)
    · refine gx_iconst (v := (-1 : Int32)) (pc' := 22) hC rfl dX7_byteAt_21 (by decide) ?_
      exact gx_iret hC dX7_byteAt_22
    · refine gx_aload_n (pc' := 13) hC rfl dX7_byteAt_12 rfl ?_
      refine gx_get (pc' := 16) hC 11 (atX11 cI cZ cR a _) rfl inw_X7 0 (by decide) lk_X7_11 rfl rfl dX7_byteAt_13 ?_
      refine gx_iload_n (pc' := 17) hC rfl dX7_byteAt_16 rfl ?_
      refine gx_iald (pc' := 18) hC 12 0 (atX12 cI cZ cR a _) rfl rfl dX7_byteAt_17 ?_
      refine gx_goto hC 22 dX7_byteAt_18 (by decide) ?_
      exact gx_iret hC dX7_byteAt_22
set_option maxHeartbeats 4000000 in
set_option maxRecDepth 100000 in
theorem c_X5_countAt {l : Launch} {D : va_G} {tZ : Nat} (cI cZ cR : ClassId) (a : Nat → Nat) (x1 : Int32) (S : St) : MI l D (tyl cI cZ cR) tZ (wX cI cZ cR a) yX5_countAt cX5_countAt 4 (some .int) rm_X5_countAt [.ref (a 13), .int x1] S (m_X5_countAt x1 S) := by
  refine gx_metI (by decide) (Nat.le_of_ble_eq_true rfl) ?_
  intro p e s m below meth c A hC
  refine gx_sub [(0, .ref (a 13)), (1, .int x1)] [0, 1] rfl ?_
  rw [m_X5_countAt]
  refine gx_aload_n (pc' := 1) hC rfl dX5_countAt_0 rfl ?_
  refine gx_get (pc' := 4) hC 13 (atX13 cI cZ cR a _) rfl inw_X5 0 (by decide) lk_X5_25 rfl rfl dX5_countAt_1 ?_
  refine gx_iload_n (pc' := 5) hC rfl dX5_countAt_4 rfl ?_
  refine gx_callVI (pc' := 8) hC (c_X7_byteAt cI cZ cR a x1 _) 11 (atX11 cI cZ cR a _) rfl kw_X5_39 hy_X7_byteAt ⟨rfl, rfl⟩ (by decide) rfl rfl (Nat.le_of_ble_eq_true rfl) rfl dX5_countAt_5 (fun r1 => ?_)
  refine gx_istore_n (pc' := 9) hC [(2, .int r1.1), (0, .ref (a 13)), (1, .int x1)] rfl dX5_countAt_8 (by decide) rfl ?_
  refine gx_aload_n (pc' := 10) hC rfl dX5_countAt_9 rfl ?_
  refine gx_get (pc' := 13) hC 13 (atX13 cI cZ cR a _) rfl inw_X5 0 (by decide) lk_X5_25 rfl rfl dX5_countAt_10 ?_
  refine gx_iload_n (pc' := 14) hC rfl dX5_countAt_13 rfl ?_
  refine gx_iconst (v := (1 : Int32)) (pc' := 15) hC rfl dX5_countAt_14 (by decide) ?_
  refine gx_iadd (pc' := 16) hC rfl dX5_countAt_15 ?_
  refine gx_callVI (pc' := 19) hC (c_X7_byteAt cI cZ cR a (x1 + (1 : Int32)) _) 11 (atX11 cI cZ cR a _) rfl kw_X5_39 hy_X7_byteAt ⟨rfl, rfl⟩ (by decide) rfl rfl (Nat.le_of_ble_eq_true rfl) rfl dX5_countAt_16 (fun r2 => ?_)
  refine gx_istore_n (pc' := 20) hC [(3, .int r2.1), (2, .int r1.1), (0, .ref (a 13)), (1, .int x1)] rfl dX5_countAt_19 (by decide) rfl ?_
  refine gx_iload_n (pc' := 21) hC rfl dX5_countAt_20 rfl ?_
  refine gx_iconst (v := (-1 : Int32)) (pc' := 22) hC rfl dX5_countAt_21 (by decide) ?_
  refine gx_icmp_ne (pc' := 25) hC 29 rfl dX5_countAt_22 (by decide) (fun h1 => ?_) (fun h1 => ?_)
  · refine gx_iconst (v := (-1 : Int32)) (pc' := 26) hC rfl dX5_countAt_25 (by decide) ?_
    refine gx_goto hC 36 dX5_countAt_26 (by decide) ?_
    exact gx_iret hC dX5_countAt_36
  · refine gx_sipush (v := (256 : Int32)) (pc' := 32) hC rfl dX5_countAt_29 (by decide) ?_
    refine gx_iload_n (pc' := 33) hC rfl dX5_countAt_32 rfl ?_
    refine gx_imul (pc' := 34) hC rfl dX5_countAt_33 ?_
    refine gx_iload_n (pc' := 35) hC rfl dX5_countAt_34 rfl ?_
    refine gx_iadd (pc' := 36) hC rfl dX5_countAt_35 ?_
    exact gx_iret hC dX5_countAt_36
set_option maxHeartbeats 4000000 in
set_option maxRecDepth 100000 in
theorem g_X6_setToFirst_L12 {p : Program} {l : Launch} {e : Env} {s : State} {m : MethodId} {args : Array Value} {below : List Frame} {meth : Method} {c : Code} {D : va_G} {cI cZ cR : ClassId} {a : Nat → Nat} {tZ : Nat} {A : Nat → Prop} (hC : CX p s m args meth c cX6_setToFirst 2 none yX6_setToFirst.cls D (tyl cI cZ cR) tZ A) (i : Nat) (hi : i < 8) : ∀ (n : Nat) (x1 : Int32) (S : St), GX p l e rm_X6_setToFirst s m args below meth c 2 D A (wX cI cZ cR a) (KV below D (tyl cI cZ cR) (wX cI cZ cR a) A args s) 12 [(0, .ref (a (21 + 2 * i))), (1, .int x1)] [] S (m_X6_setToFirst_L12 i n x1 S) := by
  intro n
  induction n with
  | zero => intro x1 S; exact gx_none
  | succ n ih =>
    intro x1 S
    rw [m_X6_setToFirst_L12]
    refine gx_iload_n (pc' := 13) hC rfl dX6_setToFirst_12 rfl ?_
    refine gx_iconst (v := (3 : Int32)) (pc' := 14) hC rfl dX6_setToFirst_13 (by decide) ?_
    refine gx_icmp_ge (pc' := 17) hC 30 rfl dX6_setToFirst_14 (by decide) (fun h1 => ?_) (fun h1 => ?_)
    · exact gx_vret hC dX6_setToFirst_30
    · refine gx_aload_n (pc' := 18) hC rfl dX6_setToFirst_17 rfl ?_
      refine gx_get (pc' := 21) hC (21 + 2 * i) (row_at cI cZ cR a _ hi) rfl inw_X6 2 (by decide) lk_X6_9 rfl rfl dX6_setToFirst_18 ?_
      refine gx_iload_n (pc' := 22) hC rfl dX6_setToFirst_21 rfl ?_
      refine gx_iconst (v := (0 : Int32)) (pc' := 23) hC rfl dX6_setToFirst_22 (by decide) ?_
      refine gx_iast (pc' := 24) hC (22 + 2 * i) 0 (row_sv cI cZ cR a _ hi) rfl (st S (12 + i) x1.toNatClampNeg (0 : Int32)) (row_st cI cZ cR a _ hi _ _) rfl dX6_setToFirst_23 ?_
      refine gx_iinc (v := (x1 + (1 : Int32))) (pc' := 27) hC [(1, .int (x1 + (1 : Int32))), (0, .ref (a (21 + 2 * i)))] rfl dX6_setToFirst_24 rfl rfl (by decide) rfl ?_
      refine gx_goto hC 12 dX6_setToFirst_27 (by decide) ?_
      exact gx_sub [(0, .ref (a (21 + 2 * i))), (1, .int (x1 + (1 : Int32)))] [1, 0] rfl (ih (x1 + (1 : Int32)) (st S (12 + i) x1.toNatClampNeg (0 : Int32)))
set_option maxHeartbeats 4000000 in
set_option maxRecDepth 100000 in
theorem c_X6_setToFirst {l : Launch} {D : va_G} {tZ : Nat} (cI cZ cR : ClassId) (a : Nat → Nat) (i : Nat) (hi : i < 8)  (S : St) : MV l D (tyl cI cZ cR) tZ (wX cI cZ cR a) yX6_setToFirst cX6_setToFirst 2 none rm_X6_setToFirst [.ref (a (21 + 2 * i))] S (m_X6_setToFirst i  S) := by
  refine gx_metV (by decide) (Nat.le_of_ble_eq_true rfl) ?_
  intro p e s m below meth c A hC
  refine gx_sub [(0, .ref (a (21 + 2 * i)))] [0] rfl ?_
  rw [m_X6_setToFirst]
  refine gx_aload_n (pc' := 1) hC rfl dX6_setToFirst_0 rfl ?_
  refine gx_iconst (v := (0 : Int32)) (pc' := 2) hC rfl dX6_setToFirst_1 (by decide) ?_
  refine gx_put (pc' := 5) hC tyX6_ok nmX6 (21 + 2 * i) (row_at cI cZ cR a _ hi) rfl inw_X6 0 (by decide) lk_X6_15 rfl rfl rfl (Nat.le_of_ble_eq_true rfl) (st S 20 (17 + 2 * i) (0 : Int32)) (row_p0 cI cZ cR a _ hi _) rfl dX6_setToFirst_2 ?_
  refine gx_aload_n (pc' := 6) hC rfl dX6_setToFirst_5 rfl ?_
  refine gx_iconst (v := (1 : Int32)) (pc' := 7) hC rfl dX6_setToFirst_6 (by decide) ?_
  refine gx_put (pc' := 10) hC tyX6_ok nmX6 (21 + 2 * i) (row_at cI cZ cR a _ hi) rfl inw_X6 1 (by decide) lk_X6_19 rfl rfl rfl (Nat.le_of_ble_eq_true rfl) (st (st S 20 (17 + 2 * i) (0 : Int32)) 20 (18 + 2 * i) (1 : Int32)) (row_p1 cI cZ cR a _ hi _) rfl dX6_setToFirst_7 ?_
  refine gx_iconst (v := (0 : Int32)) (pc' := 11) hC rfl dX6_setToFirst_10 (by decide) ?_
  refine gx_istore_n (pc' := 12) hC [(1, .int (0 : Int32)), (0, .ref (a (21 + 2 * i)))] rfl dX6_setToFirst_11 (by decide) rfl ?_
  exact gx_sub [(0, .ref (a (21 + 2 * i))), (1, .int (0 : Int32))] [1, 0] rfl (g_X6_setToFirst_L12 hC i hi 10000 (0 : Int32) (st (st S 20 (17 + 2 * i) (0 : Int32)) 20 (18 + 2 * i) (1 : Int32)))
set_option maxHeartbeats 4000000 in
set_option maxRecDepth 100000 in
theorem g_X6_copyFrom_L18 {p : Program} {l : Launch} {e : Env} {s : State} {m : MethodId} {args : Array Value} {below : List Frame} {meth : Method} {c : Code} {D : va_G} {cI cZ cR : ClassId} {a : Nat → Nat} {tZ : Nat} {A : Nat → Prop} (hC : CX p s m args meth c cX6_copyFrom 3 none yX6_copyFrom.cls D (tyl cI cZ cR) tZ A) (i : Nat) (hi : i < 8) (j : Nat) (hj : j < 8) : ∀ (n : Nat) (x2 : Int32) (S : St), GX p l e rm_X6_copyFrom s m args below meth c 3 D A (wX cI cZ cR a) (KV below D (tyl cI cZ cR) (wX cI cZ cR a) A args s) 18 [(0, .ref (a (21 + 2 * i))), (1, .ref (a (21 + 2 * j))), (2, .int x2)] [] S (m_X6_copyFrom_L18 i j n x2 S) := by
  intro n
  induction n with
  | zero => intro x2 S; exact gx_none
  | succ n ih =>
    intro x2 S
    rw [m_X6_copyFrom_L18]
    refine gx_iload_n (pc' := 19) hC rfl dX6_copyFrom_18 rfl ?_
    refine gx_iconst (v := (3 : Int32)) (pc' := 20) hC rfl dX6_copyFrom_19 (by decide) ?_
    refine gx_icmp_ge (pc' := 23) hC 41 rfl dX6_copyFrom_20 (by decide) (fun h1 => ?_) (fun h1 => ?_)
    · exact gx_vret hC dX6_copyFrom_41
    · refine gx_aload_n (pc' := 24) hC rfl dX6_copyFrom_23 rfl ?_
      refine gx_get (pc' := 27) hC (21 + 2 * i) (row_at cI cZ cR a _ hi) rfl inw_X6 2 (by decide) lk_X6_9 rfl rfl dX6_copyFrom_24 ?_
      refine gx_iload_n (pc' := 28) hC rfl dX6_copyFrom_27 rfl ?_
      refine gx_aload_n (pc' := 29) hC rfl dX6_copyFrom_28 rfl ?_
      refine gx_get (pc' := 32) hC (21 + 2 * j) (row_at cI cZ cR a _ hj) rfl inw_X6 2 (by decide) lk_X6_9 rfl rfl dX6_copyFrom_29 ?_
      refine gx_iload_n (pc' := 33) hC rfl dX6_copyFrom_32 rfl ?_
      refine gx_iald (pc' := 34) hC (22 + 2 * j) 0 (row_sv cI cZ cR a _ hj) rfl rfl dX6_copyFrom_33 ?_
      refine gx_iast (pc' := 35) hC (22 + 2 * i) 0 (row_sv cI cZ cR a _ hi) rfl (st S (12 + i) x2.toNatClampNeg (S (12 + j) x2.toNatClampNeg)) (row_st cI cZ cR a _ hi _ _) rfl dX6_copyFrom_34 ?_
      refine gx_iinc (v := (x2 + (1 : Int32))) (pc' := 38) hC [(2, .int (x2 + (1 : Int32))), (0, .ref (a (21 + 2 * i))), (1, .ref (a (21 + 2 * j)))] rfl dX6_copyFrom_35 rfl rfl (by decide) rfl ?_
      refine gx_goto hC 18 dX6_copyFrom_38 (by decide) ?_
      exact gx_sub [(0, .ref (a (21 + 2 * i))), (1, .ref (a (21 + 2 * j))), (2, .int (x2 + (1 : Int32)))] [1, 2, 0] rfl (ih (x2 + (1 : Int32)) (st S (12 + i) x2.toNatClampNeg (S (12 + j) x2.toNatClampNeg)))
set_option maxHeartbeats 4000000 in
set_option maxRecDepth 100000 in
theorem c_X6_copyFrom {l : Launch} {D : va_G} {tZ : Nat} (cI cZ cR : ClassId) (a : Nat → Nat) (i : Nat) (hi : i < 8) (j : Nat) (hj : j < 8)  (S : St) : MV l D (tyl cI cZ cR) tZ (wX cI cZ cR a) yX6_copyFrom cX6_copyFrom 3 none rm_X6_copyFrom [.ref (a (21 + 2 * i)), .ref (a (21 + 2 * j))] S (m_X6_copyFrom i j  S) := by
  refine gx_metV (by decide) (Nat.le_of_ble_eq_true rfl) ?_
  intro p e s m below meth c A hC
  refine gx_sub [(0, .ref (a (21 + 2 * i))), (1, .ref (a (21 + 2 * j)))] [0, 1] rfl ?_
  rw [m_X6_copyFrom]
  refine gx_aload_n (pc' := 1) hC rfl dX6_copyFrom_0 rfl ?_
  refine gx_aload_n (pc' := 2) hC rfl dX6_copyFrom_1 rfl ?_
  refine gx_get (pc' := 5) hC (21 + 2 * j) (row_at cI cZ cR a _ hj) rfl inw_X6 0 (by decide) lk_X6_15 rfl rfl dX6_copyFrom_2 ?_
  refine gx_put (pc' := 8) hC tyX6_ok nmX6 (21 + 2 * i) (row_at cI cZ cR a _ hi) rfl inw_X6 0 (by decide) lk_X6_15 rfl rfl rfl (Nat.le_of_ble_eq_true rfl) (st S 20 (17 + 2 * i) (S 20 (17 + 2 * j))) (row_p0 cI cZ cR a _ hi _) rfl dX6_copyFrom_5 ?_
  refine gx_aload_n (pc' := 9) hC rfl dX6_copyFrom_8 rfl ?_
  refine gx_aload_n (pc' := 10) hC rfl dX6_copyFrom_9 rfl ?_
  refine gx_get (pc' := 13) hC (21 + 2 * j) (row_at cI cZ cR a _ hj) rfl inw_X6 1 (by decide) lk_X6_19 rfl rfl dX6_copyFrom_10 ?_
  refine gx_put (pc' := 16) hC tyX6_ok nmX6 (21 + 2 * i) (row_at cI cZ cR a _ hi) rfl inw_X6 1 (by decide) lk_X6_19 rfl rfl rfl (Nat.le_of_ble_eq_true rfl) (st (st S 20 (17 + 2 * i) (S 20 (17 + 2 * j))) 20 (18 + 2 * i) ((st S 20 (17 + 2 * i) (S 20 (17 + 2 * j))) 20 (18 + 2 * j))) (row_p1 cI cZ cR a _ hi _) rfl dX6_copyFrom_13 ?_
  refine gx_iconst (v := (0 : Int32)) (pc' := 17) hC rfl dX6_copyFrom_16 (by decide) ?_
  refine gx_istore_n (pc' := 18) hC [(2, .int (0 : Int32)), (0, .ref (a (21 + 2 * i))), (1, .ref (a (21 + 2 * j)))] rfl dX6_copyFrom_17 (by decide) rfl ?_
  exact gx_sub [(0, .ref (a (21 + 2 * i))), (1, .ref (a (21 + 2 * j))), (2, .int (0 : Int32))] [1, 2, 0] rfl (g_X6_copyFrom_L18 hC i hi j hj 10000 (0 : Int32) (st (st S 20 (17 + 2 * i) (S 20 (17 + 2 * j))) 20 (18 + 2 * i) ((st S 20 (17 + 2 * i) (S 20 (17 + 2 * j))) 20 (18 + 2 * j))))
set_option maxHeartbeats 4000000 in
set_option maxRecDepth 100000 in
theorem g_X5_sizeOf_L31 {p : Program} {l : Launch} {e : Env} {s : State} {m : MethodId} {args : Array Value} {below : List Frame} {meth : Method} {c : Code} {D : va_G} {cI cZ cR : ClassId} {a : Nat → Nat} {tZ : Nat} {A : Nat → Prop} (hC : CX p s m args meth c cX5_sizeOf 1 (some .int) yX5_sizeOf.cls D (tyl cI cZ cR) tZ A) (x0 : Int32) (S : St) : GX p l e rm_X5_sizeOf s m args below meth c 1 D A (wX cI cZ cR a) (KI below D (tyl cI cZ cR) (wX cI cZ cR a) A args s) 31 [(0, .int x0)] [] S (m_X5_sizeOf_L31 x0 S) := by
  rw [m_X5_sizeOf_L31]
  refine gx_iload_n (pc' := 32) hC rfl dX5_sizeOf_31 rfl ?_
  refine gx_sipush (v := (192 : Int32)) (pc' := 35) hC rfl dX5_sizeOf_32 (by decide) ?_
  refine gx_icmp_lt (pc' := 38) hC 47 rfl dX5_sizeOf_35 (by decide) (fun h7 => ?_) (fun h7 => ?_)
  · refine gx_iload_n (pc' := 48) hC rfl dX5_sizeOf_47 rfl ?_
    refine gx_ite (fun h8 => ?_) (fun h8 => ?_)
    · refine gx_case (v := (0 : Int32)) (off := 76) hC 124 h8 dX5_sizeOf_48 (by decide) ?_
      refine gx_iconst (v := (1 : Int32)) (pc' := 125) hC rfl dX5_sizeOf_124 (by decide) ?_
      exact gx_iret hC dX5_sizeOf_125
    refine gx_ite (fun h9 => ?_) (fun h9 => ?_)
    · refine gx_case (v := (1 : Int32)) (off := 82) hC 130 h9 dX5_sizeOf_48 (by decide) ?_
      refine gx_iconst (v := (0 : Int32)) (pc' := 131) hC rfl dX5_sizeOf_130 (by decide) ?_
      exact gx_iret hC dX5_sizeOf_131
    refine gx_ite (fun h10 => ?_) (fun h10 => ?_)
    · refine gx_case (v := (2 : Int32)) (off := 78) hC 126 h10 dX5_sizeOf_48 (by decide) ?_
      refine gx_iconst (v := (2 : Int32)) (pc' := 127) hC rfl dX5_sizeOf_126 (by decide) ?_
      exact gx_iret hC dX5_sizeOf_127
    refine gx_ite (fun h11 => ?_) (fun h11 => ?_)
    · refine gx_case (v := (3 : Int32)) (off := 82) hC 130 h11 dX5_sizeOf_48 (by decide) ?_
      refine gx_iconst (v := (0 : Int32)) (pc' := 131) hC rfl dX5_sizeOf_130 (by decide) ?_
      exact gx_iret hC dX5_sizeOf_131
    refine gx_ite (fun h12 => ?_) (fun h12 => ?_)
    · refine gx_case (v := (4 : Int32)) (off := 82) hC 130 h12 dX5_sizeOf_48 (by decide) ?_
      refine gx_iconst (v := (0 : Int32)) (pc' := 131) hC rfl dX5_sizeOf_130 (by decide) ?_
      exact gx_iret hC dX5_sizeOf_131
    refine gx_ite (fun h13 => ?_) (fun h13 => ?_)
    · refine gx_case (v := (5 : Int32)) (off := 82) hC 130 h13 dX5_sizeOf_48 (by decide) ?_
      refine gx_iconst (v := (0 : Int32)) (pc' := 131) hC rfl dX5_sizeOf_130 (by decide) ?_
      exact gx_iret hC dX5_sizeOf_131
    refine gx_ite (fun h14 => ?_) (fun h14 => ?_)
    · refine gx_case (v := (6 : Int32)) (off := 82) hC 130 h14 dX5_sizeOf_48 (by decide) ?_
      refine gx_iconst (v := (0 : Int32)) (pc' := 131) hC rfl dX5_sizeOf_130 (by decide) ?_
      exact gx_iret hC dX5_sizeOf_131
    refine gx_ite (fun h15 => ?_) (fun h15 => ?_)
    · refine gx_case (v := (7 : Int32)) (off := 82) hC 130 h15 dX5_sizeOf_48 (by decide) ?_
      refine gx_iconst (v := (0 : Int32)) (pc' := 131) hC rfl dX5_sizeOf_130 (by decide) ?_
      exact gx_iret hC dX5_sizeOf_131
    refine gx_ite (fun h16 => ?_) (fun h16 => ?_)
    · refine gx_case (v := (8 : Int32)) (off := 82) hC 130 h16 dX5_sizeOf_48 (by decide) ?_
      refine gx_iconst (v := (0 : Int32)) (pc' := 131) hC rfl dX5_sizeOf_130 (by decide) ?_
      exact gx_iret hC dX5_sizeOf_131
    refine gx_ite (fun h17 => ?_) (fun h17 => ?_)
    · refine gx_case (v := (9 : Int32)) (off := 82) hC 130 h17 dX5_sizeOf_48 (by decide) ?_
      refine gx_iconst (v := (0 : Int32)) (pc' := 131) hC rfl dX5_sizeOf_130 (by decide) ?_
      exact gx_iret hC dX5_sizeOf_131
    refine gx_ite (fun h18 => ?_) (fun h18 => ?_)
    · refine gx_case (v := (10 : Int32)) (off := 76) hC 124 h18 dX5_sizeOf_48 (by decide) ?_
      refine gx_iconst (v := (1 : Int32)) (pc' := 125) hC rfl dX5_sizeOf_124 (by decide) ?_
      exact gx_iret hC dX5_sizeOf_125
    refine gx_ite (fun h19 => ?_) (fun h19 => ?_)
    · refine gx_case (v := (11 : Int32)) (off := 76) hC 124 h19 dX5_sizeOf_48 (by decide) ?_
      refine gx_iconst (v := (1 : Int32)) (pc' := 125) hC rfl dX5_sizeOf_124 (by decide) ?_
      exact gx_iret hC dX5_sizeOf_125
    refine gx_ite (fun h20 => ?_) (fun h20 => ?_)
    · refine gx_case (v := (12 : Int32)) (off := 80) hC 128 h20 dX5_sizeOf_48 (by decide) ?_
      refine gx_iconst (v := (3 : Int32)) (pc' := 129) hC rfl dX5_sizeOf_128 (by decide) ?_
      exact gx_iret hC dX5_sizeOf_129
    refine gx_ite (fun h21 => ?_) (fun h21 => ?_)
    · refine gx_case (v := (13 : Int32)) (off := 78) hC 126 h21 dX5_sizeOf_48 (by decide) ?_
      refine gx_iconst (v := (2 : Int32)) (pc' := 127) hC rfl dX5_sizeOf_126 (by decide) ?_
      exact gx_iret hC dX5_sizeOf_127
    refine gx_ite (fun h22 => ?_) (fun h22 => ?_)
    · refine gx_case (v := (14 : Int32)) (off := 78) hC 126 h22 dX5_sizeOf_48 (by decide) ?_
      refine gx_iconst (v := (2 : Int32)) (pc' := 127) hC rfl dX5_sizeOf_126 (by decide) ?_
      exact gx_iret hC dX5_sizeOf_127
    refine gx_dflt hC 130 dX5_sizeOf_48 (by have := lv_neT h8 (show ((0 : Int32)).toInt = 0 by decide); have := lv_neT h9 (show ((1 : Int32)).toInt = 1 by decide); have := lv_neT h10 (show ((2 : Int32)).toInt = 2 by decide); have := lv_neT h11 (show ((3 : Int32)).toInt = 3 by decide); have := lv_neT h12 (show ((4 : Int32)).toInt = 4 by decide); have := lv_neT h13 (show ((5 : Int32)).toInt = 5 by decide); have := lv_neT h14 (show ((6 : Int32)).toInt = 6 by decide); have := lv_neT h15 (show ((7 : Int32)).toInt = 7 by decide); have := lv_neT h16 (show ((8 : Int32)).toInt = 8 by decide); have := lv_neT h17 (show ((9 : Int32)).toInt = 9 by decide); have := lv_neT h18 (show ((10 : Int32)).toInt = 10 by decide); have := lv_neT h19 (show ((11 : Int32)).toInt = 11 by decide); have := lv_neT h20 (show ((12 : Int32)).toInt = 12 by decide); have := lv_neT h21 (show ((13 : Int32)).toInt = 13 by decide); have := lv_neT h22 (show ((14 : Int32)).toInt = 14 by decide); omega) (by decide) ?_
    refine gx_iconst (v := (0 : Int32)) (pc' := 131) hC rfl dX5_sizeOf_130 (by decide) ?_
    exact gx_iret hC dX5_sizeOf_131
  · refine gx_iload_n (pc' := 39) hC rfl dX5_sizeOf_38 rfl ?_
    refine gx_sipush (v := (195 : Int32)) (pc' := 42) hC rfl dX5_sizeOf_39 (by decide) ?_
    refine gx_icmp_ge (pc' := 45) hC 47 rfl dX5_sizeOf_42 (by decide) (fun h23 => ?_) (fun h23 => ?_)
    · refine gx_iload_n (pc' := 48) hC rfl dX5_sizeOf_47 rfl ?_
      refine gx_ite (fun h24 => ?_) (fun h24 => ?_)
      · refine gx_case (v := (0 : Int32)) (off := 76) hC 124 h24 dX5_sizeOf_48 (by decide) ?_
        refine gx_iconst (v := (1 : Int32)) (pc' := 125) hC rfl dX5_sizeOf_124 (by decide) ?_
        exact gx_iret hC dX5_sizeOf_125
      refine gx_ite (fun h25 => ?_) (fun h25 => ?_)
      · refine gx_case (v := (1 : Int32)) (off := 82) hC 130 h25 dX5_sizeOf_48 (by decide) ?_
        refine gx_iconst (v := (0 : Int32)) (pc' := 131) hC rfl dX5_sizeOf_130 (by decide) ?_
        exact gx_iret hC dX5_sizeOf_131
      refine gx_ite (fun h26 => ?_) (fun h26 => ?_)
      · refine gx_case (v := (2 : Int32)) (off := 78) hC 126 h26 dX5_sizeOf_48 (by decide) ?_
        refine gx_iconst (v := (2 : Int32)) (pc' := 127) hC rfl dX5_sizeOf_126 (by decide) ?_
        exact gx_iret hC dX5_sizeOf_127
      refine gx_ite (fun h27 => ?_) (fun h27 => ?_)
      · refine gx_case (v := (3 : Int32)) (off := 82) hC 130 h27 dX5_sizeOf_48 (by decide) ?_
        refine gx_iconst (v := (0 : Int32)) (pc' := 131) hC rfl dX5_sizeOf_130 (by decide) ?_
        exact gx_iret hC dX5_sizeOf_131
      refine gx_ite (fun h28 => ?_) (fun h28 => ?_)
      · refine gx_case (v := (4 : Int32)) (off := 82) hC 130 h28 dX5_sizeOf_48 (by decide) ?_
        refine gx_iconst (v := (0 : Int32)) (pc' := 131) hC rfl dX5_sizeOf_130 (by decide) ?_
        exact gx_iret hC dX5_sizeOf_131
      refine gx_ite (fun h29 => ?_) (fun h29 => ?_)
      · refine gx_case (v := (5 : Int32)) (off := 82) hC 130 h29 dX5_sizeOf_48 (by decide) ?_
        refine gx_iconst (v := (0 : Int32)) (pc' := 131) hC rfl dX5_sizeOf_130 (by decide) ?_
        exact gx_iret hC dX5_sizeOf_131
      refine gx_ite (fun h30 => ?_) (fun h30 => ?_)
      · refine gx_case (v := (6 : Int32)) (off := 82) hC 130 h30 dX5_sizeOf_48 (by decide) ?_
        refine gx_iconst (v := (0 : Int32)) (pc' := 131) hC rfl dX5_sizeOf_130 (by decide) ?_
        exact gx_iret hC dX5_sizeOf_131
      refine gx_ite (fun h31 => ?_) (fun h31 => ?_)
      · refine gx_case (v := (7 : Int32)) (off := 82) hC 130 h31 dX5_sizeOf_48 (by decide) ?_
        refine gx_iconst (v := (0 : Int32)) (pc' := 131) hC rfl dX5_sizeOf_130 (by decide) ?_
        exact gx_iret hC dX5_sizeOf_131
      refine gx_ite (fun h32 => ?_) (fun h32 => ?_)
      · refine gx_case (v := (8 : Int32)) (off := 82) hC 130 h32 dX5_sizeOf_48 (by decide) ?_
        refine gx_iconst (v := (0 : Int32)) (pc' := 131) hC rfl dX5_sizeOf_130 (by decide) ?_
        exact gx_iret hC dX5_sizeOf_131
      refine gx_ite (fun h33 => ?_) (fun h33 => ?_)
      · refine gx_case (v := (9 : Int32)) (off := 82) hC 130 h33 dX5_sizeOf_48 (by decide) ?_
        refine gx_iconst (v := (0 : Int32)) (pc' := 131) hC rfl dX5_sizeOf_130 (by decide) ?_
        exact gx_iret hC dX5_sizeOf_131
      refine gx_ite (fun h34 => ?_) (fun h34 => ?_)
      · refine gx_case (v := (10 : Int32)) (off := 76) hC 124 h34 dX5_sizeOf_48 (by decide) ?_
        refine gx_iconst (v := (1 : Int32)) (pc' := 125) hC rfl dX5_sizeOf_124 (by decide) ?_
        exact gx_iret hC dX5_sizeOf_125
      refine gx_ite (fun h35 => ?_) (fun h35 => ?_)
      · refine gx_case (v := (11 : Int32)) (off := 76) hC 124 h35 dX5_sizeOf_48 (by decide) ?_
        refine gx_iconst (v := (1 : Int32)) (pc' := 125) hC rfl dX5_sizeOf_124 (by decide) ?_
        exact gx_iret hC dX5_sizeOf_125
      refine gx_ite (fun h36 => ?_) (fun h36 => ?_)
      · refine gx_case (v := (12 : Int32)) (off := 80) hC 128 h36 dX5_sizeOf_48 (by decide) ?_
        refine gx_iconst (v := (3 : Int32)) (pc' := 129) hC rfl dX5_sizeOf_128 (by decide) ?_
        exact gx_iret hC dX5_sizeOf_129
      refine gx_ite (fun h37 => ?_) (fun h37 => ?_)
      · refine gx_case (v := (13 : Int32)) (off := 78) hC 126 h37 dX5_sizeOf_48 (by decide) ?_
        refine gx_iconst (v := (2 : Int32)) (pc' := 127) hC rfl dX5_sizeOf_126 (by decide) ?_
        exact gx_iret hC dX5_sizeOf_127
      refine gx_ite (fun h38 => ?_) (fun h38 => ?_)
      · refine gx_case (v := (14 : Int32)) (off := 78) hC 126 h38 dX5_sizeOf_48 (by decide) ?_
        refine gx_iconst (v := (2 : Int32)) (pc' := 127) hC rfl dX5_sizeOf_126 (by decide) ?_
        exact gx_iret hC dX5_sizeOf_127
      refine gx_dflt hC 130 dX5_sizeOf_48 (by have := lv_neT h24 (show ((0 : Int32)).toInt = 0 by decide); have := lv_neT h25 (show ((1 : Int32)).toInt = 1 by decide); have := lv_neT h26 (show ((2 : Int32)).toInt = 2 by decide); have := lv_neT h27 (show ((3 : Int32)).toInt = 3 by decide); have := lv_neT h28 (show ((4 : Int32)).toInt = 4 by decide); have := lv_neT h29 (show ((5 : Int32)).toInt = 5 by decide); have := lv_neT h30 (show ((6 : Int32)).toInt = 6 by decide); have := lv_neT h31 (show ((7 : Int32)).toInt = 7 by decide); have := lv_neT h32 (show ((8 : Int32)).toInt = 8 by decide); have := lv_neT h33 (show ((9 : Int32)).toInt = 9 by decide); have := lv_neT h34 (show ((10 : Int32)).toInt = 10 by decide); have := lv_neT h35 (show ((11 : Int32)).toInt = 11 by decide); have := lv_neT h36 (show ((12 : Int32)).toInt = 12 by decide); have := lv_neT h37 (show ((13 : Int32)).toInt = 13 by decide); have := lv_neT h38 (show ((14 : Int32)).toInt = 14 by decide); omega) (by decide) ?_
      refine gx_iconst (v := (0 : Int32)) (pc' := 131) hC rfl dX5_sizeOf_130 (by decide) ?_
      exact gx_iret hC dX5_sizeOf_131
    · refine gx_iconst (v := (1 : Int32)) (pc' := 46) hC rfl dX5_sizeOf_45 (by decide) ?_
      exact gx_iret hC dX5_sizeOf_46
set_option maxHeartbeats 4000000 in
set_option maxRecDepth 100000 in
theorem c_X5_sizeOf {l : Launch} {D : va_G} {tZ : Nat} (cI cZ cR : ClassId) (a : Nat → Nat) (x0 : Int32) (S : St) : MI l D (tyl cI cZ cR) tZ (wX cI cZ cR a) yX5_sizeOf cX5_sizeOf 1 (some .int) rm_X5_sizeOf [.int x0] S (m_X5_sizeOf x0 S) := by
  refine gx_metI (by decide) (Nat.le_of_ble_eq_true rfl) ?_
  intro p e s m below meth c A hC
  refine gx_sub [(0, .int x0)] [0] rfl ?_
  rw [m_X5_sizeOf]
  refine gx_iload_n (pc' := 1) hC rfl dX5_sizeOf_0 rfl ?_
  refine gx_bipush (v := (64 : Int32)) (pc' := 3) hC rfl dX5_sizeOf_1 (by decide) ?_
  refine gx_icmp_lt (pc' := 6) hC 15 rfl dX5_sizeOf_3 (by decide) (fun h1 => ?_) (fun h1 => ?_)
  · refine gx_iload_n (pc' := 16) hC rfl dX5_sizeOf_15 rfl ?_
    refine gx_sipush (v := (128 : Int32)) (pc' := 19) hC rfl dX5_sizeOf_16 (by decide) ?_
    refine gx_icmp_lt (pc' := 22) hC 31 rfl dX5_sizeOf_19 (by decide) (fun h2 => ?_) (fun h2 => ?_)
    · exact gx_sub [(0, .int x0)] [0] rfl (g_X5_sizeOf_L31 hC x0 S)
    · refine gx_iload_n (pc' := 23) hC rfl dX5_sizeOf_22 rfl ?_
      refine gx_sipush (v := (131 : Int32)) (pc' := 26) hC rfl dX5_sizeOf_23 (by decide) ?_
      refine gx_icmp_ge (pc' := 29) hC 31 rfl dX5_sizeOf_26 (by decide) (fun h3 => ?_) (fun h3 => ?_)
      · exact gx_sub [(0, .int x0)] [0] rfl (g_X5_sizeOf_L31 hC x0 S)
      · refine gx_iconst (v := (2 : Int32)) (pc' := 30) hC rfl dX5_sizeOf_29 (by decide) ?_
        exact gx_iret hC dX5_sizeOf_30
  · refine gx_iload_n (pc' := 7) hC rfl dX5_sizeOf_6 rfl ?_
    refine gx_sipush (v := (128 : Int32)) (pc' := 10) hC rfl dX5_sizeOf_7 (by decide) ?_
    refine gx_icmp_ge (pc' := 13) hC 15 rfl dX5_sizeOf_10 (by decide) (fun h4 => ?_) (fun h4 => ?_)
    · refine gx_iload_n (pc' := 16) hC rfl dX5_sizeOf_15 rfl ?_
      refine gx_sipush (v := (128 : Int32)) (pc' := 19) hC rfl dX5_sizeOf_16 (by decide) ?_
      refine gx_icmp_lt (pc' := 22) hC 31 rfl dX5_sizeOf_19 (by decide) (fun h5 => ?_) (fun h5 => ?_)
      · exact gx_sub [(0, .int x0)] [0] rfl (g_X5_sizeOf_L31 hC x0 S)
      · refine gx_iload_n (pc' := 23) hC rfl dX5_sizeOf_22 rfl ?_
        refine gx_sipush (v := (131 : Int32)) (pc' := 26) hC rfl dX5_sizeOf_23 (by decide) ?_
        refine gx_icmp_ge (pc' := 29) hC 31 rfl dX5_sizeOf_26 (by decide) (fun h6 => ?_) (fun h6 => ?_)
        · exact gx_sub [(0, .int x0)] [0] rfl (g_X5_sizeOf_L31 hC x0 S)
        · refine gx_iconst (v := (2 : Int32)) (pc' := 30) hC rfl dX5_sizeOf_29 (by decide) ?_
          exact gx_iret hC dX5_sizeOf_30
    · refine gx_iconst (v := (1 : Int32)) (pc' := 14) hC rfl dX5_sizeOf_13 (by decide) ?_
      exact gx_iret hC dX5_sizeOf_14
set_option maxHeartbeats 4000000 in
set_option maxRecDepth 100000 in
theorem c_X5_moveBy {l : Launch} {D : va_G} {tZ : Nat} (cI cZ cR : ClassId) (a : Nat → Nat) (x1 : Int32) (S : St) : MI l D (tyl cI cZ cR) tZ (wX cI cZ cR a) yX5_moveBy cX5_moveBy 2 (some .boolean) rm_X5_moveBy [.ref (a 13), .int x1] S (m_X5_moveBy x1 S) := by
  refine gx_metI (by decide) (Nat.le_of_ble_eq_true rfl) ?_
  intro p e s m below meth c A hC
  refine gx_sub [(0, .ref (a 13)), (1, .int x1)] [0, 1] rfl ?_
  rw [m_X5_moveBy]
  refine gx_aload_n (pc' := 1) hC rfl dX5_moveBy_0 rfl ?_
  refine gx_dup (pc' := 2) hC rfl dX5_moveBy_1 rfl ?_
  refine gx_get (pc' := 5) hC 13 (atX13 cI cZ cR a _) rfl inw_X5 5 (by decide) lk_X5_42 rfl rfl dX5_moveBy_2 ?_
  refine gx_iload_n (pc' := 6) hC rfl dX5_moveBy_5 rfl ?_
  refine gx_iadd (pc' := 7) hC rfl dX5_moveBy_6 ?_
  refine gx_put (pc' := 10) hC tyX5_ok nmX5 13 (atX13 cI cZ cR a _) rfl inw_X5 5 (by decide) lk_X5_42 rfl rfl rfl (Nat.le_of_ble_eq_true rfl) (st S 20 8 ((S 20 8) + x1)) (ptX13_5 cI cZ cR a _ _) rfl dX5_moveBy_7 ?_
  refine gx_aload_n (pc' := 11) hC rfl dX5_moveBy_10 rfl ?_
  refine gx_get (pc' := 14) hC 13 (atX13 cI cZ cR a _) rfl inw_X5 5 (by decide) lk_X5_42 rfl rfl dX5_moveBy_11 ?_
  refine gx_aload_n (pc' := 15) hC rfl dX5_moveBy_14 rfl ?_
  refine gx_get (pc' := 18) hC 13 (atX13 cI cZ cR a _) rfl inw_X5 6 (by decide) lk_X5_45 rfl rfl dX5_moveBy_15 ?_
  refine gx_icmp_ge (pc' := 21) hC 25 rfl dX5_moveBy_18 (by decide) (fun h1 => ?_) (fun h1 => ?_)
  · refine gx_iconst (v := (0 : Int32)) (pc' := 26) hC rfl dX5_moveBy_25 (by decide) ?_
    exact gx_zret hC dX5_moveBy_26
  · refine gx_iconst (v := (1 : Int32)) (pc' := 22) hC rfl dX5_moveBy_21 (by decide) ?_
    refine gx_goto hC 26 dX5_moveBy_22 (by decide) ?_
    exact gx_zret hC dX5_moveBy_26
set_option maxHeartbeats 4000000 in
set_option maxRecDepth 100000 in
theorem c_X5_followRange {l : Launch} {D : va_G} {tZ : Nat} (cI cZ cR : ClassId) (a : Nat → Nat) (x1 : Int32) (x2 : Int32) (S : St) : MI l D (tyl cI cZ cR) tZ (wX cI cZ cR a) yX5_followRange cX5_followRange 3 (some .boolean) rm_X5_followRange [.ref (a 13), .int x1, .int x2] S (m_X5_followRange x1 x2 S) := by
  refine gx_metI (by decide) (Nat.le_of_ble_eq_true rfl) ?_
  intro p e s m below meth c A hC
  refine gx_sub [(0, .ref (a 13)), (1, .int x1), (2, .int x2)] [0, 1, 2] rfl ?_
  rw [m_X5_followRange]
  refine gx_iload_n (pc' := 1) hC rfl dX5_followRange_0 rfl ?_
  refine gx_sipush (v := (128 : Int32)) (pc' := 4) hC rfl dX5_followRange_1 (by decide) ?_
  refine gx_icmp_ge (pc' := 7) hC 16 rfl dX5_followRange_4 (by decide) (fun h1 => ?_) (fun h1 => ?_)
  · refine gx_iload_n (pc' := 17) hC rfl dX5_followRange_16 rfl ?_
    refine gx_sipush (v := (192 : Int32)) (pc' := 20) hC rfl dX5_followRange_17 (by decide) ?_
    refine gx_icmp_ge (pc' := 23) hC 40 rfl dX5_followRange_20 (by decide) (fun h2 => ?_) (fun h2 => ?_)
    · refine gx_aload_n (pc' := 41) hC rfl dX5_followRange_40 rfl ?_
      refine gx_get (pc' := 44) hC 13 (atX13 cI cZ cR a _) rfl inw_X5 2 (by decide) lk_X5_18 rfl rfl dX5_followRange_41 ?_
      refine gx_getN (pc' := 47) hC 27 (atX27 cI cZ cR a _) rfl inw_X6 2 (by decide) lk_X5_89 rfl rfl dX5_followRange_44 ?_
      refine gx_iload_n (pc' := 48) hC rfl dX5_followRange_47 rfl ?_
      refine gx_sipush (v := (192 : Int32)) (pc' := 51) hC rfl dX5_followRange_48 (by decide) ?_
      refine gx_isub (pc' := 52) hC rfl dX5_followRange_51 ?_
      refine gx_iconst (v := (0 : Int32)) (pc' := 53) hC rfl dX5_followRange_52 (by decide) ?_
      refine gx_iast (pc' := 54) hC 28 0 (atX28 cI cZ cR a _) rfl (st S 15 (x1 - (192 : Int32)).toNatClampNeg (0 : Int32)) (stX28 cI cZ cR a _ _ _) rfl dX5_followRange_53 ?_
      refine gx_iconst (v := (1 : Int32)) (pc' := 55) hC rfl dX5_followRange_54 (by decide) ?_
      exact gx_zret hC dX5_followRange_55
    · refine gx_aload_n (pc' := 24) hC rfl dX5_followRange_23 rfl ?_
      refine gx_get (pc' := 27) hC 13 (atX13 cI cZ cR a _) rfl inw_X5 2 (by decide) lk_X5_18 rfl rfl dX5_followRange_24 ?_
      refine gx_getN (pc' := 30) hC 27 (atX27 cI cZ cR a _) rfl inw_X6 2 (by decide) lk_X5_89 rfl rfl dX5_followRange_27 ?_
      refine gx_iload_n (pc' := 31) hC rfl dX5_followRange_30 rfl ?_
      refine gx_sipush (v := (128 : Int32)) (pc' := 34) hC rfl dX5_followRange_31 (by decide) ?_
      refine gx_isub (pc' := 35) hC rfl dX5_followRange_34 ?_
      refine gx_iload_n (pc' := 36) hC rfl dX5_followRange_35 rfl ?_
      refine gx_iast (pc' := 37) hC 28 0 (atX28 cI cZ cR a _) rfl (st S 15 (x1 - (128 : Int32)).toNatClampNeg x2) (stX28 cI cZ cR a _ _ _) rfl dX5_followRange_36 ?_
      refine gx_goto hC 54 dX5_followRange_37 (by decide) ?_
      refine gx_iconst (v := (1 : Int32)) (pc' := 55) hC rfl dX5_followRange_54 (by decide) ?_
      exact gx_zret hC dX5_followRange_55
  · refine gx_aload_n (pc' := 8) hC rfl dX5_followRange_7 rfl ?_
    refine gx_iload_n (pc' := 9) hC rfl dX5_followRange_8 rfl ?_
    refine gx_bipush (v := (64 : Int32)) (pc' := 11) hC rfl dX5_followRange_9 (by decide) ?_
    refine gx_isub (pc' := 12) hC rfl dX5_followRange_11 ?_
    refine gx_callVI (pc' := 15) hC (c_X5_moveBy cI cZ cR a (x1 - (64 : Int32)) _) 13 (atX13 cI cZ cR a _) rfl kw_X5_69 hy_X5_moveBy ⟨rfl, rfl⟩ (by decide) rfl rfl (Nat.le_of_ble_eq_true rfl) rfl dX5_followRange_12 (fun r1 => ?_)
    exact gx_zret hC dX5_followRange_15
set_option maxHeartbeats 4000000 in
set_option maxRecDepth 100000 in
theorem c_X5_putOnPile {l : Launch} {D : va_G} {tZ : Nat} (cI cZ cR : ClassId) (a : Nat → Nat)  (S : St) : MI l D (tyl cI cZ cR) tZ (wX cI cZ cR a) yX5_putOnPile cX5_putOnPile 1 (some .boolean) rm_X5_putOnPile [.ref (a 13)] S (m_X5_putOnPile  S) := by
  refine gx_metI (by decide) (Nat.le_of_ble_eq_true rfl) ?_
  intro p e s m below meth c A hC
  refine gx_sub [(0, .ref (a 13))] [0] rfl ?_
  rw [m_X5_putOnPile]
  refine gx_aload_n (pc' := 1) hC rfl dX5_putOnPile_0 rfl ?_
  refine gx_get (pc' := 4) hC 13 (atX13 cI cZ cR a _) rfl inw_X5 4 (by decide) lk_X5_59 rfl rfl dX5_putOnPile_1 ?_
  refine gx_iconst (v := (4 : Int32)) (pc' := 5) hC rfl dX5_putOnPile_4 (by decide) ?_
  refine gx_icmp_lt (pc' := 8) hC 10 rfl dX5_putOnPile_5 (by decide) (fun h1 => ?_) (fun h1 => ?_)
  · refine gx_aload_n (pc' := 11) hC rfl dX5_putOnPile_10 rfl ?_
    refine gx_get (pc' := 14) hC 13 (atX13 cI cZ cR a _) rfl inw_X5 3 (by decide) lk_X5_21 rfl rfl dX5_putOnPile_11 ?_
    refine gx_aload_n (pc' := 15) hC rfl dX5_putOnPile_14 rfl ?_
    refine gx_get (pc' := 18) hC 13 (atX13 cI cZ cR a _) rfl inw_X5 4 (by decide) lk_X5_59 rfl rfl dX5_putOnPile_15 ?_
    refine gx_aald (pc' := 19) hC 14 2 (atX14 cI cZ cR a _) rfl rfl dX5_putOnPile_18 (fun hb2 => ?_)
    refine gx_aload_n (pc' := 20) hC rfl dX5_putOnPile_19 rfl ?_
    refine gx_get (pc' := 23) hC 13 (atX13 cI cZ cR a _) rfl inw_X5 2 (by decide) lk_X5_18 rfl rfl dX5_putOnPile_20 ?_
    refine gx_callVV (pc' := 26) hC (c_X6_copyFrom cI cZ cR a (4 + (S 20 7).toNatClampNeg) (by have := inb_lt hb2; omega) 3 (by decide) _) (21 + 2 * (4 + (S 20 7).toNatClampNeg)) (row_at cI cZ cR a _ (by have := inb_lt hb2; omega)) rfl kw_X5_55 hy_X6_copyFrom ⟨rfl, rfl⟩ (by decide) rfl rfl (Nat.le_of_ble_eq_true rfl) rfl dX5_putOnPile_23 (fun r1 => ?_)
    refine gx_aload_n (pc' := 27) hC rfl dX5_putOnPile_26 rfl ?_
    refine gx_dup (pc' := 28) hC rfl dX5_putOnPile_27 rfl ?_
    refine gx_get (pc' := 31) hC 13 (atX13 cI cZ cR a _) rfl inw_X5 4 (by decide) lk_X5_59 rfl rfl dX5_putOnPile_28 ?_
    refine gx_iconst (v := (1 : Int32)) (pc' := 32) hC rfl dX5_putOnPile_31 (by decide) ?_
    refine gx_iadd (pc' := 33) hC rfl dX5_putOnPile_32 ?_
    refine gx_put (pc' := 36) hC tyX5_ok nmX5 13 (atX13 cI cZ cR a _) rfl inw_X5 4 (by decide) lk_X5_59 rfl rfl rfl (Nat.le_of_ble_eq_true rfl) (st r1.2 20 7 ((r1.2 20 7) + (1 : Int32))) (ptX13_4 cI cZ cR a _ _) rfl dX5_putOnPile_33 ?_
    refine gx_iconst (v := (1 : Int32)) (pc' := 37) hC rfl dX5_putOnPile_36 (by decide) ?_
    exact gx_zret hC dX5_putOnPile_37
  · refine gx_iconst (v := (0 : Int32)) (pc' := 9) hC rfl dX5_putOnPile_8 (by decide) ?_
    exact gx_zret hC dX5_putOnPile_9
set_option maxHeartbeats 4000000 in
set_option maxRecDepth 100000 in
theorem c_X5_takeOffPile {l : Launch} {D : va_G} {tZ : Nat} (cI cZ cR : ClassId) (a : Nat → Nat)  (S : St) : MI l D (tyl cI cZ cR) tZ (wX cI cZ cR a) yX5_takeOffPile cX5_takeOffPile 1 (some .boolean) rm_X5_takeOffPile [.ref (a 13)] S (m_X5_takeOffPile  S) := by
  refine gx_metI (by decide) (Nat.le_of_ble_eq_true rfl) ?_
  intro p e s m below meth c A hC
  refine gx_sub [(0, .ref (a 13))] [0] rfl ?_
  rw [m_X5_takeOffPile]
  refine gx_aload_n (pc' := 1) hC rfl dX5_takeOffPile_0 rfl ?_
  refine gx_get (pc' := 4) hC 13 (atX13 cI cZ cR a _) rfl inw_X5 4 (by decide) lk_X5_59 rfl rfl dX5_takeOffPile_1 ?_
  refine gx_if_gt (pc' := 7) hC 9 rfl dX5_takeOffPile_4 (by decide) (fun h1 => ?_) (fun h1 => ?_)
  · refine gx_aload_n (pc' := 10) hC rfl dX5_takeOffPile_9 rfl ?_
    refine gx_dup (pc' := 11) hC rfl dX5_takeOffPile_10 rfl ?_
    refine gx_get (pc' := 14) hC 13 (atX13 cI cZ cR a _) rfl inw_X5 4 (by decide) lk_X5_59 rfl rfl dX5_takeOffPile_11 ?_
    refine gx_iconst (v := (1 : Int32)) (pc' := 15) hC rfl dX5_takeOffPile_14 (by decide) ?_
    refine gx_isub (pc' := 16) hC rfl dX5_takeOffPile_15 ?_
    refine gx_put (pc' := 19) hC tyX5_ok nmX5 13 (atX13 cI cZ cR a _) rfl inw_X5 4 (by decide) lk_X5_59 rfl rfl rfl (Nat.le_of_ble_eq_true rfl) (st S 20 7 ((S 20 7) - (1 : Int32))) (ptX13_4 cI cZ cR a _ _) rfl dX5_takeOffPile_16 ?_
    refine gx_aload_n (pc' := 20) hC rfl dX5_takeOffPile_19 rfl ?_
    refine gx_get (pc' := 23) hC 13 (atX13 cI cZ cR a _) rfl inw_X5 2 (by decide) lk_X5_18 rfl rfl dX5_takeOffPile_20 ?_
    refine gx_aload_n (pc' := 24) hC rfl dX5_takeOffPile_23 rfl ?_
    refine gx_get (pc' := 27) hC 13 (atX13 cI cZ cR a _) rfl inw_X5 3 (by decide) lk_X5_21 rfl rfl dX5_takeOffPile_24 ?_
    refine gx_aload_n (pc' := 28) hC rfl dX5_takeOffPile_27 rfl ?_
    refine gx_get (pc' := 31) hC 13 (atX13 cI cZ cR a _) rfl inw_X5 4 (by decide) lk_X5_59 rfl rfl dX5_takeOffPile_28 ?_
    refine gx_aald (pc' := 32) hC 14 2 (atX14 cI cZ cR a _) rfl rfl dX5_takeOffPile_31 (fun hb2 => ?_)
    refine gx_callVV (pc' := 35) hC (c_X6_copyFrom cI cZ cR a 3 (by decide) (4 + ((st S 20 7 ((S 20 7) - (1 : Int32))) 20 7).toNatClampNeg) (by have := inb_lt hb2; omega) _) 27 (atX27 cI cZ cR a _) rfl kw_X5_55 hy_X6_copyFrom ⟨rfl, rfl⟩ (by decide) rfl rfl (Nat.le_of_ble_eq_true rfl) rfl dX5_takeOffPile_32 (fun r1 => ?_)
    refine gx_iconst (v := (1 : Int32)) (pc' := 36) hC rfl dX5_takeOffPile_35 (by decide) ?_
    exact gx_zret hC dX5_takeOffPile_36
  · refine gx_iconst (v := (0 : Int32)) (pc' := 8) hC rfl dX5_takeOffPile_7 (by decide) ?_
    exact gx_zret hC dX5_takeOffPile_8
set_option maxHeartbeats 4000000 in
set_option maxRecDepth 100000 in
theorem c_X5_setLink {l : Launch} {D : va_G} {tZ : Nat} (cI cZ cR : ClassId) (a : Nat → Nat) (x1 : Int32) (S : St) : MI l D (tyl cI cZ cR) tZ (wX cI cZ cR a) yX5_setLink cX5_setLink 2 (some .boolean) rm_X5_setLink [.ref (a 13), .int x1] S (m_X5_setLink x1 S) := by
  refine gx_metI (by decide) (Nat.le_of_ble_eq_true rfl) ?_
  intro p e s m below meth c A hC
  refine gx_sub [(0, .ref (a 13)), (1, .int x1)] [0, 1] rfl ?_
  rw [m_X5_setLink]
  refine gx_aload_n (pc' := 1) hC rfl dX5_setLink_0 rfl ?_
  refine gx_get (pc' := 4) hC 13 (atX13 cI cZ cR a _) rfl inw_X5 2 (by decide) lk_X5_18 rfl rfl dX5_setLink_1 ?_
  refine gx_iload_n (pc' := 5) hC rfl dX5_setLink_4 rfl ?_
  refine gx_putN (pc' := 8) hC tyX6_ok nmX6 27 (atX27 cI cZ cR a _) rfl inw_X6 0 (by decide) lk_X5_93 rfl rfl rfl (Nat.le_of_ble_eq_true rfl) (st S 20 23 x1) (ptX27_0 cI cZ cR a _ _) rfl dX5_setLink_5 ?_
  refine gx_iload_n (pc' := 9) hC rfl dX5_setLink_8 rfl ?_
  refine gx_iconst (v := (1 : Int32)) (pc' := 10) hC rfl dX5_setLink_9 (by decide) ?_
  refine gx_icmp_gt (pc' := 13) hC 17 rfl dX5_setLink_10 (by decide) (fun h1 => ?_) (fun h1 => ?_)
  · refine gx_iconst (v := (0 : Int32)) (pc' := 18) hC rfl dX5_setLink_17 (by decide) ?_
    exact gx_zret hC dX5_setLink_18
  · refine gx_iconst (v := (1 : Int32)) (pc' := 14) hC rfl dX5_setLink_13 (by decide) ?_
    refine gx_goto hC 18 dX5_setLink_14 (by decide) ?_
    exact gx_zret hC dX5_setLink_18
set_option maxHeartbeats 4000000 in
set_option maxRecDepth 100000 in
theorem c_X5_follow {l : Launch} {D : va_G} {tZ : Nat} (cI cZ cR : ClassId) (a : Nat → Nat) (x1 : Int32) (S : St) : MI l D (tyl cI cZ cR) tZ (wX cI cZ cR a) yX5_follow cX5_follow 4 (some .boolean) rm_X5_follow [.ref (a 13), .int x1] S (m_X5_follow x1 S) := by
  refine gx_metI (by decide) (Nat.le_of_ble_eq_true rfl) ?_
  intro p e s m below meth c A hC
  refine gx_sub [(0, .ref (a 13)), (1, .int x1)] [0, 1] rfl ?_
  rw [m_X5_follow]
  refine gx_aload_n (pc' := 1) hC rfl dX5_follow_0 rfl ?_
  refine gx_get (pc' := 4) hC 13 (atX13 cI cZ cR a _) rfl inw_X5 0 (by decide) lk_X5_25 rfl rfl dX5_follow_1 ?_
  refine gx_iload_n (pc' := 5) hC rfl dX5_follow_4 rfl ?_
  refine gx_callVI (pc' := 8) hC (c_X7_byteAt cI cZ cR a x1 _) 11 (atX11 cI cZ cR a _) rfl kw_X5_39 hy_X7_byteAt ⟨rfl, rfl⟩ (by decide) rfl rfl (Nat.le_of_ble_eq_true rfl) rfl dX5_follow_5 (fun r1 => ?_)
  refine gx_istore_n (pc' := 9) hC [(2, .int r1.1), (0, .ref (a 13)), (1, .int x1)] rfl dX5_follow_8 (by decide) rfl ?_
  refine gx_aload_n (pc' := 10) hC rfl dX5_follow_9 rfl ?_
  refine gx_get (pc' := 13) hC 13 (atX13 cI cZ cR a _) rfl inw_X5 0 (by decide) lk_X5_25 rfl rfl dX5_follow_10 ?_
  refine gx_iload_n (pc' := 14) hC rfl dX5_follow_13 rfl ?_
  refine gx_iconst (v := (1 : Int32)) (pc' := 15) hC rfl dX5_follow_14 (by decide) ?_
  refine gx_iadd (pc' := 16) hC rfl dX5_follow_15 ?_
  refine gx_callVI (pc' := 19) hC (c_X7_byteAt cI cZ cR a (x1 + (1 : Int32)) _) 11 (atX11 cI cZ cR a _) rfl kw_X5_39 hy_X7_byteAt ⟨rfl, rfl⟩ (by decide) rfl rfl (Nat.le_of_ble_eq_true rfl) rfl dX5_follow_16 (fun r2 => ?_)
  refine gx_istore_n (pc' := 20) hC [(3, .int r2.1), (2, .int r1.1), (0, .ref (a 13)), (1, .int x1)] rfl dX5_follow_19 (by decide) rfl ?_
  refine gx_iload_n (pc' := 21) hC rfl dX5_follow_20 rfl ?_
  refine gx_ite (fun h1 => ?_) (fun h1 => ?_)
  · refine gx_case (v := (0 : Int32)) (off := 75) hC 96 h1 dX5_follow_21 (by decide) ?_
    refine gx_iconst (v := (1 : Int32)) (pc' := 97) hC rfl dX5_follow_96 (by decide) ?_
    exact gx_zret hC dX5_follow_97
  refine gx_ite (fun h2 => ?_) (fun h2 => ?_)
  · refine gx_case (v := (1 : Int32)) (off := 132) hC 153 h2 dX5_follow_21 (by decide) ?_
    refine gx_aload_n (pc' := 154) hC rfl dX5_follow_153 rfl ?_
    refine gx_iload_n (pc' := 155) hC rfl dX5_follow_154 rfl ?_
    refine gx_iload_n (pc' := 156) hC rfl dX5_follow_155 rfl ?_
    refine gx_callVI (pc' := 159) hC (c_X5_followRange cI cZ cR a r1.1 r2.1 _) 13 (atX13 cI cZ cR a _) rfl kw_X5_85 hy_X5_followRange ⟨rfl, rfl⟩ (by decide) rfl rfl (Nat.le_of_ble_eq_true rfl) rfl dX5_follow_156 (fun r3 => ?_)
    exact gx_zret hC dX5_follow_159
  refine gx_ite (fun h3 => ?_) (fun h3 => ?_)
  · refine gx_case (v := (2 : Int32)) (off := 77) hC 98 h3 dX5_follow_21 (by decide) ?_
    refine gx_aload_n (pc' := 99) hC rfl dX5_follow_98 rfl ?_
    refine gx_iload_n (pc' := 100) hC rfl dX5_follow_99 rfl ?_
    refine gx_callVI (pc' := 103) hC (c_X5_moveBy cI cZ cR a r2.1 _) 13 (atX13 cI cZ cR a _) rfl kw_X5_69 hy_X5_moveBy ⟨rfl, rfl⟩ (by decide) rfl rfl (Nat.le_of_ble_eq_true rfl) rfl dX5_follow_100 (fun r4 => ?_)
    exact gx_zret hC dX5_follow_103
  refine gx_ite (fun h4 => ?_) (fun h4 => ?_)
  · refine gx_case (v := (3 : Int32)) (off := 132) hC 153 h4 dX5_follow_21 (by decide) ?_
    refine gx_aload_n (pc' := 154) hC rfl dX5_follow_153 rfl ?_
    refine gx_iload_n (pc' := 155) hC rfl dX5_follow_154 rfl ?_
    refine gx_iload_n (pc' := 156) hC rfl dX5_follow_155 rfl ?_
    refine gx_callVI (pc' := 159) hC (c_X5_followRange cI cZ cR a r1.1 r2.1 _) 13 (atX13 cI cZ cR a _) rfl kw_X5_85 hy_X5_followRange ⟨rfl, rfl⟩ (by decide) rfl rfl (Nat.le_of_ble_eq_true rfl) rfl dX5_follow_156 (fun r5 => ?_)
    exact gx_zret hC dX5_follow_159
  refine gx_ite (fun h5 => ?_) (fun h5 => ?_)
  · refine gx_case (v := (4 : Int32)) (off := 132) hC 153 h5 dX5_follow_21 (by decide) ?_
    refine gx_aload_n (pc' := 154) hC rfl dX5_follow_153 rfl ?_
    refine gx_iload_n (pc' := 155) hC rfl dX5_follow_154 rfl ?_
    refine gx_iload_n (pc' := 156) hC rfl dX5_follow_155 rfl ?_
    refine gx_callVI (pc' := 159) hC (c_X5_followRange cI cZ cR a r1.1 r2.1 _) 13 (atX13 cI cZ cR a _) rfl kw_X5_85 hy_X5_followRange ⟨rfl, rfl⟩ (by decide) rfl rfl (Nat.le_of_ble_eq_true rfl) rfl dX5_follow_156 (fun r6 => ?_)
    exact gx_zret hC dX5_follow_159
  refine gx_ite (fun h6 => ?_) (fun h6 => ?_)
  · refine gx_case (v := (5 : Int32)) (off := 132) hC 153 h6 dX5_follow_21 (by decide) ?_
    refine gx_aload_n (pc' := 154) hC rfl dX5_follow_153 rfl ?_
    refine gx_iload_n (pc' := 155) hC rfl dX5_follow_154 rfl ?_
    refine gx_iload_n (pc' := 156) hC rfl dX5_follow_155 rfl ?_
    refine gx_callVI (pc' := 159) hC (c_X5_followRange cI cZ cR a r1.1 r2.1 _) 13 (atX13 cI cZ cR a _) rfl kw_X5_85 hy_X5_followRange ⟨rfl, rfl⟩ (by decide) rfl rfl (Nat.le_of_ble_eq_true rfl) rfl dX5_follow_156 (fun r7 => ?_)
    exact gx_zret hC dX5_follow_159
  refine gx_ite (fun h7 => ?_) (fun h7 => ?_)
  · refine gx_case (v := (6 : Int32)) (off := 132) hC 153 h7 dX5_follow_21 (by decide) ?_
    refine gx_aload_n (pc' := 154) hC rfl dX5_follow_153 rfl ?_
    refine gx_iload_n (pc' := 155) hC rfl dX5_follow_154 rfl ?_
    refine gx_iload_n (pc' := 156) hC rfl dX5_follow_155 rfl ?_
    refine gx_callVI (pc' := 159) hC (c_X5_followRange cI cZ cR a r1.1 r2.1 _) 13 (atX13 cI cZ cR a _) rfl kw_X5_85 hy_X5_followRange ⟨rfl, rfl⟩ (by decide) rfl rfl (Nat.le_of_ble_eq_true rfl) rfl dX5_follow_156 (fun r8 => ?_)
    exact gx_zret hC dX5_follow_159
  refine gx_ite (fun h8 => ?_) (fun h8 => ?_)
  · refine gx_case (v := (7 : Int32)) (off := 132) hC 153 h8 dX5_follow_21 (by decide) ?_
    refine gx_aload_n (pc' := 154) hC rfl dX5_follow_153 rfl ?_
    refine gx_iload_n (pc' := 155) hC rfl dX5_follow_154 rfl ?_
    refine gx_iload_n (pc' := 156) hC rfl dX5_follow_155 rfl ?_
    refine gx_callVI (pc' := 159) hC (c_X5_followRange cI cZ cR a r1.1 r2.1 _) 13 (atX13 cI cZ cR a _) rfl kw_X5_85 hy_X5_followRange ⟨rfl, rfl⟩ (by decide) rfl rfl (Nat.le_of_ble_eq_true rfl) rfl dX5_follow_156 (fun r9 => ?_)
    exact gx_zret hC dX5_follow_159
  refine gx_ite (fun h9 => ?_) (fun h9 => ?_)
  · refine gx_case (v := (8 : Int32)) (off := 132) hC 153 h9 dX5_follow_21 (by decide) ?_
    refine gx_aload_n (pc' := 154) hC rfl dX5_follow_153 rfl ?_
    refine gx_iload_n (pc' := 155) hC rfl dX5_follow_154 rfl ?_
    refine gx_iload_n (pc' := 156) hC rfl dX5_follow_155 rfl ?_
    refine gx_callVI (pc' := 159) hC (c_X5_followRange cI cZ cR a r1.1 r2.1 _) 13 (atX13 cI cZ cR a _) rfl kw_X5_85 hy_X5_followRange ⟨rfl, rfl⟩ (by decide) rfl rfl (Nat.le_of_ble_eq_true rfl) rfl dX5_follow_156 (fun r10 => ?_)
    exact gx_zret hC dX5_follow_159
  refine gx_ite (fun h10 => ?_) (fun h10 => ?_)
  · refine gx_case (v := (9 : Int32)) (off := 132) hC 153 h10 dX5_follow_21 (by decide) ?_
    refine gx_aload_n (pc' := 154) hC rfl dX5_follow_153 rfl ?_
    refine gx_iload_n (pc' := 155) hC rfl dX5_follow_154 rfl ?_
    refine gx_iload_n (pc' := 156) hC rfl dX5_follow_155 rfl ?_
    refine gx_callVI (pc' := 159) hC (c_X5_followRange cI cZ cR a r1.1 r2.1 _) 13 (atX13 cI cZ cR a _) rfl kw_X5_85 hy_X5_followRange ⟨rfl, rfl⟩ (by decide) rfl rfl (Nat.le_of_ble_eq_true rfl) rfl dX5_follow_156 (fun r11 => ?_)
    exact gx_zret hC dX5_follow_159
  refine gx_ite (fun h11 => ?_) (fun h11 => ?_)
  · refine gx_case (v := (10 : Int32)) (off := 83) hC 104 h11 dX5_follow_21 (by decide) ?_
    refine gx_aload_n (pc' := 105) hC rfl dX5_follow_104 rfl ?_
    refine gx_callVI (pc' := 108) hC (c_X5_putOnPile cI cZ cR a  _) 13 (atX13 cI cZ cR a _) rfl kw_X5_72 hy_X5_putOnPile ⟨rfl, rfl⟩ (by decide) rfl rfl (Nat.le_of_ble_eq_true rfl) rfl dX5_follow_105 (fun r12 => ?_)
    exact gx_zret hC dX5_follow_108
  refine gx_ite (fun h12 => ?_) (fun h12 => ?_)
  · refine gx_case (v := (11 : Int32)) (off := 88) hC 109 h12 dX5_follow_21 (by decide) ?_
    refine gx_aload_n (pc' := 110) hC rfl dX5_follow_109 rfl ?_
    refine gx_callVI (pc' := 113) hC (c_X5_takeOffPile cI cZ cR a  _) 13 (atX13 cI cZ cR a _) rfl kw_X5_76 hy_X5_takeOffPile ⟨rfl, rfl⟩ (by decide) rfl rfl (Nat.le_of_ble_eq_true rfl) rfl dX5_follow_110 (fun r13 => ?_)
    exact gx_zret hC dX5_follow_113
  refine gx_ite (fun h13 => ?_) (fun h13 => ?_)
  · refine gx_case (v := (12 : Int32)) (off := 93) hC 114 h13 dX5_follow_21 (by decide) ?_
    refine gx_aload_n (pc' := 115) hC rfl dX5_follow_114 rfl ?_
    refine gx_get (pc' := 118) hC 13 (atX13 cI cZ cR a _) rfl inw_X5 2 (by decide) lk_X5_18 rfl rfl dX5_follow_115 ?_
    refine gx_aload_n (pc' := 119) hC rfl dX5_follow_118 rfl ?_
    refine gx_get (pc' := 122) hC 13 (atX13 cI cZ cR a _) rfl inw_X5 0 (by decide) lk_X5_25 rfl rfl dX5_follow_119 ?_
    refine gx_iload_n (pc' := 123) hC rfl dX5_follow_122 rfl ?_
    refine gx_iconst (v := (2 : Int32)) (pc' := 124) hC rfl dX5_follow_123 (by decide) ?_
    refine gx_iadd (pc' := 125) hC rfl dX5_follow_124 ?_
    refine gx_callVI (pc' := 128) hC (c_X7_byteAt cI cZ cR a (x1 + (2 : Int32)) _) 11 (atX11 cI cZ cR a _) rfl kw_X5_39 hy_X7_byteAt ⟨rfl, rfl⟩ (by decide) rfl rfl (Nat.le_of_ble_eq_true rfl) rfl dX5_follow_125 (fun r14 => ?_)
    refine gx_putN (pc' := 131) hC tyX6_ok nmX6 27 (atX27 cI cZ cR a _) rfl inw_X6 1 (by decide) lk_X5_79 rfl rfl rfl (Nat.le_of_ble_eq_true rfl) (st r14.2 20 24 r14.1) (ptX27_1 cI cZ cR a _ _) rfl dX5_follow_128 ?_
    refine gx_aload_n (pc' := 132) hC rfl dX5_follow_131 rfl ?_
    refine gx_iload_n (pc' := 133) hC rfl dX5_follow_132 rfl ?_
    refine gx_callVI (pc' := 136) hC (c_X5_setLink cI cZ cR a r2.1 _) 13 (atX13 cI cZ cR a _) rfl kw_X5_82 hy_X5_setLink ⟨rfl, rfl⟩ (by decide) rfl rfl (Nat.le_of_ble_eq_true rfl) rfl dX5_follow_133 (fun r15 => ?_)
    exact gx_zret hC dX5_follow_136
  refine gx_ite (fun h14 => ?_) (fun h14 => ?_)
  · refine gx_case (v := (13 : Int32)) (off := 116) hC 137 h14 dX5_follow_21 (by decide) ?_
    refine gx_aload_n (pc' := 138) hC rfl dX5_follow_137 rfl ?_
    refine gx_iload_n (pc' := 139) hC rfl dX5_follow_138 rfl ?_
    refine gx_callVI (pc' := 142) hC (c_X5_setLink cI cZ cR a r2.1 _) 13 (atX13 cI cZ cR a _) rfl kw_X5_82 hy_X5_setLink ⟨rfl, rfl⟩ (by decide) rfl rfl (Nat.le_of_ble_eq_true rfl) rfl dX5_follow_139 (fun r16 => ?_)
    exact gx_zret hC dX5_follow_142
  refine gx_ite (fun h15 => ?_) (fun h15 => ?_)
  · refine gx_case (v := (14 : Int32)) (off := 122) hC 143 h15 dX5_follow_21 (by decide) ?_
    refine gx_aload_n (pc' := 144) hC rfl dX5_follow_143 rfl ?_
    refine gx_get (pc' := 147) hC 13 (atX13 cI cZ cR a _) rfl inw_X5 2 (by decide) lk_X5_18 rfl rfl dX5_follow_144 ?_
    refine gx_iload_n (pc' := 148) hC rfl dX5_follow_147 rfl ?_
    refine gx_putN (pc' := 151) hC tyX6_ok nmX6 27 (atX27 cI cZ cR a _) rfl inw_X6 1 (by decide) lk_X5_79 rfl rfl rfl (Nat.le_of_ble_eq_true rfl) (st r2.2 20 24 r2.1) (ptX27_1 cI cZ cR a _ _) rfl dX5_follow_148 ?_
    refine gx_iconst (v := (1 : Int32)) (pc' := 152) hC rfl dX5_follow_151 (by decide) ?_
    exact gx_zret hC dX5_follow_152
  refine gx_dflt hC 153 dX5_follow_21 (by have := lv_neT h1 (show ((0 : Int32)).toInt = 0 by decide); have := lv_neT h2 (show ((1 : Int32)).toInt = 1 by decide); have := lv_neT h3 (show ((2 : Int32)).toInt = 2 by decide); have := lv_neT h4 (show ((3 : Int32)).toInt = 3 by decide); have := lv_neT h5 (show ((4 : Int32)).toInt = 4 by decide); have := lv_neT h6 (show ((5 : Int32)).toInt = 5 by decide); have := lv_neT h7 (show ((6 : Int32)).toInt = 6 by decide); have := lv_neT h8 (show ((7 : Int32)).toInt = 7 by decide); have := lv_neT h9 (show ((8 : Int32)).toInt = 8 by decide); have := lv_neT h10 (show ((9 : Int32)).toInt = 9 by decide); have := lv_neT h11 (show ((10 : Int32)).toInt = 10 by decide); have := lv_neT h12 (show ((11 : Int32)).toInt = 11 by decide); have := lv_neT h13 (show ((12 : Int32)).toInt = 12 by decide); have := lv_neT h14 (show ((13 : Int32)).toInt = 13 by decide); have := lv_neT h15 (show ((14 : Int32)).toInt = 14 by decide); omega) (by decide) ?_
  refine gx_aload_n (pc' := 154) hC rfl dX5_follow_153 rfl ?_
  refine gx_iload_n (pc' := 155) hC rfl dX5_follow_154 rfl ?_
  refine gx_iload_n (pc' := 156) hC rfl dX5_follow_155 rfl ?_
  refine gx_callVI (pc' := 159) hC (c_X5_followRange cI cZ cR a r1.1 r2.1 _) 13 (atX13 cI cZ cR a _) rfl kw_X5_85 hy_X5_followRange ⟨rfl, rfl⟩ (by decide) rfl rfl (Nat.le_of_ble_eq_true rfl) rfl dX5_follow_156 (fun r17 => ?_)
  exact gx_zret hC dX5_follow_159
set_option maxHeartbeats 4000000 in
set_option maxRecDepth 100000 in
theorem g_X5_readProgram_L29 {p : Program} {l : Launch} {e : Env} {s : State} {m : MethodId} {args : Array Value} {below : List Frame} {meth : Method} {c : Code} {D : va_G} {cI cZ cR : ClassId} {a : Nat → Nat} {tZ : Nat} {A : Nat → Prop} (hC : CX p s m args meth c cX5_readProgram 6 (some .boolean) yX5_readProgram.cls D (tyl cI cZ cR) tZ A) : ∀ (n : Nat) (x2 : Int32) (x3 : Int32) (x5 : Int32) (S : St), GX p l e rm_X5_readProgram s m args below meth c 6 D A (wX cI cZ cR a) (KI below D (tyl cI cZ cR) (wX cI cZ cR a) A args s) 29 [(0, .ref (a 13)), (2, .int x2), (3, .int x3), (5, .int x5)] [] S (m_X5_readProgram_L29 n x2 x3 x5 S) := by
  intro n
  induction n with
  | zero => intro x2 x3 x5 S; exact gx_none
  | succ n ih =>
    intro x2 x3 x5 S
    rw [m_X5_readProgram_L29]
    refine gx_iload (pc' := 31) hC rfl dX5_readProgram_29 rfl ?_
    refine gx_iload_n (pc' := 32) hC rfl dX5_readProgram_31 rfl ?_
    refine gx_icmp_ge (pc' := 35) hC 103 rfl dX5_readProgram_32 (by decide) (fun h1 => ?_) (fun h1 => ?_)
    · refine gx_iconst (v := (1 : Int32)) (pc' := 104) hC rfl dX5_readProgram_103 (by decide) ?_
      exact gx_zret hC dX5_readProgram_104
    · refine gx_aload_n (pc' := 36) hC rfl dX5_readProgram_35 rfl ?_
      refine gx_get (pc' := 39) hC 13 (atX13 cI cZ cR a _) rfl inw_X5 0 (by decide) lk_X5_25 rfl rfl dX5_readProgram_36 ?_
      refine gx_iload (pc' := 41) hC rfl dX5_readProgram_39 rfl ?_
      refine gx_callVI (pc' := 44) hC (c_X7_byteAt cI cZ cR a x5 _) 11 (atX11 cI cZ cR a _) rfl kw_X5_39 hy_X7_byteAt ⟨rfl, rfl⟩ (by decide) rfl rfl (Nat.le_of_ble_eq_true rfl) rfl dX5_readProgram_41 (fun r3 => ?_)
      refine gx_callSI (pc' := 47) hC (c_X5_sizeOf cI cZ cR a r3.1 _) kw_X5_62 hy_X5_sizeOf ⟨rfl, rfl⟩ (by decide) rfl rfl (Nat.le_of_ble_eq_true rfl) rfl dX5_readProgram_44 (fun r4 => ?_)
      refine gx_istore (pc' := 49) hC [(4, .int r4.1), (0, .ref (a 13)), (2, .int x2), (3, .int x3), (5, .int x5)] rfl dX5_readProgram_47 (by decide) rfl ?_
      refine gx_iload (pc' := 51) hC rfl dX5_readProgram_49 rfl ?_
      refine gx_if_eq (pc' := 54) hC 72 rfl dX5_readProgram_51 (by decide) (fun h2 => ?_) (fun h2 => ?_)
      · refine gx_iconst (v := (0 : Int32)) (pc' := 73) hC rfl dX5_readProgram_72 (by decide) ?_
        exact gx_zret hC dX5_readProgram_73
      · refine gx_iload (pc' := 56) hC rfl dX5_readProgram_54 rfl ?_
        refine gx_iload_n (pc' := 57) hC rfl dX5_readProgram_56 rfl ?_
        refine gx_iload (pc' := 59) hC rfl dX5_readProgram_57 rfl ?_
        refine gx_isub (pc' := 60) hC rfl dX5_readProgram_59 ?_
        refine gx_icmp_gt (pc' := 63) hC 72 rfl dX5_readProgram_60 (by decide) (fun h3 => ?_) (fun h3 => ?_)
        · refine gx_iconst (v := (0 : Int32)) (pc' := 73) hC rfl dX5_readProgram_72 (by decide) ?_
          exact gx_zret hC dX5_readProgram_73
        · refine gx_aload_n (pc' := 64) hC rfl dX5_readProgram_63 rfl ?_
          refine gx_iload (pc' := 66) hC rfl dX5_readProgram_64 rfl ?_
          refine gx_callVI (pc' := 69) hC (c_X5_follow cI cZ cR a x5 _) 13 (atX13 cI cZ cR a _) rfl kw_X5_65 hy_X5_follow ⟨rfl, rfl⟩ (by decide) rfl rfl (Nat.le_of_ble_eq_true rfl) rfl dX5_readProgram_66 (fun r5 => ?_)
          refine gx_if_ne (pc' := 72) hC 74 rfl dX5_readProgram_69 (by decide) (fun h4 => ?_) (fun h4 => ?_)
          · refine gx_iconst (v := (0 : Int32)) (pc' := 73) hC rfl dX5_readProgram_72 (by decide) ?_
            exact gx_zret hC dX5_readProgram_73
          · refine gx_aload_n (pc' := 75) hC rfl dX5_readProgram_74 rfl ?_
            refine gx_get (pc' := 78) hC 13 (atX13 cI cZ cR a _) rfl inw_X5 5 (by decide) lk_X5_42 rfl rfl dX5_readProgram_75 ?_
            refine gx_iload_n (pc' := 79) hC rfl dX5_readProgram_78 rfl ?_
            refine gx_icmp_gt (pc' := 82) hC 93 rfl dX5_readProgram_79 (by decide) (fun h5 => ?_) (fun h5 => ?_)
            · refine gx_iload (pc' := 95) hC rfl dX5_readProgram_93 rfl ?_
              refine gx_iload (pc' := 97) hC rfl dX5_readProgram_95 rfl ?_
              refine gx_iadd (pc' := 98) hC rfl dX5_readProgram_97 ?_
              refine gx_istore (pc' := 100) hC [(5, .int (x5 + r4.1)), (4, .int r4.1), (0, .ref (a 13)), (2, .int x2), (3, .int x3)] rfl dX5_readProgram_98 (by decide) rfl ?_
              refine gx_goto hC 29 dX5_readProgram_100 (by decide) ?_
              exact gx_sub [(0, .ref (a 13)), (2, .int x2), (3, .int x3), (5, .int (x5 + r4.1))] [2, 3, 4, 0] rfl (ih x2 x3 (x5 + r4.1) r5.2)
            · refine gx_aload_n (pc' := 83) hC rfl dX5_readProgram_82 rfl ?_
              refine gx_get (pc' := 86) hC 13 (atX13 cI cZ cR a _) rfl inw_X5 1 (by decide) lk_X5_12 rfl rfl dX5_readProgram_83 ?_
              refine gx_aload_n (pc' := 87) hC rfl dX5_readProgram_86 rfl ?_
              refine gx_get (pc' := 90) hC 13 (atX13 cI cZ cR a _) rfl inw_X5 2 (by decide) lk_X5_18 rfl rfl dX5_readProgram_87 ?_
              refine gx_callVV (pc' := 93) hC (c_X6_copyFrom cI cZ cR a 2 (by decide) 3 (by decide) _) 25 (atX25 cI cZ cR a _) rfl kw_X5_55 hy_X6_copyFrom ⟨rfl, rfl⟩ (by decide) rfl rfl (Nat.le_of_ble_eq_true rfl) rfl dX5_readProgram_90 (fun r6 => ?_)
              refine gx_iload (pc' := 95) hC rfl dX5_readProgram_93 rfl ?_
              refine gx_iload (pc' := 97) hC rfl dX5_readProgram_95 rfl ?_
              refine gx_iadd (pc' := 98) hC rfl dX5_readProgram_97 ?_
              refine gx_istore (pc' := 100) hC [(5, .int (x5 + r4.1)), (4, .int r4.1), (0, .ref (a 13)), (2, .int x2), (3, .int x3)] rfl dX5_readProgram_98 (by decide) rfl ?_
              refine gx_goto hC 29 dX5_readProgram_100 (by decide) ?_
              exact gx_sub [(0, .ref (a 13)), (2, .int x2), (3, .int x3), (5, .int (x5 + r4.1))] [2, 3, 4, 0] rfl (ih x2 x3 (x5 + r4.1) r6.2)
set_option maxHeartbeats 4000000 in
set_option maxRecDepth 100000 in
theorem c_X5_readProgram {l : Launch} {D : va_G} {tZ : Nat} (cI cZ cR : ClassId) (a : Nat → Nat) (x1 : Int32) (x2 : Int32) (x3 : Int32) (S : St) : MI l D (tyl cI cZ cR) tZ (wX cI cZ cR a) yX5_readProgram cX5_readProgram 6 (some .boolean) rm_X5_readProgram [.ref (a 13), .int x1, .int x2, .int x3] S (m_X5_readProgram x1 x2 x3 S) := by
  refine gx_metI (by decide) (Nat.le_of_ble_eq_true rfl) ?_
  intro p e s m below meth c A hC
  refine gx_sub [(0, .ref (a 13)), (1, .int x1), (2, .int x2), (3, .int x3)] [0, 1, 2, 3] rfl ?_
  rw [m_X5_readProgram]
  refine gx_aload_n (pc' := 1) hC rfl dX5_readProgram_0 rfl ?_
  refine gx_get (pc' := 4) hC 13 (atX13 cI cZ cR a _) rfl inw_X5 2 (by decide) lk_X5_18 rfl rfl dX5_readProgram_1 ?_
  refine gx_callVV (pc' := 7) hC (c_X6_setToFirst cI cZ cR a 3 (by decide) _) 27 (atX27 cI cZ cR a _) rfl kw_X5_52 hy_X6_setToFirst ⟨rfl, rfl⟩ (by decide) rfl rfl (Nat.le_of_ble_eq_true rfl) rfl dX5_readProgram_4 (fun r1 => ?_)
  refine gx_aload_n (pc' := 8) hC rfl dX5_readProgram_7 rfl ?_
  refine gx_get (pc' := 11) hC 13 (atX13 cI cZ cR a _) rfl inw_X5 1 (by decide) lk_X5_12 rfl rfl dX5_readProgram_8 ?_
  refine gx_aload_n (pc' := 12) hC rfl dX5_readProgram_11 rfl ?_
  refine gx_get (pc' := 15) hC 13 (atX13 cI cZ cR a _) rfl inw_X5 2 (by decide) lk_X5_18 rfl rfl dX5_readProgram_12 ?_
  refine gx_callVV (pc' := 18) hC (c_X6_copyFrom cI cZ cR a 2 (by decide) 3 (by decide) _) 25 (atX25 cI cZ cR a _) rfl kw_X5_55 hy_X6_copyFrom ⟨rfl, rfl⟩ (by decide) rfl rfl (Nat.le_of_ble_eq_true rfl) rfl dX5_readProgram_15 (fun r2 => ?_)
  refine gx_aload_n (pc' := 19) hC rfl dX5_readProgram_18 rfl ?_
  refine gx_iconst (v := (0 : Int32)) (pc' := 20) hC rfl dX5_readProgram_19 (by decide) ?_
  refine gx_put (pc' := 23) hC tyX5_ok nmX5 13 (atX13 cI cZ cR a _) rfl inw_X5 4 (by decide) lk_X5_59 rfl rfl rfl (Nat.le_of_ble_eq_true rfl) (st r2.2 20 7 (0 : Int32)) (ptX13_4 cI cZ cR a _ _) rfl dX5_readProgram_20 ?_
  refine gx_iconst (v := (1 : Int32)) (pc' := 24) hC rfl dX5_readProgram_23 (by decide) ?_
  refine gx_istore (pc' := 26) hC [(4, .int (1 : Int32)), (0, .ref (a 13)), (1, .int x1), (2, .int x2), (3, .int x3)] rfl dX5_readProgram_24 (by decide) rfl ?_
  refine gx_iload_n (pc' := 27) hC rfl dX5_readProgram_26 rfl ?_
  refine gx_istore (pc' := 29) hC [(5, .int x1), (4, .int (1 : Int32)), (0, .ref (a 13)), (1, .int x1), (2, .int x2), (3, .int x3)] rfl dX5_readProgram_27 (by decide) rfl ?_
  exact gx_sub [(0, .ref (a 13)), (2, .int x2), (3, .int x3), (5, .int x1)] [2, 4, 5, 0] rfl (g_X5_readProgram_L29 hC 10000 x2 x3 x1 (st r2.2 20 7 (0 : Int32)))
set_option maxHeartbeats 4000000 in
set_option maxRecDepth 100000 in
theorem g_X5_lookUp_L4 {p : Program} {l : Launch} {e : Env} {s : State} {m : MethodId} {args : Array Value} {below : List Frame} {meth : Method} {c : Code} {D : va_G} {cI cZ cR : ClassId} {a : Nat → Nat} {tZ : Nat} {A : Nat → Prop} (hC : CX p s m args meth c cX5_lookUp 4 (some .int) yX5_lookUp.cls D (tyl cI cZ cR) tZ A) : ∀ (n : Nat) (x1 : Int32) (x3 : Int32) (S : St), GX p l e rm_X5_lookUp s m args below meth c 4 D A (wX cI cZ cR a) (KI below D (tyl cI cZ cR) (wX cI cZ cR a) A args s) 4 [(0, .ref (a 13)), (1, .int x1), (3, .int x3)] [] S (m_X5_lookUp_L4 n x1 x3 S) := by
  intro n
  induction n with
  | zero => intro x1 x3 S; exact gx_none
  | succ n ih =>
    intro x1 x3 S
    rw [m_X5_lookUp_L4]
    refine gx_iload_n (pc' := 5) hC rfl dX5_lookUp_4 rfl ?_
    refine gx_aload_n (pc' := 6) hC rfl dX5_lookUp_5 rfl ?_
    refine gx_get (pc' := 9) hC 13 (atX13 cI cZ cR a _) rfl inw_X5 0 (by decide) lk_X5_25 rfl rfl dX5_lookUp_6 ?_
    refine gx_getN (pc' := 12) hC 11 (atX11 cI cZ cR a _) rfl inw_X7 1 (by decide) lk_X5_29 rfl rfl dX5_lookUp_9 ?_
    refine gx_icmp_ge (pc' := 15) hC 125 rfl dX5_lookUp_12 (by decide) (fun h1 => ?_) (fun h1 => ?_)
    · refine gx_iconst (v := (-1 : Int32)) (pc' := 126) hC rfl dX5_lookUp_125 (by decide) ?_
      exact gx_iret hC dX5_lookUp_126
    · refine gx_aload_n (pc' := 16) hC rfl dX5_lookUp_15 rfl ?_
      refine gx_iload_n (pc' := 17) hC rfl dX5_lookUp_16 rfl ?_
      refine gx_callVI (pc' := 20) hC (c_X5_countAt cI cZ cR a x3 _) 13 (atX13 cI cZ cR a _) rfl kw_X5_35 hy_X5_countAt ⟨rfl, rfl⟩ (by decide) rfl rfl (Nat.le_of_ble_eq_true rfl) rfl dX5_lookUp_17 (fun r1 => ?_)
      refine gx_istore_n (pc' := 21) hC [(2, .int r1.1), (0, .ref (a 13)), (1, .int x1), (3, .int x3)] rfl dX5_lookUp_20 (by decide) rfl ?_
      refine gx_iload_n (pc' := 22) hC rfl dX5_lookUp_21 rfl ?_
      refine gx_iconst (v := (2 : Int32)) (pc' := 23) hC rfl dX5_lookUp_22 (by decide) ?_
      refine gx_icmp_lt (pc' := 26) hC 41 rfl dX5_lookUp_23 (by decide) (fun h2 => ?_) (fun h2 => ?_)
      · refine gx_bipush (v := (-2 : Int32)) (pc' := 43) hC rfl dX5_lookUp_41 (by decide) ?_
        exact gx_iret hC dX5_lookUp_43
      · refine gx_iload_n (pc' := 27) hC rfl dX5_lookUp_26 rfl ?_
        refine gx_aload_n (pc' := 28) hC rfl dX5_lookUp_27 rfl ?_
        refine gx_get (pc' := 31) hC 13 (atX13 cI cZ cR a _) rfl inw_X5 0 (by decide) lk_X5_25 rfl rfl dX5_lookUp_28 ?_
        refine gx_getN (pc' := 34) hC 11 (atX11 cI cZ cR a _) rfl inw_X7 1 (by decide) lk_X5_29 rfl rfl dX5_lookUp_31 ?_
        refine gx_iload_n (pc' := 35) hC rfl dX5_lookUp_34 rfl ?_
        refine gx_isub (pc' := 36) hC rfl dX5_lookUp_35 ?_
        refine gx_iconst (v := (2 : Int32)) (pc' := 37) hC rfl dX5_lookUp_36 (by decide) ?_
        refine gx_isub (pc' := 38) hC rfl dX5_lookUp_37 ?_
        refine gx_icmp_le (pc' := 41) hC 44 rfl dX5_lookUp_38 (by decide) (fun h3 => ?_) (fun h3 => ?_)
        · refine gx_aload_n (pc' := 45) hC rfl dX5_lookUp_44 rfl ?_
          refine gx_aload_n (pc' := 46) hC rfl dX5_lookUp_45 rfl ?_
          refine gx_get (pc' := 49) hC 13 (atX13 cI cZ cR a _) rfl inw_X5 0 (by decide) lk_X5_25 rfl rfl dX5_lookUp_46 ?_
          refine gx_iload_n (pc' := 50) hC rfl dX5_lookUp_49 rfl ?_
          refine gx_iconst (v := (2 : Int32)) (pc' := 51) hC rfl dX5_lookUp_50 (by decide) ?_
          refine gx_iadd (pc' := 52) hC rfl dX5_lookUp_51 ?_
          refine gx_callVI (pc' := 55) hC (c_X7_byteAt cI cZ cR a (x3 + (2 : Int32)) _) 11 (atX11 cI cZ cR a _) rfl kw_X5_39 hy_X7_byteAt ⟨rfl, rfl⟩ (by decide) rfl rfl (Nat.le_of_ble_eq_true rfl) rfl dX5_lookUp_52 (fun r2 => ?_)
          refine gx_put (pc' := 58) hC tyX5_ok nmX5 13 (atX13 cI cZ cR a _) rfl inw_X5 5 (by decide) lk_X5_42 rfl rfl rfl (Nat.le_of_ble_eq_true rfl) (st r2.2 20 8 r2.1) (ptX13_5 cI cZ cR a _ _) rfl dX5_lookUp_55 ?_
          refine gx_aload_n (pc' := 59) hC rfl dX5_lookUp_58 rfl ?_
          refine gx_aload_n (pc' := 60) hC rfl dX5_lookUp_59 rfl ?_
          refine gx_get (pc' := 63) hC 13 (atX13 cI cZ cR a _) rfl inw_X5 5 (by decide) lk_X5_42 rfl rfl dX5_lookUp_60 ?_
          refine gx_aload_n (pc' := 64) hC rfl dX5_lookUp_63 rfl ?_
          refine gx_get (pc' := 67) hC 13 (atX13 cI cZ cR a _) rfl inw_X5 0 (by decide) lk_X5_25 rfl rfl dX5_lookUp_64 ?_
          refine gx_iload_n (pc' := 68) hC rfl dX5_lookUp_67 rfl ?_
          refine gx_iconst (v := (3 : Int32)) (pc' := 69) hC rfl dX5_lookUp_68 (by decide) ?_
          refine gx_iadd (pc' := 70) hC rfl dX5_lookUp_69 ?_
          refine gx_callVI (pc' := 73) hC (c_X7_byteAt cI cZ cR a (x3 + (3 : Int32)) _) 11 (atX11 cI cZ cR a _) rfl kw_X5_39 hy_X7_byteAt ⟨rfl, rfl⟩ (by decide) rfl rfl (Nat.le_of_ble_eq_true rfl) rfl dX5_lookUp_70 (fun r3 => ?_)
          refine gx_iadd (pc' := 74) hC rfl dX5_lookUp_73 ?_
          refine gx_put (pc' := 77) hC tyX5_ok nmX5 13 (atX13 cI cZ cR a _) rfl inw_X5 6 (by decide) lk_X5_45 rfl rfl rfl (Nat.le_of_ble_eq_true rfl) (st r3.2 20 9 (((st r2.2 20 8 r2.1) 20 8) + r3.1)) (ptX13_6 cI cZ cR a _ _) rfl dX5_lookUp_74 ?_
          refine gx_iload_n (pc' := 78) hC rfl dX5_lookUp_77 rfl ?_
          refine gx_aload_n (pc' := 79) hC rfl dX5_lookUp_78 rfl ?_
          refine gx_get (pc' := 82) hC 13 (atX13 cI cZ cR a _) rfl inw_X5 5 (by decide) lk_X5_42 rfl rfl dX5_lookUp_79 ?_
          refine gx_icmp_lt (pc' := 85) hC 116 rfl dX5_lookUp_82 (by decide) (fun h4 => ?_) (fun h4 => ?_)
          · refine gx_iload_n (pc' := 117) hC rfl dX5_lookUp_116 rfl ?_
            refine gx_iconst (v := (2 : Int32)) (pc' := 118) hC rfl dX5_lookUp_117 (by decide) ?_
            refine gx_iload_n (pc' := 119) hC rfl dX5_lookUp_118 rfl ?_
            refine gx_iadd (pc' := 120) hC rfl dX5_lookUp_119 ?_
            refine gx_iadd (pc' := 121) hC rfl dX5_lookUp_120 ?_
            refine gx_istore_n (pc' := 122) hC [(3, .int (x3 + ((2 : Int32) + r1.1))), (2, .int r1.1), (0, .ref (a 13)), (1, .int x1)] rfl dX5_lookUp_121 (by decide) rfl ?_
            refine gx_goto hC 4 dX5_lookUp_122 (by decide) ?_
            exact gx_sub [(0, .ref (a 13)), (1, .int x1), (3, .int (x3 + ((2 : Int32) + r1.1)))] [2, 3, 0] rfl (ih x1 (x3 + ((2 : Int32) + r1.1)) (st r3.2 20 9 (((st r2.2 20 8 r2.1) 20 8) + r3.1)))
          · refine gx_iload_n (pc' := 86) hC rfl dX5_lookUp_85 rfl ?_
            refine gx_aload_n (pc' := 87) hC rfl dX5_lookUp_86 rfl ?_
            refine gx_get (pc' := 90) hC 13 (atX13 cI cZ cR a _) rfl inw_X5 6 (by decide) lk_X5_45 rfl rfl dX5_lookUp_87 ?_
            refine gx_icmp_ge (pc' := 93) hC 116 rfl dX5_lookUp_90 (by decide) (fun h5 => ?_) (fun h5 => ?_)
            · refine gx_iload_n (pc' := 117) hC rfl dX5_lookUp_116 rfl ?_
              refine gx_iconst (v := (2 : Int32)) (pc' := 118) hC rfl dX5_lookUp_117 (by decide) ?_
              refine gx_iload_n (pc' := 119) hC rfl dX5_lookUp_118 rfl ?_
              refine gx_iadd (pc' := 120) hC rfl dX5_lookUp_119 ?_
              refine gx_iadd (pc' := 121) hC rfl dX5_lookUp_120 ?_
              refine gx_istore_n (pc' := 122) hC [(3, .int (x3 + ((2 : Int32) + r1.1))), (2, .int r1.1), (0, .ref (a 13)), (1, .int x1)] rfl dX5_lookUp_121 (by decide) rfl ?_
              refine gx_goto hC 4 dX5_lookUp_122 (by decide) ?_
              exact gx_sub [(0, .ref (a 13)), (1, .int x1), (3, .int (x3 + ((2 : Int32) + r1.1)))] [2, 3, 0] rfl (ih x1 (x3 + ((2 : Int32) + r1.1)) (st r3.2 20 9 (((st r2.2 20 8 r2.1) 20 8) + r3.1)))
            · refine gx_aload_n (pc' := 94) hC rfl dX5_lookUp_93 rfl ?_
              refine gx_iload_n (pc' := 95) hC rfl dX5_lookUp_94 rfl ?_
              refine gx_iconst (v := (4 : Int32)) (pc' := 96) hC rfl dX5_lookUp_95 (by decide) ?_
              refine gx_iadd (pc' := 97) hC rfl dX5_lookUp_96 ?_
              refine gx_iload_n (pc' := 98) hC rfl dX5_lookUp_97 rfl ?_
              refine gx_iconst (v := (2 : Int32)) (pc' := 99) hC rfl dX5_lookUp_98 (by decide) ?_
              refine gx_iadd (pc' := 100) hC rfl dX5_lookUp_99 ?_
              refine gx_iload_n (pc' := 101) hC rfl dX5_lookUp_100 rfl ?_
              refine gx_iadd (pc' := 102) hC rfl dX5_lookUp_101 ?_
              refine gx_iload_n (pc' := 103) hC rfl dX5_lookUp_102 rfl ?_
              refine gx_callVI (pc' := 106) hC (c_X5_readProgram cI cZ cR a (x3 + (4 : Int32)) ((x3 + (2 : Int32)) + r1.1) x1 _) 13 (atX13 cI cZ cR a _) rfl kw_X5_48 hy_X5_readProgram ⟨rfl, rfl⟩ (by decide) rfl rfl (Nat.le_of_ble_eq_true rfl) rfl dX5_lookUp_103 (fun r4 => ?_)
              refine gx_if_eq (pc' := 109) hC 113 rfl dX5_lookUp_106 (by decide) (fun h6 => ?_) (fun h6 => ?_)
              · refine gx_bipush (v := (-2 : Int32)) (pc' := 115) hC rfl dX5_lookUp_113 (by decide) ?_
                exact gx_iret hC dX5_lookUp_115
              · refine gx_iconst (v := (0 : Int32)) (pc' := 110) hC rfl dX5_lookUp_109 (by decide) ?_
                refine gx_goto hC 115 dX5_lookUp_110 (by decide) ?_
                exact gx_iret hC dX5_lookUp_115
        · refine gx_bipush (v := (-2 : Int32)) (pc' := 43) hC rfl dX5_lookUp_41 (by decide) ?_
          exact gx_iret hC dX5_lookUp_43
set_option maxHeartbeats 4000000 in
set_option maxRecDepth 100000 in
theorem c_X5_lookUp {l : Launch} {D : va_G} {tZ : Nat} (cI cZ cR : ClassId) (a : Nat → Nat) (x1 : Int32) (S : St) : MI l D (tyl cI cZ cR) tZ (wX cI cZ cR a) yX5_lookUp cX5_lookUp 4 (some .int) rm_X5_lookUp [.ref (a 13), .int x1] S (m_X5_lookUp x1 S) := by
  refine gx_metI (by decide) (Nat.le_of_ble_eq_true rfl) ?_
  intro p e s m below meth c A hC
  refine gx_sub [(0, .ref (a 13)), (1, .int x1)] [0, 1] rfl ?_
  rw [m_X5_lookUp]
  refine gx_iconst (v := (2 : Int32)) (pc' := 1) hC rfl dX5_lookUp_0 (by decide) ?_
  refine gx_istore_n (pc' := 2) hC [(2, .int (2 : Int32)), (0, .ref (a 13)), (1, .int x1)] rfl dX5_lookUp_1 (by decide) rfl ?_
  refine gx_iconst (v := (0 : Int32)) (pc' := 3) hC rfl dX5_lookUp_2 (by decide) ?_
  refine gx_istore_n (pc' := 4) hC [(3, .int (0 : Int32)), (2, .int (2 : Int32)), (0, .ref (a 13)), (1, .int x1)] rfl dX5_lookUp_3 (by decide) rfl ?_
  exact gx_sub [(0, .ref (a 13)), (1, .int x1), (3, .int (0 : Int32))] [2, 3, 0] rfl (g_X5_lookUp_L4 hC 10000 x1 (0 : Int32) S)
set_option maxHeartbeats 4000000 in
set_option maxRecDepth 100000 in
theorem c_X2_isWord {l : Launch} {D : va_G} {tZ : Nat} (cI cZ cR : ClassId) (a : Nat → Nat) (x1 : Int32) (S : St) : MI l D (tyl cI cZ cR) tZ (wX cI cZ cR a) yX2_isWord cX2_isWord 2 (some .boolean) rm_X2_isWord [.ref (a 15), .int x1] S (m_X2_isWord x1 S) := by
  refine gx_metI (by decide) (Nat.le_of_ble_eq_true rfl) ?_
  intro p e s m below meth c A hC
  refine gx_sub [(0, .ref (a 15)), (1, .int x1)] [0, 1] rfl ?_
  rw [m_X2_isWord]
  refine gx_iload_n (pc' := 1) hC rfl dX2_isWord_0 rfl ?_
  refine gx_if_lt (pc' := 4) hC 14 rfl dX2_isWord_1 (by decide) (fun h1 => ?_) (fun h1 => ?_)
  · refine gx_iconst (v := (0 : Int32)) (pc' := 15) hC rfl dX2_isWord_14 (by decide) ?_
    exact gx_zret hC dX2_isWord_15
  · refine gx_iload_n (pc' := 5) hC rfl dX2_isWord_4 rfl ?_
    refine gx_bipush (v := (40 : Int32)) (pc' := 7) hC rfl dX2_isWord_5 (by decide) ?_
    refine gx_icmp_ge (pc' := 10) hC 14 rfl dX2_isWord_7 (by decide) (fun h2 => ?_) (fun h2 => ?_)
    · refine gx_iconst (v := (0 : Int32)) (pc' := 15) hC rfl dX2_isWord_14 (by decide) ?_
      exact gx_zret hC dX2_isWord_15
    · refine gx_iconst (v := (1 : Int32)) (pc' := 11) hC rfl dX2_isWord_10 (by decide) ?_
      refine gx_goto hC 15 dX2_isWord_11 (by decide) ?_
      exact gx_zret hC dX2_isWord_15
set_option maxHeartbeats 4000000 in
set_option maxRecDepth 100000 in
theorem c_X2_wordAt {l : Launch} {D : va_G} {tZ : Nat} (cI cZ cR : ClassId) (a : Nat → Nat) (x1 : Int32) (S : St) : MI l D (tyl cI cZ cR) tZ (wX cI cZ cR a) yX2_wordAt cX2_wordAt 2 (some .int) rm_X2_wordAt [.ref (a 15), .int x1] S (m_X2_wordAt x1 S) := by
  refine gx_metI (by decide) (Nat.le_of_ble_eq_true rfl) ?_
  intro p e s m below meth c A hC
  refine gx_sub [(0, .ref (a 15)), (1, .int x1)] [0, 1] rfl ?_
  rw [m_X2_wordAt]
  refine gx_aload_n (pc' := 1) hC rfl dX2_wordAt_0 rfl ?_
  refine gx_iload_n (pc' := 2) hC rfl dX2_wordAt_1 rfl ?_
  refine gx_callVI (pc' := 5) hC (c_X2_isWord cI cZ cR a x1 _) 15 (atX15 cI cZ cR a _) rfl kw_X2_92 hy_X2_isWord ⟨rfl, rfl⟩ (by decide) rfl rfl (Nat.le_of_ble_eq_true rfl) rfl dX2_wordAt_2 (fun r1 => ?_)
  refine gx_if_eq (pc' := 8) hC 17 rfl dX2_wordAt_5 (by decide) (fun h1 => ?_) (fun h1 => ?_)
  · refine gx_iconst (v := (0 : Int32)) (pc' := 18) hC rfl dX2_wordAt_17 (by decide) ?_
    exact gx_iret hC dX2_wordAt_18
  · refine gx_aload_n (pc' := 9) hC rfl dX2_wordAt_8 rfl ?_
    refine gx_get (pc' := 12) hC 15 (atX15 cI cZ cR a _) rfl inw_X2 1 (by decide) lk_X2_9 rfl rfl dX2_wordAt_9 ?_
    refine gx_iload_n (pc' := 13) hC rfl dX2_wordAt_12 rfl ?_
    refine gx_iald (pc' := 14) hC 16 0 (atX16 cI cZ cR a _) rfl rfl dX2_wordAt_13 ?_
    refine gx_goto hC 18 dX2_wordAt_14 (by decide) ?_
    exact gx_iret hC dX2_wordAt_18
