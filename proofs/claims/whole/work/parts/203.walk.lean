set_option maxHeartbeats 4000000 in
set_option maxRecDepth 100000 in
theorem g_X2_start_L15 {p : Program} {l : Launch} {e : Env} {s : State} {m : MethodId} {args : Array Value} {below : List Frame} {meth : Method} {c : Code} {D : va_G} {cI cZ cR : ClassId} {a : Nat → Nat} {tZ : Nat} {A : Nat → Prop} (hC : CX p s m args meth c cX2_start 6 (some .boolean) yX2_start.cls D (tyl cI cZ cR) tZ A) : ∀ (n : Nat) (x1 : Int32) (x2 : Int32) (x3 : Int32) (x4 : Int32) (x5 : Int32) (S : St), GX p l e rm_X2_start s m args below meth c 6 D A (wX cI cZ cR a) (KI below D (tyl cI cZ cR) (wX cI cZ cR a) A args s) 15 [(0, .ref (a 15)), (1, .int x1), (2, .int x2), (3, .int x3), (4, .int x4), (5, .int x5)] [] S (m_X2_start_L15 n x1 x2 x3 x4 x5 S) := by
  intro n
  induction n with
  | zero => intro x1 x2 x3 x4 x5 S; exact gx_none
  | succ n ih =>
    intro x1 x2 x3 x4 x5 S
    rw [m_X2_start_L15]
    refine gx_iload (pc' := 17) hC rfl dX2_start_15 rfl ?_
    refine gx_bipush (v := (40 : Int32)) (pc' := 19) hC rfl dX2_start_17 (by decide) ?_
    refine gx_icmp_ge (pc' := 22) hC 36 rfl dX2_start_19 (by decide) (fun h2 => ?_) (fun h2 => ?_)
    · refine gx_aload_n (pc' := 37) hC rfl dX2_start_36 rfl ?_
      refine gx_bipush (v := (39 : Int32)) (pc' := 39) hC rfl dX2_start_37 (by decide) ?_
      refine gx_put (pc' := 42) hC tyX2_ok nmX2 15 (atX15 cI cZ cR a _) rfl inw_X2 7 (by decide) lk_X2_31 rfl rfl rfl (Nat.le_of_ble_eq_true rfl) (st S 20 13 (39 : Int32)) (ptX15_7 cI cZ cR a _ _) rfl dX2_start_39 ?_
      refine gx_aload_n (pc' := 43) hC rfl dX2_start_42 rfl ?_
      refine gx_get (pc' := 46) hC 15 (atX15 cI cZ cR a _) rfl inw_X2 1 (by decide) lk_X2_9 rfl rfl dX2_start_43 ?_
      refine gx_aload_n (pc' := 47) hC rfl dX2_start_46 rfl ?_
      refine gx_get (pc' := 50) hC 15 (atX15 cI cZ cR a _) rfl inw_X2 7 (by decide) lk_X2_31 rfl rfl dX2_start_47 ?_
      refine gx_sipush (v := (255 : Int32)) (pc' := 53) hC rfl dX2_start_50 (by decide) ?_
      refine gx_iast (pc' := 54) hC 16 0 (atX16 cI cZ cR a _) rfl (st (st S 20 13 (39 : Int32)) 8 ((st S 20 13 (39 : Int32)) 20 13).toNatClampNeg (255 : Int32)) (stX16 cI cZ cR a _ _ _) rfl dX2_start_53 ?_
      refine gx_aload_n (pc' := 55) hC rfl dX2_start_54 rfl ?_
      refine gx_get (pc' := 58) hC 15 (atX15 cI cZ cR a _) rfl inw_X2 2 (by decide) lk_X2_15 rfl rfl dX2_start_55 ?_
      refine gx_iconst (v := (0 : Int32)) (pc' := 59) hC rfl dX2_start_58 (by decide) ?_
      refine gx_iload_n (pc' := 60) hC rfl dX2_start_59 rfl ?_
      refine gx_iast (pc' := 61) hC 17 0 (atX17 cI cZ cR a _) rfl (st (st (st S 20 13 (39 : Int32)) 8 ((st S 20 13 (39 : Int32)) 20 13).toNatClampNeg (255 : Int32)) 9 (0 : Int32).toNatClampNeg x1) (stX17 cI cZ cR a _ _ _) rfl dX2_start_60 ?_
      refine gx_aload_n (pc' := 62) hC rfl dX2_start_61 rfl ?_
      refine gx_get (pc' := 65) hC 15 (atX15 cI cZ cR a _) rfl inw_X2 2 (by decide) lk_X2_15 rfl rfl dX2_start_62 ?_
      refine gx_iconst (v := (1 : Int32)) (pc' := 66) hC rfl dX2_start_65 (by decide) ?_
      refine gx_iload_n (pc' := 67) hC rfl dX2_start_66 rfl ?_
      refine gx_iast (pc' := 68) hC 17 0 (atX17 cI cZ cR a _) rfl (st (st (st (st S 20 13 (39 : Int32)) 8 ((st S 20 13 (39 : Int32)) 20 13).toNatClampNeg (255 : Int32)) 9 (0 : Int32).toNatClampNeg x1) 9 (1 : Int32).toNatClampNeg x2) (stX17 cI cZ cR a _ _ _) rfl dX2_start_67 ?_
      refine gx_aload_n (pc' := 69) hC rfl dX2_start_68 rfl ?_
      refine gx_get (pc' := 72) hC 15 (atX15 cI cZ cR a _) rfl inw_X2 2 (by decide) lk_X2_15 rfl rfl dX2_start_69 ?_
      refine gx_iconst (v := (2 : Int32)) (pc' := 73) hC rfl dX2_start_72 (by decide) ?_
      refine gx_iload_n (pc' := 74) hC rfl dX2_start_73 rfl ?_
      refine gx_iast (pc' := 75) hC 17 0 (atX17 cI cZ cR a _) rfl (st (st (st (st (st S 20 13 (39 : Int32)) 8 ((st S 20 13 (39 : Int32)) 20 13).toNatClampNeg (255 : Int32)) 9 (0 : Int32).toNatClampNeg x1) 9 (1 : Int32).toNatClampNeg x2) 9 (2 : Int32).toNatClampNeg x3) (stX17 cI cZ cR a _ _ _) rfl dX2_start_74 ?_
      refine gx_aload_n (pc' := 76) hC rfl dX2_start_75 rfl ?_
      refine gx_iload (pc' := 78) hC rfl dX2_start_76 rfl ?_
      refine gx_put (pc' := 81) hC tyX2_ok nmX2 15 (atX15 cI cZ cR a _) rfl inw_X2 8 (by decide) lk_X2_34 rfl rfl rfl (Nat.le_of_ble_eq_true rfl) (st (st (st (st (st (st S 20 13 (39 : Int32)) 8 ((st S 20 13 (39 : Int32)) 20 13).toNatClampNeg (255 : Int32)) 9 (0 : Int32).toNatClampNeg x1) 9 (1 : Int32).toNatClampNeg x2) 9 (2 : Int32).toNatClampNeg x3) 20 14 x4) (ptX15_8 cI cZ cR a _ _) rfl dX2_start_78 ?_
      refine gx_aload_n (pc' := 82) hC rfl dX2_start_81 rfl ?_
      refine gx_get (pc' := 85) hC 15 (atX15 cI cZ cR a _) rfl inw_X2 3 (by decide) lk_X2_18 rfl rfl dX2_start_82 ?_
      refine gx_iconst (v := (0 : Int32)) (pc' := 86) hC rfl dX2_start_85 (by decide) ?_
      refine gx_sipush (v := (255 : Int32)) (pc' := 89) hC rfl dX2_start_86 (by decide) ?_
      refine gx_iast (pc' := 90) hC 18 0 (atX18 cI cZ cR a _) rfl (st (st (st (st (st (st (st S 20 13 (39 : Int32)) 8 ((st S 20 13 (39 : Int32)) 20 13).toNatClampNeg (255 : Int32)) 9 (0 : Int32).toNatClampNeg x1) 9 (1 : Int32).toNatClampNeg x2) 9 (2 : Int32).toNatClampNeg x3) 20 14 x4) 10 (0 : Int32).toNatClampNeg (255 : Int32)) (stX18 cI cZ cR a _ _ _) rfl dX2_start_89 ?_
      refine gx_aload_n (pc' := 91) hC rfl dX2_start_90 rfl ?_
      refine gx_iconst (v := (1 : Int32)) (pc' := 92) hC rfl dX2_start_91 (by decide) ?_
      refine gx_put (pc' := 95) hC tyX2_ok nmX2 15 (atX15 cI cZ cR a _) rfl inw_X2 9 (by decide) lk_X2_37 rfl rfl rfl (Nat.le_of_ble_eq_true rfl) (st (st (st (st (st (st (st (st S 20 13 (39 : Int32)) 8 ((st S 20 13 (39 : Int32)) 20 13).toNatClampNeg (255 : Int32)) 9 (0 : Int32).toNatClampNeg x1) 9 (1 : Int32).toNatClampNeg x2) 9 (2 : Int32).toNatClampNeg x3) 20 14 x4) 10 (0 : Int32).toNatClampNeg (255 : Int32)) 20 15 (1 : Int32)) (ptX15_9 cI cZ cR a _ _) rfl dX2_start_92 ?_
      refine gx_aload_n (pc' := 96) hC rfl dX2_start_95 rfl ?_
      refine gx_aload_n (pc' := 97) hC rfl dX2_start_96 rfl ?_
      refine gx_get (pc' := 100) hC 15 (atX15 cI cZ cR a _) rfl inw_X2 0 (by decide) lk_X2_21 rfl rfl dX2_start_97 ?_
      refine gx_getN (pc' := 103) hC 1 (atX1 cI cZ cR a _) rfl inw_X4 1 (by decide) lk_X2_40 rfl rfl dX2_start_100 ?_
      refine gx_iconst (v := (0 : Int32)) (pc' := 104) hC rfl dX2_start_103 (by decide) ?_
      refine gx_iald (pc' := 105) hC 3 0 (atX3 cI cZ cR a _) rfl rfl dX2_start_104 ?_
      refine gx_put (pc' := 108) hC tyX2_ok nmX2 15 (atX15 cI cZ cR a _) rfl inw_X2 6 (by decide) lk_X2_43 rfl rfl rfl (Nat.le_of_ble_eq_true rfl) (st (st (st (st (st (st (st (st (st S 20 13 (39 : Int32)) 8 ((st S 20 13 (39 : Int32)) 20 13).toNatClampNeg (255 : Int32)) 9 (0 : Int32).toNatClampNeg x1) 9 (1 : Int32).toNatClampNeg x2) 9 (2 : Int32).toNatClampNeg x3) 20 14 x4) 10 (0 : Int32).toNatClampNeg (255 : Int32)) 20 15 (1 : Int32)) 20 12 ((st (st (st (st (st (st (st (st S 20 13 (39 : Int32)) 8 ((st S 20 13 (39 : Int32)) 20 13).toNatClampNeg (255 : Int32)) 9 (0 : Int32).toNatClampNeg x1) 9 (1 : Int32).toNatClampNeg x2) 9 (2 : Int32).toNatClampNeg x3) 20 14 x4) 10 (0 : Int32).toNatClampNeg (255 : Int32)) 20 15 (1 : Int32)) 1 (0 : Int32).toNatClampNeg)) (ptX15_6 cI cZ cR a _ _) rfl dX2_start_105 ?_
      refine gx_aload_n (pc' := 109) hC rfl dX2_start_108 rfl ?_
      refine gx_iconst (v := (1 : Int32)) (pc' := 110) hC rfl dX2_start_109 (by decide) ?_
      refine gx_put (pc' := 113) hC tyX2_ok nmX2 15 (atX15 cI cZ cR a _) rfl inw_X2 4 (by decide) lk_X2_46 rfl rfl rfl (Nat.le_of_ble_eq_true rfl) (st (st (st (st (st (st (st (st (st (st S 20 13 (39 : Int32)) 8 ((st S 20 13 (39 : Int32)) 20 13).toNatClampNeg (255 : Int32)) 9 (0 : Int32).toNatClampNeg x1) 9 (1 : Int32).toNatClampNeg x2) 9 (2 : Int32).toNatClampNeg x3) 20 14 x4) 10 (0 : Int32).toNatClampNeg (255 : Int32)) 20 15 (1 : Int32)) 20 12 ((st (st (st (st (st (st (st (st S 20 13 (39 : Int32)) 8 ((st S 20 13 (39 : Int32)) 20 13).toNatClampNeg (255 : Int32)) 9 (0 : Int32).toNatClampNeg x1) 9 (1 : Int32).toNatClampNeg x2) 9 (2 : Int32).toNatClampNeg x3) 20 14 x4) 10 (0 : Int32).toNatClampNeg (255 : Int32)) 20 15 (1 : Int32)) 1 (0 : Int32).toNatClampNeg)) 20 10 (1 : Int32)) (ptX15_4 cI cZ cR a _ _) rfl dX2_start_110 ?_
      refine gx_aload_n (pc' := 114) hC rfl dX2_start_113 rfl ?_
      refine gx_iconst (v := (1 : Int32)) (pc' := 115) hC rfl dX2_start_114 (by decide) ?_
      refine gx_put (pc' := 118) hC tyX2_ok nmX2 15 (atX15 cI cZ cR a _) rfl inw_X2 5 (by decide) lk_X2_50 rfl rfl rfl (Nat.le_of_ble_eq_true rfl) (st (st (st (st (st (st (st (st (st (st (st S 20 13 (39 : Int32)) 8 ((st S 20 13 (39 : Int32)) 20 13).toNatClampNeg (255 : Int32)) 9 (0 : Int32).toNatClampNeg x1) 9 (1 : Int32).toNatClampNeg x2) 9 (2 : Int32).toNatClampNeg x3) 20 14 x4) 10 (0 : Int32).toNatClampNeg (255 : Int32)) 20 15 (1 : Int32)) 20 12 ((st (st (st (st (st (st (st (st S 20 13 (39 : Int32)) 8 ((st S 20 13 (39 : Int32)) 20 13).toNatClampNeg (255 : Int32)) 9 (0 : Int32).toNatClampNeg x1) 9 (1 : Int32).toNatClampNeg x2) 9 (2 : Int32).toNatClampNeg x3) 20 14 x4) 10 (0 : Int32).toNatClampNeg (255 : Int32)) 20 15 (1 : Int32)) 1 (0 : Int32).toNatClampNeg)) 20 10 (1 : Int32)) 20 11 (1 : Int32)) (ptX15_5 cI cZ cR a _ _) rfl dX2_start_115 ?_
      refine gx_iconst (v := (1 : Int32)) (pc' := 119) hC rfl dX2_start_118 (by decide) ?_
      exact gx_zret hC dX2_start_119
    · refine gx_aload_n (pc' := 23) hC rfl dX2_start_22 rfl ?_
      refine gx_get (pc' := 26) hC 15 (atX15 cI cZ cR a _) rfl inw_X2 1 (by decide) lk_X2_9 rfl rfl dX2_start_23 ?_
      refine gx_iload (pc' := 28) hC rfl dX2_start_26 rfl ?_
      refine gx_iconst (v := (0 : Int32)) (pc' := 29) hC rfl dX2_start_28 (by decide) ?_
      refine gx_iast (pc' := 30) hC 16 0 (atX16 cI cZ cR a _) rfl (st S 8 x5.toNatClampNeg (0 : Int32)) (stX16 cI cZ cR a _ _ _) rfl dX2_start_29 ?_
      refine gx_iinc (v := (x5 + (1 : Int32))) (pc' := 33) hC [(5, .int (x5 + (1 : Int32))), (0, .ref (a 15)), (1, .int x1), (2, .int x2), (3, .int x3), (4, .int x4)] rfl dX2_start_30 rfl rfl (by decide) rfl ?_
      refine gx_goto hC 15 dX2_start_33 (by decide) ?_
      exact gx_sub [(0, .ref (a 15)), (1, .int x1), (2, .int x2), (3, .int x3), (4, .int x4), (5, .int (x5 + (1 : Int32)))] [1, 2, 3, 4, 5, 0] rfl (ih x1 x2 x3 x4 (x5 + (1 : Int32)) (st S 8 x5.toNatClampNeg (0 : Int32)))
set_option maxHeartbeats 4000000 in
set_option maxRecDepth 100000 in
theorem c_X2_start {l : Launch} {D : va_G} {tZ : Nat} (cI cZ cR : ClassId) (a : Nat → Nat) (x1 : Int32) (x2 : Int32) (x3 : Int32) (x4 : Int32) (S : St) : MI l D (tyl cI cZ cR) tZ (wX cI cZ cR a) yX2_start cX2_start 6 (some .boolean) rm_X2_start [.ref (a 15), .int x1, .int x2, .int x3, .int x4] S (m_X2_start x1 x2 x3 x4 S) := by
  refine gx_metI (by decide) (Nat.le_of_ble_eq_true rfl) ?_
  intro p e s m below meth c A hC
  refine gx_sub [(0, .ref (a 15)), (1, .int x1), (2, .int x2), (3, .int x3), (4, .int x4)] [0, 1, 2, 3, 4] rfl ?_
  rw [m_X2_start]
  refine gx_aload_n (pc' := 1) hC rfl dX2_start_0 rfl ?_
  refine gx_get (pc' := 4) hC 15 (atX15 cI cZ cR a _) rfl inw_X2 0 (by decide) lk_X2_21 rfl rfl dX2_start_1 ?_
  refine gx_getN (pc' := 7) hC 1 (atX1 cI cZ cR a _) rfl inw_X4 4 (by decide) lk_X2_25 rfl rfl dX2_start_4 ?_
  refine gx_if_ne (pc' := 10) hC 12 rfl dX2_start_7 (by decide) (fun h1 => ?_) (fun h1 => ?_)
  · refine gx_iconst (v := (0 : Int32)) (pc' := 11) hC rfl dX2_start_10 (by decide) ?_
    exact gx_zret hC dX2_start_11
  · refine gx_iconst (v := (0 : Int32)) (pc' := 13) hC rfl dX2_start_12 (by decide) ?_
    refine gx_istore (pc' := 15) hC [(5, .int (0 : Int32)), (0, .ref (a 15)), (1, .int x1), (2, .int x2), (3, .int x3), (4, .int x4)] rfl dX2_start_13 (by decide) rfl ?_
    exact gx_sub [(0, .ref (a 15)), (1, .int x1), (2, .int x2), (3, .int x3), (4, .int x4), (5, .int (0 : Int32))] [1, 2, 3, 4, 5, 0] rfl (g_X2_start_L15 hC 10000 x1 x2 x3 x4 (0 : Int32) S)
set_option maxHeartbeats 4000000 in
set_option maxRecDepth 100000 in
theorem c_X2_end {l : Launch} {D : va_G} {tZ : Nat} (cI cZ cR : ClassId) (a : Nat → Nat)  (S : St) : MV l D (tyl cI cZ cR) tZ (wX cI cZ cR a) yX2_end cX2_end 1 none rm_X2_end [.ref (a 15)] S (m_X2_end  S) := by
  refine gx_metV (by decide) (Nat.le_of_ble_eq_true rfl) ?_
  intro p e s m below meth c A hC
  refine gx_sub [(0, .ref (a 15))] [0] rfl ?_
  rw [m_X2_end]
  refine gx_aload_n (pc' := 1) hC rfl dX2_end_0 rfl ?_
  refine gx_iconst (v := (0 : Int32)) (pc' := 2) hC rfl dX2_end_1 (by decide) ?_
  refine gx_put (pc' := 5) hC tyX2_ok nmX2 15 (atX15 cI cZ cR a _) rfl inw_X2 5 (by decide) lk_X2_50 rfl rfl rfl (Nat.le_of_ble_eq_true rfl) (st S 20 11 (0 : Int32)) (ptX15_5 cI cZ cR a _ _) rfl dX2_end_2 ?_
  refine gx_aload_n (pc' := 6) hC rfl dX2_end_5 rfl ?_
  refine gx_sipush (v := (255 : Int32)) (pc' := 9) hC rfl dX2_end_6 (by decide) ?_
  refine gx_put (pc' := 12) hC tyX2_ok nmX2 15 (atX15 cI cZ cR a _) rfl inw_X2 6 (by decide) lk_X2_43 rfl rfl rfl (Nat.le_of_ble_eq_true rfl) (st (st S 20 11 (0 : Int32)) 20 12 (255 : Int32)) (ptX15_6 cI cZ cR a _ _) rfl dX2_end_9 ?_
  exact gx_vret hC dX2_end_12
set_option maxHeartbeats 4000000 in
set_option maxRecDepth 100000 in
theorem c_X2_storeWord {l : Launch} {D : va_G} {tZ : Nat} (cI cZ cR : ClassId) (a : Nat → Nat) (x1 : Int32) (x2 : Int32) (S : St) : MI l D (tyl cI cZ cR) tZ (wX cI cZ cR a) yX2_storeWord cX2_storeWord 3 (some .boolean) rm_X2_storeWord [.ref (a 15), .int x1, .int x2] S (m_X2_storeWord x1 x2 S) := by
  refine gx_metI (by decide) (Nat.le_of_ble_eq_true rfl) ?_
  intro p e s m below meth c A hC
  refine gx_sub [(0, .ref (a 15)), (1, .int x1), (2, .int x2)] [0, 1, 2] rfl ?_
  rw [m_X2_storeWord]
  refine gx_aload_n (pc' := 1) hC rfl dX2_storeWord_0 rfl ?_
  refine gx_iload_n (pc' := 2) hC rfl dX2_storeWord_1 rfl ?_
  refine gx_callVI (pc' := 5) hC (c_X2_isWord cI cZ cR a x1 _) 15 (atX15 cI cZ cR a _) rfl kw_X2_92 hy_X2_isWord ⟨rfl, rfl⟩ (by decide) rfl rfl (Nat.le_of_ble_eq_true rfl) rfl dX2_storeWord_2 (fun r1 => ?_)
  refine gx_if_ne (pc' := 8) hC 10 rfl dX2_storeWord_5 (by decide) (fun h1 => ?_) (fun h1 => ?_)
  · refine gx_iconst (v := (0 : Int32)) (pc' := 9) hC rfl dX2_storeWord_8 (by decide) ?_
    exact gx_zret hC dX2_storeWord_9
  · refine gx_aload_n (pc' := 11) hC rfl dX2_storeWord_10 rfl ?_
    refine gx_get (pc' := 14) hC 15 (atX15 cI cZ cR a _) rfl inw_X2 1 (by decide) lk_X2_9 rfl rfl dX2_storeWord_11 ?_
    refine gx_iload_n (pc' := 15) hC rfl dX2_storeWord_14 rfl ?_
    refine gx_iload_n (pc' := 16) hC rfl dX2_storeWord_15 rfl ?_
    refine gx_iast (pc' := 17) hC 16 0 (atX16 cI cZ cR a _) rfl (st r1.2 8 x1.toNatClampNeg x2) (stX16 cI cZ cR a _ _ _) rfl dX2_storeWord_16 ?_
    refine gx_iconst (v := (1 : Int32)) (pc' := 18) hC rfl dX2_storeWord_17 (by decide) ?_
    exact gx_zret hC dX2_storeWord_18
set_option maxHeartbeats 4000000 in
set_option maxRecDepth 100000 in
theorem c_X2_setPointer {l : Launch} {D : va_G} {tZ : Nat} (cI cZ cR : ClassId) (a : Nat → Nat) (x1 : Int32) (S : St) : MI l D (tyl cI cZ cR) tZ (wX cI cZ cR a) yX2_setPointer cX2_setPointer 2 (some .boolean) rm_X2_setPointer [.ref (a 15), .int x1] S (m_X2_setPointer x1 S) := by
  refine gx_metI (by decide) (Nat.le_of_ble_eq_true rfl) ?_
  intro p e s m below meth c A hC
  refine gx_sub [(0, .ref (a 15)), (1, .int x1)] [0, 1] rfl ?_
  rw [m_X2_setPointer]
  refine gx_iload_n (pc' := 1) hC rfl dX2_setPointer_0 rfl ?_
  refine gx_if_lt (pc' := 4) hC 10 rfl dX2_setPointer_1 (by decide) (fun h1 => ?_) (fun h1 => ?_)
  · refine gx_iconst (v := (0 : Int32)) (pc' := 11) hC rfl dX2_setPointer_10 (by decide) ?_
    exact gx_zret hC dX2_setPointer_11
  · refine gx_iload_n (pc' := 5) hC rfl dX2_setPointer_4 rfl ?_
    refine gx_bipush (v := (40 : Int32)) (pc' := 7) hC rfl dX2_setPointer_5 (by decide) ?_
    refine gx_icmp_le (pc' := 10) hC 12 rfl dX2_setPointer_7 (by decide) (fun h2 => ?_) (fun h2 => ?_)
    · refine gx_aload_n (pc' := 13) hC rfl dX2_setPointer_12 rfl ?_
      refine gx_iload_n (pc' := 14) hC rfl dX2_setPointer_13 rfl ?_
      refine gx_put (pc' := 17) hC tyX2_ok nmX2 15 (atX15 cI cZ cR a _) rfl inw_X2 7 (by decide) lk_X2_31 rfl rfl rfl (Nat.le_of_ble_eq_true rfl) (st S 20 13 x1) (ptX15_7 cI cZ cR a _ _) rfl dX2_setPointer_14 ?_
      refine gx_iconst (v := (1 : Int32)) (pc' := 18) hC rfl dX2_setPointer_17 (by decide) ?_
      exact gx_zret hC dX2_setPointer_18
    · refine gx_iconst (v := (0 : Int32)) (pc' := 11) hC rfl dX2_setPointer_10 (by decide) ?_
      exact gx_zret hC dX2_setPointer_11
set_option maxHeartbeats 4000000 in
set_option maxRecDepth 100000 in
theorem c_X2_pushWord {l : Launch} {D : va_G} {tZ : Nat} (cI cZ cR : ClassId) (a : Nat → Nat) (x1 : Int32) (S : St) : MI l D (tyl cI cZ cR) tZ (wX cI cZ cR a) yX2_pushWord cX2_pushWord 2 (some .boolean) rm_X2_pushWord [.ref (a 15), .int x1] S (m_X2_pushWord x1 S) := by
  refine gx_metI (by decide) (Nat.le_of_ble_eq_true rfl) ?_
  intro p e s m below meth c A hC
  refine gx_sub [(0, .ref (a 15)), (1, .int x1)] [0, 1] rfl ?_
  rw [m_X2_pushWord]
  refine gx_aload_n (pc' := 1) hC rfl dX2_pushWord_0 rfl ?_
  refine gx_aload_n (pc' := 2) hC rfl dX2_pushWord_1 rfl ?_
  refine gx_get (pc' := 5) hC 15 (atX15 cI cZ cR a _) rfl inw_X2 7 (by decide) lk_X2_31 rfl rfl dX2_pushWord_2 ?_
  refine gx_iconst (v := (1 : Int32)) (pc' := 6) hC rfl dX2_pushWord_5 (by decide) ?_
  refine gx_isub (pc' := 7) hC rfl dX2_pushWord_6 ?_
  refine gx_iload_n (pc' := 8) hC rfl dX2_pushWord_7 rfl ?_
  refine gx_callVI (pc' := 11) hC (c_X2_storeWord cI cZ cR a ((S 20 13) - (1 : Int32)) x1 _) 15 (atX15 cI cZ cR a _) rfl kw_X2_89 hy_X2_storeWord ⟨rfl, rfl⟩ (by decide) rfl rfl (Nat.le_of_ble_eq_true rfl) rfl dX2_pushWord_8 (fun r1 => ?_)
  refine gx_if_eq (pc' := 14) hC 31 rfl dX2_pushWord_11 (by decide) (fun h1 => ?_) (fun h1 => ?_)
  · refine gx_iconst (v := (0 : Int32)) (pc' := 32) hC rfl dX2_pushWord_31 (by decide) ?_
    exact gx_zret hC dX2_pushWord_32
  · refine gx_aload_n (pc' := 15) hC rfl dX2_pushWord_14 rfl ?_
    refine gx_aload_n (pc' := 16) hC rfl dX2_pushWord_15 rfl ?_
    refine gx_get (pc' := 19) hC 15 (atX15 cI cZ cR a _) rfl inw_X2 7 (by decide) lk_X2_31 rfl rfl dX2_pushWord_16 ?_
    refine gx_iconst (v := (1 : Int32)) (pc' := 20) hC rfl dX2_pushWord_19 (by decide) ?_
    refine gx_isub (pc' := 21) hC rfl dX2_pushWord_20 ?_
    refine gx_callVI (pc' := 24) hC (c_X2_setPointer cI cZ cR a ((r1.2 20 13) - (1 : Int32)) _) 15 (atX15 cI cZ cR a _) rfl kw_X2_86 hy_X2_setPointer ⟨rfl, rfl⟩ (by decide) rfl rfl (Nat.le_of_ble_eq_true rfl) rfl dX2_pushWord_21 (fun r2 => ?_)
    refine gx_if_eq (pc' := 27) hC 31 rfl dX2_pushWord_24 (by decide) (fun h2 => ?_) (fun h2 => ?_)
    · refine gx_iconst (v := (0 : Int32)) (pc' := 32) hC rfl dX2_pushWord_31 (by decide) ?_
      exact gx_zret hC dX2_pushWord_32
    · refine gx_iconst (v := (1 : Int32)) (pc' := 28) hC rfl dX2_pushWord_27 (by decide) ?_
      refine gx_goto hC 32 dX2_pushWord_28 (by decide) ?_
      exact gx_zret hC dX2_pushWord_32
set_option maxHeartbeats 4000000 in
set_option maxRecDepth 100000 in
theorem c_X2_goTo {l : Launch} {D : va_G} {tZ : Nat} (cI cZ cR : ClassId) (a : Nat → Nat) (x1 : Int32) (S : St) : MI l D (tyl cI cZ cR) tZ (wX cI cZ cR a) yX2_goTo cX2_goTo 2 (some .boolean) rm_X2_goTo [.ref (a 15), .int x1] S (m_X2_goTo x1 S) := by
  refine gx_metI (by decide) (Nat.le_of_ble_eq_true rfl) ?_
  intro p e s m below meth c A hC
  refine gx_sub [(0, .ref (a 15)), (1, .int x1)] [0, 1] rfl ?_
  rw [m_X2_goTo]
  refine gx_aload_n (pc' := 1) hC rfl dX2_goTo_0 rfl ?_
  refine gx_iload_n (pc' := 2) hC rfl dX2_goTo_1 rfl ?_
  refine gx_put (pc' := 5) hC tyX2_ok nmX2 15 (atX15 cI cZ cR a _) rfl inw_X2 6 (by decide) lk_X2_43 rfl rfl rfl (Nat.le_of_ble_eq_true rfl) (st S 20 12 x1) (ptX15_6 cI cZ cR a _ _) rfl dX2_goTo_2 ?_
  refine gx_iconst (v := (1 : Int32)) (pc' := 6) hC rfl dX2_goTo_5 (by decide) ?_
  exact gx_zret hC dX2_goTo_6
set_option maxHeartbeats 4000000 in
set_option maxRecDepth 100000 in
theorem c_X2_callPlace {l : Launch} {D : va_G} {tZ : Nat} (cI cZ cR : ClassId) (a : Nat → Nat) (x1 : Int32) (x2 : Int32) (S : St) : MI l D (tyl cI cZ cR) tZ (wX cI cZ cR a) yX2_callPlace cX2_callPlace 3 (some .boolean) rm_X2_callPlace [.ref (a 15), .int x1, .int x2] S (m_X2_callPlace x1 x2 S) := by
  refine gx_metI (by decide) (Nat.le_of_ble_eq_true rfl) ?_
  intro p e s m below meth c A hC
  refine gx_sub [(0, .ref (a 15)), (1, .int x1), (2, .int x2)] [0, 1, 2] rfl ?_
  rw [m_X2_callPlace]
  refine gx_aload_n (pc' := 1) hC rfl dX2_callPlace_0 rfl ?_
  refine gx_get (pc' := 4) hC 15 (atX15 cI cZ cR a _) rfl inw_X2 9 (by decide) lk_X2_37 rfl rfl dX2_callPlace_1 ?_
  refine gx_bipush (v := (40 : Int32)) (pc' := 6) hC rfl dX2_callPlace_4 (by decide) ?_
  refine gx_icmp_ge (pc' := 9) hC 17 rfl dX2_callPlace_6 (by decide) (fun h1 => ?_) (fun h1 => ?_)
  · refine gx_iconst (v := (0 : Int32)) (pc' := 18) hC rfl dX2_callPlace_17 (by decide) ?_
    exact gx_zret hC dX2_callPlace_18
  · refine gx_aload_n (pc' := 10) hC rfl dX2_callPlace_9 rfl ?_
    refine gx_iload_n (pc' := 11) hC rfl dX2_callPlace_10 rfl ?_
    refine gx_callVI (pc' := 14) hC (c_X2_pushWord cI cZ cR a x2 _) 15 (atX15 cI cZ cR a _) rfl kw_X2_80 hy_X2_pushWord ⟨rfl, rfl⟩ (by decide) rfl rfl (Nat.le_of_ble_eq_true rfl) rfl dX2_callPlace_11 (fun r1 => ?_)
    refine gx_if_ne (pc' := 17) hC 19 rfl dX2_callPlace_14 (by decide) (fun h2 => ?_) (fun h2 => ?_)
    · refine gx_iconst (v := (0 : Int32)) (pc' := 18) hC rfl dX2_callPlace_17 (by decide) ?_
      exact gx_zret hC dX2_callPlace_18
    · refine gx_aload_n (pc' := 20) hC rfl dX2_callPlace_19 rfl ?_
      refine gx_get (pc' := 23) hC 15 (atX15 cI cZ cR a _) rfl inw_X2 3 (by decide) lk_X2_18 rfl rfl dX2_callPlace_20 ?_
      refine gx_aload_n (pc' := 24) hC rfl dX2_callPlace_23 rfl ?_
      refine gx_get (pc' := 27) hC 15 (atX15 cI cZ cR a _) rfl inw_X2 9 (by decide) lk_X2_37 rfl rfl dX2_callPlace_24 ?_
      refine gx_iload_n (pc' := 28) hC rfl dX2_callPlace_27 rfl ?_
      refine gx_iast (pc' := 29) hC 18 0 (atX18 cI cZ cR a _) rfl (st r1.2 10 (r1.2 20 15).toNatClampNeg x2) (stX18 cI cZ cR a _ _ _) rfl dX2_callPlace_28 ?_
      refine gx_aload_n (pc' := 30) hC rfl dX2_callPlace_29 rfl ?_
      refine gx_dup (pc' := 31) hC rfl dX2_callPlace_30 rfl ?_
      refine gx_get (pc' := 34) hC 15 (atX15 cI cZ cR a _) rfl inw_X2 9 (by decide) lk_X2_37 rfl rfl dX2_callPlace_31 ?_
      refine gx_iconst (v := (1 : Int32)) (pc' := 35) hC rfl dX2_callPlace_34 (by decide) ?_
      refine gx_iadd (pc' := 36) hC rfl dX2_callPlace_35 ?_
      refine gx_put (pc' := 39) hC tyX2_ok nmX2 15 (atX15 cI cZ cR a _) rfl inw_X2 9 (by decide) lk_X2_37 rfl rfl rfl (Nat.le_of_ble_eq_true rfl) (st (st r1.2 10 (r1.2 20 15).toNatClampNeg x2) 20 15 (((st r1.2 10 (r1.2 20 15).toNatClampNeg x2) 20 15) + (1 : Int32))) (ptX15_9 cI cZ cR a _ _) rfl dX2_callPlace_36 ?_
      refine gx_aload_n (pc' := 40) hC rfl dX2_callPlace_39 rfl ?_
      refine gx_iload_n (pc' := 41) hC rfl dX2_callPlace_40 rfl ?_
      refine gx_callVI (pc' := 44) hC (c_X2_goTo cI cZ cR a x1 _) 15 (atX15 cI cZ cR a _) rfl kw_X2_72 hy_X2_goTo ⟨rfl, rfl⟩ (by decide) rfl rfl (Nat.le_of_ble_eq_true rfl) rfl dX2_callPlace_41 (fun r2 => ?_)
      exact gx_zret hC dX2_callPlace_44
set_option maxHeartbeats 4000000 in
set_option maxRecDepth 100000 in
theorem c_X2_returnToCaller {l : Launch} {D : va_G} {tZ : Nat} (cI cZ cR : ClassId) (a : Nat → Nat)  (S : St) : MI l D (tyl cI cZ cR) tZ (wX cI cZ cR a) yX2_returnToCaller cX2_returnToCaller 1 (some .boolean) rm_X2_returnToCaller [.ref (a 15)] S (m_X2_returnToCaller  S) := by
  refine gx_metI (by decide) (Nat.le_of_ble_eq_true rfl) ?_
  intro p e s m below meth c A hC
  refine gx_sub [(0, .ref (a 15))] [0] rfl ?_
  rw [m_X2_returnToCaller]
  refine gx_aload_n (pc' := 1) hC rfl dX2_returnToCaller_0 rfl ?_
  refine gx_aload_n (pc' := 2) hC rfl dX2_returnToCaller_1 rfl ?_
  refine gx_get (pc' := 5) hC 15 (atX15 cI cZ cR a _) rfl inw_X2 7 (by decide) lk_X2_31 rfl rfl dX2_returnToCaller_2 ?_
  refine gx_callVI (pc' := 8) hC (c_X2_isWord cI cZ cR a (S 20 13) _) 15 (atX15 cI cZ cR a _) rfl kw_X2_92 hy_X2_isWord ⟨rfl, rfl⟩ (by decide) rfl rfl (Nat.le_of_ble_eq_true rfl) rfl dX2_returnToCaller_5 (fun r1 => ?_)
  refine gx_if_ne (pc' := 11) hC 13 rfl dX2_returnToCaller_8 (by decide) (fun h1 => ?_) (fun h1 => ?_)
  · refine gx_iconst (v := (0 : Int32)) (pc' := 12) hC rfl dX2_returnToCaller_11 (by decide) ?_
    exact gx_zret hC dX2_returnToCaller_12
  · refine gx_aload_n (pc' := 14) hC rfl dX2_returnToCaller_13 rfl ?_
    refine gx_aload_n (pc' := 15) hC rfl dX2_returnToCaller_14 rfl ?_
    refine gx_get (pc' := 18) hC 15 (atX15 cI cZ cR a _) rfl inw_X2 1 (by decide) lk_X2_9 rfl rfl dX2_returnToCaller_15 ?_
    refine gx_aload_n (pc' := 19) hC rfl dX2_returnToCaller_18 rfl ?_
    refine gx_get (pc' := 22) hC 15 (atX15 cI cZ cR a _) rfl inw_X2 7 (by decide) lk_X2_31 rfl rfl dX2_returnToCaller_19 ?_
    refine gx_iald (pc' := 23) hC 16 0 (atX16 cI cZ cR a _) rfl rfl dX2_returnToCaller_22 ?_
    refine gx_put (pc' := 26) hC tyX2_ok nmX2 15 (atX15 cI cZ cR a _) rfl inw_X2 6 (by decide) lk_X2_43 rfl rfl rfl (Nat.le_of_ble_eq_true rfl) (st r1.2 20 12 (r1.2 8 (r1.2 20 13).toNatClampNeg)) (ptX15_6 cI cZ cR a _ _) rfl dX2_returnToCaller_23 ?_
    refine gx_aload_n (pc' := 27) hC rfl dX2_returnToCaller_26 rfl ?_
    refine gx_dup (pc' := 28) hC rfl dX2_returnToCaller_27 rfl ?_
    refine gx_get (pc' := 31) hC 15 (atX15 cI cZ cR a _) rfl inw_X2 7 (by decide) lk_X2_31 rfl rfl dX2_returnToCaller_28 ?_
    refine gx_iconst (v := (1 : Int32)) (pc' := 32) hC rfl dX2_returnToCaller_31 (by decide) ?_
    refine gx_iadd (pc' := 33) hC rfl dX2_returnToCaller_32 ?_
    refine gx_put (pc' := 36) hC tyX2_ok nmX2 15 (atX15 cI cZ cR a _) rfl inw_X2 7 (by decide) lk_X2_31 rfl rfl rfl (Nat.le_of_ble_eq_true rfl) (st (st r1.2 20 12 (r1.2 8 (r1.2 20 13).toNatClampNeg)) 20 13 (((st r1.2 20 12 (r1.2 8 (r1.2 20 13).toNatClampNeg)) 20 13) + (1 : Int32))) (ptX15_7 cI cZ cR a _ _) rfl dX2_returnToCaller_33 ?_
    refine gx_aload_n (pc' := 37) hC rfl dX2_returnToCaller_36 rfl ?_
    refine gx_get (pc' := 40) hC 15 (atX15 cI cZ cR a _) rfl inw_X2 9 (by decide) lk_X2_37 rfl rfl dX2_returnToCaller_37 ?_
    refine gx_if_le (pc' := 43) hC 53 rfl dX2_returnToCaller_40 (by decide) (fun h2 => ?_) (fun h2 => ?_)
    · refine gx_aload_n (pc' := 54) hC rfl dX2_returnToCaller_53 rfl ?_
      refine gx_get (pc' := 57) hC 15 (atX15 cI cZ cR a _) rfl inw_X2 6 (by decide) lk_X2_43 rfl rfl dX2_returnToCaller_54 ?_
      refine gx_sipush (v := (255 : Int32)) (pc' := 60) hC rfl dX2_returnToCaller_57 (by decide) ?_
      refine gx_icmp_ne (pc' := 63) hC 67 rfl dX2_returnToCaller_60 (by decide) (fun h3 => ?_) (fun h3 => ?_)
      · refine gx_aload_n (pc' := 64) hC rfl dX2_returnToCaller_63 rfl ?_
        refine gx_callVV (pc' := 67) hC (c_X2_end cI cZ cR a  _) 15 (atX15 cI cZ cR a _) rfl kw_X2_95 hy_X2_end ⟨rfl, rfl⟩ (by decide) rfl rfl (Nat.le_of_ble_eq_true rfl) rfl dX2_returnToCaller_64 (fun r2 => ?_)
        refine gx_iconst (v := (1 : Int32)) (pc' := 68) hC rfl dX2_returnToCaller_67 (by decide) ?_
        exact gx_zret hC dX2_returnToCaller_68
      · refine gx_iconst (v := (1 : Int32)) (pc' := 68) hC rfl dX2_returnToCaller_67 (by decide) ?_
        exact gx_zret hC dX2_returnToCaller_68
    · refine gx_aload_n (pc' := 44) hC rfl dX2_returnToCaller_43 rfl ?_
      refine gx_dup (pc' := 45) hC rfl dX2_returnToCaller_44 rfl ?_
      refine gx_get (pc' := 48) hC 15 (atX15 cI cZ cR a _) rfl inw_X2 9 (by decide) lk_X2_37 rfl rfl dX2_returnToCaller_45 ?_
      refine gx_iconst (v := (1 : Int32)) (pc' := 49) hC rfl dX2_returnToCaller_48 (by decide) ?_
      refine gx_isub (pc' := 50) hC rfl dX2_returnToCaller_49 ?_
      refine gx_put (pc' := 53) hC tyX2_ok nmX2 15 (atX15 cI cZ cR a _) rfl inw_X2 9 (by decide) lk_X2_37 rfl rfl rfl (Nat.le_of_ble_eq_true rfl) (st (st (st r1.2 20 12 (r1.2 8 (r1.2 20 13).toNatClampNeg)) 20 13 (((st r1.2 20 12 (r1.2 8 (r1.2 20 13).toNatClampNeg)) 20 13) + (1 : Int32))) 20 15 (((st (st r1.2 20 12 (r1.2 8 (r1.2 20 13).toNatClampNeg)) 20 13 (((st r1.2 20 12 (r1.2 8 (r1.2 20 13).toNatClampNeg)) 20 13) + (1 : Int32))) 20 15) - (1 : Int32))) (ptX15_9 cI cZ cR a _ _) rfl dX2_returnToCaller_50 ?_
      refine gx_aload_n (pc' := 54) hC rfl dX2_returnToCaller_53 rfl ?_
      refine gx_get (pc' := 57) hC 15 (atX15 cI cZ cR a _) rfl inw_X2 6 (by decide) lk_X2_43 rfl rfl dX2_returnToCaller_54 ?_
      refine gx_sipush (v := (255 : Int32)) (pc' := 60) hC rfl dX2_returnToCaller_57 (by decide) ?_
      refine gx_icmp_ne (pc' := 63) hC 67 rfl dX2_returnToCaller_60 (by decide) (fun h4 => ?_) (fun h4 => ?_)
      · refine gx_aload_n (pc' := 64) hC rfl dX2_returnToCaller_63 rfl ?_
        refine gx_callVV (pc' := 67) hC (c_X2_end cI cZ cR a  _) 15 (atX15 cI cZ cR a _) rfl kw_X2_95 hy_X2_end ⟨rfl, rfl⟩ (by decide) rfl rfl (Nat.le_of_ble_eq_true rfl) rfl dX2_returnToCaller_64 (fun r3 => ?_)
        refine gx_iconst (v := (1 : Int32)) (pc' := 68) hC rfl dX2_returnToCaller_67 (by decide) ?_
        exact gx_zret hC dX2_returnToCaller_68
      · refine gx_iconst (v := (1 : Int32)) (pc' := 68) hC rfl dX2_returnToCaller_67 (by decide) ?_
        exact gx_zret hC dX2_returnToCaller_68
set_option maxHeartbeats 4000000 in
set_option maxRecDepth 100000 in
theorem c_X2_loadRegister {l : Launch} {D : va_G} {tZ : Nat} (cI cZ cR : ClassId) (a : Nat → Nat) (x1 : Int32) (x2 : Int32) (S : St) : MI l D (tyl cI cZ cR) tZ (wX cI cZ cR a) yX2_loadRegister cX2_loadRegister 3 (some .boolean) rm_X2_loadRegister [.ref (a 15), .int x1, .int x2] S (m_X2_loadRegister x1 x2 S) := by
  refine gx_metI (by decide) (Nat.le_of_ble_eq_true rfl) ?_
  intro p e s m below meth c A hC
  refine gx_sub [(0, .ref (a 15)), (1, .int x1), (2, .int x2)] [0, 1, 2] rfl ?_
  rw [m_X2_loadRegister]
  refine gx_aload_n (pc' := 1) hC rfl dX2_loadRegister_0 rfl ?_
  refine gx_iload_n (pc' := 2) hC rfl dX2_loadRegister_1 rfl ?_
  refine gx_callVI (pc' := 5) hC (c_X2_isWord cI cZ cR a x2 _) 15 (atX15 cI cZ cR a _) rfl kw_X2_92 hy_X2_isWord ⟨rfl, rfl⟩ (by decide) rfl rfl (Nat.le_of_ble_eq_true rfl) rfl dX2_loadRegister_2 (fun r1 => ?_)
  refine gx_if_ne (pc' := 8) hC 10 rfl dX2_loadRegister_5 (by decide) (fun h1 => ?_) (fun h1 => ?_)
  · refine gx_iconst (v := (0 : Int32)) (pc' := 9) hC rfl dX2_loadRegister_8 (by decide) ?_
    exact gx_zret hC dX2_loadRegister_9
  · refine gx_aload_n (pc' := 11) hC rfl dX2_loadRegister_10 rfl ?_
    refine gx_get (pc' := 14) hC 15 (atX15 cI cZ cR a _) rfl inw_X2 2 (by decide) lk_X2_15 rfl rfl dX2_loadRegister_11 ?_
    refine gx_iload_n (pc' := 15) hC rfl dX2_loadRegister_14 rfl ?_
    refine gx_aload_n (pc' := 16) hC rfl dX2_loadRegister_15 rfl ?_
    refine gx_get (pc' := 19) hC 15 (atX15 cI cZ cR a _) rfl inw_X2 1 (by decide) lk_X2_9 rfl rfl dX2_loadRegister_16 ?_
    refine gx_iload_n (pc' := 20) hC rfl dX2_loadRegister_19 rfl ?_
    refine gx_iald (pc' := 21) hC 16 0 (atX16 cI cZ cR a _) rfl rfl dX2_loadRegister_20 ?_
    refine gx_iast (pc' := 22) hC 17 0 (atX17 cI cZ cR a _) rfl (st r1.2 9 x1.toNatClampNeg (r1.2 8 x2.toNatClampNeg)) (stX17 cI cZ cR a _ _ _) rfl dX2_loadRegister_21 ?_
    refine gx_iconst (v := (1 : Int32)) (pc' := 23) hC rfl dX2_loadRegister_22 (by decide) ?_
    exact gx_zret hC dX2_loadRegister_23
set_option maxHeartbeats 4000000 in
set_option maxRecDepth 100000 in
theorem c_X2_carryOut {l : Launch} {D : va_G} {tZ : Nat} (cI cZ cR : ClassId) (a : Nat → Nat) (x1 : Int32) (x2 : Int32) (x3 : Int32) (S : St) : MI l D (tyl cI cZ cR) tZ (wX cI cZ cR a) yX2_carryOut cX2_carryOut 4 (some .boolean) rm_X2_carryOut [.ref (a 15), .int x1, .int x2, .int x3] S (m_X2_carryOut x1 x2 x3 S) := by
  refine gx_metI (by decide) (Nat.le_of_ble_eq_true rfl) ?_
  intro p e s m below meth c A hC
  refine gx_sub [(0, .ref (a 15)), (1, .int x1), (2, .int x2), (3, .int x3)] [0, 1, 2, 3] rfl ?_
  rw [m_X2_carryOut]
  refine gx_iload_n (pc' := 1) hC rfl dX2_carryOut_0 rfl ?_
  refine gx_ite (fun h1 => ?_) (fun h1 => ?_)
  · refine gx_case (v := (1 : Int32)) (off := 75) hC 76 h1 dX2_carryOut_1 (by decide) ?_
    refine gx_aload_n (pc' := 77) hC rfl dX2_carryOut_76 rfl ?_
    refine gx_aload_n (pc' := 78) hC rfl dX2_carryOut_77 rfl ?_
    refine gx_get (pc' := 81) hC 15 (atX15 cI cZ cR a _) rfl inw_X2 2 (by decide) lk_X2_15 rfl rfl dX2_carryOut_78 ?_
    refine gx_iload_n (pc' := 82) hC rfl dX2_carryOut_81 rfl ?_
    refine gx_iald (pc' := 83) hC 17 0 (atX17 cI cZ cR a _) rfl rfl dX2_carryOut_82 ?_
    refine gx_callVI (pc' := 86) hC (c_X2_pushWord cI cZ cR a (S 9 x2.toNatClampNeg) _) 15 (atX15 cI cZ cR a _) rfl kw_X2_80 hy_X2_pushWord ⟨rfl, rfl⟩ (by decide) rfl rfl (Nat.le_of_ble_eq_true rfl) rfl dX2_carryOut_83 (fun r1 => ?_)
    exact gx_zret hC dX2_carryOut_86
  refine gx_ite (fun h2 => ?_) (fun h2 => ?_)
  · refine gx_case (v := (2 : Int32)) (off := 86) hC 87 h2 dX2_carryOut_1 (by decide) ?_
    refine gx_aload_n (pc' := 88) hC rfl dX2_carryOut_87 rfl ?_
    refine gx_iload_n (pc' := 89) hC rfl dX2_carryOut_88 rfl ?_
    refine gx_aload_n (pc' := 90) hC rfl dX2_carryOut_89 rfl ?_
    refine gx_get (pc' := 93) hC 15 (atX15 cI cZ cR a _) rfl inw_X2 7 (by decide) lk_X2_31 rfl rfl dX2_carryOut_90 ?_
    refine gx_callVI (pc' := 96) hC (c_X2_loadRegister cI cZ cR a x2 (S 20 13) _) 15 (atX15 cI cZ cR a _) rfl kw_X2_83 hy_X2_loadRegister ⟨rfl, rfl⟩ (by decide) rfl rfl (Nat.le_of_ble_eq_true rfl) rfl dX2_carryOut_93 (fun r2 => ?_)
    refine gx_if_eq (pc' := 99) hC 116 rfl dX2_carryOut_96 (by decide) (fun h3 => ?_) (fun h3 => ?_)
    · refine gx_iconst (v := (0 : Int32)) (pc' := 117) hC rfl dX2_carryOut_116 (by decide) ?_
      exact gx_zret hC dX2_carryOut_117
    · refine gx_aload_n (pc' := 100) hC rfl dX2_carryOut_99 rfl ?_
      refine gx_aload_n (pc' := 101) hC rfl dX2_carryOut_100 rfl ?_
      refine gx_get (pc' := 104) hC 15 (atX15 cI cZ cR a _) rfl inw_X2 7 (by decide) lk_X2_31 rfl rfl dX2_carryOut_101 ?_
      refine gx_iconst (v := (1 : Int32)) (pc' := 105) hC rfl dX2_carryOut_104 (by decide) ?_
      refine gx_iadd (pc' := 106) hC rfl dX2_carryOut_105 ?_
      refine gx_callVI (pc' := 109) hC (c_X2_setPointer cI cZ cR a ((r2.2 20 13) + (1 : Int32)) _) 15 (atX15 cI cZ cR a _) rfl kw_X2_86 hy_X2_setPointer ⟨rfl, rfl⟩ (by decide) rfl rfl (Nat.le_of_ble_eq_true rfl) rfl dX2_carryOut_106 (fun r3 => ?_)
      refine gx_if_eq (pc' := 112) hC 116 rfl dX2_carryOut_109 (by decide) (fun h4 => ?_) (fun h4 => ?_)
      · refine gx_iconst (v := (0 : Int32)) (pc' := 117) hC rfl dX2_carryOut_116 (by decide) ?_
        exact gx_zret hC dX2_carryOut_117
      · refine gx_iconst (v := (1 : Int32)) (pc' := 113) hC rfl dX2_carryOut_112 (by decide) ?_
        refine gx_goto hC 117 dX2_carryOut_113 (by decide) ?_
        exact gx_zret hC dX2_carryOut_117
  refine gx_ite (fun h5 => ?_) (fun h5 => ?_)
  · refine gx_case (v := (3 : Int32)) (off := 117) hC 118 h5 dX2_carryOut_1 (by decide) ?_
    refine gx_aload_n (pc' := 119) hC rfl dX2_carryOut_118 rfl ?_
    refine gx_aload_n (pc' := 120) hC rfl dX2_carryOut_119 rfl ?_
    refine gx_get (pc' := 123) hC 15 (atX15 cI cZ cR a _) rfl inw_X2 7 (by decide) lk_X2_31 rfl rfl dX2_carryOut_120 ?_
    refine gx_iload_n (pc' := 124) hC rfl dX2_carryOut_123 rfl ?_
    refine gx_isub (pc' := 125) hC rfl dX2_carryOut_124 ?_
    refine gx_callVI (pc' := 128) hC (c_X2_setPointer cI cZ cR a ((S 20 13) - x2) _) 15 (atX15 cI cZ cR a _) rfl kw_X2_86 hy_X2_setPointer ⟨rfl, rfl⟩ (by decide) rfl rfl (Nat.le_of_ble_eq_true rfl) rfl dX2_carryOut_125 (fun r4 => ?_)
    exact gx_zret hC dX2_carryOut_128
  refine gx_ite (fun h6 => ?_) (fun h6 => ?_)
  · refine gx_case (v := (4 : Int32)) (off := 128) hC 129 h6 dX2_carryOut_1 (by decide) ?_
    refine gx_aload_n (pc' := 130) hC rfl dX2_carryOut_129 rfl ?_
    refine gx_aload_n (pc' := 131) hC rfl dX2_carryOut_130 rfl ?_
    refine gx_get (pc' := 134) hC 15 (atX15 cI cZ cR a _) rfl inw_X2 7 (by decide) lk_X2_31 rfl rfl dX2_carryOut_131 ?_
    refine gx_iload_n (pc' := 135) hC rfl dX2_carryOut_134 rfl ?_
    refine gx_iadd (pc' := 136) hC rfl dX2_carryOut_135 ?_
    refine gx_callVI (pc' := 139) hC (c_X2_setPointer cI cZ cR a ((S 20 13) + x2) _) 15 (atX15 cI cZ cR a _) rfl kw_X2_86 hy_X2_setPointer ⟨rfl, rfl⟩ (by decide) rfl rfl (Nat.le_of_ble_eq_true rfl) rfl dX2_carryOut_136 (fun r5 => ?_)
    exact gx_zret hC dX2_carryOut_139
  refine gx_ite (fun h7 => ?_) (fun h7 => ?_)
  · refine gx_case (v := (5 : Int32)) (off := 139) hC 140 h7 dX2_carryOut_1 (by decide) ?_
    refine gx_aload_n (pc' := 141) hC rfl dX2_carryOut_140 rfl ?_
    refine gx_get (pc' := 144) hC 15 (atX15 cI cZ cR a _) rfl inw_X2 2 (by decide) lk_X2_15 rfl rfl dX2_carryOut_141 ?_
    refine gx_iconst (v := (0 : Int32)) (pc' := 145) hC rfl dX2_carryOut_144 (by decide) ?_
    refine gx_aload_n (pc' := 146) hC rfl dX2_carryOut_145 rfl ?_
    refine gx_get (pc' := 149) hC 15 (atX15 cI cZ cR a _) rfl inw_X2 7 (by decide) lk_X2_31 rfl rfl dX2_carryOut_146 ?_
    refine gx_iast (pc' := 150) hC 17 0 (atX17 cI cZ cR a _) rfl (st S 9 (0 : Int32).toNatClampNeg (S 20 13)) (stX17 cI cZ cR a _ _ _) rfl dX2_carryOut_149 ?_
    refine gx_iconst (v := (1 : Int32)) (pc' := 151) hC rfl dX2_carryOut_150 (by decide) ?_
    exact gx_zret hC dX2_carryOut_151
  refine gx_ite (fun h8 => ?_) (fun h8 => ?_)
  · refine gx_case (v := (6 : Int32)) (off := 151) hC 152 h8 dX2_carryOut_1 (by decide) ?_
    refine gx_aload_n (pc' := 153) hC rfl dX2_carryOut_152 rfl ?_
    refine gx_aload_n (pc' := 154) hC rfl dX2_carryOut_153 rfl ?_
    refine gx_get (pc' := 157) hC 15 (atX15 cI cZ cR a _) rfl inw_X2 2 (by decide) lk_X2_15 rfl rfl dX2_carryOut_154 ?_
    refine gx_iconst (v := (0 : Int32)) (pc' := 158) hC rfl dX2_carryOut_157 (by decide) ?_
    refine gx_iald (pc' := 159) hC 17 0 (atX17 cI cZ cR a _) rfl rfl dX2_carryOut_158 ?_
    refine gx_callVI (pc' := 162) hC (c_X2_setPointer cI cZ cR a (S 9 (0 : Int32).toNatClampNeg) _) 15 (atX15 cI cZ cR a _) rfl kw_X2_86 hy_X2_setPointer ⟨rfl, rfl⟩ (by decide) rfl rfl (Nat.le_of_ble_eq_true rfl) rfl dX2_carryOut_159 (fun r6 => ?_)
    exact gx_zret hC dX2_carryOut_162
  refine gx_ite (fun h9 => ?_) (fun h9 => ?_)
  · refine gx_case (v := (7 : Int32)) (off := 219) hC 220 h9 dX2_carryOut_1 (by decide) ?_
    refine gx_iconst (v := (1 : Int32)) (pc' := 221) hC rfl dX2_carryOut_220 (by decide) ?_
    exact gx_zret hC dX2_carryOut_221
  refine gx_ite (fun h10 => ?_) (fun h10 => ?_)
  · refine gx_case (v := (8 : Int32)) (off := 219) hC 220 h10 dX2_carryOut_1 (by decide) ?_
    refine gx_iconst (v := (1 : Int32)) (pc' := 221) hC rfl dX2_carryOut_220 (by decide) ?_
    exact gx_zret hC dX2_carryOut_221
  refine gx_ite (fun h11 => ?_) (fun h11 => ?_)
  · refine gx_case (v := (9 : Int32)) (off := 219) hC 220 h11 dX2_carryOut_1 (by decide) ?_
    refine gx_iconst (v := (1 : Int32)) (pc' := 221) hC rfl dX2_carryOut_220 (by decide) ?_
    exact gx_zret hC dX2_carryOut_221
  refine gx_ite (fun h12 => ?_) (fun h12 => ?_)
  · refine gx_case (v := (10 : Int32)) (off := 219) hC 220 h12 dX2_carryOut_1 (by decide) ?_
    refine gx_iconst (v := (1 : Int32)) (pc' := 221) hC rfl dX2_carryOut_220 (by decide) ?_
    exact gx_zret hC dX2_carryOut_221
  refine gx_ite (fun h13 => ?_) (fun h13 => ?_)
  · refine gx_case (v := (11 : Int32)) (off := 162) hC 163 h13 dX2_carryOut_1 (by decide) ?_
    refine gx_aload_n (pc' := 164) hC rfl dX2_carryOut_163 rfl ?_
    refine gx_get (pc' := 167) hC 15 (atX15 cI cZ cR a _) rfl inw_X2 2 (by decide) lk_X2_15 rfl rfl dX2_carryOut_164 ?_
    refine gx_iload_n (pc' := 168) hC rfl dX2_carryOut_167 rfl ?_
    refine gx_iload_n (pc' := 169) hC rfl dX2_carryOut_168 rfl ?_
    refine gx_iast (pc' := 170) hC 17 0 (atX17 cI cZ cR a _) rfl (st S 9 x2.toNatClampNeg x3) (stX17 cI cZ cR a _ _ _) rfl dX2_carryOut_169 ?_
    refine gx_iconst (v := (1 : Int32)) (pc' := 171) hC rfl dX2_carryOut_170 (by decide) ?_
    exact gx_zret hC dX2_carryOut_171
  refine gx_ite (fun h14 => ?_) (fun h14 => ?_)
  · refine gx_case (v := (12 : Int32)) (off := 171) hC 172 h14 dX2_carryOut_1 (by decide) ?_
    refine gx_aload_n (pc' := 173) hC rfl dX2_carryOut_172 rfl ?_
    refine gx_iload_n (pc' := 174) hC rfl dX2_carryOut_173 rfl ?_
    refine gx_put (pc' := 177) hC tyX2_ok nmX2 15 (atX15 cI cZ cR a _) rfl inw_X2 8 (by decide) lk_X2_34 rfl rfl rfl (Nat.le_of_ble_eq_true rfl) (st S 20 14 x2) (ptX15_8 cI cZ cR a _ _) rfl dX2_carryOut_174 ?_
    refine gx_iconst (v := (1 : Int32)) (pc' := 178) hC rfl dX2_carryOut_177 (by decide) ?_
    exact gx_zret hC dX2_carryOut_178
  refine gx_ite (fun h15 => ?_) (fun h15 => ?_)
  · refine gx_case (v := (13 : Int32)) (off := 178) hC 179 h15 dX2_carryOut_1 (by decide) ?_
    refine gx_aload_n (pc' := 180) hC rfl dX2_carryOut_179 rfl ?_
    refine gx_dup (pc' := 181) hC rfl dX2_carryOut_180 rfl ?_
    refine gx_get (pc' := 184) hC 15 (atX15 cI cZ cR a _) rfl inw_X2 8 (by decide) lk_X2_34 rfl rfl dX2_carryOut_181 ?_
    refine gx_iconst (v := (1 : Int32)) (pc' := 185) hC rfl dX2_carryOut_184 (by decide) ?_
    refine gx_isub (pc' := 186) hC rfl dX2_carryOut_185 ?_
    refine gx_put (pc' := 189) hC tyX2_ok nmX2 15 (atX15 cI cZ cR a _) rfl inw_X2 8 (by decide) lk_X2_34 rfl rfl rfl (Nat.le_of_ble_eq_true rfl) (st S 20 14 ((S 20 14) - (1 : Int32))) (ptX15_8 cI cZ cR a _ _) rfl dX2_carryOut_186 ?_
    refine gx_iconst (v := (1 : Int32)) (pc' := 190) hC rfl dX2_carryOut_189 (by decide) ?_
    exact gx_zret hC dX2_carryOut_190
  refine gx_ite (fun h16 => ?_) (fun h16 => ?_)
  · refine gx_case (v := (14 : Int32)) (off := 190) hC 191 h16 dX2_carryOut_1 (by decide) ?_
    refine gx_aload_n (pc' := 192) hC rfl dX2_carryOut_191 rfl ?_
    refine gx_aload_n (pc' := 193) hC rfl dX2_carryOut_192 rfl ?_
    refine gx_get (pc' := 196) hC 15 (atX15 cI cZ cR a _) rfl inw_X2 7 (by decide) lk_X2_31 rfl rfl dX2_carryOut_193 ?_
    refine gx_iload_n (pc' := 197) hC rfl dX2_carryOut_196 rfl ?_
    refine gx_iadd (pc' := 198) hC rfl dX2_carryOut_197 ?_
    refine gx_aload_n (pc' := 199) hC rfl dX2_carryOut_198 rfl ?_
    refine gx_get (pc' := 202) hC 15 (atX15 cI cZ cR a _) rfl inw_X2 2 (by decide) lk_X2_15 rfl rfl dX2_carryOut_199 ?_
    refine gx_iload_n (pc' := 203) hC rfl dX2_carryOut_202 rfl ?_
    refine gx_iald (pc' := 204) hC 17 0 (atX17 cI cZ cR a _) rfl rfl dX2_carryOut_203 ?_
    refine gx_callVI (pc' := 207) hC (c_X2_storeWord cI cZ cR a ((S 20 13) + x3) (S 9 x2.toNatClampNeg) _) 15 (atX15 cI cZ cR a _) rfl kw_X2_89 hy_X2_storeWord ⟨rfl, rfl⟩ (by decide) rfl rfl (Nat.le_of_ble_eq_true rfl) rfl dX2_carryOut_204 (fun r7 => ?_)
    exact gx_zret hC dX2_carryOut_207
  refine gx_ite (fun h17 => ?_) (fun h17 => ?_)
  · refine gx_case (v := (15 : Int32)) (off := 207) hC 208 h17 dX2_carryOut_1 (by decide) ?_
    refine gx_aload_n (pc' := 209) hC rfl dX2_carryOut_208 rfl ?_
    refine gx_iload_n (pc' := 210) hC rfl dX2_carryOut_209 rfl ?_
    refine gx_aload_n (pc' := 211) hC rfl dX2_carryOut_210 rfl ?_
    refine gx_get (pc' := 214) hC 15 (atX15 cI cZ cR a _) rfl inw_X2 7 (by decide) lk_X2_31 rfl rfl dX2_carryOut_211 ?_
    refine gx_iload_n (pc' := 215) hC rfl dX2_carryOut_214 rfl ?_
    refine gx_iadd (pc' := 216) hC rfl dX2_carryOut_215 ?_
    refine gx_callVI (pc' := 219) hC (c_X2_loadRegister cI cZ cR a x2 ((S 20 13) + x3) _) 15 (atX15 cI cZ cR a _) rfl kw_X2_83 hy_X2_loadRegister ⟨rfl, rfl⟩ (by decide) rfl rfl (Nat.le_of_ble_eq_true rfl) rfl dX2_carryOut_216 (fun r8 => ?_)
    exact gx_zret hC dX2_carryOut_219
  refine gx_dflt hC 220 dX2_carryOut_1 (by have := lv_neT h1 (show ((1 : Int32)).toInt = 1 by decide); have := lv_neT h2 (show ((2 : Int32)).toInt = 2 by decide); have := lv_neT h5 (show ((3 : Int32)).toInt = 3 by decide); have := lv_neT h6 (show ((4 : Int32)).toInt = 4 by decide); have := lv_neT h7 (show ((5 : Int32)).toInt = 5 by decide); have := lv_neT h8 (show ((6 : Int32)).toInt = 6 by decide); have := lv_neT h9 (show ((7 : Int32)).toInt = 7 by decide); have := lv_neT h10 (show ((8 : Int32)).toInt = 8 by decide); have := lv_neT h11 (show ((9 : Int32)).toInt = 9 by decide); have := lv_neT h12 (show ((10 : Int32)).toInt = 10 by decide); have := lv_neT h13 (show ((11 : Int32)).toInt = 11 by decide); have := lv_neT h14 (show ((12 : Int32)).toInt = 12 by decide); have := lv_neT h15 (show ((13 : Int32)).toInt = 13 by decide); have := lv_neT h16 (show ((14 : Int32)).toInt = 14 by decide); have := lv_neT h17 (show ((15 : Int32)).toInt = 15 by decide); omega) (by decide) ?_
  refine gx_iconst (v := (1 : Int32)) (pc' := 221) hC rfl dX2_carryOut_220 (by decide) ?_
  exact gx_zret hC dX2_carryOut_221
set_option maxHeartbeats 4000000 in
set_option maxRecDepth 100000 in
theorem g_X2_advance_L191 {p : Program} {l : Launch} {e : Env} {s : State} {m : MethodId} {args : Array Value} {below : List Frame} {meth : Method} {c : Code} {D : va_G} {cI cZ cR : ClassId} {a : Nat → Nat} {tZ : Nat} {A : Nat → Prop} (hC : CX p s m args meth c cX2_advance 6 (some .int) yX2_advance.cls D (tyl cI cZ cR) tZ A) (x5 : Int32) (S : St) : GX p l e rm_X2_advance s m args below meth c 6 D A (wX cI cZ cR a) (KI below D (tyl cI cZ cR) (wX cI cZ cR a) A args s) 191 [(5, .int x5)] [] S (m_X2_advance_L191 x5 S) := by
  rw [m_X2_advance_L191]
  refine gx_iload (pc' := 193) hC rfl dX2_advance_191 rfl ?_
  refine gx_if_eq (pc' := 196) hC 200 rfl dX2_advance_193 (by decide) (fun h10 => ?_) (fun h10 => ?_)
  · refine gx_iconst (v := (2 : Int32)) (pc' := 201) hC rfl dX2_advance_200 (by decide) ?_
    exact gx_iret hC dX2_advance_201
  · refine gx_iconst (v := (0 : Int32)) (pc' := 197) hC rfl dX2_advance_196 (by decide) ?_
    refine gx_goto hC 201 dX2_advance_197 (by decide) ?_
    exact gx_iret hC dX2_advance_201
set_option maxHeartbeats 4000000 in
set_option maxRecDepth 100000 in
theorem g_X2_advance_L29 {p : Program} {l : Launch} {e : Env} {s : State} {m : MethodId} {args : Array Value} {below : List Frame} {meth : Method} {c : Code} {D : va_G} {cI cZ cR : ClassId} {a : Nat → Nat} {tZ : Nat} {A : Nat → Prop} (hC : CX p s m args meth c cX2_advance 6 (some .int) yX2_advance.cls D (tyl cI cZ cR) tZ A) (z0 : Int32) (S : St) : GX p l e rm_X2_advance s m args below meth c 6 D A (wX cI cZ cR a) (KI below D (tyl cI cZ cR) (wX cI cZ cR a) A args s) 29 [(0, .ref (a 15))] [.int z0] S (m_X2_advance_L29 z0 S) := by
  rw [m_X2_advance_L29]
  refine gx_istore_n (pc' := 30) hC [(1, .int z0), (0, .ref (a 15))] rfl dX2_advance_29 (by decide) rfl ?_
  refine gx_iload_n (pc' := 31) hC rfl dX2_advance_30 rfl ?_
  refine gx_if_ne (pc' := 34) hC 36 rfl dX2_advance_31 (by decide) (fun h2 => ?_) (fun h2 => ?_)
  · refine gx_iconst (v := (1 : Int32)) (pc' := 35) hC rfl dX2_advance_34 (by decide) ?_
    exact gx_iret hC dX2_advance_35
  · refine gx_aload_n (pc' := 37) hC rfl dX2_advance_36 rfl ?_
    refine gx_get (pc' := 40) hC 15 (atX15 cI cZ cR a _) rfl inw_X2 0 (by decide) lk_X2_21 rfl rfl dX2_advance_37 ?_
    refine gx_aload_n (pc' := 41) hC rfl dX2_advance_40 rfl ?_
    refine gx_get (pc' := 44) hC 15 (atX15 cI cZ cR a _) rfl inw_X2 6 (by decide) lk_X2_43 rfl rfl dX2_advance_41 ?_
    refine gx_callVI (pc' := 47) hC (c_X4_codeAt cI cZ cR a (S 20 12) _) 1 (atX1 cI cZ cR a _) rfl kw_X2_60 hy_X4_codeAt ⟨rfl, rfl⟩ (by decide) rfl rfl (Nat.le_of_ble_eq_true rfl) rfl dX2_advance_44 (fun r2 => ?_)
    refine gx_istore_n (pc' := 48) hC [(2, .int r2.1), (1, .int z0), (0, .ref (a 15))] rfl dX2_advance_47 (by decide) rfl ?_
    refine gx_aload_n (pc' := 49) hC rfl dX2_advance_48 rfl ?_
    refine gx_get (pc' := 52) hC 15 (atX15 cI cZ cR a _) rfl inw_X2 0 (by decide) lk_X2_21 rfl rfl dX2_advance_49 ?_
    refine gx_aload_n (pc' := 53) hC rfl dX2_advance_52 rfl ?_
    refine gx_get (pc' := 56) hC 15 (atX15 cI cZ cR a _) rfl inw_X2 6 (by decide) lk_X2_43 rfl rfl dX2_advance_53 ?_
    refine gx_iconst (v := (1 : Int32)) (pc' := 57) hC rfl dX2_advance_56 (by decide) ?_
    refine gx_iadd (pc' := 58) hC rfl dX2_advance_57 ?_
    refine gx_callVI (pc' := 61) hC (c_X4_codeAt cI cZ cR a ((r2.2 20 12) + (1 : Int32)) _) 1 (atX1 cI cZ cR a _) rfl kw_X2_60 hy_X4_codeAt ⟨rfl, rfl⟩ (by decide) rfl rfl (Nat.le_of_ble_eq_true rfl) rfl dX2_advance_58 (fun r3 => ?_)
    refine gx_istore_n (pc' := 62) hC [(3, .int r3.1), (2, .int r2.1), (1, .int z0), (0, .ref (a 15))] rfl dX2_advance_61 (by decide) rfl ?_
    refine gx_aload_n (pc' := 63) hC rfl dX2_advance_62 rfl ?_
    refine gx_get (pc' := 66) hC 15 (atX15 cI cZ cR a _) rfl inw_X2 6 (by decide) lk_X2_43 rfl rfl dX2_advance_63 ?_
    refine gx_iload_n (pc' := 67) hC rfl dX2_advance_66 rfl ?_
    refine gx_iadd (pc' := 68) hC rfl dX2_advance_67 ?_
    refine gx_istore (pc' := 70) hC [(4, .int ((r3.2 20 12) + z0)), (3, .int r3.1), (2, .int r2.1), (1, .int z0), (0, .ref (a 15))] rfl dX2_advance_68 (by decide) rfl ?_
    refine gx_iload_n (pc' := 71) hC rfl dX2_advance_70 rfl ?_
    refine gx_ite (fun h3 => ?_) (fun h3 => ?_)
    · refine gx_case (v := (7 : Int32)) (off := 29) hC 100 h3 dX2_advance_71 (by decide) ?_
      refine gx_aload_n (pc' := 101) hC rfl dX2_advance_100 rfl ?_
      refine gx_iload_n (pc' := 102) hC rfl dX2_advance_101 rfl ?_
      refine gx_iload (pc' := 104) hC rfl dX2_advance_102 rfl ?_
      refine gx_callVI (pc' := 107) hC (c_X2_callPlace cI cZ cR a r3.1 ((r3.2 20 12) + z0) _) 15 (atX15 cI cZ cR a _) rfl kw_X2_64 hy_X2_callPlace ⟨rfl, rfl⟩ (by decide) rfl rfl (Nat.le_of_ble_eq_true rfl) rfl dX2_advance_104 (fun r4 => ?_)
      refine gx_istore (pc' := 109) hC [(5, .int r4.1), (4, .int ((r3.2 20 12) + z0)), (3, .int r3.1), (2, .int r2.1), (1, .int z0), (0, .ref (a 15))] rfl dX2_advance_107 (by decide) rfl ?_
      refine gx_goto hC 191 dX2_advance_109 (by decide) ?_
      exact gx_sub [(5, .int r4.1)] [0] rfl (g_X2_advance_L191 hC r4.1 r4.2)
    refine gx_ite (fun h4 => ?_) (fun h4 => ?_)
    · refine gx_case (v := (8 : Int32)) (off := 41) hC 112 h4 dX2_advance_71 (by decide) ?_
      refine gx_aload_n (pc' := 113) hC rfl dX2_advance_112 rfl ?_
      refine gx_callVI (pc' := 116) hC (c_X2_returnToCaller cI cZ cR a  _) 15 (atX15 cI cZ cR a _) rfl kw_X2_68 hy_X2_returnToCaller ⟨rfl, rfl⟩ (by decide) rfl rfl (Nat.le_of_ble_eq_true rfl) rfl dX2_advance_113 (fun r5 => ?_)
      refine gx_istore (pc' := 118) hC [(5, .int r5.1), (4, .int ((r3.2 20 12) + z0)), (3, .int r3.1), (2, .int r2.1), (1, .int z0), (0, .ref (a 15))] rfl dX2_advance_116 (by decide) rfl ?_
      refine gx_goto hC 191 dX2_advance_118 (by decide) ?_
      exact gx_sub [(5, .int r5.1)] [0] rfl (g_X2_advance_L191 hC r5.1 r5.2)
    refine gx_ite (fun h5 => ?_) (fun h5 => ?_)
    · refine gx_case (v := (9 : Int32)) (off := 50) hC 121 h5 dX2_advance_71 (by decide) ?_
      refine gx_aload_n (pc' := 122) hC rfl dX2_advance_121 rfl ?_
      refine gx_iload_n (pc' := 123) hC rfl dX2_advance_122 rfl ?_
      refine gx_callVI (pc' := 126) hC (c_X2_goTo cI cZ cR a r3.1 _) 15 (atX15 cI cZ cR a _) rfl kw_X2_72 hy_X2_goTo ⟨rfl, rfl⟩ (by decide) rfl rfl (Nat.le_of_ble_eq_true rfl) rfl dX2_advance_123 (fun r6 => ?_)
      refine gx_istore (pc' := 128) hC [(5, .int r6.1), (4, .int ((r3.2 20 12) + z0)), (3, .int r3.1), (2, .int r2.1), (1, .int z0), (0, .ref (a 15))] rfl dX2_advance_126 (by decide) rfl ?_
      refine gx_goto hC 191 dX2_advance_128 (by decide) ?_
      exact gx_sub [(5, .int r6.1)] [0] rfl (g_X2_advance_L191 hC r6.1 r6.2)
    refine gx_ite (fun h6 => ?_) (fun h6 => ?_)
    · refine gx_case (v := (10 : Int32)) (off := 60) hC 131 h6 dX2_advance_71 (by decide) ?_
      refine gx_aload_n (pc' := 132) hC rfl dX2_advance_131 rfl ?_
      refine gx_aload_n (pc' := 133) hC rfl dX2_advance_132 rfl ?_
      refine gx_get (pc' := 136) hC 15 (atX15 cI cZ cR a _) rfl inw_X2 8 (by decide) lk_X2_34 rfl rfl dX2_advance_133 ?_
      refine gx_if_eq (pc' := 139) hC 143 rfl dX2_advance_136 (by decide) (fun h7 => ?_) (fun h7 => ?_)
      · refine gx_iload (pc' := 145) hC rfl dX2_advance_143 rfl ?_
        refine gx_callVI (pc' := 148) hC (c_X2_goTo cI cZ cR a ((r3.2 20 12) + z0) _) 15 (atX15 cI cZ cR a _) rfl kw_X2_72 hy_X2_goTo ⟨rfl, rfl⟩ (by decide) rfl rfl (Nat.le_of_ble_eq_true rfl) rfl dX2_advance_145 (fun r7 => ?_)
        refine gx_istore (pc' := 150) hC [(5, .int r7.1), (4, .int ((r3.2 20 12) + z0)), (3, .int r3.1), (2, .int r2.1), (1, .int z0), (0, .ref (a 15))] rfl dX2_advance_148 (by decide) rfl ?_
        refine gx_goto hC 191 dX2_advance_150 (by decide) ?_
        exact gx_sub [(5, .int r7.1)] [0] rfl (g_X2_advance_L191 hC r7.1 r7.2)
      · refine gx_iload_n (pc' := 140) hC rfl dX2_advance_139 rfl ?_
        refine gx_goto hC 145 dX2_advance_140 (by decide) ?_
        refine gx_callVI (pc' := 148) hC (c_X2_goTo cI cZ cR a r3.1 _) 15 (atX15 cI cZ cR a _) rfl kw_X2_72 hy_X2_goTo ⟨rfl, rfl⟩ (by decide) rfl rfl (Nat.le_of_ble_eq_true rfl) rfl dX2_advance_145 (fun r8 => ?_)
        refine gx_istore (pc' := 150) hC [(5, .int r8.1), (4, .int ((r3.2 20 12) + z0)), (3, .int r3.1), (2, .int r2.1), (1, .int z0), (0, .ref (a 15))] rfl dX2_advance_148 (by decide) rfl ?_
        refine gx_goto hC 191 dX2_advance_150 (by decide) ?_
        exact gx_sub [(5, .int r8.1)] [0] rfl (g_X2_advance_L191 hC r8.1 r8.2)
    refine gx_dflt hC 153 dX2_advance_71 (by have := lv_neT h3 (show ((7 : Int32)).toInt = 7 by decide); have := lv_neT h4 (show ((8 : Int32)).toInt = 8 by decide); have := lv_neT h5 (show ((9 : Int32)).toInt = 9 by decide); have := lv_neT h6 (show ((10 : Int32)).toInt = 10 by decide); omega) (by decide) ?_
    refine gx_aload_n (pc' := 154) hC rfl dX2_advance_153 rfl ?_
    refine gx_iload_n (pc' := 155) hC rfl dX2_advance_154 rfl ?_
    refine gx_iload_n (pc' := 156) hC rfl dX2_advance_155 rfl ?_
    refine gx_aload_n (pc' := 157) hC rfl dX2_advance_156 rfl ?_
    refine gx_get (pc' := 160) hC 15 (atX15 cI cZ cR a _) rfl inw_X2 0 (by decide) lk_X2_21 rfl rfl dX2_advance_157 ?_
    refine gx_aload_n (pc' := 161) hC rfl dX2_advance_160 rfl ?_
    refine gx_get (pc' := 164) hC 15 (atX15 cI cZ cR a _) rfl inw_X2 6 (by decide) lk_X2_43 rfl rfl dX2_advance_161 ?_
    refine gx_iconst (v := (2 : Int32)) (pc' := 165) hC rfl dX2_advance_164 (by decide) ?_
    refine gx_iadd (pc' := 166) hC rfl dX2_advance_165 ?_
    refine gx_callVI (pc' := 169) hC (c_X4_codeAt cI cZ cR a ((r3.2 20 12) + (2 : Int32)) _) 1 (atX1 cI cZ cR a _) rfl kw_X2_60 hy_X4_codeAt ⟨rfl, rfl⟩ (by decide) rfl rfl (Nat.le_of_ble_eq_true rfl) rfl dX2_advance_166 (fun r9 => ?_)
    refine gx_callVI (pc' := 172) hC (c_X2_carryOut cI cZ cR a r2.1 r3.1 r9.1 _) 15 (atX15 cI cZ cR a _) rfl kw_X2_76 hy_X2_carryOut ⟨rfl, rfl⟩ (by decide) rfl rfl (Nat.le_of_ble_eq_true rfl) rfl dX2_advance_169 (fun r10 => ?_)
    refine gx_if_eq (pc' := 175) hC 188 rfl dX2_advance_172 (by decide) (fun h8 => ?_) (fun h8 => ?_)
    · refine gx_iconst (v := (0 : Int32)) (pc' := 189) hC rfl dX2_advance_188 (by decide) ?_
      refine gx_istore (pc' := 191) hC [(5, .int (0 : Int32)), (4, .int ((r3.2 20 12) + z0)), (3, .int r3.1), (2, .int r2.1), (1, .int z0), (0, .ref (a 15))] rfl dX2_advance_189 (by decide) rfl ?_
      exact gx_sub [(5, .int (0 : Int32))] [0] rfl (g_X2_advance_L191 hC (0 : Int32) r10.2)
    · refine gx_aload_n (pc' := 176) hC rfl dX2_advance_175 rfl ?_
      refine gx_iload (pc' := 178) hC rfl dX2_advance_176 rfl ?_
      refine gx_callVI (pc' := 181) hC (c_X2_goTo cI cZ cR a ((r3.2 20 12) + z0) _) 15 (atX15 cI cZ cR a _) rfl kw_X2_72 hy_X2_goTo ⟨rfl, rfl⟩ (by decide) rfl rfl (Nat.le_of_ble_eq_true rfl) rfl dX2_advance_178 (fun r11 => ?_)
      refine gx_if_eq (pc' := 184) hC 188 rfl dX2_advance_181 (by decide) (fun h9 => ?_) (fun h9 => ?_)
      · refine gx_iconst (v := (0 : Int32)) (pc' := 189) hC rfl dX2_advance_188 (by decide) ?_
        refine gx_istore (pc' := 191) hC [(5, .int (0 : Int32)), (4, .int ((r3.2 20 12) + z0)), (3, .int r3.1), (2, .int r2.1), (1, .int z0), (0, .ref (a 15))] rfl dX2_advance_189 (by decide) rfl ?_
        exact gx_sub [(5, .int (0 : Int32))] [0] rfl (g_X2_advance_L191 hC (0 : Int32) r11.2)
      · refine gx_iconst (v := (1 : Int32)) (pc' := 185) hC rfl dX2_advance_184 (by decide) ?_
        refine gx_goto hC 189 dX2_advance_185 (by decide) ?_
        refine gx_istore (pc' := 191) hC [(5, .int (1 : Int32)), (4, .int ((r3.2 20 12) + z0)), (3, .int r3.1), (2, .int r2.1), (1, .int z0), (0, .ref (a 15))] rfl dX2_advance_189 (by decide) rfl ?_
        exact gx_sub [(5, .int (1 : Int32))] [0] rfl (g_X2_advance_L191 hC (1 : Int32) r11.2)
set_option maxHeartbeats 4000000 in
set_option maxRecDepth 100000 in
theorem c_X2_advance {l : Launch} {D : va_G} {tZ : Nat} (cI cZ cR : ClassId) (a : Nat → Nat)  (S : St) : MI l D (tyl cI cZ cR) tZ (wX cI cZ cR a) yX2_advance cX2_advance 6 (some .int) rm_X2_advance [.ref (a 15)] S (m_X2_advance  S) := by
  refine gx_metI (by decide) (Nat.le_of_ble_eq_true rfl) ?_
  intro p e s m below meth c A hC
  refine gx_sub [(0, .ref (a 15))] [0] rfl ?_
  rw [m_X2_advance]
  refine gx_aload_n (pc' := 1) hC rfl dX2_advance_0 rfl ?_
  refine gx_get (pc' := 4) hC 15 (atX15 cI cZ cR a _) rfl inw_X2 5 (by decide) lk_X2_50 rfl rfl dX2_advance_1 ?_
  refine gx_if_eq (pc' := 7) hC 28 rfl dX2_advance_4 (by decide) (fun h1 => ?_) (fun h1 => ?_)
  · refine gx_iconst (v := (0 : Int32)) (pc' := 29) hC rfl dX2_advance_28 (by decide) ?_
    exact gx_sub [(0, .ref (a 15))] [0] rfl (g_X2_advance_L29 hC (0 : Int32) S)
  · refine gx_aload_n (pc' := 8) hC rfl dX2_advance_7 rfl ?_
    refine gx_get (pc' := 11) hC 15 (atX15 cI cZ cR a _) rfl inw_X2 0 (by decide) lk_X2_21 rfl rfl dX2_advance_8 ?_
    refine gx_aload_n (pc' := 12) hC rfl dX2_advance_11 rfl ?_
    refine gx_get (pc' := 15) hC 15 (atX15 cI cZ cR a _) rfl inw_X2 6 (by decide) lk_X2_43 rfl rfl dX2_advance_12 ?_
    refine gx_aload_n (pc' := 16) hC rfl dX2_advance_15 rfl ?_
    refine gx_get (pc' := 19) hC 15 (atX15 cI cZ cR a _) rfl inw_X2 0 (by decide) lk_X2_21 rfl rfl dX2_advance_16 ?_
    refine gx_getN (pc' := 22) hC 1 (atX1 cI cZ cR a _) rfl inw_X4 3 (by decide) lk_X2_53 rfl rfl dX2_advance_19 ?_
    refine gx_callVI (pc' := 25) hC (c_X4_wholeSize cI cZ cR a (S 20 12) (S 20 0) _) 1 (atX1 cI cZ cR a _) rfl kw_X2_56 hy_X4_wholeSize ⟨rfl, rfl⟩ (by decide) rfl rfl (Nat.le_of_ble_eq_true rfl) rfl dX2_advance_22 (fun r1 => ?_)
    refine gx_goto hC 29 dX2_advance_25 (by decide) ?_
    exact gx_sub [(0, .ref (a 15))] [0] rfl (g_X2_advance_L29 hC r1.1 r1.2)
set_option maxHeartbeats 4000000 in
set_option maxRecDepth 100000 in
theorem c_X2_returnOf {l : Launch} {D : va_G} {tZ : Nat} (cI cZ cR : ClassId) (a : Nat → Nat) (x1 : Int32) (S : St) : MI l D (tyl cI cZ cR) tZ (wX cI cZ cR a) yX2_returnOf cX2_returnOf 2 (some .int) rm_X2_returnOf [.ref (a 15), .int x1] S (m_X2_returnOf x1 S) := by
  refine gx_metI (by decide) (Nat.le_of_ble_eq_true rfl) ?_
  intro p e s m below meth c A hC
  refine gx_sub [(0, .ref (a 15)), (1, .int x1)] [0, 1] rfl ?_
  rw [m_X2_returnOf]
  refine gx_iload_n (pc' := 1) hC rfl dX2_returnOf_0 rfl ?_
  refine gx_if_lt (pc' := 4) hC 28 rfl dX2_returnOf_1 (by decide) (fun h1 => ?_) (fun h1 => ?_)
  · refine gx_iconst (v := (-1 : Int32)) (pc' := 29) hC rfl dX2_returnOf_28 (by decide) ?_
    exact gx_iret hC dX2_returnOf_29
  · refine gx_iload_n (pc' := 5) hC rfl dX2_returnOf_4 rfl ?_
    refine gx_aload_n (pc' := 6) hC rfl dX2_returnOf_5 rfl ?_
    refine gx_get (pc' := 9) hC 15 (atX15 cI cZ cR a _) rfl inw_X2 9 (by decide) lk_X2_37 rfl rfl dX2_returnOf_6 ?_
    refine gx_icmp_ge (pc' := 12) hC 28 rfl dX2_returnOf_9 (by decide) (fun h2 => ?_) (fun h2 => ?_)
    · refine gx_iconst (v := (-1 : Int32)) (pc' := 29) hC rfl dX2_returnOf_28 (by decide) ?_
      exact gx_iret hC dX2_returnOf_29
    · refine gx_aload_n (pc' := 13) hC rfl dX2_returnOf_12 rfl ?_
      refine gx_get (pc' := 16) hC 15 (atX15 cI cZ cR a _) rfl inw_X2 3 (by decide) lk_X2_18 rfl rfl dX2_returnOf_13 ?_
      refine gx_aload_n (pc' := 17) hC rfl dX2_returnOf_16 rfl ?_
      refine gx_get (pc' := 20) hC 15 (atX15 cI cZ cR a _) rfl inw_X2 9 (by decide) lk_X2_37 rfl rfl dX2_returnOf_17 ?_
      refine gx_iconst (v := (1 : Int32)) (pc' := 21) hC rfl dX2_returnOf_20 (by decide) ?_
      refine gx_isub (pc' := 22) hC rfl dX2_returnOf_21 ?_
      refine gx_iload_n (pc' := 23) hC rfl dX2_returnOf_22 rfl ?_
      refine gx_isub (pc' := 24) hC rfl dX2_returnOf_23 ?_
      refine gx_iald (pc' := 25) hC 18 0 (atX18 cI cZ cR a _) rfl rfl dX2_returnOf_24 ?_
      refine gx_goto hC 29 dX2_returnOf_25 (by decide) ?_
      exact gx_iret hC dX2_returnOf_29
set_option maxHeartbeats 4000000 in
set_option maxRecDepth 100000 in
theorem c_X7_empty {l : Launch} {D : va_G} {tZ : Nat} (cI cZ cR : ClassId) (a : Nat → Nat)  (S : St) : MV l D (tyl cI cZ cR) tZ (wX cI cZ cR a) yX7_empty cX7_empty 1 none rm_X7_empty [.ref (a 11)] S (m_X7_empty  S) := by
  refine gx_metV (by decide) (Nat.le_of_ble_eq_true rfl) ?_
  intro p e s m below meth c A hC
  refine gx_sub [(0, .ref (a 11))] [0] rfl ?_
  rw [m_X7_empty]
  refine gx_aload_n (pc' := 1) hC rfl dX7_empty_0 rfl ?_
  refine gx_iconst (v := (0 : Int32)) (pc' := 2) hC rfl dX7_empty_1 (by decide) ?_
  refine gx_put (pc' := 5) hC tyX7_ok nmX7 11 (atX11 cI cZ cR a _) rfl inw_X7 1 (by decide) lk_X7_15 rfl rfl rfl (Nat.le_of_ble_eq_true rfl) (st S 20 6 (0 : Int32)) (ptX11_1 cI cZ cR a _ _) rfl dX7_empty_2 ?_
  exact gx_vret hC dX7_empty_5
set_option maxHeartbeats 4000000 in
set_option maxRecDepth 100000 in
theorem c_X7_append {l : Launch} {D : va_G} {tZ : Nat} (cI cZ cR : ClassId) (a : Nat → Nat) (x1 : Int32) (S : St) : MV l D (tyl cI cZ cR) tZ (wX cI cZ cR a) yX7_append cX7_append 2 none rm_X7_append [.ref (a 11), .int x1] S (m_X7_append x1 S) := by
  refine gx_metV (by decide) (Nat.le_of_ble_eq_true rfl) ?_
  intro p e s m below meth c A hC
  refine gx_sub [(0, .ref (a 11)), (1, .int x1)] [0, 1] rfl ?_
  rw [m_X7_append]
  refine gx_aload_n (pc' := 1) hC rfl dX7_append_0 rfl ?_
  refine gx_get (pc' := 4) hC 11 (atX11 cI cZ cR a _) rfl inw_X7 1 (by decide) lk_X7_15 rfl rfl dX7_append_1 ?_
  refine gx_sipush (v := (1076 : Int32)) (pc' := 7) hC rfl dX7_append_4 (by decide) ?_
  refine gx_icmp_ge (pc' := 10) hC 30 rfl dX7_append_7 (by decide) (fun h1 => ?_) (fun h1 => ?_)
  · exact gx_vret hC dX7_append_30
  · refine gx_aload_n (pc' := 11) hC rfl dX7_append_10 rfl ?_
    refine gx_get (pc' := 14) hC 11 (atX11 cI cZ cR a _) rfl inw_X7 0 (by decide) lk_X7_11 rfl rfl dX7_append_11 ?_
    refine gx_aload_n (pc' := 15) hC rfl dX7_append_14 rfl ?_
    refine gx_get (pc' := 18) hC 11 (atX11 cI cZ cR a _) rfl inw_X7 1 (by decide) lk_X7_15 rfl rfl dX7_append_15 ?_
    refine gx_iload_n (pc' := 19) hC rfl dX7_append_18 rfl ?_
    refine gx_iast (pc' := 20) hC 12 0 (atX12 cI cZ cR a _) rfl (st S 7 (S 20 6).toNatClampNeg x1) (stX12 cI cZ cR a _ _ _) rfl dX7_append_19 ?_
    refine gx_aload_n (pc' := 21) hC rfl dX7_append_20 rfl ?_
    refine gx_dup (pc' := 22) hC rfl dX7_append_21 rfl ?_
    refine gx_get (pc' := 25) hC 11 (atX11 cI cZ cR a _) rfl inw_X7 1 (by decide) lk_X7_15 rfl rfl dX7_append_22 ?_
    refine gx_iconst (v := (1 : Int32)) (pc' := 26) hC rfl dX7_append_25 (by decide) ?_
    refine gx_iadd (pc' := 27) hC rfl dX7_append_26 ?_
    refine gx_put (pc' := 30) hC tyX7_ok nmX7 11 (atX11 cI cZ cR a _) rfl inw_X7 1 (by decide) lk_X7_15 rfl rfl rfl (Nat.le_of_ble_eq_true rfl) (st (st S 7 (S 20 6).toNatClampNeg x1) 20 6 (((st S 7 (S 20 6).toNatClampNeg x1) 20 6) + (1 : Int32))) (ptX11_1 cI cZ cR a _ _) rfl dX7_append_27 ?_
    exact gx_vret hC dX7_append_30
set_option maxHeartbeats 4000000 in
set_option maxRecDepth 100000 in
theorem g_X6_isSameAs_L30 {p : Program} {l : Launch} {e : Env} {s : State} {m : MethodId} {args : Array Value} {below : List Frame} {meth : Method} {c : Code} {D : va_G} {cI cZ cR : ClassId} {a : Nat → Nat} {tZ : Nat} {A : Nat → Prop} (hC : CX p s m args meth c cX6_isSameAs 4 (some .boolean) yX6_isSameAs.cls D (tyl cI cZ cR) tZ A) (i : Nat) (hi : i < 8) (j : Nat) (hj : j < 8) : ∀ (n : Nat) (x2 : Int32) (x3 : Int32) (S : St), GX p l e rm_X6_isSameAs s m args below meth c 4 D A (wX cI cZ cR a) (KI below D (tyl cI cZ cR) (wX cI cZ cR a) A args s) 30 [(0, .ref (a (21 + 2 * i))), (1, .ref (a (21 + 2 * j))), (2, .int x2), (3, .int x3)] [] S (m_X6_isSameAs_L30 i j n x2 x3 S) := by
  intro n
  induction n with
  | zero => intro x2 x3 S; exact gx_none
  | succ n ih =>
    intro x2 x3 S
    rw [m_X6_isSameAs_L30]
    refine gx_iload_n (pc' := 31) hC rfl dX6_isSameAs_30 rfl ?_
    refine gx_iconst (v := (3 : Int32)) (pc' := 32) hC rfl dX6_isSameAs_31 (by decide) ?_
    refine gx_icmp_ge (pc' := 35) hC 66 rfl dX6_isSameAs_32 (by decide) (fun h3 => ?_) (fun h3 => ?_)
    · refine gx_iload_n (pc' := 67) hC rfl dX6_isSameAs_66 rfl ?_
      exact gx_zret hC dX6_isSameAs_67
    · refine gx_iload_n (pc' := 36) hC rfl dX6_isSameAs_35 rfl ?_
      refine gx_if_eq (pc' := 39) hC 58 rfl dX6_isSameAs_36 (by decide) (fun h4 => ?_) (fun h4 => ?_)
      · refine gx_iconst (v := (0 : Int32)) (pc' := 59) hC rfl dX6_isSameAs_58 (by decide) ?_
        refine gx_istore_n (pc' := 60) hC [(2, .int (0 : Int32)), (0, .ref (a (21 + 2 * i))), (1, .ref (a (21 + 2 * j))), (3, .int x3)] rfl dX6_isSameAs_59 (by decide) rfl ?_
        refine gx_iinc (v := (x3 + (1 : Int32))) (pc' := 63) hC [(3, .int (x3 + (1 : Int32))), (2, .int (0 : Int32)), (0, .ref (a (21 + 2 * i))), (1, .ref (a (21 + 2 * j)))] rfl dX6_isSameAs_60 rfl rfl (by decide) rfl ?_
        refine gx_goto hC 30 dX6_isSameAs_63 (by decide) ?_
        exact gx_sub [(0, .ref (a (21 + 2 * i))), (1, .ref (a (21 + 2 * j))), (2, .int (0 : Int32)), (3, .int (x3 + (1 : Int32)))] [2, 3, 1, 0] rfl (ih (0 : Int32) (x3 + (1 : Int32)) S)
      · refine gx_aload_n (pc' := 40) hC rfl dX6_isSameAs_39 rfl ?_
        refine gx_get (pc' := 43) hC (21 + 2 * i) (row_at cI cZ cR a _ hi) rfl inw_X6 2 (by decide) lk_X6_9 rfl rfl dX6_isSameAs_40 ?_
        refine gx_iload_n (pc' := 44) hC rfl dX6_isSameAs_43 rfl ?_
        refine gx_iald (pc' := 45) hC (22 + 2 * i) 0 (row_sv cI cZ cR a _ hi) rfl rfl dX6_isSameAs_44 ?_
        refine gx_aload_n (pc' := 46) hC rfl dX6_isSameAs_45 rfl ?_
        refine gx_get (pc' := 49) hC (21 + 2 * j) (row_at cI cZ cR a _ hj) rfl inw_X6 2 (by decide) lk_X6_9 rfl rfl dX6_isSameAs_46 ?_
        refine gx_iload_n (pc' := 50) hC rfl dX6_isSameAs_49 rfl ?_
        refine gx_iald (pc' := 51) hC (22 + 2 * j) 0 (row_sv cI cZ cR a _ hj) rfl rfl dX6_isSameAs_50 ?_
        refine gx_icmp_ne (pc' := 54) hC 58 rfl dX6_isSameAs_51 (by decide) (fun h5 => ?_) (fun h5 => ?_)
        · refine gx_iconst (v := (1 : Int32)) (pc' := 55) hC rfl dX6_isSameAs_54 (by decide) ?_
          refine gx_goto hC 59 dX6_isSameAs_55 (by decide) ?_
          refine gx_istore_n (pc' := 60) hC [(2, .int (1 : Int32)), (0, .ref (a (21 + 2 * i))), (1, .ref (a (21 + 2 * j))), (3, .int x3)] rfl dX6_isSameAs_59 (by decide) rfl ?_
          refine gx_iinc (v := (x3 + (1 : Int32))) (pc' := 63) hC [(3, .int (x3 + (1 : Int32))), (2, .int (1 : Int32)), (0, .ref (a (21 + 2 * i))), (1, .ref (a (21 + 2 * j)))] rfl dX6_isSameAs_60 rfl rfl (by decide) rfl ?_
          refine gx_goto hC 30 dX6_isSameAs_63 (by decide) ?_
          exact gx_sub [(0, .ref (a (21 + 2 * i))), (1, .ref (a (21 + 2 * j))), (2, .int (1 : Int32)), (3, .int (x3 + (1 : Int32)))] [2, 3, 1, 0] rfl (ih (1 : Int32) (x3 + (1 : Int32)) S)
        · refine gx_iconst (v := (0 : Int32)) (pc' := 59) hC rfl dX6_isSameAs_58 (by decide) ?_
          refine gx_istore_n (pc' := 60) hC [(2, .int (0 : Int32)), (0, .ref (a (21 + 2 * i))), (1, .ref (a (21 + 2 * j))), (3, .int x3)] rfl dX6_isSameAs_59 (by decide) rfl ?_
          refine gx_iinc (v := (x3 + (1 : Int32))) (pc' := 63) hC [(3, .int (x3 + (1 : Int32))), (2, .int (0 : Int32)), (0, .ref (a (21 + 2 * i))), (1, .ref (a (21 + 2 * j)))] rfl dX6_isSameAs_60 rfl rfl (by decide) rfl ?_
          refine gx_goto hC 30 dX6_isSameAs_63 (by decide) ?_
          exact gx_sub [(0, .ref (a (21 + 2 * i))), (1, .ref (a (21 + 2 * j))), (2, .int (0 : Int32)), (3, .int (x3 + (1 : Int32)))] [2, 3, 1, 0] rfl (ih (0 : Int32) (x3 + (1 : Int32)) S)
set_option maxHeartbeats 4000000 in
set_option maxRecDepth 100000 in
theorem c_X6_isSameAs {l : Launch} {D : va_G} {tZ : Nat} (cI cZ cR : ClassId) (a : Nat → Nat) (i : Nat) (hi : i < 8) (j : Nat) (hj : j < 8)  (S : St) : MI l D (tyl cI cZ cR) tZ (wX cI cZ cR a) yX6_isSameAs cX6_isSameAs 4 (some .boolean) rm_X6_isSameAs [.ref (a (21 + 2 * i)), .ref (a (21 + 2 * j))] S (m_X6_isSameAs i j  S) := by
  refine gx_metI (by decide) (Nat.le_of_ble_eq_true rfl) ?_
  intro p e s m below meth c A hC
  refine gx_sub [(0, .ref (a (21 + 2 * i))), (1, .ref (a (21 + 2 * j)))] [0, 1] rfl ?_
  rw [m_X6_isSameAs]
  refine gx_aload_n (pc' := 1) hC rfl dX6_isSameAs_0 rfl ?_
  refine gx_get (pc' := 4) hC (21 + 2 * i) (row_at cI cZ cR a _ hi) rfl inw_X6 0 (by decide) lk_X6_15 rfl rfl dX6_isSameAs_1 ?_
  refine gx_aload_n (pc' := 5) hC rfl dX6_isSameAs_4 rfl ?_
  refine gx_get (pc' := 8) hC (21 + 2 * j) (row_at cI cZ cR a _ hj) rfl inw_X6 0 (by decide) lk_X6_15 rfl rfl dX6_isSameAs_5 ?_
  refine gx_icmp_ne (pc' := 11) hC 26 rfl dX6_isSameAs_8 (by decide) (fun h1 => ?_) (fun h1 => ?_)
  · refine gx_aload_n (pc' := 12) hC rfl dX6_isSameAs_11 rfl ?_
    refine gx_get (pc' := 15) hC (21 + 2 * i) (row_at cI cZ cR a _ hi) rfl inw_X6 1 (by decide) lk_X6_19 rfl rfl dX6_isSameAs_12 ?_
    refine gx_aload_n (pc' := 16) hC rfl dX6_isSameAs_15 rfl ?_
    refine gx_get (pc' := 19) hC (21 + 2 * j) (row_at cI cZ cR a _ hj) rfl inw_X6 1 (by decide) lk_X6_19 rfl rfl dX6_isSameAs_16 ?_
    refine gx_icmp_ne (pc' := 22) hC 26 rfl dX6_isSameAs_19 (by decide) (fun h2 => ?_) (fun h2 => ?_)
    · refine gx_iconst (v := (1 : Int32)) (pc' := 23) hC rfl dX6_isSameAs_22 (by decide) ?_
      refine gx_goto hC 27 dX6_isSameAs_23 (by decide) ?_
      refine gx_istore_n (pc' := 28) hC [(2, .int (1 : Int32)), (0, .ref (a (21 + 2 * i))), (1, .ref (a (21 + 2 * j)))] rfl dX6_isSameAs_27 (by decide) rfl ?_
      refine gx_iconst (v := (0 : Int32)) (pc' := 29) hC rfl dX6_isSameAs_28 (by decide) ?_
      refine gx_istore_n (pc' := 30) hC [(3, .int (0 : Int32)), (2, .int (1 : Int32)), (0, .ref (a (21 + 2 * i))), (1, .ref (a (21 + 2 * j)))] rfl dX6_isSameAs_29 (by decide) rfl ?_
      exact gx_sub [(0, .ref (a (21 + 2 * i))), (1, .ref (a (21 + 2 * j))), (2, .int (1 : Int32)), (3, .int (0 : Int32))] [2, 3, 1, 0] rfl (g_X6_isSameAs_L30 hC i hi j hj 10000 (1 : Int32) (0 : Int32) S)
    · refine gx_iconst (v := (0 : Int32)) (pc' := 27) hC rfl dX6_isSameAs_26 (by decide) ?_
      refine gx_istore_n (pc' := 28) hC [(2, .int (0 : Int32)), (0, .ref (a (21 + 2 * i))), (1, .ref (a (21 + 2 * j)))] rfl dX6_isSameAs_27 (by decide) rfl ?_
      refine gx_iconst (v := (0 : Int32)) (pc' := 29) hC rfl dX6_isSameAs_28 (by decide) ?_
      refine gx_istore_n (pc' := 30) hC [(3, .int (0 : Int32)), (2, .int (0 : Int32)), (0, .ref (a (21 + 2 * i))), (1, .ref (a (21 + 2 * j)))] rfl dX6_isSameAs_29 (by decide) rfl ?_
      exact gx_sub [(0, .ref (a (21 + 2 * i))), (1, .ref (a (21 + 2 * j))), (2, .int (0 : Int32)), (3, .int (0 : Int32))] [2, 3, 1, 0] rfl (g_X6_isSameAs_L30 hC i hi j hj 10000 (0 : Int32) (0 : Int32) S)
  · refine gx_iconst (v := (0 : Int32)) (pc' := 27) hC rfl dX6_isSameAs_26 (by decide) ?_
    refine gx_istore_n (pc' := 28) hC [(2, .int (0 : Int32)), (0, .ref (a (21 + 2 * i))), (1, .ref (a (21 + 2 * j)))] rfl dX6_isSameAs_27 (by decide) rfl ?_
    refine gx_iconst (v := (0 : Int32)) (pc' := 29) hC rfl dX6_isSameAs_28 (by decide) ?_
    refine gx_istore_n (pc' := 30) hC [(3, .int (0 : Int32)), (2, .int (0 : Int32)), (0, .ref (a (21 + 2 * i))), (1, .ref (a (21 + 2 * j)))] rfl dX6_isSameAs_29 (by decide) rfl ?_
    exact gx_sub [(0, .ref (a (21 + 2 * i))), (1, .ref (a (21 + 2 * j))), (2, .int (0 : Int32)), (3, .int (0 : Int32))] [2, 3, 1, 0] rfl (g_X6_isSameAs_L30 hC i hi j hj 10000 (0 : Int32) (0 : Int32) S)
set_option maxHeartbeats 4000000 in
set_option maxRecDepth 100000 in
theorem c_X3_writeAdvance {l : Launch} {D : va_G} {tZ : Nat} (cI cZ cR : ClassId) (a : Nat → Nat) (x1 : Int32) (S : St) : MV l D (tyl cI cZ cR) tZ (wX cI cZ cR a) yX3_writeAdvance cX3_writeAdvance 2 none rm_X3_writeAdvance [.ref (a 5), .int x1] S (m_X3_writeAdvance x1 S) := by
  refine gx_metV (by decide) (Nat.le_of_ble_eq_true rfl) ?_
  intro p e s m below meth c A hC
  refine gx_sub [(0, .ref (a 5)), (1, .int x1)] [0, 1] rfl ?_
  rw [m_X3_writeAdvance]
  refine gx_iload_n (pc' := 1) hC rfl dX3_writeAdvance_0 rfl ?_
  refine gx_bipush (v := (63 : Int32)) (pc' := 3) hC rfl dX3_writeAdvance_1 (by decide) ?_
  refine gx_icmp_gt (pc' := 6) hC 20 rfl dX3_writeAdvance_3 (by decide) (fun h1 => ?_) (fun h1 => ?_)
  · refine gx_aload_n (pc' := 21) hC rfl dX3_writeAdvance_20 rfl ?_
    refine gx_get (pc' := 24) hC 5 (atX5 cI cZ cR a _) rfl inw_X3 1 (by decide) lk_X3_25 rfl rfl dX3_writeAdvance_21 ?_
    refine gx_iconst (v := (2 : Int32)) (pc' := 25) hC rfl dX3_writeAdvance_24 (by decide) ?_
    refine gx_callVV (pc' := 28) hC (c_X7_append cI cZ cR a (2 : Int32) _) 11 (atX11 cI cZ cR a _) rfl kw_X3_67 hy_X7_append ⟨rfl, rfl⟩ (by decide) rfl rfl (Nat.le_of_ble_eq_true rfl) rfl dX3_writeAdvance_25 (fun r1 => ?_)
    refine gx_aload_n (pc' := 29) hC rfl dX3_writeAdvance_28 rfl ?_
    refine gx_get (pc' := 32) hC 5 (atX5 cI cZ cR a _) rfl inw_X3 1 (by decide) lk_X3_25 rfl rfl dX3_writeAdvance_29 ?_
    refine gx_iload_n (pc' := 33) hC rfl dX3_writeAdvance_32 rfl ?_
    refine gx_callVV (pc' := 36) hC (c_X7_append cI cZ cR a x1 _) 11 (atX11 cI cZ cR a _) rfl kw_X3_67 hy_X7_append ⟨rfl, rfl⟩ (by decide) rfl rfl (Nat.le_of_ble_eq_true rfl) rfl dX3_writeAdvance_33 (fun r2 => ?_)
    exact gx_vret hC dX3_writeAdvance_36
  · refine gx_aload_n (pc' := 7) hC rfl dX3_writeAdvance_6 rfl ?_
    refine gx_get (pc' := 10) hC 5 (atX5 cI cZ cR a _) rfl inw_X3 1 (by decide) lk_X3_25 rfl rfl dX3_writeAdvance_7 ?_
    refine gx_bipush (v := (64 : Int32)) (pc' := 12) hC rfl dX3_writeAdvance_10 (by decide) ?_
    refine gx_iload_n (pc' := 13) hC rfl dX3_writeAdvance_12 rfl ?_
    refine gx_iadd (pc' := 14) hC rfl dX3_writeAdvance_13 ?_
    refine gx_callVV (pc' := 17) hC (c_X7_append cI cZ cR a ((64 : Int32) + x1) _) 11 (atX11 cI cZ cR a _) rfl kw_X3_67 hy_X7_append ⟨rfl, rfl⟩ (by decide) rfl rfl (Nat.le_of_ble_eq_true rfl) rfl dX3_writeAdvance_14 (fun r3 => ?_)
    refine gx_goto hC 36 dX3_writeAdvance_17 (by decide) ?_
    exact gx_vret hC dX3_writeAdvance_36
set_option maxHeartbeats 4000000 in
set_option maxRecDepth 100000 in
theorem g_X3_writeBase_L95 {p : Program} {l : Launch} {e : Env} {s : State} {m : MethodId} {args : Array Value} {below : List Frame} {meth : Method} {c : Code} {D : va_G} {cI cZ cR : ClassId} {a : Nat → Nat} {tZ : Nat} {A : Nat → Prop} (hC : CX p s m args meth c cX3_writeBase 3 none yX3_writeBase.cls D (tyl cI cZ cR) tZ A) (x1 : Int32) (x2 : Int32) (S : St) : GX p l e rm_X3_writeBase s m args below meth c 3 D A (wX cI cZ cR a) (KV below D (tyl cI cZ cR) (wX cI cZ cR a) A args s) 95 [(0, .ref (a 5)), (1, .int x1), (2, .int x2)] [] S (m_X3_writeBase_L95 x1 x2 S) := by
  rw [m_X3_writeBase_L95]
  refine gx_iload_n (pc' := 96) hC rfl dX3_writeBase_95 rfl ?_
  refine gx_if_eq (pc' := 99) hC 113 rfl dX3_writeBase_96 (by decide) (fun h10 => ?_) (fun h10 => ?_)
  · refine gx_iload_n (pc' := 114) hC rfl dX3_writeBase_113 rfl ?_
    refine gx_if_eq (pc' := 117) hC 131 rfl dX3_writeBase_114 (by decide) (fun h11 => ?_) (fun h11 => ?_)
    · exact gx_vret hC dX3_writeBase_131
    · refine gx_aload_n (pc' := 118) hC rfl dX3_writeBase_117 rfl ?_
      refine gx_get (pc' := 121) hC 5 (atX5 cI cZ cR a _) rfl inw_X3 1 (by decide) lk_X3_25 rfl rfl dX3_writeBase_118 ?_
      refine gx_aload_n (pc' := 122) hC rfl dX3_writeBase_121 rfl ?_
      refine gx_get (pc' := 125) hC 5 (atX5 cI cZ cR a _) rfl inw_X3 4 (by decide) lk_X3_18 rfl rfl dX3_writeBase_122 ?_
      refine gx_getN (pc' := 128) hC 23 (atX23 cI cZ cR a _) rfl inw_X6 1 (by decide) lk_X3_105 rfl rfl dX3_writeBase_125 ?_
      refine gx_callVV (pc' := 131) hC (c_X7_append cI cZ cR a (S 20 20) _) 11 (atX11 cI cZ cR a _) rfl kw_X3_67 hy_X7_append ⟨rfl, rfl⟩ (by decide) rfl rfl (Nat.le_of_ble_eq_true rfl) rfl dX3_writeBase_128 (fun r6 => ?_)
      exact gx_vret hC dX3_writeBase_131
  · refine gx_aload_n (pc' := 100) hC rfl dX3_writeBase_99 rfl ?_
    refine gx_get (pc' := 103) hC 5 (atX5 cI cZ cR a _) rfl inw_X3 1 (by decide) lk_X3_25 rfl rfl dX3_writeBase_100 ?_
    refine gx_aload_n (pc' := 104) hC rfl dX3_writeBase_103 rfl ?_
    refine gx_get (pc' := 107) hC 5 (atX5 cI cZ cR a _) rfl inw_X3 4 (by decide) lk_X3_18 rfl rfl dX3_writeBase_104 ?_
    refine gx_getN (pc' := 110) hC 23 (atX23 cI cZ cR a _) rfl inw_X6 0 (by decide) lk_X3_102 rfl rfl dX3_writeBase_107 ?_
    refine gx_callVV (pc' := 113) hC (c_X7_append cI cZ cR a (S 20 19) _) 11 (atX11 cI cZ cR a _) rfl kw_X3_67 hy_X7_append ⟨rfl, rfl⟩ (by decide) rfl rfl (Nat.le_of_ble_eq_true rfl) rfl dX3_writeBase_110 (fun r7 => ?_)
    refine gx_iload_n (pc' := 114) hC rfl dX3_writeBase_113 rfl ?_
    refine gx_if_eq (pc' := 117) hC 131 rfl dX3_writeBase_114 (by decide) (fun h12 => ?_) (fun h12 => ?_)
    · exact gx_vret hC dX3_writeBase_131
    · refine gx_aload_n (pc' := 118) hC rfl dX3_writeBase_117 rfl ?_
      refine gx_get (pc' := 121) hC 5 (atX5 cI cZ cR a _) rfl inw_X3 1 (by decide) lk_X3_25 rfl rfl dX3_writeBase_118 ?_
      refine gx_aload_n (pc' := 122) hC rfl dX3_writeBase_121 rfl ?_
      refine gx_get (pc' := 125) hC 5 (atX5 cI cZ cR a _) rfl inw_X3 4 (by decide) lk_X3_18 rfl rfl dX3_writeBase_122 ?_
      refine gx_getN (pc' := 128) hC 23 (atX23 cI cZ cR a _) rfl inw_X6 1 (by decide) lk_X3_105 rfl rfl dX3_writeBase_125 ?_
      refine gx_callVV (pc' := 131) hC (c_X7_append cI cZ cR a (r7.2 20 20) _) 11 (atX11 cI cZ cR a _) rfl kw_X3_67 hy_X7_append ⟨rfl, rfl⟩ (by decide) rfl rfl (Nat.le_of_ble_eq_true rfl) rfl dX3_writeBase_128 (fun r8 => ?_)
      exact gx_vret hC dX3_writeBase_131
set_option maxHeartbeats 4000000 in
set_option maxRecDepth 100000 in
theorem g_X3_writeBase_L45 {p : Program} {l : Launch} {e : Env} {s : State} {m : MethodId} {args : Array Value} {below : List Frame} {meth : Method} {c : Code} {D : va_G} {cI cZ cR : ClassId} {a : Nat → Nat} {tZ : Nat} {A : Nat → Prop} (hC : CX p s m args meth c cX3_writeBase 3 none yX3_writeBase.cls D (tyl cI cZ cR) tZ A) (x1 : Int32) (z0 : Int32) (S : St) : GX p l e rm_X3_writeBase s m args below meth c 3 D A (wX cI cZ cR a) (KV below D (tyl cI cZ cR) (wX cI cZ cR a) A args s) 45 [(0, .ref (a 5)), (1, .int x1)] [.int z0] S (m_X3_writeBase_L45 x1 z0 S) := by
  rw [m_X3_writeBase_L45]
  refine gx_istore_n (pc' := 46) hC [(2, .int z0), (0, .ref (a 5)), (1, .int x1)] rfl dX3_writeBase_45 (by decide) rfl ?_
  refine gx_iload_n (pc' := 47) hC rfl dX3_writeBase_46 rfl ?_
  refine gx_if_eq (pc' := 50) hC 66 rfl dX3_writeBase_47 (by decide) (fun h4 => ?_) (fun h4 => ?_)
  · refine gx_iload_n (pc' := 67) hC rfl dX3_writeBase_66 rfl ?_
    refine gx_if_eq (pc' := 70) hC 82 rfl dX3_writeBase_67 (by decide) (fun h5 => ?_) (fun h5 => ?_)
    · refine gx_iload_n (pc' := 83) hC rfl dX3_writeBase_82 rfl ?_
      refine gx_if_eq (pc' := 86) hC 95 rfl dX3_writeBase_83 (by decide) (fun h6 => ?_) (fun h6 => ?_)
      · exact gx_sub [(0, .ref (a 5)), (1, .int x1), (2, .int z0)] [1, 2, 0] rfl (g_X3_writeBase_L95 hC x1 z0 S)
      · refine gx_aload_n (pc' := 87) hC rfl dX3_writeBase_86 rfl ?_
        refine gx_get (pc' := 90) hC 5 (atX5 cI cZ cR a _) rfl inw_X3 1 (by decide) lk_X3_25 rfl rfl dX3_writeBase_87 ?_
        refine gx_bipush (v := (14 : Int32)) (pc' := 92) hC rfl dX3_writeBase_90 (by decide) ?_
        refine gx_callVV (pc' := 95) hC (c_X7_append cI cZ cR a (14 : Int32) _) 11 (atX11 cI cZ cR a _) rfl kw_X3_67 hy_X7_append ⟨rfl, rfl⟩ (by decide) rfl rfl (Nat.le_of_ble_eq_true rfl) rfl dX3_writeBase_92 (fun r1 => ?_)
        exact gx_sub [(0, .ref (a 5)), (1, .int x1), (2, .int z0)] [1, 2, 0] rfl (g_X3_writeBase_L95 hC x1 z0 r1.2)
    · refine gx_aload_n (pc' := 71) hC rfl dX3_writeBase_70 rfl ?_
      refine gx_get (pc' := 74) hC 5 (atX5 cI cZ cR a _) rfl inw_X3 1 (by decide) lk_X3_25 rfl rfl dX3_writeBase_71 ?_
      refine gx_bipush (v := (13 : Int32)) (pc' := 76) hC rfl dX3_writeBase_74 (by decide) ?_
      refine gx_callVV (pc' := 79) hC (c_X7_append cI cZ cR a (13 : Int32) _) 11 (atX11 cI cZ cR a _) rfl kw_X3_67 hy_X7_append ⟨rfl, rfl⟩ (by decide) rfl rfl (Nat.le_of_ble_eq_true rfl) rfl dX3_writeBase_76 (fun r2 => ?_)
      refine gx_goto hC 95 dX3_writeBase_79 (by decide) ?_
      exact gx_sub [(0, .ref (a 5)), (1, .int x1), (2, .int z0)] [1, 2, 0] rfl (g_X3_writeBase_L95 hC x1 z0 r2.2)
  · refine gx_iload_n (pc' := 51) hC rfl dX3_writeBase_50 rfl ?_
    refine gx_if_eq (pc' := 54) hC 66 rfl dX3_writeBase_51 (by decide) (fun h7 => ?_) (fun h7 => ?_)
    · refine gx_iload_n (pc' := 67) hC rfl dX3_writeBase_66 rfl ?_
      refine gx_if_eq (pc' := 70) hC 82 rfl dX3_writeBase_67 (by decide) (fun h8 => ?_) (fun h8 => ?_)
      · refine gx_iload_n (pc' := 83) hC rfl dX3_writeBase_82 rfl ?_
        refine gx_if_eq (pc' := 86) hC 95 rfl dX3_writeBase_83 (by decide) (fun h9 => ?_) (fun h9 => ?_)
        · exact gx_sub [(0, .ref (a 5)), (1, .int x1), (2, .int z0)] [1, 2, 0] rfl (g_X3_writeBase_L95 hC x1 z0 S)
        · refine gx_aload_n (pc' := 87) hC rfl dX3_writeBase_86 rfl ?_
          refine gx_get (pc' := 90) hC 5 (atX5 cI cZ cR a _) rfl inw_X3 1 (by decide) lk_X3_25 rfl rfl dX3_writeBase_87 ?_
          refine gx_bipush (v := (14 : Int32)) (pc' := 92) hC rfl dX3_writeBase_90 (by decide) ?_
          refine gx_callVV (pc' := 95) hC (c_X7_append cI cZ cR a (14 : Int32) _) 11 (atX11 cI cZ cR a _) rfl kw_X3_67 hy_X7_append ⟨rfl, rfl⟩ (by decide) rfl rfl (Nat.le_of_ble_eq_true rfl) rfl dX3_writeBase_92 (fun r3 => ?_)
          exact gx_sub [(0, .ref (a 5)), (1, .int x1), (2, .int z0)] [1, 2, 0] rfl (g_X3_writeBase_L95 hC x1 z0 r3.2)
      · refine gx_aload_n (pc' := 71) hC rfl dX3_writeBase_70 rfl ?_
        refine gx_get (pc' := 74) hC 5 (atX5 cI cZ cR a _) rfl inw_X3 1 (by decide) lk_X3_25 rfl rfl dX3_writeBase_71 ?_
        refine gx_bipush (v := (13 : Int32)) (pc' := 76) hC rfl dX3_writeBase_74 (by decide) ?_
        refine gx_callVV (pc' := 79) hC (c_X7_append cI cZ cR a (13 : Int32) _) 11 (atX11 cI cZ cR a _) rfl kw_X3_67 hy_X7_append ⟨rfl, rfl⟩ (by decide) rfl rfl (Nat.le_of_ble_eq_true rfl) rfl dX3_writeBase_76 (fun r4 => ?_)
        refine gx_goto hC 95 dX3_writeBase_79 (by decide) ?_
        exact gx_sub [(0, .ref (a 5)), (1, .int x1), (2, .int z0)] [1, 2, 0] rfl (g_X3_writeBase_L95 hC x1 z0 r4.2)
    · refine gx_aload_n (pc' := 55) hC rfl dX3_writeBase_54 rfl ?_
      refine gx_get (pc' := 58) hC 5 (atX5 cI cZ cR a _) rfl inw_X3 1 (by decide) lk_X3_25 rfl rfl dX3_writeBase_55 ?_
      refine gx_bipush (v := (12 : Int32)) (pc' := 60) hC rfl dX3_writeBase_58 (by decide) ?_
      refine gx_callVV (pc' := 63) hC (c_X7_append cI cZ cR a (12 : Int32) _) 11 (atX11 cI cZ cR a _) rfl kw_X3_67 hy_X7_append ⟨rfl, rfl⟩ (by decide) rfl rfl (Nat.le_of_ble_eq_true rfl) rfl dX3_writeBase_60 (fun r5 => ?_)
      refine gx_goto hC 95 dX3_writeBase_63 (by decide) ?_
      exact gx_sub [(0, .ref (a 5)), (1, .int x1), (2, .int z0)] [1, 2, 0] rfl (g_X3_writeBase_L95 hC x1 z0 r5.2)
set_option maxHeartbeats 4000000 in
set_option maxRecDepth 100000 in
theorem c_X3_writeBase {l : Launch} {D : va_G} {tZ : Nat} (cI cZ cR : ClassId) (a : Nat → Nat)  (S : St) : MV l D (tyl cI cZ cR) tZ (wX cI cZ cR a) yX3_writeBase cX3_writeBase 3 none rm_X3_writeBase [.ref (a 5)] S (m_X3_writeBase  S) := by
  refine gx_metV (by decide) (Nat.le_of_ble_eq_true rfl) ?_
  intro p e s m below meth c A hC
  refine gx_sub [(0, .ref (a 5))] [0] rfl ?_
  rw [m_X3_writeBase]
  refine gx_aload_n (pc' := 1) hC rfl dX3_writeBase_0 rfl ?_
  refine gx_get (pc' := 4) hC 5 (atX5 cI cZ cR a _) rfl inw_X3 4 (by decide) lk_X3_18 rfl rfl dX3_writeBase_1 ?_
  refine gx_getN (pc' := 7) hC 23 (atX23 cI cZ cR a _) rfl inw_X6 0 (by decide) lk_X3_102 rfl rfl dX3_writeBase_4 ?_
  refine gx_aload_n (pc' := 8) hC rfl dX3_writeBase_7 rfl ?_
  refine gx_get (pc' := 11) hC 5 (atX5 cI cZ cR a _) rfl inw_X3 3 (by decide) lk_X3_12 rfl rfl dX3_writeBase_8 ?_
  refine gx_getN (pc' := 14) hC 21 (atX21 cI cZ cR a _) rfl inw_X6 0 (by decide) lk_X3_102 rfl rfl dX3_writeBase_11 ?_
  refine gx_icmp_eq (pc' := 17) hC 21 rfl dX3_writeBase_14 (by decide) (fun h1 => ?_) (fun h1 => ?_)
  · refine gx_iconst (v := (0 : Int32)) (pc' := 22) hC rfl dX3_writeBase_21 (by decide) ?_
    refine gx_istore_n (pc' := 23) hC [(1, .int (0 : Int32)), (0, .ref (a 5))] rfl dX3_writeBase_22 (by decide) rfl ?_
    refine gx_aload_n (pc' := 24) hC rfl dX3_writeBase_23 rfl ?_
    refine gx_get (pc' := 27) hC 5 (atX5 cI cZ cR a _) rfl inw_X3 4 (by decide) lk_X3_18 rfl rfl dX3_writeBase_24 ?_
    refine gx_getN (pc' := 30) hC 23 (atX23 cI cZ cR a _) rfl inw_X6 1 (by decide) lk_X3_105 rfl rfl dX3_writeBase_27 ?_
    refine gx_aload_n (pc' := 31) hC rfl dX3_writeBase_30 rfl ?_
    refine gx_get (pc' := 34) hC 5 (atX5 cI cZ cR a _) rfl inw_X3 3 (by decide) lk_X3_12 rfl rfl dX3_writeBase_31 ?_
    refine gx_getN (pc' := 37) hC 21 (atX21 cI cZ cR a _) rfl inw_X6 1 (by decide) lk_X3_105 rfl rfl dX3_writeBase_34 ?_
    refine gx_icmp_eq (pc' := 40) hC 44 rfl dX3_writeBase_37 (by decide) (fun h2 => ?_) (fun h2 => ?_)
    · refine gx_iconst (v := (0 : Int32)) (pc' := 45) hC rfl dX3_writeBase_44 (by decide) ?_
      exact gx_sub [(0, .ref (a 5)), (1, .int (0 : Int32))] [1, 0] rfl (g_X3_writeBase_L45 hC (0 : Int32) (0 : Int32) S)
    · refine gx_iconst (v := (1 : Int32)) (pc' := 41) hC rfl dX3_writeBase_40 (by decide) ?_
      refine gx_goto hC 45 dX3_writeBase_41 (by decide) ?_
      exact gx_sub [(0, .ref (a 5)), (1, .int (0 : Int32))] [1, 0] rfl (g_X3_writeBase_L45 hC (0 : Int32) (1 : Int32) S)
  · refine gx_iconst (v := (1 : Int32)) (pc' := 18) hC rfl dX3_writeBase_17 (by decide) ?_
    refine gx_goto hC 22 dX3_writeBase_18 (by decide) ?_
    refine gx_istore_n (pc' := 23) hC [(1, .int (1 : Int32)), (0, .ref (a 5))] rfl dX3_writeBase_22 (by decide) rfl ?_
    refine gx_aload_n (pc' := 24) hC rfl dX3_writeBase_23 rfl ?_
    refine gx_get (pc' := 27) hC 5 (atX5 cI cZ cR a _) rfl inw_X3 4 (by decide) lk_X3_18 rfl rfl dX3_writeBase_24 ?_
    refine gx_getN (pc' := 30) hC 23 (atX23 cI cZ cR a _) rfl inw_X6 1 (by decide) lk_X3_105 rfl rfl dX3_writeBase_27 ?_
    refine gx_aload_n (pc' := 31) hC rfl dX3_writeBase_30 rfl ?_
    refine gx_get (pc' := 34) hC 5 (atX5 cI cZ cR a _) rfl inw_X3 3 (by decide) lk_X3_12 rfl rfl dX3_writeBase_31 ?_
    refine gx_getN (pc' := 37) hC 21 (atX21 cI cZ cR a _) rfl inw_X6 1 (by decide) lk_X3_105 rfl rfl dX3_writeBase_34 ?_
    refine gx_icmp_eq (pc' := 40) hC 44 rfl dX3_writeBase_37 (by decide) (fun h3 => ?_) (fun h3 => ?_)
    · refine gx_iconst (v := (0 : Int32)) (pc' := 45) hC rfl dX3_writeBase_44 (by decide) ?_
      exact gx_sub [(0, .ref (a 5)), (1, .int (1 : Int32))] [1, 0] rfl (g_X3_writeBase_L45 hC (1 : Int32) (0 : Int32) S)
    · refine gx_iconst (v := (1 : Int32)) (pc' := 41) hC rfl dX3_writeBase_40 (by decide) ?_
      refine gx_goto hC 45 dX3_writeBase_41 (by decide) ?_
      exact gx_sub [(0, .ref (a 5)), (1, .int (1 : Int32))] [1, 0] rfl (g_X3_writeBase_L45 hC (1 : Int32) (1 : Int32) S)
