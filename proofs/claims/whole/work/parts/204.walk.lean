set_option maxHeartbeats 4000000 in
set_option maxRecDepth 100000 in
theorem g_X3_writeSaved_L2 {p : Program} {l : Launch} {e : Env} {s : State} {m : MethodId} {args : Array Value} {below : List Frame} {meth : Method} {c : Code} {D : va_G} {cI cZ cR : ClassId} {a : Nat → Nat} {tZ : Nat} {A : Nat → Prop} (hC : CX p s m args meth c cX3_writeSaved 3 none yX3_writeSaved.cls D (tyl cI cZ cR) tZ A) : ∀ (n : Nat) (x1 : Int32) (S : St), GX p l e rm_X3_writeSaved s m args below meth c 3 D A (wX cI cZ cR a) (KV below D (tyl cI cZ cR) (wX cI cZ cR a) A args s) 2 [(0, .ref (a 5)), (1, .int x1)] [] S (m_X3_writeSaved_L2 n x1 S) := by
  intro n
  induction n with
  | zero => intro x1 S; exact gx_none
  | succ n ih =>
    intro x1 S
    rw [m_X3_writeSaved_L2]
    refine gx_iload_n (pc' := 3) hC rfl dX3_writeSaved_2 rfl ?_
    refine gx_iconst (v := (3 : Int32)) (pc' := 4) hC rfl dX3_writeSaved_3 (by decide) ?_
    refine gx_icmp_ge (pc' := 7) hC 70 rfl dX3_writeSaved_4 (by decide) (fun h1 => ?_) (fun h1 => ?_)
    · exact gx_vret hC dX3_writeSaved_70
    · refine gx_aload_n (pc' := 8) hC rfl dX3_writeSaved_7 rfl ?_
      refine gx_get (pc' := 11) hC 5 (atX5 cI cZ cR a _) rfl inw_X3 4 (by decide) lk_X3_18 rfl rfl dX3_writeSaved_8 ?_
      refine gx_getN (pc' := 14) hC 23 (atX23 cI cZ cR a _) rfl inw_X6 2 (by decide) lk_X3_108 rfl rfl dX3_writeSaved_11 ?_
      refine gx_iload_n (pc' := 15) hC rfl dX3_writeSaved_14 rfl ?_
      refine gx_iald (pc' := 16) hC 24 0 (atX24 cI cZ cR a _) rfl rfl dX3_writeSaved_15 ?_
      refine gx_istore_n (pc' := 17) hC [(2, .int (S 13 x1.toNatClampNeg)), (0, .ref (a 5)), (1, .int x1)] rfl dX3_writeSaved_16 (by decide) rfl ?_
      refine gx_iload_n (pc' := 18) hC rfl dX3_writeSaved_17 rfl ?_
      refine gx_aload_n (pc' := 19) hC rfl dX3_writeSaved_18 rfl ?_
      refine gx_get (pc' := 22) hC 5 (atX5 cI cZ cR a _) rfl inw_X3 3 (by decide) lk_X3_12 rfl rfl dX3_writeSaved_19 ?_
      refine gx_getN (pc' := 25) hC 21 (atX21 cI cZ cR a _) rfl inw_X6 2 (by decide) lk_X3_108 rfl rfl dX3_writeSaved_22 ?_
      refine gx_iload_n (pc' := 26) hC rfl dX3_writeSaved_25 rfl ?_
      refine gx_iald (pc' := 27) hC 22 0 (atX22 cI cZ cR a _) rfl rfl dX3_writeSaved_26 ?_
      refine gx_icmp_eq (pc' := 30) hC 64 rfl dX3_writeSaved_27 (by decide) (fun h2 => ?_) (fun h2 => ?_)
      · refine gx_iinc (v := (x1 + (1 : Int32))) (pc' := 67) hC [(1, .int (x1 + (1 : Int32))), (2, .int (S 13 x1.toNatClampNeg)), (0, .ref (a 5))] rfl dX3_writeSaved_64 rfl rfl (by decide) rfl ?_
        refine gx_goto hC 2 dX3_writeSaved_67 (by decide) ?_
        exact gx_sub [(0, .ref (a 5)), (1, .int (x1 + (1 : Int32)))] [2, 0] rfl (ih (x1 + (1 : Int32)) S)
      · refine gx_aload_n (pc' := 31) hC rfl dX3_writeSaved_30 rfl ?_
        refine gx_get (pc' := 34) hC 5 (atX5 cI cZ cR a _) rfl inw_X3 1 (by decide) lk_X3_25 rfl rfl dX3_writeSaved_31 ?_
        refine gx_iload_n (pc' := 35) hC rfl dX3_writeSaved_34 rfl ?_
        refine gx_if_ne (pc' := 38) hC 44 rfl dX3_writeSaved_35 (by decide) (fun h3 => ?_) (fun h3 => ?_)
        · refine gx_sipush (v := (192 : Int32)) (pc' := 41) hC rfl dX3_writeSaved_38 (by decide) ?_
          refine gx_goto hC 47 dX3_writeSaved_41 (by decide) ?_
          refine gx_iload_n (pc' := 48) hC rfl dX3_writeSaved_47 rfl ?_
          refine gx_iadd (pc' := 49) hC rfl dX3_writeSaved_48 ?_
          refine gx_callVV (pc' := 52) hC (c_X7_append cI cZ cR a ((192 : Int32) + x1) _) 11 (atX11 cI cZ cR a _) rfl kw_X3_67 hy_X7_append ⟨rfl, rfl⟩ (by decide) rfl rfl (Nat.le_of_ble_eq_true rfl) rfl dX3_writeSaved_49 (fun r3 => ?_)
          refine gx_iload_n (pc' := 53) hC rfl dX3_writeSaved_52 rfl ?_
          refine gx_if_eq (pc' := 56) hC 64 rfl dX3_writeSaved_53 (by decide) (fun h5 => ?_) (fun h5 => ?_)
          · refine gx_iinc (v := (x1 + (1 : Int32))) (pc' := 67) hC [(1, .int (x1 + (1 : Int32))), (2, .int (S 13 x1.toNatClampNeg)), (0, .ref (a 5))] rfl dX3_writeSaved_64 rfl rfl (by decide) rfl ?_
            refine gx_goto hC 2 dX3_writeSaved_67 (by decide) ?_
            exact gx_sub [(0, .ref (a 5)), (1, .int (x1 + (1 : Int32)))] [2, 0] rfl (ih (x1 + (1 : Int32)) r3.2)
          · refine gx_aload_n (pc' := 57) hC rfl dX3_writeSaved_56 rfl ?_
            refine gx_get (pc' := 60) hC 5 (atX5 cI cZ cR a _) rfl inw_X3 1 (by decide) lk_X3_25 rfl rfl dX3_writeSaved_57 ?_
            refine gx_iload_n (pc' := 61) hC rfl dX3_writeSaved_60 rfl ?_
            refine gx_callVV (pc' := 64) hC (c_X7_append cI cZ cR a (S 13 x1.toNatClampNeg) _) 11 (atX11 cI cZ cR a _) rfl kw_X3_67 hy_X7_append ⟨rfl, rfl⟩ (by decide) rfl rfl (Nat.le_of_ble_eq_true rfl) rfl dX3_writeSaved_61 (fun r4 => ?_)
            refine gx_iinc (v := (x1 + (1 : Int32))) (pc' := 67) hC [(1, .int (x1 + (1 : Int32))), (2, .int (S 13 x1.toNatClampNeg)), (0, .ref (a 5))] rfl dX3_writeSaved_64 rfl rfl (by decide) rfl ?_
            refine gx_goto hC 2 dX3_writeSaved_67 (by decide) ?_
            exact gx_sub [(0, .ref (a 5)), (1, .int (x1 + (1 : Int32)))] [2, 0] rfl (ih (x1 + (1 : Int32)) r4.2)
        · refine gx_sipush (v := (128 : Int32)) (pc' := 47) hC rfl dX3_writeSaved_44 (by decide) ?_
          refine gx_iload_n (pc' := 48) hC rfl dX3_writeSaved_47 rfl ?_
          refine gx_iadd (pc' := 49) hC rfl dX3_writeSaved_48 ?_
          refine gx_callVV (pc' := 52) hC (c_X7_append cI cZ cR a ((128 : Int32) + x1) _) 11 (atX11 cI cZ cR a _) rfl kw_X3_67 hy_X7_append ⟨rfl, rfl⟩ (by decide) rfl rfl (Nat.le_of_ble_eq_true rfl) rfl dX3_writeSaved_49 (fun r1 => ?_)
          refine gx_iload_n (pc' := 53) hC rfl dX3_writeSaved_52 rfl ?_
          refine gx_if_eq (pc' := 56) hC 64 rfl dX3_writeSaved_53 (by decide) (fun h4 => ?_) (fun h4 => ?_)
          · refine gx_iinc (v := (x1 + (1 : Int32))) (pc' := 67) hC [(1, .int (x1 + (1 : Int32))), (2, .int (S 13 x1.toNatClampNeg)), (0, .ref (a 5))] rfl dX3_writeSaved_64 rfl rfl (by decide) rfl ?_
            refine gx_goto hC 2 dX3_writeSaved_67 (by decide) ?_
            exact gx_sub [(0, .ref (a 5)), (1, .int (x1 + (1 : Int32)))] [2, 0] rfl (ih (x1 + (1 : Int32)) r1.2)
          · refine gx_aload_n (pc' := 57) hC rfl dX3_writeSaved_56 rfl ?_
            refine gx_get (pc' := 60) hC 5 (atX5 cI cZ cR a _) rfl inw_X3 1 (by decide) lk_X3_25 rfl rfl dX3_writeSaved_57 ?_
            refine gx_iload_n (pc' := 61) hC rfl dX3_writeSaved_60 rfl ?_
            refine gx_callVV (pc' := 64) hC (c_X7_append cI cZ cR a (S 13 x1.toNatClampNeg) _) 11 (atX11 cI cZ cR a _) rfl kw_X3_67 hy_X7_append ⟨rfl, rfl⟩ (by decide) rfl rfl (Nat.le_of_ble_eq_true rfl) rfl dX3_writeSaved_61 (fun r2 => ?_)
            refine gx_iinc (v := (x1 + (1 : Int32))) (pc' := 67) hC [(1, .int (x1 + (1 : Int32))), (2, .int (S 13 x1.toNatClampNeg)), (0, .ref (a 5))] rfl dX3_writeSaved_64 rfl rfl (by decide) rfl ?_
            refine gx_goto hC 2 dX3_writeSaved_67 (by decide) ?_
            exact gx_sub [(0, .ref (a 5)), (1, .int (x1 + (1 : Int32)))] [2, 0] rfl (ih (x1 + (1 : Int32)) r2.2)
set_option maxHeartbeats 4000000 in
set_option maxRecDepth 100000 in
theorem c_X3_writeSaved {l : Launch} {D : va_G} {tZ : Nat} (cI cZ cR : ClassId) (a : Nat → Nat)  (S : St) : MV l D (tyl cI cZ cR) tZ (wX cI cZ cR a) yX3_writeSaved cX3_writeSaved 3 none rm_X3_writeSaved [.ref (a 5)] S (m_X3_writeSaved  S) := by
  refine gx_metV (by decide) (Nat.le_of_ble_eq_true rfl) ?_
  intro p e s m below meth c A hC
  refine gx_sub [(0, .ref (a 5))] [0] rfl ?_
  rw [m_X3_writeSaved]
  refine gx_iconst (v := (0 : Int32)) (pc' := 1) hC rfl dX3_writeSaved_0 (by decide) ?_
  refine gx_istore_n (pc' := 2) hC [(1, .int (0 : Int32)), (0, .ref (a 5))] rfl dX3_writeSaved_1 (by decide) rfl ?_
  exact gx_sub [(0, .ref (a 5)), (1, .int (0 : Int32))] [1, 0] rfl (g_X3_writeSaved_L2 hC 10000 (0 : Int32) S)
set_option maxHeartbeats 4000000 in
set_option maxRecDepth 100000 in
theorem g_X3_writeProgram_L12 {p : Program} {l : Launch} {e : Env} {s : State} {m : MethodId} {args : Array Value} {below : List Frame} {meth : Method} {c : Code} {D : va_G} {cI cZ cR : ClassId} {a : Nat → Nat} {tZ : Nat} {A : Nat → Prop} (hC : CX p s m args meth c cX3_writeProgram 5 none yX3_writeProgram.cls D (tyl cI cZ cR) tZ A) : ∀ (n : Nat) (x2 : Int32) (x3 : Int32) (x4 : Int32) (S : St), GX p l e rm_X3_writeProgram s m args below meth c 5 D A (wX cI cZ cR a) (KV below D (tyl cI cZ cR) (wX cI cZ cR a) A args s) 12 [(0, .ref (a 5)), (2, .int x2), (3, .int x3), (4, .int x4)] [] S (m_X3_writeProgram_L12 n x2 x3 x4 S) := by
  intro n
  induction n with
  | zero => intro x2 x3 x4 S; exact gx_none
  | succ n ih =>
    intro x2 x3 x4 S
    rw [m_X3_writeProgram_L12]
    refine gx_iload (pc' := 14) hC rfl dX3_writeProgram_12 rfl ?_
    refine gx_iload_n (pc' := 15) hC rfl dX3_writeProgram_14 rfl ?_
    refine gx_icmp_ge (pc' := 18) hC 84 rfl dX3_writeProgram_15 (by decide) (fun h1 => ?_) (fun h1 => ?_)
    · exact gx_vret hC dX3_writeProgram_84
    · refine gx_aload_n (pc' := 19) hC rfl dX3_writeProgram_18 rfl ?_
      refine gx_get (pc' := 22) hC 5 (atX5 cI cZ cR a _) rfl inw_X3 2 (by decide) lk_X3_34 rfl rfl dX3_writeProgram_19 ?_
      refine gx_iload (pc' := 24) hC rfl dX3_writeProgram_22 rfl ?_
      refine gx_aload_n (pc' := 25) hC rfl dX3_writeProgram_24 rfl ?_
      refine gx_get (pc' := 28) hC 5 (atX5 cI cZ cR a _) rfl inw_X3 4 (by decide) lk_X3_18 rfl rfl dX3_writeProgram_25 ?_
      refine gx_callVI (pc' := 31) hC (c_X1_fillRow cI cZ cR a x4 _) 6 (atX6 cI cZ cR a _) rfl kw_X3_81 hy_X1_fillRow ⟨rfl, rfl⟩ (by decide) rfl rfl (Nat.le_of_ble_eq_true rfl) rfl dX3_writeProgram_28 (fun r2 => ?_)
      refine gx_if_eq (pc' := 34) hC 78 rfl dX3_writeProgram_31 (by decide) (fun h2 => ?_) (fun h2 => ?_)
      · refine gx_iinc (v := (x4 + (1 : Int32))) (pc' := 81) hC [(4, .int (x4 + (1 : Int32))), (0, .ref (a 5)), (2, .int x2), (3, .int x3)] rfl dX3_writeProgram_78 rfl rfl (by decide) rfl ?_
        refine gx_goto hC 12 dX3_writeProgram_81 (by decide) ?_
        exact gx_sub [(0, .ref (a 5)), (2, .int x2), (3, .int x3), (4, .int (x4 + (1 : Int32)))] [1, 2, 3, 0] rfl (ih x2 x3 (x4 + (1 : Int32)) r2.2)
      · refine gx_aload_n (pc' := 35) hC rfl dX3_writeProgram_34 rfl ?_
        refine gx_get (pc' := 38) hC 5 (atX5 cI cZ cR a _) rfl inw_X3 4 (by decide) lk_X3_18 rfl rfl dX3_writeProgram_35 ?_
        refine gx_aload_n (pc' := 39) hC rfl dX3_writeProgram_38 rfl ?_
        refine gx_get (pc' := 42) hC 5 (atX5 cI cZ cR a _) rfl inw_X3 3 (by decide) lk_X3_12 rfl rfl dX3_writeProgram_39 ?_
        refine gx_callVI (pc' := 45) hC (c_X6_isSameAs cI cZ cR a 1 (by decide) 0 (by decide) _) 23 (atX23 cI cZ cR a _) rfl kw_X3_85 hy_X6_isSameAs ⟨rfl, rfl⟩ (by decide) rfl rfl (Nat.le_of_ble_eq_true rfl) rfl dX3_writeProgram_42 (fun r3 => ?_)
        refine gx_if_ne (pc' := 48) hC 78 rfl dX3_writeProgram_45 (by decide) (fun h3 => ?_) (fun h3 => ?_)
        · refine gx_aload_n (pc' := 49) hC rfl dX3_writeProgram_48 rfl ?_
          refine gx_iload (pc' := 51) hC rfl dX3_writeProgram_49 rfl ?_
          refine gx_iload_n (pc' := 52) hC rfl dX3_writeProgram_51 rfl ?_
          refine gx_isub (pc' := 53) hC rfl dX3_writeProgram_52 ?_
          refine gx_callVV (pc' := 56) hC (c_X3_writeAdvance cI cZ cR a (x4 - x3) _) 5 (atX5 cI cZ cR a _) rfl kw_X3_89 hy_X3_writeAdvance ⟨rfl, rfl⟩ (by decide) rfl rfl (Nat.le_of_ble_eq_true rfl) rfl dX3_writeProgram_53 (fun r4 => ?_)
          refine gx_aload_n (pc' := 57) hC rfl dX3_writeProgram_56 rfl ?_
          refine gx_callVV (pc' := 60) hC (c_X3_writeBase cI cZ cR a  _) 5 (atX5 cI cZ cR a _) rfl kw_X3_92 hy_X3_writeBase ⟨rfl, rfl⟩ (by decide) rfl rfl (Nat.le_of_ble_eq_true rfl) rfl dX3_writeProgram_57 (fun r5 => ?_)
          refine gx_aload_n (pc' := 61) hC rfl dX3_writeProgram_60 rfl ?_
          refine gx_callVV (pc' := 64) hC (c_X3_writeSaved cI cZ cR a  _) 5 (atX5 cI cZ cR a _) rfl kw_X3_95 hy_X3_writeSaved ⟨rfl, rfl⟩ (by decide) rfl rfl (Nat.le_of_ble_eq_true rfl) rfl dX3_writeProgram_61 (fun r6 => ?_)
          refine gx_aload_n (pc' := 65) hC rfl dX3_writeProgram_64 rfl ?_
          refine gx_get (pc' := 68) hC 5 (atX5 cI cZ cR a _) rfl inw_X3 3 (by decide) lk_X3_12 rfl rfl dX3_writeProgram_65 ?_
          refine gx_aload_n (pc' := 69) hC rfl dX3_writeProgram_68 rfl ?_
          refine gx_get (pc' := 72) hC 5 (atX5 cI cZ cR a _) rfl inw_X3 4 (by decide) lk_X3_18 rfl rfl dX3_writeProgram_69 ?_
          refine gx_callVV (pc' := 75) hC (c_X6_copyFrom cI cZ cR a 0 (by decide) 1 (by decide) _) 21 (atX21 cI cZ cR a _) rfl kw_X3_98 hy_X6_copyFrom ⟨rfl, rfl⟩ (by decide) rfl rfl (Nat.le_of_ble_eq_true rfl) rfl dX3_writeProgram_72 (fun r7 => ?_)
          refine gx_iload (pc' := 77) hC rfl dX3_writeProgram_75 rfl ?_
          refine gx_istore_n (pc' := 78) hC [(3, .int x4), (0, .ref (a 5)), (2, .int x2), (4, .int x4)] rfl dX3_writeProgram_77 (by decide) rfl ?_
          refine gx_iinc (v := (x4 + (1 : Int32))) (pc' := 81) hC [(4, .int (x4 + (1 : Int32))), (3, .int x4), (0, .ref (a 5)), (2, .int x2)] rfl dX3_writeProgram_78 rfl rfl (by decide) rfl ?_
          refine gx_goto hC 12 dX3_writeProgram_81 (by decide) ?_
          exact gx_sub [(0, .ref (a 5)), (2, .int x2), (3, .int x4), (4, .int (x4 + (1 : Int32)))] [2, 3, 1, 0] rfl (ih x2 x4 (x4 + (1 : Int32)) r7.2)
        · refine gx_iinc (v := (x4 + (1 : Int32))) (pc' := 81) hC [(4, .int (x4 + (1 : Int32))), (0, .ref (a 5)), (2, .int x2), (3, .int x3)] rfl dX3_writeProgram_78 rfl rfl (by decide) rfl ?_
          refine gx_goto hC 12 dX3_writeProgram_81 (by decide) ?_
          exact gx_sub [(0, .ref (a 5)), (2, .int x2), (3, .int x3), (4, .int (x4 + (1 : Int32)))] [1, 2, 3, 0] rfl (ih x2 x3 (x4 + (1 : Int32)) r3.2)
set_option maxHeartbeats 4000000 in
set_option maxRecDepth 100000 in
theorem c_X3_writeProgram {l : Launch} {D : va_G} {tZ : Nat} (cI cZ cR : ClassId) (a : Nat → Nat) (x1 : Int32) (x2 : Int32) (S : St) : MV l D (tyl cI cZ cR) tZ (wX cI cZ cR a) yX3_writeProgram cX3_writeProgram 5 none rm_X3_writeProgram [.ref (a 5), .int x1, .int x2] S (m_X3_writeProgram x1 x2 S) := by
  refine gx_metV (by decide) (Nat.le_of_ble_eq_true rfl) ?_
  intro p e s m below meth c A hC
  refine gx_sub [(0, .ref (a 5)), (1, .int x1), (2, .int x2)] [0, 1, 2] rfl ?_
  rw [m_X3_writeProgram]
  refine gx_aload_n (pc' := 1) hC rfl dX3_writeProgram_0 rfl ?_
  refine gx_get (pc' := 4) hC 5 (atX5 cI cZ cR a _) rfl inw_X3 3 (by decide) lk_X3_12 rfl rfl dX3_writeProgram_1 ?_
  refine gx_callVV (pc' := 7) hC (c_X6_setToFirst cI cZ cR a 0 (by decide) _) 21 (atX21 cI cZ cR a _) rfl kw_X3_78 hy_X6_setToFirst ⟨rfl, rfl⟩ (by decide) rfl rfl (Nat.le_of_ble_eq_true rfl) rfl dX3_writeProgram_4 (fun r1 => ?_)
  refine gx_iload_n (pc' := 8) hC rfl dX3_writeProgram_7 rfl ?_
  refine gx_istore_n (pc' := 9) hC [(3, .int x1), (0, .ref (a 5)), (1, .int x1), (2, .int x2)] rfl dX3_writeProgram_8 (by decide) rfl ?_
  refine gx_iload_n (pc' := 10) hC rfl dX3_writeProgram_9 rfl ?_
  refine gx_istore (pc' := 12) hC [(4, .int x1), (3, .int x1), (0, .ref (a 5)), (1, .int x1), (2, .int x2)] rfl dX3_writeProgram_10 (by decide) rfl ?_
  exact gx_sub [(0, .ref (a 5)), (2, .int x2), (3, .int x1), (4, .int x1)] [2, 4, 1, 0] rfl (g_X3_writeProgram_L12 hC 10000 x2 x1 x1 r1.2)
set_option maxHeartbeats 4000000 in
set_option maxRecDepth 100000 in
theorem c_X7_change {l : Launch} {D : va_G} {tZ : Nat} (cI cZ cR : ClassId) (a : Nat → Nat) (x1 : Int32) (x2 : Int32) (S : St) : MI l D (tyl cI cZ cR) tZ (wX cI cZ cR a) yX7_change cX7_change 3 (some .boolean) rm_X7_change [.ref (a 11), .int x1, .int x2] S (m_X7_change x1 x2 S) := by
  refine gx_metI (by decide) (Nat.le_of_ble_eq_true rfl) ?_
  intro p e s m below meth c A hC
  refine gx_sub [(0, .ref (a 11)), (1, .int x1), (2, .int x2)] [0, 1, 2] rfl ?_
  rw [m_X7_change]
  refine gx_iload_n (pc' := 1) hC rfl dX7_change_0 rfl ?_
  refine gx_if_lt (pc' := 4) hC 23 rfl dX7_change_1 (by decide) (fun h1 => ?_) (fun h1 => ?_)
  · refine gx_iconst (v := (0 : Int32)) (pc' := 24) hC rfl dX7_change_23 (by decide) ?_
    exact gx_zret hC dX7_change_24
  · refine gx_iload_n (pc' := 5) hC rfl dX7_change_4 rfl ?_
    refine gx_aload_n (pc' := 6) hC rfl dX7_change_5 rfl ?_
    refine gx_get (pc' := 9) hC 11 (atX11 cI cZ cR a _) rfl inw_X7 1 (by decide) lk_X7_15 rfl rfl dX7_change_6 ?_
    refine gx_icmp_ge (pc' := 12) hC 23 rfl dX7_change_9 (by decide) (fun h2 => ?_) (fun h2 => ?_)
    · refine gx_iconst (v := (0 : Int32)) (pc' := 24) hC rfl dX7_change_23 (by decide) ?_
      exact gx_zret hC dX7_change_24
    · refine gx_iload_n (pc' := 13) hC rfl dX7_change_12 rfl ?_
      refine gx_if_lt (pc' := 16) hC 23 rfl dX7_change_13 (by decide) (fun h3 => ?_) (fun h3 => ?_)
      · refine gx_iconst (v := (0 : Int32)) (pc' := 24) hC rfl dX7_change_23 (by decide) ?_
        exact gx_zret hC dX7_change_24
      · refine gx_iload_n (pc' := 17) hC rfl dX7_change_16 rfl ?_
        refine gx_sipush (v := (255 : Int32)) (pc' := 20) hC rfl dX7_change_17 (by decide) ?_
        refine gx_icmp_le (pc' := 23) hC 25 rfl dX7_change_20 (by decide) (fun h4 => ?_) (fun h4 => ?_)
        · refine gx_aload_n (pc' := 26) hC rfl dX7_change_25 rfl ?_
          refine gx_get (pc' := 29) hC 11 (atX11 cI cZ cR a _) rfl inw_X7 0 (by decide) lk_X7_11 rfl rfl dX7_change_26 ?_
          refine gx_iload_n (pc' := 30) hC rfl dX7_change_29 rfl ?_
          refine gx_iload_n (pc' := 31) hC rfl dX7_change_30 rfl ?_
          refine gx_iast (pc' := 32) hC 12 0 (atX12 cI cZ cR a _) rfl (st S 7 x1.toNatClampNeg x2) (stX12 cI cZ cR a _ _ _) rfl dX7_change_31 ?_
          refine gx_iconst (v := (1 : Int32)) (pc' := 33) hC rfl dX7_change_32 (by decide) ?_
          exact gx_zret hC dX7_change_33
        · refine gx_iconst (v := (0 : Int32)) (pc' := 24) hC rfl dX7_change_23 (by decide) ?_
          exact gx_zret hC dX7_change_24
set_option maxHeartbeats 4000000 in
set_option maxRecDepth 100000 in
theorem c_X3_writeFunction {l : Launch} {D : va_G} {tZ : Nat} (cI cZ cR : ClassId) (a : Nat → Nat) (x1 : Int32) (x2 : Int32) (S : St) : MV l D (tyl cI cZ cR) tZ (wX cI cZ cR a) yX3_writeFunction cX3_writeFunction 5 none rm_X3_writeFunction [.ref (a 5), .int x1, .int x2] S (m_X3_writeFunction x1 x2 S) := by
  refine gx_metV (by decide) (Nat.le_of_ble_eq_true rfl) ?_
  intro p e s m below meth c A hC
  refine gx_sub [(0, .ref (a 5)), (1, .int x1), (2, .int x2)] [0, 1, 2] rfl ?_
  rw [m_X3_writeFunction]
  refine gx_aload_n (pc' := 1) hC rfl dX3_writeFunction_0 rfl ?_
  refine gx_get (pc' := 4) hC 5 (atX5 cI cZ cR a _) rfl inw_X3 1 (by decide) lk_X3_25 rfl rfl dX3_writeFunction_1 ?_
  refine gx_getN (pc' := 7) hC 11 (atX11 cI cZ cR a _) rfl inw_X7 1 (by decide) lk_X3_64 rfl rfl dX3_writeFunction_4 ?_
  refine gx_istore_n (pc' := 8) hC [(3, .int (S 20 6)), (0, .ref (a 5)), (1, .int x1), (2, .int x2)] rfl dX3_writeFunction_7 (by decide) rfl ?_
  refine gx_aload_n (pc' := 9) hC rfl dX3_writeFunction_8 rfl ?_
  refine gx_get (pc' := 12) hC 5 (atX5 cI cZ cR a _) rfl inw_X3 1 (by decide) lk_X3_25 rfl rfl dX3_writeFunction_9 ?_
  refine gx_iconst (v := (0 : Int32)) (pc' := 13) hC rfl dX3_writeFunction_12 (by decide) ?_
  refine gx_callVV (pc' := 16) hC (c_X7_append cI cZ cR a (0 : Int32) _) 11 (atX11 cI cZ cR a _) rfl kw_X3_67 hy_X7_append ⟨rfl, rfl⟩ (by decide) rfl rfl (Nat.le_of_ble_eq_true rfl) rfl dX3_writeFunction_13 (fun r1 => ?_)
  refine gx_aload_n (pc' := 17) hC rfl dX3_writeFunction_16 rfl ?_
  refine gx_get (pc' := 20) hC 5 (atX5 cI cZ cR a _) rfl inw_X3 1 (by decide) lk_X3_25 rfl rfl dX3_writeFunction_17 ?_
  refine gx_iconst (v := (0 : Int32)) (pc' := 21) hC rfl dX3_writeFunction_20 (by decide) ?_
  refine gx_callVV (pc' := 24) hC (c_X7_append cI cZ cR a (0 : Int32) _) 11 (atX11 cI cZ cR a _) rfl kw_X3_67 hy_X7_append ⟨rfl, rfl⟩ (by decide) rfl rfl (Nat.le_of_ble_eq_true rfl) rfl dX3_writeFunction_21 (fun r2 => ?_)
  refine gx_aload_n (pc' := 25) hC rfl dX3_writeFunction_24 rfl ?_
  refine gx_get (pc' := 28) hC 5 (atX5 cI cZ cR a _) rfl inw_X3 1 (by decide) lk_X3_25 rfl rfl dX3_writeFunction_25 ?_
  refine gx_iload_n (pc' := 29) hC rfl dX3_writeFunction_28 rfl ?_
  refine gx_callVV (pc' := 32) hC (c_X7_append cI cZ cR a x1 _) 11 (atX11 cI cZ cR a _) rfl kw_X3_67 hy_X7_append ⟨rfl, rfl⟩ (by decide) rfl rfl (Nat.le_of_ble_eq_true rfl) rfl dX3_writeFunction_29 (fun r3 => ?_)
  refine gx_aload_n (pc' := 33) hC rfl dX3_writeFunction_32 rfl ?_
  refine gx_get (pc' := 36) hC 5 (atX5 cI cZ cR a _) rfl inw_X3 1 (by decide) lk_X3_25 rfl rfl dX3_writeFunction_33 ?_
  refine gx_iload_n (pc' := 37) hC rfl dX3_writeFunction_36 rfl ?_
  refine gx_iload_n (pc' := 38) hC rfl dX3_writeFunction_37 rfl ?_
  refine gx_isub (pc' := 39) hC rfl dX3_writeFunction_38 ?_
  refine gx_callVV (pc' := 42) hC (c_X7_append cI cZ cR a (x2 - x1) _) 11 (atX11 cI cZ cR a _) rfl kw_X3_67 hy_X7_append ⟨rfl, rfl⟩ (by decide) rfl rfl (Nat.le_of_ble_eq_true rfl) rfl dX3_writeFunction_39 (fun r4 => ?_)
  refine gx_aload_n (pc' := 43) hC rfl dX3_writeFunction_42 rfl ?_
  refine gx_iload_n (pc' := 44) hC rfl dX3_writeFunction_43 rfl ?_
  refine gx_iload_n (pc' := 45) hC rfl dX3_writeFunction_44 rfl ?_
  refine gx_callVV (pc' := 48) hC (c_X3_writeProgram cI cZ cR a x1 x2 _) 5 (atX5 cI cZ cR a _) rfl kw_X3_71 hy_X3_writeProgram ⟨rfl, rfl⟩ (by decide) rfl rfl (Nat.le_of_ble_eq_true rfl) rfl dX3_writeFunction_45 (fun r5 => ?_)
  refine gx_aload_n (pc' := 49) hC rfl dX3_writeFunction_48 rfl ?_
  refine gx_get (pc' := 52) hC 5 (atX5 cI cZ cR a _) rfl inw_X3 1 (by decide) lk_X3_25 rfl rfl dX3_writeFunction_49 ?_
  refine gx_getN (pc' := 55) hC 11 (atX11 cI cZ cR a _) rfl inw_X7 1 (by decide) lk_X3_64 rfl rfl dX3_writeFunction_52 ?_
  refine gx_iload_n (pc' := 56) hC rfl dX3_writeFunction_55 rfl ?_
  refine gx_isub (pc' := 57) hC rfl dX3_writeFunction_56 ?_
  refine gx_iconst (v := (2 : Int32)) (pc' := 58) hC rfl dX3_writeFunction_57 (by decide) ?_
  refine gx_isub (pc' := 59) hC rfl dX3_writeFunction_58 ?_
  refine gx_istore (pc' := 61) hC [(4, .int (((r5.2 20 6) - (S 20 6)) - (2 : Int32))), (3, .int (S 20 6)), (0, .ref (a 5)), (1, .int x1), (2, .int x2)] rfl dX3_writeFunction_59 (by decide) rfl ?_
  refine gx_aload_n (pc' := 62) hC rfl dX3_writeFunction_61 rfl ?_
  refine gx_get (pc' := 65) hC 5 (atX5 cI cZ cR a _) rfl inw_X3 1 (by decide) lk_X3_25 rfl rfl dX3_writeFunction_62 ?_
  refine gx_iload_n (pc' := 66) hC rfl dX3_writeFunction_65 rfl ?_
  refine gx_iload (pc' := 68) hC rfl dX3_writeFunction_66 rfl ?_
  refine gx_bipush (v := (8 : Int32)) (pc' := 70) hC rfl dX3_writeFunction_68 (by decide) ?_
  refine gx_ishr (pc' := 71) hC rfl dX3_writeFunction_70 ?_
  refine gx_callVI (pc' := 74) hC (c_X7_change cI cZ cR a (S 20 6) ((((r5.2 20 6) - (S 20 6)) - (2 : Int32)) >>> ((8 : Int32) &&& 31)) _) 11 (atX11 cI cZ cR a _) rfl kw_X3_74 hy_X7_change ⟨rfl, rfl⟩ (by decide) rfl rfl (Nat.le_of_ble_eq_true rfl) rfl dX3_writeFunction_71 (fun r6 => ?_)
  refine gx_pop (pc' := 75) hC rfl dX3_writeFunction_74 rfl ?_
  refine gx_aload_n (pc' := 76) hC rfl dX3_writeFunction_75 rfl ?_
  refine gx_get (pc' := 79) hC 5 (atX5 cI cZ cR a _) rfl inw_X3 1 (by decide) lk_X3_25 rfl rfl dX3_writeFunction_76 ?_
  refine gx_iload_n (pc' := 80) hC rfl dX3_writeFunction_79 rfl ?_
  refine gx_iconst (v := (1 : Int32)) (pc' := 81) hC rfl dX3_writeFunction_80 (by decide) ?_
  refine gx_iadd (pc' := 82) hC rfl dX3_writeFunction_81 ?_
  refine gx_iload (pc' := 84) hC rfl dX3_writeFunction_82 rfl ?_
  refine gx_sipush (v := (255 : Int32)) (pc' := 87) hC rfl dX3_writeFunction_84 (by decide) ?_
  refine gx_iand (pc' := 88) hC rfl dX3_writeFunction_87 ?_
  refine gx_callVI (pc' := 91) hC (c_X7_change cI cZ cR a ((S 20 6) + (1 : Int32)) ((((r5.2 20 6) - (S 20 6)) - (2 : Int32)) &&& (255 : Int32)) _) 11 (atX11 cI cZ cR a _) rfl kw_X3_74 hy_X7_change ⟨rfl, rfl⟩ (by decide) rfl rfl (Nat.le_of_ble_eq_true rfl) rfl dX3_writeFunction_88 (fun r7 => ?_)
  refine gx_pop (pc' := 92) hC rfl dX3_writeFunction_91 rfl ?_
  exact gx_vret hC dX3_writeFunction_92
set_option maxHeartbeats 4000000 in
set_option maxRecDepth 100000 in
theorem g_X3_packAll_L61 {p : Program} {l : Launch} {e : Env} {s : State} {m : MethodId} {args : Array Value} {below : List Frame} {meth : Method} {c : Code} {D : va_G} {cI cZ cR : ClassId} {a : Nat → Nat} {tZ : Nat} {A : Nat → Prop} (hC : CX p s m args meth c cX3_packAll 3 (some .int) yX3_packAll.cls D (tyl cI cZ cR) tZ A) : ∀ (n : Nat) (x1 : Int32) (S : St), GX p l e rm_X3_packAll s m args below meth c 3 D A (wX cI cZ cR a) (KI below D (tyl cI cZ cR) (wX cI cZ cR a) A args s) 61 [(0, .ref (a 5)), (1, .int x1)] [] S (m_X3_packAll_L61 n x1 S) := by
  intro n
  induction n with
  | zero => intro x1 S; exact gx_none
  | succ n ih =>
    intro x1 S
    rw [m_X3_packAll_L61]
    refine gx_iload_n (pc' := 62) hC rfl dX3_packAll_61 rfl ?_
    refine gx_aload_n (pc' := 63) hC rfl dX3_packAll_62 rfl ?_
    refine gx_get (pc' := 66) hC 5 (atX5 cI cZ cR a _) rfl inw_X3 0 (by decide) lk_X3_21 rfl rfl dX3_packAll_63 ?_
    refine gx_getN (pc' := 69) hC 1 (atX1 cI cZ cR a _) rfl inw_X4 4 (by decide) lk_X3_38 rfl rfl dX3_packAll_66 ?_
    refine gx_icmp_ge (pc' := 72) hC 100 rfl dX3_packAll_69 (by decide) (fun h3 => ?_) (fun h3 => ?_)
    · refine gx_aload_n (pc' := 101) hC rfl dX3_packAll_100 rfl ?_
      refine gx_get (pc' := 104) hC 5 (atX5 cI cZ cR a _) rfl inw_X3 1 (by decide) lk_X3_25 rfl rfl dX3_packAll_101 ?_
      refine gx_getN (pc' := 107) hC 11 (atX11 cI cZ cR a _) rfl inw_X7 1 (by decide) lk_X3_64 rfl rfl dX3_packAll_104 ?_
      exact gx_iret hC dX3_packAll_107
    · refine gx_aload_n (pc' := 73) hC rfl dX3_packAll_72 rfl ?_
      refine gx_aload_n (pc' := 74) hC rfl dX3_packAll_73 rfl ?_
      refine gx_get (pc' := 77) hC 5 (atX5 cI cZ cR a _) rfl inw_X3 0 (by decide) lk_X3_21 rfl rfl dX3_packAll_74 ?_
      refine gx_getN (pc' := 80) hC 1 (atX1 cI cZ cR a _) rfl inw_X4 1 (by decide) lk_X3_44 rfl rfl dX3_packAll_77 ?_
      refine gx_iload_n (pc' := 81) hC rfl dX3_packAll_80 rfl ?_
      refine gx_iald (pc' := 82) hC 3 0 (atX3 cI cZ cR a _) rfl rfl dX3_packAll_81 ?_
      refine gx_aload_n (pc' := 83) hC rfl dX3_packAll_82 rfl ?_
      refine gx_get (pc' := 86) hC 5 (atX5 cI cZ cR a _) rfl inw_X3 0 (by decide) lk_X3_21 rfl rfl dX3_packAll_83 ?_
      refine gx_getN (pc' := 89) hC 1 (atX1 cI cZ cR a _) rfl inw_X4 2 (by decide) lk_X3_48 rfl rfl dX3_packAll_86 ?_
      refine gx_iload_n (pc' := 90) hC rfl dX3_packAll_89 rfl ?_
      refine gx_iald (pc' := 91) hC 4 0 (atX4 cI cZ cR a _) rfl rfl dX3_packAll_90 ?_
      refine gx_callVV (pc' := 94) hC (c_X3_writeFunction cI cZ cR a (S 1 x1.toNatClampNeg) (S 2 x1.toNatClampNeg) _) 5 (atX5 cI cZ cR a _) rfl kw_X3_60 hy_X3_writeFunction ⟨rfl, rfl⟩ (by decide) rfl rfl (Nat.le_of_ble_eq_true rfl) rfl dX3_packAll_91 (fun r3 => ?_)
      refine gx_iinc (v := (x1 + (1 : Int32))) (pc' := 97) hC [(1, .int (x1 + (1 : Int32))), (0, .ref (a 5))] rfl dX3_packAll_94 rfl rfl (by decide) rfl ?_
      refine gx_goto hC 61 dX3_packAll_97 (by decide) ?_
      exact gx_sub [(0, .ref (a 5)), (1, .int (x1 + (1 : Int32)))] [1, 0] rfl (ih (x1 + (1 : Int32)) r3.2)
set_option maxHeartbeats 4000000 in
set_option maxRecDepth 100000 in
theorem g_X3_packAll_L2 {p : Program} {l : Launch} {e : Env} {s : State} {m : MethodId} {args : Array Value} {below : List Frame} {meth : Method} {c : Code} {D : va_G} {cI cZ cR : ClassId} {a : Nat → Nat} {tZ : Nat} {A : Nat → Prop} (hC : CX p s m args meth c cX3_packAll 3 (some .int) yX3_packAll.cls D (tyl cI cZ cR) tZ A) : ∀ (n : Nat) (x1 : Int32) (S : St), GX p l e rm_X3_packAll s m args below meth c 3 D A (wX cI cZ cR a) (KI below D (tyl cI cZ cR) (wX cI cZ cR a) A args s) 2 [(0, .ref (a 5)), (1, .int x1)] [] S (m_X3_packAll_L2 n x1 S) := by
  intro n
  induction n with
  | zero => intro x1 S; exact gx_none
  | succ n ih =>
    intro x1 S
    rw [m_X3_packAll_L2]
    refine gx_iload_n (pc' := 3) hC rfl dX3_packAll_2 rfl ?_
    refine gx_aload_n (pc' := 4) hC rfl dX3_packAll_3 rfl ?_
    refine gx_get (pc' := 7) hC 5 (atX5 cI cZ cR a _) rfl inw_X3 0 (by decide) lk_X3_21 rfl rfl dX3_packAll_4 ?_
    refine gx_getN (pc' := 10) hC 1 (atX1 cI cZ cR a _) rfl inw_X4 4 (by decide) lk_X3_38 rfl rfl dX3_packAll_7 ?_
    refine gx_icmp_ge (pc' := 13) hC 52 rfl dX3_packAll_10 (by decide) (fun h1 => ?_) (fun h1 => ?_)
    · refine gx_aload_n (pc' := 53) hC rfl dX3_packAll_52 rfl ?_
      refine gx_get (pc' := 56) hC 5 (atX5 cI cZ cR a _) rfl inw_X3 1 (by decide) lk_X3_25 rfl rfl dX3_packAll_53 ?_
      refine gx_callVV (pc' := 59) hC (c_X7_empty cI cZ cR a  _) 11 (atX11 cI cZ cR a _) rfl kw_X3_55 hy_X7_empty ⟨rfl, rfl⟩ (by decide) rfl rfl (Nat.le_of_ble_eq_true rfl) rfl dX3_packAll_56 (fun r1 => ?_)
      refine gx_iconst (v := (0 : Int32)) (pc' := 60) hC rfl dX3_packAll_59 (by decide) ?_
      refine gx_istore_n (pc' := 61) hC [(1, .int (0 : Int32)), (0, .ref (a 5))] rfl dX3_packAll_60 (by decide) rfl ?_
      exact gx_sub [(0, .ref (a 5)), (1, .int (0 : Int32))] [1, 0] rfl (g_X3_packAll_L61 hC 10000 (0 : Int32) r1.2)
    · refine gx_aload_n (pc' := 14) hC rfl dX3_packAll_13 rfl ?_
      refine gx_get (pc' := 17) hC 5 (atX5 cI cZ cR a _) rfl inw_X3 2 (by decide) lk_X3_34 rfl rfl dX3_packAll_14 ?_
      refine gx_aload_n (pc' := 18) hC rfl dX3_packAll_17 rfl ?_
      refine gx_get (pc' := 21) hC 5 (atX5 cI cZ cR a _) rfl inw_X3 0 (by decide) lk_X3_21 rfl rfl dX3_packAll_18 ?_
      refine gx_getN (pc' := 24) hC 1 (atX1 cI cZ cR a _) rfl inw_X4 1 (by decide) lk_X3_44 rfl rfl dX3_packAll_21 ?_
      refine gx_iload_n (pc' := 25) hC rfl dX3_packAll_24 rfl ?_
      refine gx_iald (pc' := 26) hC 3 0 (atX3 cI cZ cR a _) rfl rfl dX3_packAll_25 ?_
      refine gx_aload_n (pc' := 27) hC rfl dX3_packAll_26 rfl ?_
      refine gx_get (pc' := 30) hC 5 (atX5 cI cZ cR a _) rfl inw_X3 0 (by decide) lk_X3_21 rfl rfl dX3_packAll_27 ?_
      refine gx_getN (pc' := 33) hC 1 (atX1 cI cZ cR a _) rfl inw_X4 2 (by decide) lk_X3_48 rfl rfl dX3_packAll_30 ?_
      refine gx_iload_n (pc' := 34) hC rfl dX3_packAll_33 rfl ?_
      refine gx_iald (pc' := 35) hC 4 0 (atX4 cI cZ cR a _) rfl rfl dX3_packAll_34 ?_
      refine gx_callVI (pc' := 38) hC (c_X1_findOut cI cZ cR a (S 1 x1.toNatClampNeg) (S 2 x1.toNatClampNeg) _) 6 (atX6 cI cZ cR a _) rfl kw_X3_51 hy_X1_findOut ⟨rfl, rfl⟩ (by decide) rfl rfl (Nat.le_of_ble_eq_true rfl) rfl dX3_packAll_35 (fun r2 => ?_)
      refine gx_istore_n (pc' := 39) hC [(2, .int r2.1), (0, .ref (a 5)), (1, .int x1)] rfl dX3_packAll_38 (by decide) rfl ?_
      refine gx_iload_n (pc' := 40) hC rfl dX3_packAll_39 rfl ?_
      refine gx_if_eq (pc' := 43) hC 46 rfl dX3_packAll_40 (by decide) (fun h2 => ?_) (fun h2 => ?_)
      · refine gx_iinc (v := (x1 + (1 : Int32))) (pc' := 49) hC [(1, .int (x1 + (1 : Int32))), (2, .int r2.1), (0, .ref (a 5))] rfl dX3_packAll_46 rfl rfl (by decide) rfl ?_
        refine gx_goto hC 2 dX3_packAll_49 (by decide) ?_
        exact gx_sub [(0, .ref (a 5)), (1, .int (x1 + (1 : Int32)))] [2, 0] rfl (ih (x1 + (1 : Int32)) r2.2)
      · refine gx_iload_n (pc' := 44) hC rfl dX3_packAll_43 rfl ?_
        refine gx_ineg (pc' := 45) hC rfl dX3_packAll_44 ?_
        exact gx_iret hC dX3_packAll_45
set_option maxHeartbeats 4000000 in
set_option maxRecDepth 100000 in
theorem c_X3_packAll {l : Launch} {D : va_G} {tZ : Nat} (cI cZ cR : ClassId) (a : Nat → Nat)  (S : St) : MI l D (tyl cI cZ cR) tZ (wX cI cZ cR a) yX3_packAll cX3_packAll 3 (some .int) rm_X3_packAll [.ref (a 5)] S (m_X3_packAll  S) := by
  refine gx_metI (by decide) (Nat.le_of_ble_eq_true rfl) ?_
  intro p e s m below meth c A hC
  refine gx_sub [(0, .ref (a 5))] [0] rfl ?_
  rw [m_X3_packAll]
  refine gx_iconst (v := (0 : Int32)) (pc' := 1) hC rfl dX3_packAll_0 (by decide) ?_
  refine gx_istore_n (pc' := 2) hC [(1, .int (0 : Int32)), (0, .ref (a 5))] rfl dX3_packAll_1 (by decide) rfl ?_
  exact gx_sub [(0, .ref (a 5)), (1, .int (0 : Int32))] [1, 0] rfl (g_X3_packAll_L2 hC 10000 (0 : Int32) S)
set_option maxHeartbeats 4000000 in
set_option maxRecDepth 100000 in
theorem g_X4_append_L29 {p : Program} {l : Launch} {e : Env} {s : State} {m : MethodId} {args : Array Value} {below : List Frame} {meth : Method} {c : Code} {D : va_G} {cI cZ cR : ClassId} {a : Nat → Nat} {tZ : Nat} {A : Nat → Prop} (hC : CX p s m args meth c cX4_append 5 (some .int) yX4_append.cls D (tyl cI cZ cR) tZ A) : ∀ (n : Nat) (x1 : Int64) (x4 : Int32) (S : St), GX p l e rm_X4_append s m args below meth c 5 D A (wX cI cZ cR a) (KI below D (tyl cI cZ cR) (wX cI cZ cR a) A args s) 29 [(0, .ref (a 1)), (1, .long x1), (4, .int x4)] [] S (m_X4_append_L29 n x1 x4 S) := by
  intro n
  induction n with
  | zero => intro x1 x4 S; exact gx_none
  | succ n ih =>
    intro x1 x4 S
    rw [m_X4_append_L29]
    refine gx_iload (pc' := 31) hC rfl dX4_append_29 rfl ?_
    refine gx_if_lt (pc' := 34) hC 71 rfl dX4_append_31 (by decide) (fun h4 => ?_) (fun h4 => ?_)
    · refine gx_aload_n (pc' := 72) hC rfl dX4_append_71 rfl ?_
      refine gx_get (pc' := 75) hC 1 (atX1 cI cZ cR a _) rfl inw_X4 3 (by decide) lk_X4_21 rfl rfl dX4_append_72 ?_
      exact gx_iret hC dX4_append_75
    · refine gx_aload_n (pc' := 35) hC rfl dX4_append_34 rfl ?_
      refine gx_get (pc' := 38) hC 1 (atX1 cI cZ cR a _) rfl inw_X4 0 (by decide) lk_X4_9 rfl rfl dX4_append_35 ?_
      refine gx_aload_n (pc' := 39) hC rfl dX4_append_38 rfl ?_
      refine gx_get (pc' := 42) hC 1 (atX1 cI cZ cR a _) rfl inw_X4 3 (by decide) lk_X4_21 rfl rfl dX4_append_39 ?_
      refine gx_lload_n (pc' := 43) hC rfl dX4_append_42 rfl ?_
      refine gx_bipush (v := (8 : Int32)) (pc' := 45) hC rfl dX4_append_43 (by decide) ?_
      refine gx_iload (pc' := 47) hC rfl dX4_append_45 rfl ?_
      refine gx_imul (pc' := 48) hC rfl dX4_append_47 ?_
      refine gx_lushr (pc' := 49) hC rfl dX4_append_48 ?_
      refine gx_l2i (pc' := 50) hC rfl dX4_append_49 ?_
      refine gx_sipush (v := (255 : Int32)) (pc' := 53) hC rfl dX4_append_50 (by decide) ?_
      refine gx_iand (pc' := 54) hC rfl dX4_append_53 ?_
      refine gx_iast (pc' := 55) hC 2 0 (atX2 cI cZ cR a _) rfl (st S 0 (S 20 0).toNatClampNeg ((((x1.toUInt64 >>> (((8 : Int32) * x4).toInt64.toUInt64 &&& Int64.toUInt64 63)).toInt64).toInt32) &&& (255 : Int32))) (stX2 cI cZ cR a _ _ _) rfl dX4_append_54 ?_
      refine gx_aload_n (pc' := 56) hC rfl dX4_append_55 rfl ?_
      refine gx_dup (pc' := 57) hC rfl dX4_append_56 rfl ?_
      refine gx_get (pc' := 60) hC 1 (atX1 cI cZ cR a _) rfl inw_X4 3 (by decide) lk_X4_21 rfl rfl dX4_append_57 ?_
      refine gx_iconst (v := (1 : Int32)) (pc' := 61) hC rfl dX4_append_60 (by decide) ?_
      refine gx_iadd (pc' := 62) hC rfl dX4_append_61 ?_
      refine gx_put (pc' := 65) hC tyX4_ok nmX4 1 (atX1 cI cZ cR a _) rfl inw_X4 3 (by decide) lk_X4_21 rfl rfl rfl (Nat.le_of_ble_eq_true rfl) (st (st S 0 (S 20 0).toNatClampNeg ((((x1.toUInt64 >>> (((8 : Int32) * x4).toInt64.toUInt64 &&& Int64.toUInt64 63)).toInt64).toInt32) &&& (255 : Int32))) 20 0 (((st S 0 (S 20 0).toNatClampNeg ((((x1.toUInt64 >>> (((8 : Int32) * x4).toInt64.toUInt64 &&& Int64.toUInt64 63)).toInt64).toInt32) &&& (255 : Int32))) 20 0) + (1 : Int32))) (ptX1_3 cI cZ cR a _ _) rfl dX4_append_62 ?_
      refine gx_iinc (v := (x4 + (-1 : Int32))) (pc' := 68) hC [(4, .int (x4 + (-1 : Int32))), (0, .ref (a 1)), (1, .long x1)] rfl dX4_append_65 rfl rfl (by decide) rfl ?_
      refine gx_goto hC 29 dX4_append_68 (by decide) ?_
      exact gx_sub [(0, .ref (a 1)), (1, .long x1), (4, .int (x4 + (-1 : Int32)))] [1, 2, 0] rfl (ih x1 (x4 + (-1 : Int32)) (st (st S 0 (S 20 0).toNatClampNeg ((((x1.toUInt64 >>> (((8 : Int32) * x4).toInt64.toUInt64 &&& Int64.toUInt64 63)).toInt64).toInt32) &&& (255 : Int32))) 20 0 (((st S 0 (S 20 0).toNatClampNeg ((((x1.toUInt64 >>> (((8 : Int32) * x4).toInt64.toUInt64 &&& Int64.toUInt64 63)).toInt64).toInt32) &&& (255 : Int32))) 20 0) + (1 : Int32))))
set_option maxHeartbeats 4000000 in
set_option maxRecDepth 100000 in
theorem c_X4_append {l : Launch} {D : va_G} {tZ : Nat} (cI cZ cR : ClassId) (a : Nat → Nat) (x1 : Int64) (x3 : Int32) (S : St) : MI l D (tyl cI cZ cR) tZ (wX cI cZ cR a) yX4_append cX4_append 5 (some .int) rm_X4_append [.ref (a 1), .long x1, .int x3] S (m_X4_append x1 x3 S) := by
  refine gx_metI (by decide) (Nat.le_of_ble_eq_true rfl) ?_
  intro p e s m below meth c A hC
  refine gx_sub [(0, .ref (a 1)), (1, .long x1), (3, .int x3)] [0, 1, 2] rfl ?_
  rw [m_X4_append]
  refine gx_iload_n (pc' := 1) hC rfl dX4_append_0 rfl ?_
  refine gx_iconst (v := (1 : Int32)) (pc' := 2) hC rfl dX4_append_1 (by decide) ?_
  refine gx_icmp_lt (pc' := 5) hC 22 rfl dX4_append_2 (by decide) (fun h1 => ?_) (fun h1 => ?_)
  · refine gx_iconst (v := (-1 : Int32)) (pc' := 23) hC rfl dX4_append_22 (by decide) ?_
    exact gx_iret hC dX4_append_23
  · refine gx_iload_n (pc' := 6) hC rfl dX4_append_5 rfl ?_
    refine gx_bipush (v := (8 : Int32)) (pc' := 8) hC rfl dX4_append_6 (by decide) ?_
    refine gx_icmp_gt (pc' := 11) hC 22 rfl dX4_append_8 (by decide) (fun h2 => ?_) (fun h2 => ?_)
    · refine gx_iconst (v := (-1 : Int32)) (pc' := 23) hC rfl dX4_append_22 (by decide) ?_
      exact gx_iret hC dX4_append_23
    · refine gx_aload_n (pc' := 12) hC rfl dX4_append_11 rfl ?_
      refine gx_get (pc' := 15) hC 1 (atX1 cI cZ cR a _) rfl inw_X4 3 (by decide) lk_X4_21 rfl rfl dX4_append_12 ?_
      refine gx_iload_n (pc' := 16) hC rfl dX4_append_15 rfl ?_
      refine gx_iadd (pc' := 17) hC rfl dX4_append_16 ?_
      refine gx_bipush (v := (96 : Int32)) (pc' := 19) hC rfl dX4_append_17 (by decide) ?_
      refine gx_icmp_le (pc' := 22) hC 24 rfl dX4_append_19 (by decide) (fun h3 => ?_) (fun h3 => ?_)
      · refine gx_iload_n (pc' := 25) hC rfl dX4_append_24 rfl ?_
        refine gx_iconst (v := (1 : Int32)) (pc' := 26) hC rfl dX4_append_25 (by decide) ?_
        refine gx_isub (pc' := 27) hC rfl dX4_append_26 ?_
        refine gx_istore (pc' := 29) hC [(4, .int (x3 - (1 : Int32))), (0, .ref (a 1)), (1, .long x1), (3, .int x3)] rfl dX4_append_27 (by decide) rfl ?_
        exact gx_sub [(0, .ref (a 1)), (1, .long x1), (4, .int (x3 - (1 : Int32)))] [1, 2, 0] rfl (g_X4_append_L29 hC 10000 x1 (x3 - (1 : Int32)) S)
      · refine gx_iconst (v := (-1 : Int32)) (pc' := 23) hC rfl dX4_append_22 (by decide) ?_
        exact gx_iret hC dX4_append_23
set_option maxHeartbeats 4000000 in
set_option maxRecDepth 100000 in
theorem g_X4_insertFunction_L55 {p : Program} {l : Launch} {e : Env} {s : State} {m : MethodId} {args : Array Value} {below : List Frame} {meth : Method} {c : Code} {D : va_G} {cI cZ cR : ClassId} {a : Nat → Nat} {tZ : Nat} {A : Nat → Prop} (hC : CX p s m args meth c cX4_insertFunction 4 none yX4_insertFunction.cls D (tyl cI cZ cR) tZ A) (x1 : Int32) (x2 : Int32) (x3 : Int32) (S : St) : GX p l e rm_X4_insertFunction s m args below meth c 4 D A (wX cI cZ cR a) (KV below D (tyl cI cZ cR) (wX cI cZ cR a) A args s) 55 [(0, .ref (a 1)), (1, .int x1), (2, .int x2), (3, .int x3)] [] S (m_X4_insertFunction_L55 x1 x2 x3 S) := by
  rw [m_X4_insertFunction_L55]
  refine gx_aload_n (pc' := 56) hC rfl dX4_insertFunction_55 rfl ?_
  refine gx_get (pc' := 59) hC 1 (atX1 cI cZ cR a _) rfl inw_X4 1 (by decide) lk_X4_15 rfl rfl dX4_insertFunction_56 ?_
  refine gx_iload_n (pc' := 60) hC rfl dX4_insertFunction_59 rfl ?_
  refine gx_iload_n (pc' := 61) hC rfl dX4_insertFunction_60 rfl ?_
  refine gx_iast (pc' := 62) hC 3 0 (atX3 cI cZ cR a _) rfl (st S 1 x3.toNatClampNeg x1) (stX3 cI cZ cR a _ _ _) rfl dX4_insertFunction_61 ?_
  refine gx_aload_n (pc' := 63) hC rfl dX4_insertFunction_62 rfl ?_
  refine gx_get (pc' := 66) hC 1 (atX1 cI cZ cR a _) rfl inw_X4 2 (by decide) lk_X4_18 rfl rfl dX4_insertFunction_63 ?_
  refine gx_iload_n (pc' := 67) hC rfl dX4_insertFunction_66 rfl ?_
  refine gx_iload_n (pc' := 68) hC rfl dX4_insertFunction_67 rfl ?_
  refine gx_iast (pc' := 69) hC 4 0 (atX4 cI cZ cR a _) rfl (st (st S 1 x3.toNatClampNeg x1) 2 x3.toNatClampNeg x2) (stX4 cI cZ cR a _ _ _) rfl dX4_insertFunction_68 ?_
  refine gx_aload_n (pc' := 70) hC rfl dX4_insertFunction_69 rfl ?_
  refine gx_dup (pc' := 71) hC rfl dX4_insertFunction_70 rfl ?_
  refine gx_get (pc' := 74) hC 1 (atX1 cI cZ cR a _) rfl inw_X4 4 (by decide) lk_X4_25 rfl rfl dX4_insertFunction_71 ?_
  refine gx_iconst (v := (1 : Int32)) (pc' := 75) hC rfl dX4_insertFunction_74 (by decide) ?_
  refine gx_iadd (pc' := 76) hC rfl dX4_insertFunction_75 ?_
  refine gx_put (pc' := 79) hC tyX4_ok nmX4 1 (atX1 cI cZ cR a _) rfl inw_X4 4 (by decide) lk_X4_25 rfl rfl rfl (Nat.le_of_ble_eq_true rfl) (st (st (st S 1 x3.toNatClampNeg x1) 2 x3.toNatClampNeg x2) 20 1 (((st (st S 1 x3.toNatClampNeg x1) 2 x3.toNatClampNeg x2) 20 1) + (1 : Int32))) (ptX1_4 cI cZ cR a _ _) rfl dX4_insertFunction_76 ?_
  exact gx_vret hC dX4_insertFunction_79
set_option maxHeartbeats 4000000 in
set_option maxRecDepth 100000 in
theorem g_X4_insertFunction_L5 {p : Program} {l : Launch} {e : Env} {s : State} {m : MethodId} {args : Array Value} {below : List Frame} {meth : Method} {c : Code} {D : va_G} {cI cZ cR : ClassId} {a : Nat → Nat} {tZ : Nat} {A : Nat → Prop} (hC : CX p s m args meth c cX4_insertFunction 4 none yX4_insertFunction.cls D (tyl cI cZ cR) tZ A) : ∀ (n : Nat) (x1 : Int32) (x2 : Int32) (x3 : Int32) (S : St), GX p l e rm_X4_insertFunction s m args below meth c 4 D A (wX cI cZ cR a) (KV below D (tyl cI cZ cR) (wX cI cZ cR a) A args s) 5 [(0, .ref (a 1)), (1, .int x1), (2, .int x2), (3, .int x3)] [] S (m_X4_insertFunction_L5 n x1 x2 x3 S) := by
  intro n
  induction n with
  | zero => intro x1 x2 x3 S; exact gx_none
  | succ n ih =>
    intro x1 x2 x3 S
    rw [m_X4_insertFunction_L5]
    refine gx_iload_n (pc' := 6) hC rfl dX4_insertFunction_5 rfl ?_
    refine gx_if_le (pc' := 9) hC 55 rfl dX4_insertFunction_6 (by decide) (fun h1 => ?_) (fun h1 => ?_)
    · exact gx_sub [(0, .ref (a 1)), (1, .int x1), (2, .int x2), (3, .int x3)] [0, 1, 2, 3] rfl (g_X4_insertFunction_L55 hC x1 x2 x3 S)
    · refine gx_aload_n (pc' := 10) hC rfl dX4_insertFunction_9 rfl ?_
      refine gx_get (pc' := 13) hC 1 (atX1 cI cZ cR a _) rfl inw_X4 1 (by decide) lk_X4_15 rfl rfl dX4_insertFunction_10 ?_
      refine gx_iload_n (pc' := 14) hC rfl dX4_insertFunction_13 rfl ?_
      refine gx_iconst (v := (1 : Int32)) (pc' := 15) hC rfl dX4_insertFunction_14 (by decide) ?_
      refine gx_isub (pc' := 16) hC rfl dX4_insertFunction_15 ?_
      refine gx_iald (pc' := 17) hC 3 0 (atX3 cI cZ cR a _) rfl rfl dX4_insertFunction_16 ?_
      refine gx_iload_n (pc' := 18) hC rfl dX4_insertFunction_17 rfl ?_
      refine gx_icmp_le (pc' := 21) hC 55 rfl dX4_insertFunction_18 (by decide) (fun h2 => ?_) (fun h2 => ?_)
      · exact gx_sub [(0, .ref (a 1)), (1, .int x1), (2, .int x2), (3, .int x3)] [0, 1, 2, 3] rfl (g_X4_insertFunction_L55 hC x1 x2 x3 S)
      · refine gx_aload_n (pc' := 22) hC rfl dX4_insertFunction_21 rfl ?_
        refine gx_get (pc' := 25) hC 1 (atX1 cI cZ cR a _) rfl inw_X4 1 (by decide) lk_X4_15 rfl rfl dX4_insertFunction_22 ?_
        refine gx_iload_n (pc' := 26) hC rfl dX4_insertFunction_25 rfl ?_
        refine gx_aload_n (pc' := 27) hC rfl dX4_insertFunction_26 rfl ?_
        refine gx_get (pc' := 30) hC 1 (atX1 cI cZ cR a _) rfl inw_X4 1 (by decide) lk_X4_15 rfl rfl dX4_insertFunction_27 ?_
        refine gx_iload_n (pc' := 31) hC rfl dX4_insertFunction_30 rfl ?_
        refine gx_iconst (v := (1 : Int32)) (pc' := 32) hC rfl dX4_insertFunction_31 (by decide) ?_
        refine gx_isub (pc' := 33) hC rfl dX4_insertFunction_32 ?_
        refine gx_iald (pc' := 34) hC 3 0 (atX3 cI cZ cR a _) rfl rfl dX4_insertFunction_33 ?_
        refine gx_iast (pc' := 35) hC 3 0 (atX3 cI cZ cR a _) rfl (st S 1 x3.toNatClampNeg (S 1 (x3 - (1 : Int32)).toNatClampNeg)) (stX3 cI cZ cR a _ _ _) rfl dX4_insertFunction_34 ?_
        refine gx_aload_n (pc' := 36) hC rfl dX4_insertFunction_35 rfl ?_
        refine gx_get (pc' := 39) hC 1 (atX1 cI cZ cR a _) rfl inw_X4 2 (by decide) lk_X4_18 rfl rfl dX4_insertFunction_36 ?_
        refine gx_iload_n (pc' := 40) hC rfl dX4_insertFunction_39 rfl ?_
        refine gx_aload_n (pc' := 41) hC rfl dX4_insertFunction_40 rfl ?_
        refine gx_get (pc' := 44) hC 1 (atX1 cI cZ cR a _) rfl inw_X4 2 (by decide) lk_X4_18 rfl rfl dX4_insertFunction_41 ?_
        refine gx_iload_n (pc' := 45) hC rfl dX4_insertFunction_44 rfl ?_
        refine gx_iconst (v := (1 : Int32)) (pc' := 46) hC rfl dX4_insertFunction_45 (by decide) ?_
        refine gx_isub (pc' := 47) hC rfl dX4_insertFunction_46 ?_
        refine gx_iald (pc' := 48) hC 4 0 (atX4 cI cZ cR a _) rfl rfl dX4_insertFunction_47 ?_
        refine gx_iast (pc' := 49) hC 4 0 (atX4 cI cZ cR a _) rfl (st (st S 1 x3.toNatClampNeg (S 1 (x3 - (1 : Int32)).toNatClampNeg)) 2 x3.toNatClampNeg ((st S 1 x3.toNatClampNeg (S 1 (x3 - (1 : Int32)).toNatClampNeg)) 2 (x3 - (1 : Int32)).toNatClampNeg)) (stX4 cI cZ cR a _ _ _) rfl dX4_insertFunction_48 ?_
        refine gx_iinc (v := (x3 + (-1 : Int32))) (pc' := 52) hC [(3, .int (x3 + (-1 : Int32))), (0, .ref (a 1)), (1, .int x1), (2, .int x2)] rfl dX4_insertFunction_49 rfl rfl (by decide) rfl ?_
        refine gx_goto hC 5 dX4_insertFunction_52 (by decide) ?_
        exact gx_sub [(0, .ref (a 1)), (1, .int x1), (2, .int x2), (3, .int (x3 + (-1 : Int32)))] [1, 2, 3, 0] rfl (ih x1 x2 (x3 + (-1 : Int32)) (st (st S 1 x3.toNatClampNeg (S 1 (x3 - (1 : Int32)).toNatClampNeg)) 2 x3.toNatClampNeg ((st S 1 x3.toNatClampNeg (S 1 (x3 - (1 : Int32)).toNatClampNeg)) 2 (x3 - (1 : Int32)).toNatClampNeg)))
set_option maxHeartbeats 4000000 in
set_option maxRecDepth 100000 in
theorem c_X4_insertFunction {l : Launch} {D : va_G} {tZ : Nat} (cI cZ cR : ClassId) (a : Nat → Nat) (x1 : Int32) (x2 : Int32) (S : St) : MV l D (tyl cI cZ cR) tZ (wX cI cZ cR a) yX4_insertFunction cX4_insertFunction 4 none rm_X4_insertFunction [.ref (a 1), .int x1, .int x2] S (m_X4_insertFunction x1 x2 S) := by
  refine gx_metV (by decide) (Nat.le_of_ble_eq_true rfl) ?_
  intro p e s m below meth c A hC
  refine gx_sub [(0, .ref (a 1)), (1, .int x1), (2, .int x2)] [0, 1, 2] rfl ?_
  rw [m_X4_insertFunction]
  refine gx_aload_n (pc' := 1) hC rfl dX4_insertFunction_0 rfl ?_
  refine gx_get (pc' := 4) hC 1 (atX1 cI cZ cR a _) rfl inw_X4 4 (by decide) lk_X4_25 rfl rfl dX4_insertFunction_1 ?_
  refine gx_istore_n (pc' := 5) hC [(3, .int (S 20 1)), (0, .ref (a 1)), (1, .int x1), (2, .int x2)] rfl dX4_insertFunction_4 (by decide) rfl ?_
  exact gx_sub [(0, .ref (a 1)), (1, .int x1), (2, .int x2), (3, .int (S 20 1))] [1, 2, 3, 0] rfl (g_X4_insertFunction_L5 hC 10000 x1 x2 (S 20 1) S)
set_option maxHeartbeats 4000000 in
set_option maxRecDepth 100000 in
theorem g_X4_addFunction_L29 {p : Program} {l : Launch} {e : Env} {s : State} {m : MethodId} {args : Array Value} {below : List Frame} {meth : Method} {c : Code} {D : va_G} {cI cZ cR : ClassId} {a : Nat → Nat} {tZ : Nat} {A : Nat → Prop} (hC : CX p s m args meth c cX4_addFunction 4 (some .int) yX4_addFunction.cls D (tyl cI cZ cR) tZ A) : ∀ (n : Nat) (x1 : Int32) (x2 : Int32) (x3 : Int32) (S : St), GX p l e rm_X4_addFunction s m args below meth c 4 D A (wX cI cZ cR a) (KI below D (tyl cI cZ cR) (wX cI cZ cR a) A args s) 29 [(0, .ref (a 1)), (1, .int x1), (2, .int x2), (3, .int x3)] [] S (m_X4_addFunction_L29 n x1 x2 x3 S) := by
  intro n
  induction n with
  | zero => intro x1 x2 x3 S; exact gx_none
  | succ n ih =>
    intro x1 x2 x3 S
    rw [m_X4_addFunction_L29]
    refine gx_iload_n (pc' := 30) hC rfl dX4_addFunction_29 rfl ?_
    refine gx_aload_n (pc' := 31) hC rfl dX4_addFunction_30 rfl ?_
    refine gx_get (pc' := 34) hC 1 (atX1 cI cZ cR a _) rfl inw_X4 4 (by decide) lk_X4_25 rfl rfl dX4_addFunction_31 ?_
    refine gx_icmp_ge (pc' := 37) hC 65 rfl dX4_addFunction_34 (by decide) (fun h5 => ?_) (fun h5 => ?_)
    · refine gx_aload_n (pc' := 66) hC rfl dX4_addFunction_65 rfl ?_
      refine gx_iload_n (pc' := 67) hC rfl dX4_addFunction_66 rfl ?_
      refine gx_iload_n (pc' := 68) hC rfl dX4_addFunction_67 rfl ?_
      refine gx_callVV (pc' := 71) hC (c_X4_insertFunction cI cZ cR a x1 x2 _) 1 (atX1 cI cZ cR a _) rfl kw_X4_28 hy_X4_insertFunction ⟨rfl, rfl⟩ (by decide) rfl rfl (Nat.le_of_ble_eq_true rfl) rfl dX4_addFunction_68 (fun r1 => ?_)
      refine gx_aload_n (pc' := 72) hC rfl dX4_addFunction_71 rfl ?_
      refine gx_get (pc' := 75) hC 1 (atX1 cI cZ cR a _) rfl inw_X4 4 (by decide) lk_X4_25 rfl rfl dX4_addFunction_72 ?_
      exact gx_iret hC dX4_addFunction_75
    · refine gx_iload_n (pc' := 38) hC rfl dX4_addFunction_37 rfl ?_
      refine gx_aload_n (pc' := 39) hC rfl dX4_addFunction_38 rfl ?_
      refine gx_get (pc' := 42) hC 1 (atX1 cI cZ cR a _) rfl inw_X4 2 (by decide) lk_X4_18 rfl rfl dX4_addFunction_39 ?_
      refine gx_iload_n (pc' := 43) hC rfl dX4_addFunction_42 rfl ?_
      refine gx_iald (pc' := 44) hC 4 0 (atX4 cI cZ cR a _) rfl rfl dX4_addFunction_43 ?_
      refine gx_icmp_ge (pc' := 47) hC 59 rfl dX4_addFunction_44 (by decide) (fun h6 => ?_) (fun h6 => ?_)
      · refine gx_iinc (v := (x3 + (1 : Int32))) (pc' := 62) hC [(3, .int (x3 + (1 : Int32))), (0, .ref (a 1)), (1, .int x1), (2, .int x2)] rfl dX4_addFunction_59 rfl rfl (by decide) rfl ?_
        refine gx_goto hC 29 dX4_addFunction_62 (by decide) ?_
        exact gx_sub [(0, .ref (a 1)), (1, .int x1), (2, .int x2), (3, .int (x3 + (1 : Int32)))] [1, 2, 3, 0] rfl (ih x1 x2 (x3 + (1 : Int32)) S)
      · refine gx_aload_n (pc' := 48) hC rfl dX4_addFunction_47 rfl ?_
        refine gx_get (pc' := 51) hC 1 (atX1 cI cZ cR a _) rfl inw_X4 1 (by decide) lk_X4_15 rfl rfl dX4_addFunction_48 ?_
        refine gx_iload_n (pc' := 52) hC rfl dX4_addFunction_51 rfl ?_
        refine gx_iald (pc' := 53) hC 3 0 (atX3 cI cZ cR a _) rfl rfl dX4_addFunction_52 ?_
        refine gx_iload_n (pc' := 54) hC rfl dX4_addFunction_53 rfl ?_
        refine gx_icmp_ge (pc' := 57) hC 59 rfl dX4_addFunction_54 (by decide) (fun h7 => ?_) (fun h7 => ?_)
        · refine gx_iinc (v := (x3 + (1 : Int32))) (pc' := 62) hC [(3, .int (x3 + (1 : Int32))), (0, .ref (a 1)), (1, .int x1), (2, .int x2)] rfl dX4_addFunction_59 rfl rfl (by decide) rfl ?_
          refine gx_goto hC 29 dX4_addFunction_62 (by decide) ?_
          exact gx_sub [(0, .ref (a 1)), (1, .int x1), (2, .int x2), (3, .int (x3 + (1 : Int32)))] [1, 2, 3, 0] rfl (ih x1 x2 (x3 + (1 : Int32)) S)
        · refine gx_iconst (v := (-1 : Int32)) (pc' := 58) hC rfl dX4_addFunction_57 (by decide) ?_
          exact gx_iret hC dX4_addFunction_58
set_option maxHeartbeats 4000000 in
set_option maxRecDepth 100000 in
theorem c_X4_addFunction {l : Launch} {D : va_G} {tZ : Nat} (cI cZ cR : ClassId) (a : Nat → Nat) (x1 : Int32) (x2 : Int32) (S : St) : MI l D (tyl cI cZ cR) tZ (wX cI cZ cR a) yX4_addFunction cX4_addFunction 4 (some .int) rm_X4_addFunction [.ref (a 1), .int x1, .int x2] S (m_X4_addFunction x1 x2 S) := by
  refine gx_metI (by decide) (Nat.le_of_ble_eq_true rfl) ?_
  intro p e s m below meth c A hC
  refine gx_sub [(0, .ref (a 1)), (1, .int x1), (2, .int x2)] [0, 1, 2] rfl ?_
  rw [m_X4_addFunction]
  refine gx_aload_n (pc' := 1) hC rfl dX4_addFunction_0 rfl ?_
  refine gx_get (pc' := 4) hC 1 (atX1 cI cZ cR a _) rfl inw_X4 4 (by decide) lk_X4_25 rfl rfl dX4_addFunction_1 ?_
  refine gx_iconst (v := (5 : Int32)) (pc' := 5) hC rfl dX4_addFunction_4 (by decide) ?_
  refine gx_icmp_ge (pc' := 8) hC 25 rfl dX4_addFunction_5 (by decide) (fun h1 => ?_) (fun h1 => ?_)
  · refine gx_iconst (v := (-1 : Int32)) (pc' := 26) hC rfl dX4_addFunction_25 (by decide) ?_
    exact gx_iret hC dX4_addFunction_26
  · refine gx_iload_n (pc' := 9) hC rfl dX4_addFunction_8 rfl ?_
    refine gx_if_lt (pc' := 12) hC 25 rfl dX4_addFunction_9 (by decide) (fun h2 => ?_) (fun h2 => ?_)
    · refine gx_iconst (v := (-1 : Int32)) (pc' := 26) hC rfl dX4_addFunction_25 (by decide) ?_
      exact gx_iret hC dX4_addFunction_26
    · refine gx_iload_n (pc' := 13) hC rfl dX4_addFunction_12 rfl ?_
      refine gx_iload_n (pc' := 14) hC rfl dX4_addFunction_13 rfl ?_
      refine gx_icmp_ge (pc' := 17) hC 25 rfl dX4_addFunction_14 (by decide) (fun h3 => ?_) (fun h3 => ?_)
      · refine gx_iconst (v := (-1 : Int32)) (pc' := 26) hC rfl dX4_addFunction_25 (by decide) ?_
        exact gx_iret hC dX4_addFunction_26
      · refine gx_iload_n (pc' := 18) hC rfl dX4_addFunction_17 rfl ?_
        refine gx_aload_n (pc' := 19) hC rfl dX4_addFunction_18 rfl ?_
        refine gx_get (pc' := 22) hC 1 (atX1 cI cZ cR a _) rfl inw_X4 3 (by decide) lk_X4_21 rfl rfl dX4_addFunction_19 ?_
        refine gx_icmp_le (pc' := 25) hC 27 rfl dX4_addFunction_22 (by decide) (fun h4 => ?_) (fun h4 => ?_)
        · refine gx_iconst (v := (0 : Int32)) (pc' := 28) hC rfl dX4_addFunction_27 (by decide) ?_
          refine gx_istore_n (pc' := 29) hC [(3, .int (0 : Int32)), (0, .ref (a 1)), (1, .int x1), (2, .int x2)] rfl dX4_addFunction_28 (by decide) rfl ?_
          exact gx_sub [(0, .ref (a 1)), (1, .int x1), (2, .int x2), (3, .int (0 : Int32))] [1, 2, 3, 0] rfl (g_X4_addFunction_L29 hC 10000 x1 x2 (0 : Int32) S)
        · refine gx_iconst (v := (-1 : Int32)) (pc' := 26) hC rfl dX4_addFunction_25 (by decide) ?_
          exact gx_iret hC dX4_addFunction_26
set_option maxHeartbeats 4000000 in
set_option maxRecDepth 100000 in
theorem c_X4_empty {l : Launch} {D : va_G} {tZ : Nat} (cI cZ cR : ClassId) (a : Nat → Nat)  (S : St) : MI l D (tyl cI cZ cR) tZ (wX cI cZ cR a) yX4_empty cX4_empty 2 (some .int) rm_X4_empty [.ref (a 1)] S (m_X4_empty  S) := by
  refine gx_metI (by decide) (Nat.le_of_ble_eq_true rfl) ?_
  intro p e s m below meth c A hC
  refine gx_sub [(0, .ref (a 1))] [0] rfl ?_
  rw [m_X4_empty]
  refine gx_aload_n (pc' := 1) hC rfl dX4_empty_0 rfl ?_
  refine gx_get (pc' := 4) hC 1 (atX1 cI cZ cR a _) rfl inw_X4 4 (by decide) lk_X4_25 rfl rfl dX4_empty_1 ?_
  refine gx_istore_n (pc' := 5) hC [(1, .int (S 20 1)), (0, .ref (a 1))] rfl dX4_empty_4 (by decide) rfl ?_
  refine gx_aload_n (pc' := 6) hC rfl dX4_empty_5 rfl ?_
  refine gx_iconst (v := (0 : Int32)) (pc' := 7) hC rfl dX4_empty_6 (by decide) ?_
  refine gx_put (pc' := 10) hC tyX4_ok nmX4 1 (atX1 cI cZ cR a _) rfl inw_X4 3 (by decide) lk_X4_21 rfl rfl rfl (Nat.le_of_ble_eq_true rfl) (st S 20 0 (0 : Int32)) (ptX1_3 cI cZ cR a _ _) rfl dX4_empty_7 ?_
  refine gx_aload_n (pc' := 11) hC rfl dX4_empty_10 rfl ?_
  refine gx_iconst (v := (0 : Int32)) (pc' := 12) hC rfl dX4_empty_11 (by decide) ?_
  refine gx_put (pc' := 15) hC tyX4_ok nmX4 1 (atX1 cI cZ cR a _) rfl inw_X4 4 (by decide) lk_X4_25 rfl rfl rfl (Nat.le_of_ble_eq_true rfl) (st (st S 20 0 (0 : Int32)) 20 1 (0 : Int32)) (ptX1_4 cI cZ cR a _ _) rfl dX4_empty_12 ?_
  refine gx_iload_n (pc' := 16) hC rfl dX4_empty_15 rfl ?_
  exact gx_iret hC dX4_empty_16
set_option maxHeartbeats 4000000 in
set_option maxRecDepth 100000 in
theorem c_X6_part {l : Launch} {D : va_G} {tZ : Nat} (cI cZ cR : ClassId) (a : Nat → Nat) (i : Nat) (hi : i < 8) (x1 : Int32) (S : St) : MI l D (tyl cI cZ cR) tZ (wX cI cZ cR a) yX6_part cX6_part 2 (some .int) rm_X6_part [.ref (a (21 + 2 * i)), .int x1] S (m_X6_part i x1 S) := by
  refine gx_metI (by decide) (Nat.le_of_ble_eq_true rfl) ?_
  intro p e s m below meth c A hC
  refine gx_sub [(0, .ref (a (21 + 2 * i))), (1, .int x1)] [0, 1] rfl ?_
  rw [m_X6_part]
  refine gx_iload_n (pc' := 1) hC rfl dX6_part_0 rfl ?_
  refine gx_if_lt (pc' := 4) hC 9 rfl dX6_part_1 (by decide) (fun h1 => ?_) (fun h1 => ?_)
  · refine gx_iconst (v := (-1 : Int32)) (pc' := 10) hC rfl dX6_part_9 (by decide) ?_
    exact gx_iret hC dX6_part_10
  · refine gx_iload_n (pc' := 5) hC rfl dX6_part_4 rfl ?_
    refine gx_iconst (v := (5 : Int32)) (pc' := 6) hC rfl dX6_part_5 (by decide) ?_
    refine gx_icmp_lt (pc' := 9) hC 11 rfl dX6_part_6 (by decide) (fun h2 => ?_) (fun h2 => ?_)
    · refine gx_iload_n (pc' := 12) hC rfl dX6_part_11 rfl ?_
      refine gx_if_ne (pc' := 15) hC 20 rfl dX6_part_12 (by decide) (fun h3 => ?_) (fun h3 => ?_)
      · refine gx_aload_n (pc' := 16) hC rfl dX6_part_15 rfl ?_
        refine gx_get (pc' := 19) hC (21 + 2 * i) (row_at cI cZ cR a _ hi) rfl inw_X6 0 (by decide) lk_X6_15 rfl rfl dX6_part_16 ?_
        exact gx_iret hC dX6_part_19
      · refine gx_iload_n (pc' := 21) hC rfl dX6_part_20 rfl ?_
        refine gx_iconst (v := (1 : Int32)) (pc' := 22) hC rfl dX6_part_21 (by decide) ?_
        refine gx_icmp_ne (pc' := 25) hC 32 rfl dX6_part_22 (by decide) (fun h4 => ?_) (fun h4 => ?_)
        · refine gx_aload_n (pc' := 26) hC rfl dX6_part_25 rfl ?_
          refine gx_get (pc' := 29) hC (21 + 2 * i) (row_at cI cZ cR a _ hi) rfl inw_X6 1 (by decide) lk_X6_19 rfl rfl dX6_part_26 ?_
          refine gx_goto hC 40 dX6_part_29 (by decide) ?_
          exact gx_iret hC dX6_part_40
        · refine gx_aload_n (pc' := 33) hC rfl dX6_part_32 rfl ?_
          refine gx_get (pc' := 36) hC (21 + 2 * i) (row_at cI cZ cR a _ hi) rfl inw_X6 2 (by decide) lk_X6_9 rfl rfl dX6_part_33 ?_
          refine gx_iload_n (pc' := 37) hC rfl dX6_part_36 rfl ?_
          refine gx_iconst (v := (2 : Int32)) (pc' := 38) hC rfl dX6_part_37 (by decide) ?_
          refine gx_isub (pc' := 39) hC rfl dX6_part_38 ?_
          refine gx_iald (pc' := 40) hC (22 + 2 * i) 0 (row_sv cI cZ cR a _ hi) rfl rfl dX6_part_39 ?_
          exact gx_iret hC dX6_part_40
    · refine gx_iconst (v := (-1 : Int32)) (pc' := 10) hC rfl dX6_part_9 (by decide) ?_
      exact gx_iret hC dX6_part_10
set_option maxHeartbeats 4000000 in
set_option maxRecDepth 100000 in
theorem c_X8_code {l : Launch} {D : va_G} {tZ : Nat} (cI cZ cR : ClassId) (a : Nat → Nat) (x1 : Int64) (x3 : Int32) (S : St) : MI l D (tyl cI cZ cR) tZ (wX cI cZ cR a) yX8_code cX8_code 5 (some .int) rm_X8_code [.ref (a 0), .long x1, .int x3] S (m_X8_code x1 x3 S) := by
  refine gx_metI (by decide) (Nat.le_of_ble_eq_true rfl) ?_
  intro p e s m below meth c A hC
  refine gx_sub [(0, .ref (a 0)), (1, .long x1), (3, .int x3)] [0, 1, 2] rfl ?_
  rw [m_X8_code]
  refine gx_aload_n (pc' := 1) hC rfl dX8_code_0 rfl ?_
  refine gx_get (pc' := 4) hC 0 (atX0 cI cZ cR a _) rfl inw_X8 0 (by decide) lk_X8_10 rfl rfl dX8_code_1 ?_
  refine gx_lload_n (pc' := 5) hC rfl dX8_code_4 rfl ?_
  refine gx_iload_n (pc' := 6) hC rfl dX8_code_5 rfl ?_
  refine gx_callVI (pc' := 9) hC (c_X4_append cI cZ cR a x1 x3 _) 1 (atX1 cI cZ cR a _) rfl kw_X8_59 hy_X4_append ⟨rfl, rfl⟩ (by decide) rfl rfl (Nat.le_of_ble_eq_true rfl) rfl dX8_code_6 (fun r1 => ?_)
  refine gx_istore (pc' := 11) hC [(4, .int r1.1), (0, .ref (a 0)), (1, .long x1), (3, .int x3)] rfl dX8_code_9 (by decide) rfl ?_
  refine gx_iload (pc' := 13) hC rfl dX8_code_11 rfl ?_
  refine gx_iconst (v := (-1 : Int32)) (pc' := 14) hC rfl dX8_code_13 (by decide) ?_
  refine gx_icmp_eq (pc' := 17) hC 24 rfl dX8_code_14 (by decide) (fun h1 => ?_) (fun h1 => ?_)
  · refine gx_iload (pc' := 26) hC rfl dX8_code_24 rfl ?_
    exact gx_iret hC dX8_code_26
  · refine gx_aload_n (pc' := 18) hC rfl dX8_code_17 rfl ?_
    refine gx_get (pc' := 21) hC 0 (atX0 cI cZ cR a _) rfl inw_X8 4 (by decide) lk_X8_46 rfl rfl dX8_code_18 ?_
    refine gx_callVV (pc' := 24) hC (c_X2_end cI cZ cR a  _) 15 (atX15 cI cZ cR a _) rfl kw_X8_63 hy_X2_end ⟨rfl, rfl⟩ (by decide) rfl rfl (Nat.le_of_ble_eq_true rfl) rfl dX8_code_21 (fun r2 => ?_)
    refine gx_iload (pc' := 26) hC rfl dX8_code_24 rfl ?_
    exact gx_iret hC dX8_code_26
set_option maxHeartbeats 4000000 in
set_option maxRecDepth 100000 in
theorem c_X8_function {l : Launch} {D : va_G} {tZ : Nat} (cI cZ cR : ClassId) (a : Nat → Nat) (x1 : Int32) (x2 : Int32) (S : St) : MI l D (tyl cI cZ cR) tZ (wX cI cZ cR a) yX8_function cX8_function 4 (some .int) rm_X8_function [.ref (a 0), .int x1, .int x2] S (m_X8_function x1 x2 S) := by
  refine gx_metI (by decide) (Nat.le_of_ble_eq_true rfl) ?_
  intro p e s m below meth c A hC
  refine gx_sub [(0, .ref (a 0)), (1, .int x1), (2, .int x2)] [0, 1, 2] rfl ?_
  rw [m_X8_function]
  refine gx_aload_n (pc' := 1) hC rfl dX8_function_0 rfl ?_
  refine gx_get (pc' := 4) hC 0 (atX0 cI cZ cR a _) rfl inw_X8 0 (by decide) lk_X8_10 rfl rfl dX8_function_1 ?_
  refine gx_iload_n (pc' := 5) hC rfl dX8_function_4 rfl ?_
  refine gx_iload_n (pc' := 6) hC rfl dX8_function_5 rfl ?_
  refine gx_callVI (pc' := 9) hC (c_X4_addFunction cI cZ cR a x1 x2 _) 1 (atX1 cI cZ cR a _) rfl kw_X8_66 hy_X4_addFunction ⟨rfl, rfl⟩ (by decide) rfl rfl (Nat.le_of_ble_eq_true rfl) rfl dX8_function_6 (fun r1 => ?_)
  refine gx_istore_n (pc' := 10) hC [(3, .int r1.1), (0, .ref (a 0)), (1, .int x1), (2, .int x2)] rfl dX8_function_9 (by decide) rfl ?_
  refine gx_iload_n (pc' := 11) hC rfl dX8_function_10 rfl ?_
  refine gx_iconst (v := (-1 : Int32)) (pc' := 12) hC rfl dX8_function_11 (by decide) ?_
  refine gx_icmp_eq (pc' := 15) hC 22 rfl dX8_function_12 (by decide) (fun h1 => ?_) (fun h1 => ?_)
  · refine gx_iload_n (pc' := 23) hC rfl dX8_function_22 rfl ?_
    exact gx_iret hC dX8_function_23
  · refine gx_aload_n (pc' := 16) hC rfl dX8_function_15 rfl ?_
    refine gx_get (pc' := 19) hC 0 (atX0 cI cZ cR a _) rfl inw_X8 4 (by decide) lk_X8_46 rfl rfl dX8_function_16 ?_
    refine gx_callVV (pc' := 22) hC (c_X2_end cI cZ cR a  _) 15 (atX15 cI cZ cR a _) rfl kw_X8_63 hy_X2_end ⟨rfl, rfl⟩ (by decide) rfl rfl (Nat.le_of_ble_eq_true rfl) rfl dX8_function_19 (fun r2 => ?_)
    refine gx_iload_n (pc' := 23) hC rfl dX8_function_22 rfl ?_
    exact gx_iret hC dX8_function_23
set_option maxHeartbeats 4000000 in
set_option maxRecDepth 100000 in
theorem c_X8_clear {l : Launch} {D : va_G} {tZ : Nat} (cI cZ cR : ClassId) (a : Nat → Nat)  (S : St) : MI l D (tyl cI cZ cR) tZ (wX cI cZ cR a) yX8_clear cX8_clear 1 (some .int) rm_X8_clear [.ref (a 0)] S (m_X8_clear  S) := by
  refine gx_metI (by decide) (Nat.le_of_ble_eq_true rfl) ?_
  intro p e s m below meth c A hC
  refine gx_sub [(0, .ref (a 0))] [0] rfl ?_
  rw [m_X8_clear]
  refine gx_aload_n (pc' := 1) hC rfl dX8_clear_0 rfl ?_
  refine gx_get (pc' := 4) hC 0 (atX0 cI cZ cR a _) rfl inw_X8 4 (by decide) lk_X8_46 rfl rfl dX8_clear_1 ?_
  refine gx_callVV (pc' := 7) hC (c_X2_end cI cZ cR a  _) 15 (atX15 cI cZ cR a _) rfl kw_X8_63 hy_X2_end ⟨rfl, rfl⟩ (by decide) rfl rfl (Nat.le_of_ble_eq_true rfl) rfl dX8_clear_4 (fun r1 => ?_)
  refine gx_aload_n (pc' := 8) hC rfl dX8_clear_7 rfl ?_
  refine gx_get (pc' := 11) hC 0 (atX0 cI cZ cR a _) rfl inw_X8 0 (by decide) lk_X8_10 rfl rfl dX8_clear_8 ?_
  refine gx_callVI (pc' := 14) hC (c_X4_empty cI cZ cR a  _) 1 (atX1 cI cZ cR a _) rfl kw_X8_70 hy_X4_empty ⟨rfl, rfl⟩ (by decide) rfl rfl (Nat.le_of_ble_eq_true rfl) rfl dX8_clear_11 (fun r2 => ?_)
  exact gx_iret hC dX8_clear_14
set_option maxHeartbeats 4000000 in
set_option maxRecDepth 100000 in
theorem c_X8_pack {l : Launch} {D : va_G} {tZ : Nat} (cI cZ cR : ClassId) (a : Nat → Nat)  (S : St) : MI l D (tyl cI cZ cR) tZ (wX cI cZ cR a) yX8_pack cX8_pack 1 (some .int) rm_X8_pack [.ref (a 0)] S (m_X8_pack  S) := by
  refine gx_metI (by decide) (Nat.le_of_ble_eq_true rfl) ?_
  intro p e s m below meth c A hC
  refine gx_sub [(0, .ref (a 0))] [0] rfl ?_
  rw [m_X8_pack]
  refine gx_aload_n (pc' := 1) hC rfl dX8_pack_0 rfl ?_
  refine gx_get (pc' := 4) hC 0 (atX0 cI cZ cR a _) rfl inw_X8 1 (by decide) lk_X8_28 rfl rfl dX8_pack_1 ?_
  refine gx_callVI (pc' := 7) hC (c_X3_packAll cI cZ cR a  _) 5 (atX5 cI cZ cR a _) rfl kw_X8_74 hy_X3_packAll ⟨rfl, rfl⟩ (by decide) rfl rfl (Nat.le_of_ble_eq_true rfl) rfl dX8_pack_4 (fun r1 => ?_)
  exact gx_iret hC dX8_pack_7
set_option maxHeartbeats 4000000 in
set_option maxRecDepth 100000 in
theorem c_X8_section {l : Launch} {D : va_G} {tZ : Nat} (cI cZ cR : ClassId) (a : Nat → Nat) (x1 : Int32) (S : St) : MI l D (tyl cI cZ cR) tZ (wX cI cZ cR a) yX8_section cX8_section 2 (some .int) rm_X8_section [.ref (a 0), .int x1] S (m_X8_section x1 S) := by
  refine gx_metI (by decide) (Nat.le_of_ble_eq_true rfl) ?_
  intro p e s m below meth c A hC
  refine gx_sub [(0, .ref (a 0)), (1, .int x1)] [0, 1] rfl ?_
  rw [m_X8_section]
  refine gx_aload_n (pc' := 1) hC rfl dX8_section_0 rfl ?_
  refine gx_get (pc' := 4) hC 0 (atX0 cI cZ cR a _) rfl inw_X8 2 (by decide) lk_X8_19 rfl rfl dX8_section_1 ?_
  refine gx_iload_n (pc' := 5) hC rfl dX8_section_4 rfl ?_
  refine gx_callVI (pc' := 8) hC (c_X7_byteAt cI cZ cR a x1 _) 11 (atX11 cI cZ cR a _) rfl kw_X8_77 hy_X7_byteAt ⟨rfl, rfl⟩ (by decide) rfl rfl (Nat.le_of_ble_eq_true rfl) rfl dX8_section_5 (fun r1 => ?_)
  exact gx_iret hC dX8_section_8
set_option maxHeartbeats 4000000 in
set_option maxRecDepth 100000 in
theorem c_X8_poke {l : Launch} {D : va_G} {tZ : Nat} (cI cZ cR : ClassId) (a : Nat → Nat) (x1 : Int32) (x2 : Int32) (S : St) : MI l D (tyl cI cZ cR) tZ (wX cI cZ cR a) yX8_poke cX8_poke 3 (some .boolean) rm_X8_poke [.ref (a 0), .int x1, .int x2] S (m_X8_poke x1 x2 S) := by
  refine gx_metI (by decide) (Nat.le_of_ble_eq_true rfl) ?_
  intro p e s m below meth c A hC
  refine gx_sub [(0, .ref (a 0)), (1, .int x1), (2, .int x2)] [0, 1, 2] rfl ?_
  rw [m_X8_poke]
  refine gx_aload_n (pc' := 1) hC rfl dX8_poke_0 rfl ?_
  refine gx_get (pc' := 4) hC 0 (atX0 cI cZ cR a _) rfl inw_X8 2 (by decide) lk_X8_19 rfl rfl dX8_poke_1 ?_
  refine gx_iload_n (pc' := 5) hC rfl dX8_poke_4 rfl ?_
  refine gx_iload_n (pc' := 6) hC rfl dX8_poke_5 rfl ?_
  refine gx_callVI (pc' := 9) hC (c_X7_change cI cZ cR a x1 x2 _) 11 (atX11 cI cZ cR a _) rfl kw_X8_81 hy_X7_change ⟨rfl, rfl⟩ (by decide) rfl rfl (Nat.le_of_ble_eq_true rfl) rfl dX8_poke_6 (fun r1 => ?_)
  exact gx_zret hC dX8_poke_9
set_option maxHeartbeats 4000000 in
set_option maxRecDepth 100000 in
theorem c_X8_begin {l : Launch} {D : va_G} {tZ : Nat} (cI cZ cR : ClassId) (a : Nat → Nat) (x1 : Int32) (x2 : Int32) (x3 : Int32) (x4 : Int32) (S : St) : MI l D (tyl cI cZ cR) tZ (wX cI cZ cR a) yX8_begin cX8_begin 5 (some .boolean) rm_X8_begin [.ref (a 0), .int x1, .int x2, .int x3, .int x4] S (m_X8_begin x1 x2 x3 x4 S) := by
  refine gx_metI (by decide) (Nat.le_of_ble_eq_true rfl) ?_
  intro p e s m below meth c A hC
  refine gx_sub [(0, .ref (a 0)), (1, .int x1), (2, .int x2), (3, .int x3), (4, .int x4)] [0, 1, 2, 3, 4] rfl ?_
  rw [m_X8_begin]
  refine gx_aload_n (pc' := 1) hC rfl dX8_begin_0 rfl ?_
  refine gx_get (pc' := 4) hC 0 (atX0 cI cZ cR a _) rfl inw_X8 4 (by decide) lk_X8_46 rfl rfl dX8_begin_1 ?_
  refine gx_iload_n (pc' := 5) hC rfl dX8_begin_4 rfl ?_
  refine gx_iload_n (pc' := 6) hC rfl dX8_begin_5 rfl ?_
  refine gx_iload_n (pc' := 7) hC rfl dX8_begin_6 rfl ?_
  refine gx_iload (pc' := 9) hC rfl dX8_begin_7 rfl ?_
  refine gx_callVI (pc' := 12) hC (c_X2_start cI cZ cR a x1 x2 x3 x4 _) 15 (atX15 cI cZ cR a _) rfl kw_X8_100 hy_X2_start ⟨rfl, rfl⟩ (by decide) rfl rfl (Nat.le_of_ble_eq_true rfl) rfl dX8_begin_9 (fun r1 => ?_)
  exact gx_zret hC dX8_begin_12
set_option maxHeartbeats 4000000 in
set_option maxRecDepth 100000 in
theorem c_X8_machine {l : Launch} {D : va_G} {tZ : Nat} (cI cZ cR : ClassId) (a : Nat → Nat) (x1 : Int32) (S : St) : MI l D (tyl cI cZ cR) tZ (wX cI cZ cR a) yX8_machine cX8_machine 2 (some .int) rm_X8_machine [.ref (a 0), .int x1] S (m_X8_machine x1 S) := by
  refine gx_metI (by decide) (Nat.le_of_ble_eq_true rfl) ?_
  intro p e s m below meth c A hC
  refine gx_sub [(0, .ref (a 0)), (1, .int x1)] [0, 1] rfl ?_
  rw [m_X8_machine]
  refine gx_aload_n (pc' := 1) hC rfl dX8_machine_0 rfl ?_
  refine gx_get (pc' := 4) hC 0 (atX0 cI cZ cR a _) rfl inw_X8 4 (by decide) lk_X8_46 rfl rfl dX8_machine_1 ?_
  refine gx_iload_n (pc' := 5) hC rfl dX8_machine_4 rfl ?_
  refine gx_callVI (pc' := 8) hC (c_X2_part cI cZ cR a x1 _) 15 (atX15 cI cZ cR a _) rfl kw_X8_117 hy_X2_part ⟨rfl, rfl⟩ (by decide) rfl rfl (Nat.le_of_ble_eq_true rfl) rfl dX8_machine_5 (fun r1 => ?_)
  exact gx_iret hC dX8_machine_8
set_option maxHeartbeats 4000000 in
set_option maxRecDepth 100000 in
theorem c_X8_call {l : Launch} {D : va_G} {tZ : Nat} (cI cZ cR : ClassId) (a : Nat → Nat) (x1 : Int32) (S : St) : MI l D (tyl cI cZ cR) tZ (wX cI cZ cR a) yX8_call cX8_call 2 (some .int) rm_X8_call [.ref (a 0), .int x1] S (m_X8_call x1 S) := by
  refine gx_metI (by decide) (Nat.le_of_ble_eq_true rfl) ?_
  intro p e s m below meth c A hC
  refine gx_sub [(0, .ref (a 0)), (1, .int x1)] [0, 1] rfl ?_
  rw [m_X8_call]
  refine gx_aload_n (pc' := 1) hC rfl dX8_call_0 rfl ?_
  refine gx_get (pc' := 4) hC 0 (atX0 cI cZ cR a _) rfl inw_X8 4 (by decide) lk_X8_46 rfl rfl dX8_call_1 ?_
  refine gx_iload_n (pc' := 5) hC rfl dX8_call_4 rfl ?_
  refine gx_callVI (pc' := 8) hC (c_X2_returnOf cI cZ cR a x1 _) 15 (atX15 cI cZ cR a _) rfl kw_X8_118 hy_X2_returnOf ⟨rfl, rfl⟩ (by decide) rfl rfl (Nat.le_of_ble_eq_true rfl) rfl dX8_call_5 (fun r1 => ?_)
  exact gx_iret hC dX8_call_8
set_option maxHeartbeats 4000000 in
set_option maxRecDepth 100000 in
theorem c_X8_unwind {l : Launch} {D : va_G} {tZ : Nat} (cI cZ cR : ClassId) (a : Nat → Nat)  (S : St) : MI l D (tyl cI cZ cR) tZ (wX cI cZ cR a) yX8_unwind cX8_unwind 1 (some .int) rm_X8_unwind [.ref (a 0)] S (m_X8_unwind  S) := by
  refine gx_metI (by decide) (Nat.le_of_ble_eq_true rfl) ?_
  intro p e s m below meth c A hC
  refine gx_sub [(0, .ref (a 0))] [0] rfl ?_
  rw [m_X8_unwind]
  refine gx_aload_n (pc' := 1) hC rfl dX8_unwind_0 rfl ?_
  refine gx_get (pc' := 4) hC 0 (atX0 cI cZ cR a _) rfl inw_X8 5 (by decide) lk_X8_55 rfl rfl dX8_unwind_1 ?_
  refine gx_callVI (pc' := 7) hC (c_X0_findFrames cI cZ cR a  _) 19 (atX19 cI cZ cR a _) rfl kw_X8_121 hy_X0_findFrames ⟨rfl, rfl⟩ (by decide) rfl rfl (Nat.le_of_ble_eq_true rfl) rfl dX8_unwind_4 (fun r1 => ?_)
  exact gx_iret hC dX8_unwind_7
set_option maxHeartbeats 4000000 in
set_option maxRecDepth 100000 in
theorem c_X8_frame {l : Launch} {D : va_G} {tZ : Nat} (cI cZ cR : ClassId) (a : Nat → Nat) (x1 : Int32) (x2 : Int32) (S : St) : MI l D (tyl cI cZ cR) tZ (wX cI cZ cR a) yX8_frame cX8_frame 3 (some .int) rm_X8_frame [.ref (a 0), .int x1, .int x2] S (m_X8_frame x1 x2 S) := by
  refine gx_metI (by decide) (Nat.le_of_ble_eq_true rfl) ?_
  intro p e s m below meth c A hC
  refine gx_sub [(0, .ref (a 0)), (1, .int x1), (2, .int x2)] [0, 1, 2] rfl ?_
  rw [m_X8_frame]
  refine gx_aload_n (pc' := 1) hC rfl dX8_frame_0 rfl ?_
  refine gx_get (pc' := 4) hC 0 (atX0 cI cZ cR a _) rfl inw_X8 5 (by decide) lk_X8_55 rfl rfl dX8_frame_1 ?_
  refine gx_iload_n (pc' := 5) hC rfl dX8_frame_4 rfl ?_
  refine gx_iload_n (pc' := 6) hC rfl dX8_frame_5 rfl ?_
  refine gx_callVI (pc' := 9) hC (c_X0_part cI cZ cR a x1 x2 _) 19 (atX19 cI cZ cR a _) rfl kw_X8_124 hy_X0_part ⟨rfl, rfl⟩ (by decide) rfl rfl (Nat.le_of_ble_eq_true rfl) rfl dX8_frame_6 (fun r1 => ?_)
  exact gx_iret hC dX8_frame_9
set_option maxHeartbeats 4000000 in
set_option maxRecDepth 100000 in
theorem c_X9_thrown {l : Launch} {D : va_G} {tZ : Nat} (cI cZ cR : ClassId) (a : Nat → Nat)  (S : St) : MI l D (tyl cI cZ cR) tZ (wM cI cZ a) yX9_thrown cX9_thrown 1 (some .int) rm_X9_thrown [.ref (a 0)] S (m_X9_thrown  S) := by
  refine gx_metI (by decide) (Nat.le_of_ble_eq_true rfl) ?_
  intro p e s m below meth c A hC
  refine gx_sub [(0, .ref (a 0))] [0] rfl ?_
  rw [m_X9_thrown]
  refine gx_aload_n (pc' := 1) hC rfl dX9_thrown_0 rfl ?_
  refine gx_get (pc' := 4) hC 0 (atM0 cI cZ a _) rfl inw_X9 0 (by decide) lk_X9_59 rfl rfl dX9_thrown_1 ?_
  exact gx_iret hC dX9_thrown_4
set_option maxHeartbeats 4000000 in
set_option maxRecDepth 100000 in
theorem c_X9_over {l : Launch} {D : va_G} {tZ : Nat} (cI cZ cR : ClassId) (a : Nat → Nat)  (S : St) : MV l D (tyl cI cZ cR) tZ (wM cI cZ a) yX9_over cX9_over 1 none rm_X9_over [.ref (a 0)] S (m_X9_over  S) := by
  refine gx_metV (by decide) (Nat.le_of_ble_eq_true rfl) ?_
  intro p e s m below meth c A hC
  refine gx_sub [(0, .ref (a 0))] [0] rfl ?_
  rw [m_X9_over]
  refine gx_aload_n (pc' := 1) hC rfl dX9_over_0 rfl ?_
  refine gx_aload_n (pc' := 2) hC rfl dX9_over_1 rfl ?_
  refine gx_get (pc' := 5) hC 0 (atM0 cI cZ a _) rfl inw_X9 17 (by decide) lk_X9_63 rfl rfl dX9_over_2 ?_
  refine gx_if_eq (pc' := 8) hC 14 rfl dX9_over_5 (by decide) (fun h1 => ?_) (fun h1 => ?_)
  · refine gx_aload_n (pc' := 15) hC rfl dX9_over_14 rfl ?_
    refine gx_get (pc' := 18) hC 0 (atM0 cI cZ a _) rfl inw_X9 18 (by decide) lk_X9_67 rfl rfl dX9_over_15 ?_
    refine gx_put (pc' := 21) hC tyX9_ok nmX9 0 (atM0 cI cZ a _) rfl inw_X9 18 (by decide) lk_X9_67 rfl rfl rfl (Nat.le_of_ble_eq_true rfl) (st S 30 18 (S 30 18)) (ptM0_18 cI cZ a _ _) rfl dX9_over_18 ?_
    refine gx_aload_n (pc' := 22) hC rfl dX9_over_21 rfl ?_
    refine gx_iconst (v := (0 : Int32)) (pc' := 23) hC rfl dX9_over_22 (by decide) ?_
    refine gx_put (pc' := 26) hC tyX9_ok nmX9 0 (atM0 cI cZ a _) rfl inw_X9 17 (by decide) lk_X9_63 rfl rfl rfl (Nat.le_of_ble_eq_true rfl) (st (st S 30 18 (S 30 18)) 30 17 (0 : Int32)) (ptM0_17 cI cZ a _ _) rfl dX9_over_23 ?_
    exact gx_vret hC dX9_over_26
  · refine gx_sipush (v := (255 : Int32)) (pc' := 11) hC rfl dX9_over_8 (by decide) ?_
    refine gx_goto hC 18 dX9_over_11 (by decide) ?_
    refine gx_put (pc' := 21) hC tyX9_ok nmX9 0 (atM0 cI cZ a _) rfl inw_X9 18 (by decide) lk_X9_67 rfl rfl rfl (Nat.le_of_ble_eq_true rfl) (st S 30 18 (255 : Int32)) (ptM0_18 cI cZ a _ _) rfl dX9_over_18 ?_
    refine gx_aload_n (pc' := 22) hC rfl dX9_over_21 rfl ?_
    refine gx_iconst (v := (0 : Int32)) (pc' := 23) hC rfl dX9_over_22 (by decide) ?_
    refine gx_put (pc' := 26) hC tyX9_ok nmX9 0 (atM0 cI cZ a _) rfl inw_X9 17 (by decide) lk_X9_63 rfl rfl rfl (Nat.le_of_ble_eq_true rfl) (st (st S 30 18 (255 : Int32)) 30 17 (0 : Int32)) (ptM0_17 cI cZ a _ _) rfl dX9_over_23 ?_
    exact gx_vret hC dX9_over_26
set_option maxHeartbeats 4000000 in
set_option maxRecDepth 100000 in
theorem g_X9_code_L38 {p : Program} {l : Launch} {e : Env} {s : State} {m : MethodId} {args : Array Value} {below : List Frame} {meth : Method} {c : Code} {D : va_G} {cI cZ cR : ClassId} {a : Nat → Nat} {tZ : Nat} {A : Nat → Prop} (hC : CX p s m args meth c cX9_code 5 (some .int) yX9_code.cls D (tyl cI cZ cR) tZ A) : ∀ (n : Nat) (x1 : Int64) (x4 : Int32) (S : St), GX p l e rm_X9_code s m args below meth c 5 D A (wM cI cZ a) (KI below D (tyl cI cZ cR) (wM cI cZ a) A args s) 38 [(0, .ref (a 0)), (1, .long x1), (4, .int x4)] [] S (m_X9_code_L38 n x1 x4 S) := by
  intro n
  induction n with
  | zero => intro x1 x4 S; exact gx_none
  | succ n ih =>
    intro x1 x4 S
    rw [m_X9_code_L38]
    refine gx_iload (pc' := 40) hC rfl dX9_code_38 rfl ?_
    refine gx_if_lt (pc' := 43) hC 80 rfl dX9_code_40 (by decide) (fun h4 => ?_) (fun h4 => ?_)
    · refine gx_aload_n (pc' := 81) hC rfl dX9_code_80 rfl ?_
      refine gx_get (pc' := 84) hC 0 (atM0 cI cZ a _) rfl inw_X9 2 (by decide) lk_X9_70 rfl rfl dX9_code_81 ?_
      exact gx_iret hC dX9_code_84
    · refine gx_aload_n (pc' := 44) hC rfl dX9_code_43 rfl ?_
      refine gx_get (pc' := 47) hC 0 (atM0 cI cZ a _) rfl inw_X9 1 (by decide) lk_X9_7 rfl rfl dX9_code_44 ?_
      refine gx_aload_n (pc' := 48) hC rfl dX9_code_47 rfl ?_
      refine gx_get (pc' := 51) hC 0 (atM0 cI cZ a _) rfl inw_X9 2 (by decide) lk_X9_70 rfl rfl dX9_code_48 ?_
      refine gx_lload_n (pc' := 52) hC rfl dX9_code_51 rfl ?_
      refine gx_bipush (v := (8 : Int32)) (pc' := 54) hC rfl dX9_code_52 (by decide) ?_
      refine gx_iload (pc' := 56) hC rfl dX9_code_54 rfl ?_
      refine gx_imul (pc' := 57) hC rfl dX9_code_56 ?_
      refine gx_lshr (pc' := 58) hC rfl dX9_code_57 ?_
      refine gx_l2i (pc' := 59) hC rfl dX9_code_58 ?_
      refine gx_sipush (v := (255 : Int32)) (pc' := 62) hC rfl dX9_code_59 (by decide) ?_
      refine gx_iand (pc' := 63) hC rfl dX9_code_62 ?_
      refine gx_iast (pc' := 64) hC 1 0 (atM1 cI cZ a _) rfl (st S 1 (S 30 2).toNatClampNeg (((x1 >>> (((8 : Int32) * x4).toInt64 &&& 63)).toInt32) &&& (255 : Int32))) (stM1 cI cZ a _ _ _) rfl dX9_code_63 ?_
      refine gx_aload_n (pc' := 65) hC rfl dX9_code_64 rfl ?_
      refine gx_dup (pc' := 66) hC rfl dX9_code_65 rfl ?_
      refine gx_get (pc' := 69) hC 0 (atM0 cI cZ a _) rfl inw_X9 2 (by decide) lk_X9_70 rfl rfl dX9_code_66 ?_
      refine gx_iconst (v := (1 : Int32)) (pc' := 70) hC rfl dX9_code_69 (by decide) ?_
      refine gx_iadd (pc' := 71) hC rfl dX9_code_70 ?_
      refine gx_put (pc' := 74) hC tyX9_ok nmX9 0 (atM0 cI cZ a _) rfl inw_X9 2 (by decide) lk_X9_70 rfl rfl rfl (Nat.le_of_ble_eq_true rfl) (st (st S 1 (S 30 2).toNatClampNeg (((x1 >>> (((8 : Int32) * x4).toInt64 &&& 63)).toInt32) &&& (255 : Int32))) 30 2 (((st S 1 (S 30 2).toNatClampNeg (((x1 >>> (((8 : Int32) * x4).toInt64 &&& 63)).toInt32) &&& (255 : Int32))) 30 2) + (1 : Int32))) (ptM0_2 cI cZ a _ _) rfl dX9_code_71 ?_
      refine gx_iinc (v := (x4 + (-1 : Int32))) (pc' := 77) hC [(4, .int (x4 + (-1 : Int32))), (0, .ref (a 0)), (1, .long x1)] rfl dX9_code_74 rfl rfl (by decide) rfl ?_
      refine gx_goto hC 38 dX9_code_77 (by decide) ?_
      exact gx_sub [(0, .ref (a 0)), (1, .long x1), (4, .int (x4 + (-1 : Int32)))] [1, 2, 0] rfl (ih x1 (x4 + (-1 : Int32)) (st (st S 1 (S 30 2).toNatClampNeg (((x1 >>> (((8 : Int32) * x4).toInt64 &&& 63)).toInt32) &&& (255 : Int32))) 30 2 (((st S 1 (S 30 2).toNatClampNeg (((x1 >>> (((8 : Int32) * x4).toInt64 &&& 63)).toInt32) &&& (255 : Int32))) 30 2) + (1 : Int32))))
set_option maxHeartbeats 4000000 in
set_option maxRecDepth 100000 in
theorem c_X9_code {l : Launch} {D : va_G} {tZ : Nat} (cI cZ cR : ClassId) (a : Nat → Nat) (x1 : Int64) (x3 : Int32) (S : St) : MI l D (tyl cI cZ cR) tZ (wM cI cZ a) yX9_code cX9_code 5 (some .int) rm_X9_code [.ref (a 0), .long x1, .int x3] S (m_X9_code x1 x3 S) := by
  refine gx_metI (by decide) (Nat.le_of_ble_eq_true rfl) ?_
  intro p e s m below meth c A hC
  refine gx_sub [(0, .ref (a 0)), (1, .long x1), (3, .int x3)] [0, 1, 2] rfl ?_
  rw [m_X9_code]
  refine gx_aload_n (pc' := 1) hC rfl dX9_code_0 rfl ?_
  refine gx_iconst (v := (0 : Int32)) (pc' := 2) hC rfl dX9_code_1 (by decide) ?_
  refine gx_put (pc' := 5) hC tyX9_ok nmX9 0 (atM0 cI cZ a _) rfl inw_X9 0 (by decide) lk_X9_59 rfl rfl rfl (Nat.le_of_ble_eq_true rfl) (st S 30 0 (0 : Int32)) (ptM0_0 cI cZ a _ _) rfl dX9_code_2 ?_
  refine gx_iload_n (pc' := 6) hC rfl dX9_code_5 rfl ?_
  refine gx_iconst (v := (1 : Int32)) (pc' := 7) hC rfl dX9_code_6 (by decide) ?_
  refine gx_icmp_lt (pc' := 10) hC 27 rfl dX9_code_7 (by decide) (fun h1 => ?_) (fun h1 => ?_)
  · refine gx_iconst (v := (-1 : Int32)) (pc' := 28) hC rfl dX9_code_27 (by decide) ?_
    exact gx_iret hC dX9_code_28
  · refine gx_iload_n (pc' := 11) hC rfl dX9_code_10 rfl ?_
    refine gx_bipush (v := (8 : Int32)) (pc' := 13) hC rfl dX9_code_11 (by decide) ?_
    refine gx_icmp_gt (pc' := 16) hC 27 rfl dX9_code_13 (by decide) (fun h2 => ?_) (fun h2 => ?_)
    · refine gx_iconst (v := (-1 : Int32)) (pc' := 28) hC rfl dX9_code_27 (by decide) ?_
      exact gx_iret hC dX9_code_28
    · refine gx_aload_n (pc' := 17) hC rfl dX9_code_16 rfl ?_
      refine gx_get (pc' := 20) hC 0 (atM0 cI cZ a _) rfl inw_X9 2 (by decide) lk_X9_70 rfl rfl dX9_code_17 ?_
      refine gx_iload_n (pc' := 21) hC rfl dX9_code_20 rfl ?_
      refine gx_iadd (pc' := 22) hC rfl dX9_code_21 ?_
      refine gx_bipush (v := (96 : Int32)) (pc' := 24) hC rfl dX9_code_22 (by decide) ?_
      refine gx_icmp_le (pc' := 27) hC 29 rfl dX9_code_24 (by decide) (fun h3 => ?_) (fun h3 => ?_)
      · refine gx_aload_n (pc' := 30) hC rfl dX9_code_29 rfl ?_
        refine gx_callVV (pc' := 33) hC (c_X9_over cI cZ cR a  _) 0 (atM0 cI cZ a _) rfl kw_X9_73 hy_X9_over ⟨rfl, rfl⟩ (by decide) rfl rfl (Nat.le_of_ble_eq_true rfl) rfl dX9_code_30 (fun r1 => ?_)
        refine gx_iload_n (pc' := 34) hC rfl dX9_code_33 rfl ?_
        refine gx_iconst (v := (1 : Int32)) (pc' := 35) hC rfl dX9_code_34 (by decide) ?_
        refine gx_isub (pc' := 36) hC rfl dX9_code_35 ?_
        refine gx_istore (pc' := 38) hC [(4, .int (x3 - (1 : Int32))), (0, .ref (a 0)), (1, .long x1), (3, .int x3)] rfl dX9_code_36 (by decide) rfl ?_
        exact gx_sub [(0, .ref (a 0)), (1, .long x1), (4, .int (x3 - (1 : Int32)))] [1, 2, 0] rfl (g_X9_code_L38 hC 10000 x1 (x3 - (1 : Int32)) r1.2)
      · refine gx_iconst (v := (-1 : Int32)) (pc' := 28) hC rfl dX9_code_27 (by decide) ?_
        exact gx_iret hC dX9_code_28
