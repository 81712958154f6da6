set_option maxHeartbeats 4000000 in
set_option maxRecDepth 100000 in
theorem g_X1_lose_L26 {p : Program} {l : Launch} {e : Env} {s : State} {m : MethodId} {args : Array Value} {below : List Frame} {meth : Method} {c : Code} {D : va_G} {cI cZ cR : ClassId} {a : Nat → Nat} {tZ : Nat} {A : Nat → Prop} (hC : CX p s m args meth c cX1_lose 4 (some .int) yX1_lose.cls D (tyl cI cZ cR) tZ A) : ∀ (n : Nat) (x2 : Int32) (x3 : Int32) (S : St), GX p l e rm_X1_lose s m args below meth c 4 D A (wX cI cZ cR a) (KI below D (tyl cI cZ cR) (wX cI cZ cR a) A args s) 26 [(0, .ref (a 6)), (2, .int x2), (3, .int x3)] [] S (m_X1_lose_L26 n x2 x3 S) := by
  intro n
  induction n with
  | zero => intro x2 x3 S; exact gx_none
  | succ n ih =>
    intro x2 x3 S
    rw [m_X1_lose_L26]
    refine gx_iload_n (pc' := 27) hC rfl dX1_lose_26 rfl ?_
    refine gx_iconst (v := (3 : Int32)) (pc' := 28) hC rfl dX1_lose_27 (by decide) ?_
    refine gx_icmp_ge (pc' := 31) hC 60 rfl dX1_lose_28 (by decide) (fun h2 => ?_) (fun h2 => ?_)
    · refine gx_iload_n (pc' := 61) hC rfl dX1_lose_60 rfl ?_
      refine gx_if_eq (pc' := 64) hC 68 rfl dX1_lose_61 (by decide) (fun h3 => ?_) (fun h3 => ?_)
      · refine gx_iconst (v := (0 : Int32)) (pc' := 69) hC rfl dX1_lose_68 (by decide) ?_
        exact gx_iret hC dX1_lose_69
      · refine gx_iconst (v := (5 : Int32)) (pc' := 65) hC rfl dX1_lose_64 (by decide) ?_
        refine gx_goto hC 69 dX1_lose_65 (by decide) ?_
        exact gx_iret hC dX1_lose_69
    · refine gx_iload_n (pc' := 32) hC rfl dX1_lose_31 rfl ?_
      refine gx_if_ne (pc' := 35) hC 48 rfl dX1_lose_32 (by decide) (fun h4 => ?_) (fun h4 => ?_)
      · refine gx_aload_n (pc' := 36) hC rfl dX1_lose_35 rfl ?_
        refine gx_get (pc' := 39) hC 6 (atX6 cI cZ cR a _) rfl inw_X1 4 (by decide) lk_X1_22 rfl rfl dX1_lose_36 ?_
        refine gx_iload_n (pc' := 40) hC rfl dX1_lose_39 rfl ?_
        refine gx_iald (pc' := 41) hC 10 0 (atX10 cI cZ cR a _) rfl rfl dX1_lose_40 ?_
        refine gx_aload_n (pc' := 42) hC rfl dX1_lose_41 rfl ?_
        refine gx_get (pc' := 45) hC 6 (atX6 cI cZ cR a _) rfl inw_X1 5 (by decide) lk_X1_42 rfl rfl dX1_lose_42 ?_
        refine gx_icmp_le (pc' := 48) hC 52 rfl dX1_lose_45 (by decide) (fun h5 => ?_) (fun h5 => ?_)
        · refine gx_iconst (v := (0 : Int32)) (pc' := 53) hC rfl dX1_lose_52 (by decide) ?_
          refine gx_istore_n (pc' := 54) hC [(2, .int (0 : Int32)), (0, .ref (a 6)), (3, .int x3)] rfl dX1_lose_53 (by decide) rfl ?_
          refine gx_iinc (v := (x3 + (1 : Int32))) (pc' := 57) hC [(3, .int (x3 + (1 : Int32))), (2, .int (0 : Int32)), (0, .ref (a 6))] rfl dX1_lose_54 rfl rfl (by decide) rfl ?_
          refine gx_goto hC 26 dX1_lose_57 (by decide) ?_
          exact gx_sub [(0, .ref (a 6)), (2, .int (0 : Int32)), (3, .int (x3 + (1 : Int32)))] [2, 1, 0] rfl (ih (0 : Int32) (x3 + (1 : Int32)) S)
        · refine gx_iconst (v := (1 : Int32)) (pc' := 49) hC rfl dX1_lose_48 (by decide) ?_
          refine gx_goto hC 53 dX1_lose_49 (by decide) ?_
          refine gx_istore_n (pc' := 54) hC [(2, .int (1 : Int32)), (0, .ref (a 6)), (3, .int x3)] rfl dX1_lose_53 (by decide) rfl ?_
          refine gx_iinc (v := (x3 + (1 : Int32))) (pc' := 57) hC [(3, .int (x3 + (1 : Int32))), (2, .int (1 : Int32)), (0, .ref (a 6))] rfl dX1_lose_54 rfl rfl (by decide) rfl ?_
          refine gx_goto hC 26 dX1_lose_57 (by decide) ?_
          exact gx_sub [(0, .ref (a 6)), (2, .int (1 : Int32)), (3, .int (x3 + (1 : Int32)))] [2, 1, 0] rfl (ih (1 : Int32) (x3 + (1 : Int32)) S)
      · refine gx_iconst (v := (1 : Int32)) (pc' := 49) hC rfl dX1_lose_48 (by decide) ?_
        refine gx_goto hC 53 dX1_lose_49 (by decide) ?_
        refine gx_istore_n (pc' := 54) hC [(2, .int (1 : Int32)), (0, .ref (a 6)), (3, .int x3)] rfl dX1_lose_53 (by decide) rfl ?_
        refine gx_iinc (v := (x3 + (1 : Int32))) (pc' := 57) hC [(3, .int (x3 + (1 : Int32))), (2, .int (1 : Int32)), (0, .ref (a 6))] rfl dX1_lose_54 rfl rfl (by decide) rfl ?_
        refine gx_goto hC 26 dX1_lose_57 (by decide) ?_
        exact gx_sub [(0, .ref (a 6)), (2, .int (1 : Int32)), (3, .int (x3 + (1 : Int32)))] [2, 1, 0] rfl (ih (1 : Int32) (x3 + (1 : Int32)) S)
set_option maxHeartbeats 4000000 in
set_option maxRecDepth 100000 in
theorem c_X1_lose {l : Launch} {D : va_G} {tZ : Nat} (cI cZ cR : ClassId) (a : Nat → Nat) (x1 : Int32) (S : St) : MI l D (tyl cI cZ cR) tZ (wX cI cZ cR a) yX1_lose cX1_lose 4 (some .int) rm_X1_lose [.ref (a 6), .int x1] S (m_X1_lose x1 S) := by
  refine gx_metI (by decide) (Nat.le_of_ble_eq_true rfl) ?_
  intro p e s m below meth c A hC
  refine gx_sub [(0, .ref (a 6)), (1, .int x1)] [0, 1] rfl ?_
  rw [m_X1_lose]
  refine gx_aload_n (pc' := 1) hC rfl dX1_lose_0 rfl ?_
  refine gx_dup (pc' := 2) hC rfl dX1_lose_1 rfl ?_
  refine gx_get (pc' := 5) hC 6 (atX6 cI cZ cR a _) rfl inw_X1 5 (by decide) lk_X1_42 rfl rfl dX1_lose_2 ?_
  refine gx_iload_n (pc' := 6) hC rfl dX1_lose_5 rfl ?_
  refine gx_isub (pc' := 7) hC rfl dX1_lose_6 ?_
  refine gx_put (pc' := 10) hC tyX1_ok nmX1 6 (atX6 cI cZ cR a _) rfl inw_X1 5 (by decide) lk_X1_42 rfl rfl rfl (Nat.le_of_ble_eq_true rfl) (st S 20 2 ((S 20 2) - x1)) (ptX6_5 cI cZ cR a _ _) rfl dX1_lose_7 ?_
  refine gx_aload_n (pc' := 11) hC rfl dX1_lose_10 rfl ?_
  refine gx_get (pc' := 14) hC 6 (atX6 cI cZ cR a _) rfl inw_X1 5 (by decide) lk_X1_42 rfl rfl dX1_lose_11 ?_
  refine gx_iconst (v := (1 : Int32)) (pc' := 15) hC rfl dX1_lose_14 (by decide) ?_
  refine gx_icmp_ge (pc' := 18) hC 22 rfl dX1_lose_15 (by decide) (fun h1 => ?_) (fun h1 => ?_)
  · refine gx_iconst (v := (0 : Int32)) (pc' := 23) hC rfl dX1_lose_22 (by decide) ?_
    refine gx_istore_n (pc' := 24) hC [(2, .int (0 : Int32)), (0, .ref (a 6)), (1, .int x1)] rfl dX1_lose_23 (by decide) rfl ?_
    refine gx_iconst (v := (0 : Int32)) (pc' := 25) hC rfl dX1_lose_24 (by decide) ?_
    refine gx_istore_n (pc' := 26) hC [(3, .int (0 : Int32)), (2, .int (0 : Int32)), (0, .ref (a 6)), (1, .int x1)] rfl dX1_lose_25 (by decide) rfl ?_
    exact gx_sub [(0, .ref (a 6)), (2, .int (0 : Int32)), (3, .int (0 : Int32))] [2, 1, 0] rfl (g_X1_lose_L26 hC 10000 (0 : Int32) (0 : Int32) (st S 20 2 ((S 20 2) - x1)))
  · refine gx_iconst (v := (1 : Int32)) (pc' := 19) hC rfl dX1_lose_18 (by decide) ?_
    refine gx_goto hC 23 dX1_lose_19 (by decide) ?_
    refine gx_istore_n (pc' := 24) hC [(2, .int (1 : Int32)), (0, .ref (a 6)), (1, .int x1)] rfl dX1_lose_23 (by decide) rfl ?_
    refine gx_iconst (v := (0 : Int32)) (pc' := 25) hC rfl dX1_lose_24 (by decide) ?_
    refine gx_istore_n (pc' := 26) hC [(3, .int (0 : Int32)), (2, .int (1 : Int32)), (0, .ref (a 6)), (1, .int x1)] rfl dX1_lose_25 (by decide) rfl ?_
    exact gx_sub [(0, .ref (a 6)), (2, .int (1 : Int32)), (3, .int (0 : Int32))] [2, 1, 0] rfl (g_X1_lose_L26 hC 10000 (1 : Int32) (0 : Int32) (st S 20 2 ((S 20 2) - x1)))
set_option maxHeartbeats 4000000 in
set_option maxRecDepth 100000 in
theorem c_X1_popRegister {l : Launch} {D : va_G} {tZ : Nat} (cI cZ cR : ClassId) (a : Nat → Nat) (x1 : Int32) (S : St) : MI l D (tyl cI cZ cR) tZ (wX cI cZ cR a) yX1_popRegister cX1_popRegister 3 (some .int) rm_X1_popRegister [.ref (a 6), .int x1] S (m_X1_popRegister x1 S) := by
  refine gx_metI (by decide) (Nat.le_of_ble_eq_true rfl) ?_
  intro p e s m below meth c A hC
  refine gx_sub [(0, .ref (a 6)), (1, .int x1)] [0, 1] rfl ?_
  rw [m_X1_popRegister]
  refine gx_aload_n (pc' := 1) hC rfl dX1_popRegister_0 rfl ?_
  refine gx_get (pc' := 4) hC 6 (atX6 cI cZ cR a _) rfl inw_X1 5 (by decide) lk_X1_42 rfl rfl dX1_popRegister_1 ?_
  refine gx_iconst (v := (1 : Int32)) (pc' := 5) hC rfl dX1_popRegister_4 (by decide) ?_
  refine gx_icmp_ne (pc' := 8) hC 10 rfl dX1_popRegister_5 (by decide) (fun h1 => ?_) (fun h1 => ?_)
  · refine gx_iconst (v := (5 : Int32)) (pc' := 9) hC rfl dX1_popRegister_8 (by decide) ?_
    exact gx_iret hC dX1_popRegister_9
  · refine gx_aload_n (pc' := 11) hC rfl dX1_popRegister_10 rfl ?_
    refine gx_iload_n (pc' := 12) hC rfl dX1_popRegister_11 rfl ?_
    refine gx_aload_n (pc' := 13) hC rfl dX1_popRegister_12 rfl ?_
    refine gx_get (pc' := 16) hC 6 (atX6 cI cZ cR a _) rfl inw_X1 5 (by decide) lk_X1_42 rfl rfl dX1_popRegister_13 ?_
    refine gx_callVI (pc' := 19) hC (c_X1_give cI cZ cR a x1 (S 20 2) _) 6 (atX6 cI cZ cR a _) rfl kw_X1_117 hy_X1_give ⟨rfl, rfl⟩ (by decide) rfl rfl (Nat.le_of_ble_eq_true rfl) rfl dX1_popRegister_16 (fun r1 => ?_)
    refine gx_istore_n (pc' := 20) hC [(2, .int r1.1), (0, .ref (a 6)), (1, .int x1)] rfl dX1_popRegister_19 (by decide) rfl ?_
    refine gx_iload_n (pc' := 21) hC rfl dX1_popRegister_20 rfl ?_
    refine gx_if_ne (pc' := 24) hC 32 rfl dX1_popRegister_21 (by decide) (fun h2 => ?_) (fun h2 => ?_)
    · refine gx_aload_n (pc' := 25) hC rfl dX1_popRegister_24 rfl ?_
      refine gx_iconst (v := (1 : Int32)) (pc' := 26) hC rfl dX1_popRegister_25 (by decide) ?_
      refine gx_callVI (pc' := 29) hC (c_X1_lose cI cZ cR a (1 : Int32) _) 6 (atX6 cI cZ cR a _) rfl kw_X1_92 hy_X1_lose ⟨rfl, rfl⟩ (by decide) rfl rfl (Nat.le_of_ble_eq_true rfl) rfl dX1_popRegister_26 (fun r2 => ?_)
      refine gx_goto hC 33 dX1_popRegister_29 (by decide) ?_
      exact gx_iret hC dX1_popRegister_33
    · refine gx_iload_n (pc' := 33) hC rfl dX1_popRegister_32 rfl ?_
      exact gx_iret hC dX1_popRegister_33
set_option maxHeartbeats 4000000 in
set_option maxRecDepth 100000 in
theorem c_X1_spoil {l : Launch} {D : va_G} {tZ : Nat} (cI cZ cR : ClassId) (a : Nat → Nat) (x1 : Int32) (S : St) : MI l D (tyl cI cZ cR) tZ (wX cI cZ cR a) yX1_spoil cX1_spoil 2 (some .int) rm_X1_spoil [.ref (a 6), .int x1] S (m_X1_spoil x1 S) := by
  refine gx_metI (by decide) (Nat.le_of_ble_eq_true rfl) ?_
  intro p e s m below meth c A hC
  refine gx_sub [(0, .ref (a 6)), (1, .int x1)] [0, 1] rfl ?_
  rw [m_X1_spoil]
  refine gx_aload_n (pc' := 1) hC rfl dX1_spoil_0 rfl ?_
  refine gx_get (pc' := 4) hC 6 (atX6 cI cZ cR a _) rfl inw_X1 4 (by decide) lk_X1_22 rfl rfl dX1_spoil_1 ?_
  refine gx_iload_n (pc' := 5) hC rfl dX1_spoil_4 rfl ?_
  refine gx_iald (pc' := 6) hC 10 0 (atX10 cI cZ cR a _) rfl rfl dX1_spoil_5 ?_
  refine gx_if_ne (pc' := 9) hC 11 rfl dX1_spoil_6 (by decide) (fun h1 => ?_) (fun h1 => ?_)
  · refine gx_iconst (v := (4 : Int32)) (pc' := 10) hC rfl dX1_spoil_9 (by decide) ?_
    exact gx_iret hC dX1_spoil_10
  · refine gx_iload_n (pc' := 12) hC rfl dX1_spoil_11 rfl ?_
    refine gx_if_ne (pc' := 15) hC 20 rfl dX1_spoil_12 (by decide) (fun h2 => ?_) (fun h2 => ?_)
    · refine gx_aload_n (pc' := 16) hC rfl dX1_spoil_15 rfl ?_
      refine gx_iconst (v := (0 : Int32)) (pc' := 17) hC rfl dX1_spoil_16 (by decide) ?_
      refine gx_put (pc' := 20) hC tyX1_ok nmX1 6 (atX6 cI cZ cR a _) rfl inw_X1 6 (by decide) lk_X1_45 rfl rfl rfl (Nat.le_of_ble_eq_true rfl) (st S 20 3 (0 : Int32)) (ptX6_6 cI cZ cR a _ _) rfl dX1_spoil_17 ?_
      refine gx_iconst (v := (0 : Int32)) (pc' := 21) hC rfl dX1_spoil_20 (by decide) ?_
      exact gx_iret hC dX1_spoil_21
    · refine gx_iconst (v := (0 : Int32)) (pc' := 21) hC rfl dX1_spoil_20 (by decide) ?_
      exact gx_iret hC dX1_spoil_21
set_option maxHeartbeats 4000000 in
set_option maxRecDepth 100000 in
theorem c_X1_setFrame {l : Launch} {D : va_G} {tZ : Nat} (cI cZ cR : ClassId) (a : Nat → Nat)  (S : St) : MI l D (tyl cI cZ cR) tZ (wX cI cZ cR a) yX1_setFrame cX1_setFrame 2 (some .int) rm_X1_setFrame [.ref (a 6)] S (m_X1_setFrame  S) := by
  refine gx_metI (by decide) (Nat.le_of_ble_eq_true rfl) ?_
  intro p e s m below meth c A hC
  refine gx_sub [(0, .ref (a 6))] [0] rfl ?_
  rw [m_X1_setFrame]
  refine gx_aload_n (pc' := 1) hC rfl dX1_setFrame_0 rfl ?_
  refine gx_iconst (v := (0 : Int32)) (pc' := 2) hC rfl dX1_setFrame_1 (by decide) ?_
  refine gx_callVI (pc' := 5) hC (c_X1_spoil cI cZ cR a (0 : Int32) _) 6 (atX6 cI cZ cR a _) rfl kw_X1_111 hy_X1_spoil ⟨rfl, rfl⟩ (by decide) rfl rfl (Nat.le_of_ble_eq_true rfl) rfl dX1_setFrame_2 (fun r1 => ?_)
  refine gx_istore_n (pc' := 6) hC [(1, .int r1.1), (0, .ref (a 6))] rfl dX1_setFrame_5 (by decide) rfl ?_
  refine gx_iload_n (pc' := 7) hC rfl dX1_setFrame_6 rfl ?_
  refine gx_if_ne (pc' := 10) hC 18 rfl dX1_setFrame_7 (by decide) (fun h1 => ?_) (fun h1 => ?_)
  · refine gx_aload_n (pc' := 11) hC rfl dX1_setFrame_10 rfl ?_
    refine gx_aload_n (pc' := 12) hC rfl dX1_setFrame_11 rfl ?_
    refine gx_get (pc' := 15) hC 6 (atX6 cI cZ cR a _) rfl inw_X1 5 (by decide) lk_X1_42 rfl rfl dX1_setFrame_12 ?_
    refine gx_put (pc' := 18) hC tyX1_ok nmX1 6 (atX6 cI cZ cR a _) rfl inw_X1 6 (by decide) lk_X1_45 rfl rfl rfl (Nat.le_of_ble_eq_true rfl) (st r1.2 20 3 (r1.2 20 2)) (ptX6_6 cI cZ cR a _ _) rfl dX1_setFrame_15 ?_
    refine gx_iload_n (pc' := 19) hC rfl dX1_setFrame_18 rfl ?_
    exact gx_iret hC dX1_setFrame_19
  · refine gx_iload_n (pc' := 19) hC rfl dX1_setFrame_18 rfl ?_
    exact gx_iret hC dX1_setFrame_19
set_option maxHeartbeats 4000000 in
set_option maxRecDepth 100000 in
theorem c_X1_dropToFrame {l : Launch} {D : va_G} {tZ : Nat} (cI cZ cR : ClassId) (a : Nat → Nat)  (S : St) : MI l D (tyl cI cZ cR) tZ (wX cI cZ cR a) yX1_dropToFrame cX1_dropToFrame 1 (some .int) rm_X1_dropToFrame [.ref (a 6)] S (m_X1_dropToFrame  S) := by
  refine gx_metI (by decide) (Nat.le_of_ble_eq_true rfl) ?_
  intro p e s m below meth c A hC
  refine gx_sub [(0, .ref (a 6))] [0] rfl ?_
  rw [m_X1_dropToFrame]
  refine gx_aload_n (pc' := 1) hC rfl dX1_dropToFrame_0 rfl ?_
  refine gx_get (pc' := 4) hC 6 (atX6 cI cZ cR a _) rfl inw_X1 6 (by decide) lk_X1_45 rfl rfl dX1_dropToFrame_1 ?_
  refine gx_if_eq (pc' := 7) hC 18 rfl dX1_dropToFrame_4 (by decide) (fun h1 => ?_) (fun h1 => ?_)
  · refine gx_iconst (v := (5 : Int32)) (pc' := 19) hC rfl dX1_dropToFrame_18 (by decide) ?_
    refine gx_goto hC 35 dX1_dropToFrame_19 (by decide) ?_
    exact gx_iret hC dX1_dropToFrame_35
  · refine gx_aload_n (pc' := 8) hC rfl dX1_dropToFrame_7 rfl ?_
    refine gx_get (pc' := 11) hC 6 (atX6 cI cZ cR a _) rfl inw_X1 6 (by decide) lk_X1_45 rfl rfl dX1_dropToFrame_8 ?_
    refine gx_aload_n (pc' := 12) hC rfl dX1_dropToFrame_11 rfl ?_
    refine gx_get (pc' := 15) hC 6 (atX6 cI cZ cR a _) rfl inw_X1 5 (by decide) lk_X1_42 rfl rfl dX1_dropToFrame_12 ?_
    refine gx_icmp_le (pc' := 18) hC 22 rfl dX1_dropToFrame_15 (by decide) (fun h2 => ?_) (fun h2 => ?_)
    · refine gx_aload_n (pc' := 23) hC rfl dX1_dropToFrame_22 rfl ?_
      refine gx_aload_n (pc' := 24) hC rfl dX1_dropToFrame_23 rfl ?_
      refine gx_get (pc' := 27) hC 6 (atX6 cI cZ cR a _) rfl inw_X1 5 (by decide) lk_X1_42 rfl rfl dX1_dropToFrame_24 ?_
      refine gx_aload_n (pc' := 28) hC rfl dX1_dropToFrame_27 rfl ?_
      refine gx_get (pc' := 31) hC 6 (atX6 cI cZ cR a _) rfl inw_X1 6 (by decide) lk_X1_45 rfl rfl dX1_dropToFrame_28 ?_
      refine gx_isub (pc' := 32) hC rfl dX1_dropToFrame_31 ?_
      refine gx_callVI (pc' := 35) hC (c_X1_lose cI cZ cR a ((S 20 2) - (S 20 3)) _) 6 (atX6 cI cZ cR a _) rfl kw_X1_92 hy_X1_lose ⟨rfl, rfl⟩ (by decide) rfl rfl (Nat.le_of_ble_eq_true rfl) rfl dX1_dropToFrame_32 (fun r1 => ?_)
      exact gx_iret hC dX1_dropToFrame_35
    · refine gx_iconst (v := (5 : Int32)) (pc' := 19) hC rfl dX1_dropToFrame_18 (by decide) ?_
      refine gx_goto hC 35 dX1_dropToFrame_19 (by decide) ?_
      exact gx_iret hC dX1_dropToFrame_35
set_option maxHeartbeats 4000000 in
set_option maxRecDepth 100000 in
theorem g_X4_startsFunction_L2 {p : Program} {l : Launch} {e : Env} {s : State} {m : MethodId} {args : Array Value} {below : List Frame} {meth : Method} {c : Code} {D : va_G} {cI cZ cR : ClassId} {a : Nat → Nat} {tZ : Nat} {A : Nat → Prop} (hC : CX p s m args meth c cX4_startsFunction 3 (some .boolean) yX4_startsFunction.cls D (tyl cI cZ cR) tZ A) : ∀ (n : Nat) (x1 : Int32) (x2 : Int32) (S : St), GX p l e rm_X4_startsFunction s m args below meth c 3 D A (wX cI cZ cR a) (KI below D (tyl cI cZ cR) (wX cI cZ cR a) A args s) 2 [(0, .ref (a 1)), (1, .int x1), (2, .int x2)] [] S (m_X4_startsFunction_L2 n x1 x2 S) := by
  intro n
  induction n with
  | zero => intro x1 x2 S; exact gx_none
  | succ n ih =>
    intro x1 x2 S
    rw [m_X4_startsFunction_L2]
    refine gx_iload_n (pc' := 3) hC rfl dX4_startsFunction_2 rfl ?_
    refine gx_aload_n (pc' := 4) hC rfl dX4_startsFunction_3 rfl ?_
    refine gx_get (pc' := 7) hC 1 (atX1 cI cZ cR a _) rfl inw_X4 4 (by decide) lk_X4_25 rfl rfl dX4_startsFunction_4 ?_
    refine gx_icmp_ge (pc' := 10) hC 28 rfl dX4_startsFunction_7 (by decide) (fun h1 => ?_) (fun h1 => ?_)
    · refine gx_iconst (v := (0 : Int32)) (pc' := 29) hC rfl dX4_startsFunction_28 (by decide) ?_
      exact gx_zret hC dX4_startsFunction_29
    · refine gx_aload_n (pc' := 11) hC rfl dX4_startsFunction_10 rfl ?_
      refine gx_get (pc' := 14) hC 1 (atX1 cI cZ cR a _) rfl inw_X4 1 (by decide) lk_X4_15 rfl rfl dX4_startsFunction_11 ?_
      refine gx_iload_n (pc' := 15) hC rfl dX4_startsFunction_14 rfl ?_
      refine gx_iald (pc' := 16) hC 3 0 (atX3 cI cZ cR a _) rfl rfl dX4_startsFunction_15 ?_
      refine gx_iload_n (pc' := 17) hC rfl dX4_startsFunction_16 rfl ?_
      refine gx_icmp_ne (pc' := 20) hC 22 rfl dX4_startsFunction_17 (by decide) (fun h2 => ?_) (fun h2 => ?_)
      · refine gx_iconst (v := (1 : Int32)) (pc' := 21) hC rfl dX4_startsFunction_20 (by decide) ?_
        exact gx_zret hC dX4_startsFunction_21
      · refine gx_iinc (v := (x2 + (1 : Int32))) (pc' := 25) hC [(2, .int (x2 + (1 : Int32))), (0, .ref (a 1)), (1, .int x1)] rfl dX4_startsFunction_22 rfl rfl (by decide) rfl ?_
        refine gx_goto hC 2 dX4_startsFunction_25 (by decide) ?_
        exact gx_sub [(0, .ref (a 1)), (1, .int x1), (2, .int (x2 + (1 : Int32)))] [1, 2, 0] rfl (ih x1 (x2 + (1 : Int32)) S)
set_option maxHeartbeats 4000000 in
set_option maxRecDepth 100000 in
theorem c_X4_startsFunction {l : Launch} {D : va_G} {tZ : Nat} (cI cZ cR : ClassId) (a : Nat → Nat) (x1 : Int32) (S : St) : MI l D (tyl cI cZ cR) tZ (wX cI cZ cR a) yX4_startsFunction cX4_startsFunction 3 (some .boolean) rm_X4_startsFunction [.ref (a 1), .int x1] S (m_X4_startsFunction x1 S) := by
  refine gx_metI (by decide) (Nat.le_of_ble_eq_true rfl) ?_
  intro p e s m below meth c A hC
  refine gx_sub [(0, .ref (a 1)), (1, .int x1)] [0, 1] rfl ?_
  rw [m_X4_startsFunction]
  refine gx_iconst (v := (0 : Int32)) (pc' := 1) hC rfl dX4_startsFunction_0 (by decide) ?_
  refine gx_istore_n (pc' := 2) hC [(2, .int (0 : Int32)), (0, .ref (a 1)), (1, .int x1)] rfl dX4_startsFunction_1 (by decide) rfl ?_
  exact gx_sub [(0, .ref (a 1)), (1, .int x1), (2, .int (0 : Int32))] [1, 2, 0] rfl (g_X4_startsFunction_L2 hC 10000 x1 (0 : Int32) S)
set_option maxHeartbeats 4000000 in
set_option maxRecDepth 100000 in
theorem g_X1_isAsBeforeCall_L16 {p : Program} {l : Launch} {e : Env} {s : State} {m : MethodId} {args : Array Value} {below : List Frame} {meth : Method} {c : Code} {D : va_G} {cI cZ cR : ClassId} {a : Nat → Nat} {tZ : Nat} {A : Nat → Prop} (hC : CX p s m args meth c cX1_isAsBeforeCall 3 (some .boolean) yX1_isAsBeforeCall.cls D (tyl cI cZ cR) tZ A) : ∀ (n : Nat) (x1 : Int32) (x2 : Int32) (S : St), GX p l e rm_X1_isAsBeforeCall s m args below meth c 3 D A (wX cI cZ cR a) (KI below D (tyl cI cZ cR) (wX cI cZ cR a) A args s) 16 [(0, .ref (a 6)), (1, .int x1), (2, .int x2)] [] S (m_X1_isAsBeforeCall_L16 n x1 x2 S) := by
  intro n
  induction n with
  | zero => intro x1 x2 S; exact gx_none
  | succ n ih =>
    intro x1 x2 S
    rw [m_X1_isAsBeforeCall_L16]
    refine gx_iload_n (pc' := 17) hC rfl dX1_isAsBeforeCall_16 rfl ?_
    refine gx_iconst (v := (3 : Int32)) (pc' := 18) hC rfl dX1_isAsBeforeCall_17 (by decide) ?_
    refine gx_icmp_ge (pc' := 21) hC 46 rfl dX1_isAsBeforeCall_18 (by decide) (fun h2 => ?_) (fun h2 => ?_)
    · refine gx_iload_n (pc' := 47) hC rfl dX1_isAsBeforeCall_46 rfl ?_
      exact gx_zret hC dX1_isAsBeforeCall_47
    · refine gx_iload_n (pc' := 22) hC rfl dX1_isAsBeforeCall_21 rfl ?_
      refine gx_if_eq (pc' := 25) hC 38 rfl dX1_isAsBeforeCall_22 (by decide) (fun h3 => ?_) (fun h3 => ?_)
      · refine gx_iconst (v := (0 : Int32)) (pc' := 39) hC rfl dX1_isAsBeforeCall_38 (by decide) ?_
        refine gx_istore_n (pc' := 40) hC [(1, .int (0 : Int32)), (0, .ref (a 6)), (2, .int x2)] rfl dX1_isAsBeforeCall_39 (by decide) rfl ?_
        refine gx_iinc (v := (x2 + (1 : Int32))) (pc' := 43) hC [(2, .int (x2 + (1 : Int32))), (1, .int (0 : Int32)), (0, .ref (a 6))] rfl dX1_isAsBeforeCall_40 rfl rfl (by decide) rfl ?_
        refine gx_goto hC 16 dX1_isAsBeforeCall_43 (by decide) ?_
        exact gx_sub [(0, .ref (a 6)), (1, .int (0 : Int32)), (2, .int (x2 + (1 : Int32)))] [2, 1, 0] rfl (ih (0 : Int32) (x2 + (1 : Int32)) S)
      · refine gx_aload_n (pc' := 26) hC rfl dX1_isAsBeforeCall_25 rfl ?_
        refine gx_get (pc' := 29) hC 6 (atX6 cI cZ cR a _) rfl inw_X1 4 (by decide) lk_X1_22 rfl rfl dX1_isAsBeforeCall_26 ?_
        refine gx_iload_n (pc' := 30) hC rfl dX1_isAsBeforeCall_29 rfl ?_
        refine gx_iald (pc' := 31) hC 10 0 (atX10 cI cZ cR a _) rfl rfl dX1_isAsBeforeCall_30 ?_
        refine gx_if_ne (pc' := 34) hC 38 rfl dX1_isAsBeforeCall_31 (by decide) (fun h4 => ?_) (fun h4 => ?_)
        · refine gx_iconst (v := (1 : Int32)) (pc' := 35) hC rfl dX1_isAsBeforeCall_34 (by decide) ?_
          refine gx_goto hC 39 dX1_isAsBeforeCall_35 (by decide) ?_
          refine gx_istore_n (pc' := 40) hC [(1, .int (1 : Int32)), (0, .ref (a 6)), (2, .int x2)] rfl dX1_isAsBeforeCall_39 (by decide) rfl ?_
          refine gx_iinc (v := (x2 + (1 : Int32))) (pc' := 43) hC [(2, .int (x2 + (1 : Int32))), (1, .int (1 : Int32)), (0, .ref (a 6))] rfl dX1_isAsBeforeCall_40 rfl rfl (by decide) rfl ?_
          refine gx_goto hC 16 dX1_isAsBeforeCall_43 (by decide) ?_
          exact gx_sub [(0, .ref (a 6)), (1, .int (1 : Int32)), (2, .int (x2 + (1 : Int32)))] [2, 1, 0] rfl (ih (1 : Int32) (x2 + (1 : Int32)) S)
        · refine gx_iconst (v := (0 : Int32)) (pc' := 39) hC rfl dX1_isAsBeforeCall_38 (by decide) ?_
          refine gx_istore_n (pc' := 40) hC [(1, .int (0 : Int32)), (0, .ref (a 6)), (2, .int x2)] rfl dX1_isAsBeforeCall_39 (by decide) rfl ?_
          refine gx_iinc (v := (x2 + (1 : Int32))) (pc' := 43) hC [(2, .int (x2 + (1 : Int32))), (1, .int (0 : Int32)), (0, .ref (a 6))] rfl dX1_isAsBeforeCall_40 rfl rfl (by decide) rfl ?_
          refine gx_goto hC 16 dX1_isAsBeforeCall_43 (by decide) ?_
          exact gx_sub [(0, .ref (a 6)), (1, .int (0 : Int32)), (2, .int (x2 + (1 : Int32)))] [2, 1, 0] rfl (ih (0 : Int32) (x2 + (1 : Int32)) S)
set_option maxHeartbeats 4000000 in
set_option maxRecDepth 100000 in
theorem c_X1_isAsBeforeCall {l : Launch} {D : va_G} {tZ : Nat} (cI cZ cR : ClassId) (a : Nat → Nat)  (S : St) : MI l D (tyl cI cZ cR) tZ (wX cI cZ cR a) yX1_isAsBeforeCall cX1_isAsBeforeCall 3 (some .boolean) rm_X1_isAsBeforeCall [.ref (a 6)] S (m_X1_isAsBeforeCall  S) := by
  refine gx_metI (by decide) (Nat.le_of_ble_eq_true rfl) ?_
  intro p e s m below meth c A hC
  refine gx_sub [(0, .ref (a 6))] [0] rfl ?_
  rw [m_X1_isAsBeforeCall]
  refine gx_aload_n (pc' := 1) hC rfl dX1_isAsBeforeCall_0 rfl ?_
  refine gx_get (pc' := 4) hC 6 (atX6 cI cZ cR a _) rfl inw_X1 5 (by decide) lk_X1_42 rfl rfl dX1_isAsBeforeCall_1 ?_
  refine gx_iconst (v := (1 : Int32)) (pc' := 5) hC rfl dX1_isAsBeforeCall_4 (by decide) ?_
  refine gx_icmp_ne (pc' := 8) hC 12 rfl dX1_isAsBeforeCall_5 (by decide) (fun h1 => ?_) (fun h1 => ?_)
  · refine gx_iconst (v := (1 : Int32)) (pc' := 9) hC rfl dX1_isAsBeforeCall_8 (by decide) ?_
    refine gx_goto hC 13 dX1_isAsBeforeCall_9 (by decide) ?_
    refine gx_istore_n (pc' := 14) hC [(1, .int (1 : Int32)), (0, .ref (a 6))] rfl dX1_isAsBeforeCall_13 (by decide) rfl ?_
    refine gx_iconst (v := (0 : Int32)) (pc' := 15) hC rfl dX1_isAsBeforeCall_14 (by decide) ?_
    refine gx_istore_n (pc' := 16) hC [(2, .int (0 : Int32)), (1, .int (1 : Int32)), (0, .ref (a 6))] rfl dX1_isAsBeforeCall_15 (by decide) rfl ?_
    exact gx_sub [(0, .ref (a 6)), (1, .int (1 : Int32)), (2, .int (0 : Int32))] [2, 1, 0] rfl (g_X1_isAsBeforeCall_L16 hC 10000 (1 : Int32) (0 : Int32) S)
  · refine gx_iconst (v := (0 : Int32)) (pc' := 13) hC rfl dX1_isAsBeforeCall_12 (by decide) ?_
    refine gx_istore_n (pc' := 14) hC [(1, .int (0 : Int32)), (0, .ref (a 6))] rfl dX1_isAsBeforeCall_13 (by decide) rfl ?_
    refine gx_iconst (v := (0 : Int32)) (pc' := 15) hC rfl dX1_isAsBeforeCall_14 (by decide) ?_
    refine gx_istore_n (pc' := 16) hC [(2, .int (0 : Int32)), (1, .int (0 : Int32)), (0, .ref (a 6))] rfl dX1_isAsBeforeCall_15 (by decide) rfl ?_
    exact gx_sub [(0, .ref (a 6)), (1, .int (0 : Int32)), (2, .int (0 : Int32))] [2, 1, 0] rfl (g_X1_isAsBeforeCall_L16 hC 10000 (0 : Int32) (0 : Int32) S)
set_option maxHeartbeats 4000000 in
set_option maxRecDepth 100000 in
theorem c_X1_inFunction {l : Launch} {D : va_G} {tZ : Nat} (cI cZ cR : ClassId) (a : Nat → Nat) (x1 : Int32) (S : St) : MI l D (tyl cI cZ cR) tZ (wX cI cZ cR a) yX1_inFunction cX1_inFunction 2 (some .boolean) rm_X1_inFunction [.ref (a 6), .int x1] S (m_X1_inFunction x1 S) := by
  refine gx_metI (by decide) (Nat.le_of_ble_eq_true rfl) ?_
  intro p e s m below meth c A hC
  refine gx_sub [(0, .ref (a 6)), (1, .int x1)] [0, 1] rfl ?_
  rw [m_X1_inFunction]
  refine gx_iload_n (pc' := 1) hC rfl dX1_inFunction_0 rfl ?_
  refine gx_aload_n (pc' := 2) hC rfl dX1_inFunction_1 rfl ?_
  refine gx_get (pc' := 5) hC 6 (atX6 cI cZ cR a _) rfl inw_X1 7 (by decide) lk_X1_29 rfl rfl dX1_inFunction_2 ?_
  refine gx_icmp_lt (pc' := 8) hC 20 rfl dX1_inFunction_5 (by decide) (fun h1 => ?_) (fun h1 => ?_)
  · refine gx_iconst (v := (0 : Int32)) (pc' := 21) hC rfl dX1_inFunction_20 (by decide) ?_
    exact gx_zret hC dX1_inFunction_21
  · refine gx_iload_n (pc' := 9) hC rfl dX1_inFunction_8 rfl ?_
    refine gx_aload_n (pc' := 10) hC rfl dX1_inFunction_9 rfl ?_
    refine gx_get (pc' := 13) hC 6 (atX6 cI cZ cR a _) rfl inw_X1 8 (by decide) lk_X1_33 rfl rfl dX1_inFunction_10 ?_
    refine gx_icmp_ge (pc' := 16) hC 20 rfl dX1_inFunction_13 (by decide) (fun h2 => ?_) (fun h2 => ?_)
    · refine gx_iconst (v := (0 : Int32)) (pc' := 21) hC rfl dX1_inFunction_20 (by decide) ?_
      exact gx_zret hC dX1_inFunction_21
    · refine gx_iconst (v := (1 : Int32)) (pc' := 17) hC rfl dX1_inFunction_16 (by decide) ?_
      refine gx_goto hC 21 dX1_inFunction_17 (by decide) ?_
      exact gx_zret hC dX1_inFunction_21
set_option maxHeartbeats 4000000 in
set_option maxRecDepth 100000 in
theorem c_X1_jumpTo {l : Launch} {D : va_G} {tZ : Nat} (cI cZ cR : ClassId) (a : Nat → Nat) (x1 : Int32) (S : St) : MI l D (tyl cI cZ cR) tZ (wX cI cZ cR a) yX1_jumpTo cX1_jumpTo 2 (some .int) rm_X1_jumpTo [.ref (a 6), .int x1] S (m_X1_jumpTo x1 S) := by
  refine gx_metI (by decide) (Nat.le_of_ble_eq_true rfl) ?_
  intro p e s m below meth c A hC
  refine gx_sub [(0, .ref (a 6)), (1, .int x1)] [0, 1] rfl ?_
  rw [m_X1_jumpTo]
  refine gx_aload_n (pc' := 1) hC rfl dX1_jumpTo_0 rfl ?_
  refine gx_iload_n (pc' := 2) hC rfl dX1_jumpTo_1 rfl ?_
  refine gx_callVI (pc' := 5) hC (c_X1_inFunction cI cZ cR a x1 _) 6 (atX6 cI cZ cR a _) rfl kw_X1_76 hy_X1_inFunction ⟨rfl, rfl⟩ (by decide) rfl rfl (Nat.le_of_ble_eq_true rfl) rfl dX1_jumpTo_2 (fun r1 => ?_)
  refine gx_if_eq (pc' := 8) hC 23 rfl dX1_jumpTo_5 (by decide) (fun h1 => ?_) (fun h1 => ?_)
  · refine gx_aload_n (pc' := 24) hC rfl dX1_jumpTo_23 rfl ?_
    refine gx_get (pc' := 27) hC 6 (atX6 cI cZ cR a _) rfl inw_X1 0 (by decide) lk_X1_25 rfl rfl dX1_jumpTo_24 ?_
    refine gx_iload_n (pc' := 28) hC rfl dX1_jumpTo_27 rfl ?_
    refine gx_callVI (pc' := 31) hC (c_X4_startsFunction cI cZ cR a x1 _) 1 (atX1 cI cZ cR a _) rfl kw_X1_101 hy_X4_startsFunction ⟨rfl, rfl⟩ (by decide) rfl rfl (Nat.le_of_ble_eq_true rfl) rfl dX1_jumpTo_28 (fun r2 => ?_)
    refine gx_if_ne (pc' := 34) hC 36 rfl dX1_jumpTo_31 (by decide) (fun h2 => ?_) (fun h2 => ?_)
    · refine gx_iconst (v := (3 : Int32)) (pc' := 35) hC rfl dX1_jumpTo_34 (by decide) ?_
      exact gx_iret hC dX1_jumpTo_35
    · refine gx_aload_n (pc' := 37) hC rfl dX1_jumpTo_36 rfl ?_
      refine gx_callVI (pc' := 40) hC (c_X1_isAsBeforeCall cI cZ cR a  _) 6 (atX6 cI cZ cR a _) rfl kw_X1_104 hy_X1_isAsBeforeCall ⟨rfl, rfl⟩ (by decide) rfl rfl (Nat.le_of_ble_eq_true rfl) rfl dX1_jumpTo_37 (fun r3 => ?_)
      refine gx_if_eq (pc' := 43) hC 47 rfl dX1_jumpTo_40 (by decide) (fun h3 => ?_) (fun h3 => ?_)
      · refine gx_bipush (v := (6 : Int32)) (pc' := 49) hC rfl dX1_jumpTo_47 (by decide) ?_
        exact gx_iret hC dX1_jumpTo_49
      · refine gx_iconst (v := (0 : Int32)) (pc' := 44) hC rfl dX1_jumpTo_43 (by decide) ?_
        refine gx_goto hC 49 dX1_jumpTo_44 (by decide) ?_
        exact gx_iret hC dX1_jumpTo_49
  · refine gx_aload_n (pc' := 9) hC rfl dX1_jumpTo_8 rfl ?_
    refine gx_get (pc' := 12) hC 6 (atX6 cI cZ cR a _) rfl inw_X1 2 (by decide) lk_X1_15 rfl rfl dX1_jumpTo_9 ?_
    refine gx_iload_n (pc' := 13) hC rfl dX1_jumpTo_12 rfl ?_
    refine gx_zald (pc' := 14) hC 8 1 (atX8 cI cZ cR a _) rfl rfl dX1_jumpTo_13 ?_
    refine gx_if_eq (pc' := 17) hC 21 rfl dX1_jumpTo_14 (by decide) (fun h4 => ?_) (fun h4 => ?_)
    · refine gx_iconst (v := (3 : Int32)) (pc' := 22) hC rfl dX1_jumpTo_21 (by decide) ?_
      exact gx_iret hC dX1_jumpTo_22
    · refine gx_iconst (v := (0 : Int32)) (pc' := 18) hC rfl dX1_jumpTo_17 (by decide) ?_
      refine gx_goto hC 22 dX1_jumpTo_18 (by decide) ?_
      exact gx_iret hC dX1_jumpTo_22
set_option maxHeartbeats 4000000 in
set_option maxRecDepth 100000 in
theorem g_X1_holdsSaved_L2 {p : Program} {l : Launch} {e : Env} {s : State} {m : MethodId} {args : Array Value} {below : List Frame} {meth : Method} {c : Code} {D : va_G} {cI cZ cR : ClassId} {a : Nat → Nat} {tZ : Nat} {A : Nat → Prop} (hC : CX p s m args meth c cX1_holdsSaved 3 (some .boolean) yX1_holdsSaved.cls D (tyl cI cZ cR) tZ A) : ∀ (n : Nat) (x1 : Int32) (x2 : Int32) (S : St), GX p l e rm_X1_holdsSaved s m args below meth c 3 D A (wX cI cZ cR a) (KI below D (tyl cI cZ cR) (wX cI cZ cR a) A args s) 2 [(0, .ref (a 6)), (1, .int x1), (2, .int x2)] [] S (m_X1_holdsSaved_L2 n x1 x2 S) := by
  intro n
  induction n with
  | zero => intro x1 x2 S; exact gx_none
  | succ n ih =>
    intro x1 x2 S
    rw [m_X1_holdsSaved_L2]
    refine gx_iload_n (pc' := 3) hC rfl dX1_holdsSaved_2 rfl ?_
    refine gx_iconst (v := (3 : Int32)) (pc' := 4) hC rfl dX1_holdsSaved_3 (by decide) ?_
    refine gx_icmp_ge (pc' := 7) hC 25 rfl dX1_holdsSaved_4 (by decide) (fun h1 => ?_) (fun h1 => ?_)
    · refine gx_iconst (v := (0 : Int32)) (pc' := 26) hC rfl dX1_holdsSaved_25 (by decide) ?_
      exact gx_zret hC dX1_holdsSaved_26
    · refine gx_aload_n (pc' := 8) hC rfl dX1_holdsSaved_7 rfl ?_
      refine gx_get (pc' := 11) hC 6 (atX6 cI cZ cR a _) rfl inw_X1 4 (by decide) lk_X1_22 rfl rfl dX1_holdsSaved_8 ?_
      refine gx_iload_n (pc' := 12) hC rfl dX1_holdsSaved_11 rfl ?_
      refine gx_iald (pc' := 13) hC 10 0 (atX10 cI cZ cR a _) rfl rfl dX1_holdsSaved_12 ?_
      refine gx_iload_n (pc' := 14) hC rfl dX1_holdsSaved_13 rfl ?_
      refine gx_icmp_ne (pc' := 17) hC 19 rfl dX1_holdsSaved_14 (by decide) (fun h2 => ?_) (fun h2 => ?_)
      · refine gx_iconst (v := (1 : Int32)) (pc' := 18) hC rfl dX1_holdsSaved_17 (by decide) ?_
        exact gx_zret hC dX1_holdsSaved_18
      · refine gx_iinc (v := (x2 + (1 : Int32))) (pc' := 22) hC [(2, .int (x2 + (1 : Int32))), (0, .ref (a 6)), (1, .int x1)] rfl dX1_holdsSaved_19 rfl rfl (by decide) rfl ?_
        refine gx_goto hC 2 dX1_holdsSaved_22 (by decide) ?_
        exact gx_sub [(0, .ref (a 6)), (1, .int x1), (2, .int (x2 + (1 : Int32)))] [1, 2, 0] rfl (ih x1 (x2 + (1 : Int32)) S)
set_option maxHeartbeats 4000000 in
set_option maxRecDepth 100000 in
theorem c_X1_holdsSaved {l : Launch} {D : va_G} {tZ : Nat} (cI cZ cR : ClassId) (a : Nat → Nat) (x1 : Int32) (S : St) : MI l D (tyl cI cZ cR) tZ (wX cI cZ cR a) yX1_holdsSaved cX1_holdsSaved 3 (some .boolean) rm_X1_holdsSaved [.ref (a 6), .int x1] S (m_X1_holdsSaved x1 S) := by
  refine gx_metI (by decide) (Nat.le_of_ble_eq_true rfl) ?_
  intro p e s m below meth c A hC
  refine gx_sub [(0, .ref (a 6)), (1, .int x1)] [0, 1] rfl ?_
  rw [m_X1_holdsSaved]
  refine gx_iconst (v := (0 : Int32)) (pc' := 1) hC rfl dX1_holdsSaved_0 (by decide) ?_
  refine gx_istore_n (pc' := 2) hC [(2, .int (0 : Int32)), (0, .ref (a 6)), (1, .int x1)] rfl dX1_holdsSaved_1 (by decide) rfl ?_
  exact gx_sub [(0, .ref (a 6)), (1, .int x1), (2, .int (0 : Int32))] [1, 2, 0] rfl (g_X1_holdsSaved_L2 hC 10000 x1 (0 : Int32) S)
set_option maxHeartbeats 4000000 in
set_option maxRecDepth 100000 in
theorem c_X1_store {l : Launch} {D : va_G} {tZ : Nat} (cI cZ cR : ClassId) (a : Nat → Nat) (x1 : Int32) (x2 : Int32) (S : St) : MI l D (tyl cI cZ cR) tZ (wX cI cZ cR a) yX1_store cX1_store 3 (some .int) rm_X1_store [.ref (a 6), .int x1, .int x2] S (m_X1_store x1 x2 S) := by
  refine gx_metI (by decide) (Nat.le_of_ble_eq_true rfl) ?_
  intro p e s m below meth c A hC
  refine gx_sub [(0, .ref (a 6)), (1, .int x1), (2, .int x2)] [0, 1, 2] rfl ?_
  rw [m_X1_store]
  refine gx_iload_n (pc' := 1) hC rfl dX1_store_0 rfl ?_
  refine gx_iconst (v := (2 : Int32)) (pc' := 2) hC rfl dX1_store_1 (by decide) ?_
  refine gx_icmp_lt (pc' := 5) hC 21 rfl dX1_store_2 (by decide) (fun h1 => ?_) (fun h1 => ?_)
  · refine gx_bipush (v := (8 : Int32)) (pc' := 23) hC rfl dX1_store_21 (by decide) ?_
    exact gx_iret hC dX1_store_23
  · refine gx_iload_n (pc' := 6) hC rfl dX1_store_5 rfl ?_
    refine gx_aload_n (pc' := 7) hC rfl dX1_store_6 rfl ?_
    refine gx_get (pc' := 10) hC 6 (atX6 cI cZ cR a _) rfl inw_X1 5 (by decide) lk_X1_42 rfl rfl dX1_store_7 ?_
    refine gx_icmp_gt (pc' := 13) hC 21 rfl dX1_store_10 (by decide) (fun h2 => ?_) (fun h2 => ?_)
    · refine gx_bipush (v := (8 : Int32)) (pc' := 23) hC rfl dX1_store_21 (by decide) ?_
      exact gx_iret hC dX1_store_23
    · refine gx_aload_n (pc' := 14) hC rfl dX1_store_13 rfl ?_
      refine gx_iload_n (pc' := 15) hC rfl dX1_store_14 rfl ?_
      refine gx_callVI (pc' := 18) hC (c_X1_holdsSaved cI cZ cR a x2 _) 6 (atX6 cI cZ cR a _) rfl kw_X1_124 hy_X1_holdsSaved ⟨rfl, rfl⟩ (by decide) rfl rfl (Nat.le_of_ble_eq_true rfl) rfl dX1_store_15 (fun r1 => ?_)
      refine gx_if_eq (pc' := 21) hC 24 rfl dX1_store_18 (by decide) (fun h3 => ?_) (fun h3 => ?_)
      · refine gx_aload_n (pc' := 25) hC rfl dX1_store_24 rfl ?_
        refine gx_iload_n (pc' := 26) hC rfl dX1_store_25 rfl ?_
        refine gx_iload_n (pc' := 27) hC rfl dX1_store_26 rfl ?_
        refine gx_callVV (pc' := 30) hC (c_X1_save cI cZ cR a x1 x2 _) 6 (atX6 cI cZ cR a _) rfl kw_X1_120 hy_X1_save ⟨rfl, rfl⟩ (by decide) rfl rfl (Nat.le_of_ble_eq_true rfl) rfl dX1_store_27 (fun r2 => ?_)
        refine gx_iconst (v := (0 : Int32)) (pc' := 31) hC rfl dX1_store_30 (by decide) ?_
        exact gx_iret hC dX1_store_31
      · refine gx_bipush (v := (8 : Int32)) (pc' := 23) hC rfl dX1_store_21 (by decide) ?_
        exact gx_iret hC dX1_store_23
set_option maxHeartbeats 4000000 in
set_option maxRecDepth 100000 in
theorem c_X1_effect {l : Launch} {D : va_G} {tZ : Nat} (cI cZ cR : ClassId) (a : Nat → Nat) (x1 : Int32) (x2 : Int32) (x3 : Int32) (S : St) : MI l D (tyl cI cZ cR) tZ (wX cI cZ cR a) yX1_effect cX1_effect 4 (some .int) rm_X1_effect [.ref (a 6), .int x1, .int x2, .int x3] S (m_X1_effect x1 x2 x3 S) := by
  refine gx_metI (by decide) (Nat.le_of_ble_eq_true rfl) ?_
  intro p e s m below meth c A hC
  refine gx_sub [(0, .ref (a 6)), (1, .int x1), (2, .int x2), (3, .int x3)] [0, 1, 2, 3] rfl ?_
  rw [m_X1_effect]
  refine gx_iload_n (pc' := 1) hC rfl dX1_effect_0 rfl ?_
  refine gx_ite (fun h1 => ?_) (fun h1 => ?_)
  · refine gx_case (v := (1 : Int32)) (off := 75) hC 76 h1 dX1_effect_1 (by decide) ?_
    refine gx_aload_n (pc' := 77) hC rfl dX1_effect_76 rfl ?_
    refine gx_iload_n (pc' := 78) hC rfl dX1_effect_77 rfl ?_
    refine gx_callVI (pc' := 81) hC (c_X1_pushRegister cI cZ cR a x2 _) 6 (atX6 cI cZ cR a _) rfl kw_X1_83 hy_X1_pushRegister ⟨rfl, rfl⟩ (by decide) rfl rfl (Nat.le_of_ble_eq_true rfl) rfl dX1_effect_78 (fun r1 => ?_)
    exact gx_iret hC dX1_effect_81
  refine gx_ite (fun h2 => ?_) (fun h2 => ?_)
  · refine gx_case (v := (2 : Int32)) (off := 81) hC 82 h2 dX1_effect_1 (by decide) ?_
    refine gx_aload_n (pc' := 83) hC rfl dX1_effect_82 rfl ?_
    refine gx_iload_n (pc' := 84) hC rfl dX1_effect_83 rfl ?_
    refine gx_callVI (pc' := 87) hC (c_X1_popRegister cI cZ cR a x2 _) 6 (atX6 cI cZ cR a _) rfl kw_X1_86 hy_X1_popRegister ⟨rfl, rfl⟩ (by decide) rfl rfl (Nat.le_of_ble_eq_true rfl) rfl dX1_effect_84 (fun r2 => ?_)
    exact gx_iret hC dX1_effect_87
  refine gx_ite (fun h3 => ?_) (fun h3 => ?_)
  · refine gx_case (v := (3 : Int32)) (off := 87) hC 88 h3 dX1_effect_1 (by decide) ?_
    refine gx_aload_n (pc' := 89) hC rfl dX1_effect_88 rfl ?_
    refine gx_iload_n (pc' := 90) hC rfl dX1_effect_89 rfl ?_
    refine gx_callVI (pc' := 93) hC (c_X1_gain cI cZ cR a x2 _) 6 (atX6 cI cZ cR a _) rfl kw_X1_89 hy_X1_gain ⟨rfl, rfl⟩ (by decide) rfl rfl (Nat.le_of_ble_eq_true rfl) rfl dX1_effect_90 (fun r3 => ?_)
    exact gx_iret hC dX1_effect_93
  refine gx_ite (fun h4 => ?_) (fun h4 => ?_)
  · refine gx_case (v := (4 : Int32)) (off := 93) hC 94 h4 dX1_effect_1 (by decide) ?_
    refine gx_aload_n (pc' := 95) hC rfl dX1_effect_94 rfl ?_
    refine gx_iload_n (pc' := 96) hC rfl dX1_effect_95 rfl ?_
    refine gx_callVI (pc' := 99) hC (c_X1_lose cI cZ cR a x2 _) 6 (atX6 cI cZ cR a _) rfl kw_X1_92 hy_X1_lose ⟨rfl, rfl⟩ (by decide) rfl rfl (Nat.le_of_ble_eq_true rfl) rfl dX1_effect_96 (fun r4 => ?_)
    exact gx_iret hC dX1_effect_99
  refine gx_ite (fun h5 => ?_) (fun h5 => ?_)
  · refine gx_case (v := (5 : Int32)) (off := 99) hC 100 h5 dX1_effect_1 (by decide) ?_
    refine gx_aload_n (pc' := 101) hC rfl dX1_effect_100 rfl ?_
    refine gx_callVI (pc' := 104) hC (c_X1_setFrame cI cZ cR a  _) 6 (atX6 cI cZ cR a _) rfl kw_X1_95 hy_X1_setFrame ⟨rfl, rfl⟩ (by decide) rfl rfl (Nat.le_of_ble_eq_true rfl) rfl dX1_effect_101 (fun r5 => ?_)
    exact gx_iret hC dX1_effect_104
  refine gx_ite (fun h6 => ?_) (fun h6 => ?_)
  · refine gx_case (v := (6 : Int32)) (off := 104) hC 105 h6 dX1_effect_1 (by decide) ?_
    refine gx_aload_n (pc' := 106) hC rfl dX1_effect_105 rfl ?_
    refine gx_callVI (pc' := 109) hC (c_X1_dropToFrame cI cZ cR a  _) 6 (atX6 cI cZ cR a _) rfl kw_X1_98 hy_X1_dropToFrame ⟨rfl, rfl⟩ (by decide) rfl rfl (Nat.le_of_ble_eq_true rfl) rfl dX1_effect_106 (fun r6 => ?_)
    exact gx_iret hC dX1_effect_109
  refine gx_ite (fun h7 => ?_) (fun h7 => ?_)
  · refine gx_case (v := (7 : Int32)) (off := 109) hC 110 h7 dX1_effect_1 (by decide) ?_
    refine gx_aload_n (pc' := 111) hC rfl dX1_effect_110 rfl ?_
    refine gx_get (pc' := 114) hC 6 (atX6 cI cZ cR a _) rfl inw_X1 0 (by decide) lk_X1_25 rfl rfl dX1_effect_111 ?_
    refine gx_iload_n (pc' := 115) hC rfl dX1_effect_114 rfl ?_
    refine gx_callVI (pc' := 118) hC (c_X4_startsFunction cI cZ cR a x2 _) 1 (atX1 cI cZ cR a _) rfl kw_X1_101 hy_X4_startsFunction ⟨rfl, rfl⟩ (by decide) rfl rfl (Nat.le_of_ble_eq_true rfl) rfl dX1_effect_115 (fun r7 => ?_)
    refine gx_if_eq (pc' := 121) hC 125 rfl dX1_effect_118 (by decide) (fun h8 => ?_) (fun h8 => ?_)
    · refine gx_iconst (v := (3 : Int32)) (pc' := 126) hC rfl dX1_effect_125 (by decide) ?_
      exact gx_iret hC dX1_effect_126
    · refine gx_iconst (v := (0 : Int32)) (pc' := 122) hC rfl dX1_effect_121 (by decide) ?_
      refine gx_goto hC 126 dX1_effect_122 (by decide) ?_
      exact gx_iret hC dX1_effect_126
  refine gx_ite (fun h9 => ?_) (fun h9 => ?_)
  · refine gx_case (v := (8 : Int32)) (off := 126) hC 127 h9 dX1_effect_1 (by decide) ?_
    refine gx_aload_n (pc' := 128) hC rfl dX1_effect_127 rfl ?_
    refine gx_callVI (pc' := 131) hC (c_X1_isAsBeforeCall cI cZ cR a  _) 6 (atX6 cI cZ cR a _) rfl kw_X1_104 hy_X1_isAsBeforeCall ⟨rfl, rfl⟩ (by decide) rfl rfl (Nat.le_of_ble_eq_true rfl) rfl dX1_effect_128 (fun r8 => ?_)
    refine gx_if_eq (pc' := 134) hC 138 rfl dX1_effect_131 (by decide) (fun h10 => ?_) (fun h10 => ?_)
    · refine gx_bipush (v := (6 : Int32)) (pc' := 140) hC rfl dX1_effect_138 (by decide) ?_
      exact gx_iret hC dX1_effect_140
    · refine gx_iconst (v := (0 : Int32)) (pc' := 135) hC rfl dX1_effect_134 (by decide) ?_
      refine gx_goto hC 140 dX1_effect_135 (by decide) ?_
      exact gx_iret hC dX1_effect_140
  refine gx_ite (fun h11 => ?_) (fun h11 => ?_)
  · refine gx_case (v := (9 : Int32)) (off := 140) hC 141 h11 dX1_effect_1 (by decide) ?_
    refine gx_aload_n (pc' := 142) hC rfl dX1_effect_141 rfl ?_
    refine gx_iload_n (pc' := 143) hC rfl dX1_effect_142 rfl ?_
    refine gx_callVI (pc' := 146) hC (c_X1_jumpTo cI cZ cR a x2 _) 6 (atX6 cI cZ cR a _) rfl kw_X1_108 hy_X1_jumpTo ⟨rfl, rfl⟩ (by decide) rfl rfl (Nat.le_of_ble_eq_true rfl) rfl dX1_effect_143 (fun r9 => ?_)
    exact gx_iret hC dX1_effect_146
  refine gx_ite (fun h12 => ?_) (fun h12 => ?_)
  · refine gx_case (v := (10 : Int32)) (off := 146) hC 147 h12 dX1_effect_1 (by decide) ?_
    refine gx_aload_n (pc' := 148) hC rfl dX1_effect_147 rfl ?_
    refine gx_iload_n (pc' := 149) hC rfl dX1_effect_148 rfl ?_
    refine gx_callVI (pc' := 152) hC (c_X1_inFunction cI cZ cR a x2 _) 6 (atX6 cI cZ cR a _) rfl kw_X1_76 hy_X1_inFunction ⟨rfl, rfl⟩ (by decide) rfl rfl (Nat.le_of_ble_eq_true rfl) rfl dX1_effect_149 (fun r10 => ?_)
    refine gx_if_eq (pc' := 155) hC 168 rfl dX1_effect_152 (by decide) (fun h13 => ?_) (fun h13 => ?_)
    · refine gx_iconst (v := (3 : Int32)) (pc' := 169) hC rfl dX1_effect_168 (by decide) ?_
      exact gx_iret hC dX1_effect_169
    · refine gx_aload_n (pc' := 156) hC rfl dX1_effect_155 rfl ?_
      refine gx_get (pc' := 159) hC 6 (atX6 cI cZ cR a _) rfl inw_X1 2 (by decide) lk_X1_15 rfl rfl dX1_effect_156 ?_
      refine gx_iload_n (pc' := 160) hC rfl dX1_effect_159 rfl ?_
      refine gx_zald (pc' := 161) hC 8 1 (atX8 cI cZ cR a _) rfl rfl dX1_effect_160 ?_
      refine gx_if_eq (pc' := 164) hC 168 rfl dX1_effect_161 (by decide) (fun h14 => ?_) (fun h14 => ?_)
      · refine gx_iconst (v := (3 : Int32)) (pc' := 169) hC rfl dX1_effect_168 (by decide) ?_
        exact gx_iret hC dX1_effect_169
      · refine gx_iconst (v := (0 : Int32)) (pc' := 165) hC rfl dX1_effect_164 (by decide) ?_
        refine gx_goto hC 169 dX1_effect_165 (by decide) ?_
        exact gx_iret hC dX1_effect_169
  refine gx_ite (fun h15 => ?_) (fun h15 => ?_)
  · refine gx_case (v := (11 : Int32)) (off := 169) hC 170 h15 dX1_effect_1 (by decide) ?_
    refine gx_aload_n (pc' := 171) hC rfl dX1_effect_170 rfl ?_
    refine gx_iload_n (pc' := 172) hC rfl dX1_effect_171 rfl ?_
    refine gx_callVI (pc' := 175) hC (c_X1_spoil cI cZ cR a x2 _) 6 (atX6 cI cZ cR a _) rfl kw_X1_111 hy_X1_spoil ⟨rfl, rfl⟩ (by decide) rfl rfl (Nat.le_of_ble_eq_true rfl) rfl dX1_effect_172 (fun r11 => ?_)
    exact gx_iret hC dX1_effect_175
  refine gx_ite (fun h16 => ?_) (fun h16 => ?_)
  · refine gx_case (v := (12 : Int32)) (off := 214) hC 215 h16 dX1_effect_1 (by decide) ?_
    refine gx_iconst (v := (0 : Int32)) (pc' := 216) hC rfl dX1_effect_215 (by decide) ?_
    exact gx_iret hC dX1_effect_216
  refine gx_ite (fun h17 => ?_) (fun h17 => ?_)
  · refine gx_case (v := (13 : Int32)) (off := 214) hC 215 h17 dX1_effect_1 (by decide) ?_
    refine gx_iconst (v := (0 : Int32)) (pc' := 216) hC rfl dX1_effect_215 (by decide) ?_
    exact gx_iret hC dX1_effect_216
  refine gx_ite (fun h18 => ?_) (fun h18 => ?_)
  · refine gx_case (v := (14 : Int32)) (off := 175) hC 176 h18 dX1_effect_1 (by decide) ?_
    refine gx_aload_n (pc' := 177) hC rfl dX1_effect_176 rfl ?_
    refine gx_iload_n (pc' := 178) hC rfl dX1_effect_177 rfl ?_
    refine gx_aload_n (pc' := 179) hC rfl dX1_effect_178 rfl ?_
    refine gx_get (pc' := 182) hC 6 (atX6 cI cZ cR a _) rfl inw_X1 5 (by decide) lk_X1_42 rfl rfl dX1_effect_179 ?_
    refine gx_iload_n (pc' := 183) hC rfl dX1_effect_182 rfl ?_
    refine gx_isub (pc' := 184) hC rfl dX1_effect_183 ?_
    refine gx_callVI (pc' := 187) hC (c_X1_store cI cZ cR a x2 ((S 20 2) - x3) _) 6 (atX6 cI cZ cR a _) rfl kw_X1_114 hy_X1_store ⟨rfl, rfl⟩ (by decide) rfl rfl (Nat.le_of_ble_eq_true rfl) rfl dX1_effect_184 (fun r12 => ?_)
    exact gx_iret hC dX1_effect_187
  refine gx_ite (fun h19 => ?_) (fun h19 => ?_)
  · refine gx_case (v := (15 : Int32)) (off := 187) hC 188 h19 dX1_effect_1 (by decide) ?_
    refine gx_iload_n (pc' := 189) hC rfl dX1_effect_188 rfl ?_
    refine gx_aload_n (pc' := 190) hC rfl dX1_effect_189 rfl ?_
    refine gx_get (pc' := 193) hC 6 (atX6 cI cZ cR a _) rfl inw_X1 5 (by decide) lk_X1_42 rfl rfl dX1_effect_190 ?_
    refine gx_iconst (v := (1 : Int32)) (pc' := 194) hC rfl dX1_effect_193 (by decide) ?_
    refine gx_isub (pc' := 195) hC rfl dX1_effect_194 ?_
    refine gx_icmp_ge (pc' := 198) hC 212 rfl dX1_effect_195 (by decide) (fun h20 => ?_) (fun h20 => ?_)
    · refine gx_bipush (v := (8 : Int32)) (pc' := 214) hC rfl dX1_effect_212 (by decide) ?_
      exact gx_iret hC dX1_effect_214
    · refine gx_aload_n (pc' := 199) hC rfl dX1_effect_198 rfl ?_
      refine gx_iload_n (pc' := 200) hC rfl dX1_effect_199 rfl ?_
      refine gx_aload_n (pc' := 201) hC rfl dX1_effect_200 rfl ?_
      refine gx_get (pc' := 204) hC 6 (atX6 cI cZ cR a _) rfl inw_X1 5 (by decide) lk_X1_42 rfl rfl dX1_effect_201 ?_
      refine gx_iload_n (pc' := 205) hC rfl dX1_effect_204 rfl ?_
      refine gx_isub (pc' := 206) hC rfl dX1_effect_205 ?_
      refine gx_callVI (pc' := 209) hC (c_X1_give cI cZ cR a x2 ((S 20 2) - x3) _) 6 (atX6 cI cZ cR a _) rfl kw_X1_117 hy_X1_give ⟨rfl, rfl⟩ (by decide) rfl rfl (Nat.le_of_ble_eq_true rfl) rfl dX1_effect_206 (fun r13 => ?_)
      refine gx_goto hC 214 dX1_effect_209 (by decide) ?_
      exact gx_iret hC dX1_effect_214
  refine gx_dflt hC 215 dX1_effect_1 (by have := lv_neT h1 (show ((1 : Int32)).toInt = 1 by decide); have := lv_neT h2 (show ((2 : Int32)).toInt = 2 by decide); have := lv_neT h3 (show ((3 : Int32)).toInt = 3 by decide); have := lv_neT h4 (show ((4 : Int32)).toInt = 4 by decide); have := lv_neT h5 (show ((5 : Int32)).toInt = 5 by decide); have := lv_neT h6 (show ((6 : Int32)).toInt = 6 by decide); have := lv_neT h7 (show ((7 : Int32)).toInt = 7 by decide); have := lv_neT h9 (show ((8 : Int32)).toInt = 8 by decide); have := lv_neT h11 (show ((9 : Int32)).toInt = 9 by decide); have := lv_neT h12 (show ((10 : Int32)).toInt = 10 by decide); have := lv_neT h15 (show ((11 : Int32)).toInt = 11 by decide); have := lv_neT h16 (show ((12 : Int32)).toInt = 12 by decide); have := lv_neT h17 (show ((13 : Int32)).toInt = 13 by decide); have := lv_neT h18 (show ((14 : Int32)).toInt = 14 by decide); have := lv_neT h19 (show ((15 : Int32)).toInt = 15 by decide); omega) (by decide) ?_
  refine gx_iconst (v := (0 : Int32)) (pc' := 216) hC rfl dX1_effect_215 (by decide) ?_
  exact gx_iret hC dX1_effect_216
set_option maxHeartbeats 4000000 in
set_option maxRecDepth 100000 in
theorem g_X1_lookAt_L138 {p : Program} {l : Launch} {e : Env} {s : State} {m : MethodId} {args : Array Value} {below : List Frame} {meth : Method} {c : Code} {D : va_G} {cI cZ cR : ClassId} {a : Nat → Nat} {tZ : Nat} {A : Nat → Prop} (hC : CX p s m args meth c cX1_lookAt 8 (some .int) yX1_lookAt.cls D (tyl cI cZ cR) tZ A) (x4 : Int32) (x6 : Int32) (S : St) : GX p l e rm_X1_lookAt s m args below meth c 8 D A (wX cI cZ cR a) (KI below D (tyl cI cZ cR) (wX cI cZ cR a) A args s) 138 [(0, .ref (a 6)), (4, .int x4), (6, .int x6)] [] S (m_X1_lookAt_L138 x4 x6 S) := by
  rw [m_X1_lookAt_L138]
  refine gx_aload_n (pc' := 139) hC rfl dX1_lookAt_138 rfl ?_
  refine gx_iload (pc' := 141) hC rfl dX1_lookAt_139 rfl ?_
  refine gx_callVI (pc' := 144) hC (c_X1_inFunction cI cZ cR a x4 _) 6 (atX6 cI cZ cR a _) rfl kw_X1_76 hy_X1_inFunction ⟨rfl, rfl⟩ (by decide) rfl rfl (Nat.le_of_ble_eq_true rfl) rfl dX1_lookAt_141 (fun r9 => ?_)
  refine gx_if_eq (pc' := 147) hC 151 rfl dX1_lookAt_144 (by decide) (fun h10 => ?_) (fun h10 => ?_)
  · refine gx_iconst (v := (0 : Int32)) (pc' := 152) hC rfl dX1_lookAt_151 (by decide) ?_
    refine gx_istore (pc' := 154) hC [(7, .int (0 : Int32)), (0, .ref (a 6)), (4, .int x4), (6, .int x6)] rfl dX1_lookAt_152 (by decide) rfl ?_
    refine gx_iload (pc' := 156) hC rfl dX1_lookAt_154 rfl ?_
    refine gx_if_ne (pc' := 159) hC 173 rfl dX1_lookAt_156 (by decide) (fun h11 => ?_) (fun h11 => ?_)
    · refine gx_iload (pc' := 161) hC rfl dX1_lookAt_159 rfl ?_
      refine gx_if_eq (pc' := 164) hC 173 rfl dX1_lookAt_161 (by decide) (fun h12 => ?_) (fun h12 => ?_)
      · refine gx_iload (pc' := 175) hC rfl dX1_lookAt_173 rfl ?_
        exact gx_iret hC dX1_lookAt_175
      · refine gx_aload_n (pc' := 165) hC rfl dX1_lookAt_164 rfl ?_
        refine gx_iload (pc' := 167) hC rfl dX1_lookAt_165 rfl ?_
        refine gx_callVI (pc' := 170) hC (c_X1_learn cI cZ cR a x4 _) 6 (atX6 cI cZ cR a _) rfl kw_X1_48 hy_X1_learn ⟨rfl, rfl⟩ (by decide) rfl rfl (Nat.le_of_ble_eq_true rfl) rfl dX1_lookAt_167 (fun r10 => ?_)
        refine gx_goto hC 175 dX1_lookAt_170 (by decide) ?_
        exact gx_iret hC dX1_lookAt_175
    · refine gx_iload (pc' := 175) hC rfl dX1_lookAt_173 rfl ?_
      exact gx_iret hC dX1_lookAt_175
  · refine gx_iconst (v := (1 : Int32)) (pc' := 148) hC rfl dX1_lookAt_147 (by decide) ?_
    refine gx_goto hC 152 dX1_lookAt_148 (by decide) ?_
    refine gx_istore (pc' := 154) hC [(7, .int (1 : Int32)), (0, .ref (a 6)), (4, .int x4), (6, .int x6)] rfl dX1_lookAt_152 (by decide) rfl ?_
    refine gx_iload (pc' := 156) hC rfl dX1_lookAt_154 rfl ?_
    refine gx_if_ne (pc' := 159) hC 173 rfl dX1_lookAt_156 (by decide) (fun h13 => ?_) (fun h13 => ?_)
    · refine gx_iload (pc' := 161) hC rfl dX1_lookAt_159 rfl ?_
      refine gx_if_eq (pc' := 164) hC 173 rfl dX1_lookAt_161 (by decide) (fun h14 => ?_) (fun h14 => ?_)
      · refine gx_iload (pc' := 175) hC rfl dX1_lookAt_173 rfl ?_
        exact gx_iret hC dX1_lookAt_175
      · refine gx_aload_n (pc' := 165) hC rfl dX1_lookAt_164 rfl ?_
        refine gx_iload (pc' := 167) hC rfl dX1_lookAt_165 rfl ?_
        refine gx_callVI (pc' := 170) hC (c_X1_learn cI cZ cR a x4 _) 6 (atX6 cI cZ cR a _) rfl kw_X1_48 hy_X1_learn ⟨rfl, rfl⟩ (by decide) rfl rfl (Nat.le_of_ble_eq_true rfl) rfl dX1_lookAt_167 (fun r11 => ?_)
        refine gx_goto hC 175 dX1_lookAt_170 (by decide) ?_
        exact gx_iret hC dX1_lookAt_175
    · refine gx_iload (pc' := 175) hC rfl dX1_lookAt_173 rfl ?_
      exact gx_iret hC dX1_lookAt_175
set_option maxHeartbeats 4000000 in
set_option maxRecDepth 100000 in
theorem g_X1_lookAt_L124 {p : Program} {l : Launch} {e : Env} {s : State} {m : MethodId} {args : Array Value} {below : List Frame} {meth : Method} {c : Code} {D : va_G} {cI cZ cR : ClassId} {a : Nat → Nat} {tZ : Nat} {A : Nat → Prop} (hC : CX p s m args meth c cX1_lookAt 8 (some .int) yX1_lookAt.cls D (tyl cI cZ cR) tZ A) (x3 : Int32) (x4 : Int32) (z0 : Int32) (S : St) : GX p l e rm_X1_lookAt s m args below meth c 8 D A (wX cI cZ cR a) (KI below D (tyl cI cZ cR) (wX cI cZ cR a) A args s) 124 [(0, .ref (a 6)), (3, .int x3), (4, .int x4)] [.int z0] S (m_X1_lookAt_L124 x3 x4 z0 S) := by
  rw [m_X1_lookAt_L124]
  refine gx_istore (pc' := 126) hC [(6, .int z0), (0, .ref (a 6)), (3, .int x3), (4, .int x4)] rfl dX1_lookAt_124 (by decide) rfl ?_
  refine gx_iload_n (pc' := 127) hC rfl dX1_lookAt_126 rfl ?_
  refine gx_bipush (v := (9 : Int32)) (pc' := 129) hC rfl dX1_lookAt_127 (by decide) ?_
  refine gx_icmp_eq (pc' := 132) hC 138 rfl dX1_lookAt_129 (by decide) (fun h6 => ?_) (fun h6 => ?_)
  · exact gx_sub [(0, .ref (a 6)), (4, .int x4), (6, .int z0)] [1, 3, 0] rfl (g_X1_lookAt_L138 hC x4 z0 S)
  · refine gx_iload_n (pc' := 133) hC rfl dX1_lookAt_132 rfl ?_
    refine gx_bipush (v := (10 : Int32)) (pc' := 135) hC rfl dX1_lookAt_133 (by decide) ?_
    refine gx_icmp_ne (pc' := 138) hC 151 rfl dX1_lookAt_135 (by decide) (fun h7 => ?_) (fun h7 => ?_)
    · exact gx_sub [(0, .ref (a 6)), (4, .int x4), (6, .int z0)] [1, 3, 0] rfl (g_X1_lookAt_L138 hC x4 z0 S)
    · refine gx_iconst (v := (0 : Int32)) (pc' := 152) hC rfl dX1_lookAt_151 (by decide) ?_
      refine gx_istore (pc' := 154) hC [(7, .int (0 : Int32)), (6, .int z0), (0, .ref (a 6)), (3, .int x3), (4, .int x4)] rfl dX1_lookAt_152 (by decide) rfl ?_
      refine gx_iload (pc' := 156) hC rfl dX1_lookAt_154 rfl ?_
      refine gx_if_ne (pc' := 159) hC 173 rfl dX1_lookAt_156 (by decide) (fun h8 => ?_) (fun h8 => ?_)
      · refine gx_iload (pc' := 161) hC rfl dX1_lookAt_159 rfl ?_
        refine gx_if_eq (pc' := 164) hC 173 rfl dX1_lookAt_161 (by decide) (fun h9 => ?_) (fun h9 => ?_)
        · refine gx_iload (pc' := 175) hC rfl dX1_lookAt_173 rfl ?_
          exact gx_iret hC dX1_lookAt_175
        · refine gx_aload_n (pc' := 165) hC rfl dX1_lookAt_164 rfl ?_
          refine gx_iload (pc' := 167) hC rfl dX1_lookAt_165 rfl ?_
          refine gx_callVI (pc' := 170) hC (c_X1_learn cI cZ cR a x4 _) 6 (atX6 cI cZ cR a _) rfl kw_X1_48 hy_X1_learn ⟨rfl, rfl⟩ (by decide) rfl rfl (Nat.le_of_ble_eq_true rfl) rfl dX1_lookAt_167 (fun r8 => ?_)
          refine gx_goto hC 175 dX1_lookAt_170 (by decide) ?_
          exact gx_iret hC dX1_lookAt_175
      · refine gx_iload (pc' := 175) hC rfl dX1_lookAt_173 rfl ?_
        exact gx_iret hC dX1_lookAt_175
set_option maxHeartbeats 4000000 in
set_option maxRecDepth 100000 in
theorem c_X1_lookAt {l : Launch} {D : va_G} {tZ : Nat} (cI cZ cR : ClassId) (a : Nat → Nat) (x1 : Int32) (S : St) : MI l D (tyl cI cZ cR) tZ (wX cI cZ cR a) yX1_lookAt cX1_lookAt 8 (some .int) rm_X1_lookAt [.ref (a 6), .int x1] S (m_X1_lookAt x1 S) := by
  refine gx_metI (by decide) (Nat.le_of_ble_eq_true rfl) ?_
  intro p e s m below meth c A hC
  refine gx_sub [(0, .ref (a 6)), (1, .int x1)] [0, 1] rfl ?_
  rw [m_X1_lookAt]
  refine gx_aload_n (pc' := 1) hC rfl dX1_lookAt_0 rfl ?_
  refine gx_get (pc' := 4) hC 6 (atX6 cI cZ cR a _) rfl inw_X1 1 (by decide) lk_X1_9 rfl rfl dX1_lookAt_1 ?_
  refine gx_iload_n (pc' := 5) hC rfl dX1_lookAt_4 rfl ?_
  refine gx_iconst (v := (2 : Int32)) (pc' := 6) hC rfl dX1_lookAt_5 (by decide) ?_
  refine gx_iast (pc' := 7) hC 7 0 (atX7 cI cZ cR a _) rfl (st S 3 x1.toNatClampNeg (2 : Int32)) (stX7 cI cZ cR a _ _ _) rfl dX1_lookAt_6 ?_
  refine gx_iload_n (pc' := 8) hC rfl dX1_lookAt_7 rfl ?_
  refine gx_aload_n (pc' := 9) hC rfl dX1_lookAt_8 rfl ?_
  refine gx_get (pc' := 12) hC 6 (atX6 cI cZ cR a _) rfl inw_X1 8 (by decide) lk_X1_33 rfl rfl dX1_lookAt_9 ?_
  refine gx_icmp_ne (pc' := 15) hC 21 rfl dX1_lookAt_12 (by decide) (fun h1 => ?_) (fun h1 => ?_)
  · refine gx_sipush (v := (200 : Int32)) (pc' := 18) hC rfl dX1_lookAt_15 (by decide) ?_
    refine gx_iload_n (pc' := 19) hC rfl dX1_lookAt_18 rfl ?_
    refine gx_iadd (pc' := 20) hC rfl dX1_lookAt_19 ?_
    exact gx_iret hC dX1_lookAt_20
  · refine gx_aload_n (pc' := 22) hC rfl dX1_lookAt_21 rfl ?_
    refine gx_get (pc' := 25) hC 6 (atX6 cI cZ cR a _) rfl inw_X1 0 (by decide) lk_X1_25 rfl rfl dX1_lookAt_22 ?_
    refine gx_iload_n (pc' := 26) hC rfl dX1_lookAt_25 rfl ?_
    refine gx_aload_n (pc' := 27) hC rfl dX1_lookAt_26 rfl ?_
    refine gx_get (pc' := 30) hC 6 (atX6 cI cZ cR a _) rfl inw_X1 8 (by decide) lk_X1_33 rfl rfl dX1_lookAt_27 ?_
    refine gx_callVI (pc' := 33) hC (c_X4_wholeSize cI cZ cR a x1 ((st S 3 x1.toNatClampNeg (2 : Int32)) 20 5) _) 1 (atX1 cI cZ cR a _) rfl kw_X1_59 hy_X4_wholeSize ⟨rfl, rfl⟩ (by decide) rfl rfl (Nat.le_of_ble_eq_true rfl) rfl dX1_lookAt_30 (fun r1 => ?_)
    refine gx_istore_n (pc' := 34) hC [(2, .int r1.1), (0, .ref (a 6)), (1, .int x1)] rfl dX1_lookAt_33 (by decide) rfl ?_
    refine gx_iload_n (pc' := 35) hC rfl dX1_lookAt_34 rfl ?_
    refine gx_if_ne (pc' := 38) hC 43 rfl dX1_lookAt_35 (by decide) (fun h2 => ?_) (fun h2 => ?_)
    · refine gx_bipush (v := (100 : Int32)) (pc' := 40) hC rfl dX1_lookAt_38 (by decide) ?_
      refine gx_iload_n (pc' := 41) hC rfl dX1_lookAt_40 rfl ?_
      refine gx_iadd (pc' := 42) hC rfl dX1_lookAt_41 ?_
      exact gx_iret hC dX1_lookAt_42
    · refine gx_aload_n (pc' := 44) hC rfl dX1_lookAt_43 rfl ?_
      refine gx_iload_n (pc' := 45) hC rfl dX1_lookAt_44 rfl ?_
      refine gx_callVV (pc' := 48) hC (c_X1_recall cI cZ cR a x1 _) 6 (atX6 cI cZ cR a _) rfl kw_X1_65 hy_X1_recall ⟨rfl, rfl⟩ (by decide) rfl rfl (Nat.le_of_ble_eq_true rfl) rfl dX1_lookAt_45 (fun r2 => ?_)
      refine gx_aload_n (pc' := 49) hC rfl dX1_lookAt_48 rfl ?_
      refine gx_get (pc' := 52) hC 6 (atX6 cI cZ cR a _) rfl inw_X1 0 (by decide) lk_X1_25 rfl rfl dX1_lookAt_49 ?_
      refine gx_iload_n (pc' := 53) hC rfl dX1_lookAt_52 rfl ?_
      refine gx_callVI (pc' := 56) hC (c_X4_codeAt cI cZ cR a x1 _) 1 (atX1 cI cZ cR a _) rfl kw_X1_69 hy_X4_codeAt ⟨rfl, rfl⟩ (by decide) rfl rfl (Nat.le_of_ble_eq_true rfl) rfl dX1_lookAt_53 (fun r3 => ?_)
      refine gx_istore_n (pc' := 57) hC [(3, .int r3.1), (2, .int r1.1), (0, .ref (a 6)), (1, .int x1)] rfl dX1_lookAt_56 (by decide) rfl ?_
      refine gx_aload_n (pc' := 58) hC rfl dX1_lookAt_57 rfl ?_
      refine gx_get (pc' := 61) hC 6 (atX6 cI cZ cR a _) rfl inw_X1 0 (by decide) lk_X1_25 rfl rfl dX1_lookAt_58 ?_
      refine gx_iload_n (pc' := 62) hC rfl dX1_lookAt_61 rfl ?_
      refine gx_iconst (v := (1 : Int32)) (pc' := 63) hC rfl dX1_lookAt_62 (by decide) ?_
      refine gx_iadd (pc' := 64) hC rfl dX1_lookAt_63 ?_
      refine gx_callVI (pc' := 67) hC (c_X4_codeAt cI cZ cR a (x1 + (1 : Int32)) _) 1 (atX1 cI cZ cR a _) rfl kw_X1_69 hy_X4_codeAt ⟨rfl, rfl⟩ (by decide) rfl rfl (Nat.le_of_ble_eq_true rfl) rfl dX1_lookAt_64 (fun r4 => ?_)
      refine gx_istore (pc' := 69) hC [(4, .int r4.1), (3, .int r3.1), (2, .int r1.1), (0, .ref (a 6)), (1, .int x1)] rfl dX1_lookAt_67 (by decide) rfl ?_
      refine gx_aload_n (pc' := 70) hC rfl dX1_lookAt_69 rfl ?_
      refine gx_iload_n (pc' := 71) hC rfl dX1_lookAt_70 rfl ?_
      refine gx_iload (pc' := 73) hC rfl dX1_lookAt_71 rfl ?_
      refine gx_aload_n (pc' := 74) hC rfl dX1_lookAt_73 rfl ?_
      refine gx_get (pc' := 77) hC 6 (atX6 cI cZ cR a _) rfl inw_X1 0 (by decide) lk_X1_25 rfl rfl dX1_lookAt_74 ?_
      refine gx_iload_n (pc' := 78) hC rfl dX1_lookAt_77 rfl ?_
      refine gx_iconst (v := (2 : Int32)) (pc' := 79) hC rfl dX1_lookAt_78 (by decide) ?_
      refine gx_iadd (pc' := 80) hC rfl dX1_lookAt_79 ?_
      refine gx_callVI (pc' := 83) hC (c_X4_codeAt cI cZ cR a (x1 + (2 : Int32)) _) 1 (atX1 cI cZ cR a _) rfl kw_X1_69 hy_X4_codeAt ⟨rfl, rfl⟩ (by decide) rfl rfl (Nat.le_of_ble_eq_true rfl) rfl dX1_lookAt_80 (fun r5 => ?_)
      refine gx_callVI (pc' := 86) hC (c_X1_effect cI cZ cR a r3.1 r4.1 r5.1 _) 6 (atX6 cI cZ cR a _) rfl kw_X1_72 hy_X1_effect ⟨rfl, rfl⟩ (by decide) rfl rfl (Nat.le_of_ble_eq_true rfl) rfl dX1_lookAt_83 (fun r6 => ?_)
      refine gx_istore (pc' := 88) hC [(5, .int r6.1), (4, .int r4.1), (3, .int r3.1), (2, .int r1.1), (0, .ref (a 6)), (1, .int x1)] rfl dX1_lookAt_86 (by decide) rfl ?_
      refine gx_iload (pc' := 90) hC rfl dX1_lookAt_88 rfl ?_
      refine gx_if_eq (pc' := 93) hC 101 rfl dX1_lookAt_90 (by decide) (fun h3 => ?_) (fun h3 => ?_)
      · refine gx_iload_n (pc' := 102) hC rfl dX1_lookAt_101 rfl ?_
        refine gx_bipush (v := (8 : Int32)) (pc' := 104) hC rfl dX1_lookAt_102 (by decide) ?_
        refine gx_icmp_eq (pc' := 107) hC 113 rfl dX1_lookAt_104 (by decide) (fun h4 => ?_) (fun h4 => ?_)
        · refine gx_iconst (v := (0 : Int32)) (pc' := 114) hC rfl dX1_lookAt_113 (by decide) ?_
          refine gx_goto hC 124 dX1_lookAt_114 (by decide) ?_
          exact gx_sub [(0, .ref (a 6)), (3, .int r3.1), (4, .int r4.1)] [4, 2, 1] rfl (g_X1_lookAt_L124 hC r3.1 r4.1 (0 : Int32) r6.2)
        · refine gx_iload_n (pc' := 108) hC rfl dX1_lookAt_107 rfl ?_
          refine gx_bipush (v := (9 : Int32)) (pc' := 110) hC rfl dX1_lookAt_108 (by decide) ?_
          refine gx_icmp_ne (pc' := 113) hC 117 rfl dX1_lookAt_110 (by decide) (fun h5 => ?_) (fun h5 => ?_)
          · refine gx_iconst (v := (0 : Int32)) (pc' := 114) hC rfl dX1_lookAt_113 (by decide) ?_
            refine gx_goto hC 124 dX1_lookAt_114 (by decide) ?_
            exact gx_sub [(0, .ref (a 6)), (3, .int r3.1), (4, .int r4.1)] [4, 2, 1] rfl (g_X1_lookAt_L124 hC r3.1 r4.1 (0 : Int32) r6.2)
          · refine gx_aload_n (pc' := 118) hC rfl dX1_lookAt_117 rfl ?_
            refine gx_iload_n (pc' := 119) hC rfl dX1_lookAt_118 rfl ?_
            refine gx_iload_n (pc' := 120) hC rfl dX1_lookAt_119 rfl ?_
            refine gx_iadd (pc' := 121) hC rfl dX1_lookAt_120 ?_
            refine gx_callVI (pc' := 124) hC (c_X1_learn cI cZ cR a (x1 + r1.1) _) 6 (atX6 cI cZ cR a _) rfl kw_X1_48 hy_X1_learn ⟨rfl, rfl⟩ (by decide) rfl rfl (Nat.le_of_ble_eq_true rfl) rfl dX1_lookAt_121 (fun r7 => ?_)
            exact gx_sub [(0, .ref (a 6)), (3, .int r3.1), (4, .int r4.1)] [4, 2, 1] rfl (g_X1_lookAt_L124 hC r3.1 r4.1 r7.1 r7.2)
      · refine gx_bipush (v := (100 : Int32)) (pc' := 95) hC rfl dX1_lookAt_93 (by decide) ?_
        refine gx_iload (pc' := 97) hC rfl dX1_lookAt_95 rfl ?_
        refine gx_imul (pc' := 98) hC rfl dX1_lookAt_97 ?_
        refine gx_iload_n (pc' := 99) hC rfl dX1_lookAt_98 rfl ?_
        refine gx_iadd (pc' := 100) hC rfl dX1_lookAt_99 ?_
        exact gx_iret hC dX1_lookAt_100
set_option maxHeartbeats 4000000 in
set_option maxRecDepth 100000 in
theorem g_X1_findOut_L66 {p : Program} {l : Launch} {e : Env} {s : State} {m : MethodId} {args : Array Value} {below : List Frame} {meth : Method} {c : Code} {D : va_G} {cI cZ cR : ClassId} {a : Nat → Nat} {tZ : Nat} {A : Nat → Prop} (hC : CX p s m args meth c cX1_findOut 6 (some .int) yX1_findOut.cls D (tyl cI cZ cR) tZ A) : ∀ (n : Nat) (x3 : Int32) (x4 : Int32) (x5 : Int32) (S : St), GX p l e rm_X1_findOut s m args below meth c 6 D A (wX cI cZ cR a) (KI below D (tyl cI cZ cR) (wX cI cZ cR a) A args s) 66 [(0, .ref (a 6)), (3, .int x3), (4, .int x4), (5, .int x5)] [] S (m_X1_findOut_L66 n x3 x4 x5 S) := by
  intro n
  induction n with
  | zero => intro x3 x4 x5 S; exact gx_none
  | succ n ih =>
    intro x3 x4 x5 S
    rw [m_X1_findOut_L66]
    refine gx_iload (pc' := 68) hC rfl dX1_findOut_66 rfl ?_
    refine gx_bipush (v := (96 : Int32)) (pc' := 70) hC rfl dX1_findOut_68 (by decide) ?_
    refine gx_icmp_gt (pc' := 73) hC 102 rfl dX1_findOut_70 (by decide) (fun h2 => ?_) (fun h2 => ?_)
    · refine gx_iload_n (pc' := 103) hC rfl dX1_findOut_102 rfl ?_
      exact gx_iret hC dX1_findOut_103
    · refine gx_iload_n (pc' := 74) hC rfl dX1_findOut_73 rfl ?_
      refine gx_if_ne (pc' := 77) hC 102 rfl dX1_findOut_74 (by decide) (fun h3 => ?_) (fun h3 => ?_)
      · refine gx_iload (pc' := 79) hC rfl dX1_findOut_77 rfl ?_
        refine gx_iconst (v := (-1 : Int32)) (pc' := 80) hC rfl dX1_findOut_79 (by decide) ?_
        refine gx_icmp_eq (pc' := 83) hC 102 rfl dX1_findOut_80 (by decide) (fun h4 => ?_) (fun h4 => ?_)
        · refine gx_iload_n (pc' := 103) hC rfl dX1_findOut_102 rfl ?_
          exact gx_iret hC dX1_findOut_103
        · refine gx_aload_n (pc' := 84) hC rfl dX1_findOut_83 rfl ?_
          refine gx_iload (pc' := 86) hC rfl dX1_findOut_84 rfl ?_
          refine gx_callVI (pc' := 89) hC (c_X1_lookAt cI cZ cR a x4 _) 6 (atX6 cI cZ cR a _) rfl kw_X1_56 hy_X1_lookAt ⟨rfl, rfl⟩ (by decide) rfl rfl (Nat.le_of_ble_eq_true rfl) rfl dX1_findOut_86 (fun r5 => ?_)
          refine gx_istore_n (pc' := 90) hC [(3, .int r5.1), (0, .ref (a 6)), (4, .int x4), (5, .int x5)] rfl dX1_findOut_89 (by decide) rfl ?_
          refine gx_aload_n (pc' := 91) hC rfl dX1_findOut_90 rfl ?_
          refine gx_callVI (pc' := 94) hC (c_X1_lowestToLookAt cI cZ cR a  _) 6 (atX6 cI cZ cR a _) rfl kw_X1_52 hy_X1_lowestToLookAt ⟨rfl, rfl⟩ (by decide) rfl rfl (Nat.le_of_ble_eq_true rfl) rfl dX1_findOut_91 (fun r6 => ?_)
          refine gx_istore (pc' := 96) hC [(4, .int r6.1), (3, .int r5.1), (0, .ref (a 6)), (5, .int x5)] rfl dX1_findOut_94 (by decide) rfl ?_
          refine gx_iinc (v := (x5 + (1 : Int32))) (pc' := 99) hC [(5, .int (x5 + (1 : Int32))), (4, .int r6.1), (3, .int r5.1), (0, .ref (a 6))] rfl dX1_findOut_96 rfl rfl (by decide) rfl ?_
          refine gx_goto hC 66 dX1_findOut_99 (by decide) ?_
          exact gx_sub [(0, .ref (a 6)), (3, .int r5.1), (4, .int r6.1), (5, .int (x5 + (1 : Int32)))] [3, 2, 1, 0] rfl (ih r5.1 r6.1 (x5 + (1 : Int32)) r6.2)
      · refine gx_iload_n (pc' := 103) hC rfl dX1_findOut_102 rfl ?_
        exact gx_iret hC dX1_findOut_103
set_option maxHeartbeats 4000000 in
set_option maxRecDepth 100000 in
theorem g_X1_findOut_L30 {p : Program} {l : Launch} {e : Env} {s : State} {m : MethodId} {args : Array Value} {below : List Frame} {meth : Method} {c : Code} {D : va_G} {cI cZ cR : ClassId} {a : Nat → Nat} {tZ : Nat} {A : Nat → Prop} (hC : CX p s m args meth c cX1_findOut 6 (some .int) yX1_findOut.cls D (tyl cI cZ cR) tZ A) : ∀ (n : Nat) (x3 : Int32) (S : St), GX p l e rm_X1_findOut s m args below meth c 6 D A (wX cI cZ cR a) (KI below D (tyl cI cZ cR) (wX cI cZ cR a) A args s) 30 [(0, .ref (a 6)), (3, .int x3)] [] S (m_X1_findOut_L30 n x3 S) := by
  intro n
  induction n with
  | zero => intro x3 S; exact gx_none
  | succ n ih =>
    intro x3 S
    rw [m_X1_findOut_L30]
    refine gx_iload_n (pc' := 31) hC rfl dX1_findOut_30 rfl ?_
    refine gx_iconst (v := (3 : Int32)) (pc' := 32) hC rfl dX1_findOut_31 (by decide) ?_
    refine gx_icmp_ge (pc' := 35) hC 48 rfl dX1_findOut_32 (by decide) (fun h1 => ?_) (fun h1 => ?_)
    · refine gx_aload_n (pc' := 49) hC rfl dX1_findOut_48 rfl ?_
      refine gx_aload_n (pc' := 50) hC rfl dX1_findOut_49 rfl ?_
      refine gx_get (pc' := 53) hC 6 (atX6 cI cZ cR a _) rfl inw_X1 7 (by decide) lk_X1_29 rfl rfl dX1_findOut_50 ?_
      refine gx_callVI (pc' := 56) hC (c_X1_learn cI cZ cR a (S 20 4) _) 6 (atX6 cI cZ cR a _) rfl kw_X1_48 hy_X1_learn ⟨rfl, rfl⟩ (by decide) rfl rfl (Nat.le_of_ble_eq_true rfl) rfl dX1_findOut_53 (fun r3 => ?_)
      refine gx_istore_n (pc' := 57) hC [(3, .int r3.1), (0, .ref (a 6))] rfl dX1_findOut_56 (by decide) rfl ?_
      refine gx_aload_n (pc' := 58) hC rfl dX1_findOut_57 rfl ?_
      refine gx_callVI (pc' := 61) hC (c_X1_lowestToLookAt cI cZ cR a  _) 6 (atX6 cI cZ cR a _) rfl kw_X1_52 hy_X1_lowestToLookAt ⟨rfl, rfl⟩ (by decide) rfl rfl (Nat.le_of_ble_eq_true rfl) rfl dX1_findOut_58 (fun r4 => ?_)
      refine gx_istore (pc' := 63) hC [(4, .int r4.1), (3, .int r3.1), (0, .ref (a 6))] rfl dX1_findOut_61 (by decide) rfl ?_
      refine gx_iconst (v := (0 : Int32)) (pc' := 64) hC rfl dX1_findOut_63 (by decide) ?_
      refine gx_istore (pc' := 66) hC [(5, .int (0 : Int32)), (4, .int r4.1), (3, .int r3.1), (0, .ref (a 6))] rfl dX1_findOut_64 (by decide) rfl ?_
      exact gx_sub [(0, .ref (a 6)), (3, .int r3.1), (4, .int r4.1), (5, .int (0 : Int32))] [3, 2, 1, 0] rfl (g_X1_findOut_L66 hC 10000 r3.1 r4.1 (0 : Int32) r4.2)
    · refine gx_aload_n (pc' := 36) hC rfl dX1_findOut_35 rfl ?_
      refine gx_get (pc' := 39) hC 6 (atX6 cI cZ cR a _) rfl inw_X1 4 (by decide) lk_X1_22 rfl rfl dX1_findOut_36 ?_
      refine gx_iload_n (pc' := 40) hC rfl dX1_findOut_39 rfl ?_
      refine gx_iconst (v := (0 : Int32)) (pc' := 41) hC rfl dX1_findOut_40 (by decide) ?_
      refine gx_iast (pc' := 42) hC 10 0 (atX10 cI cZ cR a _) rfl (st S 6 x3.toNatClampNeg (0 : Int32)) (stX10 cI cZ cR a _ _ _) rfl dX1_findOut_41 ?_
      refine gx_iinc (v := (x3 + (1 : Int32))) (pc' := 45) hC [(3, .int (x3 + (1 : Int32))), (0, .ref (a 6))] rfl dX1_findOut_42 rfl rfl (by decide) rfl ?_
      refine gx_goto hC 30 dX1_findOut_45 (by decide) ?_
      exact gx_sub [(0, .ref (a 6)), (3, .int (x3 + (1 : Int32)))] [1, 0] rfl (ih (x3 + (1 : Int32)) (st S 6 x3.toNatClampNeg (0 : Int32)))
set_option maxHeartbeats 4000000 in
set_option maxRecDepth 100000 in
theorem c_X1_findOut {l : Launch} {D : va_G} {tZ : Nat} (cI cZ cR : ClassId) (a : Nat → Nat) (x1 : Int32) (x2 : Int32) (S : St) : MI l D (tyl cI cZ cR) tZ (wX cI cZ cR a) yX1_findOut cX1_findOut 6 (some .int) rm_X1_findOut [.ref (a 6), .int x1, .int x2] S (m_X1_findOut x1 x2 S) := by
  refine gx_metI (by decide) (Nat.le_of_ble_eq_true rfl) ?_
  intro p e s m below meth c A hC
  refine gx_sub [(0, .ref (a 6)), (1, .int x1), (2, .int x2)] [0, 1, 2] rfl ?_
  rw [m_X1_findOut]
  refine gx_aload_n (pc' := 1) hC rfl dX1_findOut_0 rfl ?_
  refine gx_iload_n (pc' := 2) hC rfl dX1_findOut_1 rfl ?_
  refine gx_put (pc' := 5) hC tyX1_ok nmX1 6 (atX6 cI cZ cR a _) rfl inw_X1 7 (by decide) lk_X1_29 rfl rfl rfl (Nat.le_of_ble_eq_true rfl) (st S 20 4 x1) (ptX6_7 cI cZ cR a _ _) rfl dX1_findOut_2 ?_
  refine gx_aload_n (pc' := 6) hC rfl dX1_findOut_5 rfl ?_
  refine gx_iload_n (pc' := 7) hC rfl dX1_findOut_6 rfl ?_
  refine gx_put (pc' := 10) hC tyX1_ok nmX1 6 (atX6 cI cZ cR a _) rfl inw_X1 8 (by decide) lk_X1_33 rfl rfl rfl (Nat.le_of_ble_eq_true rfl) (st (st S 20 4 x1) 20 5 x2) (ptX6_8 cI cZ cR a _ _) rfl dX1_findOut_7 ?_
  refine gx_aload_n (pc' := 11) hC rfl dX1_findOut_10 rfl ?_
  refine gx_callVV (pc' := 14) hC (c_X1_forget cI cZ cR a  _) 6 (atX6 cI cZ cR a _) rfl kw_X1_36 hy_X1_forget ⟨rfl, rfl⟩ (by decide) rfl rfl (Nat.le_of_ble_eq_true rfl) rfl dX1_findOut_11 (fun r1 => ?_)
  refine gx_aload_n (pc' := 15) hC rfl dX1_findOut_14 rfl ?_
  refine gx_callVV (pc' := 18) hC (c_X1_markBegins cI cZ cR a  _) 6 (atX6 cI cZ cR a _) rfl kw_X1_39 hy_X1_markBegins ⟨rfl, rfl⟩ (by decide) rfl rfl (Nat.le_of_ble_eq_true rfl) rfl dX1_findOut_15 (fun r2 => ?_)
  refine gx_aload_n (pc' := 19) hC rfl dX1_findOut_18 rfl ?_
  refine gx_iconst (v := (1 : Int32)) (pc' := 20) hC rfl dX1_findOut_19 (by decide) ?_
  refine gx_put (pc' := 23) hC tyX1_ok nmX1 6 (atX6 cI cZ cR a _) rfl inw_X1 5 (by decide) lk_X1_42 rfl rfl rfl (Nat.le_of_ble_eq_true rfl) (st r2.2 20 2 (1 : Int32)) (ptX6_5 cI cZ cR a _ _) rfl dX1_findOut_20 ?_
  refine gx_aload_n (pc' := 24) hC rfl dX1_findOut_23 rfl ?_
  refine gx_iconst (v := (0 : Int32)) (pc' := 25) hC rfl dX1_findOut_24 (by decide) ?_
  refine gx_put (pc' := 28) hC tyX1_ok nmX1 6 (atX6 cI cZ cR a _) rfl inw_X1 6 (by decide) lk_X1_45 rfl rfl rfl (Nat.le_of_ble_eq_true rfl) (st (st r2.2 20 2 (1 : Int32)) 20 3 (0 : Int32)) (ptX6_6 cI cZ cR a _ _) rfl dX1_findOut_25 ?_
  refine gx_iconst (v := (0 : Int32)) (pc' := 29) hC rfl dX1_findOut_28 (by decide) ?_
  refine gx_istore_n (pc' := 30) hC [(3, .int (0 : Int32)), (0, .ref (a 6)), (1, .int x1), (2, .int x2)] rfl dX1_findOut_29 (by decide) rfl ?_
  exact gx_sub [(0, .ref (a 6)), (3, .int (0 : Int32))] [1, 0] rfl (g_X1_findOut_L30 hC 10000 (0 : Int32) (st (st r2.2 20 2 (1 : Int32)) 20 3 (0 : Int32)))
set_option maxHeartbeats 4000000 in
set_option maxRecDepth 100000 in
theorem g_X1_fillRow_L56 {p : Program} {l : Launch} {e : Env} {s : State} {m : MethodId} {args : Array Value} {below : List Frame} {meth : Method} {c : Code} {D : va_G} {cI cZ cR : ClassId} {a : Nat → Nat} {tZ : Nat} {A : Nat → Prop} (hC : CX p s m args meth c cX1_fillRow 4 (some .boolean) yX1_fillRow.cls D (tyl cI cZ cR) tZ A) : ∀ (n : Nat) (x3 : Int32) (S : St), GX p l e rm_X1_fillRow s m args below meth c 4 D A (wX cI cZ cR a) (KI below D (tyl cI cZ cR) (wX cI cZ cR a) A args s) 56 [(0, .ref (a 6)), (2, .ref (a 23)), (3, .int x3)] [] S (m_X1_fillRow_L56 n x3 S) := by
  intro n
  induction n with
  | zero => intro x3 S; exact gx_none
  | succ n ih =>
    intro x3 S
    rw [m_X1_fillRow_L56]
    refine gx_iload_n (pc' := 57) hC rfl dX1_fillRow_56 rfl ?_
    refine gx_iconst (v := (3 : Int32)) (pc' := 58) hC rfl dX1_fillRow_57 (by decide) ?_
    refine gx_icmp_ge (pc' := 61) hC 79 rfl dX1_fillRow_58 (by decide) (fun h4 => ?_) (fun h4 => ?_)
    · refine gx_iconst (v := (1 : Int32)) (pc' := 80) hC rfl dX1_fillRow_79 (by decide) ?_
      exact gx_zret hC dX1_fillRow_80
    · refine gx_aload_n (pc' := 62) hC rfl dX1_fillRow_61 rfl ?_
      refine gx_getN (pc' := 65) hC 23 (atX23 cI cZ cR a _) rfl inw_X6 2 (by decide) lk_X1_135 rfl rfl dX1_fillRow_62 ?_
      refine gx_iload_n (pc' := 66) hC rfl dX1_fillRow_65 rfl ?_
      refine gx_aload_n (pc' := 67) hC rfl dX1_fillRow_66 rfl ?_
      refine gx_get (pc' := 70) hC 6 (atX6 cI cZ cR a _) rfl inw_X1 4 (by decide) lk_X1_22 rfl rfl dX1_fillRow_67 ?_
      refine gx_iload_n (pc' := 71) hC rfl dX1_fillRow_70 rfl ?_
      refine gx_iald (pc' := 72) hC 10 0 (atX10 cI cZ cR a _) rfl rfl dX1_fillRow_71 ?_
      refine gx_iast (pc' := 73) hC 24 0 (atX24 cI cZ cR a _) rfl (st S 13 x3.toNatClampNeg (S 6 x3.toNatClampNeg)) (stX24 cI cZ cR a _ _ _) rfl dX1_fillRow_72 ?_
      refine gx_iinc (v := (x3 + (1 : Int32))) (pc' := 76) hC [(3, .int (x3 + (1 : Int32))), (0, .ref (a 6)), (2, .ref (a 23))] rfl dX1_fillRow_73 rfl rfl (by decide) rfl ?_
      refine gx_goto hC 56 dX1_fillRow_76 (by decide) ?_
      exact gx_sub [(0, .ref (a 6)), (2, .ref (a 23)), (3, .int (x3 + (1 : Int32)))] [1, 2, 0] rfl (ih (x3 + (1 : Int32)) (st S 13 x3.toNatClampNeg (S 6 x3.toNatClampNeg)))
set_option maxHeartbeats 4000000 in
set_option maxRecDepth 100000 in
theorem g_X1_fillRow_L29 {p : Program} {l : Launch} {e : Env} {s : State} {m : MethodId} {args : Array Value} {below : List Frame} {meth : Method} {c : Code} {D : va_G} {cI cZ cR : ClassId} {a : Nat → Nat} {tZ : Nat} {A : Nat → Prop} (hC : CX p s m args meth c cX1_fillRow 4 (some .boolean) yX1_fillRow.cls D (tyl cI cZ cR) tZ A) (z1 : Int32) (S : St) : GX p l e rm_X1_fillRow s m args below meth c 4 D A (wX cI cZ cR a) (KI below D (tyl cI cZ cR) (wX cI cZ cR a) A args s) 29 [(0, .ref (a 6)), (2, .ref (a 23))] [.int z1, .ref (a 23)] S (m_X1_fillRow_L29 z1 S) := by
  rw [m_X1_fillRow_L29]
  refine gx_putN (pc' := 32) hC tyX6_ok nmX6 23 (atX23 cI cZ cR a _) rfl inw_X6 0 (by decide) lk_X1_127 rfl rfl rfl (Nat.le_of_ble_eq_true rfl) (st S 20 19 z1) (ptX23_0 cI cZ cR a _ _) rfl dX1_fillRow_29 ?_
  refine gx_aload_n (pc' := 33) hC rfl dX1_fillRow_32 rfl ?_
  refine gx_aload_n (pc' := 34) hC rfl dX1_fillRow_33 rfl ?_
  refine gx_get (pc' := 37) hC 6 (atX6 cI cZ cR a _) rfl inw_X1 6 (by decide) lk_X1_45 rfl rfl dX1_fillRow_34 ?_
  refine gx_if_eq (pc' := 40) hC 47 rfl dX1_fillRow_37 (by decide) (fun h3 => ?_) (fun h3 => ?_)
  · refine gx_aload_n (pc' := 48) hC rfl dX1_fillRow_47 rfl ?_
    refine gx_get (pc' := 51) hC 6 (atX6 cI cZ cR a _) rfl inw_X1 5 (by decide) lk_X1_42 rfl rfl dX1_fillRow_48 ?_
    refine gx_putN (pc' := 54) hC tyX6_ok nmX6 23 (atX23 cI cZ cR a _) rfl inw_X6 1 (by decide) lk_X1_132 rfl rfl rfl (Nat.le_of_ble_eq_true rfl) (st (st S 20 19 z1) 20 20 ((st S 20 19 z1) 20 2)) (ptX23_1 cI cZ cR a _ _) rfl dX1_fillRow_51 ?_
    refine gx_iconst (v := (0 : Int32)) (pc' := 55) hC rfl dX1_fillRow_54 (by decide) ?_
    refine gx_istore_n (pc' := 56) hC [(3, .int (0 : Int32)), (0, .ref (a 6)), (2, .ref (a 23))] rfl dX1_fillRow_55 (by decide) rfl ?_
    exact gx_sub [(0, .ref (a 6)), (2, .ref (a 23)), (3, .int (0 : Int32))] [1, 2, 0] rfl (g_X1_fillRow_L56 hC 10000 (0 : Int32) (st (st S 20 19 z1) 20 20 ((st S 20 19 z1) 20 2)))
  · refine gx_aload_n (pc' := 41) hC rfl dX1_fillRow_40 rfl ?_
    refine gx_get (pc' := 44) hC 6 (atX6 cI cZ cR a _) rfl inw_X1 6 (by decide) lk_X1_45 rfl rfl dX1_fillRow_41 ?_
    refine gx_goto hC 51 dX1_fillRow_44 (by decide) ?_
    refine gx_putN (pc' := 54) hC tyX6_ok nmX6 23 (atX23 cI cZ cR a _) rfl inw_X6 1 (by decide) lk_X1_132 rfl rfl rfl (Nat.le_of_ble_eq_true rfl) (st (st S 20 19 z1) 20 20 ((st S 20 19 z1) 20 3)) (ptX23_1 cI cZ cR a _ _) rfl dX1_fillRow_51 ?_
    refine gx_iconst (v := (0 : Int32)) (pc' := 55) hC rfl dX1_fillRow_54 (by decide) ?_
    refine gx_istore_n (pc' := 56) hC [(3, .int (0 : Int32)), (0, .ref (a 6)), (2, .ref (a 23))] rfl dX1_fillRow_55 (by decide) rfl ?_
    exact gx_sub [(0, .ref (a 6)), (2, .ref (a 23)), (3, .int (0 : Int32))] [1, 2, 0] rfl (g_X1_fillRow_L56 hC 10000 (0 : Int32) (st (st S 20 19 z1) 20 20 ((st S 20 19 z1) 20 3)))
set_option maxHeartbeats 4000000 in
set_option maxRecDepth 100000 in
theorem c_X1_fillRow {l : Launch} {D : va_G} {tZ : Nat} (cI cZ cR : ClassId) (a : Nat → Nat) (x1 : Int32) (S : St) : MI l D (tyl cI cZ cR) tZ (wX cI cZ cR a) yX1_fillRow cX1_fillRow 4 (some .boolean) rm_X1_fillRow [.ref (a 6), .int x1, .ref (a 23)] S (m_X1_fillRow x1 S) := by
  refine gx_metI (by decide) (Nat.le_of_ble_eq_true rfl) ?_
  intro p e s m below meth c A hC
  refine gx_sub [(0, .ref (a 6)), (1, .int x1), (2, .ref (a 23))] [0, 1, 2] rfl ?_
  rw [m_X1_fillRow]
  refine gx_aload_n (pc' := 1) hC rfl dX1_fillRow_0 rfl ?_
  refine gx_get (pc' := 4) hC 6 (atX6 cI cZ cR a _) rfl inw_X1 1 (by decide) lk_X1_9 rfl rfl dX1_fillRow_1 ?_
  refine gx_iload_n (pc' := 5) hC rfl dX1_fillRow_4 rfl ?_
  refine gx_iald (pc' := 6) hC 7 0 (atX7 cI cZ cR a _) rfl rfl dX1_fillRow_5 ?_
  refine gx_if_ne (pc' := 9) hC 11 rfl dX1_fillRow_6 (by decide) (fun h1 => ?_) (fun h1 => ?_)
  · refine gx_iconst (v := (0 : Int32)) (pc' := 10) hC rfl dX1_fillRow_9 (by decide) ?_
    exact gx_zret hC dX1_fillRow_10
  · refine gx_aload_n (pc' := 12) hC rfl dX1_fillRow_11 rfl ?_
    refine gx_iload_n (pc' := 13) hC rfl dX1_fillRow_12 rfl ?_
    refine gx_callVV (pc' := 16) hC (c_X1_recall cI cZ cR a x1 _) 6 (atX6 cI cZ cR a _) rfl kw_X1_65 hy_X1_recall ⟨rfl, rfl⟩ (by decide) rfl rfl (Nat.le_of_ble_eq_true rfl) rfl dX1_fillRow_13 (fun r1 => ?_)
    refine gx_aload_n (pc' := 17) hC rfl dX1_fillRow_16 rfl ?_
    refine gx_aload_n (pc' := 18) hC rfl dX1_fillRow_17 rfl ?_
    refine gx_get (pc' := 21) hC 6 (atX6 cI cZ cR a _) rfl inw_X1 6 (by decide) lk_X1_45 rfl rfl dX1_fillRow_18 ?_
    refine gx_if_eq (pc' := 24) hC 28 rfl dX1_fillRow_21 (by decide) (fun h2 => ?_) (fun h2 => ?_)
    · refine gx_iconst (v := (0 : Int32)) (pc' := 29) hC rfl dX1_fillRow_28 (by decide) ?_
      exact gx_sub [(0, .ref (a 6)), (2, .ref (a 23))] [0, 2] rfl (g_X1_fillRow_L29 hC (0 : Int32) r1.2)
    · refine gx_iconst (v := (1 : Int32)) (pc' := 25) hC rfl dX1_fillRow_24 (by decide) ?_
      refine gx_goto hC 29 dX1_fillRow_25 (by decide) ?_
      exact gx_sub [(0, .ref (a 6)), (2, .ref (a 23))] [0, 2] rfl (g_X1_fillRow_L29 hC (1 : Int32) r1.2)
