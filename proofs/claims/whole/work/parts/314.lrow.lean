theorem kw_L_7 : GoodIn wsAll (wsV RL 7 RX8 yX8_row (Cond.code yX8_row cX8_row 4 ((some .int)) :: wsAll)) := gw1 642 (by decide +kernel) (by decide +kernel) (gw1 643 (by decide +kernel) (by decide +kernel) (gw1 644 (by decide +kernel) (by decide +kernel) (gw1 68 (by decide +kernel) (by decide +kernel) (gw1 645 (by decide +kernel) (by decide +kernel) wsAll_good))))
theorem kw_L_15 : GoodIn wsAll (wsV RL 15 RX8 yX8_step (Cond.code yX8_step cX8_step 2 ((some .int)) :: wsAll)) := gw1 719 (by decide +kernel) (by decide +kernel) (gw1 720 (by decide +kernel) (by decide +kernel) (gw1 721 (by decide +kernel) (by decide +kernel) (gw1 68 (by decide +kernel) (by decide +kernel) (gw1 722 (by decide +kernel) (by decide +kernel) wsAll_good))))
theorem hy_X8_row : hdY yX8_row RX8 2 := ⟨rfl, by decide, by decide, by decide +kernel⟩
theorem hy_X8_step : hdY yX8_step RX8 0 := ⟨rfl, by decide, by decide, by decide +kernel⟩

abbrev QL (cI cZ cR cL : ClassId) (a b : Nat → Nat) (o : Nat) (D : va_G) (T : St) (A : Nat → Prop) (res : Int32 × St) : Array Value → State → Outcome → State → Prop := va_Qi (fun r (u : Nat → Int64) => r = res.2 40 0 ∧ (res.2 40 0 = 0 → u 0 = res.1.toInt64)) (fun u t => va_P D vwCl (wL cI cZ cR cL a b o res.2 T u) t.heap ∧ va_K D vwCl (tyl4 cI cZ cR cL) t ∧ va_D A (wL cI cZ cR cL a b o res.2 T u)) A
section LRS
variable {p : Program} {l : Launch} {e : Env} {R : Room} {s : State} {m : MethodId} {args : Array Value} {below : List Frame} {meth : Method} {c : Code} {cc : ByteArray} {nL : Nat} {own : String} {D : va_G} {tZ : Nat} {A : Nat → Prop} {pc : Nat} {L : List (Nat × Value)} {cI cZ cR cL : ClassId} {a b : Nat → Nat} {o : Nat} {T : St} {f : Nat → Int64} {cells slots : Nat}
theorem gl_iret (hC : CX p s m args meth c cc nL (some .int) own D (tyl4 cI cZ cR cL) tZ A) {v : Int32} {res : Int32 × St} (h1 : v = res.2 40 0) (h2 : res.2 40 0 = 0 → f 0 = res.1.toInt64) (hd : decode cc pc = .ok (.ireturn, 1)) : GC p l e R s m args below meth c nL D A (MQ below (QL cI cZ cR cL a b o D T A res) args s cells slots A) pc L [.int v] (wL cI cZ cR cL a b o res.2 T f) cells slots := by
  intro H locs ls hP hD hS hl
  have hlocks := hC.2.2.2.1
  exact W.iret (v := v) hC.1.1 hC.1.2.1 hC.2.2.1 (fun t ht hW => ⟨⟨v, f, rfl, ⟨h1, h2⟩, by rw [ht]; exact hP, va_K.moved hW.alike hC.2.1, hD⟩, hS.F ht⟩) hS.2.2 hd
end LRS
theorem gx_subT {nm : Int32 → String} {l : Launch} {D : va_G} {tys : List (ClassId × FieldType)} {tZ : Nat} {w : St → va_W} {y : MethodName} {bytes : ByteArray} {n : Nat} {ret : Option FieldType} {rm : Room} {av : List Value} {S : St} {M : Option (Int32 × St)} (h : MT nm l D tys tZ w y bytes n ret rm av S M) : MT nm l D tys tZ w y bytes n ret rm av S M := h

abbrev rmL_row : Room := { frames := 7, cells := 1, slots := 6, locals := 150 }
set_option maxHeartbeats 4000000 in
set_option maxRecDepth 100000 in
theorem c_L_row {l : Launch} {D : va_G} {tZ : Nat} (cI cZ cR cL : ClassId) (a b : Nat → Nat) (o : Nat) (hlT : l.stackTraces = false) (x1 x2 : Int32) (S T : St) (f : Nat → Int64) (res : Int32 × St) (hm : m_X8_row x1 x2 S = some res) (h01 : res.2 40 0 = 0 ∨ res.2 40 0 = 1) (sz : Nat) : Met l yL_row (Cond.codeWith yL_row cL_row 5 (some .int) [(0, 10, 13, 13)] :: wsAll) rmL_row (va_Pc [.ref (a 0), .int x1, .int x2, .ref o] (PXE D (tyl4 cI cZ cR cL) tZ (wL cI cZ cR cL a b o S T f) sz)) (QL cI cZ cR cL a b o D T (va_A (wL cI cZ cR cL a b o S T f) sz) res) 1 6 (va_A (wL cI cZ cR cL a b o S T f) sz) := by
  refine va_MetW (hh := [(0, 10, 13, 13)]) (cc := cL_row) (maxL := 5) (ret := some .int) (by decide) rfl ?_
  intro p e s m args below meth c s₁ B hml hv
  obtain ⟨rfl, ⟨hsz, hP, hK, hD0, hX⟩, hE⟩ := hv
  subst hsz
  have hts := atoms_spec (ws := Cond.codeWith yL_row cL_row 5 (some .int) [(0, 10, 13, 13)] :: wsAll) B.pre
  have hown := findClass_of_methodNamed B.named
  have htab : c.exceptionTable.toList = tableOf [(0, 10, 13, 13)] := vx_table (x := yL_row) B (hts _ List.mem_cons_self)
  rw [lg_entry_eq]
  have hD := hD0.self (sz := s.heap.size)
  have hl := lv_entry [.ref (a 0), .int x1, .int x2, .ref o] (n := 5) (Nat.le_of_ble_eq_true rfl)
  have hC : CX p s m ([.ref (a 0), .int x1, .int x2, .ref o] : List Value).toArray meth c cL_row 5 (some .int) RL D (tyl4 cI cZ cR cL) tZ (va_A (wL cI cZ cR cL a b o S T f) s.heap.size) := ⟨⟨B.exec, B.bytes, hml, hown, fun w h => hts w (List.mem_cons_of_mem _ h)⟩, hK, B.returns, B.notSynchronized, fun q h => Or.inr h, hX⟩
  generalize va_A (wL cI cZ cR cL a b o S T f) s.heap.size = A at hD hC hE ⊢
  have hC3 := hC.sub (tys' := tyl cI cZ cR) [0, 1, 2] rfl
  have K : GC p l e rmL_row s m ([.ref (a 0), .int x1, .int x2, .ref o] : List Value).toArray below meth c 5 D A (MQ below (QL cI cZ cR cL a b o D T A res) ([.ref (a 0), .int x1, .int x2, .ref o] : List Value).toArray s 1 6 A) 0 (lv_args 0 [.ref (a 0), .int x1, .int x2, .ref o]) [] (wL cI cZ cR cL a b o S T f) 0 0 := by
    refine gc_sub [(0, .ref (a 0)), (1, .int x1), (2, .int x2), (3, .ref o)] [0, 1, 2, 3] rfl ?_
    refine gc_aload_n (pc' := 1) hC rfl dL_row_0 rfl ?_
    refine gc_iconst (v := 0) (pc' := 2) hC rfl dL_row_1 (by decide) ?_
    refine gc_aload_n (pc' := 3) hC rfl dL_row_2 rfl ?_
    refine gc_iload_n (pc' := 4) hC rfl dL_row_3 rfl ?_
    refine gc_iload_n (pc' := 5) hC rfl dL_row_4 rfl ?_
    refine gl_callT (R := rmL_row) (cells := 0) (slots := 0) (w1 := []) (w := wX cI cZ cR a) (w3 := wM cI cZ b T ++ [(o, .inl (cL, 1, .inr (.inl f)))]) (As := [.int x1, .int x2]) (rest := [.int 0, .ref o]) hC3 hE (c_X8_row cI cZ cR a hlT x1 x2 S) hm 0 (atX0 cI cZ cR a S) rfl kw_L_7 hy_X8_row ⟨rfl, rfl⟩ (by decide) rfl rfl (Nat.le_of_ble_eq_true rfl) ⟨by decide, by decide⟩ dL_row_5 (fun h40 => ?_) (fun h40 q ce H1 locs1 ls hP1 hD1 hS1 hl1 hce hcv hcl => ?_)
    · refine gc_i2l (pc' := 9) hC rfl dL_row_8 ?_
      refine gc_last (pc' := 10) hC 54 3 (wL_at cI cZ cR cL a b o res.2 T f) rfl (by decide) (wL cI cZ cR cL a b o res.2 T (vp_updL f 0 res.1.toInt64)) (wL_set cI cZ cR cL a b o res.2 T f _) rfl dL_row_9 ?_
      refine gc_goto hC 17 dL_row_10 (by decide) ?_
      refine gc_iconst (v := 0) (pc' := 18) hC rfl dL_row_17 (by decide) ?_
      exact gl_iret hC h40.symm (fun _ => by simp [vp_updL]) dL_row_18
    · have h1 : res.2 40 0 = 1 := h01.resolve_left h40
      refine cu_catch1 (name := nIA) (E := nIA) hown ⟨0, 10, 13, 13⟩ [] htab (by decide) (by decide) (hC.1.2.2.2.2 _ (wa 641 (by decide +kernel) (by decide +kernel))) (va_Nw.use rfl (hE.2.2.1 _ (by decide))) hce hcv hcl ?_
      have G : GC p l e rmL_row s m ([.ref (a 0), .int x1, .int x2, .ref o] : List Value).toArray below meth c 5 D A (MQ below (QL cI cZ cR cL a b o D T A res) ([.ref (a 0), .int x1, .int x2, .ref o] : List Value).toArray s 1 6 A) 13 [(0, .ref (a 0)), (1, .int x1), (2, .int x2), (3, .ref o)] [.ref q] (wL cI cZ cR cL a b o res.2 T f) 1 6 := by
        refine gc_astore (pc' := 15) hC [(4, .ref q), (0, .ref (a 0)), (1, .int x1), (2, .int x2), (3, .ref o)] rfl dL_row_13 (by decide) rfl ?_
        refine gc_iconst (v := 1) (pc' := 16) hC rfl dL_row_15 (by decide) ?_
        exact gl_iret hC h1.symm (fun h => absurd h h40) dL_row_16
      exact G H1 locs1 ls hP1 hD1 hS1 hl1
  exact K s.heap [] _ hP hD va_S.rf hl

abbrev rmL_step : Room := { frames := 7, cells := 1, slots := 6, locals := 150 }
set_option maxHeartbeats 4000000 in
set_option maxRecDepth 100000 in
theorem c_L_step {l : Launch} {D : va_G} {tZ : Nat} (cI cZ cR cL : ClassId) (a b : Nat → Nat) (o : Nat) (hlT : l.stackTraces = false) (S T : St) (f : Nat → Int64) (res : Int32 × St) (hm : m_X8_step S = some res) (h01 : res.2 40 0 = 0 ∨ res.2 40 0 = 1 ∨ res.2 40 0 = 2) (sz : Nat) : Met l yL_step (Cond.codeWith yL_step cL_step 3 (some .int) [(0, 8, 11, 19), (0, 8, 14, 21)] :: wsAll) rmL_step (va_Pc [.ref (a 0), .ref o] (PXE D (tyl4 cI cZ cR cL) tZ (wL cI cZ cR cL a b o S T f) sz)) (QL cI cZ cR cL a b o D T (va_A (wL cI cZ cR cL a b o S T f) sz) res) 1 6 (va_A (wL cI cZ cR cL a b o S T f) sz) := by
  refine va_MetW (hh := [(0, 8, 11, 19), (0, 8, 14, 21)]) (cc := cL_step) (maxL := 3) (ret := some .int) (by decide) rfl ?_
  intro p e s m args below meth c s₁ B hml hv
  obtain ⟨rfl, ⟨hsz, hP, hK, hD0, hX⟩, hE⟩ := hv
  subst hsz
  have hts := atoms_spec (ws := Cond.codeWith yL_step cL_step 3 (some .int) [(0, 8, 11, 19), (0, 8, 14, 21)] :: wsAll) B.pre
  have hown := findClass_of_methodNamed B.named
  have htab : c.exceptionTable.toList = tableOf [(0, 8, 11, 19), (0, 8, 14, 21)] := vx_table (x := yL_row) B (hts _ List.mem_cons_self)
  rw [lg_entry_eq]
  have hD := hD0.self (sz := s.heap.size)
  have hl := lv_entry [.ref (a 0), .ref o] (n := 3) (Nat.le_of_ble_eq_true rfl)
  have hC : CX p s m ([.ref (a 0), .ref o] : List Value).toArray meth c cL_step 3 (some .int) RL D (tyl4 cI cZ cR cL) tZ (va_A (wL cI cZ cR cL a b o S T f) s.heap.size) := ⟨⟨B.exec, B.bytes, hml, hown, fun w h => hts w (List.mem_cons_of_mem _ h)⟩, hK, B.returns, B.notSynchronized, fun q h => Or.inr h, hX⟩
  generalize va_A (wL cI cZ cR cL a b o S T f) s.heap.size = A at hD hC hE ⊢
  have hC3 := hC.sub (tys' := tyl cI cZ cR) [0, 1, 2] rfl
  have K : GC p l e rmL_step s m ([.ref (a 0), .ref o] : List Value).toArray below meth c 3 D A (MQ below (QL cI cZ cR cL a b o D T A res) ([.ref (a 0), .ref o] : List Value).toArray s 1 6 A) 0 (lv_args 0 [.ref (a 0), .ref o]) [] (wL cI cZ cR cL a b o S T f) 0 0 := by
    refine gc_sub [(0, .ref (a 0)), (1, .ref o)] [0, 1] rfl ?_
    refine gc_aload_n (pc' := 1) hC rfl dL_step_0 rfl ?_
    refine gc_iconst (v := 0) (pc' := 2) hC rfl dL_step_1 (by decide) ?_
    refine gc_aload_n (pc' := 3) hC rfl dL_step_2 rfl ?_
    refine gl_callT (R := rmL_step) (cells := 0) (slots := 0) (w1 := []) (w := wX cI cZ cR a) (w3 := wM cI cZ b T ++ [(o, .inl (cL, 1, .inr (.inl f)))]) (As := []) (rest := [.int 0, .ref o]) hC3 hE (c_X8_step cI cZ cR a hlT S) hm 0 (atX0 cI cZ cR a S) rfl kw_L_15 hy_X8_step ⟨rfl, rfl⟩ (by decide) rfl rfl (Nat.le_of_ble_eq_true rfl) ⟨by decide, by decide⟩ dL_step_3 (fun h40 => ?_) (fun h40 q ce H1 locs1 ls hP1 hD1 hS1 hl1 hce hcv hcl => ?_)
    · refine gc_i2l (pc' := 7) hC rfl dL_step_6 ?_
      refine gc_last (pc' := 8) hC 54 3 (wL_at cI cZ cR cL a b o res.2 T f) rfl (by decide) (wL cI cZ cR cL a b o res.2 T (vp_updL f 0 res.1.toInt64)) (wL_set cI cZ cR cL a b o res.2 T f _) rfl dL_step_7 ?_
      refine gc_goto hC 17 dL_step_8 (by decide) ?_
      refine gc_iconst (v := 0) (pc' := 18) hC rfl dL_step_17 (by decide) ?_
      exact gl_iret hC h40.symm (fun _ => by simp [vp_updL]) dL_step_18
    · rcases h01.resolve_left h40 with h1 | h1
      · rw [h1] at hcl
        refine cu_catch1 (name := nIS) (E := nIS) hown ⟨0, 8, 11, 19⟩ [⟨0, 8, 14, 21⟩] htab (by decide) (by decide) (hC.1.2.2.2.2 _ (wa 717 (by decide +kernel) (by decide +kernel))) (va_Nw.use rfl (hE.2.2.1 _ (by decide))) hce hcv hcl ?_
        have G : GC p l e rmL_step s m ([.ref (a 0), .ref o] : List Value).toArray below meth c 3 D A (MQ below (QL cI cZ cR cL a b o D T A res) ([.ref (a 0), .ref o] : List Value).toArray s 1 6 A) 11 [(0, .ref (a 0)), (1, .ref o)] [.ref q] (wL cI cZ cR cL a b o res.2 T f) 1 6 := by
          refine gc_astore_n (pc' := 12) hC [(2, .ref q), (0, .ref (a 0)), (1, .ref o)] rfl dL_step_11 (by decide) rfl ?_
          refine gc_iconst (v := 1) (pc' := 13) hC rfl dL_step_12 (by decide) ?_
          exact gl_iret hC h1.symm (fun h => absurd h h40) dL_step_13
        exact G H1 locs1 ls hP1 hD1 hS1 hl1
      · rw [h1] at hcl
        refine cu_catch2 (name := nIO) (name1 := nIS) (E := nIO) hown ⟨0, 8, 11, 19⟩ ⟨0, 8, 14, 21⟩ [] htab (by decide) (by decide) (hC.1.2.2.2.2 _ (wa 717 (by decide +kernel) (by decide +kernel))) hE.2.2.2 (by decide) (by decide) (hC.1.2.2.2.2 _ (wa 718 (by decide +kernel) (by decide +kernel))) (va_Nw.use rfl (hE.2.2.1 _ (by decide))) hce hcv hcl ?_
        have G : GC p l e rmL_step s m ([.ref (a 0), .ref o] : List Value).toArray below meth c 3 D A (MQ below (QL cI cZ cR cL a b o D T A res) ([.ref (a 0), .ref o] : List Value).toArray s 1 6 A) 14 [(0, .ref (a 0)), (1, .ref o)] [.ref q] (wL cI cZ cR cL a b o res.2 T f) 1 6 := by
          refine gc_astore_n (pc' := 15) hC [(2, .ref q), (0, .ref (a 0)), (1, .ref o)] rfl dL_step_14 (by decide) rfl ?_
          refine gc_iconst (v := 2) (pc' := 16) hC rfl dL_step_15 (by decide) ?_
          exact gl_iret hC h1.symm (fun h => absurd h h40) dL_step_16
        exact G H1 locs1 ls hP1 hD1 hS1 hl1
  exact K s.heap [] _ hP hD va_S.rf hl

