theorem lk_X8_37 : Cond.fieldLink RX8 37 "ChainUnwinder" "reader" "LChainUnwinder$Reader;" ∈ wsAll := wa 315 (by decide +kernel) (by decide +kernel)
theorem lk_X8_91 : Cond.fieldLinkNest RX8 91 "ChainUnwinder$Reader" "found" "LChainUnwinder$Row;" "ChainUnwinder" ∈ nestAll := by decide +kernel
theorem lk_X8_113 : Cond.fieldLinkNest RX8 113 "ChainUnwinder$Machine" "place" "I" "ChainUnwinder" ∈ nestAll := by decide +kernel
theorem kw_X8_85 : GoodIn wsAll (wsV RX8 85 RX5 yX5_lookUp (Cond.code yX5_lookUp cX5_lookUp 4 ((some .int)) :: wsAll)) := gw1 646 (by decide +kernel) (by decide +kernel) (gw1 576 (by decide +kernel) (by decide +kernel) (gw1 577 (by decide +kernel) (by decide +kernel) (gw1 74 (by decide +kernel) (by decide +kernel) (gw1 578 (by decide +kernel) (by decide +kernel) wsAll_good))))
theorem hy_X6_part : hdY yX6_part RX6 1 := ⟨rfl, by decide, by decide, by decide +kernel⟩
theorem kw_X8_95 : GoodIn wsAll (wsV RX8 95 RX6 yX6_part (Cond.code yX6_part cX6_part 2 ((some .int)) :: wsAll)) := gw1 710 (by decide +kernel) (by decide +kernel) (gw1 711 (by decide +kernel) (by decide +kernel) (gw1 712 (by decide +kernel) (by decide +kernel) (gw1 72 (by decide +kernel) (by decide +kernel) (gw1 713 (by decide +kernel) (by decide +kernel) wsAll_good))))
theorem hy_X2_advance : hdY yX2_advance RX2 0 := ⟨rfl, by decide, by decide, by decide +kernel⟩
theorem kw_X8_104 : GoodIn wsAll (wsV RX8 104 RX2 yX2_advance (Cond.code yX2_advance cX2_advance 6 ((some .int)) :: wsAll)) := gw1 723 (by decide +kernel) (by decide +kernel) (gw1 724 (by decide +kernel) (by decide +kernel) (gw1 725 (by decide +kernel) (by decide +kernel) (gw1 75 (by decide +kernel) (by decide +kernel) (gw1 726 (by decide +kernel) (by decide +kernel) wsAll_good))))
/-! ===== methods that throw: the model's row 40 holds which (0 none) ===== -/
abbrev nIA : String := "java/lang/IllegalArgumentException"
abbrev nIS : String := "java/lang/IllegalStateException"
abbrev nIO : String := "java/lang/IndexOutOfBoundsException"
abbrev nRE : List String := ["java/lang/RuntimeException", "java/lang/Exception"]
abbrev exW : List Cond := [.castable nIA nIA, .castable nIS nIS, .castable nIO nIO, .declares ⟨"java/lang/RuntimeException", "<init>", "()V"⟩, .declares ⟨"java/lang/Exception", "<init>", "()V"⟩, .declares ⟨"java/lang/Throwable", "<init>", "()V"⟩]
theorem exW_warm {s U : State} (hW : s.WarmedH U.vm) (h : ∀ w ∈ exW, va_Nw w s) : ∀ w ∈ exW, va_Nw w U := by
  intro w hw
  have h1 := h w hw
  simp only [exW, List.mem_cons, List.not_mem_nil, or_false] at hw
  rcases hw with rfl | rfl | rfl | rfl | rfl | rfl <;> first | exact va_Nw.warmC hW h1 | exact va_Nw.warmD hW h1
theorem exW_tab : ∀ w ∈ exW, w.onTables = true := by decide +kernel
def XE (A : Nat → Prop) (U : State) (H : Heap) : Prop := vx_Zq Bundle.tN "UNASSIGNED_STACK" Bundle.steD A U H ∧ vx_Zq Bundle.tN "SUPPRESSED_SENTINEL" Bundle.listD A U H ∧ (∀ w ∈ exW, va_Nw w U) ∧ va_Nc nIO nIS U
theorem XE.go {A B : Nat → Prop} {s U : State} {H H1 : Heap} (h : XE A s H) (hW : s.WarmedH U.vm) (hk : ∀ a : Nat, a < H.size → ¬ A a → H1[a]? = H[a]?) (hAB : ∀ q, B q → A q) : XE B U H1 :=
  ⟨((h.1.kept hk).narrow hAB).moved hW.alike, ((h.2.1.kept hk).narrow hAB).moved hW.alike, exW_warm hW h.2.2.1, va_Nc.moved hW.alike h.2.2.2⟩
theorem XE.blind {A : Nat → Prop} {U : State} {H : Heap} (g : JFrame) (mk : MethodId) (a : Array Value) (h : XE A U H) : XE A (U.calling g mk a) H :=
  ⟨vx_Zq.moved (u := U) (U := U.calling g mk a) (Vm.Alike.refl U.vm) h.1, vx_Zq.moved (u := U) (U := U.calling g mk a) (Vm.Alike.refl U.vm) h.2.1, fun w hw => va_Nw.same (exW_tab w hw) (u := U) (U := U.calling g mk a) rfl (h.2.2.1 w hw), va_Nc.moved (u := U) (U := U.calling g mk a) (Vm.Alike.refl U.vm) h.2.2.2⟩
def PXE (D : va_G) (tys : List (ClassId × FieldType)) (t : Nat) (ws : va_W) (sz : Nat) (U : State) : Prop := PX D tys t ws sz U ∧ XE (va_A ws sz) U U.heap
abbrev KT (nm : Int32 → String) (below : List Frame) (D : va_G) (tys : List (ClassId × FieldType)) (w : St → va_W) (A : Nat → Prop) (args : Array Value) (s : State) : Int32 × St → State → Prop := fun res =>
  vx_MQ below (va_Qi (fun r u => res.2 40 0 = 0 ∧ (r, u) = res) (BX D tys w A) A) (vx_X (fun u : St => res.2 40 0 ≠ 0 ∧ u = res.2) (fun E u t => E = nm (u 40 0) ∧ BX D tys w A u t) A) args s 1 6 A
abbrev MT (nm : Int32 → String) (l : Launch) (D : va_G) (tys : List (ClassId × FieldType)) (t : Nat) (w : St → va_W) (y : MethodName) (b : ByteArray) (n : Nat) (ret : Option FieldType) (rm : Room) (av : List Value) (S : St) (M : Option (Int32 × St)) : Prop :=
  ∀ res, M = some res → ∀ sz, vx_Met l y (Cond.code y b n ret :: wsAll) rm (va_Pc av (PXE D tys t (w S) sz)) (va_Qi (fun r u => res.2 40 0 = 0 ∧ (r, u) = res) (BX D tys w (va_A (w S) sz)) (va_A (w S) sz)) (vx_X (fun u : St => res.2 40 0 ≠ 0 ∧ u = res.2) (fun E u t => E = nm (u 40 0) ∧ BX D tys w (va_A (w S) sz) u t) (va_A (w S) sz)) 1 6 (va_A (w S) sz)
section GXT
variable {nm : Int32 → String} {p : Program} {l : Launch} {e : Env} {R : Room} {s : State} {m : MethodId} {args : Array Value} {below : List Frame} {meth : Method} {c : Code} {cc : ByteArray} {nL : Nat} {ret : Option FieldType} {own : String} {D : va_G} {tys : List (ClassId × FieldType)} {tZ : Nat} {A : Nat → Prop} {w : St → va_W} {pc : Nat} {L : List (Nat × Value)} {rest : List Value} {S : St}
theorem gx_iretT (hC : CX p s m args meth c cc nL (some .int) own D tys tZ A) (hw : ∀ (S : St) (v : Int32), w (st S 40 0 v) = w S) {v : Int32} (hd : decode cc pc = .ok (.ireturn, 1)) : GX p l e R s m args below meth c nL D A w (KT nm below D tys w A args s) pc L [.int v] S (some (v, st S 40 0 0)) := by
  intro res hM H locs ls hP hD hS hl
  have hlocks := hC.2.2.2.1
  cases hM
  refine W.widen (k := 1) (n := 6) (Nat.zero_le _) (Nat.zero_le _) ?_
  refine vx_ret ?_
  exact W.iret (v := v) hC.1.1 hC.1.2.1 hC.2.2.1 (fun t ht hW => ⟨⟨v, st S 40 0 0, rfl, ⟨by simp [st_at], rfl⟩, by rw [ht, hw]; exact hP, va_K.moved hW.alike hC.2.1, by rw [hw]; exact hD⟩, hS.F ht⟩) hS.2.2 hd
theorem gx_throw (hC : CX p s m args meth c cc nL ret own D tys tZ A) (hE : XE A s s.heap) (hlT : l.stackTraces = false) (hout : ∀ x ∈ c.exceptionTable.toList, False) (hw : ∀ (S : St) (v : Int32), w (st S 40 0 v) = w S) {cls : String} {ik ic : Nat} (hk : Cond.classLink own ik cls ∈ wsAll) (hini : Cond.initialized cls ∈ wsAll) (hcls : Bundle.fit cls = true) (hat1 : ∀ z ∈ vx_at0 own ic cls nRE, z ∈ lw_tbl) (hat2 : ∀ z ∈ (vx_at0 own ic cls nRE).filter (fun z => !goodWord z), z ∈ exW) (hgood : ∀ z ∈ Cond.classLink own ik cls :: Cond.initialized cls :: vx_at0 own ic cls nRE, vx_ot z = true) (code : Int32) (hcode : code ≠ 0) (hnm : nm code = cls)
    (d0 : decode cc pc = .ok (.new ik, 3)) (d3 : decode cc (pc + 3) = .ok (.dup, 1)) (d4 : decode cc (pc + 4) = .ok (.invokespecial ic, 3)) (d7 : decode cc (pc + 7) = .ok (.athrow, 1)) (hR : 5 < R.frames ∧ (rest.map fun v => v.category).sum + 81 ≤ R.locals ∧ 1 ≤ R.cells ∧ 6 ≤ R.slots) : GX p l e R s m args below meth c nL D A w (KT nm below D tys w A args s) pc L rest S (some (0, st S 40 0 code)) := by
  intro res hM H locs ls hP hD hS hl
  cases hM
  have hc40 : (st S 40 0 code) 40 0 = code := by simp [st_at]
  refine vx_throw0 (names := nRE) hC.1.1 hC.1.2.1 hlT hC.1.2.2.2.1 hcls (by decide +kernel) (hC.1.2.2.2.2 _ hk) (hC.1.2.2.2.2 _ hini) (vx_hat (B := exW) (fun z hz => hC.1.2.2.2.2 z (List.mem_filter.mpr ⟨hat1 z (List.mem_filter.mp hz).1, (List.mem_filter.mp hz).2⟩)) hat2 (fun z hz => va_Nw.use (exW_tab z hz) (hE.2.2.1 z hz))) hgood hE.1 hE.2.1 hS (hl.1.trans hC.1.2.2.1.symm) d0 d3 d4 d7 (fun x hx => (hout x hx).elim) hR.1 hR.2.1 (by simpa using hR.2.2.1) (by simpa using hR.2.2.2) hC.2.2.2.1 (fun t ha hz hk1 => ?_) hS.2.2 (Nat.le_refl _) (Nat.le_refl _)
  refine ⟨st S 40 0 code, ⟨by show (st S 40 0 code) 40 0 ≠ 0; rw [hc40]; exact hcode, rfl⟩, ⟨by rw [hc40]; exact hnm.symm, ?_, va_K.moved ha hC.2.1, by rw [hw]; exact hD⟩, Nat.le_trans hS.1 hz, fun q h1 h2 => ?_⟩
  · rw [hw]
    exact hP.kept (fun k q hq => hk1 q.1 (hP k q hq).lt)
  · rw [hk1 q (Nat.lt_of_lt_of_le h1 hS.1)]
    exact hS.2.1 q h1 h2
end GXT
theorem gx_metT {nm : Int32 → String} {l : Launch} {D : va_G} {tys : List (ClassId × FieldType)} {tZ : Nat} {w : St → va_W} {y : MethodName} {cc : ByteArray} {maxL : Nat} {ret : Option FieldType} {rm : Room} {av : List Value} {S : St} {M : Option (Int32 × St)} (hy : plainName y.cls = true) (hlen : (lg_sl av).length ≤ maxL)
    (body : ∀ (p : Program) (e : Env) (s : State) (m : MethodId) (below : List Frame) (meth : Method) (c : Code) (A : Nat → Prop), CX p s m av.toArray meth c cc maxL ret y.cls D tys tZ A → XE A s s.heap → (∀ x ∈ c.exceptionTable.toList, False) → GX p l e rm s m av.toArray below meth c maxL D A w (KT nm below D tys w A av.toArray s) 0 (lv_args 0 av) [] S M) : MT nm l D tys tZ w y cc maxL ret rm av S M := by
  intro res hM sz
  refine vx_ofW (cc := cc) (maxL := maxL) (ret := ret) hy rfl ?_
  intro p e s m args below meth c s₁ B hml hout hv
  obtain ⟨rfl, ⟨hsz, hP, hK, hD0, hX⟩, hE⟩ := hv
  subst hsz
  have hts := atoms_spec (ws := Cond.code y cc maxL ret :: wsAll) B.pre
  have hown := findClass_of_methodNamed B.named
  rw [lg_entry_eq]
  exact body p e s m below meth c (va_A (w S) s.heap.size) ⟨⟨B.exec, B.bytes, hml, hown, fun w h => hts w (List.mem_cons_of_mem _ h)⟩, hK, B.returns, B.notSynchronized, fun q h => Or.inr h, hX⟩ hE hout res hM s.heap [] _ hP hD0.self va_S.rf (lv_entry av (n := maxL) hlen)
theorem PXE.blind {D : va_G} {tys : List (ClassId × FieldType)} {t sz : Nat} {ws : va_W} {av : List Value} : FrameBlind (va_Pc av (PXE D tys t ws sz)) := fun a U g mk q => by
  obtain ⟨q0, ⟨q1, qP, qK, qD, qX⟩, qE⟩ := q
  exact ⟨q0, ⟨q1, qP, va_K.moved (u := U) (U := U.calling g mk a) (Vm.Alike.refl U.vm) qK, qD, XF.blind g mk a qX⟩, XE.blind g mk a qE⟩
theorem w40X (cI cZ cR : ClassId) (a : Nat → Nat) (S : St) (v : Int32) : wX cI cZ cR a (st S 40 0 v) = wX cI cZ cR a S := rfl
abbrev nmR : Int32 → String := fun _ => nIA
abbrev nmS : Int32 → String := fun v => if v = 1 then nIS else nIO
abbrev rm_X8_row : Room := { frames := 6, cells := 1, slots := 6, locals := 114 }
def m_X8_row (x1 : Int32) (x2 : Int32) (S : St) : Option (Int32 × St) :=
  (m_X5_lookUp x1 S).bind fun r1 =>
  if r1.1 = (-2 : Int32) then
    some (0, st r1.2 40 0 (1 : Int32))
  else
    if r1.1 = 0 then
      (m_X6_part 2 x2 r1.2).bind fun r2 =>
      some (r2.1, st r2.2 40 0 0)
    else
      some ((-1 : Int32), st r1.2 40 0 0)

set_option maxHeartbeats 4000000 in
set_option maxRecDepth 100000 in
theorem c_X8_row {l : Launch} {D : va_G} {tZ : Nat} (cI cZ cR : ClassId) (a : Nat → Nat) (hlT : l.stackTraces = false) (x1 : Int32) (x2 : Int32) (S : St) : MT nmR l D (tyl cI cZ cR) tZ (wX cI cZ cR a) yX8_row cX8_row 4 (some .int) rm_X8_row [.ref (a 0), .int x1, .int x2] S (m_X8_row x1 x2 S) := by
  refine gx_metT (by decide) (Nat.le_of_ble_eq_true rfl) ?_
  intro p e s m below meth c A hC hE hout
  refine gx_sub [(0, .ref (a 0)), (1, .int x1), (2, .int x2)] [0, 1, 2] rfl ?_
  rw [m_X8_row]
  refine gx_aload_n (pc' := 1) hC rfl dX8_row_0 rfl ?_
  refine gx_get (pc' := 4) hC 0 (atX0 cI cZ cR a _) rfl inw_X8 3 (by decide) lk_X8_37 rfl rfl dX8_row_1 ?_
  refine gx_iload_n (pc' := 5) hC rfl dX8_row_4 rfl ?_
  refine gx_callVI (pc' := 8) hC (c_X5_lookUp cI cZ cR a x1 _) 13 (atX13 cI cZ cR a _) rfl kw_X8_85 hy_X5_lookUp ⟨rfl, rfl⟩ (by decide) rfl rfl (Nat.le_of_ble_eq_true rfl) rfl dX8_row_5 (fun r1 => ?_)
  refine gx_istore_n (pc' := 9) hC [(3, .int r1.1), (0, .ref (a 0)), (1, .int x1), (2, .int x2)] rfl dX8_row_8 (by decide) rfl ?_
  refine gx_iload_n (pc' := 10) hC rfl dX8_row_9 rfl ?_
  refine gx_bipush (v := (-2 : Int32)) (pc' := 12) hC rfl dX8_row_10 (by decide) ?_
  refine gx_icmp_ne (pc' := 15) hC 23 rfl dX8_row_12 (by decide) (fun h1 => ?_) (fun h1 => ?_)
  · exact gx_throw (cls := "java/lang/IllegalArgumentException") hC hE hlT hout (w40X cI cZ cR a) (wa 647 (by decide +kernel) (by decide +kernel)) (wa 81 (by decide +kernel) (by decide +kernel)) (by decide +kernel) (by decide +kernel) (by decide +kernel) (by decide +kernel) (1 : Int32) (by decide) (by decide) dX8_row_15 dX8_row_18 dX8_row_19 dX8_row_22 ⟨by decide, Nat.le_of_ble_eq_true rfl, by decide, by decide⟩
  · refine gx_iload_n (pc' := 24) hC rfl dX8_row_23 rfl ?_
    refine gx_if_ne (pc' := 27) hC 41 rfl dX8_row_24 (by decide) (fun h2 => ?_) (fun h2 => ?_)
    · refine gx_aload_n (pc' := 28) hC rfl dX8_row_27 rfl ?_
      refine gx_get (pc' := 31) hC 0 (atX0 cI cZ cR a _) rfl inw_X8 3 (by decide) lk_X8_37 rfl rfl dX8_row_28 ?_
      refine gx_getN (pc' := 34) hC 13 (atX13 cI cZ cR a _) rfl inw_X5 1 (by decide) lk_X8_91 rfl rfl dX8_row_31 ?_
      refine gx_iload_n (pc' := 35) hC rfl dX8_row_34 rfl ?_
      refine gx_callVI (pc' := 38) hC (c_X6_part cI cZ cR a 2 (by decide) x2 _) 25 (atX25 cI cZ cR a _) rfl kw_X8_95 hy_X6_part ⟨rfl, rfl⟩ (by decide) rfl rfl (Nat.le_of_ble_eq_true rfl) rfl dX8_row_35 (fun r2 => ?_)
      refine gx_goto hC 42 dX8_row_38 (by decide) ?_
      exact gx_iretT hC (w40X cI cZ cR a) dX8_row_42
    · refine gx_iconst (v := (-1 : Int32)) (pc' := 42) hC rfl dX8_row_41 (by decide) ?_
      exact gx_iretT hC (w40X cI cZ cR a) dX8_row_42
abbrev rm_X8_step : Room := { frames := 6, cells := 1, slots := 6, locals := 112 }
def m_X8_step  (S : St) : Option (Int32 × St) :=
  (m_X2_advance  S).bind fun r1 =>
  if r1.1 = (1 : Int32) then
    some (0, st r1.2 40 0 (1 : Int32))
  else
    if r1.1 = (2 : Int32) then
      some (0, st r1.2 40 0 (2 : Int32))
    else
      some ((r1.2 20 12), st r1.2 40 0 0)

set_option maxHeartbeats 4000000 in
set_option maxRecDepth 100000 in
theorem c_X8_step {l : Launch} {D : va_G} {tZ : Nat} (cI cZ cR : ClassId) (a : Nat → Nat) (hlT : l.stackTraces = false)  (S : St) : MT nmS l D (tyl cI cZ cR) tZ (wX cI cZ cR a) yX8_step cX8_step 2 (some .int) rm_X8_step [.ref (a 0)] S (m_X8_step  S) := by
  refine gx_metT (by decide) (Nat.le_of_ble_eq_true rfl) ?_
  intro p e s m below meth c A hC hE hout
  refine gx_sub [(0, .ref (a 0))] [0] rfl ?_
  rw [m_X8_step]
  refine gx_aload_n (pc' := 1) hC rfl dX8_step_0 rfl ?_
  refine gx_get (pc' := 4) hC 0 (atX0 cI cZ cR a _) rfl inw_X8 4 (by decide) lk_X8_46 rfl rfl dX8_step_1 ?_
  refine gx_callVI (pc' := 7) hC (c_X2_advance cI cZ cR a  _) 15 (atX15 cI cZ cR a _) rfl kw_X8_104 hy_X2_advance ⟨rfl, rfl⟩ (by decide) rfl rfl (Nat.le_of_ble_eq_true rfl) rfl dX8_step_4 (fun r1 => ?_)
  refine gx_istore_n (pc' := 8) hC [(1, .int r1.1), (0, .ref (a 0))] rfl dX8_step_7 (by decide) rfl ?_
  refine gx_iload_n (pc' := 9) hC rfl dX8_step_8 rfl ?_
  refine gx_iconst (v := (1 : Int32)) (pc' := 10) hC rfl dX8_step_9 (by decide) ?_
  refine gx_icmp_ne (pc' := 13) hC 21 rfl dX8_step_10 (by decide) (fun h1 => ?_) (fun h1 => ?_)
  · exact gx_throw (cls := "java/lang/IllegalStateException") hC hE hlT hout (w40X cI cZ cR a) (wa 762 (by decide +kernel) (by decide +kernel)) (wa 82 (by decide +kernel) (by decide +kernel)) (by decide +kernel) (by decide +kernel) (by decide +kernel) (by decide +kernel) (1 : Int32) (by decide) (by decide) dX8_step_13 dX8_step_16 dX8_step_17 dX8_step_20 ⟨by decide, Nat.le_of_ble_eq_true rfl, by decide, by decide⟩
  · refine gx_iload_n (pc' := 22) hC rfl dX8_step_21 rfl ?_
    refine gx_iconst (v := (2 : Int32)) (pc' := 23) hC rfl dX8_step_22 (by decide) ?_
    refine gx_icmp_ne (pc' := 26) hC 34 rfl dX8_step_23 (by decide) (fun h2 => ?_) (fun h2 => ?_)
    · exact gx_throw (cls := "java/lang/IndexOutOfBoundsException") hC hE hlT hout (w40X cI cZ cR a) (wa 777 (by decide +kernel) (by decide +kernel)) (wa 83 (by decide +kernel) (by decide +kernel)) (by decide +kernel) (by decide +kernel) (by decide +kernel) (by decide +kernel) (2 : Int32) (by decide) (by decide) dX8_step_26 dX8_step_29 dX8_step_30 dX8_step_33 ⟨by decide, Nat.le_of_ble_eq_true rfl, by decide, by decide⟩
    · refine gx_aload_n (pc' := 35) hC rfl dX8_step_34 rfl ?_
      refine gx_get (pc' := 38) hC 0 (atX0 cI cZ cR a _) rfl inw_X8 4 (by decide) lk_X8_46 rfl rfl dX8_step_35 ?_
      refine gx_getN (pc' := 41) hC 15 (atX15 cI cZ cR a _) rfl inw_X2 6 (by decide) lk_X8_113 rfl rfl dX8_step_38 ?_
      exact gx_iretT hC (w40X cI cZ cR a) dX8_step_41
