theorem kw_L_29 : GoodIn wsAll (wsV RL 29 RX8 yX8_code (Cond.code yX8_code cX8_code 5 ((some .int)) :: wsAll)) := gw1 331 (by decide +kernel) (by decide +kernel) (gw1 332 (by decide +kernel) (by decide +kernel) (gw1 333 (by decide +kernel) (by decide +kernel) (gw1 68 (by decide +kernel) (by decide +kernel) (gw1 334 (by decide +kernel) (by decide +kernel) wsAll_good))))
theorem hyL_X8_code : hdY yX8_code RX8 2 := ⟨rfl, by decide, by decide, by decide +kernel⟩
theorem kw_L_33 : GoodIn wsAll (wsV RL 33 RX9 yX9_code (Cond.code yX9_code cX9_code 5 ((some .int)) :: wsAll)) := gw1 890 (by decide +kernel) (by decide +kernel) (gw1 891 (by decide +kernel) (by decide +kernel) (gw1 892 (by decide +kernel) (by decide +kernel) (gw1 77 (by decide +kernel) (by decide +kernel) (gw1 893 (by decide +kernel) (by decide +kernel) wsAll_good))))
theorem hyL_X9_code : hdY yX9_code RX9 2 := ⟨rfl, by decide, by decide, by decide +kernel⟩
theorem kw_L_34 : GoodIn wsAll (wsV RL 34 RX8 yX8_function (Cond.code yX8_function cX8_function 4 ((some .int)) :: wsAll)) := gw1 343 (by decide +kernel) (by decide +kernel) (gw1 344 (by decide +kernel) (by decide +kernel) (gw1 345 (by decide +kernel) (by decide +kernel) (gw1 68 (by decide +kernel) (by decide +kernel) (gw1 346 (by decide +kernel) (by decide +kernel) wsAll_good))))
theorem hyL_X8_function : hdY yX8_function RX8 2 := ⟨rfl, by decide, by decide, by decide +kernel⟩
theorem kw_L_37 : GoodIn wsAll (wsV RL 37 RX9 yX9_function (Cond.code yX9_function cX9_function 4 ((some .int)) :: wsAll)) := gw1 898 (by decide +kernel) (by decide +kernel) (gw1 899 (by decide +kernel) (by decide +kernel) (gw1 900 (by decide +kernel) (by decide +kernel) (gw1 77 (by decide +kernel) (by decide +kernel) (gw1 901 (by decide +kernel) (by decide +kernel) wsAll_good))))
theorem hyL_X9_function : hdY yX9_function RX9 2 := ⟨rfl, by decide, by decide, by decide +kernel⟩
theorem kw_L_38 : GoodIn wsAll (wsV RL 38 RX8 yX8_clear (Cond.code yX8_clear cX8_clear 1 ((some .int)) :: wsAll)) := gw1 355 (by decide +kernel) (by decide +kernel) (gw1 356 (by decide +kernel) (by decide +kernel) (gw1 357 (by decide +kernel) (by decide +kernel) (gw1 68 (by decide +kernel) (by decide +kernel) (gw1 358 (by decide +kernel) (by decide +kernel) wsAll_good))))
theorem hyL_X8_clear : hdY yX8_clear RX8 0 := ⟨rfl, by decide, by decide, by decide +kernel⟩
theorem kw_L_41 : GoodIn wsAll (wsV RL 41 RX9 yX9_clear (Cond.code yX9_clear cX9_clear 2 ((some .int)) :: wsAll)) := gw1 902 (by decide +kernel) (by decide +kernel) (gw1 903 (by decide +kernel) (by decide +kernel) (gw1 904 (by decide +kernel) (by decide +kernel) (gw1 77 (by decide +kernel) (by decide +kernel) (gw1 905 (by decide +kernel) (by decide +kernel) wsAll_good))))
theorem hyL_X9_clear : hdY yX9_clear RX9 0 := ⟨rfl, by decide, by decide, by decide +kernel⟩
theorem kw_L_42 : GoodIn wsAll (wsV RL 42 RX8 yX8_pack (Cond.code yX8_pack cX8_pack 1 ((some .int)) :: wsAll)) := gw1 363 (by decide +kernel) (by decide +kernel) (gw1 364 (by decide +kernel) (by decide +kernel) (gw1 365 (by decide +kernel) (by decide +kernel) (gw1 68 (by decide +kernel) (by decide +kernel) (gw1 366 (by decide +kernel) (by decide +kernel) wsAll_good))))
theorem hyL_X8_pack : hdY yX8_pack RX8 0 := ⟨rfl, by decide, by decide, by decide +kernel⟩
theorem kw_L_45 : GoodIn wsAll (wsV RL 45 RX9 yX9_pack (Cond.code yX9_pack cX9_pack 3 ((some .int)) :: wsAll)) := gw1 906 (by decide +kernel) (by decide +kernel) (gw1 907 (by decide +kernel) (by decide +kernel) (gw1 908 (by decide +kernel) (by decide +kernel) (gw1 77 (by decide +kernel) (by decide +kernel) (gw1 909 (by decide +kernel) (by decide +kernel) wsAll_good))))
theorem hyL_X9_pack : hdY yX9_pack RX9 0 := ⟨rfl, by decide, by decide, by decide +kernel⟩
theorem kw_L_46 : GoodIn wsAll (wsV RL 46 RX8 yX8_section (Cond.code yX8_section cX8_section 2 ((some .int)) :: wsAll)) := gw1 529 (by decide +kernel) (by decide +kernel) (gw1 530 (by decide +kernel) (by decide +kernel) (gw1 531 (by decide +kernel) (by decide +kernel) (gw1 68 (by decide +kernel) (by decide +kernel) (gw1 532 (by decide +kernel) (by decide +kernel) wsAll_good))))
theorem hyL_X8_section : hdY yX8_section RX8 1 := ⟨rfl, by decide, by decide, by decide +kernel⟩
theorem kw_L_50 : GoodIn wsAll (wsV RL 50 RX9 yX9_section (Cond.code yX9_section cX9_section 2 ((some .int)) :: wsAll)) := gw1 976 (by decide +kernel) (by decide +kernel) (gw1 977 (by decide +kernel) (by decide +kernel) (gw1 978 (by decide +kernel) (by decide +kernel) (gw1 77 (by decide +kernel) (by decide +kernel) (gw1 979 (by decide +kernel) (by decide +kernel) wsAll_good))))
theorem hyL_X9_section : hdY yX9_section RX9 1 := ⟨rfl, by decide, by decide, by decide +kernel⟩
theorem kw_L_51 : GoodIn wsAll (wsV RL 51 RX8 yX8_poke (Cond.code yX8_poke cX8_poke 3 ((some .boolean)) :: wsAll)) := gw1 537 (by decide +kernel) (by decide +kernel) (gw1 538 (by decide +kernel) (by decide +kernel) (gw1 539 (by decide +kernel) (by decide +kernel) (gw1 68 (by decide +kernel) (by decide +kernel) (gw1 540 (by decide +kernel) (by decide +kernel) wsAll_good))))
theorem hyL_X8_poke : hdY yX8_poke RX8 2 := ⟨rfl, by decide, by decide, by decide +kernel⟩
theorem kw_L_55 : GoodIn wsAll (wsV RL 55 RX9 yX9_poke (Cond.code yX9_poke cX9_poke 3 ((some .boolean)) :: wsAll)) := gw1 980 (by decide +kernel) (by decide +kernel) (gw1 981 (by decide +kernel) (by decide +kernel) (gw1 982 (by decide +kernel) (by decide +kernel) (gw1 77 (by decide +kernel) (by decide +kernel) (gw1 983 (by decide +kernel) (by decide +kernel) wsAll_good))))
theorem hyL_X9_poke : hdY yX9_poke RX9 2 := ⟨rfl, by decide, by decide, by decide +kernel⟩
theorem kw_L_56 : GoodIn wsAll (va_wsS RL 56 yL_row (Cond.codeWith yL_row cL_row 5 (some .int) [(0, 10, 13, 13)] :: wsAll)) := gw1 638 (by decide +kernel) (by decide +kernel) (gw1 639 (by decide +kernel) (by decide +kernel) (gw1 67 (by decide +kernel) (by decide +kernel) (gw1 640 (by decide +kernel) (by decide +kernel) wsAll_good)))
theorem kw_L_61 : GoodIn wsAll (wsV RL 61 RX9 yX9_row (Cond.code yX9_row cX9_row 4 ((some .int)) :: wsAll)) := gw1 984 (by decide +kernel) (by decide +kernel) (gw1 985 (by decide +kernel) (by decide +kernel) (gw1 986 (by decide +kernel) (by decide +kernel) (gw1 77 (by decide +kernel) (by decide +kernel) (gw1 987 (by decide +kernel) (by decide +kernel) wsAll_good))))
theorem hyL_X9_row : hdY yX9_row RX9 2 := ⟨rfl, by decide, by decide, by decide +kernel⟩
theorem kw_L_62 : GoodIn wsAll (wsV RL 62 RX9 yX9_thrown (Cond.code yX9_thrown cX9_thrown 1 ((some .int)) :: wsAll)) := gw1 886 (by decide +kernel) (by decide +kernel) (gw1 887 (by decide +kernel) (by decide +kernel) (gw1 888 (by decide +kernel) (by decide +kernel) (gw1 77 (by decide +kernel) (by decide +kernel) (gw1 889 (by decide +kernel) (by decide +kernel) wsAll_good))))
theorem hyL_X9_thrown : hdY yX9_thrown RX9 0 := ⟨rfl, by decide, by decide, by decide +kernel⟩
theorem kw_L_65 : GoodIn wsAll (wsV RL 65 RX8 yX8_begin (Cond.code yX8_begin cX8_begin 5 ((some .boolean)) :: wsAll)) := gw1 542 (by decide +kernel) (by decide +kernel) (gw1 543 (by decide +kernel) (by decide +kernel) (gw1 544 (by decide +kernel) (by decide +kernel) (gw1 68 (by decide +kernel) (by decide +kernel) (gw1 545 (by decide +kernel) (by decide +kernel) wsAll_good))))
theorem hyL_X8_begin : hdY yX8_begin RX8 4 := ⟨rfl, by decide, by decide, by decide +kernel⟩
theorem kw_L_69 : GoodIn wsAll (wsV RL 69 RX9 yX9_begin (Cond.code yX9_begin cX9_begin 6 ((some .boolean)) :: wsAll)) := gw1 1000 (by decide +kernel) (by decide +kernel) (gw1 1001 (by decide +kernel) (by decide +kernel) (gw1 1002 (by decide +kernel) (by decide +kernel) (gw1 77 (by decide +kernel) (by decide +kernel) (gw1 1003 (by decide +kernel) (by decide +kernel) wsAll_good))))
theorem hyL_X9_begin : hdY yX9_begin RX9 4 := ⟨rfl, by decide, by decide, by decide +kernel⟩
theorem kw_L_70 : GoodIn wsAll (va_wsS RL 70 yL_step (Cond.codeWith yL_step cL_step 3 (some .int) [(0, 8, 11, 19), (0, 8, 14, 21)] :: wsAll)) := gw1 714 (by decide +kernel) (by decide +kernel) (gw1 715 (by decide +kernel) (by decide +kernel) (gw1 67 (by decide +kernel) (by decide +kernel) (gw1 716 (by decide +kernel) (by decide +kernel) wsAll_good)))
theorem kw_L_73 : GoodIn wsAll (wsV RL 73 RX9 yX9_step (Cond.code yX9_step cX9_step 5 ((some .int)) :: wsAll)) := gw1 1004 (by decide +kernel) (by decide +kernel) (gw1 1005 (by decide +kernel) (by decide +kernel) (gw1 1006 (by decide +kernel) (by decide +kernel) (gw1 77 (by decide +kernel) (by decide +kernel) (gw1 1007 (by decide +kernel) (by decide +kernel) wsAll_good))))
theorem hyL_X9_step : hdY yX9_step RX9 0 := ⟨rfl, by decide, by decide, by decide +kernel⟩
theorem kw_L_74 : GoodIn wsAll (wsV RL 74 RX8 yX8_machine (Cond.code yX8_machine cX8_machine 2 ((some .int)) :: wsAll)) := gw1 550 (by decide +kernel) (by decide +kernel) (gw1 551 (by decide +kernel) (by decide +kernel) (gw1 552 (by decide +kernel) (by decide +kernel) (gw1 68 (by decide +kernel) (by decide +kernel) (gw1 553 (by decide +kernel) (by decide +kernel) wsAll_good))))
theorem hyL_X8_machine : hdY yX8_machine RX8 1 := ⟨rfl, by decide, by decide, by decide +kernel⟩
theorem kw_L_77 : GoodIn wsAll (wsV RL 77 RX9 yX9_machine (Cond.code yX9_machine cX9_machine 2 ((some .int)) :: wsAll)) := gw1 1016 (by decide +kernel) (by decide +kernel) (gw1 1017 (by decide +kernel) (by decide +kernel) (gw1 1018 (by decide +kernel) (by decide +kernel) (gw1 77 (by decide +kernel) (by decide +kernel) (gw1 1019 (by decide +kernel) (by decide +kernel) wsAll_good))))
theorem hyL_X9_machine : hdY yX9_machine RX9 1 := ⟨rfl, by decide, by decide, by decide +kernel⟩
theorem kw_L_78 : GoodIn wsAll (wsV RL 78 RX8 yX8_call (Cond.code yX8_call cX8_call 2 ((some .int)) :: wsAll)) := gw1 558 (by decide +kernel) (by decide +kernel) (gw1 559 (by decide +kernel) (by decide +kernel) (gw1 560 (by decide +kernel) (by decide +kernel) (gw1 68 (by decide +kernel) (by decide +kernel) (gw1 561 (by decide +kernel) (by decide +kernel) wsAll_good))))
theorem hyL_X8_call : hdY yX8_call RX8 1 := ⟨rfl, by decide, by decide, by decide +kernel⟩
theorem kw_L_81 : GoodIn wsAll (wsV RL 81 RX9 yX9_call (Cond.code yX9_call cX9_call 2 ((some .int)) :: wsAll)) := gw1 1020 (by decide +kernel) (by decide +kernel) (gw1 1021 (by decide +kernel) (by decide +kernel) (gw1 1022 (by decide +kernel) (by decide +kernel) (gw1 77 (by decide +kernel) (by decide +kernel) (gw1 1023 (by decide +kernel) (by decide +kernel) wsAll_good))))
theorem hyL_X9_call : hdY yX9_call RX9 1 := ⟨rfl, by decide, by decide, by decide +kernel⟩
theorem kw_L_82 : GoodIn wsAll (wsV RL 82 RX8 yX8_unwind (Cond.code yX8_unwind cX8_unwind 1 ((some .int)) :: wsAll)) := gw1 566 (by decide +kernel) (by decide +kernel) (gw1 567 (by decide +kernel) (by decide +kernel) (gw1 568 (by decide +kernel) (by decide +kernel) (gw1 68 (by decide +kernel) (by decide +kernel) (gw1 569 (by decide +kernel) (by decide +kernel) wsAll_good))))
theorem hyL_X8_unwind : hdY yX8_unwind RX8 0 := ⟨rfl, by decide, by decide, by decide +kernel⟩
theorem kw_L_85 : GoodIn wsAll (wsV RL 85 RX9 yX9_unwind (Cond.code yX9_unwind cX9_unwind 2 ((some .int)) :: wsAll)) := gw1 1024 (by decide +kernel) (by decide +kernel) (gw1 1025 (by decide +kernel) (by decide +kernel) (gw1 1026 (by decide +kernel) (by decide +kernel) (gw1 77 (by decide +kernel) (by decide +kernel) (gw1 1027 (by decide +kernel) (by decide +kernel) wsAll_good))))
theorem hyL_X9_unwind : hdY yX9_unwind RX9 0 := ⟨rfl, by decide, by decide, by decide +kernel⟩
theorem kw_L_86 : GoodIn wsAll (wsV RL 86 RX8 yX8_frame (Cond.code yX8_frame cX8_frame 3 ((some .int)) :: wsAll)) := gw1 630 (by decide +kernel) (by decide +kernel) (gw1 631 (by decide +kernel) (by decide +kernel) (gw1 632 (by decide +kernel) (by decide +kernel) (gw1 68 (by decide +kernel) (by decide +kernel) (gw1 633 (by decide +kernel) (by decide +kernel) wsAll_good))))
theorem hyL_X8_frame : hdY yX8_frame RX8 2 := ⟨rfl, by decide, by decide, by decide +kernel⟩
theorem kw_L_89 : GoodIn wsAll (wsV RL 89 RX9 yX9_frame (Cond.code yX9_frame cX9_frame 3 ((some .int)) :: wsAll)) := gw1 1032 (by decide +kernel) (by decide +kernel) (gw1 1033 (by decide +kernel) (by decide +kernel) (gw1 1034 (by decide +kernel) (by decide +kernel) (gw1 77 (by decide +kernel) (by decide +kernel) (gw1 1035 (by decide +kernel) (by decide +kernel) wsAll_good))))
theorem hyL_X9_frame : hdY yX9_frame RX9 2 := ⟨rfl, by decide, by decide, by decide +kernel⟩
theorem lg_same {x y : Int64} (h : x = y) : lg_cmp x y = 0 := by subst h; simp [lg_cmp]
section GLL
variable {p : Program} {l : Launch} {e : Env} {R : Room} {s : State} {m : MethodId} {args : Array Value} {below : List Frame} {meth : Method} {c : Code} {cc : ByteArray} {nL : Nat} {ret : Option FieldType} {own : String} {D : va_G} {tZ : Nat} {A : Nat → Prop} {Q : State → Prop} {pc : Nat} {L : List (Nat × Value)} {rest : List Value} {cells slots : Nat} {cI cZ cR cL : ClassId} {a b : Nat → Nat} {o : Nat} {S T : St} {f : Nat → Int64}
theorem gl_callL (hC : CX p s m args meth c cc nL ret own D (tyl4 cI cZ cR cL) tZ A) (hE : XE A s s.heap) {y : MethodName} {index maxL n : Nat} {bytes : ByteArray} {rt : Option FieldType} {hh : List (Nat × Nat × Nat × Nat)} {rm : Room} {As stk : List Value} {res : Int32 × St} (hcal : ∀ sz, Met l y (Cond.codeWith y bytes maxL rt hh :: wsAll) rm (va_Pc As (PXE D (tyl4 cI cZ cR cL) tZ (wL cI cZ cR cL a b o S T f) sz)) (QL cI cZ cR cL a b o D T (va_A (wL cI cZ cR cL a b o S T f) sz) res) 1 6 (va_A (wL cI cZ cR cL a b o S T f) sz)) (hG : GoodIn wsAll (va_wsS own index y (Cond.codeWith y bytes maxL rt hh :: wsAll))) (hy : y.cls ≠ "java/lang/invoke/MethodHandle" ∧ y.cls ≠ "java/lang/invoke/VarHandle" ∧ (parseMethodDescriptor y.desc).map (fun d => d.parameters.length) = some As.length) (hrm : rm.cells = 1 ∧ rm.slots = 6) (hR : rm.frames + 1 ≤ R.frames ∧ 8 + (maxL + 11) + rm.locals ≤ R.locals) (hn : As.length = n) (hstk : stk = As.reverse ++ rest) (hroom : (rest.map fun v => v.category).sum ≤ 8) (hcs : cells + 1 ≤ R.cells ∧ slots + 6 ≤ R.slots) {pc' : Nat} (hp : pc + 3 = pc') (hd : decode cc pc = .ok (.invokestatic index, 3))
    (k : ∀ u : Nat → Int64, (res.2 40 0 = 0 → u 0 = res.1.toInt64) → GC p l e R s m args below meth c nL D A Q pc' L (.int (res.2 40 0) :: rest) (wL cI cZ cR cL a b o res.2 T u) (cells + 1) (slots + 6)) : GC p l e R s m args below meth c nL D A Q pc L stk (wL cI cZ cR cL a b o S T f) cells slots := by
  subst hp
  intro H locs ls hP hD hS hl
  have hF : ∀ q, va_A (wL cI cZ cR cL a b o S T f) H.size q → A q := fun q h => h.elim (fun ⟨k, e, hk⟩ => hD.2 k (q, e) hk) (fun h => hC.2.2.2.2.1 q (Nat.le_trans hS.1 h))
  refine va_calli (vx_runSW (As := As) (rest := rest) hC.1 (hcal H.size) (vx_cwSW As.length hC.1.2.2.2.2 hG rfl hrm.1 hrm.2 hy hR) ⟨PXE.blind, ac_preE hC hE hP hD hS⟩ rfl rfl hl.1 hstk (lv_room hroom) hd hcs) hS (fun q _ h => hF q h) hF (fun r' u t H1 locs1 ht hvm hpost hB hz hk hS1 => ?_)
  obtain ⟨hP1, hK1, hD1⟩ := hB
  rw [ht] at hP1
  obtain ⟨rfl, hu⟩ := hpost
  exact k u hu H1 locs1 ls hP1 (hD1.weaken (fun _ q _ h => hF q.1 h)) hS1 hl
end GLL
theorem law_end {p : Program} {l : Launch} {e : Env} {s : State} {m : MethodId} {below : List Frame} {meth : Method} {c : Code} {sc tZ : Nat} {D : va_G} {tys : List (ClassId × FieldType)} {L : List (Nat × Value)} {ws : va_W} {cells slots : Nat} (hC : CX p s m #[Value.ref sc] meth c cL_law 7 ret RL D tys tZ (fun q => s.heap.size ≤ q)) (h1 : cells ≤ 601024) (h2 : slots ≤ 7293034) : GC p l e room_1 s m #[Value.ref sc] below meth c 7 D (fun q => s.heap.size ≤ q) (lw_Z below #[Value.ref sc] s) 578 L [.int 1] ws cells slots := by
  intro H locs ls hP hD hS hl
  refine W.widen (k := 601024) (n := 7293034) h1 h2 ?_
  refine va_forget (fun q hq => hS.2.2 q hq) ?_
  exact lw_ret hC.1.1 hC.1.2.1 hC.2.2.1 hC.2.2.2.1 dL_law_578
theorem law_in {N j : Nat} (hN : N ≤ 2560) (hj : 5 * j ≤ N) (h : ¬ (Int32.ofNat N - 5 < nI (5 * j))) : 5 * j + 5 ≤ N := by
  rw [Int32.lt_iff_toInt_lt] at h
  have e1 : (Int32.ofNat N - 5).toInt = (N : Int) - (5 : Nat) := pk_sub_toInt (a := N) (b := 5) (by omega) (by decide)
  rw [e1, nI_toInt (by omega)] at h
  omega
theorem law_vp {N j k : Nat} (hN : N ≤ 2560) (h : 5 * j + 5 ≤ N) (hk : k < 5) : vp_in (nI (5 * j) + nI k) N := by
  rw [nI_add]
  exact vp_in_nI (by omega) (by omega)
set_option maxHeartbeats 8000000 in
set_option maxRecDepth 100000 in
theorem law_loop {p : Program} {l : Launch} {e : Env} {s : State} {m : MethodId} {below : List Frame} {meth : Method} {c : Code} {sc N : Nat} {xs : Nat → Int32} (hN : N ≤ 2560) (hX : va_X sc N xs s s.heap) (hbl : sc < s.heap.size) (hlT : l.stackTraces = false) {cI cZ cR cL : ClassId} {a b : Nat → Nat} {o tZ : Nat} {D : va_G} (hC : CX p s m #[Value.ref sc] meth c cL_law 7 ret RL D (tyl4 cI cZ cR cL) tZ (fun q => s.heap.size ≤ q)) (hE : XE (fun q => s.heap.size ≤ q) s s.heap) (Rel : St → St → Prop)
    (h0 : ∀ (S T : St) (z0 : Int64) (z1 : Int32), Rel S T → ∃ (r1 : Int32) (S1 T1 : St), m_X8_code z0 z1 S = some (r1, S1) ∧ m_X9_code z0 z1 T = some (r1, T1) ∧ Rel S1 T1)
    (h1 : ∀ (S T : St) (z0 : Int32) (z1 : Int32), Rel S T → ∃ (r1 : Int32) (S1 T1 : St), m_X8_function z0 z1 S = some (r1, S1) ∧ m_X9_function z0 z1 T = some (r1, T1) ∧ Rel S1 T1)
    (h2 : ∀ (S T : St), Rel S T → ∃ (r1 : Int32) (S1 T1 : St), m_X8_clear  S = some (r1, S1) ∧ m_X9_clear  T = some (r1, T1) ∧ Rel S1 T1)
    (h3 : ∀ (S T : St), Rel S T → ∃ (r1 : Int32) (S1 T1 : St), m_X8_pack  S = some (r1, S1) ∧ m_X9_pack  T = some (r1, T1) ∧ Rel S1 T1)
    (h4 : ∀ (S T : St) (z0 : Int32), Rel S T → ∃ (r1 : Int32) (S1 T1 : St), m_X8_section z0 S = some (r1, S1) ∧ m_X9_section z0 T = some (r1, T1) ∧ Rel S1 T1)
    (h5 : ∀ (S T : St) (z0 : Int32) (z1 : Int32), Rel S T → ∃ (r1 : Int32) (S1 T1 : St), m_X8_poke z0 z1 S = some (r1, S1) ∧ m_X9_poke z0 z1 T = some (r1, T1) ∧ Rel S1 T1)
    (h6 : ∀ (S T : St) (z0 : Int32) (z1 : Int32), Rel S T → ∃ (r1 : Int32) (S1 : St) (r9 : Int32) (T1 : St), m_X8_row z0 z1 S = some (r1, S1) ∧ m_X9_row z0 z1 T = some (r9, T1) ∧ m_X9_thrown T1 = some (S1 40 0, T1) ∧ (S1 40 0 = 0 → r1 = r9) ∧ (S1 40 0 = 0 ∨ S1 40 0 = 1) ∧ Rel S1 T1)
    (h7 : ∀ (S T : St) (z0 : Int32) (z1 : Int32) (z2 : Int32) (z3 : Int32), Rel S T → ∃ (r1 : Int32) (S1 T1 : St), m_X8_begin z0 z1 z2 z3 S = some (r1, S1) ∧ m_X9_begin z0 z1 z2 z3 T = some (r1, T1) ∧ Rel S1 T1)
    (h8 : ∀ (S T : St), Rel S T → ∃ (r1 : Int32) (S1 : St) (r9 : Int32) (T1 : St), m_X8_step  S = some (r1, S1) ∧ m_X9_step  T = some (r9, T1) ∧ m_X9_thrown T1 = some (S1 40 0, T1) ∧ (S1 40 0 = 0 → r1 = r9) ∧ (S1 40 0 = 0 ∨ S1 40 0 = 1 ∨ S1 40 0 = 2) ∧ Rel S1 T1)
    (h9 : ∀ (S T : St) (z0 : Int32), Rel S T → ∃ (r1 : Int32) (S1 T1 : St), m_X8_machine z0 S = some (r1, S1) ∧ m_X9_machine z0 T = some (r1, T1) ∧ Rel S1 T1)
    (h10 : ∀ (S T : St) (z0 : Int32), Rel S T → ∃ (r1 : Int32) (S1 T1 : St), m_X8_call z0 S = some (r1, S1) ∧ m_X9_call z0 T = some (r1, T1) ∧ Rel S1 T1)
    (h11 : ∀ (S T : St), Rel S T → ∃ (r1 : Int32) (S1 T1 : St), m_X8_unwind  S = some (r1, S1) ∧ m_X9_unwind  T = some (r1, T1) ∧ Rel S1 T1)
    (h12 : ∀ (S T : St) (z0 : Int32) (z1 : Int32), Rel S T → ∃ (r1 : Int32) (S1 T1 : St), m_X8_frame z0 z1 S = some (r1, S1) ∧ m_X9_frame z0 z1 T = some (r1, T1) ∧ Rel S1 T1) :
    ∀ (n j : Nat), 5 * j ≤ N → N < 5 * (j + n) → ∀ (S T : St) (f : Nat → Int64), Rel S T → GC p l e room_1 s m #[Value.ref sc] below meth c 7 D (fun q => s.heap.size ≤ q) (lw_Z below #[Value.ref sc] s) 23 [(0, .ref sc), (1, .ref (a 0)), (2, .ref (b 0)), (3, .ref o), (4, .int (nI (5 * j)))] [] (wL cI cZ cR cL a b o S T f) (55 + j) (15180 + 6 * j) := by
  intro n
  induction n with
  | zero =>
    intro j hj5 hj
    exact absurd hj (by omega)
  | succ n ih =>
    intro j hj5 hj S T f hR
    have hbA : ¬ (fun q : Nat => s.heap.size ≤ q) sc := Nat.not_le.mpr hbl
    have hC3 := hC.sub (tys' := tyl cI cZ cR) [0, 1, 2] rfl
    refine gc_iload (pc' := 25) hC rfl dL_law_23 rfl ?_
    refine gc_aload_n (pc' := 26) hC rfl dL_law_25 rfl ?_
    refine gc_slen (pc' := 27) hC hX hbl hbA rfl dL_law_26 ?_
    refine gc_iconst (v := 5) (pc' := 28) hC rfl dL_law_27 (by decide) ?_
    refine gc_isub (pc' := 29) hC rfl dL_law_28 ?_
    refine gc_icmp_gt (pc' := 32) hC 577 rfl dL_law_29 (by decide) (fun hgt => ?_) (fun hle => ?_)
    · refine gc_iconst (v := 1) (pc' := 578) hC rfl dL_law_577 (by decide) ?_
      exact law_end hC (by omega) (by omega)
    · have hin : 5 * j + 5 ≤ N := law_in hN hj5 hle
      have ih : ∀ (j' : Nat), j' = j + 1 → ∀ (S T : St) (f : Nat → Int64), Rel S T → GC p l e room_1 s m #[Value.ref sc] below meth c 7 D (fun q => s.heap.size ≤ q) (lw_Z below #[Value.ref sc] s) 23 [(0, .ref sc), (1, .ref (a 0)), (2, .ref (b 0)), (3, .ref o), (4, .int (nI (5 * j')))] [] (wL cI cZ cR cL a b o S T f) (55 + j') (15180 + 6 * j') := fun j' e S T f h => by subst e; exact ih (j + 1) (by omega) (by omega) S T f h
      have hv0 : vp_in (nI (5 * j)) N := vp_in_nI (by omega) (by omega)
      have hv1 : vp_in (nI (5 * j) + 1) N := law_vp (k := 1) hN hin (by omega)
      have hv2 : vp_in (nI (5 * j) + 2) N := law_vp (k := 2) hN hin (by omega)
      have hv3 : vp_in (nI (5 * j) + 3) N := law_vp (k := 3) hN hin (by omega)
      have hv4 : vp_in (nI (5 * j) + 4) N := law_vp (k := 4) hN hin (by omega)
      have he5 : nI (5 * j) + Int32.ofInt 5 = nI (5 * (j + 1)) := (nI_add (5 * j) 5).trans (by rw [show 5 * j + 5 = 5 * (j + 1) by omega])
      have hroom0 : 55 + j ≤ room_1.cells ∧ 15180 + 6 * j ≤ room_1.slots := ⟨by show 55 + j ≤ 601024; omega, by show 15180 + 6 * j ≤ 7293034; omega⟩
      have hroom1 : 55 + j + 1 ≤ room_1.cells ∧ 15180 + 6 * j + 6 ≤ room_1.slots := ⟨by show 55 + j + 1 ≤ 601024; omega, by show 15180 + 6 * j + 6 ≤ 7293034; omega⟩
      refine gc_aload_n (pc' := 33) hC rfl dL_law_32 rfl ?_
      refine gc_iload (pc' := 35) hC rfl dL_law_33 rfl ?_
      refine gc_sld (pc' := 36) hC hX hbl hbA hv0 rfl dL_law_35 ?_
      refine gc_bipush (v := 15) (pc' := 38) hC rfl dL_law_36 (by decide) ?_
      refine gc_iand (pc' := 39) hC rfl dL_law_38 ?_
      generalize xs (nI (5 * j)).toNatClampNeg &&& (15 : Int32) = sw
      by_cases c0 : sw = (0 : Int32)
      · refine gc_case (v := (0 : Int32)) (off := 65) hC 104 c0 dL_law_39 (by decide) ?_
        refine gc_aload_n (pc' := 105) hC rfl dL_law_104 rfl ?_
        refine gc_aload_n (pc' := 106) hC rfl dL_law_105 rfl ?_
        refine gc_iload (pc' := 108) hC rfl dL_law_106 rfl ?_
        refine gc_iconst (v := (1 : Int32)) (pc' := 109) hC rfl dL_law_108 (by decide) ?_
        refine gc_iadd (pc' := 110) hC rfl dL_law_109 ?_
        refine gc_sld (pc' := 111) hC hX hbl hbA hv1 rfl dL_law_110 ?_
        refine gc_i2l (pc' := 112) hC rfl dL_law_111 ?_
        refine gc_bipush (v := (32 : Int32)) (pc' := 114) hC rfl dL_law_112 (by decide) ?_
        refine gc_lshl (pc' := 115) hC rfl dL_law_114 ?_
        refine gc_aload_n (pc' := 116) hC rfl dL_law_115 rfl ?_
        refine gc_iload (pc' := 118) hC rfl dL_law_116 rfl ?_
        refine gc_iconst (v := (2 : Int32)) (pc' := 119) hC rfl dL_law_118 (by decide) ?_
        refine gc_iadd (pc' := 120) hC rfl dL_law_119 ?_
        refine gc_sld (pc' := 121) hC hX hbl hbA hv2 rfl dL_law_120 ?_
        refine gc_i2l (pc' := 122) hC rfl dL_law_121 ?_
        refine gc_ldc2 (v := (4294967295 : Int64)) (pc' := 125) hC (wa 1036 (by decide +kernel) (by decide +kernel)) rfl dL_law_122 ?_
        refine gc_land (pc' := 126) hC rfl dL_law_125 ?_
        refine gc_lor (pc' := 127) hC rfl dL_law_126 ?_
        refine gc_aload_n (pc' := 128) hC rfl dL_law_127 rfl ?_
        refine gc_iload (pc' := 130) hC rfl dL_law_128 rfl ?_
        refine gc_iconst (v := (3 : Int32)) (pc' := 131) hC rfl dL_law_130 (by decide) ?_
        refine gc_iadd (pc' := 132) hC rfl dL_law_131 ?_
        refine gc_sld (pc' := 133) hC hX hbl hbA hv3 rfl dL_law_132 ?_
        obtain ⟨r1, S1, T1, hx1, hm1, hR1⟩ := h0 S T ((((xs ((nI (5 * j)) + (1 : Int32)).toNatClampNeg).toInt64) <<< ((32 : Int32).toInt64 &&& 63)) ||| (((xs ((nI (5 * j)) + (2 : Int32)).toNatClampNeg).toInt64) &&& (4294967295 : Int64))) (xs ((nI (5 * j)) + (3 : Int32)).toNatClampNeg) hR
        refine gl_callI (R := room_1) (w1 := []) (w := wX cI cZ cR a) (w3 := wM cI cZ b T ++ [(o, .inl (cL, 1, .inr (.inl f)))]) (S := S) (As := [.long ((((xs ((nI (5 * j)) + (1 : Int32)).toNatClampNeg).toInt64) <<< ((32 : Int32).toInt64 &&& 63)) ||| (((xs ((nI (5 * j)) + (2 : Int32)).toNatClampNeg).toInt64) &&& (4294967295 : Int64))), .int (xs ((nI (5 * j)) + (3 : Int32)).toNatClampNeg)]) (rest := []) (cells := (55 + j)) (slots := (15180 + 6 * j)) (pc' := 136) hC3 (c_X8_code cI cZ cR a ((((xs ((nI (5 * j)) + (1 : Int32)).toNatClampNeg).toInt64) <<< ((32 : Int32).toInt64 &&& 63)) ||| (((xs ((nI (5 * j)) + (2 : Int32)).toNatClampNeg).toInt64) &&& (4294967295 : Int64))) (xs ((nI (5 * j)) + (3 : Int32)).toNatClampNeg) S) hx1 0 (atX0 cI cZ cR a S) rfl kw_L_29 hyL_X8_code ⟨rfl, rfl⟩ (by decide) rfl rfl (Nat.le_of_ble_eq_true rfl) (hroom0) rfl dL_law_133 ?_
        refine gc_aload_n (pc' := 137) hC rfl dL_law_136 rfl ?_
        refine gc_aload_n (pc' := 138) hC rfl dL_law_137 rfl ?_
        refine gc_iload (pc' := 140) hC rfl dL_law_138 rfl ?_
        refine gc_iconst (v := (1 : Int32)) (pc' := 141) hC rfl dL_law_140 (by decide) ?_
        refine gc_iadd (pc' := 142) hC rfl dL_law_141 ?_
        refine gc_sld (pc' := 143) hC hX hbl hbA hv1 rfl dL_law_142 ?_
        refine gc_i2l (pc' := 144) hC rfl dL_law_143 ?_
        refine gc_bipush (v := (32 : Int32)) (pc' := 146) hC rfl dL_law_144 (by decide) ?_
        refine gc_lshl (pc' := 147) hC rfl dL_law_146 ?_
        refine gc_aload_n (pc' := 148) hC rfl dL_law_147 rfl ?_
        refine gc_iload (pc' := 150) hC rfl dL_law_148 rfl ?_
        refine gc_iconst (v := (2 : Int32)) (pc' := 151) hC rfl dL_law_150 (by decide) ?_
        refine gc_iadd (pc' := 152) hC rfl dL_law_151 ?_
        refine gc_sld (pc' := 153) hC hX hbl hbA hv2 rfl dL_law_152 ?_
        refine gc_i2l (pc' := 154) hC rfl dL_law_153 ?_
        refine gc_ldc2 (v := (4294967295 : Int64)) (pc' := 157) hC (wa 1036 (by decide +kernel) (by decide +kernel)) rfl dL_law_154 ?_
        refine gc_land (pc' := 158) hC rfl dL_law_157 ?_
        refine gc_lor (pc' := 159) hC rfl dL_law_158 ?_
        refine gc_aload_n (pc' := 160) hC rfl dL_law_159 rfl ?_
        refine gc_iload (pc' := 162) hC rfl dL_law_160 rfl ?_
        refine gc_iconst (v := (3 : Int32)) (pc' := 163) hC rfl dL_law_162 (by decide) ?_
        refine gc_iadd (pc' := 164) hC rfl dL_law_163 ?_
        refine gc_sld (pc' := 165) hC hX hbl hbA hv3 rfl dL_law_164 ?_
        refine gl_callI (R := room_1) (w1 := wX cI cZ cR a S1) (w := wM cI cZ b) (w3 := [(o, .inl (cL, 1, .inr (.inl f)))]) (S := T) (As := [.long ((((xs ((nI (5 * j)) + (1 : Int32)).toNatClampNeg).toInt64) <<< ((32 : Int32).toInt64 &&& 63)) ||| (((xs ((nI (5 * j)) + (2 : Int32)).toNatClampNeg).toInt64) &&& (4294967295 : Int64))), .int (xs ((nI (5 * j)) + (3 : Int32)).toNatClampNeg)]) (rest := [.int r1]) (cells := (55 + j)) (slots := (15180 + 6 * j)) (pc' := 168) hC3 (c_X9_code cI cZ cR b ((((xs ((nI (5 * j)) + (1 : Int32)).toNatClampNeg).toInt64) <<< ((32 : Int32).toInt64 &&& 63)) ||| (((xs ((nI (5 * j)) + (2 : Int32)).toNatClampNeg).toInt64) &&& (4294967295 : Int64))) (xs ((nI (5 * j)) + (3 : Int32)).toNatClampNeg) T) hm1 0 (atM0 cI cZ b T) rfl kw_L_33 hyL_X9_code ⟨rfl, rfl⟩ (by decide) rfl rfl (Nat.le_of_ble_eq_true rfl) (hroom0) rfl dL_law_165 ?_
        refine gc_icmp_eq (pc' := 171) hC 571 rfl dL_law_168 (by decide) (fun _ => ?_) (fun hne => absurd rfl hne)
        refine gc_iinc (v := (nI (5 * (j + 1)))) (pc' := 574) hC [(4, .int (nI (5 * (j + 1)))), (0, .ref sc), (1, .ref (a 0)), (2, .ref (b 0)), (3, .ref o)] rfl dL_law_571 rfl (he5) (by decide) rfl ?_
        refine gc_goto hC 23 dL_law_574 (by decide) ?_
        refine gc_sub [(0, .ref sc), (1, .ref (a 0)), (2, .ref (b 0)), (3, .ref o), (4, .int (nI (5 * (j + 1))))] [1, 2, 3, 4, 0] rfl ?_
        refine gc_widen (55 + (j + 1)) (15180 + 6 * (j + 1)) (by omega) (by omega) ?_
        exact ih (j + 1) (by omega) S1 T1 f hR1
      by_cases c1 : sw = (1 : Int32)
      · refine gc_case (v := (1 : Int32)) (off := 134) hC 173 c1 dL_law_39 (by decide) ?_
        refine gc_aload_n (pc' := 174) hC rfl dL_law_173 rfl ?_
        refine gc_aload_n (pc' := 175) hC rfl dL_law_174 rfl ?_
        refine gc_iload (pc' := 177) hC rfl dL_law_175 rfl ?_
        refine gc_iconst (v := (1 : Int32)) (pc' := 178) hC rfl dL_law_177 (by decide) ?_
        refine gc_iadd (pc' := 179) hC rfl dL_law_178 ?_
        refine gc_sld (pc' := 180) hC hX hbl hbA hv1 rfl dL_law_179 ?_
        refine gc_aload_n (pc' := 181) hC rfl dL_law_180 rfl ?_
        refine gc_iload (pc' := 183) hC rfl dL_law_181 rfl ?_
        refine gc_iconst (v := (2 : Int32)) (pc' := 184) hC rfl dL_law_183 (by decide) ?_
        refine gc_iadd (pc' := 185) hC rfl dL_law_184 ?_
        refine gc_sld (pc' := 186) hC hX hbl hbA hv2 rfl dL_law_185 ?_
        obtain ⟨r1, S1, T1, hx1, hm1, hR1⟩ := h1 S T (xs ((nI (5 * j)) + (1 : Int32)).toNatClampNeg) (xs ((nI (5 * j)) + (2 : Int32)).toNatClampNeg) hR
        refine gl_callI (R := room_1) (w1 := []) (w := wX cI cZ cR a) (w3 := wM cI cZ b T ++ [(o, .inl (cL, 1, .inr (.inl f)))]) (S := S) (As := [.int (xs ((nI (5 * j)) + (1 : Int32)).toNatClampNeg), .int (xs ((nI (5 * j)) + (2 : Int32)).toNatClampNeg)]) (rest := []) (cells := (55 + j)) (slots := (15180 + 6 * j)) (pc' := 189) hC3 (c_X8_function cI cZ cR a (xs ((nI (5 * j)) + (1 : Int32)).toNatClampNeg) (xs ((nI (5 * j)) + (2 : Int32)).toNatClampNeg) S) hx1 0 (atX0 cI cZ cR a S) rfl kw_L_34 hyL_X8_function ⟨rfl, rfl⟩ (by decide) rfl rfl (Nat.le_of_ble_eq_true rfl) (hroom0) rfl dL_law_186 ?_
        refine gc_aload_n (pc' := 190) hC rfl dL_law_189 rfl ?_
        refine gc_aload_n (pc' := 191) hC rfl dL_law_190 rfl ?_
        refine gc_iload (pc' := 193) hC rfl dL_law_191 rfl ?_
        refine gc_iconst (v := (1 : Int32)) (pc' := 194) hC rfl dL_law_193 (by decide) ?_
        refine gc_iadd (pc' := 195) hC rfl dL_law_194 ?_
        refine gc_sld (pc' := 196) hC hX hbl hbA hv1 rfl dL_law_195 ?_
        refine gc_aload_n (pc' := 197) hC rfl dL_law_196 rfl ?_
        refine gc_iload (pc' := 199) hC rfl dL_law_197 rfl ?_
        refine gc_iconst (v := (2 : Int32)) (pc' := 200) hC rfl dL_law_199 (by decide) ?_
        refine gc_iadd (pc' := 201) hC rfl dL_law_200 ?_
        refine gc_sld (pc' := 202) hC hX hbl hbA hv2 rfl dL_law_201 ?_
        refine gl_callI (R := room_1) (w1 := wX cI cZ cR a S1) (w := wM cI cZ b) (w3 := [(o, .inl (cL, 1, .inr (.inl f)))]) (S := T) (As := [.int (xs ((nI (5 * j)) + (1 : Int32)).toNatClampNeg), .int (xs ((nI (5 * j)) + (2 : Int32)).toNatClampNeg)]) (rest := [.int r1]) (cells := (55 + j)) (slots := (15180 + 6 * j)) (pc' := 205) hC3 (c_X9_function cI cZ cR b (xs ((nI (5 * j)) + (1 : Int32)).toNatClampNeg) (xs ((nI (5 * j)) + (2 : Int32)).toNatClampNeg) T) hm1 0 (atM0 cI cZ b T) rfl kw_L_37 hyL_X9_function ⟨rfl, rfl⟩ (by decide) rfl rfl (Nat.le_of_ble_eq_true rfl) (hroom0) rfl dL_law_202 ?_
        refine gc_icmp_eq (pc' := 208) hC 571 rfl dL_law_205 (by decide) (fun _ => ?_) (fun hne => absurd rfl hne)
        refine gc_iinc (v := (nI (5 * (j + 1)))) (pc' := 574) hC [(4, .int (nI (5 * (j + 1)))), (0, .ref sc), (1, .ref (a 0)), (2, .ref (b 0)), (3, .ref o)] rfl dL_law_571 rfl (he5) (by decide) rfl ?_
        refine gc_goto hC 23 dL_law_574 (by decide) ?_
        refine gc_sub [(0, .ref sc), (1, .ref (a 0)), (2, .ref (b 0)), (3, .ref o), (4, .int (nI (5 * (j + 1))))] [1, 2, 3, 4, 0] rfl ?_
        refine gc_widen (55 + (j + 1)) (15180 + 6 * (j + 1)) (by omega) (by omega) ?_
        exact ih (j + 1) (by omega) S1 T1 f hR1
      by_cases c2 : sw = (2 : Int32)
      · refine gc_case (v := (2 : Int32)) (off := 171) hC 210 c2 dL_law_39 (by decide) ?_
        refine gc_aload_n (pc' := 211) hC rfl dL_law_210 rfl ?_
        obtain ⟨r1, S1, T1, hx1, hm1, hR1⟩ := h2 S T hR
        refine gl_callI (R := room_1) (w1 := []) (w := wX cI cZ cR a) (w3 := wM cI cZ b T ++ [(o, .inl (cL, 1, .inr (.inl f)))]) (S := S) (As := []) (rest := []) (cells := (55 + j)) (slots := (15180 + 6 * j)) (pc' := 214) hC3 (c_X8_clear cI cZ cR a  S) hx1 0 (atX0 cI cZ cR a S) rfl kw_L_38 hyL_X8_clear ⟨rfl, rfl⟩ (by decide) rfl rfl (Nat.le_of_ble_eq_true rfl) (hroom0) rfl dL_law_211 ?_
        refine gc_aload_n (pc' := 215) hC rfl dL_law_214 rfl ?_
        refine gl_callI (R := room_1) (w1 := wX cI cZ cR a S1) (w := wM cI cZ b) (w3 := [(o, .inl (cL, 1, .inr (.inl f)))]) (S := T) (As := []) (rest := [.int r1]) (cells := (55 + j)) (slots := (15180 + 6 * j)) (pc' := 218) hC3 (c_X9_clear cI cZ cR b  T) hm1 0 (atM0 cI cZ b T) rfl kw_L_41 hyL_X9_clear ⟨rfl, rfl⟩ (by decide) rfl rfl (Nat.le_of_ble_eq_true rfl) (hroom0) rfl dL_law_215 ?_
        refine gc_icmp_eq (pc' := 221) hC 571 rfl dL_law_218 (by decide) (fun _ => ?_) (fun hne => absurd rfl hne)
        refine gc_iinc (v := (nI (5 * (j + 1)))) (pc' := 574) hC [(4, .int (nI (5 * (j + 1)))), (0, .ref sc), (1, .ref (a 0)), (2, .ref (b 0)), (3, .ref o)] rfl dL_law_571 rfl (he5) (by decide) rfl ?_
        refine gc_goto hC 23 dL_law_574 (by decide) ?_
        refine gc_sub [(0, .ref sc), (1, .ref (a 0)), (2, .ref (b 0)), (3, .ref o), (4, .int (nI (5 * (j + 1))))] [1, 2, 3, 4, 0] rfl ?_
        refine gc_widen (55 + (j + 1)) (15180 + 6 * (j + 1)) (by omega) (by omega) ?_
        exact ih (j + 1) (by omega) S1 T1 f hR1
      by_cases c3 : sw = (3 : Int32)
      · refine gc_case (v := (3 : Int32)) (off := 184) hC 223 c3 dL_law_39 (by decide) ?_
        refine gc_aload_n (pc' := 224) hC rfl dL_law_223 rfl ?_
        obtain ⟨r1, S1, T1, hx1, hm1, hR1⟩ := h3 S T hR
        refine gl_callI (R := room_1) (w1 := []) (w := wX cI cZ cR a) (w3 := wM cI cZ b T ++ [(o, .inl (cL, 1, .inr (.inl f)))]) (S := S) (As := []) (rest := []) (cells := (55 + j)) (slots := (15180 + 6 * j)) (pc' := 227) hC3 (c_X8_pack cI cZ cR a  S) hx1 0 (atX0 cI cZ cR a S) rfl kw_L_42 hyL_X8_pack ⟨rfl, rfl⟩ (by decide) rfl rfl (Nat.le_of_ble_eq_true rfl) (hroom0) rfl dL_law_224 ?_
        refine gc_aload_n (pc' := 228) hC rfl dL_law_227 rfl ?_
        refine gl_callI (R := room_1) (w1 := wX cI cZ cR a S1) (w := wM cI cZ b) (w3 := [(o, .inl (cL, 1, .inr (.inl f)))]) (S := T) (As := []) (rest := [.int r1]) (cells := (55 + j)) (slots := (15180 + 6 * j)) (pc' := 231) hC3 (c_X9_pack cI cZ cR b  T) hm1 0 (atM0 cI cZ b T) rfl kw_L_45 hyL_X9_pack ⟨rfl, rfl⟩ (by decide) rfl rfl (Nat.le_of_ble_eq_true rfl) (hroom0) rfl dL_law_228 ?_
        refine gc_icmp_eq (pc' := 234) hC 571 rfl dL_law_231 (by decide) (fun _ => ?_) (fun hne => absurd rfl hne)
        refine gc_iinc (v := (nI (5 * (j + 1)))) (pc' := 574) hC [(4, .int (nI (5 * (j + 1)))), (0, .ref sc), (1, .ref (a 0)), (2, .ref (b 0)), (3, .ref o)] rfl dL_law_571 rfl (he5) (by decide) rfl ?_
        refine gc_goto hC 23 dL_law_574 (by decide) ?_
        refine gc_sub [(0, .ref sc), (1, .ref (a 0)), (2, .ref (b 0)), (3, .ref o), (4, .int (nI (5 * (j + 1))))] [1, 2, 3, 4, 0] rfl ?_
        refine gc_widen (55 + (j + 1)) (15180 + 6 * (j + 1)) (by omega) (by omega) ?_
        exact ih (j + 1) (by omega) S1 T1 f hR1
      by_cases c4 : sw = (4 : Int32)
      · refine gc_case (v := (4 : Int32)) (off := 197) hC 236 c4 dL_law_39 (by decide) ?_
        refine gc_aload_n (pc' := 237) hC rfl dL_law_236 rfl ?_
        refine gc_aload_n (pc' := 238) hC rfl dL_law_237 rfl ?_
        refine gc_iload (pc' := 240) hC rfl dL_law_238 rfl ?_
        refine gc_iconst (v := (1 : Int32)) (pc' := 241) hC rfl dL_law_240 (by decide) ?_
        refine gc_iadd (pc' := 242) hC rfl dL_law_241 ?_
        refine gc_sld (pc' := 243) hC hX hbl hbA hv1 rfl dL_law_242 ?_
        obtain ⟨r1, S1, T1, hx1, hm1, hR1⟩ := h4 S T (xs ((nI (5 * j)) + (1 : Int32)).toNatClampNeg) hR
        refine gl_callI (R := room_1) (w1 := []) (w := wX cI cZ cR a) (w3 := wM cI cZ b T ++ [(o, .inl (cL, 1, .inr (.inl f)))]) (S := S) (As := [.int (xs ((nI (5 * j)) + (1 : Int32)).toNatClampNeg)]) (rest := []) (cells := (55 + j)) (slots := (15180 + 6 * j)) (pc' := 246) hC3 (c_X8_section cI cZ cR a (xs ((nI (5 * j)) + (1 : Int32)).toNatClampNeg) S) hx1 0 (atX0 cI cZ cR a S) rfl kw_L_46 hyL_X8_section ⟨rfl, rfl⟩ (by decide) rfl rfl (Nat.le_of_ble_eq_true rfl) (hroom0) rfl dL_law_243 ?_
        refine gc_aload_n (pc' := 247) hC rfl dL_law_246 rfl ?_
        refine gc_aload_n (pc' := 248) hC rfl dL_law_247 rfl ?_
        refine gc_iload (pc' := 250) hC rfl dL_law_248 rfl ?_
        refine gc_iconst (v := (1 : Int32)) (pc' := 251) hC rfl dL_law_250 (by decide) ?_
        refine gc_iadd (pc' := 252) hC rfl dL_law_251 ?_
        refine gc_sld (pc' := 253) hC hX hbl hbA hv1 rfl dL_law_252 ?_
        refine gl_callI (R := room_1) (w1 := wX cI cZ cR a S1) (w := wM cI cZ b) (w3 := [(o, .inl (cL, 1, .inr (.inl f)))]) (S := T) (As := [.int (xs ((nI (5 * j)) + (1 : Int32)).toNatClampNeg)]) (rest := [.int r1]) (cells := (55 + j)) (slots := (15180 + 6 * j)) (pc' := 256) hC3 (c_X9_section cI cZ cR b (xs ((nI (5 * j)) + (1 : Int32)).toNatClampNeg) T) hm1 0 (atM0 cI cZ b T) rfl kw_L_50 hyL_X9_section ⟨rfl, rfl⟩ (by decide) rfl rfl (Nat.le_of_ble_eq_true rfl) (hroom0) rfl dL_law_253 ?_
        refine gc_icmp_eq (pc' := 259) hC 571 rfl dL_law_256 (by decide) (fun _ => ?_) (fun hne => absurd rfl hne)
        refine gc_iinc (v := (nI (5 * (j + 1)))) (pc' := 574) hC [(4, .int (nI (5 * (j + 1)))), (0, .ref sc), (1, .ref (a 0)), (2, .ref (b 0)), (3, .ref o)] rfl dL_law_571 rfl (he5) (by decide) rfl ?_
        refine gc_goto hC 23 dL_law_574 (by decide) ?_
        refine gc_sub [(0, .ref sc), (1, .ref (a 0)), (2, .ref (b 0)), (3, .ref o), (4, .int (nI (5 * (j + 1))))] [1, 2, 3, 4, 0] rfl ?_
        refine gc_widen (55 + (j + 1)) (15180 + 6 * (j + 1)) (by omega) (by omega) ?_
        exact ih (j + 1) (by omega) S1 T1 f hR1
      by_cases c5 : sw = (5 : Int32)
      · refine gc_case (v := (5 : Int32)) (off := 222) hC 261 c5 dL_law_39 (by decide) ?_
        refine gc_aload_n (pc' := 262) hC rfl dL_law_261 rfl ?_
        refine gc_aload_n (pc' := 263) hC rfl dL_law_262 rfl ?_
        refine gc_iload (pc' := 265) hC rfl dL_law_263 rfl ?_
        refine gc_iconst (v := (1 : Int32)) (pc' := 266) hC rfl dL_law_265 (by decide) ?_
        refine gc_iadd (pc' := 267) hC rfl dL_law_266 ?_
        refine gc_sld (pc' := 268) hC hX hbl hbA hv1 rfl dL_law_267 ?_
        refine gc_aload_n (pc' := 269) hC rfl dL_law_268 rfl ?_
        refine gc_iload (pc' := 271) hC rfl dL_law_269 rfl ?_
        refine gc_iconst (v := (2 : Int32)) (pc' := 272) hC rfl dL_law_271 (by decide) ?_
        refine gc_iadd (pc' := 273) hC rfl dL_law_272 ?_
        refine gc_sld (pc' := 274) hC hX hbl hbA hv2 rfl dL_law_273 ?_
        obtain ⟨r1, S1, T1, hx1, hm1, hR1⟩ := h5 S T (xs ((nI (5 * j)) + (1 : Int32)).toNatClampNeg) (xs ((nI (5 * j)) + (2 : Int32)).toNatClampNeg) hR
        refine gl_callI (R := room_1) (w1 := []) (w := wX cI cZ cR a) (w3 := wM cI cZ b T ++ [(o, .inl (cL, 1, .inr (.inl f)))]) (S := S) (As := [.int (xs ((nI (5 * j)) + (1 : Int32)).toNatClampNeg), .int (xs ((nI (5 * j)) + (2 : Int32)).toNatClampNeg)]) (rest := []) (cells := (55 + j)) (slots := (15180 + 6 * j)) (pc' := 277) hC3 (c_X8_poke cI cZ cR a (xs ((nI (5 * j)) + (1 : Int32)).toNatClampNeg) (xs ((nI (5 * j)) + (2 : Int32)).toNatClampNeg) S) hx1 0 (atX0 cI cZ cR a S) rfl kw_L_51 hyL_X8_poke ⟨rfl, rfl⟩ (by decide) rfl rfl (Nat.le_of_ble_eq_true rfl) (hroom0) rfl dL_law_274 ?_
        refine gc_aload_n (pc' := 278) hC rfl dL_law_277 rfl ?_
        refine gc_aload_n (pc' := 279) hC rfl dL_law_278 rfl ?_
        refine gc_iload (pc' := 281) hC rfl dL_law_279 rfl ?_
        refine gc_iconst (v := (1 : Int32)) (pc' := 282) hC rfl dL_law_281 (by decide) ?_
        refine gc_iadd (pc' := 283) hC rfl dL_law_282 ?_
        refine gc_sld (pc' := 284) hC hX hbl hbA hv1 rfl dL_law_283 ?_
        refine gc_aload_n (pc' := 285) hC rfl dL_law_284 rfl ?_
        refine gc_iload (pc' := 287) hC rfl dL_law_285 rfl ?_
        refine gc_iconst (v := (2 : Int32)) (pc' := 288) hC rfl dL_law_287 (by decide) ?_
        refine gc_iadd (pc' := 289) hC rfl dL_law_288 ?_
        refine gc_sld (pc' := 290) hC hX hbl hbA hv2 rfl dL_law_289 ?_
        refine gl_callI (R := room_1) (w1 := wX cI cZ cR a S1) (w := wM cI cZ b) (w3 := [(o, .inl (cL, 1, .inr (.inl f)))]) (S := T) (As := [.int (xs ((nI (5 * j)) + (1 : Int32)).toNatClampNeg), .int (xs ((nI (5 * j)) + (2 : Int32)).toNatClampNeg)]) (rest := [.int r1]) (cells := (55 + j)) (slots := (15180 + 6 * j)) (pc' := 293) hC3 (c_X9_poke cI cZ cR b (xs ((nI (5 * j)) + (1 : Int32)).toNatClampNeg) (xs ((nI (5 * j)) + (2 : Int32)).toNatClampNeg) T) hm1 0 (atM0 cI cZ b T) rfl kw_L_55 hyL_X9_poke ⟨rfl, rfl⟩ (by decide) rfl rfl (Nat.le_of_ble_eq_true rfl) (hroom0) rfl dL_law_290 ?_
        refine gc_icmp_eq (pc' := 296) hC 571 rfl dL_law_293 (by decide) (fun _ => ?_) (fun hne => absurd rfl hne)
        refine gc_iinc (v := (nI (5 * (j + 1)))) (pc' := 574) hC [(4, .int (nI (5 * (j + 1)))), (0, .ref sc), (1, .ref (a 0)), (2, .ref (b 0)), (3, .ref o)] rfl dL_law_571 rfl (he5) (by decide) rfl ?_
        refine gc_goto hC 23 dL_law_574 (by decide) ?_
        refine gc_sub [(0, .ref sc), (1, .ref (a 0)), (2, .ref (b 0)), (3, .ref o), (4, .int (nI (5 * (j + 1))))] [1, 2, 3, 4, 0] rfl ?_
        refine gc_widen (55 + (j + 1)) (15180 + 6 * (j + 1)) (by omega) (by omega) ?_
        exact ih (j + 1) (by omega) S1 T1 f hR1
      by_cases c6 : sw = (6 : Int32)
      · refine gc_case (v := (6 : Int32)) (off := 259) hC 298 c6 dL_law_39 (by decide) ?_
        refine gc_aload_n (pc' := 299) hC rfl dL_law_298 rfl ?_
        refine gc_aload_n (pc' := 300) hC rfl dL_law_299 rfl ?_
        refine gc_iload (pc' := 302) hC rfl dL_law_300 rfl ?_
        refine gc_iconst (v := (1 : Int32)) (pc' := 303) hC rfl dL_law_302 (by decide) ?_
        refine gc_iadd (pc' := 304) hC rfl dL_law_303 ?_
        refine gc_sld (pc' := 305) hC hX hbl hbA hv1 rfl dL_law_304 ?_
        refine gc_aload_n (pc' := 306) hC rfl dL_law_305 rfl ?_
        refine gc_iload (pc' := 308) hC rfl dL_law_306 rfl ?_
        refine gc_iconst (v := (2 : Int32)) (pc' := 309) hC rfl dL_law_308 (by decide) ?_
        refine gc_iadd (pc' := 310) hC rfl dL_law_309 ?_
        refine gc_sld (pc' := 311) hC hX hbl hbA hv2 rfl dL_law_310 ?_
        refine gc_aload_n (pc' := 312) hC rfl dL_law_311 rfl ?_
        obtain ⟨r1, S1, r9, T1, hx1, hm1, ht1, heq, hcd, hR1⟩ := h6 S T (xs ((nI (5 * j)) + (1 : Int32)).toNatClampNeg) (xs ((nI (5 * j)) + (2 : Int32)).toNatClampNeg) hR
        refine gl_callL (R := room_1) (S := S) (T := T) (f := f) (As := [.ref (a 0), .int (xs ((nI (5 * j)) + (1 : Int32)).toNatClampNeg), .int (xs ((nI (5 * j)) + (2 : Int32)).toNatClampNeg), .ref o]) (rest := []) (cells := (55 + j)) (slots := (15180 + 6 * j)) (pc' := 315) hC hE (fun sz => c_L_row cI cZ cR cL a b o hlT (xs ((nI (5 * j)) + (1 : Int32)).toNatClampNeg) (xs ((nI (5 * j)) + (2 : Int32)).toNatClampNeg) S T f (r1, S1) hx1 hcd sz) kw_L_56 ⟨by decide, by decide, (show (parseMethodDescriptor yL_row.desc).map (fun d => d.parameters.length) = some 4 by decide +kernel)⟩ ⟨rfl, rfl⟩ ⟨by decide, by decide⟩ rfl rfl (Nat.le_of_ble_eq_true rfl) hroom1 rfl dL_law_312 (fun u hu => ?_)
        refine gc_istore (pc' := 317) hC [(5, .int (S1 40 0)), (0, .ref sc), (1, .ref (a 0)), (2, .ref (b 0)), (3, .ref o), (4, .int (nI (5 * j)))] rfl dL_law_315 (by decide) rfl ?_
        refine gc_aload_n (pc' := 318) hC rfl dL_law_317 rfl ?_
        refine gc_aload_n (pc' := 319) hC rfl dL_law_318 rfl ?_
        refine gc_iload (pc' := 321) hC rfl dL_law_319 rfl ?_
        refine gc_iconst (v := (1 : Int32)) (pc' := 322) hC rfl dL_law_321 (by decide) ?_
        refine gc_iadd (pc' := 323) hC rfl dL_law_322 ?_
        refine gc_sld (pc' := 324) hC hX hbl hbA hv1 rfl dL_law_323 ?_
        refine gc_aload_n (pc' := 325) hC rfl dL_law_324 rfl ?_
        refine gc_iload (pc' := 327) hC rfl dL_law_325 rfl ?_
        refine gc_iconst (v := (2 : Int32)) (pc' := 328) hC rfl dL_law_327 (by decide) ?_
        refine gc_iadd (pc' := 329) hC rfl dL_law_328 ?_
        refine gc_sld (pc' := 330) hC hX hbl hbA hv2 rfl dL_law_329 ?_
        refine gl_callI (R := room_1) (w1 := wX cI cZ cR a S1) (w := wM cI cZ b) (w3 := [(o, .inl (cL, 1, .inr (.inl u)))]) (S := T) (As := [.int (xs ((nI (5 * j)) + (1 : Int32)).toNatClampNeg), .int (xs ((nI (5 * j)) + (2 : Int32)).toNatClampNeg)]) (rest := []) (cells := ((55 + j) + 1)) (slots := ((15180 + 6 * j) + 6)) (pc' := 333) hC3 (c_X9_row cI cZ cR b (xs ((nI (5 * j)) + (1 : Int32)).toNatClampNeg) (xs ((nI (5 * j)) + (2 : Int32)).toNatClampNeg) T) hm1 0 (atM0 cI cZ b T) rfl kw_L_61 hyL_X9_row ⟨rfl, rfl⟩ (by decide) rfl rfl (Nat.le_of_ble_eq_true rfl) (hroom1) rfl dL_law_330 ?_
        refine gc_istore (pc' := 335) hC [(6, .int r9), (5, .int (S1 40 0)), (0, .ref sc), (1, .ref (a 0)), (2, .ref (b 0)), (3, .ref o), (4, .int (nI (5 * j)))] rfl dL_law_333 (by decide) rfl ?_
        refine gc_aload_n (pc' := 336) hC rfl dL_law_335 rfl ?_
        refine gl_callI (R := room_1) (w1 := wX cI cZ cR a S1) (w := wM cI cZ b) (w3 := [(o, .inl (cL, 1, .inr (.inl u)))]) (S := T1) (As := []) (rest := []) (cells := ((55 + j) + 1)) (slots := ((15180 + 6 * j) + 6)) (pc' := 339) hC3 (c_X9_thrown cI cZ cR b T1) ht1 0 (atM0 cI cZ b T1) rfl kw_L_62 hyL_X9_thrown ⟨rfl, rfl⟩ (by decide) rfl rfl (Nat.le_of_ble_eq_true rfl) (hroom1) rfl dL_law_336 ?_
        refine gc_iload (pc' := 341) hC rfl dL_law_339 rfl ?_
        refine gc_icmp_eq (pc' := 344) hC 346 rfl dL_law_341 (by decide) (fun _ => ?_) (fun hne => absurd rfl hne)
        refine gc_iload (pc' := 348) hC rfl dL_law_346 rfl ?_
        refine gc_if_ne (pc' := 351) hC 363 rfl dL_law_348 (by decide) (fun h0z => ?_) (fun hnz => ?_)
        · refine gc_aload_n (pc' := 352) hC rfl dL_law_351 rfl ?_
          refine gc_iconst (v := (0 : Int32)) (pc' := 353) hC rfl dL_law_352 (by decide) ?_
          refine gc_lald (pc' := 354) hC 54 3 (wL_at cI cZ cR cL a b o S1 T1 u) rfl (by decide) rfl dL_law_353 ?_
          refine gc_iload (pc' := 356) hC rfl dL_law_354 rfl ?_
          refine gc_i2l (pc' := 357) hC rfl dL_law_356 ?_
          refine gc_lcmp (pc' := 358) hC rfl dL_law_357 ?_
          refine gc_if_eq (pc' := 361) hC 363 rfl dL_law_358 (by decide) (fun _ => ?_) (fun hne => absurd (lg_same (by rw [show (0 : Int32).toNatClampNeg = 0 from rfl, hu h0z, heq h0z])) hne)
          refine gc_goto hC 571 dL_law_363 (by decide) ?_
          refine gc_iinc (v := (nI (5 * (j + 1)))) (pc' := 574) hC [(4, .int (nI (5 * (j + 1)))), (6, .int r9), (5, .int (S1 40 0)), (0, .ref sc), (1, .ref (a 0)), (2, .ref (b 0)), (3, .ref o)] rfl dL_law_571 rfl (he5) (by decide) rfl ?_
          refine gc_goto hC 23 dL_law_574 (by decide) ?_
          refine gc_sub [(0, .ref sc), (1, .ref (a 0)), (2, .ref (b 0)), (3, .ref o), (4, .int (nI (5 * (j + 1))))] [3, 4, 5, 6, 0] rfl ?_
          refine gc_widen (55 + (j + 1)) (15180 + 6 * (j + 1)) (by omega) (by omega) ?_
          exact ih (j + 1) (by omega) S1 T1 u hR1
        · refine gc_goto hC 571 dL_law_363 (by decide) ?_
          refine gc_iinc (v := (nI (5 * (j + 1)))) (pc' := 574) hC [(4, .int (nI (5 * (j + 1)))), (6, .int r9), (5, .int (S1 40 0)), (0, .ref sc), (1, .ref (a 0)), (2, .ref (b 0)), (3, .ref o)] rfl dL_law_571 rfl (he5) (by decide) rfl ?_
          refine gc_goto hC 23 dL_law_574 (by decide) ?_
          refine gc_sub [(0, .ref sc), (1, .ref (a 0)), (2, .ref (b 0)), (3, .ref o), (4, .int (nI (5 * (j + 1))))] [3, 4, 5, 6, 0] rfl ?_
          refine gc_widen (55 + (j + 1)) (15180 + 6 * (j + 1)) (by omega) (by omega) ?_
          exact ih (j + 1) (by omega) S1 T1 u hR1
      by_cases c7 : sw = (7 : Int32)
      · refine gc_case (v := (7 : Int32)) (off := 327) hC 366 c7 dL_law_39 (by decide) ?_
        refine gc_aload_n (pc' := 367) hC rfl dL_law_366 rfl ?_
        refine gc_aload_n (pc' := 368) hC rfl dL_law_367 rfl ?_
        refine gc_iload (pc' := 370) hC rfl dL_law_368 rfl ?_
        refine gc_iconst (v := (1 : Int32)) (pc' := 371) hC rfl dL_law_370 (by decide) ?_
        refine gc_iadd (pc' := 372) hC rfl dL_law_371 ?_
        refine gc_sld (pc' := 373) hC hX hbl hbA hv1 rfl dL_law_372 ?_
        refine gc_aload_n (pc' := 374) hC rfl dL_law_373 rfl ?_
        refine gc_iload (pc' := 376) hC rfl dL_law_374 rfl ?_
        refine gc_iconst (v := (2 : Int32)) (pc' := 377) hC rfl dL_law_376 (by decide) ?_
        refine gc_iadd (pc' := 378) hC rfl dL_law_377 ?_
        refine gc_sld (pc' := 379) hC hX hbl hbA hv2 rfl dL_law_378 ?_
        refine gc_aload_n (pc' := 380) hC rfl dL_law_379 rfl ?_
        refine gc_iload (pc' := 382) hC rfl dL_law_380 rfl ?_
        refine gc_iconst (v := (3 : Int32)) (pc' := 383) hC rfl dL_law_382 (by decide) ?_
        refine gc_iadd (pc' := 384) hC rfl dL_law_383 ?_
        refine gc_sld (pc' := 385) hC hX hbl hbA hv3 rfl dL_law_384 ?_
        refine gc_aload_n (pc' := 386) hC rfl dL_law_385 rfl ?_
        refine gc_iload (pc' := 388) hC rfl dL_law_386 rfl ?_
        refine gc_iconst (v := (4 : Int32)) (pc' := 389) hC rfl dL_law_388 (by decide) ?_
        refine gc_iadd (pc' := 390) hC rfl dL_law_389 ?_
        refine gc_sld (pc' := 391) hC hX hbl hbA hv4 rfl dL_law_390 ?_
        obtain ⟨r1, S1, T1, hx1, hm1, hR1⟩ := h7 S T (xs ((nI (5 * j)) + (1 : Int32)).toNatClampNeg) (xs ((nI (5 * j)) + (2 : Int32)).toNatClampNeg) (xs ((nI (5 * j)) + (3 : Int32)).toNatClampNeg) (xs ((nI (5 * j)) + (4 : Int32)).toNatClampNeg) hR
        refine gl_callI (R := room_1) (w1 := []) (w := wX cI cZ cR a) (w3 := wM cI cZ b T ++ [(o, .inl (cL, 1, .inr (.inl f)))]) (S := S) (As := [.int (xs ((nI (5 * j)) + (1 : Int32)).toNatClampNeg), .int (xs ((nI (5 * j)) + (2 : Int32)).toNatClampNeg), .int (xs ((nI (5 * j)) + (3 : Int32)).toNatClampNeg), .int (xs ((nI (5 * j)) + (4 : Int32)).toNatClampNeg)]) (rest := []) (cells := (55 + j)) (slots := (15180 + 6 * j)) (pc' := 394) hC3 (c_X8_begin cI cZ cR a (xs ((nI (5 * j)) + (1 : Int32)).toNatClampNeg) (xs ((nI (5 * j)) + (2 : Int32)).toNatClampNeg) (xs ((nI (5 * j)) + (3 : Int32)).toNatClampNeg) (xs ((nI (5 * j)) + (4 : Int32)).toNatClampNeg) S) hx1 0 (atX0 cI cZ cR a S) rfl kw_L_65 hyL_X8_begin ⟨rfl, rfl⟩ (by decide) rfl rfl (Nat.le_of_ble_eq_true rfl) (hroom0) rfl dL_law_391 ?_
        refine gc_aload_n (pc' := 395) hC rfl dL_law_394 rfl ?_
        refine gc_aload_n (pc' := 396) hC rfl dL_law_395 rfl ?_
        refine gc_iload (pc' := 398) hC rfl dL_law_396 rfl ?_
        refine gc_iconst (v := (1 : Int32)) (pc' := 399) hC rfl dL_law_398 (by decide) ?_
        refine gc_iadd (pc' := 400) hC rfl dL_law_399 ?_
        refine gc_sld (pc' := 401) hC hX hbl hbA hv1 rfl dL_law_400 ?_
        refine gc_aload_n (pc' := 402) hC rfl dL_law_401 rfl ?_
        refine gc_iload (pc' := 404) hC rfl dL_law_402 rfl ?_
        refine gc_iconst (v := (2 : Int32)) (pc' := 405) hC rfl dL_law_404 (by decide) ?_
        refine gc_iadd (pc' := 406) hC rfl dL_law_405 ?_
        refine gc_sld (pc' := 407) hC hX hbl hbA hv2 rfl dL_law_406 ?_
        refine gc_aload_n (pc' := 408) hC rfl dL_law_407 rfl ?_
        refine gc_iload (pc' := 410) hC rfl dL_law_408 rfl ?_
        refine gc_iconst (v := (3 : Int32)) (pc' := 411) hC rfl dL_law_410 (by decide) ?_
        refine gc_iadd (pc' := 412) hC rfl dL_law_411 ?_
        refine gc_sld (pc' := 413) hC hX hbl hbA hv3 rfl dL_law_412 ?_
        refine gc_aload_n (pc' := 414) hC rfl dL_law_413 rfl ?_
        refine gc_iload (pc' := 416) hC rfl dL_law_414 rfl ?_
        refine gc_iconst (v := (4 : Int32)) (pc' := 417) hC rfl dL_law_416 (by decide) ?_
        refine gc_iadd (pc' := 418) hC rfl dL_law_417 ?_
        refine gc_sld (pc' := 419) hC hX hbl hbA hv4 rfl dL_law_418 ?_
        refine gl_callI (R := room_1) (w1 := wX cI cZ cR a S1) (w := wM cI cZ b) (w3 := [(o, .inl (cL, 1, .inr (.inl f)))]) (S := T) (As := [.int (xs ((nI (5 * j)) + (1 : Int32)).toNatClampNeg), .int (xs ((nI (5 * j)) + (2 : Int32)).toNatClampNeg), .int (xs ((nI (5 * j)) + (3 : Int32)).toNatClampNeg), .int (xs ((nI (5 * j)) + (4 : Int32)).toNatClampNeg)]) (rest := [.int r1]) (cells := (55 + j)) (slots := (15180 + 6 * j)) (pc' := 422) hC3 (c_X9_begin cI cZ cR b (xs ((nI (5 * j)) + (1 : Int32)).toNatClampNeg) (xs ((nI (5 * j)) + (2 : Int32)).toNatClampNeg) (xs ((nI (5 * j)) + (3 : Int32)).toNatClampNeg) (xs ((nI (5 * j)) + (4 : Int32)).toNatClampNeg) T) hm1 0 (atM0 cI cZ b T) rfl kw_L_69 hyL_X9_begin ⟨rfl, rfl⟩ (by decide) rfl rfl (Nat.le_of_ble_eq_true rfl) (hroom0) rfl dL_law_419 ?_
        refine gc_icmp_eq (pc' := 425) hC 571 rfl dL_law_422 (by decide) (fun _ => ?_) (fun hne => absurd rfl hne)
        refine gc_iinc (v := (nI (5 * (j + 1)))) (pc' := 574) hC [(4, .int (nI (5 * (j + 1)))), (0, .ref sc), (1, .ref (a 0)), (2, .ref (b 0)), (3, .ref o)] rfl dL_law_571 rfl (he5) (by decide) rfl ?_
        refine gc_goto hC 23 dL_law_574 (by decide) ?_
        refine gc_sub [(0, .ref sc), (1, .ref (a 0)), (2, .ref (b 0)), (3, .ref o), (4, .int (nI (5 * (j + 1))))] [1, 2, 3, 4, 0] rfl ?_
        refine gc_widen (55 + (j + 1)) (15180 + 6 * (j + 1)) (by omega) (by omega) ?_
        exact ih (j + 1) (by omega) S1 T1 f hR1
      by_cases c8 : sw = (8 : Int32)
      · refine gc_case (v := (8 : Int32)) (off := 388) hC 427 c8 dL_law_39 (by decide) ?_
        refine gc_aload_n (pc' := 428) hC rfl dL_law_427 rfl ?_
        refine gc_aload_n (pc' := 429) hC rfl dL_law_428 rfl ?_
        obtain ⟨r1, S1, r9, T1, hx1, hm1, ht1, heq, hcd, hR1⟩ := h8 S T hR
        refine gl_callL (R := room_1) (S := S) (T := T) (f := f) (As := [.ref (a 0), .ref o]) (rest := []) (cells := (55 + j)) (slots := (15180 + 6 * j)) (pc' := 432) hC hE (fun sz => c_L_step cI cZ cR cL a b o hlT S T f (r1, S1) hx1 hcd sz) kw_L_70 ⟨by decide, by decide, (show (parseMethodDescriptor yL_step.desc).map (fun d => d.parameters.length) = some 2 by decide +kernel)⟩ ⟨rfl, rfl⟩ ⟨by decide, by decide⟩ rfl rfl (Nat.le_of_ble_eq_true rfl) hroom1 rfl dL_law_429 (fun u hu => ?_)
        refine gc_istore (pc' := 434) hC [(5, .int (S1 40 0)), (0, .ref sc), (1, .ref (a 0)), (2, .ref (b 0)), (3, .ref o), (4, .int (nI (5 * j)))] rfl dL_law_432 (by decide) rfl ?_
        refine gc_aload_n (pc' := 435) hC rfl dL_law_434 rfl ?_
        refine gl_callI (R := room_1) (w1 := wX cI cZ cR a S1) (w := wM cI cZ b) (w3 := [(o, .inl (cL, 1, .inr (.inl u)))]) (S := T) (As := []) (rest := []) (cells := ((55 + j) + 1)) (slots := ((15180 + 6 * j) + 6)) (pc' := 438) hC3 (c_X9_step cI cZ cR b  T) hm1 0 (atM0 cI cZ b T) rfl kw_L_73 hyL_X9_step ⟨rfl, rfl⟩ (by decide) rfl rfl (Nat.le_of_ble_eq_true rfl) (hroom1) rfl dL_law_435 ?_
        refine gc_istore (pc' := 440) hC [(6, .int r9), (5, .int (S1 40 0)), (0, .ref sc), (1, .ref (a 0)), (2, .ref (b 0)), (3, .ref o), (4, .int (nI (5 * j)))] rfl dL_law_438 (by decide) rfl ?_
        refine gc_aload_n (pc' := 441) hC rfl dL_law_440 rfl ?_
        refine gl_callI (R := room_1) (w1 := wX cI cZ cR a S1) (w := wM cI cZ b) (w3 := [(o, .inl (cL, 1, .inr (.inl u)))]) (S := T1) (As := []) (rest := []) (cells := ((55 + j) + 1)) (slots := ((15180 + 6 * j) + 6)) (pc' := 444) hC3 (c_X9_thrown cI cZ cR b T1) ht1 0 (atM0 cI cZ b T1) rfl kw_L_62 hyL_X9_thrown ⟨rfl, rfl⟩ (by decide) rfl rfl (Nat.le_of_ble_eq_true rfl) (hroom1) rfl dL_law_441 ?_
        refine gc_iload (pc' := 446) hC rfl dL_law_444 rfl ?_
        refine gc_icmp_eq (pc' := 449) hC 451 rfl dL_law_446 (by decide) (fun _ => ?_) (fun hne => absurd rfl hne)
        refine gc_iload (pc' := 453) hC rfl dL_law_451 rfl ?_
        refine gc_if_ne (pc' := 456) hC 468 rfl dL_law_453 (by decide) (fun h0z => ?_) (fun hnz => ?_)
        · refine gc_aload_n (pc' := 457) hC rfl dL_law_456 rfl ?_
          refine gc_iconst (v := (0 : Int32)) (pc' := 458) hC rfl dL_law_457 (by decide) ?_
          refine gc_lald (pc' := 459) hC 54 3 (wL_at cI cZ cR cL a b o S1 T1 u) rfl (by decide) rfl dL_law_458 ?_
          refine gc_iload (pc' := 461) hC rfl dL_law_459 rfl ?_
          refine gc_i2l (pc' := 462) hC rfl dL_law_461 ?_
          refine gc_lcmp (pc' := 463) hC rfl dL_law_462 ?_
          refine gc_if_eq (pc' := 466) hC 468 rfl dL_law_463 (by decide) (fun _ => ?_) (fun hne => absurd (lg_same (by rw [show (0 : Int32).toNatClampNeg = 0 from rfl, hu h0z, heq h0z])) hne)
          refine gc_goto hC 571 dL_law_468 (by decide) ?_
          refine gc_iinc (v := (nI (5 * (j + 1)))) (pc' := 574) hC [(4, .int (nI (5 * (j + 1)))), (6, .int r9), (5, .int (S1 40 0)), (0, .ref sc), (1, .ref (a 0)), (2, .ref (b 0)), (3, .ref o)] rfl dL_law_571 rfl (he5) (by decide) rfl ?_
          refine gc_goto hC 23 dL_law_574 (by decide) ?_
          refine gc_sub [(0, .ref sc), (1, .ref (a 0)), (2, .ref (b 0)), (3, .ref o), (4, .int (nI (5 * (j + 1))))] [3, 4, 5, 6, 0] rfl ?_
          refine gc_widen (55 + (j + 1)) (15180 + 6 * (j + 1)) (by omega) (by omega) ?_
          exact ih (j + 1) (by omega) S1 T1 u hR1
        · refine gc_goto hC 571 dL_law_468 (by decide) ?_
          refine gc_iinc (v := (nI (5 * (j + 1)))) (pc' := 574) hC [(4, .int (nI (5 * (j + 1)))), (6, .int r9), (5, .int (S1 40 0)), (0, .ref sc), (1, .ref (a 0)), (2, .ref (b 0)), (3, .ref o)] rfl dL_law_571 rfl (he5) (by decide) rfl ?_
          refine gc_goto hC 23 dL_law_574 (by decide) ?_
          refine gc_sub [(0, .ref sc), (1, .ref (a 0)), (2, .ref (b 0)), (3, .ref o), (4, .int (nI (5 * (j + 1))))] [3, 4, 5, 6, 0] rfl ?_
          refine gc_widen (55 + (j + 1)) (15180 + 6 * (j + 1)) (by omega) (by omega) ?_
          exact ih (j + 1) (by omega) S1 T1 u hR1
      by_cases c9 : sw = (9 : Int32)
      · refine gc_case (v := (9 : Int32)) (off := 432) hC 471 c9 dL_law_39 (by decide) ?_
        refine gc_aload_n (pc' := 472) hC rfl dL_law_471 rfl ?_
        refine gc_aload_n (pc' := 473) hC rfl dL_law_472 rfl ?_
        refine gc_iload (pc' := 475) hC rfl dL_law_473 rfl ?_
        refine gc_iconst (v := (1 : Int32)) (pc' := 476) hC rfl dL_law_475 (by decide) ?_
        refine gc_iadd (pc' := 477) hC rfl dL_law_476 ?_
        refine gc_sld (pc' := 478) hC hX hbl hbA hv1 rfl dL_law_477 ?_
        obtain ⟨r1, S1, T1, hx1, hm1, hR1⟩ := h9 S T (xs ((nI (5 * j)) + (1 : Int32)).toNatClampNeg) hR
        refine gl_callI (R := room_1) (w1 := []) (w := wX cI cZ cR a) (w3 := wM cI cZ b T ++ [(o, .inl (cL, 1, .inr (.inl f)))]) (S := S) (As := [.int (xs ((nI (5 * j)) + (1 : Int32)).toNatClampNeg)]) (rest := []) (cells := (55 + j)) (slots := (15180 + 6 * j)) (pc' := 481) hC3 (c_X8_machine cI cZ cR a (xs ((nI (5 * j)) + (1 : Int32)).toNatClampNeg) S) hx1 0 (atX0 cI cZ cR a S) rfl kw_L_74 hyL_X8_machine ⟨rfl, rfl⟩ (by decide) rfl rfl (Nat.le_of_ble_eq_true rfl) (hroom0) rfl dL_law_478 ?_
        refine gc_aload_n (pc' := 482) hC rfl dL_law_481 rfl ?_
        refine gc_aload_n (pc' := 483) hC rfl dL_law_482 rfl ?_
        refine gc_iload (pc' := 485) hC rfl dL_law_483 rfl ?_
        refine gc_iconst (v := (1 : Int32)) (pc' := 486) hC rfl dL_law_485 (by decide) ?_
        refine gc_iadd (pc' := 487) hC rfl dL_law_486 ?_
        refine gc_sld (pc' := 488) hC hX hbl hbA hv1 rfl dL_law_487 ?_
        refine gl_callI (R := room_1) (w1 := wX cI cZ cR a S1) (w := wM cI cZ b) (w3 := [(o, .inl (cL, 1, .inr (.inl f)))]) (S := T) (As := [.int (xs ((nI (5 * j)) + (1 : Int32)).toNatClampNeg)]) (rest := [.int r1]) (cells := (55 + j)) (slots := (15180 + 6 * j)) (pc' := 491) hC3 (c_X9_machine cI cZ cR b (xs ((nI (5 * j)) + (1 : Int32)).toNatClampNeg) T) hm1 0 (atM0 cI cZ b T) rfl kw_L_77 hyL_X9_machine ⟨rfl, rfl⟩ (by decide) rfl rfl (Nat.le_of_ble_eq_true rfl) (hroom0) rfl dL_law_488 ?_
        refine gc_icmp_eq (pc' := 494) hC 571 rfl dL_law_491 (by decide) (fun _ => ?_) (fun hne => absurd rfl hne)
        refine gc_iinc (v := (nI (5 * (j + 1)))) (pc' := 574) hC [(4, .int (nI (5 * (j + 1)))), (0, .ref sc), (1, .ref (a 0)), (2, .ref (b 0)), (3, .ref o)] rfl dL_law_571 rfl (he5) (by decide) rfl ?_
        refine gc_goto hC 23 dL_law_574 (by decide) ?_
        refine gc_sub [(0, .ref sc), (1, .ref (a 0)), (2, .ref (b 0)), (3, .ref o), (4, .int (nI (5 * (j + 1))))] [1, 2, 3, 4, 0] rfl ?_
        refine gc_widen (55 + (j + 1)) (15180 + 6 * (j + 1)) (by omega) (by omega) ?_
        exact ih (j + 1) (by omega) S1 T1 f hR1
      by_cases c10 : sw = (10 : Int32)
      · refine gc_case (v := (10 : Int32)) (off := 457) hC 496 c10 dL_law_39 (by decide) ?_
        refine gc_aload_n (pc' := 497) hC rfl dL_law_496 rfl ?_
        refine gc_aload_n (pc' := 498) hC rfl dL_law_497 rfl ?_
        refine gc_iload (pc' := 500) hC rfl dL_law_498 rfl ?_
        refine gc_iconst (v := (1 : Int32)) (pc' := 501) hC rfl dL_law_500 (by decide) ?_
        refine gc_iadd (pc' := 502) hC rfl dL_law_501 ?_
        refine gc_sld (pc' := 503) hC hX hbl hbA hv1 rfl dL_law_502 ?_
        obtain ⟨r1, S1, T1, hx1, hm1, hR1⟩ := h10 S T (xs ((nI (5 * j)) + (1 : Int32)).toNatClampNeg) hR
        refine gl_callI (R := room_1) (w1 := []) (w := wX cI cZ cR a) (w3 := wM cI cZ b T ++ [(o, .inl (cL, 1, .inr (.inl f)))]) (S := S) (As := [.int (xs ((nI (5 * j)) + (1 : Int32)).toNatClampNeg)]) (rest := []) (cells := (55 + j)) (slots := (15180 + 6 * j)) (pc' := 506) hC3 (c_X8_call cI cZ cR a (xs ((nI (5 * j)) + (1 : Int32)).toNatClampNeg) S) hx1 0 (atX0 cI cZ cR a S) rfl kw_L_78 hyL_X8_call ⟨rfl, rfl⟩ (by decide) rfl rfl (Nat.le_of_ble_eq_true rfl) (hroom0) rfl dL_law_503 ?_
        refine gc_aload_n (pc' := 507) hC rfl dL_law_506 rfl ?_
        refine gc_aload_n (pc' := 508) hC rfl dL_law_507 rfl ?_
        refine gc_iload (pc' := 510) hC rfl dL_law_508 rfl ?_
        refine gc_iconst (v := (1 : Int32)) (pc' := 511) hC rfl dL_law_510 (by decide) ?_
        refine gc_iadd (pc' := 512) hC rfl dL_law_511 ?_
        refine gc_sld (pc' := 513) hC hX hbl hbA hv1 rfl dL_law_512 ?_
        refine gl_callI (R := room_1) (w1 := wX cI cZ cR a S1) (w := wM cI cZ b) (w3 := [(o, .inl (cL, 1, .inr (.inl f)))]) (S := T) (As := [.int (xs ((nI (5 * j)) + (1 : Int32)).toNatClampNeg)]) (rest := [.int r1]) (cells := (55 + j)) (slots := (15180 + 6 * j)) (pc' := 516) hC3 (c_X9_call cI cZ cR b (xs ((nI (5 * j)) + (1 : Int32)).toNatClampNeg) T) hm1 0 (atM0 cI cZ b T) rfl kw_L_81 hyL_X9_call ⟨rfl, rfl⟩ (by decide) rfl rfl (Nat.le_of_ble_eq_true rfl) (hroom0) rfl dL_law_513 ?_
        refine gc_icmp_eq (pc' := 519) hC 571 rfl dL_law_516 (by decide) (fun _ => ?_) (fun hne => absurd rfl hne)
        refine gc_iinc (v := (nI (5 * (j + 1)))) (pc' := 574) hC [(4, .int (nI (5 * (j + 1)))), (0, .ref sc), (1, .ref (a 0)), (2, .ref (b 0)), (3, .ref o)] rfl dL_law_571 rfl (he5) (by decide) rfl ?_
        refine gc_goto hC 23 dL_law_574 (by decide) ?_
        refine gc_sub [(0, .ref sc), (1, .ref (a 0)), (2, .ref (b 0)), (3, .ref o), (4, .int (nI (5 * (j + 1))))] [1, 2, 3, 4, 0] rfl ?_
        refine gc_widen (55 + (j + 1)) (15180 + 6 * (j + 1)) (by omega) (by omega) ?_
        exact ih (j + 1) (by omega) S1 T1 f hR1
      by_cases c11 : sw = (11 : Int32)
      · refine gc_case (v := (11 : Int32)) (off := 482) hC 521 c11 dL_law_39 (by decide) ?_
        refine gc_aload_n (pc' := 522) hC rfl dL_law_521 rfl ?_
        obtain ⟨r1, S1, T1, hx1, hm1, hR1⟩ := h11 S T hR
        refine gl_callI (R := room_1) (w1 := []) (w := wX cI cZ cR a) (w3 := wM cI cZ b T ++ [(o, .inl (cL, 1, .inr (.inl f)))]) (S := S) (As := []) (rest := []) (cells := (55 + j)) (slots := (15180 + 6 * j)) (pc' := 525) hC3 (c_X8_unwind cI cZ cR a  S) hx1 0 (atX0 cI cZ cR a S) rfl kw_L_82 hyL_X8_unwind ⟨rfl, rfl⟩ (by decide) rfl rfl (Nat.le_of_ble_eq_true rfl) (hroom0) rfl dL_law_522 ?_
        refine gc_aload_n (pc' := 526) hC rfl dL_law_525 rfl ?_
        refine gl_callI (R := room_1) (w1 := wX cI cZ cR a S1) (w := wM cI cZ b) (w3 := [(o, .inl (cL, 1, .inr (.inl f)))]) (S := T) (As := []) (rest := [.int r1]) (cells := (55 + j)) (slots := (15180 + 6 * j)) (pc' := 529) hC3 (c_X9_unwind cI cZ cR b  T) hm1 0 (atM0 cI cZ b T) rfl kw_L_85 hyL_X9_unwind ⟨rfl, rfl⟩ (by decide) rfl rfl (Nat.le_of_ble_eq_true rfl) (hroom0) rfl dL_law_526 ?_
        refine gc_icmp_eq (pc' := 532) hC 571 rfl dL_law_529 (by decide) (fun _ => ?_) (fun hne => absurd rfl hne)
        refine gc_iinc (v := (nI (5 * (j + 1)))) (pc' := 574) hC [(4, .int (nI (5 * (j + 1)))), (0, .ref sc), (1, .ref (a 0)), (2, .ref (b 0)), (3, .ref o)] rfl dL_law_571 rfl (he5) (by decide) rfl ?_
        refine gc_goto hC 23 dL_law_574 (by decide) ?_
        refine gc_sub [(0, .ref sc), (1, .ref (a 0)), (2, .ref (b 0)), (3, .ref o), (4, .int (nI (5 * (j + 1))))] [1, 2, 3, 4, 0] rfl ?_
        refine gc_widen (55 + (j + 1)) (15180 + 6 * (j + 1)) (by omega) (by omega) ?_
        exact ih (j + 1) (by omega) S1 T1 f hR1
      by_cases c12 : sw = (12 : Int32)
      · refine gc_case (v := (12 : Int32)) (off := 495) hC 534 c12 dL_law_39 (by decide) ?_
        refine gc_aload_n (pc' := 535) hC rfl dL_law_534 rfl ?_
        refine gc_aload_n (pc' := 536) hC rfl dL_law_535 rfl ?_
        refine gc_iload (pc' := 538) hC rfl dL_law_536 rfl ?_
        refine gc_iconst (v := (1 : Int32)) (pc' := 539) hC rfl dL_law_538 (by decide) ?_
        refine gc_iadd (pc' := 540) hC rfl dL_law_539 ?_
        refine gc_sld (pc' := 541) hC hX hbl hbA hv1 rfl dL_law_540 ?_
        refine gc_aload_n (pc' := 542) hC rfl dL_law_541 rfl ?_
        refine gc_iload (pc' := 544) hC rfl dL_law_542 rfl ?_
        refine gc_iconst (v := (2 : Int32)) (pc' := 545) hC rfl dL_law_544 (by decide) ?_
        refine gc_iadd (pc' := 546) hC rfl dL_law_545 ?_
        refine gc_sld (pc' := 547) hC hX hbl hbA hv2 rfl dL_law_546 ?_
        obtain ⟨r1, S1, T1, hx1, hm1, hR1⟩ := h12 S T (xs ((nI (5 * j)) + (1 : Int32)).toNatClampNeg) (xs ((nI (5 * j)) + (2 : Int32)).toNatClampNeg) hR
        refine gl_callI (R := room_1) (w1 := []) (w := wX cI cZ cR a) (w3 := wM cI cZ b T ++ [(o, .inl (cL, 1, .inr (.inl f)))]) (S := S) (As := [.int (xs ((nI (5 * j)) + (1 : Int32)).toNatClampNeg), .int (xs ((nI (5 * j)) + (2 : Int32)).toNatClampNeg)]) (rest := []) (cells := (55 + j)) (slots := (15180 + 6 * j)) (pc' := 550) hC3 (c_X8_frame cI cZ cR a (xs ((nI (5 * j)) + (1 : Int32)).toNatClampNeg) (xs ((nI (5 * j)) + (2 : Int32)).toNatClampNeg) S) hx1 0 (atX0 cI cZ cR a S) rfl kw_L_86 hyL_X8_frame ⟨rfl, rfl⟩ (by decide) rfl rfl (Nat.le_of_ble_eq_true rfl) (hroom0) rfl dL_law_547 ?_
        refine gc_aload_n (pc' := 551) hC rfl dL_law_550 rfl ?_
        refine gc_aload_n (pc' := 552) hC rfl dL_law_551 rfl ?_
        refine gc_iload (pc' := 554) hC rfl dL_law_552 rfl ?_
        refine gc_iconst (v := (1 : Int32)) (pc' := 555) hC rfl dL_law_554 (by decide) ?_
        refine gc_iadd (pc' := 556) hC rfl dL_law_555 ?_
        refine gc_sld (pc' := 557) hC hX hbl hbA hv1 rfl dL_law_556 ?_
        refine gc_aload_n (pc' := 558) hC rfl dL_law_557 rfl ?_
        refine gc_iload (pc' := 560) hC rfl dL_law_558 rfl ?_
        refine gc_iconst (v := (2 : Int32)) (pc' := 561) hC rfl dL_law_560 (by decide) ?_
        refine gc_iadd (pc' := 562) hC rfl dL_law_561 ?_
        refine gc_sld (pc' := 563) hC hX hbl hbA hv2 rfl dL_law_562 ?_
        refine gl_callI (R := room_1) (w1 := wX cI cZ cR a S1) (w := wM cI cZ b) (w3 := [(o, .inl (cL, 1, .inr (.inl f)))]) (S := T) (As := [.int (xs ((nI (5 * j)) + (1 : Int32)).toNatClampNeg), .int (xs ((nI (5 * j)) + (2 : Int32)).toNatClampNeg)]) (rest := [.int r1]) (cells := (55 + j)) (slots := (15180 + 6 * j)) (pc' := 566) hC3 (c_X9_frame cI cZ cR b (xs ((nI (5 * j)) + (1 : Int32)).toNatClampNeg) (xs ((nI (5 * j)) + (2 : Int32)).toNatClampNeg) T) hm1 0 (atM0 cI cZ b T) rfl kw_L_89 hyL_X9_frame ⟨rfl, rfl⟩ (by decide) rfl rfl (Nat.le_of_ble_eq_true rfl) (hroom0) rfl dL_law_563 ?_
        refine gc_icmp_eq (pc' := 569) hC 571 rfl dL_law_566 (by decide) (fun _ => ?_) (fun hne => absurd rfl hne)
        refine gc_iinc (v := (nI (5 * (j + 1)))) (pc' := 574) hC [(4, .int (nI (5 * (j + 1)))), (0, .ref sc), (1, .ref (a 0)), (2, .ref (b 0)), (3, .ref o)] rfl dL_law_571 rfl (he5) (by decide) rfl ?_
        refine gc_goto hC 23 dL_law_574 (by decide) ?_
        refine gc_sub [(0, .ref sc), (1, .ref (a 0)), (2, .ref (b 0)), (3, .ref o), (4, .int (nI (5 * (j + 1))))] [1, 2, 3, 4, 0] rfl ?_
        refine gc_widen (55 + (j + 1)) (15180 + 6 * (j + 1)) (by omega) (by omega) ?_
        exact ih (j + 1) (by omega) S1 T1 f hR1
      refine gc_dflt hC 571 dL_law_39 (by have := lv_neT c0 (show ((0 : Int32)).toInt = 0 by decide); have := lv_neT c1 (show ((1 : Int32)).toInt = 1 by decide); have := lv_neT c2 (show ((2 : Int32)).toInt = 2 by decide); have := lv_neT c3 (show ((3 : Int32)).toInt = 3 by decide); have := lv_neT c4 (show ((4 : Int32)).toInt = 4 by decide); have := lv_neT c5 (show ((5 : Int32)).toInt = 5 by decide); have := lv_neT c6 (show ((6 : Int32)).toInt = 6 by decide); have := lv_neT c7 (show ((7 : Int32)).toInt = 7 by decide); have := lv_neT c8 (show ((8 : Int32)).toInt = 8 by decide); have := lv_neT c9 (show ((9 : Int32)).toInt = 9 by decide); have := lv_neT c10 (show ((10 : Int32)).toInt = 10 by decide); have := lv_neT c11 (show ((11 : Int32)).toInt = 11 by decide); have := lv_neT c12 (show ((12 : Int32)).toInt = 12 by decide); omega) (by decide) ?_
      refine gc_iinc (v := (nI (5 * (j + 1)))) (pc' := 574) hC [(4, .int (nI (5 * (j + 1)))), (0, .ref sc), (1, .ref (a 0)), (2, .ref (b 0)), (3, .ref o)] rfl dL_law_571 rfl (he5) (by decide) rfl ?_
      refine gc_goto hC 23 dL_law_574 (by decide) ?_
      refine gc_sub [(0, .ref sc), (1, .ref (a 0)), (2, .ref (b 0)), (3, .ref o), (4, .int (nI (5 * (j + 1))))] [1, 2, 3, 4, 0] rfl ?_
      refine gc_widen (55 + (j + 1)) (15180 + 6 * (j + 1)) (by omega) (by omega) ?_
      exact ih (j + 1) (by omega) S T f hR
