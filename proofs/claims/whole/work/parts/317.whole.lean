theorem gc_cell {p : Program} {l : Launch} {e : Env} {R : Room} {s : State} {m : MethodId} {args : Array Value} {below : List Frame} {meth : Method} {c : Code} {nL : Nat} {D : va_G} {A : Nat → Prop} {Q : State → Prop} {pc : Nat} {L : List (Nat × Value)} {stk : List Value} {ws : va_W} {cells slots : Nat} (k q : Nat) (e0 e1 : va_E) (hk : ws[k]? = some (q, e0)) (he : ∀ H : Heap, va_at D vwCl (q, e0) H → va_at D vwCl (q, e1) H) (ws' : va_W) (hset : ws.set k (q, e1) = ws') (kk : GC p l e R s m args below meth c nL D A Q pc L stk ws' cells slots) : GC p l e R s m args below meth c nL D A Q pc L stk ws cells slots := fun H locs ls hP hD hS hl =>
  kk H locs ls (hset ▸ hP.set hD hk (he H (hP k _ hk)) (fun _ _ => rfl)) (hset ▸ hD.set hk) hS hl
theorem pile_same (cR : ClassId) (f g : Nat → Option Nat) (h0 : f 0 = g 0) (h1 : f 1 = g 1) (h2 : f 2 = g 2) (h3 : f 3 = g 3) : vp_cell cR (4, .inr (.inr (.inr (.inr f)))) = vp_cell cR (4, .inr (.inr (.inr (.inr g)))) := by
  rw [vp_cell_q, vp_cell_q]
  unfold arrV
  congr 2
  funext j
  match j with
  | ⟨0, _⟩ => show va_rf (f 0) = va_rf (g 0); rw [h0]
  | ⟨1, _⟩ => show va_rf (f 1) = va_rf (g 1); rw [h1]
  | ⟨2, _⟩ => show va_rf (f 2) = va_rf (g 2); rw [h2]
  | ⟨3, _⟩ => show va_rf (f 3) = va_rf (g 3); rw [h3]
theorem nest_tbl : ∀ w ∈ nestAll, w ∈ lw_tbl := by
  intro w hw
  simp only [nestAll, List.mem_cons, List.not_mem_nil, or_false] at hw
  rcases hw with rfl | rfl | rfl | rfl | rfl | rfl | rfl | rfl | rfl | rfl | rfl | rfl | rfl | rfl | rfl | rfl | rfl | rfl | rfl | rfl | rfl | rfl | rfl | rfl | rfl | rfl | rfl | rfl
  · exact (List.mem_of_getElem? (i := 100) (by decide +kernel))
  · exact (List.mem_of_getElem? (i := 101) (by decide +kernel))
  · exact (List.mem_of_getElem? (i := 103) (by decide +kernel))
  · exact (List.mem_of_getElem? (i := 105) (by decide +kernel))
  · exact (List.mem_of_getElem? (i := 106) (by decide +kernel))
  · exact (List.mem_of_getElem? (i := 107) (by decide +kernel))
  · exact (List.mem_of_getElem? (i := 129) (by decide +kernel))
  · exact (List.mem_of_getElem? (i := 130) (by decide +kernel))
  · exact (List.mem_of_getElem? (i := 149) (by decide +kernel))
  · exact (List.mem_of_getElem? (i := 150) (by decide +kernel))
  · exact (List.mem_of_getElem? (i := 151) (by decide +kernel))
  · exact (List.mem_of_getElem? (i := 152) (by decide +kernel))
  · exact (List.mem_of_getElem? (i := 154) (by decide +kernel))
  · exact (List.mem_of_getElem? (i := 155) (by decide +kernel))
  · exact (List.mem_of_getElem? (i := 156) (by decide +kernel))
  · exact (List.mem_of_getElem? (i := 157) (by decide +kernel))
  · exact (List.mem_of_getElem? (i := 159) (by decide +kernel))
  · exact (List.mem_of_getElem? (i := 160) (by decide +kernel))
  · exact (List.mem_of_getElem? (i := 161) (by decide +kernel))
  · exact (List.mem_of_getElem? (i := 162) (by decide +kernel))
  · exact (List.mem_of_getElem? (i := 232) (by decide +kernel))
  · exact (List.mem_of_getElem? (i := 233) (by decide +kernel))
  · exact (List.mem_of_getElem? (i := 265) (by decide +kernel))
  · exact (List.mem_of_getElem? (i := 268) (by decide +kernel))
  · exact (List.mem_of_getElem? (i := 94) (by decide +kernel))
  · exact (List.mem_of_getElem? (i := 123) (by decide +kernel))
  · exact (List.mem_of_getElem? (i := 144) (by decide +kernel))
  · exact (List.mem_of_getElem? (i := 228) (by decide +kernel))
theorem ex_tbl : ∀ w ∈ exW, w ∈ lw_tbl := by
  intro w hw
  simp only [exW, List.mem_cons, List.not_mem_nil, or_false] at hw
  rcases hw with rfl | rfl | rfl | rfl | rfl | rfl
  · exact (List.mem_of_getElem? (i := 649) (by decide +kernel))
  · exact (List.mem_of_getElem? (i := 764) (by decide +kernel))
  · exact (List.mem_of_getElem? (i := 779) (by decide +kernel))
  · exact (List.mem_of_getElem? (i := 650) (by decide +kernel))
  · exact (List.mem_of_getElem? (i := 652) (by decide +kernel))
  · exact (List.mem_of_getElem? (i := 654) (by decide +kernel))
theorem szs_el {args : Array Value} {s : State} (hg : (Jvm.Cond.and given_1 narrow_1).before args s = true) : ∀ j : Nat, j < 16 → (Term.elem (Term.static "ChainUnwinder$Program" "SIZES" "[I") (.int (Int32.ofNat j))).eval args s none [] s = some (.int (szs j)) := by
  intro j hj
  have hs := flat_of_before _ hg
  match j, hj with
  | 0, _ => exact va_eqt (hs (Cond.eq (Term.elem (Term.static "ChainUnwinder$Program" "SIZES" "[I") (.int 0)) (.int 1)) (by decide +kernel))
  | 1, _ => exact va_eqt (hs (Cond.eq (Term.elem (Term.static "ChainUnwinder$Program" "SIZES" "[I") (.int 1)) (.int 2)) (by decide +kernel))
  | 2, _ => exact va_eqt (hs (Cond.eq (Term.elem (Term.static "ChainUnwinder$Program" "SIZES" "[I") (.int 2)) (.int 2)) (by decide +kernel))
  | 3, _ => exact va_eqt (hs (Cond.eq (Term.elem (Term.static "ChainUnwinder$Program" "SIZES" "[I") (.int 3)) (.int 2)) (by decide +kernel))
  | 4, _ => exact va_eqt (hs (Cond.eq (Term.elem (Term.static "ChainUnwinder$Program" "SIZES" "[I") (.int 4)) (.int 2)) (by decide +kernel))
  | 5, _ => exact va_eqt (hs (Cond.eq (Term.elem (Term.static "ChainUnwinder$Program" "SIZES" "[I") (.int 5)) (.int 1)) (by decide +kernel))
  | 6, _ => exact va_eqt (hs (Cond.eq (Term.elem (Term.static "ChainUnwinder$Program" "SIZES" "[I") (.int 6)) (.int 1)) (by decide +kernel))
  | 7, _ => exact va_eqt (hs (Cond.eq (Term.elem (Term.static "ChainUnwinder$Program" "SIZES" "[I") (.int 7)) (.int 2)) (by decide +kernel))
  | 8, _ => exact va_eqt (hs (Cond.eq (Term.elem (Term.static "ChainUnwinder$Program" "SIZES" "[I") (.int 8)) (.int 1)) (by decide +kernel))
  | 9, _ => exact va_eqt (hs (Cond.eq (Term.elem (Term.static "ChainUnwinder$Program" "SIZES" "[I") (.int 9)) (.int 2)) (by decide +kernel))
  | 10, _ => exact va_eqt (hs (Cond.eq (Term.elem (Term.static "ChainUnwinder$Program" "SIZES" "[I") (.int 10)) (.int 2)) (by decide +kernel))
  | 11, _ => exact va_eqt (hs (Cond.eq (Term.elem (Term.static "ChainUnwinder$Program" "SIZES" "[I") (.int 11)) (.int 3)) (by decide +kernel))
  | 12, _ => exact va_eqt (hs (Cond.eq (Term.elem (Term.static "ChainUnwinder$Program" "SIZES" "[I") (.int 12)) (.int 2)) (by decide +kernel))
  | 13, _ => exact va_eqt (hs (Cond.eq (Term.elem (Term.static "ChainUnwinder$Program" "SIZES" "[I") (.int 13)) (.int 1)) (by decide +kernel))
  | 14, _ => exact va_eqt (hs (Cond.eq (Term.elem (Term.static "ChainUnwinder$Program" "SIZES" "[I") (.int 14)) (.int 3)) (by decide +kernel))
  | 15, _ => exact va_eqt (hs (Cond.eq (Term.elem (Term.static "ChainUnwinder$Program" "SIZES" "[I") (.int 15)) (.int 3)) (by decide +kernel))
  | j + 16, hj => exact absurd hj (by omega)
set_option maxHeartbeats 8000000 in
set_option maxRecDepth 100000 in
theorem whole_open {p : Program} {e : Env} {s : State} {m : MethodId} {below : List Frame} {meth : Method} {c : Code} (l : Launch) (hlT : l.stackTraces = false) {sc N : Nat} {xs : Nat → Int32} (hL : N ≤ 2560) (C0 : lw_At p s m meth c sc N xs) (Rel : St → St → Prop)
    (h0 : ∀ (S T : St) (z0 : Int64) (z1 : Int32), Rel S T → ∃ (r1 : Int32) (S1 T1 : St), m_X8_code z0 z1 S = some (r1, S1) ∧ m_X9_code z0 z1 T = some (r1, T1) ∧ Rel S1 T1)
    (h1 : ∀ (S T : St) (z0 : Int32) (z1 : Int32), Rel S T → ∃ (r1 : Int32) (S1 T1 : St), m_X8_function z0 z1 S = some (r1, S1) ∧ m_X9_function z0 z1 T = some (r1, T1) ∧ Rel S1 T1)
    (h2 : ∀ (S T : St), Rel S T → ∃ (r1 : Int32) (S1 T1 : St), m_X8_clear  S = some (r1, S1) ∧ m_X9_clear  T = some (r1, T1) ∧ Rel S1 T1)
    (h3 : ∀ (S T : St), Rel S T → ∃ (r1 : Int32) (S1 T1 : St), m_X8_pack  S = some (r1, S1) ∧ m_X9_pack  T = some (r1, T1) ∧ Rel S1 T1)
    (h4 : ∀ (S T : St) (z0 : Int32), Rel S T → ∃ (r1 : Int32) (S1 T1 : St), m_X8_section z0 S = some (r1, S1) ∧ m_X9_section z0 T = some (r1, T1) ∧ Rel S1 T1)
    (h5 : ∀ (S T : St) (z0 : Int32) (z1 : Int32), Rel S T → ∃ (r1 : Int32) (S1 T1 : St), m_X8_poke z0 z1 S = some (r1, S1) ∧ m_X9_poke z0 z1 T = some (r1, T1) ∧ Rel S1 T1)
    (h6 : ∀ (S T : St) (z0 : Int32) (z1 : Int32), Rel S T → ∃ (r1 : Int32) (S1 : St) (r9 : Int32) (T1 : St), m_X8_row z0 z1 S = some (r1, S1) ∧ m_X9_row z0 z1 T = some (r9, T1) ∧ m_X9_thrown T1 = some (S1 40 0, T1) ∧ (S1 40 0 = 0 → r1 = r9) ∧ (S1 40 0 = 0 ∨ S1 40 0 = 1) ∧ Rel S1 T1)
    (h7 : ∀ (S T : St) (z0 : Int32) (z1 : Int32) (z2 : Int32) (z3 : Int32), Rel S T → ∃ (r1 : Int32) (S1 T1 : St), m_X8_begin z0 z1 z2 z3 S = some (r1, S1) ∧ m_X9_begin z0 z1 z2 z3 T = some (r1, T1) ∧ Rel S1 T1)
    (h8 : ∀ (S T : St), Rel S T → ∃ (r1 : Int32) (S1 : St) (r9 : Int32) (T1 : St), m_X8_step  S = some (r1, S1) ∧ m_X9_step  T = some (r9, T1) ∧ m_X9_thrown T1 = some (S1 40 0, T1) ∧ (S1 40 0 = 0 → r1 = r9) ∧ (S1 40 0 = 0 ∨ S1 40 0 = 1 ∨ S1 40 0 = 2) ∧ Rel S1 T1)
    (h9 : ∀ (S T : St) (z0 : Int32), Rel S T → ∃ (r1 : Int32) (S1 T1 : St), m_X8_machine z0 S = some (r1, S1) ∧ m_X9_machine z0 T = some (r1, T1) ∧ Rel S1 T1)
    (h10 : ∀ (S T : St) (z0 : Int32), Rel S T → ∃ (r1 : Int32) (S1 T1 : St), m_X8_call z0 S = some (r1, S1) ∧ m_X9_call z0 T = some (r1, T1) ∧ Rel S1 T1)
    (h11 : ∀ (S T : St), Rel S T → ∃ (r1 : Int32) (S1 T1 : St), m_X8_unwind  S = some (r1, S1) ∧ m_X9_unwind  T = some (r1, T1) ∧ Rel S1 T1)
    (h12 : ∀ (S T : St) (z0 : Int32) (z1 : Int32), Rel S T → ∃ (r1 : Int32) (S1 T1 : St), m_X8_frame z0 z1 S = some (r1, S1) ∧ m_X9_frame z0 z1 T = some (r1, T1) ∧ Rel S1 T1)
    (hinit : Rel (fun _ _ => 0) (fun _ _ => 0)) : W p l e room_1 s m #[Value.ref sc] below meth c s.heap [] 0 0 (lw_Z below #[Value.ref sc] s) (entryFrame m ([Value.ref sc] : List Value).toArray 7) := by
  obtain ⟨hx, hb, hr, hml, hown, hts, hX, hbl, hlocks, hgv⟩ := id C0
  have hs := flat_of_before _ hgv
  have hA0 : ∀ q : Nat, q < s.heap.size → ¬ (fun q : Nat => s.heap.size ≤ q) q := fun q h => Nat.not_le.mpr h
  obtain ⟨c0, i0, hKn0⟩ := u_known (C := RX0) (T := TX0) (N := 4) (n := 4) hts (fun w h => wsAll_tbl w (inw_X0 w h)) (hts (.instantiable RX0 4) (List.mem_of_getElem? (i := 294) (by decide +kernel)))
  obtain ⟨c1, i1, hKn1⟩ := u_known (C := RX1) (T := TX1) (N := 9) (n := 9) hts (fun w h => wsAll_tbl w (inw_X1 w h)) (hts (.instantiable RX1 9) (List.mem_of_getElem? (i := 171) (by decide +kernel)))
  obtain ⟨c2, i2, hKn2⟩ := u_known (C := RX2) (T := TX2) (N := 10) (n := 10) hts (fun w h => wsAll_tbl w (inw_X2 w h)) (hts (.instantiable RX2 10) (List.mem_of_getElem? (i := 255) (by decide +kernel)))
  obtain ⟨c3, i3, hKn3⟩ := u_known (C := RX3) (T := TX3) (N := 5) (n := 5) hts (fun w h => wsAll_tbl w (inw_X3 w h)) (hts (.instantiable RX3 5) (List.mem_of_getElem? (i := 137) (by decide +kernel)))
  obtain ⟨c4, i4, hKn4⟩ := u_known (C := RX4) (T := TX4) (N := 5) (n := 5) hts (fun w h => wsAll_tbl w (inw_X4 w h)) (hts (.instantiable RX4 5) (List.mem_of_getElem? (i := 93) (by decide +kernel)))
  obtain ⟨c5, i5, hKn5⟩ := u_known (C := RX5) (T := TX5) (N := 7) (n := 7) hts (fun w h => wsAll_tbl w (inw_X5 w h)) (hts (.instantiable RX5 7) (List.mem_of_getElem? (i := 222) (by decide +kernel)))
  obtain ⟨c6, i6, hKn6⟩ := u_known (C := RX6) (T := TX6) (N := 3) (n := 3) hts (fun w h => wsAll_tbl w (inw_X6 w h)) (hts (.instantiable RX6 3) (List.mem_of_getElem? (i := 143) (by decide +kernel)))
  obtain ⟨c7, i7, hKn7⟩ := u_known (C := RX7) (T := TX7) (N := 2) (n := 2) hts (fun w h => wsAll_tbl w (inw_X7 w h)) (hts (.instantiable RX7 2) (List.mem_of_getElem? (i := 122) (by decide +kernel)))
  obtain ⟨c8, i8, hKn8⟩ := u_known (C := RX8) (T := TX8) (N := 6) (n := 6) hts (fun w h => wsAll_tbl w (inw_X8 w h)) (hts (.instantiable RX8 6) (List.mem_of_getElem? (i := 85) (by decide +kernel)))
  obtain ⟨c9, i9, hKn9⟩ := u_known (C := RX9) (T := TX9) (N := 29) (n := 29) hts (fun w h => wsAll_tbl w (inw_X9 w h)) (hts (.instantiable RX9 29) (List.mem_of_getElem? (i := 793) (by decide +kernel)))
  obtain ⟨dC, dI, hKc⟩ : ∃ (dC : Nat → ClassId) (dI : Nat → Nat → Nat), ∀ (k : Nat) (q : vw_C), vwCl[k]? = some q → u_Kn s q.1 q.2.1 q.2.2 (dC k) (dI k) := by
    refine ⟨fun k => if k = 0 then c0 else if k = 1 then c1 else if k = 2 then c2 else if k = 3 then c3 else if k = 4 then c4 else if k = 5 then c5 else if k = 6 then c6 else if k = 7 then c7 else if k = 8 then c8 else c9, fun k => if k = 0 then i0 else if k = 1 then i1 else if k = 2 then i2 else if k = 3 then i3 else if k = 4 then i4 else if k = 5 then i5 else if k = 6 then i6 else if k = 7 then i7 else if k = 8 then i8 else i9, ?_⟩
    intro k q hq
    match k, hq with
    | 0, hq => cases hq; exact hKn0
    | 1, hq => cases hq; exact hKn1
    | 2, hq => cases hq; exact hKn2
    | 3, hq => cases hq; exact hKn3
    | 4, hq => cases hq; exact hKn4
    | 5, hq => cases hq; exact hKn5
    | 6, hq => cases hq; exact hKn6
    | 7, hq => cases hq; exact hKn7
    | 8, hq => cases hq; exact hKn8
    | 9, hq => cases hq; exact hKn9
    | k + 10, hq => simp [vwCl] at hq
  obtain ⟨cI, kI, mI, fI, gI, eI⟩ := Cond.arrayClass_spec (hts (.arrayClass .int) (List.mem_of_getElem? (i := 120) (by decide +kernel)))
  obtain ⟨cZ, kZ, mZ, fZ, gZ, eZ⟩ := Cond.arrayClass_spec (hts (.arrayClass .boolean) (List.mem_of_getElem? (i := 204) (by decide +kernel)))
  obtain ⟨cL, kL, mL, fL, gL, eL⟩ := Cond.arrayClass_spec (hts (.arrayClass .long) (List.mem_of_getElem? (i := 1037) (by decide +kernel)))
  have hAO : (Cond.arrayOver (.object RX6)).before #[Value.ref sc] s = true := hts (.arrayOver (.object RX6)) (List.mem_of_getElem? (i := 229) (by decide +kernel))
  obtain ⟨mR, cR, kR, fR0, -, gR, eR, fR⟩ := Cond.arrayOver_spec hAO
  have hK : va_K (dC, dI) vwCl (tyl4 cI cZ cR cL) s := by
    refine ⟨hKc, fun k q hq => ?_⟩
    match k, hq with
    | 0, hq => cases hq; exact ⟨fun n z => ⟨fun k h => (by cases h), kI, gI, mI, eI⟩, fI⟩
    | 1, hq => cases hq; exact ⟨fun n z => ⟨fun k h => (by cases h), kZ, gZ, mZ, eZ⟩, fZ⟩
    | 2, hq => cases hq; exact ⟨fun n z => ⟨fun k h => (by cases h), kR, gR, mR, eR⟩, kR, mR, gR, eR, fR0, fR⟩
    | 3, hq => cases hq; exact ⟨fun n z => ⟨fun k h => (by cases h), kL, gL, mL, eL⟩, fL⟩
    | k + 4, hq => simp [tyl4] at hq
  obtain ⟨tZ, htZ, hTT⟩ := va_Tof (A := fun q : Nat => s.heap.size ≤ q) (N := 16) (f := fun j => .int (szs j)) (by decide) (hs (Cond.arrayOf (Term.static "ChainUnwinder$Program" "SIZES" "[I") .int) (by decide +kernel)) (va_eqt (hs (Cond.eq (.length (Term.static "ChainUnwinder$Program" "SIZES" "[I")) (.int 16)) (by decide +kernel))) (szs_el hgv) hA0
  have hXF : XF tZ (fun q : Nat => s.heap.size ≤ q) s s.heap := ⟨fun w hw => va_Nw.of (nest_tab w hw) (hts w (nest_tbl w hw)), va_Zref (hts (.laysStatic "ChainUnwinder$Program" "SIZES" "[I") (List.mem_of_getElem? (i := 392) (by decide +kernel))) (hts (.initialized RX4) (List.mem_of_getElem? (i := 69) (by decide +kernel))) htZ hA0, hTT, hAO⟩
  have hE : XE (fun q : Nat => s.heap.size ≤ q) s s.heap := ⟨vx_Zqof (hts (.laysStatic Bundle.tN "UNASSIGNED_STACK" Bundle.steD) (List.mem_of_getElem? (i := 674) (by decide +kernel))) (hts (.initialized Bundle.tN) (List.mem_of_getElem? (i := 78) (by decide +kernel))) (hs (Cond.isRef (.static Bundle.tN "UNASSIGNED_STACK" Bundle.steD)) (by decide +kernel)) hA0, vx_Zqof (hts (.laysStatic Bundle.tN "SUPPRESSED_SENTINEL" Bundle.listD) (List.mem_of_getElem? (i := 676) (by decide +kernel))) (hts (.initialized Bundle.tN) (List.mem_of_getElem? (i := 78) (by decide +kernel))) (hs (Cond.isRef (.static Bundle.tN "SUPPRESSED_SENTINEL" Bundle.listD)) (by decide +kernel)) hA0, fun w hw => va_Nw.of (exW_tab w hw) (hts w (ex_tbl w hw)), va_Nc.of (hs (Cond.not (.castable nIO nIS)) (by decide +kernel))⟩
  have hC : CX p s m #[Value.ref sc] meth c cL_law 7 ret RL (dC, dI) (tyl4 cI cZ cR cL) tZ (fun q => s.heap.size ≤ q) := ⟨⟨hx, hb, hml, hown, fun w h => hts w (wsAll_tbl w h)⟩, hK, hr, hlocks, fun q h => h, hXF⟩
  have hC3 := hC.sub (tys' := tyl cI cZ cR) [0, 1, 2] rfl
  have hl := lv_entry [.ref sc] (n := 7) (Nat.le_of_ble_eq_true rfl)
  rw [lg_entry_eq]
  have G : GC p l e room_1 s m #[Value.ref sc] below meth c 7 (dC, dI) (fun q => s.heap.size ≤ q) (lw_Z below #[Value.ref sc] s) 0 (lv_args 0 [.ref sc]) [] [] 0 0 := by
    refine gc_sub [(0, .ref sc)] [0] rfl ?_
    refine gc_new (ci := 8) (fs := [.null, .null, .null, .null, .null, .null]) (pc' := 3) hC inw_X8 tyX8_ok (wa 84 (by decide +kernel) (by decide +kernel)) (wa 85 (by decide +kernel) (by decide +kernel)) (wa 68 (by decide +kernel) (by decide +kernel)) rfl (fun j hj => by rcases (show j = 0 ∨ j = 1 ∨ j = 2 ∨ j = 3 ∨ j = 4 ∨ j = 5 by omega) with rfl | rfl | rfl | rfl | rfl | rfl <;> rfl) 1 6 rfl rfl (Nat.le_of_ble_eq_true rfl) (Nat.le_of_ble_eq_true rfl) rfl dL_law_0 (fun q1 => ?_)
    refine gc_dup (pc' := 4) hC rfl dL_law_3 rfl ?_
    refine gc_ctor (n := 0) (ws := [(q1, .inr (8, [.null, .null, .null, .null, .null, .null]))]) (R := room_1) (cells := 1) (slots := 6) (As := []) (rest := [.ref q1]) (pc' := 7) hC3 (c_X8_init cI cZ cR q1) [] [0] [] rfl rfl (by decide) (gw1 88 (by decide +kernel) (by decide +kernel) wsAll_good) (wa 86 (by decide +kernel) (by decide +kernel)) (wa 87 (by decide +kernel) (by decide +kernel)) (wa 68 (by decide +kernel) (by decide +kernel)) rfl ⟨by decide, by decide, by decide +kernel⟩ ⟨(Nat.le_of_ble_eq_true rfl), (Nat.le_of_ble_eq_true rfl)⟩ rfl rfl (Nat.le_of_ble_eq_true rfl) 37 2147 rfl rfl (Nat.le_of_ble_eq_true rfl) (Nat.le_of_ble_eq_true rfl) rfl dL_law_4 (fun u1 => ?_)
    refine gc_astore_n (pc' := 8) hC [(1, .ref q1), (0, .ref sc)] rfl dL_law_7 (by decide) rfl ?_
    refine gc_new (ci := 9) (fs := [.int 0, .null, .int 0, .int 0, .null, .null, .null, .null, .null, .null, .null, .null, .int 0, .null, .null, .null, .int 0, .int 0, .int 0, .int 0, .int 0, .null, .null, .int 0, .null, .int 0, .null, .int 0, .int 0]) (pc' := 11) hC inw_X9 tyX9_ok (wa 792 (by decide +kernel) (by decide +kernel)) (wa 793 (by decide +kernel) (by decide +kernel)) (wa 77 (by decide +kernel) (by decide +kernel)) rfl (fun j hj => by rcases (show j = 0 ∨ j = 1 ∨ j = 2 ∨ j = 3 ∨ j = 4 ∨ j = 5 ∨ j = 6 ∨ j = 7 ∨ j = 8 ∨ j = 9 ∨ j = 10 ∨ j = 11 ∨ j = 12 ∨ j = 13 ∨ j = 14 ∨ j = 15 ∨ j = 16 ∨ j = 17 ∨ j = 18 ∨ j = 19 ∨ j = 20 ∨ j = 21 ∨ j = 22 ∨ j = 23 ∨ j = 24 ∨ j = 25 ∨ j = 26 ∨ j = 27 ∨ j = 28 by omega) with rfl | rfl | rfl | rfl | rfl | rfl | rfl | rfl | rfl | rfl | rfl | rfl | rfl | rfl | rfl | rfl | rfl | rfl | rfl | rfl | rfl | rfl | rfl | rfl | rfl | rfl | rfl | rfl | rfl <;> rfl) 38 2176 rfl rfl (Nat.le_of_ble_eq_true rfl) (Nat.le_of_ble_eq_true rfl) rfl dL_law_8 (fun q2 => ?_)
    refine gc_dup (pc' := 12) hC rfl dL_law_11 rfl ?_
    refine gc_ctor (n := 0) (ws := wc_X8 cI cZ cR q1 u1 ++ [(q2, .inr (9, [.int 0, .null, .int 0, .int 0, .null, .null, .null, .null, .null, .null, .null, .null, .int 0, .null, .null, .null, .int 0, .int 0, .int 0, .int 0, .int 0, .null, .null, .int 0, .null, .int 0, .null, .int 0, .int 0]))]) (R := room_1) (cells := 38) (slots := 2176) (As := []) (rest := [.ref q2]) (pc' := 15) hC3 (c_X9_init cI cZ cR q2) (wc_X8 cI cZ cR q1 u1) [37] [0, 1, 2, 3, 4, 5, 6, 7, 8, 9, 10, 11, 12, 13, 14, 15, 16, 17, 18, 19, 20, 21, 22, 23, 24, 25, 26, 27, 28, 29, 30, 31, 32, 33, 34, 35, 36] rfl rfl (by decide) (gw1 796 (by decide +kernel) (by decide +kernel) wsAll_good) (wa 794 (by decide +kernel) (by decide +kernel)) (wa 795 (by decide +kernel) (by decide +kernel)) (wa 77 (by decide +kernel) (by decide +kernel)) rfl ⟨by decide, by decide, by decide +kernel⟩ ⟨(Nat.le_of_ble_eq_true rfl), (Nat.le_of_ble_eq_true rfl)⟩ rfl rfl (Nat.le_of_ble_eq_true rfl) 54 15179 rfl rfl (Nat.le_of_ble_eq_true rfl) (Nat.le_of_ble_eq_true rfl) rfl dL_law_12 (fun u2 => ?_)
    refine gc_astore_n (pc' := 16) hC [(2, .ref q2), (1, .ref q1), (0, .ref sc)] rfl dL_law_15 (by decide) rfl ?_
    refine gc_iconst (v := 1) (pc' := 17) hC rfl dL_law_16 (by decide) ?_
    refine gc_newa (N' := 1) (a0 := (1, .inr (.inl (fun _ => 0)))) (pc' := 19) hC 3 rfl (wa 1037 (by decide +kernel) (by decide +kernel)) rfl (fun _ => rfl) (by decide) (by decide) (by decide) 55 15180 rfl rfl (Nat.le_of_ble_eq_true rfl) (Nat.le_of_ble_eq_true rfl) rfl dL_law_17 (fun o => ?_)
    refine gc_astore_n (pc' := 20) hC [(3, .ref o), (2, .ref q2), (1, .ref q1), (0, .ref sc)] rfl dL_law_19 (by decide) rfl ?_
    refine gc_iconst (v := 0) (pc' := 21) hC rfl dL_law_20 (by decide) ?_
    refine gc_istore (pc' := 23) hC [(4, .int 0), (3, .ref o), (2, .ref q2), (1, .ref q1), (0, .ref sc)] rfl dL_law_21 (by decide) rfl ?_
    refine gc_sub [(0, .ref sc), (1, .ref q1), (2, .ref q2), (3, .ref o), (4, .int 0)] [4, 3, 2, 1, 0] rfl ?_
    refine gc_cell 22 (u1 21) _ (.inl (cR, 4, .inr (.inr (.inr (.inr (fun k => some ((fun k => ([q1, (u1 0), (u1 1), (u1 2), (u1 3), (u1 6), (u1 11), (u1 12), (u1 13), (u1 14), (u1 15), (u1 4), (u1 5), (u1 16), (u1 21), (u1 30), (u1 31), (u1 32), (u1 33), (u1 34), (u1 35), (u1 7), (u1 8), (u1 9), (u1 10), (u1 17), (u1 18), (u1 19), (u1 20), (u1 22), (u1 23), (u1 24), (u1 25), (u1 26), (u1 27), (u1 28), (u1 29)] : List Nat).getD k 0) (21 + 2 * (4 + k))))))))) rfl (fun H h => h.trans (congrArg some (pile_same cR _ _ rfl rfl rfl rfl))) _ rfl ?_
    refine gc_perm (wL cI cZ cR cL (fun k => ([q1, (u1 0), (u1 1), (u1 2), (u1 3), (u1 6), (u1 11), (u1 12), (u1 13), (u1 14), (u1 15), (u1 4), (u1 5), (u1 16), (u1 21), (u1 30), (u1 31), (u1 32), (u1 33), (u1 34), (u1 35), (u1 7), (u1 8), (u1 9), (u1 10), (u1 17), (u1 18), (u1 19), (u1 20), (u1 22), (u1 23), (u1 24), (u1 25), (u1 26), (u1 27), (u1 28), (u1 29)] : List Nat).getD k 0) (fun k => ([q2, (u2 0), (u2 1), (u2 2), (u2 3), (u2 4), (u2 5), (u2 6), (u2 7), (u2 8), (u2 9), (u2 10), (u2 11), (u2 12), (u2 13), (u2 14), (u2 15)] : List Nat).getD k 0) o (fun _ _ => 0) (fun _ _ => 0) (fun _ => 0)) [0, 1, 2, 3, 4, 7, 12, 13, 14, 15, 16, 5, 6, 17, 22, 31, 32, 33, 34, 35, 36, 8, 9, 10, 11, 18, 19, 20, 21, 23, 24, 25, 26, 27, 28, 29, 30, 37, 38, 39, 40, 41, 42, 43, 44, 45, 46, 47, 48, 49, 50, 51, 52, 53, 54] (by decide) rfl ?_
    exact law_loop hL hX hbl hlT hC hE Rel h0 h1 h2 h3 h4 h5 h6 h7 h8 h9 h10 h11 h12 (N + 1) 0 (by omega) (by omega) _ _ _ hinit
  exact G s.heap [] _ (fun k q h => by simp at h) ⟨fun i j p q h => by simp at h, fun k q h => by simp at h⟩ va_S.rf hl
