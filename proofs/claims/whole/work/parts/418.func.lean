/-! packing: one function -/
theorem ap.fix {m x y x' y' : Nat} {L : List Nat} {f g h : Nat → Int32} (a : ap m (x :: y :: L) f g) (b : ∀ i, h i = if i = m then nI x' else if i = m + 1 then nI y' else g i) : ap m (x' :: y' :: L) f h := by
  intro i
  rw [b i]
  by_cases h1 : i = m
  · subst h1
    rw [if_pos rfl, if_pos ⟨Nat.le_refl _, by simp⟩, Nat.sub_self]; rfl
  · rw [if_neg h1]
    by_cases h2 : i = m + 1
    · subst h2
      rw [if_pos rfl, if_pos ⟨by omega, by simp⟩, show m + 1 - m = 1 by omega]; rfl
    · rw [if_neg h2, a i]
      simp only [List.length_cons]
      by_cases h3 : m ≤ i ∧ i < m + (L.length + 1 + 1)
      · rw [if_pos h3, if_pos h3]
        obtain ⟨j, hj⟩ : ∃ j, i - m = j + 2 := ⟨i - m - 2, by omega⟩
        rw [hj]; rfl
      · rw [if_neg h3, if_neg h3]
def fst0 (S : St) : St := st (st (st (st (st S 20 17 0) 20 18 1) 12 0 0) 12 1 0) 12 2 0
theorem fst0_eq (S : St) : m_X6_setToFirst 0 S = some (0, fst0 S) := by
  unfold m_X6_setToFirst
  generalize hF : (10000 : Nat) = F
  obtain ⟨f, rfl⟩ : ∃ f, F = f + 4 := ⟨F - 4, by omega⟩
  have c0 : ¬ (3 : Int32) ≤ 0 := by decide
  have c1 : ¬ (3 : Int32) ≤ 0 + 1 := by decide
  have c2 : ¬ (3 : Int32) ≤ 0 + 1 + 1 := by decide
  have c3 : (3 : Int32) ≤ 0 + 1 + 1 + 1 := by decide
  have d0 : inb (0 : Int32) 3 = true := by decide
  have d1 : inb (0 + 1 : Int32) 3 = true := by decide
  have d2 : inb (0 + 1 + 1 : Int32) 3 = true := by decide
  have e0 : (0 : Int32).toNatClampNeg = 0 := by decide
  have e1 : (0 + 1 : Int32).toNatClampNeg = 1 := by decide
  have e2 : (0 + 1 + 1 : Int32).toNatClampNeg = 2 := by decide
  simp only [m_X6_setToFirst_L12, if_neg c0, if_neg c1, if_neg c2, if_pos c3, if_pos d0, if_pos d1, if_pos d2, e0, e1, e2]
  rfl
theorem chg {S : St} {n j v : Nat} (hn : n ≤ 1076) (e : S 20 6 = nI n) (hj : j < n) (hv : v ≤ 255) : m_X7_change (nI j) (nI v) S = some (1, st S 7 j (nI v)) := by
  unfold m_X7_change
  rw [e, if_neg (nI_pos (by omega)), if_neg (nI_ge hj (by omega)), if_neg (nI_pos (by omega)), if_pos (show nI v ≤ (255 : Int32) from nI_le (b := 255) hv (by omega)), if_pos (inb_nI (show j < 1076 by omega) (by omega)), nI_cl (by omega)]; rfl
theorem wf_cls {fi en m : Nat} (hfe : fi < en) (he : en ≤ 96) (hm : m + 4 + 11 * (en - fi) ≤ 1076) {S : St} (e : S 20 6 = nI m) (hV : ∀ q, fi ≤ q → q < en → S 3 q = 0 ∨ KS S q) : ∃ S1 : St, m_X3_writeFunction (nI fi) (nI en) S = some (0, S1) ∧ CP m (fnB S fi en) S S1 := by
  obtain ⟨S1, a1, a2⟩ := app_cw (show m < 1076 by omega) 0 e
  obtain ⟨S2, b1, b2⟩ := app_cw (m := m + 1) (by omega) 0 a2.1
  obtain ⟨S3, c1, c2⟩ := app_cw (m := m + 1 + 1) (by omega) fi b2.1
  obtain ⟨S4, d1, d2⟩ := app_cw (m := m + 1 + 1 + 1) (by omega) (en - fi) c2.1
  have cw : CW m [0, 0, fi, en - fi] S S4 := CW.trans (L1 := [0]) (L2 := [0, fi, en - fi]) a2 (CW.trans (L1 := [0]) (L2 := [fi, en - fi]) b2 (CW.trans (L1 := [fi]) (L2 := [en - fi]) c2 d2))
  obtain ⟨S5, hS5⟩ : ∃ S5, S5 = fst0 S4 := ⟨_, rfl⟩
  have f5 : FP S4 S5 := by
    rw [hS5]
    exact ⟨fun k _ _ h12 _ h20 => by simp [fst0, st, h12, h20], fun j _ _ _ h17 => by simp [fst0, st_at, show j ≠ 17 by omega, show j ≠ 18 by omega]⟩
  have e5 : S5 20 6 = S4 20 6 := by rw [hS5]; simp [fst0, st_at]
  have s57 : S5 7 = S4 7 := by rw [hS5]; simp [fst0, st]
  have r5 : R0 S5 fr0 := by
    rw [hS5]
    refine ⟨?_, ?_, fun r hr => ?_⟩
    · simp [fst0, st_at]; rfl
    · simp [fst0, st_at]; rfl
    · rcases (show r = 0 ∨ r = 1 ∨ r = 2 by omega) with rfl | rfl | rfl
      · simp [fst0, st_at]; rfl
      · simp [fst0, st_at]; rfl
      · simp [fst0, st_at]; rfl
  have f05 : FP S S5 := cw.2.2.p.trans f5
  have q5 : CP m [0, 0, fi, en - fi] S S5 := ⟨by rw [e5]; exact cw.1, by rw [s57]; exact cw.2.1, f05⟩
  obtain ⟨S6, g1, g2⟩ := wp_cls he (en - fi) fi fi 10000 (m + 4) fr0 S5 (by omega) (by omega) (Nat.le_refl _) q5.1 (by omega) AB0 r5 (VF_fr f05 hV)
  rw [prB_fr f05] at g2
  have hl := prB_len S (en - fi) fr0 fi fi
  obtain ⟨B, hB⟩ : ∃ B, B = prB S (en - fi) fr0 fi fi := ⟨_, rfl⟩
  rw [← hB] at g2 hl
  have q6 : CP m ([0, 0, fi, en - fi] ++ B) S S6 := CP.trans (L1 := [0, 0, fi, en - fi]) q5 g2
  have e6 : S6 20 6 = nI (m + 4 + B.length) := g2.1
  have h256 : 2 + B.length < 2 ^ 31 := by omega
  have hcnt : nI (m + 4 + B.length) - nI m - (2 : Int32) = nI (2 + B.length) := by
    rw [pk_sub (by omega), show (2 : Int32) = nI 2 from rfl, pk_sub (by omega)]
    congr 1
    omega
  have hsh : nI (2 + B.length) >>> ((8 : Int32) &&& 31) = nI ((2 + B.length) / 256) := pk_shrN h256 _ 8 (by decide)
  have hand : nI (2 + B.length) &&& (255 : Int32) = nI ((2 + B.length) % 256) := pk_andN (by omega) 8 (by decide)
  have k1 := chg (S := S6) (n := m + 4 + B.length) (j := m) (v := (2 + B.length) / 256) (by omega) e6 (by omega) (by omega)
  have e7 : (st S6 7 m (nI ((2 + B.length) / 256))) 20 6 = nI (m + 4 + B.length) := by rw [st_row _ _ _ _ (by omega)]; exact e6
  have k2 := chg (S := st S6 7 m (nI ((2 + B.length) / 256))) (n := m + 4 + B.length) (j := m + 1) (v := (2 + B.length) % 256) (by omega) e7 (by omega) (by omega)
  refine ⟨st (st S6 7 m (nI ((2 + B.length) / 256))) 7 (m + 1) (nI ((2 + B.length) % 256)), ?_, ?_, ?_, ?_⟩
  · unfold m_X3_writeFunction m_X3_writeProgram
    rw [e, show (0 : Int32) = nI 0 from rfl, a1, some_bind']
    rw [b1, some_bind']
    rw [c1, some_bind', pk_sub (show fi ≤ en by omega)]
    rw [d1, some_bind']
    rw [fst0_eq, some_bind', ← hS5]
    rw [g1, some_bind']
    rw [show ((0 : Int32), S6).2 20 6 = nI (m + 4 + B.length) from e6, hcnt, hsh, hand, k1, some_bind', nI_1]
    rw [k2, some_bind']
  · unfold fnB
    rw [← hB, st_row _ _ _ _ (by omega), e7, List.length_append]
    congr 1
    simp only [List.length_cons, List.length_nil]
    omega
  · unfold fnB
    rw [← hB]
    refine ap.fix (L := [fi, en - fi] ++ B) (x := 0) (y := 0) q6.2.1 (fun i => ?_)
    by_cases h2 : i = m + 1
    · subst h2
      rw [st_rd, if_neg (by omega), if_pos rfl]
    · rw [st_col _ _ _ h2]
      by_cases h1 : i = m
      · subst h1; rw [st_rd, if_pos rfl]
      · rw [st_col _ _ _ h1, if_neg h1, if_neg h2]
  · exact q6.2.2.trans ⟨fun k _ h7 _ _ _ => by rw [st_ne _ _ _ h7, st_ne _ _ _ h7], fun j _ _ _ _ => by rw [st_row _ _ _ _ (by omega), st_row _ _ _ _ (by omega)]⟩
theorem pf_ref {S T : St} {i fi en m : Nat} (hi : i < 5) (hfe : fi < en) (he : en ≤ 96) (hm : m + 4 + 11 * (en - fi) ≤ 1076) (t4 : T 4 i = nI fi) (t5 : T 5 i = nI en) (e : T 30 27 = nI m) (hM : ∀ q, fi ≤ q → q < en → MK S T q) : ∃ T1 : St, m_X9_packFunction (nI i) T = some (0, T1) ∧ CR m (fnB S fi en) T T1 := by
  have oi : inb (nI i) 5 = true := inb_nI hi (by omega)
  have ci : (nI i).toNatClampNeg = i := nI_cl (by omega)
  obtain ⟨T1, a1, a2, -, -⟩ := put_cr (show m < 6000 by omega) 0 e
  obtain ⟨T2, b1, b2, -, -⟩ := put_cr (m := m + 1) (by omega) 0 a2.1
  obtain ⟨T3, c1, c2, -, -⟩ := put_cr (m := m + 1 + 1) (by omega) fi b2.1
  obtain ⟨T4, d1, d2, -, -⟩ := put_cr (m := m + 1 + 1 + 1) (by omega) (en - fi) c2.1
  have cr : CR m [0, 0, fi, en - fi] T T4 := CR.trans (L1 := [0]) (L2 := [0, fi, en - fi]) a2 (CR.trans (L1 := [0]) (L2 := [fi, en - fi]) b2 (CR.trans (L1 := [fi]) (L2 := [en - fi]) c2 d2))
  obtain ⟨T5, hT5⟩ : ∃ T5, T5 = st (st (st (st (st (st T4 14 0 0) 14 1 1) 14 2 0) 14 3 0) 14 4 0) 30 28 (nI fi) := ⟨_, rfl⟩
  have g5 : GP T4 T5 := by
    rw [hT5]
    exact ⟨fun k _ h14 h30 => by simp [st, h14, h30], fun j _ h28 => by simp [st_at, h28]⟩
  have q5 : CR m [0, 0, fi, en - fi] T T5 := cr.nr (by rw [hT5]; simp [st_at]) (by rw [hT5]; simp [st]) g5
  have t5k : ∀ k, k ≠ 11 → k ≠ 14 → k ≠ 30 → T5 k = T k := q5.2.2.1
  obtain ⟨T6, f1, f2⟩ := pp_ref (S := S) hi he (nI m) (en - fi) fi fi 10000 (m + 4) fr0 T5 (by omega) (by omega) (Nat.le_refl _) q5.1 (by omega) AB0 (fun k hk => by
    rw [hT5, st_row _ _ _ _ (by omega)]
    rcases (show k = 0 ∨ k = 1 ∨ k = 2 ∨ k = 3 ∨ k = 4 by omega) with rfl | rfl | rfl | rfl | rfl
    · simp [st_at]; rfl
    · simp [st_at]; rfl
    · simp [st_at]; rfl
    · simp [st_at]; rfl
    · simp [st_at]; rfl) (by rw [hT5, st_rd]) (by rw [t5k 5 (by omega) (by omega) (by omega)]; exact t5) (fun q h1 h2 => (hM q h1 h2).congr rfl (by rw [t5k 7 (by omega) (by omega) (by omega)]) (fun _ _ _ => rfl) (fun j _ _ => by rw [t5k 6 (by omega) (by omega) (by omega)]))
  have hl := prB_len S (en - fi) fr0 fi fi
  obtain ⟨B, hB⟩ : ∃ B, B = prB S (en - fi) fr0 fi fi := ⟨_, rfl⟩
  rw [← hB] at f2 hl
  have q6 : CR m ([0, 0, fi, en - fi] ++ B) T T6 := CR.trans (L1 := [0, 0, fi, en - fi]) q5 f2
  have e6 : T6 30 27 = nI (m + 4 + B.length) := f2.1
  have t65 : T6 5 i = nI en := by rw [q6.2.2.1 5 (by omega) (by omega) (by omega)]; exact t5
  have hcnt : nI (m + 4 + B.length) - nI m - (2 : Int32) = nI (2 + B.length) := by
    rw [pk_sub (by omega), show (2 : Int32) = nI 2 from rfl, pk_sub (by omega)]
    congr 1
    omega
  have hdiv : nI (2 + B.length) / (256 : Int32) = nI ((2 + B.length) / 256) := pk_div (d := 256) (by omega) (by omega) (by omega)
  have hrem : nI (2 + B.length) - nI (2 + B.length) / (256 : Int32) * (256 : Int32) = nI ((2 + B.length) % 256) := pk_rem (d := 256) (by omega) (by omega) (by omega)
  refine ⟨st (st T6 11 m (nI ((2 + B.length) / 256))) 11 (m + 1) (nI ((2 + B.length) % 256)), ?_, ?_, ?_, ?_⟩
  · have L58 : ∀ F (U : St), 4 ≤ F → m_X9_packFunction_L58 F (nI i) (nI m) 2 U = m_X9_packFunction_L93 10000 (nI i) (nI m) ((st (st (st (st U 14 2 0) 14 3 0) 14 4 0) 30 28 (U 4 i)) 4 i) (st (st (st (st U 14 2 0) 14 3 0) 14 4 0) 30 28 (U 4 i)) := by
      intro F U hF
      obtain ⟨f, rfl⟩ : ∃ f, F = f + 4 := ⟨F - 4, by omega⟩
      rw [m_X9_packFunction_L58, if_neg (by decide), if_pos (by decide), n52]
      rw [m_X9_packFunction_L58, if_neg (by decide), if_pos (by decide), show (2 + 1 : Int32).toNatClampNeg = 3 by decide]
      rw [m_X9_packFunction_L58, if_neg (by decide), if_pos (by decide), show (2 + 1 + 1 : Int32).toNatClampNeg = 4 by decide]
      rw [m_X9_packFunction_L58, if_pos (by decide), if_pos oi, if_pos oi, ci, st_row _ _ _ _ (show (4 : Nat) ≠ 14 by omega), st_row _ _ _ _ (show (4 : Nat) ≠ 14 by omega), st_row _ _ _ _ (show (4 : Nat) ≠ 14 by omega)]
    have u2 : T2 4 i = nI fi := by rw [b2.2.2.1 4 (by omega) (by omega) (by omega), a2.2.2.1 4 (by omega) (by omega) (by omega)]; exact t4
    have u3 : T3 4 i = nI fi := by rw [c2.2.2.1 4 (by omega) (by omega) (by omega)]; exact u2
    have u35 : T3 5 i = nI en := by rw [c2.2.2.1 5 (by omega) (by omega) (by omega), b2.2.2.1 5 (by omega) (by omega) (by omega), a2.2.2.1 5 (by omega) (by omega) (by omega)]; exact t5
    have u4 : (st (st T4 14 0 0) 14 1 1) 4 i = nI fi := by rw [st_row _ _ _ _ (by omega), st_row _ _ _ _ (by omega), d2.2.2.1 4 (by omega) (by omega) (by omega)]; exact u3
    have u5 : T5 4 i = nI fi := by rw [t5k 4 (by omega) (by omega) (by omega)]; exact t4
    unfold m_X9_packFunction
    rw [e, show m_X9_put 0 T = some (0, T1) from a1, some_bind']
    rw [show m_X9_put 0 (((0 : Int32), T1).2) = some (0, T2) from b1, some_bind', if_pos oi, ci]
    rw [show ((0 : Int32), T2).2 4 i = nI fi from u2, c1, some_bind', if_pos oi, if_pos oi]
    rw [show ((0 : Int32), T3).2 4 i = nI fi from u3, show ((0 : Int32), T3).2 5 i = nI en from u35, pk_sub (show fi ≤ en by omega), d1, some_bind', if_pos y50, if_pos y51, n50, n51]
    rw [L58 10000 _ (by omega), u4, ← hT5, u5, f1, m_X9_packFunction_L93, if_pos oi, ci, t65, if_pos (nI_le (Nat.le_refl _) (by omega)), if_pos (inb_nI (show m < 6000 by omega) (by omega)), nI_1, if_pos (inb_nI (show m + 1 < 6000 by omega) (by omega)), e6, hcnt, hrem, hdiv, nI_cl (by omega), nI_cl (by omega)]
  · unfold fnB
    rw [← hB, st_row _ _ _ _ (by omega), st_row _ _ _ _ (by omega), e6, List.length_append]
    congr 1
    simp only [List.length_cons, List.length_nil]
    omega
  · unfold fnB
    rw [← hB]
    refine ap.fix (L := [fi, en - fi] ++ B) (x := 0) (y := 0) q6.2.1 (fun i => ?_)
    by_cases h2 : i = m + 1
    · subst h2
      rw [st_rd, if_neg (by omega), if_pos rfl]
    · rw [st_col _ _ _ h2]
      by_cases h1 : i = m
      · subst h1; rw [st_rd, if_pos rfl]
      · rw [st_col _ _ _ h1, if_neg h1, if_neg h2]
  · exact q6.2.2.trans ⟨fun k h11 _ _ => by rw [st_ne _ _ _ h11, st_ne _ _ _ h11], fun j _ _ => by rw [st_row _ _ _ _ (by omega), st_row _ _ _ _ (by omega)]⟩
