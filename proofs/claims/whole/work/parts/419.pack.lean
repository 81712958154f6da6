/-! packing: all functions -/
theorem c22 (x1 : Int32) : ∀ (d j G : Nat) (T : St), j + d = 485 → d < G → ∃ T1 : St, (∀ k12 : Int32 → St → Option (Int32 × St), m_X9_pack_L22 k12 G x1 (nI j) T = m_X9_pack_L44 k12 10000 x1 0 T1) ∧ (∀ k, k ≠ 6 → T1 k = T k) ∧ (∀ i, i < j → T1 6 i = T 6 i) ∧ ∀ i, j ≤ i → i < 485 → T1 6 i = 0 := by
  intro d
  induction d with
  | zero =>
    intro j G T hj hG
    obtain ⟨g, rfl⟩ : ∃ g, G = g + 1 := ⟨G - 1, by omega⟩
    refine ⟨T, fun k12 => ?_, fun _ _ => rfl, fun _ _ => rfl, fun i h1 h2 => absurd h1 (by omega)⟩
    rw [m_X9_pack_L22, if_pos (show (485 : Int32) ≤ nI j from nI_le (a := 485) (by omega) (by omega))]
  | succ d ih =>
    intro j G T hj hG
    obtain ⟨g, rfl⟩ : ∃ g, G = g + 1 := ⟨G - 1, by omega⟩
    obtain ⟨T1, q1, q2, q3, q4⟩ := ih (j + 1) g (st T 6 j 0) (by omega) (by omega)
    refine ⟨T1, fun k12 => ?_, fun k hk => by rw [q2 k hk, st_ne _ _ _ hk], fun i hi => by rw [q3 i (by omega), st_col _ _ _ (by omega)], fun i h1 h2 => ?_⟩
    · rw [m_X9_pack_L22, if_neg (show ¬ (485 : Int32) ≤ nI j from nI_ge (b := 485) (by omega) (by omega)), if_pos (inb_nI (show j < 485 by omega) (by omega)), nI_cl (by omega), nI_1]
      exact q1 k12
    · by_cases hi : i = j
      · subst hi; rw [q3 _ (by omega), st_rd]
      · exact q4 i (by omega) h2
theorem c44 (x1 : Int32) : ∀ (d j G : Nat) (T : St), j + d = 97 → d < G → ∃ T1 : St, (∀ k12 : Int32 → St → Option (Int32 × St), m_X9_pack_L44 k12 G x1 (nI j) T = m_X9_pack_L44 k12 1 x1 (nI 97) T1) ∧ (∀ k, k ≠ 7 → k ≠ 8 → T1 k = T k) ∧ (∀ i, i < j → T1 7 i = T 7 i ∧ T1 8 i = T 8 i) ∧ ∀ i, j ≤ i → i < 97 → T1 7 i = 0 ∧ T1 8 i = 0 := by
  intro d
  induction d with
  | zero =>
    intro j G T hj hG
    obtain ⟨g, rfl⟩ : ∃ g, G = g + 1 := ⟨G - 1, by omega⟩
    obtain rfl : j = 97 := by omega
    refine ⟨T, fun k12 => ?_, fun _ _ _ => rfl, fun _ _ => ⟨rfl, rfl⟩, fun i h1 h2 => absurd h1 (by omega)⟩
    rw [m_X9_pack_L44, m_X9_pack_L44, if_pos (show (97 : Int32) ≤ nI 97 by decide), if_pos (show (97 : Int32) ≤ nI 97 by decide)]
  | succ d ih =>
    intro j G T hj hG
    obtain ⟨g, rfl⟩ : ∃ g, G = g + 1 := ⟨G - 1, by omega⟩
    obtain ⟨T1, q1, q2, q3, q4⟩ := ih (j + 1) g (st (st T 7 j 0) 8 j 0) (by omega) (by omega)
    have i1 : inb (nI j) 97 = true := inb_nI (by omega) (by omega)
    refine ⟨T1, fun k12 => ?_, fun k h7 h8 => by rw [q2 k h7 h8, st_ne _ _ _ h8, st_ne _ _ _ h7], fun i hi => ?_, fun i h1 h2 => ?_⟩
    · rw [m_X9_pack_L44, if_neg (show ¬ (97 : Int32) ≤ nI j from nI_ge (b := 97) (by omega) (by omega)), if_pos i1, if_pos i1, nI_cl (by omega), nI_1]
      exact q1 k12
    · rw [(q3 i (by omega)).1, (q3 i (by omega)).2, st_row _ _ _ _ (by omega), st_col _ _ _ (by omega), st_col _ _ _ (by omega), st_row _ _ _ _ (by omega)]
      exact ⟨rfl, rfl⟩
    · by_cases hi : i = j
      · subst hi
        rw [(q3 i (by omega)).1, (q3 i (by omega)).2, st_row _ _ _ _ (by omega), st_rd, st_rd]
        exact ⟨rfl, rfl⟩
      · exact q4 i (by omega) h2
def allB (S : St) (f g : Nat → Nat) : Nat → List Nat
  | 0 => []
  | i + 1 => allB S f g i ++ fnB S (f i) (g i)
def hiB (g : Nat → Nat) : Nat → Nat
  | 0 => 0
  | i + 1 => g i
/-- the functions, in their order -/
def OF (k : Nat) (f g : Nat → Nat) : Prop := k ≤ 5 ∧ (∀ i, i < k → f i < g i ∧ g i ≤ 96) ∧ ∀ i, i + 1 < k → g i ≤ f (i + 1)
theorem OF.hi {k : Nat} {f g : Nat → Nat} (h : OF k f g) {i : Nat} (hi : i < k) : hiB g i ≤ f i := by
  cases i with
  | zero => exact Nat.zero_le _
  | succ i => exact h.2.2 i hi
theorem OF.lo {k : Nat} {f g : Nat → Nat} (h : OF k f g) : ∀ i j, j < i → i < k → g j ≤ f i := by
  intro i
  induction i with
  | zero => intro j hj _; exact absurd hj (by omega)
  | succ i ih =>
    intro j hj hi
    have h1 := h.2.2 i hi
    by_cases e : j = i
    · subst e; exact h1
    · have h2 := ih j (by omega) (by omega)
      have h3 := (h.2.1 i (by omega)).1
      omega
theorem all_len {k : Nat} {f g : Nat → Nat} (h : OF k f g) (S : St) : ∀ i, i ≤ k → (allB S f g i).length ≤ 4 * i + 11 * hiB g i := by
  intro i
  induction i with
  | zero => intro _; exact Nat.zero_le _
  | succ i ih =>
    intro hi
    have h1 := ih (by omega)
    have h2 := h.hi (show i < k by omega)
    have h3 := (h.2.1 i (by omega)).1
    have h4 := fnB_len S (fi := f i) (en := g i)
    rw [allB, List.length_append]
    have e : hiB g (i + 1) = g i := rfl
    omega
theorem all_room {k : Nat} {f g : Nat → Nat} (h : OF k f g) (S : St) {i : Nat} (hi : i < k) : (allB S f g i).length + 4 + 11 * (g i - f i) ≤ 1076 := by
  have h1 := all_len h S i (by omega)
  have h2 := h.hi hi
  have h3 := h.2.1 i hi
  have h4 := h.1
  omega
theorem all_congr {S S1 : St} {f g : Nat → Nat} : ∀ i, (∀ j, j < i → f j ≤ g j ∧ (∀ q, f j ≤ q → q < g j → S1 3 q = S 3 q) ∧ ∀ x, 5 * f j ≤ x → x < 5 * g j → S1 5 x = S 5 x) → allB S1 f g i = allB S f g i := by
  intro i
  induction i with
  | zero => intro _; rfl
  | succ i ih =>
    intro h
    rw [allB, allB, ih (fun j hj => h j (by omega)), fnB_congr (h i (by omega)).1 (h i (by omega)).2.1 (h i (by omega)).2.2]
/-- what is found out about the functions so far -/
def VA (S : St) (f g : Nat → Nat) (i : Nat) : Prop := ∀ j, j < i → ∀ q, f j ≤ q → q < g j → S 3 q = 0 ∨ KS S q
def F1 (S S1 : St) : Prop := (∀ k, k ≠ 3 → k ≠ 4 → k ≠ 5 → k ≠ 6 → k ≠ 20 → S1 k = S k) ∧ ∀ j, j ≠ 2 → j ≠ 3 → j ≠ 4 → j ≠ 5 → S1 20 j = S 20 j
def G1 (T T1 : St) : Prop := (∀ k, k ≠ 6 → k ≠ 7 → k ≠ 8 → k ≠ 9 → k ≠ 11 → k ≠ 14 → k ≠ 30 → T1 k = T k) ∧ ∀ j, j ≠ 27 → j ≠ 28 → T1 30 j = T 30 j
theorem F1.refl (S : St) : F1 S S := ⟨fun _ _ _ _ _ _ => rfl, fun _ _ _ _ _ => rfl⟩
theorem G1.refl (S : St) : G1 S S := ⟨fun _ _ _ _ _ _ _ _ => rfl, fun _ _ _ => rfl⟩
theorem F1.trans {S S1 S2 : St} (h : F1 S S1) (g : F1 S1 S2) : F1 S S2 := ⟨fun k h1 h2 h3 h4 h5 => by rw [g.1 k h1 h2 h3 h4 h5, h.1 k h1 h2 h3 h4 h5], fun j h1 h2 h3 h4 => by rw [g.2 j h1 h2 h3 h4, h.2 j h1 h2 h3 h4]⟩
theorem G1.trans {S S1 S2 : St} (h : G1 S S1) (g : G1 S1 S2) : G1 S S2 := ⟨fun k h1 h2 h3 h4 h5 h6 h7 => by rw [g.1 k h1 h2 h3 h4 h5 h6 h7, h.1 k h1 h2 h3 h4 h5 h6 h7], fun j h1 h2 => by rw [g.2 j h1 h2, h.2 j h1 h2]⟩
theorem CD.g {S T S1 T1 : St} {n : Nat} {c : Nat → Nat} (h : CD S T n c) (f : F1 S S1) (g : G1 T T1) : CD S1 T1 n c := by
  obtain ⟨h1, h2, h3, h4⟩ := h
  refine ⟨h1, by rw [f.2 0 (by omega) (by omega) (by omega) (by omega)]; exact h2, by rw [g.2 2 (by omega) (by omega)]; exact h3, fun i => ?_⟩
  rw [f.1 0 (by omega) (by omega) (by omega) (by omega) (by omega), g.1 1 (by omega) (by omega) (by omega) (by omega) (by omega) (by omega) (by omega)]; exact h4 i
theorem RF.g {S T S1 T1 : St} (h : RF S T) (f : F1 S S1) (g : G1 T T1) : RF S1 T1 :=
  h.congr (by rw [f.2 0 (by omega) (by omega) (by omega) (by omega)]; exact Int32.le_refl _) (f.2 1 (by omega) (by omega) (by omega) (by omega)) (f.1 1 (by omega) (by omega) (by omega) (by omega) (by omega)) (f.1 2 (by omega) (by omega) (by omega) (by omega) (by omega)) (g.2 3 (by omega) (by omega)) (g.1 4 (by omega) (by omega) (by omega) (by omega) (by omega) (by omega) (by omega)) (g.1 5 (by omega) (by omega) (by omega) (by omega) (by omega) (by omega) (by omega))
theorem p1_sim {n k : Nat} {c f g : Nat → Nat} (hOF : OF k f g) (hgn : ∀ i, i < k → g i ≤ n) : ∀ (d i F G : Nat) (S T : St), i + d = k → d < F → d < G → CD S T n c → RF S T → (∀ j, j < k → S 1 j = nI (f j) ∧ S 2 j = nI (g j)) → S 20 1 = nI k → VA S f g i → T 30 27 = nI (allB S f g i).length → (∀ x, x < (allB S f g i).length → T 11 x = nI ((allB S f g i).getD x 0)) → (∃ S1 T1 : St, m_X3_packAll_L2 F (nI i) S = m_X3_packAll_L2 1 (nI k) S1 ∧ m_X9_pack_L12 G (nI i) T = m_X9_pack_L12 1 (nI k) T1 ∧ F1 S S1 ∧ G1 T T1 ∧ VA S1 f g k ∧ T1 30 27 = nI (allB S1 f g k).length ∧ ∀ x, x < (allB S1 f g k).length → T1 11 x = nI ((allB S1 f g k).getD x 0)) ∨ ∃ (r : Int32) (S1 T1 : St), m_X3_packAll_L2 F (nI i) S = some (r, S1) ∧ m_X9_pack_L12 G (nI i) T = some (r, T1) ∧ F1 S S1 ∧ G1 T T1 := by
  intro d
  induction d with
  | zero =>
    intro i F G S T hi hF hG hcd hRF hfg e1 hV t27 t11
    obtain ⟨f', rfl⟩ : ∃ f', F = f' + 1 := ⟨F - 1, by omega⟩
    obtain ⟨g', rfl⟩ : ∃ g', G = g' + 1 := ⟨G - 1, by omega⟩
    obtain rfl : i = k := by omega
    have hk := hOF.1
    have t3 : T 30 3 = nI i := by rw [← hRF.1]; exact e1
    left
    refine ⟨S, T, ?_, ?_, F1.refl S, G1.refl T, hV, t27, t11⟩
    · rw [m_X3_packAll_L2, m_X3_packAll_L2, e1, if_pos (nI_le (Nat.le_refl _) (by omega)), if_pos (nI_le (Nat.le_refl _) (by omega))]
    · rw [m_X9_pack_L12, m_X9_pack_L12, t3, if_pos (nI_le (Nat.le_refl _) (by omega)), if_pos (nI_le (Nat.le_refl _) (by omega))]
  | succ d ih =>
    intro i F G S T hi hF hG hcd hRF hfg e1 hV t27 t11
    obtain ⟨f', rfl⟩ : ∃ f', F = f' + 1 := ⟨F - 1, by omega⟩
    obtain ⟨g', rfl⟩ : ∃ g', G = g' + 1 := ⟨G - 1, by omega⟩
    have hk := hOF.1
    have hik : i < k := by omega
    have hf := hOF.2.1 i hik
    have t3 : T 30 3 = nI k := by rw [← hRF.1]; exact e1
    have oi : inb (nI i) 5 = true := inb_nI (by omega) (by omega)
    have ci : (nI i).toNatClampNeg = i := nI_cl (by omega)
    have room := all_room hOF S hik
    obtain ⟨T1, a1, a2, -, a4⟩ := c22 (nI i) 485 0 10000 T (by omega) (by omega)
    obtain ⟨T2, b1, b2, -, b4⟩ := c44 (nI i) 97 0 10000 T1 (by omega) (by omega)
    have T2k : ∀ k, k ≠ 6 → k ≠ 7 → k ≠ 8 → T2 k = T k := fun k h6 h7 h8 => by rw [b2 k h7 h8, a2 k h6]
    have cS : m_X3_packAll_L2 (f' + 1) (nI i) S = (m_X1_findOut (nI (f i)) (nI (g i)) S).bind fun r2 => if r2.1 = 0 then m_X3_packAll_L2 f' (nI (i + 1)) r2.2 else some (-r2.1, r2.2) := by
      rw [m_X3_packAll_L2, e1, if_neg (nI_ge hik (by omega)), if_pos oi, if_pos oi, ci, (hfg i hik).1, (hfg i hik).2, nI_1]
    have cT : m_X9_pack_L12 (g' + 1) (nI i) T = (m_X9_findOut (nI i) T2).bind fun r1 => if r1.1 ≤ 0 then (m_X9_packFunction (nI i) r1.2).bind fun r2 => m_X9_pack_L12 g' (nI (i + 1)) r2.2 else some (-r1.1, r1.2) := by
      rw [m_X9_pack_L12, t3, if_neg (nI_ge hik (by omega))]
      have q1 := a1 (m_X9_pack_L12 g')
      have q2 := b1 (m_X9_pack_L12 g')
      rw [show nI 0 = (0 : Int32) from rfl] at q1 q2
      rw [q1, q2, m_X9_pack_L44, if_pos (show (97 : Int32) ≤ nI 97 by decide), nI_1]
    have g2 : G1 T T2 := ⟨fun k h6 h7 h8 _ _ _ _ => T2k k h6 h7 h8, fun j _ _ => by rw [T2k 30 (by omega) (by omega) (by omega)]⟩
    have hcd2 := hcd.g (F1.refl S) g2
    have hRF2 := hRF.g (F1.refl S) g2
    obtain ⟨h1, h2, h3, -⟩ := id hRF2
    have u4 : T2 4 i = nI (f i) := by rw [← h2]; exact (hfg i hik).1
    have u5 : T2 5 i = nI (g i) := by rw [← h3]; exact (hfg i hik).2
    obtain ⟨r, S1, T3, c1, c2, c3, c4, c5⟩ := fo_sim hcd2 hRF2 (show i < 5 by omega) u4 u5 hf.1 hf.2 (hgn i hik) (fun j hj => by rw [b2 6 (by omega) (by omega)]; exact a4 j (by omega) hj) (fun q hq => (b4 q (by omega) hq).1) (fun q hq => (b4 q (by omega) hq).2)
    have fS : F1 S S1 := ⟨c3.1, c3.2.1⟩
    have gT : G1 T T3 := g2.trans ⟨fun k h6 h7 h8 h9 _ _ _ => c4 k h6 h7 h8 h9, fun j _ _ => by rw [c4 30 (by omega) (by omega) (by omega) (by omega)]⟩
    rw [cS, cT, c1, c2, some_bind', some_bind']
    rcases c5 with ⟨rfl, hM⟩ | ⟨kk, k1, k2, rfl⟩
    · rw [if_pos (show ((0 : Int32), S1).1 = 0 from rfl), if_pos (show ((0 : Int32), T3).1 ≤ 0 from p00)]
      have old : ∀ j, j < i → f j ≤ g j ∧ (∀ q, f j ≤ q → q < g j → S1 3 q = S 3 q) ∧ ∀ x, 5 * f j ≤ x → x < 5 * g j → S1 5 x = S 5 x := by
        intro j hj
        have w := hOF.lo i j hj hik
        have w2 := (hOF.2.1 j (by omega)).1
        exact ⟨by omega, fun q _ hq => c3.2.2.1 q (by omega), fun x _ hx => c3.2.2.2 x (by omega)⟩
      have hall : allB S1 f g i = allB S f g i := all_congr i old
      have v4 : T3 4 i = nI (f i) := by rw [c4 4 (by omega) (by omega) (by omega) (by omega)]; exact u4
      have v5 : T3 5 i = nI (g i) := by rw [c4 5 (by omega) (by omega) (by omega) (by omega)]; exact u5
      have v27 : T3 30 27 = nI (allB S f g i).length := by rw [c4 30 (by omega) (by omega) (by omega) (by omega), T2k 30 (by omega) (by omega) (by omega)]; exact t27
      obtain ⟨T4, d1, d2⟩ := pf_ref (S := S1) (show i < 5 by omega) hf.1 hf.2 room v4 v5 v27 (fun q h1 h2 => hM q h1 (by omega))
      have gT4 : G1 T T4 := gT.trans ⟨fun k _ _ _ _ h11 h14 h30 => d2.2.2.1 k h11 h14 h30, fun j h27 h28 => d2.2.2.2 j h27 h28⟩
      rw [d1, some_bind']
      have hV1 : VA S1 f g (i + 1) := by
        intro j hj q q1 q2
        by_cases e : j = i
        · subst e
          rcases hM q q1 (by omega) with ⟨w, -⟩ | ⟨-, -, w⟩ | ⟨-, -, w⟩
          · exact Or.inl w
          · exact Or.inr w.ks
          · exact Or.inr w.ks
        · obtain ⟨-, w1, w2⟩ := old j (by omega)
          rcases hV j (by omega) q q1 q2 with w | ⟨hh, fr, s, y0, y1, y2, y3⟩
          · exact Or.inl (by rw [w1 q q1 q2]; exact w)
          · refine Or.inr ⟨hh, fr, s, y0, by rw [w2 _ (by omega) (by omega)]; exact y1, by rw [w2 _ (by omega) (by omega)]; exact y2, fun r hr => by rw [w2 _ (by omega) (by omega)]; exact y3 r hr⟩
      have l1 : allB S1 f g (i + 1) = allB S f g i ++ fnB S1 (f i) (g i) := by rw [allB, hall]
      have w27 : T4 30 27 = nI (allB S1 f g (i + 1)).length := by rw [l1, List.length_append]; exact d2.1
      have w11 : ∀ x, x < (allB S1 f g (i + 1)).length → T4 11 x = nI ((allB S1 f g (i + 1)).getD x 0) := by
        intro x hx
        rw [l1, List.length_append] at hx
        rw [d2.2.1 x, l1]
        by_cases hx2 : x < (allB S f g i).length
        · rw [if_neg (by omega), c4 11 (by omega) (by omega) (by omega) (by omega), T2k 11 (by omega) (by omega) (by omega), t11 x hx2, List.getD_eq_getElem?_getD, List.getD_eq_getElem?_getD, List.getElem?_append_left hx2]
        · rw [if_pos (by omega), List.getD_eq_getElem?_getD, List.getD_eq_getElem?_getD, List.getElem?_append_right (by omega)]
      have hfg1 : ∀ j, j < k → S1 1 j = nI (f j) ∧ S1 2 j = nI (g j) := fun j hj => by
        rw [c3.1 1 (by omega) (by omega) (by omega) (by omega) (by omega), c3.1 2 (by omega) (by omega) (by omega) (by omega) (by omega)]
        exact hfg j hj
      rcases ih (i + 1) f' g' S1 T4 (by omega) (by omega) (by omega) (hcd.g fS gT4) (hRF.g fS gT4) hfg1 (by rw [c3.2.1 1 (by omega) (by omega) (by omega) (by omega)]; exact e1) hV1 w27 w11 with ⟨S5, T5, m1, m2, m3, m4, m5, m6, m7⟩ | ⟨r, S5, T5, m1, m2, m3, m4⟩
      · exact Or.inl ⟨S5, T5, m1, m2, fS.trans m3, gT4.trans m4, m5, m6, m7⟩
      · exact Or.inr ⟨r, S5, T5, m1, m2, fS.trans m3, gT4.trans m4⟩
    · right
      have kz : ¬ nI kk = 0 := nI_ne0 (by omega) (by omega)
      have kl : ¬ nI kk ≤ 0 := nI_nle (by omega) (by omega)
      rw [if_neg (show ¬ (nI kk, S1).1 = 0 from kz), if_neg (show ¬ (nI kk, T3).1 ≤ 0 from kl)]
      exact ⟨_, S1, T3, rfl, rfl, fS, gT⟩
theorem p2_cls {k : Nat} {f g : Nat → Nat} (hOF : OF k f g) : ∀ (d i F : Nat) (S : St), i + d = k → d < F → S 20 6 = nI (allB S f g i).length → (∀ j, j < k → S 1 j = nI (f j) ∧ S 2 j = nI (g j)) → S 20 1 = nI k → VA S f g k → ∃ (S1 : St) (L : List Nat), m_X3_packAll_L61 F (nI i) S = some (S1 20 6, S1) ∧ allB S f g k = allB S f g i ++ L ∧ CP (allB S f g i).length L S S1 := by
  intro d
  induction d with
  | zero =>
    intro i F S hi hF e hfg e1 hV
    obtain ⟨f', rfl⟩ : ∃ f', F = f' + 1 := ⟨F - 1, by omega⟩
    obtain rfl : i = k := by omega
    have hk := hOF.1
    refine ⟨S, [], ?_, by rw [List.append_nil], CP.fr e rfl rfl (FP.refl S)⟩
    rw [m_X3_packAll_L61, e1, if_pos (nI_le (Nat.le_refl _) (by omega))]
  | succ d ih =>
    intro i F S hi hF e hfg e1 hV
    obtain ⟨f', rfl⟩ : ∃ f', F = f' + 1 := ⟨F - 1, by omega⟩
    have hk := hOF.1
    have hik : i < k := by omega
    have hf := hOF.2.1 i hik
    have oi : inb (nI i) 5 = true := inb_nI (by omega) (by omega)
    have ci : (nI i).toNatClampNeg = i := nI_cl (by omega)
    obtain ⟨S1, a1, a2⟩ := wf_cls hf.1 hf.2 (all_room hOF S hik) e (hV i hik)
    have fp := a2.2.2
    have hall : ∀ j, allB S1 f g j = allB S f g j := by
      intro j
      have aux : ∀ j, allB S1 f g j = allB S f g j := by
        intro j
        induction j with
        | zero => rfl
        | succ j ihj =>
          rw [allB, allB, ihj]
          have : fnB S1 (f j) (g j) = fnB S (f j) (g j) := by
            unfold fnB
            rw [prB_fr fp]
          rw [this]
      exact aux j
    have e' : S1 20 6 = nI (allB S1 f g (i + 1)).length := by
      rw [hall, allB, List.length_append]; exact a2.1
    obtain ⟨S2, L, b1, b2, b3⟩ := ih (i + 1) f' S1 (by omega) (by omega) e' (fun j hj => by
      rw [fp.1 1 (by omega) (by omega) (by omega) (by omega) (by omega), fp.1 2 (by omega) (by omega) (by omega) (by omega) (by omega)]; exact hfg j hj) (by rw [fp.2 1 (by omega) (by omega) (by omega) (by omega)]; exact e1) (fun j hj => VF_fr fp (hV j hj))
    rw [hall, hall, allB] at b2
    rw [hall, allB, List.length_append] at b3
    refine ⟨S2, fnB S (f i) (g i) ++ L, ?_, by rw [b2, List.append_assoc], a2.trans b3⟩
    rw [m_X3_packAll_L61, e1, if_neg (nI_ge hik (by omega)), if_pos oi, if_pos oi, ci, (hfg i hik).1, (hfg i hik).2, a1, some_bind', nI_1]
    exact b1
theorem cp96 {n : Nat} (hn : n ≤ 1076) : ∀ (d j G : Nat) (T : St), j + d = n → d < G → T 30 27 = nI n → ∃ T1 : St, m_X9_pack_L96 G (nI j) T = some (nI n, T1) ∧ T1 30 12 = nI n ∧ (∀ x, T1 10 x = if j ≤ x ∧ x < n then T 11 x else T 10 x) ∧ (∀ k, k ≠ 10 → k ≠ 30 → T1 k = T k) ∧ ∀ i, i ≠ 12 → T1 30 i = T 30 i := by
  intro d
  induction d with
  | zero =>
    intro j G T hj hG e
    obtain ⟨g, rfl⟩ : ∃ g, G = g + 1 := ⟨G - 1, by omega⟩
    refine ⟨st T 30 12 (nI n), ?_, by rw [st_rd], fun x => by rw [if_neg (by omega), st_row _ _ _ _ (by omega)], fun k _ h30 => st_ne _ _ _ h30, fun i hi => st_col _ _ _ hi⟩
    rw [m_X9_pack_L96, e, if_pos (nI_le (by omega) (by omega)), st_rd]
  | succ d ih =>
    intro j G T hj hG e
    obtain ⟨g, rfl⟩ : ∃ g, G = g + 1 := ⟨G - 1, by omega⟩
    have i1 : inb (nI j) 6000 = true := inb_nI (by omega) (by omega)
    obtain ⟨T1, a1, a2, a3, a4, a5⟩ := ih (j + 1) g (st T 10 j (T 11 j)) (by omega) (by omega) (by rw [st_row _ _ _ _ (by omega)]; exact e)
    refine ⟨T1, ?_, a2, fun x => ?_, fun k h10 h30 => by rw [a4 k h10 h30, st_ne _ _ _ h10], fun i hi => by rw [a5 i hi, st_row _ _ _ _ (by omega)]⟩
    · rw [m_X9_pack_L96, e, if_neg (nI_ge (show j < n by omega) (by omega)), if_pos i1, if_pos i1, nI_cl (by omega), nI_1]
      exact a1
    · rw [a3 x, st_row _ _ _ _ (by omega)]
      by_cases h : x = j
      · subst h
        rw [if_neg (by omega), st_rd, if_pos (by omega)]
      · rw [st_col _ _ _ h]
        by_cases h2 : j + 1 ≤ x ∧ x < n
        · rw [if_pos h2, if_pos (by omega)]
        · rw [if_neg h2, if_neg (by omega)]
theorem sim_pack (S T : St) (hR : Rel S T) : ∃ (r1 : Int32) (S1 T1 : St), m_X8_pack S = some (r1, S1) ∧ m_X9_pack T = some (r1, T1) ∧ Rel S1 T1 := by
  obtain ⟨hc, hf, hs, hm, hr⟩ := id hR
  obtain ⟨n, c, hcd⟩ := hc.cd
  obtain ⟨f1, f2, f3, k, hk, ek, f, g, hfg, hord⟩ := id hf
  have hn := hcd.1
  have hOF : OF k f g := ⟨hk, fun i hi => ⟨(hfg i hi).2.2.1, (hfg i hi).2.2.2.1⟩, hord⟩
  have hgn : ∀ i, i < k → g i ≤ n := fun i hi => by
    have h1 := (hfg i hi).2.2.2.2
    have h2 := (hfg i hi).2.2.2.1
    rw [hcd.2.1, nI_leI (by omega) (by omega)] at h1
    exact h1
  obtain ⟨T0, hT0⟩ : ∃ T0, T0 = st (st T 30 0 (0 : Int32)) 30 27 (0 : Int32) := ⟨_, rfl⟩
  have T0k : ∀ k, k ≠ 30 → T0 k = T k := fun k h => by rw [hT0, st_ne _ _ _ h, st_ne _ _ _ h]
  have T0j : ∀ j, j ≠ 0 → j ≠ 27 → T0 30 j = T 30 j := fun j h0 h27 => by rw [hT0, st_col _ _ _ h27, st_col _ _ _ h0]
  have hcd0 : CD S T0 n c := by
    obtain ⟨w1, w2, w3, w4⟩ := hcd
    exact ⟨w1, w2, by rw [T0j 2 (by omega) (by omega)]; exact w3, fun i => by rw [T0k 1 (by omega)]; exact w4 i⟩
  have hf0 : RF S T0 := hf.congr (Int32.le_refl _) rfl rfl rfl (T0j 3 (by omega) (by omega)) (T0k 4 (by omega)) (T0k 5 (by omega))
  -- what stays, told once for all ways out
  have close : ∀ (S1 T1 : St), (∀ k, k ≤ 2 ∨ (8 ≤ k ∧ k ≤ 11) → S1 k = S k) → (∀ j, j ≤ 1 ∨ (10 ≤ j ∧ j ≤ 16) → S1 20 j = S 20 j) → (∀ k, k = 1 ∨ k = 4 ∨ k = 5 ∨ (21 ≤ k ∧ k ≤ 26) → T1 k = T k) → (∀ j, j = 2 ∨ j = 3 ∨ (16 ≤ j ∧ j ≤ 25) → T1 30 j = T 30 j) → RS S1 T1 → Rel S1 T1 := by
    intro S1 T1 h1 h2 h3 h4 h5
    exact ⟨hc.congr (h1 0 (by omega)) (h2 0 (by omega)) (h3 1 (by omega)) (h4 2 (by omega)), hf.congr (by rw [h2 0 (by omega)]; exact Int32.le_refl _) (h2 1 (by omega)) (h1 1 (by omega)) (h1 2 (by omega)) (h4 3 (by omega)) (h3 4 (by omega)) (h3 5 (by omega)), h5, hm.congr (fun k _ _ => h1 k (by omega)) (fun j _ _ => h2 j (by omega)) (fun k _ _ => h3 k (by omega)) (fun j _ _ => h4 j (by omega)), hr.congr (h1 11 (by omega)) (h2 16 (by omega)) (h3 26 (by omega)) (h4 25 (by omega))⟩
  unfold m_X8_pack m_X3_packAll m_X9_pack
  rw [← hT0]
  rcases p1_sim hOF hgn k 0 10000 10000 S T0 (by omega) (by omega) (by omega) hcd0 hf0 (fun j hj => ⟨(hfg j hj).1, (hfg j hj).2.1⟩) ek (fun j hj => absurd hj (by omega)) (by rw [hT0, st_rd]; rfl) (fun x hx => absurd hx (by simp [allB])) with ⟨S1, T1, m1, m2, m3, m4, m5, m6, m7⟩ | ⟨r, S1, T1, m1, m2, m3, m4⟩
  · have e1 : S1 20 1 = nI k := by rw [m3.2 1 (by omega) (by omega) (by omega) (by omega)]; exact ek
    have t3 : T1 30 3 = nI k := by rw [m4.2 3 (by omega) (by omega), T0j 3 (by omega) (by omega), ← f1]; exact ek
    obtain ⟨S2, hS2⟩ : ∃ S2, S2 = st S1 20 6 (0 : Int32) := ⟨_, rfl⟩
    have s2k : ∀ k, k ≠ 20 → S2 k = S1 k := fun k h => by rw [hS2, st_ne _ _ _ h]
    have s2j : ∀ j, j ≠ 6 → S2 20 j = S1 20 j := fun j h => by rw [hS2, st_col _ _ _ h]
    have hall : allB S2 f g k = allB S1 f g k := all_congr k (fun j hj => ⟨by have := (hOF.2.1 j hj).1; omega, fun q _ _ => by rw [s2k 3 (by omega)], fun x _ _ => by rw [s2k 5 (by omega)]⟩)
    have hV2 : VA S2 f g k := by
      intro j hj q q1 q2
      unfold KS
      rw [s2k 3 (by omega), s2k 5 (by omega)]
      exact m5 j hj q q1 q2
    obtain ⟨S3, L, b1, b2, b3⟩ := p2_cls hOF k 0 10000 S2 (by omega) (by omega) (by rw [hS2, st_rd]; rfl) (fun j hj => by
      rw [s2k 1 (by omega), s2k 2 (by omega), m3.1 1 (by omega) (by omega) (by omega) (by omega) (by omega), m3.1 2 (by omega) (by omega) (by omega) (by omega) (by omega)]
      exact ⟨(hfg j hj).1, (hfg j hj).2.1⟩) (by rw [s2j 1 (by omega)]; exact e1) hV2
    rw [allB, List.nil_append, hall] at b2
    subst b2
    rw [allB] at b3
    have hlen : (allB S1 f g k).length ≤ 1076 := by
      have h1 := all_len hOF S1 k (Nat.le_refl _)
      have h2 : hiB g k ≤ 96 := by
        cases k with
        | zero => exact Nat.zero_le _
        | succ k => exact (hOF.2.1 k (by omega)).2
      omega
    obtain ⟨T2, d1, d2, d3, d4, d5⟩ := cp96 hlen (allB S1 f g k).length 0 10000 T1 (by omega) (by omega) m6
    obtain ⟨hb1, hb2, hb3⟩ := b3
    have e6 : S3 20 6 = nI (allB S1 f g k).length := by rw [hb1, List.length_nil, Nat.zero_add]
    have hmem : ∀ v, v ∈ allB S1 f g k → v < 256 := by
      have aux : ∀ i, i ≤ k → ∀ v, v ∈ allB S1 f g i → v < 256 := by
        intro i
        induction i with
        | zero => intro _ v hv; exact absurd hv (by simp [allB])
        | succ i ih =>
          intro hi v hv
          rw [allB, List.mem_append] at hv
          rcases hv with hv | hv
          · exact ih (by omega) v hv
          · have w := hOF.2.1 i (by omega)
            exact fnB_by (by omega) w.2 (m5 i (by omega)) v hv
      exact aux k (Nat.le_refl _)
    have s37 : ∀ x, S3 7 x = if x < (allB S1 f g k).length then nI ((allB S1 f g k).getD x 0) else S 7 x := by
      intro x
      rw [hb2 x, s2k 7 (by omega), m3.1 7 (by omega) (by omega) (by omega) (by omega) (by omega), List.length_nil, Nat.zero_add, Nat.sub_zero]
      by_cases hx : x < (allB S1 f g k).length
      · rw [if_pos ⟨Nat.zero_le _, hx⟩, if_pos hx]
      · rw [if_neg (fun q => hx q.2), if_neg hx]
    refine ⟨nI (allB S1 f g k).length, S3, T2, ?_, ?_, ?_⟩
    · have q : m_X3_packAll_L2 1 (nI k) S1 = some (S3 20 6, S3) := by
        rw [m_X3_packAll_L2, e1, if_pos (nI_le (Nat.le_refl _) (by omega))]
        unfold m_X7_empty
        rw [some_bind', ← hS2]
        exact b1
      rw [show (0 : Int32) = nI 0 from rfl, m1, q, some_bind', e6]
    · rw [show (0 : Int32) = nI 0 from rfl, m2, m_X9_pack_L12, t3, if_pos (nI_le (Nat.le_refl _) (by omega))]
      exact d1
    · refine close S3 T2 (fun k hk => ?_) (fun j hj => ?_) (fun k hk => ?_) (fun j hj => ?_) ⟨?_, ?_, ⟨_, hlen, e6⟩, fun i => ?_⟩
      · rw [hb3.1 k (by omega) (by omega) (by omega) (by omega) (by omega), s2k k (by omega), m3.1 k (by omega) (by omega) (by omega) (by omega) (by omega)]
      · rw [hb3.2 j (by omega) (by omega) (by omega) (by omega), s2j j (by omega), m3.2 j (by omega) (by omega) (by omega) (by omega)]
      · rw [d4 k (by omega) (by omega), m4.1 k (by omega) (by omega) (by omega) (by omega) (by omega) (by omega) (by omega), T0k k (by omega)]
      · rw [d5 j (by omega), m4.2 j (by omega) (by omega), T0j j (by omega) (by omega)]
      · funext x
        rw [s37 x, d3 x]
        by_cases hx : x < (allB S1 f g k).length
        · rw [if_pos hx, if_pos ⟨Nat.zero_le _, hx⟩, m7 x hx]
        · rw [if_neg hx, if_neg (fun q => hx q.2), m4.1 10 (by omega) (by omega) (by omega) (by omega) (by omega) (by omega) (by omega), T0k 10 (by omega), hs.1]
      · rw [e6, d2]
      · rw [s37 i]
        split
        · rename_i q
          refine byteN (hmem _ ?_)
          rw [List.getD_eq_getElem?_getD, List.getElem?_eq_getElem q]
          exact List.getElem_mem _
        · exact hs.2.2.2 i
  · rw [show (0 : Int32) = nI 0 from rfl, m1, m2, some_bind']
    refine ⟨r, S1, T1, rfl, rfl, close S1 T1 (fun k hk => m3.1 k (by omega) (by omega) (by omega) (by omega) (by omega)) (fun j hj => m3.2 j (by omega) (by omega) (by omega) (by omega)) (fun k hk => by rw [m4.1 k (by omega) (by omega) (by omega) (by omega) (by omega) (by omega) (by omega), T0k k (by omega)]) (fun j hj => by rw [m4.2 j (by omega) (by omega), T0j j (by omega) (by omega)]) (hs.congr ?_ ?_ ?_ ?_)⟩
    · exact m3.1 7 (by omega) (by omega) (by omega) (by omega) (by omega)
    · exact m3.2 6 (by omega) (by omega) (by omega) (by omega)
    · rw [m4.1 10 (by omega) (by omega) (by omega) (by omega) (by omega) (by omega) (by omega), T0k 10 (by omega)]
    · rw [m4.2 12 (by omega) (by omega), T0j 12 (by omega) (by omega)]
