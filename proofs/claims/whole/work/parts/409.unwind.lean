theorem wd9g (Z : Int64) (T : St) : m_X9_isWord Z T = some ((if 0 ≤ Z.toInt ∧ Z.toInt < 40 then 1 else 0), T) := by
  unfold m_X9_isWord
  have u0 : (0 : Int64).toInt = 0 := by decide
  have u4 : (40 : Int64).toInt = 40 := by decide
  by_cases h0 : lg_cmp Z 0 < 0
  · rw [if_pos h0]
    rw [lg_cmp_lt, Int64.lt_iff_toInt_lt, u0] at h0
    rw [if_neg (show ¬ (0 ≤ Z.toInt ∧ Z.toInt < 40) by omega)]; rfl
  · rw [if_neg h0]
    rw [lg_cmp_lt, Int64.lt_iff_toInt_lt, u0] at h0
    by_cases h1 : 0 ≤ lg_cmp Z 40
    · rw [if_pos h1]
      rw [lg_cmp_ge, Int64.le_iff_toInt_le, u4] at h1
      rw [if_neg (show ¬ (0 ≤ Z.toInt ∧ Z.toInt < 40) by omega)]; rfl
    · rw [if_neg h1]
      rw [lg_cmp_ge, Int64.le_iff_toInt_le, u4] at h1
      rw [if_pos (show (0 ≤ Z.toInt ∧ Z.toInt < 40) by omega)]; rfl
theorem l_sub1 {X : Int64} (h1 : -2 ^ 40 ≤ X.toInt) (h2 : X.toInt < 2 ^ 40) : (X - 1).toInt = X.toInt - 1 := by
  have u : (1 : Int64).toInt = 1 := by decide
  rw [Int64.toInt_sub, u]
  exact Int.bmod_eq_of_le (by omega) (by omega)
theorem base2 (x : Int32) {b : Nat} (hb : b < 256) : (∃ u : Nat, u < 40 ∧ nI b + x = nI (u + 1) ∧ x.toInt64 + (nI b).toInt64 = lN (u + 1)) ∨ ((∀ S : St, m_X2_isWord (nI b + x - 1) S = some (0, S)) ∧ ∀ T : St, m_X9_isWord (x.toInt64 + (nI b).toInt64 - 1) T = some (0, T)) := by
  have hV : (x.toInt64 + (nI b).toInt64).toInt = x.toInt + b := by rw [lg_i2l_add, nI_toInt (by omega)]
  have r1 := Int32.le_toInt x
  have r2 := Int32.toInt_lt x
  by_cases h : 1 ≤ x.toInt + b ∧ x.toInt + b ≤ 40
  · left
    obtain ⟨u, hu⟩ : ∃ u : Nat, x.toInt + b = (u : Int) + 1 := ⟨(x.toInt + b - 1).toNat, by omega⟩
    refine ⟨u, by omega, ?_, ?_⟩
    · have : x = nI (u + 1) - nI b := by
        apply Int32.toInt_inj.mp
        rw [pk_sub_toInt (by omega) (by omega)]
        omega
      rw [this, Int32.add_comm, Int32.sub_add_cancel]
    · apply Int64.toInt_inj.mp
      rw [hV, lN_toInt (by omega)]
      omega
  · right
    refine ⟨fun S => ?_, fun T => ?_⟩
    · unfold m_X2_isWord
      rcases ix3 (nI b + x - 1) (n := 40) (by omega) with k | ⟨k0, k1, -⟩ | ⟨u, hu, e, -, -, -⟩
      · rw [if_pos k]; rfl
      · rw [if_neg k0, if_pos (show (40 : Int32) ≤ nI b + x - 1 from k1)]; rfl
      · exfalso
        have e1 : nI b + x = nI (u + 1) := by
          rw [← nI_1, ← e, Int32.sub_add_cancel]
        have e2 : x = nI (u + 1) - nI b := by
          rw [← e1, Int32.add_comm, Int32.add_sub_cancel]
        have e3 := congrArg Int32.toInt e2
        rw [pk_sub_toInt (by omega) (by omega)] at e3
        omega
    · rw [wd9g, l_sub1 (by omega) (by omega), hV, if_neg (by omega)]
/-- one register of the frame behind -/
theorem ab_iter {l u r q : Nat} (hl : l ≤ 18) (hu : u < 40) (hr : r < 3) (hq : q < 256) {S T : St} (e1 : S 14 r = nI q) (e2 : T 13 (2 + r) = nI q) (hw : S 8 = T 22) (hp : S 11 (5 * l + 2 + r) = T 26 (5 * l + 2 + r)) (f g : Nat) : (m_X0_addBehind_L93 (f + 1) (nI (5 * l)) (nI (5 * l + 5)) (nI (u + 1)) (nI r) S = some (0, S) ∧ m_X9_nextFrame_L78 (g + 1) (nI (5 * l)) (lN (u + 1)) (nI r) T = some (0, T)) ∨ ∃ v : Int32, m_X0_addBehind_L93 (f + 1) (nI (5 * l)) (nI (5 * l + 5)) (nI (u + 1)) (nI r) S = m_X0_addBehind_L93 f (nI (5 * l)) (nI (5 * l + 5)) (nI (u + 1)) (nI (r + 1)) (st S 11 (5 * l + 7 + r) v) ∧ m_X9_nextFrame_L78 (g + 1) (nI (5 * l)) (lN (u + 1)) (nI r) T = m_X9_nextFrame_L78 g (nI (5 * l)) (lN (u + 1)) (nI (r + 1)) (st T 26 (5 * l + 7 + r) v) := by
  have c3 : ¬ (3 : Int32) ≤ nI r := nI_ge (b := 3) hr (by omega)
  have d1 : inb (nI r) 3 = true := inb_nI hr (by omega)
  have d2 : (nI r).toNatClampNeg = r := nI_cl (by omega)
  have d3 : (2 : Int32) + nI r = nI (2 + r) := by rw [show (2 : Int32) = nI 2 from rfl, nI_add]
  have d4 : inb (nI (2 + r)) 5 = true := inb_nI (by omega) (by omega)
  have d5 : (nI (2 + r)).toNatClampNeg = 2 + r := nI_cl (by omega)
  have x1 : nI (5 * l) + (2 : Int32) + nI r = nI (5 * l + 2 + r) := by rw [show (2 : Int32) = nI 2 from rfl, nI_add, nI_add]
  have x2 : nI (5 * l + 5) + (2 : Int32) + nI r = nI (5 * l + 7 + r) := by rw [show (2 : Int32) = nI 2 from rfl, nI_add, nI_add]
  have x3 : nI (5 * l) + (7 : Int32) + nI r = nI (5 * l + 7 + r) := by rw [show (7 : Int32) = nI 7 from rfl, nI_add, nI_add]
  have y1 : inb (nI (5 * l + 2 + r)) 100 = true := inb_nI (by omega) (by omega)
  have y2 : inb (nI (5 * l + 7 + r)) 100 = true := inb_nI (by omega) (by omega)
  have y3 : (nI (5 * l + 2 + r)).toNatClampNeg = 5 * l + 2 + r := nI_cl (by omega)
  have y4 : (nI (5 * l + 7 + r)).toNatClampNeg = 5 * l + 7 + r := nI_cl (by omega)
  rw [m_X0_addBehind_L93, m_X9_nextFrame_L78, if_neg c3, if_neg c3, if_pos d1, d2, d3, if_pos d4, d5, e1, e2]
  by_cases h0 : q = 0
  · subst h0
    right
    refine ⟨S 11 (5 * l + 2 + r), ?_, ?_⟩
    · rw [if_pos (show nI 0 = 0 from rfl)]
      unfold m_X0_addBehind_L130
      rw [if_pos (show nI 0 = 0 from rfl), x1, x2, if_pos y1, if_pos y2, y3, y4, nI_1]
    · rw [if_pos (show nI 0 ≤ 0 by decide)]
      unfold m_X9_nextFrame_L113
      rw [if_pos (show nI 0 ≤ 0 by decide), x1, x3, if_pos y1, if_pos y2, y3, y4, nI_1, hp]
  · have n0 : ¬ nI q = 0 := nI_ne0 (by omega) (by omega)
    have n1 : ¬ nI q ≤ 0 := nI_nle (by omega) (by omega)
    rw [if_neg n0, if_neg n1, nI_l (show q < 2 ^ 31 by omega)]
    by_cases hqu : q ≤ u + 1
    · have hk : u + 1 - q < 40 := by omega
      have z1 : inb (nI (u + 1 - q)) 40 = true := inb_nI hk (by omega)
      have z2 : (nI (u + 1 - q)).toNatClampNeg = u + 1 - q := nI_cl (by omega)
      right
      refine ⟨S 8 (u + 1 - q), ?_, ?_⟩
      · rw [pk_sub hqu, wd2 (by omega), if_pos hk, some_bind']
        unfold m_X0_addBehind_L130 m_X2_wordAt
        simp only [if_neg i10, if_neg n0, pk_sub hqu, wd2 (show u + 1 - q < 2 ^ 31 by omega), if_pos hk, some_bind', if_pos z1, z2, x2, if_pos y2, y4, nI_1]
      · rw [lN_sub hqu, ← nI_l (show u + 1 - q < 2 ^ 31 by omega), wd9 (by omega), if_pos hk, some_bind']
        unfold m_X9_nextFrame_L113
        simp only [if_neg i10, if_neg n1, lN_i, pk_sub hqu, if_pos z1, z2, x3, if_pos y2, y4, nI_1, hw]
    · left
      constructor
      · have : m_X2_isWord (nI (u + 1) - nI q) S = some (0, S) := by
          unfold m_X2_isWord
          rw [if_pos (pk_sneg (by omega) (by omega))]; rfl
        rw [this, some_bind']; rfl
      · have : m_X9_isWord (lN (u + 1) - lN q) T = some (0, T) := by
          rw [wd9g, ← nI_l (show u + 1 < 2 ^ 31 by omega), ← nI_l (show q < 2 ^ 31 by omega), lg_i2l_sub, nI_toInt (by omega), nI_toInt (by omega), if_neg (by omega)]
        rw [this, some_bind']; rfl
theorem ab_loop {l u : Nat} (hl : l ≤ 18) (hu : u < 40) : ∀ (d r F G : Nat) (S T : St), r + d = 3 → d < F → d < G → (∀ i, r ≤ i → i < 3 → ∃ q : Nat, q < 256 ∧ S 14 i = nI q ∧ T 13 (2 + i) = nI q) → S 8 = T 22 → (∀ i, i < 5 * l + 5 → S 11 i = T 26 i) → (∃ S1 T1 : St, m_X0_addBehind_L93 F (nI (5 * l)) (nI (5 * l + 5)) (nI (u + 1)) (nI r) S = some (0, S1) ∧ m_X9_nextFrame_L78 G (nI (5 * l)) (lN (u + 1)) (nI r) T = some (0, T1) ∧ (∀ k, k ≠ 11 → S1 k = S k) ∧ ∀ k, k ≠ 26 → T1 k = T k) ∨ ∃ S1 T1 : St, m_X0_addBehind_L93 F (nI (5 * l)) (nI (5 * l + 5)) (nI (u + 1)) (nI r) S = some (1, S1) ∧ m_X9_nextFrame_L78 G (nI (5 * l)) (lN (u + 1)) (nI r) T = m_X9_nextFrame_L78 1 (nI (5 * l)) (lN (u + 1)) (nI 3) T1 ∧ (∀ k, k ≠ 11 → S1 k = S k) ∧ (∀ k, k ≠ 26 → T1 k = T k) ∧ (∀ i, i < 5 * l + 7 + r → S1 11 i = S 11 i ∧ T1 26 i = T 26 i) ∧ ∀ i, r ≤ i → i < 3 → S1 11 (5 * l + 7 + i) = T1 26 (5 * l + 7 + i) := by
  intro d
  induction d with
  | zero =>
    intro r F G S T hr hF hG hq hw hp
    obtain ⟨f, rfl⟩ : ∃ f, F = f + 1 := ⟨F - 1, by omega⟩
    obtain ⟨g, rfl⟩ : ∃ g, G = g + 1 := ⟨G - 1, by omega⟩
    obtain rfl : r = 3 := by omega
    have h : (3 : Int32) ≤ nI 3 := by decide
    right
    refine ⟨S, T, ?_, ?_, fun _ _ => rfl, fun _ _ => rfl, fun _ _ => ⟨rfl, rfl⟩, fun i h1 h2 => absurd h1 (by omega)⟩
    · rw [m_X0_addBehind_L93, if_pos h]; rfl
    · rw [m_X9_nextFrame_L78, m_X9_nextFrame_L78, if_pos h, if_pos h]
  | succ d ih =>
    intro r F G S T hr hF hG hq hw hp
    obtain ⟨f, rfl⟩ : ∃ f, F = f + 1 := ⟨F - 1, by omega⟩
    obtain ⟨g, rfl⟩ : ∃ g, G = g + 1 := ⟨G - 1, by omega⟩
    obtain ⟨q, hq1, hq2, hq3⟩ := hq r (by omega) (by omega)
    rcases ab_iter hl hu (show r < 3 by omega) hq1 hq2 hq3 hw (hp _ (by omega)) f g with ⟨a1, a2⟩ | ⟨v, a1, a2⟩
    · left
      exact ⟨S, T, a1, a2, fun _ _ => rfl, fun _ _ => rfl⟩
    · rw [a1, a2]
      rcases ih (r + 1) f g (st S 11 (5 * l + 7 + r) v) (st T 26 (5 * l + 7 + r) v) (by omega) (by omega) (by omega) (fun i h1 h2 => by
          rw [st_row _ _ _ _ (by omega), st_row _ _ _ _ (by omega)]; exact hq i (by omega) h2) (by
          rw [st_ne _ _ _ (by omega), st_ne _ _ _ (by omega)]; exact hw) (fun i hi => by
          rw [st_col _ _ _ (by omega), st_col _ _ _ (by omega)]; exact hp i hi) with ⟨S1, T1, b1, b2, b3, b4⟩ | ⟨S1, T1, b1, b2, b3, b4, b5, b6⟩
      · left
        exact ⟨S1, T1, b1, b2, fun k hk => by rw [b3 k hk, st_ne _ _ _ hk], fun k hk => by rw [b4 k hk, st_ne _ _ _ hk]⟩
      · right
        refine ⟨S1, T1, b1, b2, fun k hk => by rw [b3 k hk, st_ne _ _ _ hk], fun k hk => by rw [b4 k hk, st_ne _ _ _ hk], fun i hi => ?_, fun i h1 h2 => ?_⟩
        · rw [(b5 i (by omega)).1, (b5 i (by omega)).2, st_col _ _ _ (by omega), st_col _ _ _ (by omega)]
          exact ⟨rfl, rfl⟩
        · by_cases h : i = r
          · subst h
            rw [(b5 _ (by omega)).1, (b5 _ (by omega)).2, st_rd, st_rd]
          · exact b6 i (by omega) h2
/-- what the unwinding leaves as it was -/
def Fu (S S1 : St) : Prop := (∀ k, k < 11 → S1 k = S k) ∧ ∀ j, (j < 7 ∨ 9 < j) → j < 16 → S1 20 j = S 20 j
def Gu (T T1 : St) : Prop := (∀ k, k ≠ 13 → k ≠ 14 → k ≠ 15 → k ≠ 26 → k ≠ 30 → T1 k = T k) ∧ ∀ j, j ≠ 0 → j ≠ 25 → T1 30 j = T 30 j
theorem Fu.trans {S S1 S2 : St} (h : Fu S S1) (g : Fu S1 S2) : Fu S S2 := ⟨fun k hk => by rw [g.1 k hk, h.1 k hk], fun j h1 h2 => by rw [g.2 j h1 h2, h.2 j h1 h2]⟩
theorem Gu.trans {S S1 S2 : St} (h : Gu S S1) (g : Gu S1 S2) : Gu S S2 := ⟨fun k h1 h2 h3 h4 h5 => by rw [g.1 k h1 h2 h3 h4 h5, h.1 k h1 h2 h3 h4 h5], fun j h1 h2 => by rw [g.2 j h1 h2, h.2 j h1 h2]⟩
theorem Fr.u {S S1 : St} (h : Fr S S1) : Fu S S1 := ⟨fun k hk => h.1 k (by omega), fun j h1 h2 => h.2 j h1 (by omega)⟩
theorem Gr.u {T T1 : St} (h : Gr T T1) : Gu T T1 := ⟨fun k h1 h2 h3 _ _ => h k h1 h2 h3, fun j _ _ => by rw [h 30 (by omega) (by omega) (by omega)]⟩
theorem RS.u {S T S1 T1 : St} (h : RS S T) (f : Fu S S1) (g : Gu T T1) : RS S1 T1 := h.congr (f.1 7 (by omega)) (f.2 6 (by omega) (by omega)) (g.1 10 (by omega) (by omega) (by omega) (by omega) (by omega)) (g.2 12 (by omega) (by omega))
theorem Rel.u {S T S1 T1 : St} (h : Rel S T) (f : Fu S S1) (g : Gu T T1) (hr : RR S1 T1) : Rel S1 T1 := by
  obtain ⟨hc, hf, hs, hm, -⟩ := h
  have a0 : S1 20 0 = S 20 0 := f.2 0 (by omega) (by omega)
  exact ⟨hc.congr (f.1 0 (by omega)) a0 (g.1 1 (by omega) (by omega) (by omega) (by omega) (by omega)) (g.2 2 (by omega) (by omega)), hf.congr (by rw [a0]; exact Int32.le_refl _) (f.2 1 (by omega) (by omega)) (f.1 1 (by omega)) (f.1 2 (by omega)) (g.2 3 (by omega) (by omega)) (g.1 4 (by omega) (by omega) (by omega) (by omega) (by omega)) (g.1 5 (by omega) (by omega) (by omega) (by omega) (by omega)), hs.u f g, hm.congr (fun k h1 h2 => f.1 k (by omega)) (fun j h1 h2 => f.2 j (by omega) (by omega)) (fun k h1 h2 => g.1 k (by omega) (by omega) (by omega) (by omega) (by omega)) (fun j h1 h2 => g.2 j (by omega) (by omega)), hr⟩
/-- the frame behind: after the row is found -/
theorem ab_sim {l : Nat} (hl : l ≤ 18) {S T : St} (hQ : QF S T) (hby : ∀ k, k < 5 → byte (T 13 k)) (hw : S 8 = T 22) (hp : ∀ i, i < 5 * l + 5 → S 11 i = T 26 i) (z : Int32) (b : Nat) (hb : b < 256) (eb : T 13 1 = nI b) : ∃ (r : Int32) (S1 T1 : St), m_X0_addBehind_L42 (nI (5 * l)) (nI (5 * l + 5)) (nI b) z S = some (r, S1) ∧ m_X9_nextFrame_L54 (nI (5 * l)) z T = some (r, T1) ∧ (∀ k, k ≠ 11 → S1 k = S k) ∧ (∀ k, k ≠ 26 → k ≠ 30 → T1 k = T k) ∧ (∀ j, j ≠ 25 → T1 30 j = T 30 j) ∧ (r = 0 ∨ (r = 1 ∧ T1 30 25 = T 30 25 + 1 ∧ ∀ i, i < 5 * l + 10 → S1 11 i = T1 26 i)) := by
  have n1 : inb (1 : Int32) 5 = true := by decide
  have n2 : (1 : Int32).toNatClampNeg = 1 := by decide
  unfold m_X0_addBehind_L42 m_X9_nextFrame_L54
  rw [if_pos n1, n2, eb]
  rcases base2 z hb with ⟨u, hu, e1, e2⟩ | ⟨e1, e2⟩
  · have e3 : nI (u + 1) - 1 = nI u := nI_pred u
    have e4 : lN (u + 1) - 1 = lN u := lN_sub (a := u + 1) (b := 1) (by omega)
    rw [e1, e2, e3, e4, wd2 (by omega), if_pos hu, some_bind', ← nI_l (show u < 2 ^ 31 by omega), wd9 (by omega), if_pos hu, some_bind']
    have z1 : inb (nI u) 40 = true := inb_nI hu (by omega)
    have z2 : (nI u).toNatClampNeg = u := nI_cl (by omega)
    have z3 : inb (nI (5 * l + 5)) 100 = true := inb_nI (by omega) (by omega)
    have z4 : (nI (5 * l + 5)).toNatClampNeg = 5 * l + 5 := nI_cl (by omega)
    have z5 : inb (nI (5 * l + 5 + 1)) 100 = true := inb_nI (by omega) (by omega)
    have z6 : (nI (5 * l + 5 + 1)).toNatClampNeg = 5 * l + 6 := nI_cl (by omega)
    have hwa : m_X2_wordAt (nI u) S = some (S 8 u, S) := by
      unfold m_X2_wordAt
      rw [wd2 (by omega), if_pos hu, some_bind']
      simp only [if_neg i10, if_pos z1, z2]
    simp only [if_neg i10, hwa, some_bind', nI_1, if_pos z3, z4, if_pos z5, z6]
    obtain ⟨S0, hS0⟩ : ∃ S0, S0 = st (st S 11 (5 * l + 5) (S 8 u)) 11 (5 * l + 6) (nI (u + 1)) := ⟨_, rfl⟩
    have f0 : ∀ k, k ≠ 11 → S0 k = S k := fun k hk => by rw [hS0, st_ne _ _ _ hk, st_ne _ _ _ hk]
    rw [← hS0]
    rcases ab_loop hl hu 3 0 10000 10000 S0 T (by omega) (by omega) (by omega) (fun i _ h2 => by
        obtain ⟨q, hq, eq⟩ := hby (2 + i) (by omega)
        refine ⟨q, hq, ?_, eq⟩
        rw [f0 14 (by omega), ← eq]
        obtain ⟨-, -, q3, q4, q5⟩ := hQ
        rcases (show i = 0 ∨ i = 1 ∨ i = 2 by omega) with rfl | rfl | rfl
        · exact q3
        · exact q4
        · exact q5) (by rw [f0 8 (by omega)]; exact hw) (fun i hi => by
        rw [hS0, st_col _ _ _ (by omega), st_col _ _ _ (by omega)]; exact hp i hi) with ⟨S1, T1, a1, a2, a3, a4⟩ | ⟨S1, T1, a1, a2, a3, a4, a5, a6⟩
    · refine ⟨0, S1, T1, a1, a2, fun k hk => by rw [a3 k hk, f0 k hk], fun k hk _ => a4 k hk, fun j _ => by rw [a4 30 (by omega)], Or.inl rfl⟩
    · have y1 : inb (nI (5 * l + 6)) 100 = true := inb_nI (by omega) (by omega)
      have y2 : (nI (5 * l + 6)).toNatClampNeg = 5 * l + 6 := nI_cl (by omega)
      have y3 : nI (5 * l) + (5 : Int32) = nI (5 * l + 5) := nI_add _ 5
      have y4 : nI (5 * l) + (6 : Int32) = nI (5 * l + 6) := nI_add _ 6
      have y5 : (3 : Int32) ≤ nI 3 := by decide
      have hfin : m_X9_nextFrame_L78 1 (nI (5 * l)) (lN (u + 1)) (nI 3) T1 = some (1, st (st (st T1 26 (5 * l + 5) (T1 22 u)) 26 (5 * l + 6) (nI (u + 1))) 30 25 (T1 30 25 + 1)) := by
        rw [m_X9_nextFrame_L78]
        simp only [if_pos y5, lN_i, e3, if_pos z1, y3, y4, if_pos z3, if_pos y1, z2, z4, y2, bz1]
        rw [st_row _ _ _ _ (show (30 : Nat) ≠ 26 by omega), st_row _ _ _ _ (show (30 : Nat) ≠ 26 by omega)]
      refine ⟨1, S1, _, a1, by rw [show (0 : Int32) = nI 0 from rfl, a2, hfin], fun k hk => by rw [a3 k hk, f0 k hk], fun k hk h30 => by rw [st_ne _ _ _ h30, st_ne _ _ _ hk, st_ne _ _ _ hk, a4 k hk], fun j hj => by rw [st_col _ _ _ hj, st_row _ _ _ _ (by omega), st_row _ _ _ _ (by omega), a4 30 (by omega)], Or.inr ⟨rfl, by rw [st_rd, a4 30 (by omega)], fun i hi => ?_⟩⟩
      rw [st_row _ _ _ _ (show (26 : Nat) ≠ 30 by omega)]
      by_cases h7 : 5 * l + 7 ≤ i
      · obtain ⟨j, rfl⟩ : ∃ j, i = 5 * l + 7 + j := ⟨i - (5 * l + 7), by omega⟩
        rw [st_col _ _ _ (by omega), st_col _ _ _ (by omega)]
        exact a6 j (by omega) (by omega)
      · obtain ⟨b1, b2⟩ := a5 i (by omega)
        rw [b1, hS0]
        by_cases h6 : i = 5 * l + 6
        · subst h6; rw [st_rd, st_rd]
        · rw [st_col _ _ _ h6, st_col _ _ _ h6]
          by_cases h5 : i = 5 * l + 5
          · subst h5; rw [st_rd, st_rd, a4 22 (by omega), hw]
          · rw [st_col _ _ _ h5, st_col _ _ _ h5, b2]
            exact hp i (by omega)
  · rw [e1, e2, some_bind', some_bind']
    exact ⟨0, S, T, rfl, rfl, fun _ _ => rfl, fun _ _ _ => rfl, fun _ _ => rfl, Or.inl rfl⟩
theorem uw_sim : ∀ (m l F G : Nat) (S T : St), l + m = 19 → m < F → m + 1 < G → RS S T → S 8 = T 22 → (∀ i, i < 5 * l + 5 → S 11 i = T 26 i) → S 20 16 = 0 → T 30 25 = nI (l + 1) → ∃ (r : Int32) (S1 T1 : St), m_X0_findFrames_L46 F (nI l) S = some (r, S1) ∧ m_X9_unwind_L73 G 1 T = some (r, T1) ∧ Fu S S1 ∧ Gu T T1 ∧ RR S1 T1 := by
  have bad : ∀ (g : Nat) (T : St), m_X9_unwind_L73 (g + 1) 0 T = some (-1, st T 30 25 0) := fun g T => by
    rw [m_X9_unwind_L73, if_pos rfl]; rfl
  have rr0 : ∀ (S T : St), S 20 16 = 0 → RR S (st T 30 25 0) := fun S T h => ⟨by rw [h, st_rd], 0, by omega, h, fun i hi => absurd hi (by omega)⟩
  have gu0 : ∀ (T : St) (v : Int32), Gu T (st T 30 25 v) := fun T v => ⟨fun k _ _ _ _ h => st_ne _ _ _ h, fun j _ h => st_col _ _ _ h⟩
  intro m
  induction m with
  | zero =>
    intro l F G S T hl hF hG hs hw hp h16 h25
    obtain ⟨f, rfl⟩ : ∃ f, F = f + 1 := ⟨F - 1, by omega⟩
    obtain ⟨g, rfl⟩ : ∃ g, G = g + 2 := ⟨G - 2, by omega⟩
    obtain rfl : l = 19 := by omega
    have c : (19 : Int32) ≤ nI 19 := by decide
    have d1 : inb (nI 19 * (5 : Int32)) 100 = true := by decide
    have d2 : (nI 19 * (5 : Int32)).toNatClampNeg = 95 := by decide
    have d3 : (5 : Int32) * nI (19 + 1) - 5 = nI 95 := by decide
    have d4 : inb (nI 95) 100 = true := by decide
    have d5 : (nI 95).toNatClampNeg = 95 := by decide
    have d6 : (20 : Int32) ≤ nI (19 + 1) := by decide
    rw [m_X0_findFrames_L46, if_pos c, m_X9_unwind_L73, if_neg i10, h25, d3, if_pos d4, d5, ← hp 95 (by omega)]
    unfold m_X0_findFrames_L117
    rw [if_pos d1, d2]
    by_cases h255 : S 11 95 = 255
    · rw [if_pos h255, if_pos h255]
      unfold m_X9_unwind_L121
      rw [if_neg i10, if_neg i10]
      refine ⟨_, st S 20 16 (nI 19 + 1), st T 30 25 (T 30 25), rfl, ?_, ⟨fun k hk => st_ne _ _ _ (by omega), fun j h1 h2 => st_col _ _ _ (by omega)⟩, gu0 T _, ?_⟩
      · rw [st_rd, st_rd, h25, nI_1]
      · refine ⟨by rw [st_rd, st_rd, h25, nI_1], 20, by omega, by rw [st_rd]; rfl, fun i hi => ?_⟩
        rw [st_row _ _ _ _ (by omega), st_row _ _ _ _ (by omega)]
        exact hp i (by omega)
    · rw [if_neg h255, if_neg h255, if_pos d6, bad]
      exact ⟨_, S, _, rfl, rfl, ⟨fun _ _ => rfl, fun _ _ _ => rfl⟩, gu0 T _, rr0 S T h16⟩
  | succ m ih =>
    intro l F G S T hl hF hG hs hw hp h16 h25
    obtain ⟨f, rfl⟩ : ∃ f, F = f + 1 := ⟨F - 1, by omega⟩
    obtain ⟨g, rfl⟩ : ∃ g, G = g + 2 := ⟨G - 2, by omega⟩
    have c : ¬ (19 : Int32) ≤ nI l := nI_ge (b := 19) (by omega) (by omega)
    have d0 : nI l * (5 : Int32) = nI (5 * l) := by rw [show (5 : Int32) = nI 5 from rfl, pk_mul, Nat.mul_comm]
    have d1 : inb (nI (5 * l)) 100 = true := inb_nI (by omega) (by omega)
    have d2 : (nI (5 * l)).toNatClampNeg = 5 * l := nI_cl (by omega)
    have d3 : (5 : Int32) * nI (l + 1) - 5 = nI (5 * l) := by
      rw [show (5 : Int32) = nI 5 from rfl, pk_mul, pk_sub (by omega)]
      congr 1
    have d6 : ¬ (20 : Int32) ≤ nI (l + 1) := nI_ge (b := 20) (by omega) (by omega)
    have d7 : (5 : Int32) * (nI (l + 1) - 1) = nI (5 * l) := by
      rw [nI_pred, show (5 : Int32) = nI 5 from rfl, pk_mul]
    rw [m_X0_findFrames_L46, if_neg c, m_X9_unwind_L73, if_neg i10, h25, d3, d0, if_pos d1, if_pos d1, d2, ← hp (5 * l) (by omega)]
    by_cases h255 : S 11 (5 * l) = 255
    · rw [if_pos h255, if_pos h255]
      unfold m_X9_unwind_L121 m_X0_findFrames_L117
      rw [if_neg i10, if_neg i10, d0, if_pos d1, d2, if_pos h255]
      refine ⟨_, st S 20 16 (nI l + 1), st T 30 25 (T 30 25), rfl, ?_, ⟨fun k hk => st_ne _ _ _ (by omega), fun j h1 h2 => st_col _ _ _ (by omega)⟩, gu0 T _, ?_⟩
      · rw [st_rd, st_rd, h25, nI_1, if_pos d1]
      · refine ⟨by rw [st_rd, st_rd, h25, nI_1], l + 1, by omega, by rw [st_rd, nI_1], fun i hi => ?_⟩
        rw [st_row _ _ _ _ (by omega), st_row _ _ _ _ (by omega)]
        exact hp i (by omega)
    · rw [if_neg h255, if_neg h255, if_neg d6]
      unfold m_X9_nextFrame
      rw [h25, d7, if_pos d1, d2, if_pos d1, ← hp (5 * l) (by omega)]
      obtain ⟨n, B, hB⟩ := hs.sb
      have hn := hB.1
      obtain ⟨r1, S1, r9, T1, k1, k2, k3, k4, k5⟩ := lu_sim (S 11 (5 * l)) n 0 10000 10000 S T (by omega) (by omega) (by omega) (by omega) hB
      have k1' : m_X5_lookUp (S 11 (5 * l)) S = some (r1, S1) := k1
      have k2' : m_X9_findRow (S 11 (5 * l)) T = some (r9, T1) := k2
      have s16 : S1 20 16 = 0 := by rw [k4.2 16 (by omega) (by omega)]; exact h16
      rw [k1', k2', some_bind', some_bind']
      have fail : ∀ (w r : Int32), ¬ w = 0 → ¬ (1 : Int32) ≤ r → ∃ (r : Int32) (S2 T2 : St), (if (w, S1).1 = 0 then m_X0_findFrames_L89 (m_X0_findFrames_L46 f) (nI l) 1 (w, S1).2 else m_X0_findFrames_L89 (m_X0_findFrames_L46 f) (nI l) 0 (w, S1).2) = some (r, S2) ∧ (Option.bind (bz 0 T1) fun r1 => if r1.1 = 0 then m_X9_unwind_L73 (g + 1) 0 r1.2 else m_X9_unwind_L73 (g + 1) 1 r1.2) = some (r, T2) ∧ Fu S S2 ∧ Gu T T2 ∧ RR S2 T2 := by
        intro w r h1 h2
        refine ⟨-1, S1, st T1 30 25 0, ?_, ?_, k4.u, k5.u.trans (gu0 T1 _), rr0 S1 T1 s16⟩
        · rw [if_neg h1]; rfl
        · rw [bz0, some_bind', if_pos rfl, bad]
      rcases k3 with ⟨rfl, rfl⟩ | ⟨rfl, rfl⟩ | ⟨rfl, rfl, hQ, hby⟩
      · exact fail (-1) 0 (by decide) (by decide)
      · exact fail (-2) (-1) (by decide) (by decide)
      · obtain ⟨b, hb, eb⟩ := hby 1 (by omega)
        have p1 : (1 : Int32) ≤ 1 := by decide
        have n0 : inb (0 : Int32) 5 = true := by decide
        have n1 : (0 : Int32).toNatClampNeg = 0 := by decide
        have e1 : nI (5 * l) + (1 : Int32) = nI (5 * l + 1) := nI_add _ 1
        have e2 : nI (5 * l) + (2 : Int32) = nI (5 * l + 2) := nI_add _ 2
        have e20 : nI (5 * l) + (2 : Int32) + (0 : Int32) = nI (5 * l + 2) := by rw [e2]; exact nI_add _ 0
        have e5 : nI (5 * l) + (5 : Int32) = nI (5 * l + 5) := nI_add _ 5
        have i1 : inb (nI (5 * l + 1)) 100 = true := inb_nI (by omega) (by omega)
        have i2 : inb (nI (5 * l + 2)) 100 = true := inb_nI (by omega) (by omega)
        have c1 : (nI (5 * l + 1)).toNatClampNeg = 5 * l + 1 := nI_cl (by omega)
        have c2 : (nI (5 * l + 2)).toNatClampNeg = 5 * l + 2 := nI_cl (by omega)
        have w1 : S1 8 = T1 22 := by rw [k4.1 8 (by omega), k5 22 (by omega) (by omega) (by omega)]; exact hw
        have hp1 : ∀ i, i < 5 * l + 5 → S1 11 i = T1 26 i := fun i hi => by rw [k4.1 11 (by omega), k5 26 (by omega) (by omega) (by omega)]; exact hp i hi
        have t25 : T1 30 25 = nI (l + 1) := by rw [k5 30 (by omega) (by omega) (by omega)]; exact h25
        have e22 : S1 20 22 = nI b := by rw [hQ.2.1]; exact eb
        have main : ∀ z : Int32, ∃ (r : Int32) (S2 T2 : St), ((m_X0_addBehind_L42 (nI (5 * l)) (nI (5 * l + 5)) (nI b) z S1).bind fun r3 => if r3.1 = 0 then some ((-1 : Int32), r3.2) else m_X0_findFrames_L46 f (nI l + 1) r3.2) = some (r, S2) ∧ ((m_X9_nextFrame_L54 (nI (5 * l)) z T1).bind fun r1 => if r1.1 = 0 then m_X9_unwind_L73 (g + 1) 0 r1.2 else m_X9_unwind_L73 (g + 1) 1 r1.2) = some (r, T2) ∧ Fu S S2 ∧ Gu T T2 ∧ RR S2 T2 := by
          intro z
          obtain ⟨r, S2, T2, a1, a2, a3, a4, a5, a6⟩ := ab_sim (show l ≤ 18 by omega) hQ hby w1 hp1 z b hb eb
          have fu2 : Fu S1 S2 := ⟨fun k hk => a3 k (by omega), fun j _ _ => by rw [a3 20 (by omega)]⟩
          have gu2 : Gu T1 T2 := ⟨fun k _ _ _ h4 h5 => a4 k h4 h5, fun j _ h => a5 j h⟩
          have s2 : S2 20 16 = 0 := by rw [a3 20 (by omega)]; exact s16
          rw [a1, a2, some_bind', some_bind']
          rcases a6 with rfl | ⟨rfl, a7, a8⟩
          · refine ⟨-1, S2, st T2 30 25 0, rfl, ?_, k4.u.trans fu2, (k5.u.trans gu2).trans (gu0 T2 _), rr0 S2 T2 s2⟩
            rw [if_pos rfl, bad]
          · obtain ⟨r, S3, T3, b1, b2, b3, b4, b5⟩ := ih (l + 1) f (g + 1) S2 T2 (by omega) (by omega) (by omega) (hs.u (k4.u.trans fu2) (k5.u.trans gu2)) (by rw [a3 8 (by omega), a4 22 (by omega) (by omega)]; exact w1) (fun i hi => a8 i (by omega)) s2 (by rw [a7, t25, nI_1])
            refine ⟨r, S3, T3, ?_, ?_, (k4.u.trans fu2).trans b3, (k5.u.trans gu2).trans b4, b5⟩
            · rw [if_neg i10, nI_1]; exact b1
            · rw [if_neg i10]; exact b2
        rw [if_pos rfl, if_pos p1, if_pos n0, n1, e1, e2, if_pos i2, if_pos i1, c1, c2]
        unfold m_X0_findFrames_L89
        rw [if_neg i10]
        unfold m_X0_addBehind
        rw [d0, e20, e1, e5, if_pos i2, if_pos i1, c1, c2]
        simp only [hQ.1, e22, hp1 (5 * l + 2) (by omega), hp1 (5 * l + 1) (by omega)]
        by_cases hlk : T1 13 0 = 1
        · simp only [if_pos hlk]
          exact main _
        · simp only [if_neg hlk]
          exact main _
theorem sim_unwind (S T : St) (hR : Rel S T) : ∃ (r1 : Int32) (S1 T1 : St), m_X8_unwind S = some (r1, S1) ∧ m_X9_unwind T = some (r1, T1) ∧ Rel S1 T1 := by
  obtain ⟨m1, m2, m3, m4, m5, m6, m7, m8, m9, m10, m11, m12, m13, m14⟩ := id hR.2.2.2.1
  obtain ⟨S0, hS0⟩ : ∃ S0, S0 = st S 20 16 (0 : Int32) := ⟨_, rfl⟩
  obtain ⟨T0, hT0⟩ : ∃ T0, T0 = st (st T 30 0 (0 : Int32)) 30 25 (0 : Int32) := ⟨_, rfl⟩
  have fu0 : Fu S S0 := by rw [hS0]; exact ⟨fun k hk => st_ne _ _ _ (by omega), fun j h1 h2 => st_col _ _ _ (by omega)⟩
  have gu0 : Gu T T0 := by rw [hT0]; exact ⟨fun k _ _ _ _ h => by rw [st_ne _ _ _ h, st_ne _ _ _ h], fun j h1 h2 => by rw [st_col _ _ _ h2, st_col _ _ _ h1]⟩
  have s16 : S0 20 16 = 0 := by rw [hS0, st_rd]
  have t25 : T0 30 25 = 0 := by rw [hT0, st_rd]
  unfold m_X8_unwind m_X0_findFrames m_X9_unwind
  rw [← hS0, ← hT0]
  have e11 : S0 20 11 = S 20 11 := fu0.2 11 (by omega) (by omega)
  have e17 : T0 30 17 = S 20 11 := by rw [gu0.2 17 (by omega) (by omega), m5]
  rw [e11, e17]
  rcases m12 with h0 | ⟨h1, hb⟩
  · rw [if_pos h0, if_pos h0, some_bind']
    exact ⟨_, S0, T0, rfl, rfl, hR.u fu0 gu0 ⟨by rw [s16, t25], 0, by omega, s16, fun i hi => absurd hi (by omega)⟩⟩
  · have n0 : inb (0 : Int32) 100 = true := by decide
    have n1 : inb (1 : Int32) 100 = true := by decide
    have q0 : (0 : Int32).toNatClampNeg = 0 := by decide
    have q1 : (1 : Int32).toNatClampNeg = 1 := by decide
    have hu : ¬ S 20 11 = 0 := by rw [h1]; exact i10
    rw [if_neg hu, if_neg hu, if_pos n0, if_pos n1, q0, q1]
    have b10 : ¬ S0 20 10 = 0 := by rw [fu0.2 10 (by omega) (by omega), hb]; exact i10
    obtain ⟨S5, hS5⟩ : ∃ S5, S5 = st (st (st (st (st S0 11 0 (S 20 12)) 11 1 (S 20 13)) 11 2 (S 9 0)) 11 3 (S 9 1)) 11 4 (S 9 2) := ⟨_, rfl⟩
    obtain ⟨T5, hT5⟩ : ∃ T5, T5 = st (st (st (st (st (st T0 26 0 (S 20 12)) 26 1 (S 20 13)) 26 2 (S 9 0)) 26 3 (S 9 1)) 26 4 (S 9 2)) 30 25 1 := ⟨_, rfl⟩
    have hcl : ∀ F, 6 ≤ F → m_X0_findFrames_L19 F 0 S0 = m_X0_findFrames_L46 10000 0 S5 := by
      intro F hF
      obtain ⟨f, rfl⟩ : ∃ f, F = f + 6 := ⟨F - 6, by omega⟩
      have p20 : ∀ (U : St) (i : Nat) (v : Int32), ¬ U 20 10 = 0 → ¬ st U 11 i v 20 10 = 0 := fun U i v h => by rw [st_row _ _ _ _ (by omega)]; exact h
      have r1 := p20 S0 0 (S 20 12) b10
      have r2 := p20 _ 1 (S 20 13) r1
      have r3 := p20 _ 2 (S 9 0) r2
      have r4 := p20 _ 3 (S 9 1) r3
      have g12 : S0 20 12 = S 20 12 := fu0.2 12 (by omega) (by omega)
      have g13 : ∀ v, st S0 11 0 v 20 13 = S 20 13 := fun v => by rw [st_row _ _ _ _ (by omega)]; exact fu0.2 13 (by omega) (by omega)
      have g9 : S0 9 = S 9 := fu0.1 9 (by omega)
      have x0 : m_X2_part 0 S0 = some (S 20 12, S0) := by unfold m_X2_part; rw [if_neg b10, if_pos rfl, g12]
      have x1 : m_X2_part (0 + 1) (st S0 11 0 (S 20 12)) = some (S 20 13, st S0 11 0 (S 20 12)) := by
        unfold m_X2_part; rw [if_neg r1, if_neg (by decide), if_pos (by decide), g13]
      have x2 : ∀ U : St, ¬ U 20 10 = 0 → U 9 = S 9 → m_X2_part (0 + 1 + 1) U = some (S 9 0, U) := fun U h e => by
        unfold m_X2_part; rw [if_neg h, if_neg (by decide), if_neg (by decide), if_pos (by decide), if_pos (by decide), e]; rfl
      have x3 : ∀ U : St, ¬ U 20 10 = 0 → U 9 = S 9 → m_X2_part (0 + 1 + 1 + 1) U = some (S 9 1, U) := fun U h e => by
        unfold m_X2_part; rw [if_neg h, if_neg (by decide), if_neg (by decide), if_neg (by decide), if_pos (by decide), if_pos (by decide), e]; rfl
      have x4 : ∀ U : St, ¬ U 20 10 = 0 → U 9 = S 9 → m_X2_part (0 + 1 + 1 + 1 + 1) U = some (S 9 2, U) := fun U h e => by
        unfold m_X2_part; rw [if_neg h, if_neg (by decide), if_neg (by decide), if_neg (by decide), if_neg (by decide), if_pos (by decide), if_pos (by decide), e]; rfl
      rw [m_X0_findFrames_L19, if_neg (by decide), x0, some_bind', if_pos n0, q0]
      rw [m_X0_findFrames_L19, if_neg (by decide), x1, some_bind', if_pos (by decide), show (0 + 1 : Int32).toNatClampNeg = 1 by decide]
      rw [m_X0_findFrames_L19, if_neg (by decide), x2 _ r2 (by rw [st_ne _ _ _ (by omega), st_ne _ _ _ (by omega), g9]), some_bind', if_pos (by decide), show (0 + 1 + 1 : Int32).toNatClampNeg = 2 by decide]
      rw [m_X0_findFrames_L19, if_neg (by decide), x3 _ r3 (by rw [st_ne _ _ _ (by omega), st_ne _ _ _ (by omega), st_ne _ _ _ (by omega), g9]), some_bind', if_pos (by decide), show (0 + 1 + 1 + 1 : Int32).toNatClampNeg = 3 by decide]
      rw [m_X0_findFrames_L19, if_neg (by decide), x4 _ r4 (by rw [st_ne _ _ _ (by omega), st_ne _ _ _ (by omega), st_ne _ _ _ (by omega), st_ne _ _ _ (by omega), g9]), some_bind', if_pos (by decide), show (0 + 1 + 1 + 1 + 1 : Int32).toNatClampNeg = 4 by decide]
      rw [m_X0_findFrames_L19, if_pos (by decide), hS5]
    have hrf : ∀ F (U : St), 4 ≤ F → U 21 = S 9 → m_X9_unwind_L41 F 0 U = m_X9_unwind_L73 10000 1 (st (st (st (st U 26 2 (S 9 0)) 26 3 (S 9 1)) 26 4 (S 9 2)) 30 25 1) := by
      intro F U hF hU
      obtain ⟨f, rfl⟩ : ∃ f, F = f + 4 := ⟨F - 4, by omega⟩
      have a1 : ∀ (V : St) k v r, st V 26 k v 21 r = V 21 r := fun V k v r => st_row _ _ _ _ (by omega)
      rw [m_X9_unwind_L41, if_neg (by decide), if_pos (by decide), if_pos (by decide), show ((2 : Int32) + 0).toNatClampNeg = 2 by decide, q0]
      rw [m_X9_unwind_L41, if_neg (by decide), if_pos (by decide), if_pos (by decide), show ((2 : Int32) + (0 + 1)).toNatClampNeg = 3 by decide, show (0 + 1 : Int32).toNatClampNeg = 1 by decide]
      rw [m_X9_unwind_L41, if_neg (by decide), if_pos (by decide), if_pos (by decide), show ((2 : Int32) + (0 + 1 + 1)).toNatClampNeg = 4 by decide, show (0 + 1 + 1 : Int32).toNatClampNeg = 2 by decide]
      rw [m_X9_unwind_L41, if_pos (by decide)]
      simp only [a1, hU]
    have g18 : T0 30 18 = S 20 12 := by rw [gu0.2 18 (by omega) (by omega), m13 hb]
    have g19 : ∀ v, st T0 26 0 v 30 19 = S 20 13 := fun v => by rw [st_row _ _ _ _ (by omega), gu0.2 19 (by omega) (by omega), m6]
    rw [hcl 10000 (by decide), g18, g19, hrf 10000 _ (by decide) (by rw [st_ne _ _ _ (by omega), st_ne _ _ _ (by omega), gu0.1 21 (by omega) (by omega) (by omega) (by omega) (by omega), m2]), ← hT5]
    have fu5 : Fu S0 S5 := by
      rw [hS5]
      exact ⟨fun k hk => by simp [st, show k ≠ 11 by omega], fun j h1 h2 => by simp [st_at]⟩
    have gu5 : Gu T0 T5 := by
      rw [hT5]
      exact ⟨fun k _ _ _ h4 h5 => by simp [st, h4, h5], fun j _ h => by simp [st_at, h]⟩
    obtain ⟨r, S6, T6, k1, k2, k3, k4, k5⟩ := uw_sim 19 0 10000 10000 S5 T5 (by omega) (by omega) (by omega) (hR.2.2.1.u (fu0.trans fu5) (gu0.trans gu5)) (by rw [fu5.1 8 (by omega), fu0.1 8 (by omega), gu5.1 22 (by omega) (by omega) (by omega) (by omega) (by omega), gu0.1 22 (by omega) (by omega) (by omega) (by omega) (by omega), m1]) (fun i hi => by
      rw [hS5, hT5]
      rcases (show i = 0 ∨ i = 1 ∨ i = 2 ∨ i = 3 ∨ i = 4 by omega) with rfl | rfl | rfl | rfl | rfl <;> simp [st_at]) (by rw [hS5]; simp [st_at]; exact s16) (by rw [hT5, st_rd]; rfl)
    rw [show (0 : Int32) = nI 0 from rfl, k1, k2, some_bind']
    exact ⟨r, S6, T6, rfl, rfl, hR.u ((fu0.trans fu5).trans k3) ((gu0.trans gu5).trans k4) k5⟩
