theorem st_rd (S : St) (k j : Nat) (v : Int32) : st S k j v k j = v := by rw [st_at, if_pos ⟨rfl, rfl⟩]
theorem st_row (S : St) {k k' : Nat} (j j' : Nat) (v : Int32) (h : k' ≠ k) : st S k j v k' j' = S k' j' := by rw [st_at, if_neg (fun q => h q.1)]
theorem st_col (S : St) {j j' : Nat} (k : Nat) (v : Int32) (h : j' ≠ j) : st S k j v k j' = S k j' := by rw [st_at, if_neg (fun q => h q.2)]
theorem wd9 {k : Nat} (h : k < 2 ^ 31) (T : St) : m_X9_isWord ((nI k).toInt64) T = some ((if k < 40 then 1 else 0), T) := by
  unfold m_X9_isWord
  rw [nI_l h]
  have h0 : ¬ lg_cmp (lN k) 0 < 0 := by rw [lg_cmp_lt]; exact (fun q => absurd ((pk_lLT (a := k) (b := 0) (by omega) (by omega)).mp q) (by omega))
  rw [if_neg h0]
  by_cases h1 : k < 40
  · have h2 : ¬ 0 ≤ lg_cmp (lN k) 40 := by rw [lg_cmp_ge]; exact fun q => absurd ((pk_lLE (a := 40) (b := k) (by omega) (by omega)).mp q) (by omega)
    rw [if_neg h2, if_pos h1]; rfl
  · have h2 : 0 ≤ lg_cmp (lN k) 40 := by rw [lg_cmp_ge]; exact (pk_lLE (a := 40) (b := k) (by omega) (by omega)).mpr (by omega)
    rw [if_pos h2, if_neg h1]; rfl
theorem wd2 {k : Nat} (h : k < 2 ^ 31) (S : St) : m_X2_isWord (nI k) S = some ((if k < 40 then 1 else 0), S) := by
  unfold m_X2_isWord
  rw [if_neg (nI_pos h)]
  by_cases h1 : k < 40
  · rw [if_neg (show ¬ (40 : Int32) ≤ nI k from nI_ge (b := 40) h1 (by omega)), if_pos h1]; rfl
  · rw [if_pos (show (40 : Int32) ≤ nI k from nI_le (a := 40) (by omega) (by omega)), if_neg h1]; rfl
theorem i10 : ¬ (1 : Int32) = 0 := by decide
theorem stw {k : Nat} (h : k < 2 ^ 31) (v : Int32) (S : St) : m_X2_storeWord (nI k) v S = if k < 40 then some (1, st S 8 k v) else some (0, S) := by
  unfold m_X2_storeWord
  rw [wd2 h, some_bind']
  by_cases h1 : k < 40
  · simp only [if_pos h1, if_neg i10, inb_nI h1 (by omega), if_true, nI_cl h, bz1]
  · simp only [if_neg h1, if_true, bz0]
theorem stp {k : Nat} (h : k < 2 ^ 31) (S : St) : m_X2_setPointer (nI k) S = if k ≤ 40 then some (1, st S 20 13 (nI k)) else some (0, S) := by
  unfold m_X2_setPointer
  rw [if_neg (nI_pos h)]
  by_cases h1 : k ≤ 40
  · rw [if_pos (show nI k ≤ (40 : Int32) from nI_le (b := 40) h1 (by omega)), if_pos h1]; rfl
  · rw [if_neg (show ¬ nI k ≤ (40 : Int32) from nI_ge (a := 40) (by omega) h), if_neg h1]; rfl
theorem stpn {x : Int32} (h : x < 0) (S : St) : m_X2_setPointer x S = some (0, S) := by
  unfold m_X2_setPointer
  rw [if_pos h]; rfl
theorem psh {k : Nat} (h : k ≤ 40) (v : Int32) {S : St} (e : S 20 13 = nI k) : m_X2_pushWord v S = if 1 ≤ k then some (1, st (st S 8 (k - 1) v) 20 13 (nI (k - 1))) else some (0, S) := by
  unfold m_X2_pushWord
  rw [e]
  by_cases h1 : 1 ≤ k
  · have e1 : nI k - 1 = nI (k - 1) := pk_sub (a := k) (b := 1) h1
    have h2 : k - 1 < 40 := by omega
    have h3 : k - 1 ≤ 40 := by omega
    have e2 : st S 8 (k - 1) v 20 13 = nI k := by rw [st_row _ _ _ _ (by omega), e]
    rw [e1, stw (by omega), if_pos h2, some_bind']
    simp only [if_neg i10, e2, e1, stp (show k - 1 < 2 ^ 31 by omega), if_pos h3, some_bind', bz1, if_pos h1]
  · obtain rfl : k = 0 := by omega
    rfl
theorem ldr {r k : Nat} (hr : r < 3) (hk : k < 2 ^ 31) (S : St) : m_X2_loadRegister (nI r) (nI k) S = if k < 40 then some (1, st S 9 r (S 8 k)) else some (0, S) := by
  unfold m_X2_loadRegister
  rw [wd2 hk, some_bind']
  by_cases h1 : k < 40
  · simp only [if_pos h1, if_neg i10, inb_nI h1 (by omega), inb_nI hr (by omega), if_true, nI_cl hk, nI_cl (show r < 2 ^ 31 by omega), bz1]
  · simp only [if_neg h1, if_true, bz0]
def STEP (S T : St) : Prop := ∃ (r1 : Int32) (S1 : St) (r9 : Int32) (T1 : St), m_X8_step S = some (r1, S1) ∧ m_X9_step T = some (r9, T1) ∧ m_X9_thrown T1 = some (S1 40 0, T1) ∧ (S1 40 0 = 0 → r1 = r9) ∧ (S1 40 0 = 0 ∨ S1 40 0 = 1 ∨ S1 40 0 = 2) ∧ Rel S1 T1
theorem fin0 {S T S1 T1 : St} {r9 : Int32} (hS : m_X2_advance S = some (0, S1)) (hT : m_X9_step T = some (r9, T1)) (h0 : T1 30 0 = 0) (hr : S1 20 12 = r9) (hR : Rel S1 T1) : STEP S T := by
  refine ⟨S1 20 12, st S1 40 0 0, r9, T1, ?_, hT, ?_, fun _ => hr, Or.inl ?_, hR.x 0⟩
  · unfold m_X8_step
    rw [hS, some_bind']
    rfl
  · unfold m_X9_thrown; rw [h0, st_rd]
  · rw [st_rd]
theorem fin1 {S T : St} (hR : Rel S T) (hS : m_X2_advance S = some (1, S)) (hT : m_X9_step T = some (0, st T 30 0 1)) : STEP S T := by
  refine ⟨0, st S 40 0 1, 0, _, ?_, hT, ?_, fun _ => rfl, Or.inr (Or.inl ?_), (hR.x 1).t 1⟩
  · unfold m_X8_step
    rw [hS, some_bind']
    rfl
  · unfold m_X9_thrown; rw [st_rd, st_rd]
  · rw [st_rd]
theorem fin2 {S T : St} (hR : Rel S T) (hS : m_X2_advance S = some (2, S)) (hT : m_X9_step T = some (0, st T 30 0 2)) : STEP S T := by
  refine ⟨0, st S 40 0 2, 0, _, ?_, hT, ?_, fun _ => rfl, Or.inr (Or.inr ?_), (hR.x 2).t 2⟩
  · unfold m_X8_step
    rw [hS, some_bind']
    rfl
  · unfold m_X9_thrown; rw [st_rd, st_rd]
  · rw [st_rd]
theorem Rel.step {S T S1 T1 : St} (hR : Rel S T) (r1 : ∀ k, k ≠ 8 → k ≠ 9 → k ≠ 10 → k ≠ 20 → S1 k = S k) (r2 : ∀ j, j ≠ 11 → j ≠ 12 → j ≠ 13 → j ≠ 14 → j ≠ 15 → S1 20 j = S 20 j) (t1 : ∀ k, k ≠ 21 → k ≠ 22 → k ≠ 24 → k ≠ 30 → T1 k = T k) (t2 : ∀ j, j ≠ 0 → j ≠ 17 → j ≠ 18 → j ≠ 19 → j ≠ 20 → j ≠ 23 → T1 30 j = T 30 j) (m1 : S1 8 = T1 22) (m2 : S1 9 = T1 21) (m3 : S1 10 = T1 24) (q1 : S 20 10 = 1) (m5 : S1 20 11 = T1 30 17) (m12 : S1 20 11 = 1 ∨ (S1 20 11 = 0 ∧ S1 20 12 = 255)) (m6 : S1 20 13 = T1 30 19) (m7 : S1 20 14 = T1 30 20) (m8 : S1 20 15 = T1 30 23) (m9 : ∃ n : Nat, n ≤ 40 ∧ S1 20 13 = nI n) (m10 : ∃ n : Nat, n ≤ 40 ∧ S1 20 15 = nI n) (m13 : S1 20 12 = T1 30 18) : Rel S1 T1 := by
  obtain ⟨hc, hf, hs, hm, hr⟩ := hR
  have q2 : S1 20 10 = 1 := by rw [r2 10 (by omega) (by omega) (by omega) (by omega) (by omega)]; exact q1
  have a0 : S1 20 0 = S 20 0 := r2 0 (by omega) (by omega) (by omega) (by omega) (by omega)
  refine ⟨hc.congr (r1 0 (by omega) (by omega) (by omega) (by omega)) a0 (t1 1 (by omega) (by omega) (by omega) (by omega)) (t2 2 (by omega) (by omega) (by omega) (by omega) (by omega) (by omega)), hf.congr (by rw [a0]; exact Int32.le_refl _) (r2 1 (by omega) (by omega) (by omega) (by omega) (by omega)) (r1 1 (by omega) (by omega) (by omega) (by omega)) (r1 2 (by omega) (by omega) (by omega) (by omega)) (t2 3 (by omega) (by omega) (by omega) (by omega) (by omega) (by omega)) (t1 4 (by omega) (by omega) (by omega) (by omega)) (t1 5 (by omega) (by omega) (by omega) (by omega)), hs.congr (r1 7 (by omega) (by omega) (by omega) (by omega)) (r2 6 (by omega) (by omega) (by omega) (by omega) (by omega)) (t1 10 (by omega) (by omega) (by omega) (by omega)) (t2 12 (by omega) (by omega) (by omega) (by omega) (by omega) (by omega)), ⟨m1, m2, m3, ?_, m5, m6, m7, m8, m9, m10, Or.inr q2, ?_, fun _ => m13, fun _ h => ?_⟩, hr.congr (r1 11 (by omega) (by omega) (by omega) (by omega)) (r2 16 (by omega) (by omega) (by omega) (by omega) (by omega)) (t1 26 (by omega) (by omega) (by omega) (by omega)) (t2 25 (by omega) (by omega) (by omega) (by omega) (by omega) (by omega))⟩
  · rw [q2, t2 16 (by omega) (by omega) (by omega) (by omega) (by omega) (by omega), ← hm.2.2.2.1, q1]
  · rcases m12 with h | ⟨h, -⟩
    · exact Or.inr ⟨h, q2⟩
    · exact Or.inl h
  · rcases m12 with h1 | ⟨-, h1⟩
    · rw [h1] at h; exact absurd h i10
    · exact h1
def SX (S T : St) (n p : Nat) (c : Nat → Nat) : Prop := CD S T n c ∧ p < n ∧ S 20 12 = nI p ∧ T 30 18 = nI p ∧ S 20 11 = 1 ∧ T 30 17 = 1 ∧ S 20 10 = 1 ∧ c p < 16 ∧ p + szN (c p) ≤ n ∧ (rgN (c p) = true → c (p + 1) < 3) ∧ wh c p n = szN (c p) ∧ 1 ≤ szN (c p) ∧ szN (c p) ≤ 3
theorem adv_L {S T : St} {n p : Nat} {c : Nat → Nat} (h : SX S T n p c) : m_X2_advance S = m_X2_advance_L29 (nI (szN (c p))) S := by
  obtain ⟨hcd, hp, hx, hy, hru, hrv, hbg, h16, hz, hrg, hw, h1, h3⟩ := id h
  unfold m_X2_advance
  rw [if_neg (show ¬ S 20 11 = 0 by rw [hru]; exact i10), hx, hcd.2.1, wsz_eq hcd hp (Nat.le_refl n), some_bind', hw]
theorem adv_o {S T : St} {n p : Nat} {c : Nat → Nat} (h : SX S T n p c) (h7 : c p ≠ 7) (h8 : c p ≠ 8) (h9 : c p ≠ 9) (h10 : c p ≠ 10) : m_X2_advance S = (m_X2_carryOut (nI (c p)) (cdv (nI (p + 1)) S) (cdv (nI (p + 2)) S) S).bind fun r => if r.1 = 0 then some (2, r.2) else some (0, st r.2 20 12 (nI (p + szN (c p)))) := by
  obtain ⟨hcd, hp, hx, hy, hru, hrv, hbg, h16, hz, hrg, hw, h1, h3⟩ := id h
  rw [adv_L h]
  unfold m_X2_advance_L29
  rw [if_neg (nI_ne0 (by omega) (by omega)), hx, codeAt_eq hcd.1 hcd.2.1, some_bind', cdv_in hcd.1 hcd.2.1 hp, (hcd.2.2.2 p).1]
  simp only [hx, nI_1, codeAt_eq hcd.1 hcd.2.1, some_bind', if_neg (show ¬ nI (c p) = (7 : Int32) from nI_ne (b := 7) (by omega) (by omega) h7), if_neg (show ¬ nI (c p) = (8 : Int32) from nI_ne (b := 8) (by omega) (by omega) h8), if_neg (show ¬ nI (c p) = (9 : Int32) from nI_ne (b := 9) (by omega) (by omega) h9), if_neg (show ¬ nI (c p) = (10 : Int32) from nI_ne (b := 10) (by omega) (by omega) h10), show nI p + (2 : Int32) = nI (p + 2) from nI_add p 2, nI_add]
  rfl
theorem l103_0 {x1 x2 x3 : Int32} {T T0 : St} (h : T0 = st T 30 0 0) {b : Nat} (hb : b < 256) (e : x1 = nI b) : m_X9_lengthOf x1 (st T 30 0 0) = some (nI (szN b), T0) := by rw [e, len_eq hb, h]
theorem stp9 {S T : St} {n p : Nat} {c : Nat → Nat} (h : SX S T n p c) {x2 x3 : Int32} (e2 : x2 = if szN (c p) ≤ 1 then 0 else nI (c (p + 1))) (e3 : x3 = if szN (c p) ≤ 2 then 0 else nI (c (p + 2))) : m_X9_step T = (m_X9_fails (nI (c p)) x2 x3 T).bind fun r => m_X9_step_L103 (nI (c p)) x2 x3 (if r.1 = 0 then 0 else 2) r.2 := by
  obtain ⟨hcd, hp, hx, hy, hru, hrv, hbg, h16, hz, hrg, hw, h1, h3⟩ := id h
  have hn := hcd.1
  have z0 : ¬ wh c p n = 0 := by omega
  have k1 : ∀ z : Nat, z ≤ 3 → ((nI z ≤ (1 : Int32)) ↔ z ≤ 1) := fun z hz => nI_leI (b := 1) (by omega) (by omega)
  have k2 : ∀ z : Nat, z ≤ 3 → ((nI z ≤ (2 : Int32)) ↔ z ≤ 2) := fun z hz => nI_leI (b := 2) (by omega) (by omega)
  have hB : m_X9_step_L62 (nI (c p)) x2 T = (m_X9_fails (nI (c p)) x2 x3 T).bind fun r => m_X9_step_L103 (nI (c p)) x2 x3 (if r.1 = 0 then 0 else 2) r.2 := by
    unfold m_X9_step_L62
    rw [len_eq (by omega), some_bind']
    by_cases h2 : szN (c p) ≤ 2
    · rw [if_pos h2] at e3
      rw [if_pos ((k2 _ h3).mpr h2), e3]
      congr 1
      funext r
      by_cases h0 : r.1 = 0
      · simp only [if_pos h0]
      · simp only [if_neg h0]
    · rw [if_neg h2] at e3
      have b1 : inb (nI (p + 2)) 96 = true := inb_nI (by omega) (by omega)
      have e4 : nI p + (2 : Int32) = nI (p + 2) := nI_add p 2
      simp only [if_neg (fun q => h2 ((k2 _ h3).mp q)), hy, e4, if_pos b1, nI_cl (show p + 2 < 2 ^ 31 by omega), (hcd.2.2.2 (p + 2)).2.1, ← e3]
      congr 1
      funext r
      by_cases h0 : r.1 = 0
      · simp only [if_pos h0]
      · simp only [if_neg h0]
  have b0 : inb (nI p) 96 = true := inb_nI (by omega) (by omega)
  unfold m_X9_step
  rw [if_neg (show ¬ T 30 17 = 0 by rw [hrv]; exact i10), hy, hcd.2.2.1, isw_eq hcd hp (Nat.le_refl n), some_bind']
  simp only [if_neg z0, if_neg i10, hy, if_pos b0, nI_cl (show p < 2 ^ 31 by omega), (hcd.2.2.2 p).2.1, len_eq (show c p < 256 by omega), some_bind']
  by_cases h2 : szN (c p) ≤ 1
  · rw [if_pos h2] at e2
    rw [if_pos ((k1 _ h3).mpr h2), ← hB, e2]
  · rw [if_neg h2] at e2
    have b1 : inb (nI (p + 1)) 96 = true := inb_nI (by omega) (by omega)
    simp only [if_neg (fun q => h2 ((k1 _ h3).mp q)), nI_1, if_pos b1, nI_cl (show p + 1 < 2 ^ 31 by omega), (hcd.2.2.2 (p + 1)).2.1, ← e2]
    exact hB
theorem op0 {S T : St} {n p : Nat} {c : Nat → Nat} (hR : Rel S T) (h : SX S T n p c) (hb : c p = 0) : STEP S T := by
  obtain ⟨hcd, hp, hx, hy, hru, hrv, hbg, h16, hz, hrg, hw, -, -⟩ := id h
  rw [hb] at hz hrg hw
  replace hz : p + 1 ≤ n := hz
  have hn := hcd.1
  obtain ⟨m1, m2, m3, m4, m5, m6, m7, m8, ⟨k, hk, ek⟩, ⟨w, hcw, ew⟩, -⟩ := id hR.2.2.2.1
  have e1 : (nI 0 = (1 : Int32)) = False := eq_false (by decide)
  have e2 : (nI 0 = (2 : Int32)) = False := eq_false (by decide)
  have e3 : (nI 0 = (3 : Int32)) = False := eq_false (by decide)
  have e4 : (nI 0 = (4 : Int32)) = False := eq_false (by decide)
  have e5 : (nI 0 = (5 : Int32)) = False := eq_false (by decide)
  have e6 : (nI 0 = (6 : Int32)) = False := eq_false (by decide)
  have e7 : (nI 0 = (7 : Int32)) = False := eq_false (by decide)
  have e8 : (nI 0 = (8 : Int32)) = False := eq_false (by decide)
  have e9 : (nI 0 = (9 : Int32)) = False := eq_false (by decide)
  have e10 : (nI 0 = (10 : Int32)) = False := eq_false (by decide)
  have e11 : (nI 0 = (11 : Int32)) = False := eq_false (by decide)
  have e12 : (nI 0 = (12 : Int32)) = False := eq_false (by decide)
  have e13 : (nI 0 = (13 : Int32)) = False := eq_false (by decide)
  have e14 : (nI 0 = (14 : Int32)) = False := eq_false (by decide)
  have e15 : (nI 0 = (15 : Int32)) = False := eq_false (by decide)
  have x1 := (hcd.2.2.2 (p + 1)).2.2
  have x2 := (hcd.2.2.2 (p + 2)).2.2
  have hB := stp9 h (x2 := 0) (x3 := 0) (by rw [hb]; rfl) (by rw [hb]; rfl)
  rw [hb] at hB
  have hA := adv_o h (by omega) (by omega) (by omega) (by omega)
  rw [hb] at hA
  replace hA : m_X2_advance S = (m_X2_carryOut (nI 0) (cdv (nI (p + 1)) S) (cdv (nI (p + 2)) S) S).bind fun r => if r.1 = 0 then some (2, r.2) else some (0, st r.2 20 12 (nI (p + 1))) := hA
  obtain ⟨T0, hT0⟩ : ∃ T0, T0 = st T 30 0 (0 : Int32) := ⟨_, rfl⟩
  have t0 : T0 30 0 = 0 := by rw [hT0, st_rd]
  have tl : T0 30 0 ≤ 0 := by rw [t0]; decide
  have tj : ∀ j, j ≠ 0 → T0 30 j = T 30 j := fun j hj => by rw [hT0, st_col _ _ _ hj]
  have tr : ∀ k, k ≠ 30 → T0 k = T k := fun k hk => by rw [hT0]; exact st_ne _ _ _ hk
  have k9 : T0 30 19 = nI k := by rw [tj 19 (by omega), ← m6]; exact ek
  have w9 : T0 30 23 = nI w := by rw [tj 23 (by omega), ← m8]; exact ew
  have y9 : T0 30 18 = nI p := by rw [tj 18 (by omega)]; exact hy
  have a9 : T0 30 20 = S 20 14 := by rw [tj 20 (by omega)]; exact m7.symm
  have v9 : T0 30 17 = 1 := by rw [tj 17 (by omega)]; exact hrv
  have r8 : T0 22 = S 8 := by rw [tr 22 (by omega)]; exact m1.symm
  have r9 : T0 21 = S 9 := by rw [tr 21 (by omega)]; exact m2.symm
  have r10 : T0 24 = S 10 := by rw [tr 24 (by omega)]; exact m3.symm
  have g9 : T 30 19 = nI k := by rw [← m6]; exact ek
  have gw : T 30 23 = nI w := by rw [← m8]; exact ew
  have g21 : T 21 = S 9 := m2.symm
  have hRt : Rel S T0 := by rw [hT0]; exact hR.t 0
  have le := l103_0 (x1 := nI 0) (x2 := 0) (x3 := 0) hT0 (b := 0) (by omega) rfl
  rw [← hT0] at le
  refine fin0 (S1 := st S 20 12 (nI (p + 1))) (T1 := st T0 30 18 (nI (p + 1))) (r9 := nI (p + 1)) ?_ ?_ ?_ ?_ ?_
  · rw [hA]
    unfold m_X2_carryOut
    simp only [some_bind', if_true, if_false, bz0, bz1, e1, e2, e3, e4, e5, e6, e7, e8, e9, e10, e11, e12, e13, e14, e15, if_neg i10]
  · have hf : m_X9_fails (nI 0) 0 0 T = some (0, T) := by
      unfold m_X9_fails
      simp only [some_bind', if_true, if_false, bz0, bz1, e1, e2, e3, e4, e5, e6, e7, e8, e9, e10, e11, e12, e13, e14, e15]
    rw [hB, hf, some_bind', if_pos rfl]
    unfold m_X9_step_L103
    rw [← hT0, if_pos tl, le, some_bind']
    simp only [some_bind', if_true, if_false, bz0, bz1, e1, e2, e3, e4, e5, e6, e7, e8, e9, e10, e11, e12, e13, e14, e15, y9, k9, w9, st_rd, st_row, st_col, ne_eq, not_false_eq_true, Nat.reduceEqDiff, show nI p + nI (szN 0) = nI (p + 1) from nI_add p 1]
    unfold m_X9_step_L513
    rw [st_rd]
  · simp [st_at, t0]
  · simp [st_at]
  · refine hRt.step (fun k h1 h2 h3 h4 => ?_) (fun j h1 h2 h3 h4 h5 => ?_) (fun k h1 h2 h3 h4 => ?_) (fun j h1 h2 h3 h4 h5 h6 => ?_) ?_ ?_ ?_ hbg ?_ (Or.inl ?_) ?_ ?_ ?_ ⟨k, ?_, ?_⟩ ⟨w, ?_, ?_⟩ ?_
    · simp [st, h1, h2, h3, h4]
    · simp [st_at, h1, h2, h3, h4, h5]
    · simp [st, h1, h2, h3, h4]
    · simp [st_at, h1, h2, h3, h4, h5, h6]
    · funext j; simp [st_at, r8, r9, r10]
    · funext j; simp [st_at, r8, r9, r10]
    · funext j; simp [st_at, r8, r9, r10]
    · simp [st_at, hru, v9]
    · simp [st_at, hru]
    · simp [st_at, ek, k9, r9]
    · simp [st_at, a9]
    · simp [st_at, ew, w9]
    · exact (show k ≤ 40 by omega)
    · simp [st_at, ek]
    · exact (show w ≤ 40 by omega)
    · simp [st_at, ew]
    · simp [st_at]
theorem op1 {S T : St} {n p : Nat} {c : Nat → Nat} (hR : Rel S T) (h : SX S T n p c) (hb : c p = 1) : STEP S T := by
  obtain ⟨hcd, hp, hx, hy, hru, hrv, hbg, h16, hz, hrg, hw, -, -⟩ := id h
  rw [hb] at hz hrg hw
  replace hz : p + 2 ≤ n := hz
  have hn := hcd.1
  obtain ⟨m1, m2, m3, m4, m5, m6, m7, m8, ⟨k, hk, ek⟩, ⟨w, hcw, ew⟩, -⟩ := id hR.2.2.2.1
  have e1 : (nI 1 = (1 : Int32)) = True := eq_true rfl
  have e2 : (nI 1 = (2 : Int32)) = False := eq_false (by decide)
  have e3 : (nI 1 = (3 : Int32)) = False := eq_false (by decide)
  have e4 : (nI 1 = (4 : Int32)) = False := eq_false (by decide)
  have e5 : (nI 1 = (5 : Int32)) = False := eq_false (by decide)
  have e6 : (nI 1 = (6 : Int32)) = False := eq_false (by decide)
  have e7 : (nI 1 = (7 : Int32)) = False := eq_false (by decide)
  have e8 : (nI 1 = (8 : Int32)) = False := eq_false (by decide)
  have e9 : (nI 1 = (9 : Int32)) = False := eq_false (by decide)
  have e10 : (nI 1 = (10 : Int32)) = False := eq_false (by decide)
  have e11 : (nI 1 = (11 : Int32)) = False := eq_false (by decide)
  have e12 : (nI 1 = (12 : Int32)) = False := eq_false (by decide)
  have e13 : (nI 1 = (13 : Int32)) = False := eq_false (by decide)
  have e14 : (nI 1 = (14 : Int32)) = False := eq_false (by decide)
  have e15 : (nI 1 = (15 : Int32)) = False := eq_false (by decide)
  have x1 := (hcd.2.2.2 (p + 1)).2.2
  have x2 := (hcd.2.2.2 (p + 2)).2.2
  have h3 : c (p + 1) < 3 := hrg rfl
  have n3 : inb (nI (c (p + 1))) 3 = true := inb_nI h3 (by omega)
  have n4 : (nI (c (p + 1))).toNatClampNeg = c (p + 1) := nI_cl (by omega)
  have hB := stp9 h (x2 := nI (c (p + 1))) (x3 := 0) (by rw [hb]; rfl) (by rw [hb]; rfl)
  rw [hb] at hB
  have hA := adv_o h (by omega) (by omega) (by omega) (by omega)
  rw [hb] at hA
  rw [cdv_in hn hcd.2.1 (show p + 1 < n by omega), (hcd.2.2.2 (p + 1)).1] at hA
  replace hA : m_X2_advance S = (m_X2_carryOut (nI 1) (nI (c (p + 1))) (cdv (nI (p + 2)) S) S).bind fun r => if r.1 = 0 then some (2, r.2) else some (0, st r.2 20 12 (nI (p + 2))) := hA
  obtain ⟨T0, hT0⟩ : ∃ T0, T0 = st T 30 0 (0 : Int32) := ⟨_, rfl⟩
  have t0 : T0 30 0 = 0 := by rw [hT0, st_rd]
  have tl : T0 30 0 ≤ 0 := by rw [t0]; decide
  have tj : ∀ j, j ≠ 0 → T0 30 j = T 30 j := fun j hj => by rw [hT0, st_col _ _ _ hj]
  have tr : ∀ k, k ≠ 30 → T0 k = T k := fun k hk => by rw [hT0]; exact st_ne _ _ _ hk
  have k9 : T0 30 19 = nI k := by rw [tj 19 (by omega), ← m6]; exact ek
  have w9 : T0 30 23 = nI w := by rw [tj 23 (by omega), ← m8]; exact ew
  have y9 : T0 30 18 = nI p := by rw [tj 18 (by omega)]; exact hy
  have a9 : T0 30 20 = S 20 14 := by rw [tj 20 (by omega)]; exact m7.symm
  have v9 : T0 30 17 = 1 := by rw [tj 17 (by omega)]; exact hrv
  have r8 : T0 22 = S 8 := by rw [tr 22 (by omega)]; exact m1.symm
  have r9 : T0 21 = S 9 := by rw [tr 21 (by omega)]; exact m2.symm
  have r10 : T0 24 = S 10 := by rw [tr 24 (by omega)]; exact m3.symm
  have g9 : T 30 19 = nI k := by rw [← m6]; exact ek
  have gw : T 30 23 = nI w := by rw [← m8]; exact ew
  have g21 : T 21 = S 9 := m2.symm
  have hRt : Rel S T0 := by rw [hT0]; exact hR.t 0
  have le := l103_0 (x1 := nI 1) (x2 := 0) (x3 := 0) hT0 (b := 1) (by omega) rfl
  rw [← hT0] at le
  have q1 : nI k - (1 : Int32) = nI (k - 1) ∨ k = 0 := by
    by_cases h0 : k = 0
    · exact Or.inr h0
    · exact Or.inl (pk_sub (a := k) (b := 1) (by omega))
  by_cases h1 : 1 ≤ k
  · have q2 : nI k - (1 : Int32) = nI (k - 1) := pk_sub (a := k) (b := 1) h1
    have q3 : (1 : Int32) ≤ nI k := nI_le (a := 1) h1 (by omega)
    have q4 : inb (nI (k - 1)) 40 = true := inb_nI (by omega) (by omega)
    have q5 : (nI (k - 1)).toNatClampNeg = k - 1 := nI_cl (by omega)
    refine fin0 (S1 := st (st (st S 8 (k - 1) (S 9 (c (p + 1)))) 20 13 (nI (k - 1))) 20 12 (nI (p + 2))) (T1 := st (st (st T0 30 19 (nI (k - 1))) 22 (k - 1) (T0 21 (c (p + 1)))) 30 18 (nI (p + 2))) (r9 := nI (p + 2)) ?_ ?_ ?_ ?_ ?_
    · rw [hA]
      unfold m_X2_carryOut
      simp only [some_bind', if_true, if_false, bz0, bz1, e1, e2, e3, e4, e5, e6, e7, e8, e9, e10, e11, e12, e13, e14, e15, if_neg i10, n3, n4, psh hk _ ek, if_pos h1]
    · have hf : m_X9_fails (nI 1) (nI (c (p + 1))) 0 T = some (0, T) := by
        unfold m_X9_fails
        simp only [some_bind', if_true, if_false, bz0, bz1, e1, e2, e3, e4, e5, e6, e7, e8, e9, e10, e11, e12, e13, e14, e15, g9, if_pos q3]
      rw [hB, hf, some_bind', if_pos rfl]
      unfold m_X9_step_L103
      rw [← hT0, if_pos tl, le, some_bind']
      simp only [some_bind', if_true, if_false, bz0, bz1, e1, e2, e3, e4, e5, e6, e7, e8, e9, e10, e11, e12, e13, e14, e15, y9, k9, w9, st_rd, st_row, st_col, ne_eq, not_false_eq_true, Nat.reduceEqDiff, n3, n4, q2, q4, q5, show nI p + nI (szN 1) = nI (p + 2) from nI_add p 2]
      unfold m_X9_step_L513
      rw [st_rd]
    · simp [st_at, t0]
    · simp [st_at]
    · refine hRt.step (fun k h1 h2 h3 h4 => ?_) (fun j h1 h2 h3 h4 h5 => ?_) (fun k h1 h2 h3 h4 => ?_) (fun j h1 h2 h3 h4 h5 h6 => ?_) ?_ ?_ ?_ hbg ?_ (Or.inl ?_) ?_ ?_ ?_ ⟨(k - 1), ?_, ?_⟩ ⟨w, ?_, ?_⟩ ?_
      · simp [st, h1, h2, h3, h4]
      · simp [st_at, h1, h2, h3, h4, h5]
      · simp [st, h1, h2, h3, h4]
      · simp [st_at, h1, h2, h3, h4, h5, h6]
      · funext j; simp [st_at, r8, r9, r10]
      · funext j; simp [st_at, r8, r9, r10]
      · funext j; simp [st_at, r8, r9, r10]
      · simp [st_at, hru, v9]
      · simp [st_at, hru]
      · simp [st_at, ek, k9, r9]
      · simp [st_at, a9]
      · simp [st_at, ew, w9]
      · exact (show (k - 1) ≤ 40 by omega)
      · simp [st_at, ek]
      · exact (show w ≤ 40 by omega)
      · simp [st_at, ew]
      · simp [st_at]
  · have q3 : ¬ (1 : Int32) ≤ nI k := nI_ge (b := 1) (by omega) (by omega)
    refine fin2 hR ?_ ?_
    · rw [hA]
      unfold m_X2_carryOut
      simp only [some_bind', if_true, if_false, bz0, bz1, e1, e2, e3, e4, e5, e6, e7, e8, e9, e10, e11, e12, e13, e14, e15, n3, n4, psh hk _ ek, if_neg h1]
    · have hf : m_X9_fails (nI 1) (nI (c (p + 1))) 0 T = some (1, T) := by
        unfold m_X9_fails
        simp only [some_bind', if_true, if_false, bz0, bz1, e1, e2, e3, e4, e5, e6, e7, e8, e9, e10, e11, e12, e13, e14, e15, g9, if_neg q3]
      rw [hB, hf, some_bind', if_neg i10]
      unfold m_X9_step_L103
      rw [st_rd, if_neg (show ¬ (2 : Int32) ≤ 0 by decide)]
theorem op2 {S T : St} {n p : Nat} {c : Nat → Nat} (hR : Rel S T) (h : SX S T n p c) (hb : c p = 2) : STEP S T := by
  obtain ⟨hcd, hp, hx, hy, hru, hrv, hbg, h16, hz, hrg, hw, -, -⟩ := id h
  rw [hb] at hz hrg hw
  replace hz : p + 2 ≤ n := hz
  have hn := hcd.1
  obtain ⟨m1, m2, m3, m4, m5, m6, m7, m8, ⟨k, hk, ek⟩, ⟨w, hcw, ew⟩, -⟩ := id hR.2.2.2.1
  have e1 : (nI 2 = (1 : Int32)) = False := eq_false (by decide)
  have e2 : (nI 2 = (2 : Int32)) = True := eq_true rfl
  have e3 : (nI 2 = (3 : Int32)) = False := eq_false (by decide)
  have e4 : (nI 2 = (4 : Int32)) = False := eq_false (by decide)
  have e5 : (nI 2 = (5 : Int32)) = False := eq_false (by decide)
  have e6 : (nI 2 = (6 : Int32)) = False := eq_false (by decide)
  have e7 : (nI 2 = (7 : Int32)) = False := eq_false (by decide)
  have e8 : (nI 2 = (8 : Int32)) = False := eq_false (by decide)
  have e9 : (nI 2 = (9 : Int32)) = False := eq_false (by decide)
  have e10 : (nI 2 = (10 : Int32)) = False := eq_false (by decide)
  have e11 : (nI 2 = (11 : Int32)) = False := eq_false (by decide)
  have e12 : (nI 2 = (12 : Int32)) = False := eq_false (by decide)
  have e13 : (nI 2 = (13 : Int32)) = False := eq_false (by decide)
  have e14 : (nI 2 = (14 : Int32)) = False := eq_false (by decide)
  have e15 : (nI 2 = (15 : Int32)) = False := eq_false (by decide)
  have x1 := (hcd.2.2.2 (p + 1)).2.2
  have x2 := (hcd.2.2.2 (p + 2)).2.2
  have h3 : c (p + 1) < 3 := hrg rfl
  have n3 : inb (nI (c (p + 1))) 3 = true := inb_nI h3 (by omega)
  have n4 : (nI (c (p + 1))).toNatClampNeg = c (p + 1) := nI_cl (by omega)
  have hB := stp9 h (x2 := nI (c (p + 1))) (x3 := 0) (by rw [hb]; rfl) (by rw [hb]; rfl)
  rw [hb] at hB
  have hA := adv_o h (by omega) (by omega) (by omega) (by omega)
  rw [hb] at hA
  rw [cdv_in hn hcd.2.1 (show p + 1 < n by omega), (hcd.2.2.2 (p + 1)).1] at hA
  replace hA : m_X2_advance S = (m_X2_carryOut (nI 2) (nI (c (p + 1))) (cdv (nI (p + 2)) S) S).bind fun r => if r.1 = 0 then some (2, r.2) else some (0, st r.2 20 12 (nI (p + 2))) := hA
  obtain ⟨T0, hT0⟩ : ∃ T0, T0 = st T 30 0 (0 : Int32) := ⟨_, rfl⟩
  have t0 : T0 30 0 = 0 := by rw [hT0, st_rd]
  have tl : T0 30 0 ≤ 0 := by rw [t0]; decide
  have tj : ∀ j, j ≠ 0 → T0 30 j = T 30 j := fun j hj => by rw [hT0, st_col _ _ _ hj]
  have tr : ∀ k, k ≠ 30 → T0 k = T k := fun k hk => by rw [hT0]; exact st_ne _ _ _ hk
  have k9 : T0 30 19 = nI k := by rw [tj 19 (by omega), ← m6]; exact ek
  have w9 : T0 30 23 = nI w := by rw [tj 23 (by omega), ← m8]; exact ew
  have y9 : T0 30 18 = nI p := by rw [tj 18 (by omega)]; exact hy
  have a9 : T0 30 20 = S 20 14 := by rw [tj 20 (by omega)]; exact m7.symm
  have v9 : T0 30 17 = 1 := by rw [tj 17 (by omega)]; exact hrv
  have r8 : T0 22 = S 8 := by rw [tr 22 (by omega)]; exact m1.symm
  have r9 : T0 21 = S 9 := by rw [tr 21 (by omega)]; exact m2.symm
  have r10 : T0 24 = S 10 := by rw [tr 24 (by omega)]; exact m3.symm
  have g9 : T 30 19 = nI k := by rw [← m6]; exact ek
  have gw : T 30 23 = nI w := by rw [← m8]; exact ew
  have g21 : T 21 = S 9 := m2.symm
  have hRt : Rel S T0 := by rw [hT0]; exact hR.t 0
  have le := l103_0 (x1 := nI 2) (x2 := 0) (x3 := 0) hT0 (b := 2) (by omega) rfl
  rw [← hT0] at le
  by_cases h1 : k < 40
  · have h2 : k + 1 ≤ 40 := by omega
    have q4 : inb (nI k) 40 = true := inb_nI h1 (by omega)
    have q5 : (nI k).toNatClampNeg = k := nI_cl (by omega)
    have q6 : st S 9 (c (p + 1)) (S 8 k) 20 13 = nI k := by rw [st_row _ _ _ _ (by omega), ek]
    refine fin0 (S1 := st (st (st S 9 (c (p + 1)) (S 8 k)) 20 13 (nI (k + 1))) 20 12 (nI (p + 2))) (T1 := st (st (st T0 21 (c (p + 1)) (T0 22 k)) 30 19 (nI (k + 1))) 30 18 (nI (p + 2))) (r9 := nI (p + 2)) ?_ ?_ ?_ ?_ ?_
    · rw [hA]
      unfold m_X2_carryOut
      simp only [some_bind', if_true, if_false, bz0, bz1, e1, e2, e3, e4, e5, e6, e7, e8, e9, e10, e11, e12, e13, e14, e15, if_neg i10, ek, ldr h3 (show k < 2 ^ 31 by omega), if_pos h1, q6, nI_1, stp (show k + 1 < 2 ^ 31 by omega), if_pos h2]
    · have hf : m_X9_fails (nI 2) (nI (c (p + 1))) 0 T = some (0, T) := by
        unfold m_X9_fails
        simp only [some_bind', if_true, if_false, bz0, bz1, e1, e2, e3, e4, e5, e6, e7, e8, e9, e10, e11, e12, e13, e14, e15, g9, wd9 (show k < 2 ^ 31 by omega), if_pos h1, if_neg i10]
      rw [hB, hf, some_bind', if_pos rfl]
      unfold m_X9_step_L103
      rw [← hT0, if_pos tl, le, some_bind']
      simp only [some_bind', if_true, if_false, bz0, bz1, e1, e2, e3, e4, e5, e6, e7, e8, e9, e10, e11, e12, e13, e14, e15, y9, k9, w9, st_rd, st_row, st_col, ne_eq, not_false_eq_true, Nat.reduceEqDiff, n3, n4, q4, q5, nI_1, show nI p + nI (szN 2) = nI (p + 2) from nI_add p 2]
      unfold m_X9_step_L513
      rw [st_rd]
    · simp [st_at, t0]
    · simp [st_at]
    · refine hRt.step (fun k h1 h2 h3 h4 => ?_) (fun j h1 h2 h3 h4 h5 => ?_) (fun k h1 h2 h3 h4 => ?_) (fun j h1 h2 h3 h4 h5 h6 => ?_) ?_ ?_ ?_ hbg ?_ (Or.inl ?_) ?_ ?_ ?_ ⟨(k + 1), ?_, ?_⟩ ⟨w, ?_, ?_⟩ ?_
      · simp [st, h1, h2, h3, h4]
      · simp [st_at, h1, h2, h3, h4, h5]
      · simp [st, h1, h2, h3, h4]
      · simp [st_at, h1, h2, h3, h4, h5, h6]
      · funext j; simp [st_at, r8, r9, r10]
      · funext j; simp [st_at, r8, r9, r10]
      · funext j; simp [st_at, r8, r9, r10]
      · simp [st_at, hru, v9]
      · simp [st_at, hru]
      · simp [st_at, ek, k9, r9]
      · simp [st_at, a9]
      · simp [st_at, ew, w9]
      · exact (show (k + 1) ≤ 40 by omega)
      · simp [st_at, ek]
      · exact (show w ≤ 40 by omega)
      · simp [st_at, ew]
      · simp [st_at]
  · have q0 : True := trivial
    refine fin2 hR ?_ ?_
    · rw [hA]
      unfold m_X2_carryOut
      simp only [some_bind', if_true, if_false, bz0, bz1, e1, e2, e3, e4, e5, e6, e7, e8, e9, e10, e11, e12, e13, e14, e15, ek, ldr h3 (show k < 2 ^ 31 by omega), if_neg h1]
    · have hf : m_X9_fails (nI 2) (nI (c (p + 1))) 0 T = some (1, T) := by
        unfold m_X9_fails
        simp only [some_bind', if_true, if_false, bz0, bz1, e1, e2, e3, e4, e5, e6, e7, e8, e9, e10, e11, e12, e13, e14, e15, g9, wd9 (show k < 2 ^ 31 by omega), if_neg h1]
      rw [hB, hf, some_bind', if_neg i10]
      unfold m_X9_step_L103
      rw [st_rd, if_neg (show ¬ (2 : Int32) ≤ 0 by decide)]
theorem op3 {S T : St} {n p : Nat} {c : Nat → Nat} (hR : Rel S T) (h : SX S T n p c) (hb : c p = 3) : STEP S T := by
  obtain ⟨hcd, hp, hx, hy, hru, hrv, hbg, h16, hz, hrg, hw, -, -⟩ := id h
  rw [hb] at hz hrg hw
  replace hz : p + 2 ≤ n := hz
  have hn := hcd.1
  obtain ⟨m1, m2, m3, m4, m5, m6, m7, m8, ⟨k, hk, ek⟩, ⟨w, hcw, ew⟩, -⟩ := id hR.2.2.2.1
  have e1 : (nI 3 = (1 : Int32)) = False := eq_false (by decide)
  have e2 : (nI 3 = (2 : Int32)) = False := eq_false (by decide)
  have e3 : (nI 3 = (3 : Int32)) = True := eq_true rfl
  have e4 : (nI 3 = (4 : Int32)) = False := eq_false (by decide)
  have e5 : (nI 3 = (5 : Int32)) = False := eq_false (by decide)
  have e6 : (nI 3 = (6 : Int32)) = False := eq_false (by decide)
  have e7 : (nI 3 = (7 : Int32)) = False := eq_false (by decide)
  have e8 : (nI 3 = (8 : Int32)) = False := eq_false (by decide)
  have e9 : (nI 3 = (9 : Int32)) = False := eq_false (by decide)
  have e10 : (nI 3 = (10 : Int32)) = False := eq_false (by decide)
  have e11 : (nI 3 = (11 : Int32)) = False := eq_false (by decide)
  have e12 : (nI 3 = (12 : Int32)) = False := eq_false (by decide)
  have e13 : (nI 3 = (13 : Int32)) = False := eq_false (by decide)
  have e14 : (nI 3 = (14 : Int32)) = False := eq_false (by decide)
  have e15 : (nI 3 = (15 : Int32)) = False := eq_false (by decide)
  have x1 := (hcd.2.2.2 (p + 1)).2.2
  have x2 := (hcd.2.2.2 (p + 2)).2.2
  have hB := stp9 h (x2 := nI (c (p + 1))) (x3 := 0) (by rw [hb]; rfl) (by rw [hb]; rfl)
  rw [hb] at hB
  have hA := adv_o h (by omega) (by omega) (by omega) (by omega)
  rw [hb] at hA
  rw [cdv_in hn hcd.2.1 (show p + 1 < n by omega), (hcd.2.2.2 (p + 1)).1] at hA
  replace hA : m_X2_advance S = (m_X2_carryOut (nI 3) (nI (c (p + 1))) (cdv (nI (p + 2)) S) S).bind fun r => if r.1 = 0 then some (2, r.2) else some (0, st r.2 20 12 (nI (p + 2))) := hA
  obtain ⟨T0, hT0⟩ : ∃ T0, T0 = st T 30 0 (0 : Int32) := ⟨_, rfl⟩
  have t0 : T0 30 0 = 0 := by rw [hT0, st_rd]
  have tl : T0 30 0 ≤ 0 := by rw [t0]; decide
  have tj : ∀ j, j ≠ 0 → T0 30 j = T 30 j := fun j hj => by rw [hT0, st_col _ _ _ hj]
  have tr : ∀ k, k ≠ 30 → T0 k = T k := fun k hk => by rw [hT0]; exact st_ne _ _ _ hk
  have k9 : T0 30 19 = nI k := by rw [tj 19 (by omega), ← m6]; exact ek
  have w9 : T0 30 23 = nI w := by rw [tj 23 (by omega), ← m8]; exact ew
  have y9 : T0 30 18 = nI p := by rw [tj 18 (by omega)]; exact hy
  have a9 : T0 30 20 = S 20 14 := by rw [tj 20 (by omega)]; exact m7.symm
  have v9 : T0 30 17 = 1 := by rw [tj 17 (by omega)]; exact hrv
  have r8 : T0 22 = S 8 := by rw [tr 22 (by omega)]; exact m1.symm
  have r9 : T0 21 = S 9 := by rw [tr 21 (by omega)]; exact m2.symm
  have r10 : T0 24 = S 10 := by rw [tr 24 (by omega)]; exact m3.symm
  have g9 : T 30 19 = nI k := by rw [← m6]; exact ek
  have gw : T 30 23 = nI w := by rw [← m8]; exact ew
  have g21 : T 21 = S 9 := m2.symm
  have hRt : Rel S T0 := by rw [hT0]; exact hR.t 0
  have le := l103_0 (x1 := nI 3) (x2 := 0) (x3 := 0) hT0 (b := 3) (by omega) rfl
  rw [← hT0] at le
  obtain ⟨x, hx9⟩ : ∃ x, c (p + 1) = x := ⟨_, rfl⟩
  rw [hx9] at x1
  by_cases h1 : x ≤ k
  · have q2 : nI k - nI x = nI (k - x) := pk_sub h1
    have q3 : 0 ≤ nI (k - x) := nI_pos' (by omega)
    have q4 : k - x ≤ 40 := by omega
    refine fin0 (S1 := st (st S 20 13 (nI (k - x))) 20 12 (nI (p + 2))) (T1 := st (st T0 30 19 (nI (k - x))) 30 18 (nI (p + 2))) (r9 := nI (p + 2)) ?_ ?_ ?_ ?_ ?_
    · rw [hA]
      unfold m_X2_carryOut
      simp only [some_bind', if_true, if_false, bz0, bz1, e1, e2, e3, e4, e5, e6, e7, e8, e9, e10, e11, e12, e13, e14, e15, if_neg i10, ek, hx9, q2, stp (show k - x < 2 ^ 31 by omega), if_pos q4]
    · have hf : m_X9_fails (nI 3) (nI (c (p + 1))) 0 T = some (0, T) := by
        unfold m_X9_fails
        simp only [some_bind', if_true, if_false, bz0, bz1, e1, e2, e3, e4, e5, e6, e7, e8, e9, e10, e11, e12, e13, e14, e15, g9, hx9, q2, if_pos q3]
      rw [hB, hf, some_bind', if_pos rfl]
      unfold m_X9_step_L103
      rw [← hT0, if_pos tl, le, some_bind']
      simp only [some_bind', if_true, if_false, bz0, bz1, e1, e2, e3, e4, e5, e6, e7, e8, e9, e10, e11, e12, e13, e14, e15, y9, k9, w9, st_rd, st_row, st_col, ne_eq, not_false_eq_true, Nat.reduceEqDiff, hx9, q2, show nI p + nI (szN 3) = nI (p + 2) from nI_add p 2]
      unfold m_X9_step_L513
      rw [st_rd]
    · simp [st_at, t0]
    · simp [st_at]
    · refine hRt.step (fun k h1 h2 h3 h4 => ?_) (fun j h1 h2 h3 h4 h5 => ?_) (fun k h1 h2 h3 h4 => ?_) (fun j h1 h2 h3 h4 h5 h6 => ?_) ?_ ?_ ?_ hbg ?_ (Or.inl ?_) ?_ ?_ ?_ ⟨(k - x), ?_, ?_⟩ ⟨w, ?_, ?_⟩ ?_
      · simp [st, h1, h2, h3, h4]
      · simp [st_at, h1, h2, h3, h4, h5]
      · simp [st, h1, h2, h3, h4]
      · simp [st_at, h1, h2, h3, h4, h5, h6]
      · funext j; simp [st_at, r8, r9, r10]
      · funext j; simp [st_at, r8, r9, r10]
      · funext j; simp [st_at, r8, r9, r10]
      · simp [st_at, hru, v9]
      · simp [st_at, hru]
      · simp [st_at, ek, k9, r9]
      · simp [st_at, a9]
      · simp [st_at, ew, w9]
      · exact (show (k - x) ≤ 40 by omega)
      · simp [st_at, ek]
      · exact (show w ≤ 40 by omega)
      · simp [st_at, ew]
      · simp [st_at]
  · have q3 : nI k - nI x < 0 := pk_sneg (by omega) (by omega)
    have q4 : ¬ 0 ≤ nI k - nI x := by rw [Int32.lt_iff_toInt_lt] at q3; rw [Int32.le_iff_toInt_le]; omega
    refine fin2 hR ?_ ?_
    · rw [hA]
      unfold m_X2_carryOut
      simp only [some_bind', if_true, if_false, bz0, bz1, e1, e2, e3, e4, e5, e6, e7, e8, e9, e10, e11, e12, e13, e14, e15, ek, hx9, stpn q3]
    · have hf : m_X9_fails (nI 3) (nI (c (p + 1))) 0 T = some (1, T) := by
        unfold m_X9_fails
        simp only [some_bind', if_true, if_false, bz0, bz1, e1, e2, e3, e4, e5, e6, e7, e8, e9, e10, e11, e12, e13, e14, e15, g9, hx9, if_neg q4]
      rw [hB, hf, some_bind', if_neg i10]
      unfold m_X9_step_L103
      rw [st_rd, if_neg (show ¬ (2 : Int32) ≤ 0 by decide)]
theorem op4 {S T : St} {n p : Nat} {c : Nat → Nat} (hR : Rel S T) (h : SX S T n p c) (hb : c p = 4) : STEP S T := by
  obtain ⟨hcd, hp, hx, hy, hru, hrv, hbg, h16, hz, hrg, hw, -, -⟩ := id h
  rw [hb] at hz hrg hw
  replace hz : p + 2 ≤ n := hz
  have hn := hcd.1
  obtain ⟨m1, m2, m3, m4, m5, m6, m7, m8, ⟨k, hk, ek⟩, ⟨w, hcw, ew⟩, -⟩ := id hR.2.2.2.1
  have e1 : (nI 4 = (1 : Int32)) = False := eq_false (by decide)
  have e2 : (nI 4 = (2 : Int32)) = False := eq_false (by decide)
  have e3 : (nI 4 = (3 : Int32)) = False := eq_false (by decide)
  have e4 : (nI 4 = (4 : Int32)) = True := eq_true rfl
  have e5 : (nI 4 = (5 : Int32)) = False := eq_false (by decide)
  have e6 : (nI 4 = (6 : Int32)) = False := eq_false (by decide)
  have e7 : (nI 4 = (7 : Int32)) = False := eq_false (by decide)
  have e8 : (nI 4 = (8 : Int32)) = False := eq_false (by decide)
  have e9 : (nI 4 = (9 : Int32)) = False := eq_false (by decide)
  have e10 : (nI 4 = (10 : Int32)) = False := eq_false (by decide)
  have e11 : (nI 4 = (11 : Int32)) = False := eq_false (by decide)
  have e12 : (nI 4 = (12 : Int32)) = False := eq_false (by decide)
  have e13 : (nI 4 = (13 : Int32)) = False := eq_false (by decide)
  have e14 : (nI 4 = (14 : Int32)) = False := eq_false (by decide)
  have e15 : (nI 4 = (15 : Int32)) = False := eq_false (by decide)
  have x1 := (hcd.2.2.2 (p + 1)).2.2
  have x2 := (hcd.2.2.2 (p + 2)).2.2
  have hB := stp9 h (x2 := nI (c (p + 1))) (x3 := 0) (by rw [hb]; rfl) (by rw [hb]; rfl)
  rw [hb] at hB
  have hA := adv_o h (by omega) (by omega) (by omega) (by omega)
  rw [hb] at hA
  rw [cdv_in hn hcd.2.1 (show p + 1 < n by omega), (hcd.2.2.2 (p + 1)).1] at hA
  replace hA : m_X2_advance S = (m_X2_carryOut (nI 4) (nI (c (p + 1))) (cdv (nI (p + 2)) S) S).bind fun r => if r.1 = 0 then some (2, r.2) else some (0, st r.2 20 12 (nI (p + 2))) := hA
  obtain ⟨T0, hT0⟩ : ∃ T0, T0 = st T 30 0 (0 : Int32) := ⟨_, rfl⟩
  have t0 : T0 30 0 = 0 := by rw [hT0, st_rd]
  have tl : T0 30 0 ≤ 0 := by rw [t0]; decide
  have tj : ∀ j, j ≠ 0 → T0 30 j = T 30 j := fun j hj => by rw [hT0, st_col _ _ _ hj]
  have tr : ∀ k, k ≠ 30 → T0 k = T k := fun k hk => by rw [hT0]; exact st_ne _ _ _ hk
  have k9 : T0 30 19 = nI k := by rw [tj 19 (by omega), ← m6]; exact ek
  have w9 : T0 30 23 = nI w := by rw [tj 23 (by omega), ← m8]; exact ew
  have y9 : T0 30 18 = nI p := by rw [tj 18 (by omega)]; exact hy
  have a9 : T0 30 20 = S 20 14 := by rw [tj 20 (by omega)]; exact m7.symm
  have v9 : T0 30 17 = 1 := by rw [tj 17 (by omega)]; exact hrv
  have r8 : T0 22 = S 8 := by rw [tr 22 (by omega)]; exact m1.symm
  have r9 : T0 21 = S 9 := by rw [tr 21 (by omega)]; exact m2.symm
  have r10 : T0 24 = S 10 := by rw [tr 24 (by omega)]; exact m3.symm
  have g9 : T 30 19 = nI k := by rw [← m6]; exact ek
  have gw : T 30 23 = nI w := by rw [← m8]; exact ew
  have g21 : T 21 = S 9 := m2.symm
  have hRt : Rel S T0 := by rw [hT0]; exact hR.t 0
  have le := l103_0 (x1 := nI 4) (x2 := 0) (x3 := 0) hT0 (b := 4) (by omega) rfl
  rw [← hT0] at le
  obtain ⟨x, hx9⟩ : ∃ x, c (p + 1) = x := ⟨_, rfl⟩
  rw [hx9] at x1
  by_cases h1 : k + x ≤ 40
  · have q3 : nI (k + x) ≤ (40 : Int32) := nI_le (b := 40) h1 (by omega)
    refine fin0 (S1 := st (st S 20 13 (nI (k + x))) 20 12 (nI (p + 2))) (T1 := st (st T0 30 19 (nI (k + x))) 30 18 (nI (p + 2))) (r9 := nI (p + 2)) ?_ ?_ ?_ ?_ ?_
    · rw [hA]
      unfold m_X2_carryOut
      simp only [some_bind', if_true, if_false, bz0, bz1, e1, e2, e3, e4, e5, e6, e7, e8, e9, e10, e11, e12, e13, e14, e15, if_neg i10, ek, hx9, nI_add, stp (show k + x < 2 ^ 31 by omega), if_pos h1]
    · have hf : m_X9_fails (nI 4) (nI (c (p + 1))) 0 T = some (0, T) := by
        unfold m_X9_fails
        simp only [some_bind', if_true, if_false, bz0, bz1, e1, e2, e3, e4, e5, e6, e7, e8, e9, e10, e11, e12, e13, e14, e15, g9, hx9, nI_add, if_pos q3]
      rw [hB, hf, some_bind', if_pos rfl]
      unfold m_X9_step_L103
      rw [← hT0, if_pos tl, le, some_bind']
      simp only [some_bind', if_true, if_false, bz0, bz1, e1, e2, e3, e4, e5, e6, e7, e8, e9, e10, e11, e12, e13, e14, e15, y9, k9, w9, st_rd, st_row, st_col, ne_eq, not_false_eq_true, Nat.reduceEqDiff, hx9, nI_add, show p + szN 4 = p + 2 from rfl]
      unfold m_X9_step_L513
      rw [st_rd]
    · simp [st_at, t0]
    · simp [st_at]
    · refine hRt.step (fun k h1 h2 h3 h4 => ?_) (fun j h1 h2 h3 h4 h5 => ?_) (fun k h1 h2 h3 h4 => ?_) (fun j h1 h2 h3 h4 h5 h6 => ?_) ?_ ?_ ?_ hbg ?_ (Or.inl ?_) ?_ ?_ ?_ ⟨(k + x), ?_, ?_⟩ ⟨w, ?_, ?_⟩ ?_
      · simp [st, h1, h2, h3, h4]
      · simp [st_at, h1, h2, h3, h4, h5]
      · simp [st, h1, h2, h3, h4]
      · simp [st_at, h1, h2, h3, h4, h5, h6]
      · funext j; simp [st_at, r8, r9, r10]
      · funext j; simp [st_at, r8, r9, r10]
      · funext j; simp [st_at, r8, r9, r10]
      · simp [st_at, hru, v9]
      · simp [st_at, hru]
      · simp [st_at, ek, k9, r9]
      · simp [st_at, a9]
      · simp [st_at, ew, w9]
      · exact (show (k + x) ≤ 40 by omega)
      · simp [st_at, ek]
      · exact (show w ≤ 40 by omega)
      · simp [st_at, ew]
      · simp [st_at]
  · have q3 : ¬ nI (k + x) ≤ (40 : Int32) := nI_ge (a := 40) (by omega) (by omega)
    refine fin2 hR ?_ ?_
    · rw [hA]
      unfold m_X2_carryOut
      simp only [some_bind', if_true, if_false, bz0, bz1, e1, e2, e3, e4, e5, e6, e7, e8, e9, e10, e11, e12, e13, e14, e15, ek, hx9, nI_add, stp (show k + x < 2 ^ 31 by omega), if_neg h1]
    · have hf : m_X9_fails (nI 4) (nI (c (p + 1))) 0 T = some (1, T) := by
        unfold m_X9_fails
        simp only [some_bind', if_true, if_false, bz0, bz1, e1, e2, e3, e4, e5, e6, e7, e8, e9, e10, e11, e12, e13, e14, e15, g9, hx9, nI_add, if_neg q3]
      rw [hB, hf, some_bind', if_neg i10]
      unfold m_X9_step_L103
      rw [st_rd, if_neg (show ¬ (2 : Int32) ≤ 0 by decide)]
theorem op5 {S T : St} {n p : Nat} {c : Nat → Nat} (hR : Rel S T) (h : SX S T n p c) (hb : c p = 5) : STEP S T := by
  obtain ⟨hcd, hp, hx, hy, hru, hrv, hbg, h16, hz, hrg, hw, -, -⟩ := id h
  rw [hb] at hz hrg hw
  replace hz : p + 1 ≤ n := hz
  have hn := hcd.1
  obtain ⟨m1, m2, m3, m4, m5, m6, m7, m8, ⟨k, hk, ek⟩, ⟨w, hcw, ew⟩, -⟩ := id hR.2.2.2.1
  have e1 : (nI 5 = (1 : Int32)) = False := eq_false (by decide)
  have e2 : (nI 5 = (2 : Int32)) = False := eq_false (by decide)
  have e3 : (nI 5 = (3 : Int32)) = False := eq_false (by decide)
  have e4 : (nI 5 = (4 : Int32)) = False := eq_false (by decide)
  have e5 : (nI 5 = (5 : Int32)) = True := eq_true rfl
  have e6 : (nI 5 = (6 : Int32)) = False := eq_false (by decide)
  have e7 : (nI 5 = (7 : Int32)) = False := eq_false (by decide)
  have e8 : (nI 5 = (8 : Int32)) = False := eq_false (by decide)
  have e9 : (nI 5 = (9 : Int32)) = False := eq_false (by decide)
  have e10 : (nI 5 = (10 : Int32)) = False := eq_false (by decide)
  have e11 : (nI 5 = (11 : Int32)) = False := eq_false (by decide)
  have e12 : (nI 5 = (12 : Int32)) = False := eq_false (by decide)
  have e13 : (nI 5 = (13 : Int32)) = False := eq_false (by decide)
  have e14 : (nI 5 = (14 : Int32)) = False := eq_false (by decide)
  have e15 : (nI 5 = (15 : Int32)) = False := eq_false (by decide)
  have x1 := (hcd.2.2.2 (p + 1)).2.2
  have x2 := (hcd.2.2.2 (p + 2)).2.2
  have hB := stp9 h (x2 := 0) (x3 := 0) (by rw [hb]; rfl) (by rw [hb]; rfl)
  rw [hb] at hB
  have hA := adv_o h (by omega) (by omega) (by omega) (by omega)
  rw [hb] at hA
  replace hA : m_X2_advance S = (m_X2_carryOut (nI 5) (cdv (nI (p + 1)) S) (cdv (nI (p + 2)) S) S).bind fun r => if r.1 = 0 then some (2, r.2) else some (0, st r.2 20 12 (nI (p + 1))) := hA
  obtain ⟨T0, hT0⟩ : ∃ T0, T0 = st T 30 0 (0 : Int32) := ⟨_, rfl⟩
  have t0 : T0 30 0 = 0 := by rw [hT0, st_rd]
  have tl : T0 30 0 ≤ 0 := by rw [t0]; decide
  have tj : ∀ j, j ≠ 0 → T0 30 j = T 30 j := fun j hj => by rw [hT0, st_col _ _ _ hj]
  have tr : ∀ k, k ≠ 30 → T0 k = T k := fun k hk => by rw [hT0]; exact st_ne _ _ _ hk
  have k9 : T0 30 19 = nI k := by rw [tj 19 (by omega), ← m6]; exact ek
  have w9 : T0 30 23 = nI w := by rw [tj 23 (by omega), ← m8]; exact ew
  have y9 : T0 30 18 = nI p := by rw [tj 18 (by omega)]; exact hy
  have a9 : T0 30 20 = S 20 14 := by rw [tj 20 (by omega)]; exact m7.symm
  have v9 : T0 30 17 = 1 := by rw [tj 17 (by omega)]; exact hrv
  have r8 : T0 22 = S 8 := by rw [tr 22 (by omega)]; exact m1.symm
  have r9 : T0 21 = S 9 := by rw [tr 21 (by omega)]; exact m2.symm
  have r10 : T0 24 = S 10 := by rw [tr 24 (by omega)]; exact m3.symm
  have g9 : T 30 19 = nI k := by rw [← m6]; exact ek
  have gw : T 30 23 = nI w := by rw [← m8]; exact ew
  have g21 : T 21 = S 9 := m2.symm
  have hRt : Rel S T0 := by rw [hT0]; exact hR.t 0
  have le := l103_0 (x1 := nI 5) (x2 := 0) (x3 := 0) hT0 (b := 5) (by omega) rfl
  rw [← hT0] at le
  have n0 : inb (0 : Int32) 3 = true := by decide
  have n1 : (0 : Int32).toNatClampNeg = 0 := by decide
  refine fin0 (S1 := st (st S 9 0 (nI k)) 20 12 (nI (p + 1))) (T1 := st (st T0 21 0 (nI k)) 30 18 (nI (p + 1))) (r9 := nI (p + 1)) ?_ ?_ ?_ ?_ ?_
  · rw [hA]
    unfold m_X2_carryOut
    simp only [some_bind', if_true, if_false, bz0, bz1, e1, e2, e3, e4, e5, e6, e7, e8, e9, e10, e11, e12, e13, e14, e15, if_neg i10, n0, n1, ek]
  · have hf : m_X9_fails (nI 5) 0 0 T = some (0, T) := by
      unfold m_X9_fails
      simp only [some_bind', if_true, if_false, bz0, bz1, e1, e2, e3, e4, e5, e6, e7, e8, e9, e10, e11, e12, e13, e14, e15]
    rw [hB, hf, some_bind', if_pos rfl]
    unfold m_X9_step_L103
    rw [← hT0, if_pos tl, le, some_bind']
    simp only [some_bind', if_true, if_false, bz0, bz1, e1, e2, e3, e4, e5, e6, e7, e8, e9, e10, e11, e12, e13, e14, e15, y9, k9, w9, st_rd, st_row, st_col, ne_eq, not_false_eq_true, Nat.reduceEqDiff, n0, n1, show nI p + nI (szN 5) = nI (p + 1) from nI_add p 1]
    unfold m_X9_step_L513
    rw [st_rd]
  · simp [st_at, t0]
  · simp [st_at]
  · refine hRt.step (fun k h1 h2 h3 h4 => ?_) (fun j h1 h2 h3 h4 h5 => ?_) (fun k h1 h2 h3 h4 => ?_) (fun j h1 h2 h3 h4 h5 h6 => ?_) ?_ ?_ ?_ hbg ?_ (Or.inl ?_) ?_ ?_ ?_ ⟨k, ?_, ?_⟩ ⟨w, ?_, ?_⟩ ?_
    · simp [st, h1, h2, h3, h4]
    · simp [st_at, h1, h2, h3, h4, h5]
    · simp [st, h1, h2, h3, h4]
    · simp [st_at, h1, h2, h3, h4, h5, h6]
    · funext j; simp [st_at, r8, r9, r10]
    · funext j; simp [st_at, r8, r9, r10]
    · funext j; simp [st_at, r8, r9, r10]
    · simp [st_at, hru, v9]
    · simp [st_at, hru]
    · simp [st_at, ek, k9, r9]
    · simp [st_at, a9]
    · simp [st_at, ew, w9]
    · exact (show k ≤ 40 by omega)
    · simp [st_at, ek]
    · exact (show w ≤ 40 by omega)
    · simp [st_at, ew]
    · simp [st_at]
theorem op6 {S T : St} {n p : Nat} {c : Nat → Nat} (hR : Rel S T) (h : SX S T n p c) (hb : c p = 6) : STEP S T := by
  obtain ⟨hcd, hp, hx, hy, hru, hrv, hbg, h16, hz, hrg, hw, -, -⟩ := id h
  rw [hb] at hz hrg hw
  replace hz : p + 1 ≤ n := hz
  have hn := hcd.1
  obtain ⟨m1, m2, m3, m4, m5, m6, m7, m8, ⟨k, hk, ek⟩, ⟨w, hcw, ew⟩, -⟩ := id hR.2.2.2.1
  have e1 : (nI 6 = (1 : Int32)) = False := eq_false (by decide)
  have e2 : (nI 6 = (2 : Int32)) = False := eq_false (by decide)
  have e3 : (nI 6 = (3 : Int32)) = False := eq_false (by decide)
  have e4 : (nI 6 = (4 : Int32)) = False := eq_false (by decide)
  have e5 : (nI 6 = (5 : Int32)) = False := eq_false (by decide)
  have e6 : (nI 6 = (6 : Int32)) = True := eq_true rfl
  have e7 : (nI 6 = (7 : Int32)) = False := eq_false (by decide)
  have e8 : (nI 6 = (8 : Int32)) = False := eq_false (by decide)
  have e9 : (nI 6 = (9 : Int32)) = False := eq_false (by decide)
  have e10 : (nI 6 = (10 : Int32)) = False := eq_false (by decide)
  have e11 : (nI 6 = (11 : Int32)) = False := eq_false (by decide)
  have e12 : (nI 6 = (12 : Int32)) = False := eq_false (by decide)
  have e13 : (nI 6 = (13 : Int32)) = False := eq_false (by decide)
  have e14 : (nI 6 = (14 : Int32)) = False := eq_false (by decide)
  have e15 : (nI 6 = (15 : Int32)) = False := eq_false (by decide)
  have x1 := (hcd.2.2.2 (p + 1)).2.2
  have x2 := (hcd.2.2.2 (p + 2)).2.2
  have hB := stp9 h (x2 := 0) (x3 := 0) (by rw [hb]; rfl) (by rw [hb]; rfl)
  rw [hb] at hB
  have hA := adv_o h (by omega) (by omega) (by omega) (by omega)
  rw [hb] at hA
  replace hA : m_X2_advance S = (m_X2_carryOut (nI 6) (cdv (nI (p + 1)) S) (cdv (nI (p + 2)) S) S).bind fun r => if r.1 = 0 then some (2, r.2) else some (0, st r.2 20 12 (nI (p + 1))) := hA
  obtain ⟨T0, hT0⟩ : ∃ T0, T0 = st T 30 0 (0 : Int32) := ⟨_, rfl⟩
  have t0 : T0 30 0 = 0 := by rw [hT0, st_rd]
  have tl : T0 30 0 ≤ 0 := by rw [t0]; decide
  have tj : ∀ j, j ≠ 0 → T0 30 j = T 30 j := fun j hj => by rw [hT0, st_col _ _ _ hj]
  have tr : ∀ k, k ≠ 30 → T0 k = T k := fun k hk => by rw [hT0]; exact st_ne _ _ _ hk
  have k9 : T0 30 19 = nI k := by rw [tj 19 (by omega), ← m6]; exact ek
  have w9 : T0 30 23 = nI w := by rw [tj 23 (by omega), ← m8]; exact ew
  have y9 : T0 30 18 = nI p := by rw [tj 18 (by omega)]; exact hy
  have a9 : T0 30 20 = S 20 14 := by rw [tj 20 (by omega)]; exact m7.symm
  have v9 : T0 30 17 = 1 := by rw [tj 17 (by omega)]; exact hrv
  have r8 : T0 22 = S 8 := by rw [tr 22 (by omega)]; exact m1.symm
  have r9 : T0 21 = S 9 := by rw [tr 21 (by omega)]; exact m2.symm
  have r10 : T0 24 = S 10 := by rw [tr 24 (by omega)]; exact m3.symm
  have g9 : T 30 19 = nI k := by rw [← m6]; exact ek
  have gw : T 30 23 = nI w := by rw [← m8]; exact ew
  have g21 : T 21 = S 9 := m2.symm
  have hRt : Rel S T0 := by rw [hT0]; exact hR.t 0
  have le := l103_0 (x1 := nI 6) (x2 := 0) (x3 := 0) hT0 (b := 6) (by omega) rfl
  rw [← hT0] at le
  have n0 : inb (0 : Int32) 3 = true := by decide
  have n1 : (0 : Int32).toNatClampNeg = 0 := by decide
  rcases ix3 (S 9 0) (n := 41) (by omega) with h1 | ⟨h1, h2, -⟩ | ⟨j, hj, ej, h1, -, -⟩
  · have q0 : True := trivial
    refine fin2 hR ?_ ?_
    · rw [hA]
      unfold m_X2_carryOut
      simp only [some_bind', if_true, if_false, bz0, bz1, e1, e2, e3, e4, e5, e6, e7, e8, e9, e10, e11, e12, e13, e14, e15, n0, n1, stpn h1]
    · have hf : m_X9_fails (nI 6) 0 0 T = some (1, T) := by
        unfold m_X9_fails
        simp only [some_bind', if_true, if_false, bz0, bz1, e1, e2, e3, e4, e5, e6, e7, e8, e9, e10, e11, e12, e13, e14, e15, n0, n1, g21, if_pos h1]
      rw [hB, hf, some_bind', if_neg i10]
      unfold m_X9_step_L103
      rw [st_rd, if_neg (show ¬ (2 : Int32) ≤ 0 by decide)]
  · have q2 : ¬ S 9 0 ≤ (40 : Int32) := by
      rw [Int32.le_iff_toInt_le] at h2 ⊢
      have u1 : (nI 41).toInt = 41 := by decide
      have u2 : (40 : Int32).toInt = 40 := by decide
      omega
    have q3 : m_X2_setPointer (S 9 0) S = some (0, S) := by
      unfold m_X2_setPointer
      rw [if_neg h1, if_neg q2]; rfl
    refine fin2 hR ?_ ?_
    · rw [hA]
      unfold m_X2_carryOut
      simp only [some_bind', if_true, if_false, bz0, bz1, e1, e2, e3, e4, e5, e6, e7, e8, e9, e10, e11, e12, e13, e14, e15, n0, n1, q3]
    · have hf : m_X9_fails (nI 6) 0 0 T = some (1, T) := by
        unfold m_X9_fails
        simp only [some_bind', if_true, if_false, bz0, bz1, e1, e2, e3, e4, e5, e6, e7, e8, e9, e10, e11, e12, e13, e14, e15, n0, n1, g21, if_neg h1, if_neg q2]
      rw [hB, hf, some_bind', if_neg i10]
      unfold m_X9_step_L103
      rw [st_rd, if_neg (show ¬ (2 : Int32) ≤ 0 by decide)]
  · have q2 : nI j ≤ (40 : Int32) := nI_le (b := 40) (by omega) (by omega)
    have q4 : j ≤ 40 := by omega
    rw [ej] at h1
    refine fin0 (S1 := st (st S 20 13 (nI j)) 20 12 (nI (p + 1))) (T1 := st (st T0 30 19 (nI j)) 30 18 (nI (p + 1))) (r9 := nI (p + 1)) ?_ ?_ ?_ ?_ ?_
    · rw [hA]
      unfold m_X2_carryOut
      simp only [some_bind', if_true, if_false, bz0, bz1, e1, e2, e3, e4, e5, e6, e7, e8, e9, e10, e11, e12, e13, e14, e15, if_neg i10, n0, n1, ej, stp (show j < 2 ^ 31 by omega), if_pos q4]
    · have hf : m_X9_fails (nI 6) 0 0 T = some (0, T) := by
        unfold m_X9_fails
        simp only [some_bind', if_true, if_false, bz0, bz1, e1, e2, e3, e4, e5, e6, e7, e8, e9, e10, e11, e12, e13, e14, e15, n0, n1, g21, ej, if_neg h1, if_pos q2]
      rw [hB, hf, some_bind', if_pos rfl]
      unfold m_X9_step_L103
      rw [← hT0, if_pos tl, le, some_bind']
      simp only [some_bind', if_true, if_false, bz0, bz1, e1, e2, e3, e4, e5, e6, e7, e8, e9, e10, e11, e12, e13, e14, e15, y9, k9, w9, st_rd, st_row, st_col, ne_eq, not_false_eq_true, Nat.reduceEqDiff, n0, n1, r9, ej, show nI p + nI (szN 6) = nI (p + 1) from nI_add p 1]
      unfold m_X9_step_L513
      rw [st_rd]
    · simp [st_at, t0]
    · simp [st_at]
    · refine hRt.step (fun k h1 h2 h3 h4 => ?_) (fun j h1 h2 h3 h4 h5 => ?_) (fun k h1 h2 h3 h4 => ?_) (fun j h1 h2 h3 h4 h5 h6 => ?_) ?_ ?_ ?_ hbg ?_ (Or.inl ?_) ?_ ?_ ?_ ⟨j, ?_, ?_⟩ ⟨w, ?_, ?_⟩ ?_
      · simp [st, h1, h2, h3, h4]
      · simp [st_at, h1, h2, h3, h4, h5]
      · simp [st, h1, h2, h3, h4]
      · simp [st_at, h1, h2, h3, h4, h5, h6]
      · funext j; simp [st_at, r8, r9, r10]
      · funext j; simp [st_at, r8, r9, r10]
      · funext j; simp [st_at, r8, r9, r10]
      · simp [st_at, hru, v9]
      · simp [st_at, hru]
      · simp [st_at, ek, k9, r9]
      · simp [st_at, a9]
      · simp [st_at, ew, w9]
      · exact (show j ≤ 40 by omega)
      · simp [st_at, ek]
      · exact (show w ≤ 40 by omega)
      · simp [st_at, ew]
      · simp [st_at]
theorem op7 {S T : St} {n p : Nat} {c : Nat → Nat} (hR : Rel S T) (h : SX S T n p c) (hb : c p = 7) : STEP S T := by
  obtain ⟨hcd, hp, hx, hy, hru, hrv, hbg, h16, hz, hrg, hw, -, -⟩ := id h
  rw [hb] at hz hrg hw
  replace hz : p + 2 ≤ n := hz
  have hn := hcd.1
  obtain ⟨m1, m2, m3, m4, m5, m6, m7, m8, ⟨k, hk, ek⟩, ⟨w, hcw, ew⟩, -⟩ := id hR.2.2.2.1
  have e1 : (nI 7 = (1 : Int32)) = False := eq_false (by decide)
  have e2 : (nI 7 = (2 : Int32)) = False := eq_false (by decide)
  have e3 : (nI 7 = (3 : Int32)) = False := eq_false (by decide)
  have e4 : (nI 7 = (4 : Int32)) = False := eq_false (by decide)
  have e5 : (nI 7 = (5 : Int32)) = False := eq_false (by decide)
  have e6 : (nI 7 = (6 : Int32)) = False := eq_false (by decide)
  have e7 : (nI 7 = (7 : Int32)) = True := eq_true rfl
  have e8 : (nI 7 = (8 : Int32)) = False := eq_false (by decide)
  have e9 : (nI 7 = (9 : Int32)) = False := eq_false (by decide)
  have e10 : (nI 7 = (10 : Int32)) = False := eq_false (by decide)
  have e11 : (nI 7 = (11 : Int32)) = False := eq_false (by decide)
  have e12 : (nI 7 = (12 : Int32)) = False := eq_false (by decide)
  have e13 : (nI 7 = (13 : Int32)) = False := eq_false (by decide)
  have e14 : (nI 7 = (14 : Int32)) = False := eq_false (by decide)
  have e15 : (nI 7 = (15 : Int32)) = False := eq_false (by decide)
  have x1 := (hcd.2.2.2 (p + 1)).2.2
  have x2 := (hcd.2.2.2 (p + 2)).2.2
  have hB := stp9 h (x2 := nI (c (p + 1))) (x3 := 0) (by rw [hb]; rfl) (by rw [hb]; rfl)
  rw [hb] at hB
  have hA := adv_L h
  rw [hb] at hA
  obtain ⟨T0, hT0⟩ : ∃ T0, T0 = st T 30 0 (0 : Int32) := ⟨_, rfl⟩
  have t0 : T0 30 0 = 0 := by rw [hT0, st_rd]
  have tl : T0 30 0 ≤ 0 := by rw [t0]; decide
  have tj : ∀ j, j ≠ 0 → T0 30 j = T 30 j := fun j hj => by rw [hT0, st_col _ _ _ hj]
  have tr : ∀ k, k ≠ 30 → T0 k = T k := fun k hk => by rw [hT0]; exact st_ne _ _ _ hk
  have k9 : T0 30 19 = nI k := by rw [tj 19 (by omega), ← m6]; exact ek
  have w9 : T0 30 23 = nI w := by rw [tj 23 (by omega), ← m8]; exact ew
  have y9 : T0 30 18 = nI p := by rw [tj 18 (by omega)]; exact hy
  have a9 : T0 30 20 = S 20 14 := by rw [tj 20 (by omega)]; exact m7.symm
  have v9 : T0 30 17 = 1 := by rw [tj 17 (by omega)]; exact hrv
  have r8 : T0 22 = S 8 := by rw [tr 22 (by omega)]; exact m1.symm
  have r9 : T0 21 = S 9 := by rw [tr 21 (by omega)]; exact m2.symm
  have r10 : T0 24 = S 10 := by rw [tr 24 (by omega)]; exact m3.symm
  have g9 : T 30 19 = nI k := by rw [← m6]; exact ek
  have gw : T 30 23 = nI w := by rw [← m8]; exact ew
  have g21 : T 21 = S 9 := m2.symm
  have hRt : Rel S T0 := by rw [hT0]; exact hR.t 0
  have le := l103_0 (x1 := nI 7) (x2 := 0) (x3 := 0) hT0 (b := 7) (by omega) rfl
  rw [← hT0] at le
  have ez : nI p + nI (szN 7) = nI (p + 2) := nI_add p 2
  by_cases h1 : 1 ≤ k
  · have q2 : nI k - (1 : Int32) = nI (k - 1) := pk_sub (a := k) (b := 1) h1
    have q3 : ¬ nI k < (1 : Int32) := nI_nlt (b := 1) h1 (by omega)
    have q4 : inb (nI (k - 1)) 40 = true := inb_nI (by omega) (by omega)
    have q5 : (nI (k - 1)).toNatClampNeg = k - 1 := nI_cl (by omega)
    by_cases h2 : w < 40
    · have w1 : ¬ (40 : Int32) ≤ nI w := nI_ge (b := 40) h2 (by omega)
      have w2 : ¬ nI w = (40 : Int32) := nI_ne (b := 40) (by omega) (by omega) (by omega)
      have w3 : inb (nI w) 40 = true := inb_nI h2 (by omega)
      have w4 : (nI w).toNatClampNeg = w := nI_cl (by omega)
      have hcp : m_X2_callPlace (nI (c (p + 1))) (nI (p + 2)) S = some (1, st (st (st (st (st S 8 (k - 1) (nI (p + 2))) 20 13 (nI (k - 1))) 10 w (nI (p + 2))) 20 15 (nI (w + 1))) 20 12 (nI (c (p + 1)))) := by
        unfold m_X2_callPlace m_X2_goTo
        rw [ew, if_neg w1, psh hk _ ek, if_pos h1, some_bind']
        simp only [if_neg i10, st_rd, st_row, st_col, ne_eq, not_false_eq_true, Nat.reduceEqDiff, ew, w3, w4, if_true, bz1, some_bind', nI_1]
      refine fin0 (S1 := st (st (st (st (st S 8 (k - 1) (nI (p + 2))) 20 13 (nI (k - 1))) 10 w (nI (p + 2))) 20 15 (nI (w + 1))) 20 12 (nI (c (p + 1)))) (T1 := st (st (st (st (st T0 30 19 (nI (k - 1))) 22 (k - 1) (nI (p + 2))) 24 w (nI (p + 2))) 30 23 (nI (w + 1))) 30 18 (nI (c (p + 1)))) (r9 := nI (c (p + 1))) ?_ ?_ ?_ ?_ ?_
      · rw [hA]
        unfold m_X2_advance_L29
        rw [if_neg (show ¬ nI (szN 7) = 0 by decide), hx, codeAt_eq hn hcd.2.1, some_bind', cdv_in hn hcd.2.1 hp, (hcd.2.2.2 p).1, hb]
        simp only [hx, nI_1, codeAt_eq hn hcd.2.1, cdv_in hn hcd.2.1 (show p + 1 < n by omega), (hcd.2.2.2 (p + 1)).1, some_bind', if_true, if_false, bz0, bz1, e1, e2, e3, e4, e5, e6, e7, e8, e9, e10, e11, e12, e13, e14, e15, if_neg i10, ez, hcp]
        rfl
      · have hf : m_X9_fails (nI 7) (nI (c (p + 1))) 0 T = some (0, T) := by
          unfold m_X9_fails
          simp only [some_bind', if_true, if_false, bz0, bz1, e1, e2, e3, e4, e5, e6, e7, e8, e9, e10, e11, e12, e13, e14, e15, g9, gw, if_neg q3, if_neg w2]
        rw [hB, hf, some_bind', if_pos rfl]
        unfold m_X9_step_L103
        rw [← hT0, if_pos tl, le, some_bind']
        simp only [some_bind', if_true, if_false, bz0, bz1, e1, e2, e3, e4, e5, e6, e7, e8, e9, e10, e11, e12, e13, e14, e15, y9, k9, w9, st_rd, st_row, st_col, ne_eq, not_false_eq_true, Nat.reduceEqDiff, ez, q2, q4, q5, w3, w4, nI_1]
        unfold m_X9_step_L513
        rw [st_rd]
      · simp [st_at, t0]
      · simp [st_at]
      · refine hRt.step (fun k h1 h2 h3 h4 => ?_) (fun j h1 h2 h3 h4 h5 => ?_) (fun k h1 h2 h3 h4 => ?_) (fun j h1 h2 h3 h4 h5 h6 => ?_) ?_ ?_ ?_ hbg ?_ (Or.inl ?_) ?_ ?_ ?_ ⟨(k - 1), ?_, ?_⟩ ⟨(w + 1), ?_, ?_⟩ ?_
        · simp [st, h1, h2, h3, h4]
        · simp [st_at, h1, h2, h3, h4, h5]
        · simp [st, h1, h2, h3, h4]
        · simp [st_at, h1, h2, h3, h4, h5, h6]
        · funext j; simp [st_at, r8, r9, r10]
        · funext j; simp [st_at, r8, r9, r10]
        · funext j; simp [st_at, r8, r9, r10]
        · simp [st_at, hru, v9]
        · simp [st_at, hru]
        · simp [st_at, ek, k9, r9]
        · simp [st_at, a9]
        · simp [st_at, ew, w9]
        · exact (show (k - 1) ≤ 40 by omega)
        · simp [st_at, ek]
        · exact (show (w + 1) ≤ 40 by omega)
        · simp [st_at, ew]
        · simp [st_at]
    · obtain rfl : w = 40 := by omega
      have w1 : (40 : Int32) ≤ nI 40 := by decide
      have w2 : nI 40 = (40 : Int32) := rfl
      have hcp : m_X2_callPlace (nI (c (p + 1))) (nI (p + 2)) S = some (0, S) := by
        unfold m_X2_callPlace
        rw [ew, if_pos w1]; rfl
      refine fin2 hR ?_ ?_
      · rw [hA]
        unfold m_X2_advance_L29
        rw [if_neg (show ¬ nI (szN 7) = 0 by decide), hx, codeAt_eq hn hcd.2.1, some_bind', cdv_in hn hcd.2.1 hp, (hcd.2.2.2 p).1, hb]
        simp only [hx, nI_1, codeAt_eq hn hcd.2.1, cdv_in hn hcd.2.1 (show p + 1 < n by omega), (hcd.2.2.2 (p + 1)).1, some_bind', if_true, if_false, bz0, bz1, e1, e2, e3, e4, e5, e6, e7, e8, e9, e10, e11, e12, e13, e14, e15, if_neg i10, ez, hcp]
        rfl
      · have hf : m_X9_fails (nI 7) (nI (c (p + 1))) 0 T = some (1, T) := by
          unfold m_X9_fails
          simp only [some_bind', if_true, if_false, bz0, bz1, e1, e2, e3, e4, e5, e6, e7, e8, e9, e10, e11, e12, e13, e14, e15, g9, gw, if_neg q3, if_pos w2]
        rw [hB, hf, some_bind', if_neg i10]
        unfold m_X9_step_L103
        rw [st_rd, if_neg (show ¬ (2 : Int32) ≤ 0 by decide)]
  · have q3 : nI k < (1 : Int32) := nI_lt (b := 1) (by omega) (by omega)
    have hcp : m_X2_callPlace (nI (c (p + 1))) (nI (p + 2)) S = some (0, S) := by
      unfold m_X2_callPlace
      by_cases h2 : (40 : Int32) ≤ S 20 15
      · rw [if_pos h2]; rfl
      · rw [if_neg h2, psh hk _ ek, if_neg h1, some_bind']; rfl
    refine fin2 hR ?_ ?_
    · rw [hA]
      unfold m_X2_advance_L29
      rw [if_neg (show ¬ nI (szN 7) = 0 by decide), hx, codeAt_eq hn hcd.2.1, some_bind', cdv_in hn hcd.2.1 hp, (hcd.2.2.2 p).1, hb]
      simp only [hx, nI_1, codeAt_eq hn hcd.2.1, cdv_in hn hcd.2.1 (show p + 1 < n by omega), (hcd.2.2.2 (p + 1)).1, some_bind', if_true, if_false, bz0, bz1, e1, e2, e3, e4, e5, e6, e7, e8, e9, e10, e11, e12, e13, e14, e15, if_neg i10, ez, hcp]
      rfl
    · have hf : m_X9_fails (nI 7) (nI (c (p + 1))) 0 T = some (1, T) := by
        unfold m_X9_fails
        simp only [some_bind', if_true, if_false, bz0, bz1, e1, e2, e3, e4, e5, e6, e7, e8, e9, e10, e11, e12, e13, e14, e15, g9, gw, if_pos q3]
      rw [hB, hf, some_bind', if_neg i10]
      unfold m_X9_step_L103
      rw [st_rd, if_neg (show ¬ (2 : Int32) ≤ 0 by decide)]
theorem op8 {S T : St} {n p : Nat} {c : Nat → Nat} (hR : Rel S T) (h : SX S T n p c) (hb : c p = 8) : STEP S T := by
  obtain ⟨hcd, hp, hx, hy, hru, hrv, hbg, h16, hz, hrg, hw, -, -⟩ := id h
  rw [hb] at hz hrg hw
  replace hz : p + 1 ≤ n := hz
  have hn := hcd.1
  obtain ⟨m1, m2, m3, m4, m5, m6, m7, m8, ⟨k, hk, ek⟩, ⟨w, hcw, ew⟩, -⟩ := id hR.2.2.2.1
  have e1 : (nI 8 = (1 : Int32)) = False := eq_false (by decide)
  have e2 : (nI 8 = (2 : Int32)) = False := eq_false (by decide)
  have e3 : (nI 8 = (3 : Int32)) = False := eq_false (by decide)
  have e4 : (nI 8 = (4 : Int32)) = False := eq_false (by decide)
  have e5 : (nI 8 = (5 : Int32)) = False := eq_false (by decide)
  have e6 : (nI 8 = (6 : Int32)) = False := eq_false (by decide)
  have e7 : (nI 8 = (7 : Int32)) = False := eq_false (by decide)
  have e8 : (nI 8 = (8 : Int32)) = True := eq_true rfl
  have e9 : (nI 8 = (9 : Int32)) = False := eq_false (by decide)
  have e10 : (nI 8 = (10 : Int32)) = False := eq_false (by decide)
  have e11 : (nI 8 = (11 : Int32)) = False := eq_false (by decide)
  have e12 : (nI 8 = (12 : Int32)) = False := eq_false (by decide)
  have e13 : (nI 8 = (13 : Int32)) = False := eq_false (by decide)
  have e14 : (nI 8 = (14 : Int32)) = False := eq_false (by decide)
  have e15 : (nI 8 = (15 : Int32)) = False := eq_false (by decide)
  have x1 := (hcd.2.2.2 (p + 1)).2.2
  have x2 := (hcd.2.2.2 (p + 2)).2.2
  have hB := stp9 h (x2 := 0) (x3 := 0) (by rw [hb]; rfl) (by rw [hb]; rfl)
  rw [hb] at hB
  have hA := adv_L h
  rw [hb] at hA
  obtain ⟨T0, hT0⟩ : ∃ T0, T0 = st T 30 0 (0 : Int32) := ⟨_, rfl⟩
  have t0 : T0 30 0 = 0 := by rw [hT0, st_rd]
  have tl : T0 30 0 ≤ 0 := by rw [t0]; decide
  have tj : ∀ j, j ≠ 0 → T0 30 j = T 30 j := fun j hj => by rw [hT0, st_col _ _ _ hj]
  have tr : ∀ k, k ≠ 30 → T0 k = T k := fun k hk => by rw [hT0]; exact st_ne _ _ _ hk
  have k9 : T0 30 19 = nI k := by rw [tj 19 (by omega), ← m6]; exact ek
  have w9 : T0 30 23 = nI w := by rw [tj 23 (by omega), ← m8]; exact ew
  have y9 : T0 30 18 = nI p := by rw [tj 18 (by omega)]; exact hy
  have a9 : T0 30 20 = S 20 14 := by rw [tj 20 (by omega)]; exact m7.symm
  have v9 : T0 30 17 = 1 := by rw [tj 17 (by omega)]; exact hrv
  have r8 : T0 22 = S 8 := by rw [tr 22 (by omega)]; exact m1.symm
  have r9 : T0 21 = S 9 := by rw [tr 21 (by omega)]; exact m2.symm
  have r10 : T0 24 = S 10 := by rw [tr 24 (by omega)]; exact m3.symm
  have g9 : T 30 19 = nI k := by rw [← m6]; exact ek
  have gw : T 30 23 = nI w := by rw [← m8]; exact ew
  have g21 : T 21 = S 9 := m2.symm
  have hRt : Rel S T0 := by rw [hT0]; exact hR.t 0
  have le := l103_0 (x1 := nI 8) (x2 := 0) (x3 := 0) hT0 (b := 8) (by omega) rfl
  rw [← hT0] at le
  by_cases h1 : k < 40
  · have q4 : inb (nI k) 40 = true := inb_nI h1 (by omega)
    have q5 : (nI k).toNatClampNeg = k := nI_cl (by omega)
    obtain ⟨v, hv⟩ : ∃ v, S 8 k = v := ⟨_, rfl⟩
    have hv9 : T0 22 k = v := by rw [r8, hv]
    obtain ⟨u, hu, eu⟩ : ∃ u : Nat, u = w - 1 ∧ u ≤ 40 := ⟨_, rfl, by omega⟩
    have hcase : (w = 0 ∧ nI w ≤ 0 ∧ nI w - 0 = nI u) ∨ (¬ nI w ≤ 0 ∧ nI w - 1 = nI u) := by
      by_cases h2 : w = 0
      · left
        subst h2
        subst hu
        exact ⟨rfl, by decide, by decide⟩
      · right
        refine ⟨nI_nle (by omega) (by omega), ?_⟩
        rw [hu]
        exact pk_sub (a := w) (b := 1) (by omega)
    have cls : ∀ (S2 : St), S2 = st (st (st S 20 12 v) 20 13 (nI (k + 1))) 20 15 (nI u) → ∃ S3 : St, (∀ a b, S3 a b = S2 a b) ∧ m_X2_returnToCaller S = if v = 255 then (m_X2_end S3).bind fun r => some (1, r.2) else some (1, S3) := by
      intro S2 hS2
      unfold m_X2_returnToCaller
      rw [ek, wd2 (show k < 2 ^ 31 by omega), if_pos h1, some_bind']
      simp only [if_neg i10, ek, q4, q5, if_true, hv, st_rd, st_row, st_col, ne_eq, not_false_eq_true, Nat.reduceEqDiff, nI_1, ew]
      rcases hcase with ⟨z, z1, z2⟩ | ⟨z1, z2⟩
      · refine ⟨st (st S 20 12 v) 20 13 (nI (k + 1)), fun a b => ?_, ?_⟩
        · rw [hS2]
          by_cases hab : a = 20 ∧ b = 15
          · obtain ⟨rfl, rfl⟩ := hab
            rw [st_rd, st_col _ _ _ (by omega), st_col _ _ _ (by omega), ew, z]
            rw [hu, z]
          · rw [st_at _ 20 15, if_neg hab]
        · simp only [if_pos z1]
          by_cases h255 : v = 255
          · simp only [if_pos h255]; rfl
          · simp only [if_neg h255]; rfl
      · refine ⟨st (st (st S 20 12 v) 20 13 (nI (k + 1))) 20 15 (nI u), fun a b => by rw [hS2], ?_⟩
        simp only [if_neg z1, z2]
        by_cases h255 : v = 255
        · simp only [if_pos h255]; rfl
        · simp only [if_neg h255]; rfl
    have ref : m_X9_step T = some (v, st (st (st (st T0 30 19 (nI (k + 1))) 30 23 (nI u)) 30 17 (if v = 255 then 0 else 1)) 30 18 v) := by
      have hf : m_X9_fails (nI 8) 0 0 T = some (0, T) := by
        unfold m_X9_fails
        simp only [some_bind', if_true, if_false, bz0, bz1, e1, e2, e3, e4, e5, e6, e7, e8, e9, e10, e11, e12, e13, e14, e15, g9, wd9 (show k < 2 ^ 31 by omega), if_pos h1, if_neg i10]
      rw [hB, hf, some_bind', if_pos rfl]
      unfold m_X9_step_L103
      rw [← hT0, if_pos tl, le, some_bind']
      simp only [some_bind', if_true, if_false, bz0, bz1, e1, e2, e3, e4, e5, e6, e7, e8, e9, e10, e11, e12, e13, e14, e15, y9, k9, w9, st_rd, st_row, st_col, ne_eq, not_false_eq_true, Nat.reduceEqDiff, q4, q5, hv9, nI_1]
      unfold m_X9_step_L513
      rcases hcase with ⟨z, z1, z2⟩ | ⟨z1, z2⟩
      · simp only [if_pos z1, z2]
        by_cases h255 : v = 255
        · simp only [if_pos h255, st_rd]
        · simp only [if_neg h255, st_rd]
      · simp only [if_neg z1, z2]
        by_cases h255 : v = 255
        · simp only [if_pos h255, st_rd]
        · simp only [if_neg h255, st_rd]
    obtain ⟨S3, s3, hcp⟩ := cls _ rfl
    have s4 : S3 = st (st (st S 20 12 v) 20 13 (nI (k + 1))) 20 15 (nI u) := by funext a b; exact s3 a b
    by_cases h255 : v = 255
    · have hcp2 : m_X2_returnToCaller S = some (1, st (st S3 20 11 0) 20 12 255) := by
        rw [hcp, if_pos h255]; rfl
      rw [s4] at hcp2
      rw [if_pos h255] at ref
      refine fin0 (S1 := st (st (st (st (st S 20 12 v) 20 13 (nI (k + 1))) 20 15 (nI u)) 20 11 0) 20 12 255) ?_ ref ?_ ?_ ?_
      · rw [hA]
        unfold m_X2_advance_L29
        rw [if_neg (show ¬ nI (szN 8) = 0 by decide), hx, codeAt_eq hn hcd.2.1, some_bind', cdv_in hn hcd.2.1 hp, (hcd.2.2.2 p).1, hb]
        simp only [hx, nI_1, codeAt_eq hn hcd.2.1, some_bind', if_true, if_false, bz0, bz1, e1, e2, e3, e4, e5, e6, e7, e8, e9, e10, e11, e12, e13, e14, e15, if_neg i10, hcp2]
        rfl
      · simp [st_at, t0]
      · simp [st_at, h255]
      · refine hRt.step (fun k h1 h2 h3 h4 => ?_) (fun j h1 h2 h3 h4 h5 => ?_) (fun k h1 h2 h3 h4 => ?_) (fun j h1 h2 h3 h4 h5 h6 => ?_) ?_ ?_ ?_ hbg ?_ (Or.inr ⟨?_, ?_⟩) ?_ ?_ ?_ ⟨k + 1, by omega, ?_⟩ ⟨u, eu, ?_⟩ ?_
        · simp [st, h1, h2, h3, h4]
        · simp [st_at, h1, h2, h3, h4, h5]
        · simp [st, h1, h2, h3, h4]
        · simp [st_at, h1, h2, h3, h4, h5, h6]
        · funext j; simp [st_at, r8, r9, r10]
        · funext j; simp [st_at, r8, r9, r10]
        · funext j; simp [st_at, r8, r9, r10]
        · simp [st_at]
        · simp [st_at]
        · simp [st_at]
        · simp [st_at]
        · simp [st_at, a9]
        · simp [st_at]
        · simp [st_at]
        · simp [st_at]
        · simp [st_at, h255]
    · have hcp2 : m_X2_returnToCaller S = some (1, S3) := by
        rw [hcp, if_neg h255]
      rw [s4] at hcp2
      rw [if_neg h255] at ref
      refine fin0 (S1 := st (st (st S 20 12 v) 20 13 (nI (k + 1))) 20 15 (nI u)) ?_ ref ?_ ?_ ?_
      · rw [hA]
        unfold m_X2_advance_L29
        rw [if_neg (show ¬ nI (szN 8) = 0 by decide), hx, codeAt_eq hn hcd.2.1, some_bind', cdv_in hn hcd.2.1 hp, (hcd.2.2.2 p).1, hb]
        simp only [hx, nI_1, codeAt_eq hn hcd.2.1, some_bind', if_true, if_false, bz0, bz1, e1, e2, e3, e4, e5, e6, e7, e8, e9, e10, e11, e12, e13, e14, e15, if_neg i10, hcp2]
        rfl
      · simp [st_at, t0]
      · simp [st_at]
      · refine hRt.step (fun k h1 h2 h3 h4 => ?_) (fun j h1 h2 h3 h4 h5 => ?_) (fun k h1 h2 h3 h4 => ?_) (fun j h1 h2 h3 h4 h5 h6 => ?_) ?_ ?_ ?_ hbg ?_ (Or.inl ?_) ?_ ?_ ?_ ⟨k + 1, by omega, ?_⟩ ⟨u, eu, ?_⟩ ?_
        · simp [st, h1, h2, h3, h4]
        · simp [st_at, h1, h2, h3, h4, h5]
        · simp [st, h1, h2, h3, h4]
        · simp [st_at, h1, h2, h3, h4, h5, h6]
        · funext j; simp [st_at, r8, r9, r10]
        · funext j; simp [st_at, r8, r9, r10]
        · funext j; simp [st_at, r8, r9, r10]
        · simp [st_at, hru]
        · simp [st_at, hru]
        · simp [st_at]
        · simp [st_at, a9]
        · simp [st_at]
        · simp [st_at]
        · simp [st_at]
        · simp [st_at]
  · have hcp2 : m_X2_returnToCaller S = some (0, S) := by
      unfold m_X2_returnToCaller
      rw [ek, wd2 (show k < 2 ^ 31 by omega), if_neg h1, some_bind']; rfl
    refine fin2 hR ?_ ?_
    · rw [hA]
      unfold m_X2_advance_L29
      rw [if_neg (show ¬ nI (szN 8) = 0 by decide), hx, codeAt_eq hn hcd.2.1, some_bind', cdv_in hn hcd.2.1 hp, (hcd.2.2.2 p).1, hb]
      simp only [hx, nI_1, codeAt_eq hn hcd.2.1, some_bind', if_true, if_false, bz0, bz1, e1, e2, e3, e4, e5, e6, e7, e8, e9, e10, e11, e12, e13, e14, e15, if_neg i10, hcp2]
      rfl
    · have hf : m_X9_fails (nI 8) 0 0 T = some (1, T) := by
        unfold m_X9_fails
        simp only [some_bind', if_true, if_false, bz0, bz1, e1, e2, e3, e4, e5, e6, e7, e8, e9, e10, e11, e12, e13, e14, e15, g9, wd9 (show k < 2 ^ 31 by omega), if_neg h1]
      rw [hB, hf, some_bind', if_neg i10]
      unfold m_X9_step_L103
      rw [st_rd, if_neg (show ¬ (2 : Int32) ≤ 0 by decide)]
theorem op9 {S T : St} {n p : Nat} {c : Nat → Nat} (hR : Rel S T) (h : SX S T n p c) (hb : c p = 9) : STEP S T := by
  obtain ⟨hcd, hp, hx, hy, hru, hrv, hbg, h16, hz, hrg, hw, -, -⟩ := id h
  rw [hb] at hz hrg hw
  replace hz : p + 2 ≤ n := hz
  have hn := hcd.1
  obtain ⟨m1, m2, m3, m4, m5, m6, m7, m8, ⟨k, hk, ek⟩, ⟨w, hcw, ew⟩, -⟩ := id hR.2.2.2.1
  have e1 : (nI 9 = (1 : Int32)) = False := eq_false (by decide)
  have e2 : (nI 9 = (2 : Int32)) = False := eq_false (by decide)
  have e3 : (nI 9 = (3 : Int32)) = False := eq_false (by decide)
  have e4 : (nI 9 = (4 : Int32)) = False := eq_false (by decide)
  have e5 : (nI 9 = (5 : Int32)) = False := eq_false (by decide)
  have e6 : (nI 9 = (6 : Int32)) = False := eq_false (by decide)
  have e7 : (nI 9 = (7 : Int32)) = False := eq_false (by decide)
  have e8 : (nI 9 = (8 : Int32)) = False := eq_false (by decide)
  have e9 : (nI 9 = (9 : Int32)) = True := eq_true rfl
  have e10 : (nI 9 = (10 : Int32)) = False := eq_false (by decide)
  have e11 : (nI 9 = (11 : Int32)) = False := eq_false (by decide)
  have e12 : (nI 9 = (12 : Int32)) = False := eq_false (by decide)
  have e13 : (nI 9 = (13 : Int32)) = False := eq_false (by decide)
  have e14 : (nI 9 = (14 : Int32)) = False := eq_false (by decide)
  have e15 : (nI 9 = (15 : Int32)) = False := eq_false (by decide)
  have x1 := (hcd.2.2.2 (p + 1)).2.2
  have x2 := (hcd.2.2.2 (p + 2)).2.2
  have hB := stp9 h (x2 := nI (c (p + 1))) (x3 := 0) (by rw [hb]; rfl) (by rw [hb]; rfl)
  rw [hb] at hB
  have hA := adv_L h
  rw [hb] at hA
  obtain ⟨T0, hT0⟩ : ∃ T0, T0 = st T 30 0 (0 : Int32) := ⟨_, rfl⟩
  have t0 : T0 30 0 = 0 := by rw [hT0, st_rd]
  have tl : T0 30 0 ≤ 0 := by rw [t0]; decide
  have tj : ∀ j, j ≠ 0 → T0 30 j = T 30 j := fun j hj => by rw [hT0, st_col _ _ _ hj]
  have tr : ∀ k, k ≠ 30 → T0 k = T k := fun k hk => by rw [hT0]; exact st_ne _ _ _ hk
  have k9 : T0 30 19 = nI k := by rw [tj 19 (by omega), ← m6]; exact ek
  have w9 : T0 30 23 = nI w := by rw [tj 23 (by omega), ← m8]; exact ew
  have y9 : T0 30 18 = nI p := by rw [tj 18 (by omega)]; exact hy
  have a9 : T0 30 20 = S 20 14 := by rw [tj 20 (by omega)]; exact m7.symm
  have v9 : T0 30 17 = 1 := by rw [tj 17 (by omega)]; exact hrv
  have r8 : T0 22 = S 8 := by rw [tr 22 (by omega)]; exact m1.symm
  have r9 : T0 21 = S 9 := by rw [tr 21 (by omega)]; exact m2.symm
  have r10 : T0 24 = S 10 := by rw [tr 24 (by omega)]; exact m3.symm
  have g9 : T 30 19 = nI k := by rw [← m6]; exact ek
  have gw : T 30 23 = nI w := by rw [← m8]; exact ew
  have g21 : T 21 = S 9 := m2.symm
  have hRt : Rel S T0 := by rw [hT0]; exact hR.t 0
  have le := l103_0 (x1 := nI 9) (x2 := 0) (x3 := 0) hT0 (b := 9) (by omega) rfl
  rw [← hT0] at le
  have hg : m_X2_goTo (nI (c (p + 1))) S = some (1, st S 20 12 (nI (c (p + 1)))) := rfl
  refine fin0 (S1 := st S 20 12 (nI (c (p + 1)))) (T1 := st T0 30 18 (nI (c (p + 1)))) (r9 := nI (c (p + 1))) ?_ ?_ ?_ ?_ ?_
  · rw [hA]
    unfold m_X2_advance_L29
    rw [if_neg (show ¬ nI (szN 9) = 0 by decide), hx, codeAt_eq hn hcd.2.1, some_bind', cdv_in hn hcd.2.1 hp, (hcd.2.2.2 p).1, hb]
    simp only [hx, nI_1, codeAt_eq hn hcd.2.1, cdv_in hn hcd.2.1 (show p + 1 < n by omega), (hcd.2.2.2 (p + 1)).1, some_bind', if_true, if_false, bz0, bz1, e1, e2, e3, e4, e5, e6, e7, e8, e9, e10, e11, e12, e13, e14, e15, if_neg i10, hg]
    rfl
  · have hf : m_X9_fails (nI 9) (nI (c (p + 1))) 0 T = some (0, T) := by
      unfold m_X9_fails
      simp only [some_bind', if_true, if_false, bz0, bz1, e1, e2, e3, e4, e5, e6, e7, e8, e9, e10, e11, e12, e13, e14, e15]
    rw [hB, hf, some_bind', if_pos rfl]
    unfold m_X9_step_L103
    rw [← hT0, if_pos tl, le, some_bind']
    simp only [some_bind', if_true, if_false, bz0, bz1, e1, e2, e3, e4, e5, e6, e7, e8, e9, e10, e11, e12, e13, e14, e15, y9, k9, w9, st_rd, st_row, st_col, ne_eq, not_false_eq_true, Nat.reduceEqDiff]
    unfold m_X9_step_L513
    rw [st_rd]
  · simp [st_at, t0]
  · simp [st_at]
  · refine hRt.step (fun k h1 h2 h3 h4 => ?_) (fun j h1 h2 h3 h4 h5 => ?_) (fun k h1 h2 h3 h4 => ?_) (fun j h1 h2 h3 h4 h5 h6 => ?_) ?_ ?_ ?_ hbg ?_ (Or.inl ?_) ?_ ?_ ?_ ⟨k, ?_, ?_⟩ ⟨w, ?_, ?_⟩ ?_
    · simp [st, h1, h2, h3, h4]
    · simp [st_at, h1, h2, h3, h4, h5]
    · simp [st, h1, h2, h3, h4]
    · simp [st_at, h1, h2, h3, h4, h5, h6]
    · funext j; simp [st_at, r8, r9, r10]
    · funext j; simp [st_at, r8, r9, r10]
    · funext j; simp [st_at, r8, r9, r10]
    · simp [st_at, hru, v9]
    · simp [st_at, hru]
    · simp [st_at, ek, k9, r9]
    · simp [st_at, a9]
    · simp [st_at, ew, w9]
    · exact (show k ≤ 40 by omega)
    · simp [st_at, ek]
    · exact (show w ≤ 40 by omega)
    · simp [st_at, ew]
    · simp [st_at]
theorem op10 {S T : St} {n p : Nat} {c : Nat → Nat} (hR : Rel S T) (h : SX S T n p c) (hb : c p = 10) : STEP S T := by
  obtain ⟨hcd, hp, hx, hy, hru, hrv, hbg, h16, hz, hrg, hw, -, -⟩ := id h
  rw [hb] at hz hrg hw
  replace hz : p + 2 ≤ n := hz
  have hn := hcd.1
  obtain ⟨m1, m2, m3, m4, m5, m6, m7, m8, ⟨k, hk, ek⟩, ⟨w, hcw, ew⟩, -⟩ := id hR.2.2.2.1
  have e1 : (nI 10 = (1 : Int32)) = False := eq_false (by decide)
  have e2 : (nI 10 = (2 : Int32)) = False := eq_false (by decide)
  have e3 : (nI 10 = (3 : Int32)) = False := eq_false (by decide)
  have e4 : (nI 10 = (4 : Int32)) = False := eq_false (by decide)
  have e5 : (nI 10 = (5 : Int32)) = False := eq_false (by decide)
  have e6 : (nI 10 = (6 : Int32)) = False := eq_false (by decide)
  have e7 : (nI 10 = (7 : Int32)) = False := eq_false (by decide)
  have e8 : (nI 10 = (8 : Int32)) = False := eq_false (by decide)
  have e9 : (nI 10 = (9 : Int32)) = False := eq_false (by decide)
  have e10 : (nI 10 = (10 : Int32)) = True := eq_true rfl
  have e11 : (nI 10 = (11 : Int32)) = False := eq_false (by decide)
  have e12 : (nI 10 = (12 : Int32)) = False := eq_false (by decide)
  have e13 : (nI 10 = (13 : Int32)) = False := eq_false (by decide)
  have e14 : (nI 10 = (14 : Int32)) = False := eq_false (by decide)
  have e15 : (nI 10 = (15 : Int32)) = False := eq_false (by decide)
  have x1 := (hcd.2.2.2 (p + 1)).2.2
  have x2 := (hcd.2.2.2 (p + 2)).2.2
  have hB := stp9 h (x2 := nI (c (p + 1))) (x3 := 0) (by rw [hb]; rfl) (by rw [hb]; rfl)
  rw [hb] at hB
  have hA := adv_L h
  rw [hb] at hA
  obtain ⟨T0, hT0⟩ : ∃ T0, T0 = st T 30 0 (0 : Int32) := ⟨_, rfl⟩
  have t0 : T0 30 0 = 0 := by rw [hT0, st_rd]
  have tl : T0 30 0 ≤ 0 := by rw [t0]; decide
  have tj : ∀ j, j ≠ 0 → T0 30 j = T 30 j := fun j hj => by rw [hT0, st_col _ _ _ hj]
  have tr : ∀ k, k ≠ 30 → T0 k = T k := fun k hk => by rw [hT0]; exact st_ne _ _ _ hk
  have k9 : T0 30 19 = nI k := by rw [tj 19 (by omega), ← m6]; exact ek
  have w9 : T0 30 23 = nI w := by rw [tj 23 (by omega), ← m8]; exact ew
  have y9 : T0 30 18 = nI p := by rw [tj 18 (by omega)]; exact hy
  have a9 : T0 30 20 = S 20 14 := by rw [tj 20 (by omega)]; exact m7.symm
  have v9 : T0 30 17 = 1 := by rw [tj 17 (by omega)]; exact hrv
  have r8 : T0 22 = S 8 := by rw [tr 22 (by omega)]; exact m1.symm
  have r9 : T0 21 = S 9 := by rw [tr 21 (by omega)]; exact m2.symm
  have r10 : T0 24 = S 10 := by rw [tr 24 (by omega)]; exact m3.symm
  have g9 : T 30 19 = nI k := by rw [← m6]; exact ek
  have gw : T 30 23 = nI w := by rw [← m8]; exact ew
  have g21 : T 21 = S 9 := m2.symm
  have hRt : Rel S T0 := by rw [hT0]; exact hR.t 0
  have le := l103_0 (x1 := nI 10) (x2 := 0) (x3 := 0) hT0 (b := 10) (by omega) rfl
  rw [← hT0] at le
  by_cases h1 : S 20 14 = 0
  · have hg : m_X2_goTo (nI (p + 2)) S = some (1, st S 20 12 (nI (p + 2))) := rfl
    have ez : nI p + nI (szN 10) = nI (p + 2) := nI_add p 2
    refine fin0 (S1 := st S 20 12 (nI (p + 2))) (T1 := st T0 30 18 (nI (p + 2))) (r9 := nI (p + 2)) ?_ ?_ ?_ ?_ ?_
    · rw [hA]
      unfold m_X2_advance_L29
      rw [if_neg (show ¬ nI (szN 10) = 0 by decide), hx, codeAt_eq hn hcd.2.1, some_bind', cdv_in hn hcd.2.1 hp, (hcd.2.2.2 p).1, hb]
      simp only [hx, nI_1, codeAt_eq hn hcd.2.1, cdv_in hn hcd.2.1 (show p + 1 < n by omega), (hcd.2.2.2 (p + 1)).1, some_bind', if_true, if_false, bz0, bz1, e1, e2, e3, e4, e5, e6, e7, e8, e9, e10, e11, e12, e13, e14, e15, if_neg i10, ez, if_pos h1, hg]
      rfl
    · have hf : m_X9_fails (nI 10) (nI (c (p + 1))) 0 T = some (0, T) := by
        unfold m_X9_fails
        simp only [some_bind', if_true, if_false, bz0, bz1, e1, e2, e3, e4, e5, e6, e7, e8, e9, e10, e11, e12, e13, e14, e15]
      rw [hB, hf, some_bind', if_pos rfl]
      unfold m_X9_step_L103
      rw [← hT0, if_pos tl, le, some_bind']
      simp only [some_bind', if_true, if_false, bz0, bz1, e1, e2, e3, e4, e5, e6, e7, e8, e9, e10, e11, e12, e13, e14, e15, y9, k9, w9, st_rd, st_row, st_col, ne_eq, not_false_eq_true, Nat.reduceEqDiff, a9, if_pos h1, ez]
      unfold m_X9_step_L513
      rw [st_rd]
    · simp [st_at, t0]
    · simp [st_at]
    · refine hRt.step (fun k h1 h2 h3 h4 => ?_) (fun j h1 h2 h3 h4 h5 => ?_) (fun k h1 h2 h3 h4 => ?_) (fun j h1 h2 h3 h4 h5 h6 => ?_) ?_ ?_ ?_ hbg ?_ (Or.inl ?_) ?_ ?_ ?_ ⟨k, ?_, ?_⟩ ⟨w, ?_, ?_⟩ ?_
      · simp [st, h1, h2, h3, h4]
      · simp [st_at, h1, h2, h3, h4, h5]
      · simp [st, h1, h2, h3, h4]
      · simp [st_at, h1, h2, h3, h4, h5, h6]
      · funext j; simp [st_at, r8, r9, r10]
      · funext j; simp [st_at, r8, r9, r10]
      · funext j; simp [st_at, r8, r9, r10]
      · simp [st_at, hru, v9]
      · simp [st_at, hru]
      · simp [st_at, ek, k9, r9]
      · simp [st_at, a9]
      · simp [st_at, ew, w9]
      · exact (show k ≤ 40 by omega)
      · simp [st_at, ek]
      · exact (show w ≤ 40 by omega)
      · simp [st_at, ew]
      · simp [st_at]
  · have hg : m_X2_goTo (nI (c (p + 1))) S = some (1, st S 20 12 (nI (c (p + 1)))) := rfl
    refine fin0 (S1 := st S 20 12 (nI (c (p + 1)))) (T1 := st T0 30 18 (nI (c (p + 1)))) (r9 := nI (c (p + 1))) ?_ ?_ ?_ ?_ ?_
    · rw [hA]
      unfold m_X2_advance_L29
      rw [if_neg (show ¬ nI (szN 10) = 0 by decide), hx, codeAt_eq hn hcd.2.1, some_bind', cdv_in hn hcd.2.1 hp, (hcd.2.2.2 p).1, hb]
      simp only [hx, nI_1, codeAt_eq hn hcd.2.1, cdv_in hn hcd.2.1 (show p + 1 < n by omega), (hcd.2.2.2 (p + 1)).1, some_bind', if_true, if_false, bz0, bz1, e1, e2, e3, e4, e5, e6, e7, e8, e9, e10, e11, e12, e13, e14, e15, if_neg i10, if_neg h1, hg]
      rfl
    · have hf : m_X9_fails (nI 10) (nI (c (p + 1))) 0 T = some (0, T) := by
        unfold m_X9_fails
        simp only [some_bind', if_true, if_false, bz0, bz1, e1, e2, e3, e4, e5, e6, e7, e8, e9, e10, e11, e12, e13, e14, e15]
      rw [hB, hf, some_bind', if_pos rfl]
      unfold m_X9_step_L103
      rw [← hT0, if_pos tl, le, some_bind']
      simp only [some_bind', if_true, if_false, bz0, bz1, e1, e2, e3, e4, e5, e6, e7, e8, e9, e10, e11, e12, e13, e14, e15, y9, k9, w9, st_rd, st_row, st_col, ne_eq, not_false_eq_true, Nat.reduceEqDiff, a9, if_neg h1]
      unfold m_X9_step_L513
      rw [st_rd]
    · simp [st_at, t0]
    · simp [st_at]
    · refine hRt.step (fun k h1 h2 h3 h4 => ?_) (fun j h1 h2 h3 h4 h5 => ?_) (fun k h1 h2 h3 h4 => ?_) (fun j h1 h2 h3 h4 h5 h6 => ?_) ?_ ?_ ?_ hbg ?_ (Or.inl ?_) ?_ ?_ ?_ ⟨k, ?_, ?_⟩ ⟨w, ?_, ?_⟩ ?_
      · simp [st, h1, h2, h3, h4]
      · simp [st_at, h1, h2, h3, h4, h5]
      · simp [st, h1, h2, h3, h4]
      · simp [st_at, h1, h2, h3, h4, h5, h6]
      · funext j; simp [st_at, r8, r9, r10]
      · funext j; simp [st_at, r8, r9, r10]
      · funext j; simp [st_at, r8, r9, r10]
      · simp [st_at, hru, v9]
      · simp [st_at, hru]
      · simp [st_at, ek, k9, r9]
      · simp [st_at, a9]
      · simp [st_at, ew, w9]
      · exact (show k ≤ 40 by omega)
      · simp [st_at, ek]
      · exact (show w ≤ 40 by omega)
      · simp [st_at, ew]
      · simp [st_at]
theorem op11 {S T : St} {n p : Nat} {c : Nat → Nat} (hR : Rel S T) (h : SX S T n p c) (hb : c p = 11) : STEP S T := by
  obtain ⟨hcd, hp, hx, hy, hru, hrv, hbg, h16, hz, hrg, hw, -, -⟩ := id h
  rw [hb] at hz hrg hw
  replace hz : p + 3 ≤ n := hz
  have hn := hcd.1
  obtain ⟨m1, m2, m3, m4, m5, m6, m7, m8, ⟨k, hk, ek⟩, ⟨w, hcw, ew⟩, -⟩ := id hR.2.2.2.1
  have e1 : (nI 11 = (1 : Int32)) = False := eq_false (by decide)
  have e2 : (nI 11 = (2 : Int32)) = False := eq_false (by decide)
  have e3 : (nI 11 = (3 : Int32)) = False := eq_false (by decide)
  have e4 : (nI 11 = (4 : Int32)) = False := eq_false (by decide)
  have e5 : (nI 11 = (5 : Int32)) = False := eq_false (by decide)
  have e6 : (nI 11 = (6 : Int32)) = False := eq_false (by decide)
  have e7 : (nI 11 = (7 : Int32)) = False := eq_false (by decide)
  have e8 : (nI 11 = (8 : Int32)) = False := eq_false (by decide)
  have e9 : (nI 11 = (9 : Int32)) = False := eq_false (by decide)
  have e10 : (nI 11 = (10 : Int32)) = False := eq_false (by decide)
  have e11 : (nI 11 = (11 : Int32)) = True := eq_true rfl
  have e12 : (nI 11 = (12 : Int32)) = False := eq_false (by decide)
  have e13 : (nI 11 = (13 : Int32)) = False := eq_false (by decide)
  have e14 : (nI 11 = (14 : Int32)) = False := eq_false (by decide)
  have e15 : (nI 11 = (15 : Int32)) = False := eq_false (by decide)
  have x1 := (hcd.2.2.2 (p + 1)).2.2
  have x2 := (hcd.2.2.2 (p + 2)).2.2
  have h3 : c (p + 1) < 3 := hrg rfl
  have n3 : inb (nI (c (p + 1))) 3 = true := inb_nI h3 (by omega)
  have n4 : (nI (c (p + 1))).toNatClampNeg = c (p + 1) := nI_cl (by omega)
  have hB := stp9 h (x2 := nI (c (p + 1))) (x3 := nI (c (p + 2))) (by rw [hb]; rfl) (by rw [hb]; rfl)
  rw [hb] at hB
  have hA := adv_o h (by omega) (by omega) (by omega) (by omega)
  rw [hb] at hA
  rw [cdv_in hn hcd.2.1 (show p + 1 < n by omega), (hcd.2.2.2 (p + 1)).1] at hA
  rw [cdv_in hn hcd.2.1 (show p + 2 < n by omega), (hcd.2.2.2 (p + 2)).1] at hA
  replace hA : m_X2_advance S = (m_X2_carryOut (nI 11) (nI (c (p + 1))) (nI (c (p + 2))) S).bind fun r => if r.1 = 0 then some (2, r.2) else some (0, st r.2 20 12 (nI (p + 3))) := hA
  obtain ⟨T0, hT0⟩ : ∃ T0, T0 = st T 30 0 (0 : Int32) := ⟨_, rfl⟩
  have t0 : T0 30 0 = 0 := by rw [hT0, st_rd]
  have tl : T0 30 0 ≤ 0 := by rw [t0]; decide
  have tj : ∀ j, j ≠ 0 → T0 30 j = T 30 j := fun j hj => by rw [hT0, st_col _ _ _ hj]
  have tr : ∀ k, k ≠ 30 → T0 k = T k := fun k hk => by rw [hT0]; exact st_ne _ _ _ hk
  have k9 : T0 30 19 = nI k := by rw [tj 19 (by omega), ← m6]; exact ek
  have w9 : T0 30 23 = nI w := by rw [tj 23 (by omega), ← m8]; exact ew
  have y9 : T0 30 18 = nI p := by rw [tj 18 (by omega)]; exact hy
  have a9 : T0 30 20 = S 20 14 := by rw [tj 20 (by omega)]; exact m7.symm
  have v9 : T0 30 17 = 1 := by rw [tj 17 (by omega)]; exact hrv
  have r8 : T0 22 = S 8 := by rw [tr 22 (by omega)]; exact m1.symm
  have r9 : T0 21 = S 9 := by rw [tr 21 (by omega)]; exact m2.symm
  have r10 : T0 24 = S 10 := by rw [tr 24 (by omega)]; exact m3.symm
  have g9 : T 30 19 = nI k := by rw [← m6]; exact ek
  have gw : T 30 23 = nI w := by rw [← m8]; exact ew
  have g21 : T 21 = S 9 := m2.symm
  have hRt : Rel S T0 := by rw [hT0]; exact hR.t 0
  have le := l103_0 (x1 := nI 11) (x2 := 0) (x3 := 0) hT0 (b := 11) (by omega) rfl
  rw [← hT0] at le
  refine fin0 (S1 := st (st S 9 (c (p + 1)) (nI (c (p + 2)))) 20 12 (nI (p + 3))) (T1 := st (st T0 21 (c (p + 1)) (nI (c (p + 2)))) 30 18 (nI (p + 3))) (r9 := nI (p + 3)) ?_ ?_ ?_ ?_ ?_
  · rw [hA]
    unfold m_X2_carryOut
    simp only [some_bind', if_true, if_false, bz0, bz1, e1, e2, e3, e4, e5, e6, e7, e8, e9, e10, e11, e12, e13, e14, e15, if_neg i10, n3, n4]
  · have hf : m_X9_fails (nI 11) (nI (c (p + 1))) (nI (c (p + 2))) T = some (0, T) := by
      unfold m_X9_fails
      simp only [some_bind', if_true, if_false, bz0, bz1, e1, e2, e3, e4, e5, e6, e7, e8, e9, e10, e11, e12, e13, e14, e15]
    rw [hB, hf, some_bind', if_pos rfl]
    unfold m_X9_step_L103
    rw [← hT0, if_pos tl, le, some_bind']
    simp only [some_bind', if_true, if_false, bz0, bz1, e1, e2, e3, e4, e5, e6, e7, e8, e9, e10, e11, e12, e13, e14, e15, y9, k9, w9, st_rd, st_row, st_col, ne_eq, not_false_eq_true, Nat.reduceEqDiff, n3, n4, show nI p + nI (szN 11) = nI (p + 3) from nI_add p 3]
    unfold m_X9_step_L513
    rw [st_rd]
  · simp [st_at, t0]
  · simp [st_at]
  · refine hRt.step (fun k h1 h2 h3 h4 => ?_) (fun j h1 h2 h3 h4 h5 => ?_) (fun k h1 h2 h3 h4 => ?_) (fun j h1 h2 h3 h4 h5 h6 => ?_) ?_ ?_ ?_ hbg ?_ (Or.inl ?_) ?_ ?_ ?_ ⟨k, ?_, ?_⟩ ⟨w, ?_, ?_⟩ ?_
    · simp [st, h1, h2, h3, h4]
    · simp [st_at, h1, h2, h3, h4, h5]
    · simp [st, h1, h2, h3, h4]
    · simp [st_at, h1, h2, h3, h4, h5, h6]
    · funext j; simp [st_at, r8, r9, r10]
    · funext j; simp [st_at, r8, r9, r10]
    · funext j; simp [st_at, r8, r9, r10]
    · simp [st_at, hru, v9]
    · simp [st_at, hru]
    · simp [st_at, ek, k9, r9]
    · simp [st_at, a9]
    · simp [st_at, ew, w9]
    · exact (show k ≤ 40 by omega)
    · simp [st_at, ek]
    · exact (show w ≤ 40 by omega)
    · simp [st_at, ew]
    · simp [st_at]
theorem op12 {S T : St} {n p : Nat} {c : Nat → Nat} (hR : Rel S T) (h : SX S T n p c) (hb : c p = 12) : STEP S T := by
  obtain ⟨hcd, hp, hx, hy, hru, hrv, hbg, h16, hz, hrg, hw, -, -⟩ := id h
  rw [hb] at hz hrg hw
  replace hz : p + 2 ≤ n := hz
  have hn := hcd.1
  obtain ⟨m1, m2, m3, m4, m5, m6, m7, m8, ⟨k, hk, ek⟩, ⟨w, hcw, ew⟩, -⟩ := id hR.2.2.2.1
  have e1 : (nI 12 = (1 : Int32)) = False := eq_false (by decide)
  have e2 : (nI 12 = (2 : Int32)) = False := eq_false (by decide)
  have e3 : (nI 12 = (3 : Int32)) = False := eq_false (by decide)
  have e4 : (nI 12 = (4 : Int32)) = False := eq_false (by decide)
  have e5 : (nI 12 = (5 : Int32)) = False := eq_false (by decide)
  have e6 : (nI 12 = (6 : Int32)) = False := eq_false (by decide)
  have e7 : (nI 12 = (7 : Int32)) = False := eq_false (by decide)
  have e8 : (nI 12 = (8 : Int32)) = False := eq_false (by decide)
  have e9 : (nI 12 = (9 : Int32)) = False := eq_false (by decide)
  have e10 : (nI 12 = (10 : Int32)) = False := eq_false (by decide)
  have e11 : (nI 12 = (11 : Int32)) = False := eq_false (by decide)
  have e12 : (nI 12 = (12 : Int32)) = True := eq_true rfl
  have e13 : (nI 12 = (13 : Int32)) = False := eq_false (by decide)
  have e14 : (nI 12 = (14 : Int32)) = False := eq_false (by decide)
  have e15 : (nI 12 = (15 : Int32)) = False := eq_false (by decide)
  have x1 := (hcd.2.2.2 (p + 1)).2.2
  have x2 := (hcd.2.2.2 (p + 2)).2.2
  have hB := stp9 h (x2 := nI (c (p + 1))) (x3 := 0) (by rw [hb]; rfl) (by rw [hb]; rfl)
  rw [hb] at hB
  have hA := adv_o h (by omega) (by omega) (by omega) (by omega)
  rw [hb] at hA
  rw [cdv_in hn hcd.2.1 (show p + 1 < n by omega), (hcd.2.2.2 (p + 1)).1] at hA
  replace hA : m_X2_advance S = (m_X2_carryOut (nI 12) (nI (c (p + 1))) (cdv (nI (p + 2)) S) S).bind fun r => if r.1 = 0 then some (2, r.2) else some (0, st r.2 20 12 (nI (p + 2))) := hA
  obtain ⟨T0, hT0⟩ : ∃ T0, T0 = st T 30 0 (0 : Int32) := ⟨_, rfl⟩
  have t0 : T0 30 0 = 0 := by rw [hT0, st_rd]
  have tl : T0 30 0 ≤ 0 := by rw [t0]; decide
  have tj : ∀ j, j ≠ 0 → T0 30 j = T 30 j := fun j hj => by rw [hT0, st_col _ _ _ hj]
  have tr : ∀ k, k ≠ 30 → T0 k = T k := fun k hk => by rw [hT0]; exact st_ne _ _ _ hk
  have k9 : T0 30 19 = nI k := by rw [tj 19 (by omega), ← m6]; exact ek
  have w9 : T0 30 23 = nI w := by rw [tj 23 (by omega), ← m8]; exact ew
  have y9 : T0 30 18 = nI p := by rw [tj 18 (by omega)]; exact hy
  have a9 : T0 30 20 = S 20 14 := by rw [tj 20 (by omega)]; exact m7.symm
  have v9 : T0 30 17 = 1 := by rw [tj 17 (by omega)]; exact hrv
  have r8 : T0 22 = S 8 := by rw [tr 22 (by omega)]; exact m1.symm
  have r9 : T0 21 = S 9 := by rw [tr 21 (by omega)]; exact m2.symm
  have r10 : T0 24 = S 10 := by rw [tr 24 (by omega)]; exact m3.symm
  have g9 : T 30 19 = nI k := by rw [← m6]; exact ek
  have gw : T 30 23 = nI w := by rw [← m8]; exact ew
  have g21 : T 21 = S 9 := m2.symm
  have hRt : Rel S T0 := by rw [hT0]; exact hR.t 0
  have le := l103_0 (x1 := nI 12) (x2 := 0) (x3 := 0) hT0 (b := 12) (by omega) rfl
  rw [← hT0] at le
  refine fin0 (S1 := st (st S 20 14 (nI (c (p + 1)))) 20 12 (nI (p + 2))) (T1 := st (st T0 30 20 (nI (c (p + 1)))) 30 18 (nI (p + 2))) (r9 := nI (p + 2)) ?_ ?_ ?_ ?_ ?_
  · rw [hA]
    unfold m_X2_carryOut
    simp only [some_bind', if_true, if_false, bz0, bz1, e1, e2, e3, e4, e5, e6, e7, e8, e9, e10, e11, e12, e13, e14, e15, if_neg i10]
  · have hf : m_X9_fails (nI 12) (nI (c (p + 1))) 0 T = some (0, T) := by
      unfold m_X9_fails
      simp only [some_bind', if_true, if_false, bz0, bz1, e1, e2, e3, e4, e5, e6, e7, e8, e9, e10, e11, e12, e13, e14, e15]
    rw [hB, hf, some_bind', if_pos rfl]
    unfold m_X9_step_L103
    rw [← hT0, if_pos tl, le, some_bind']
    simp only [some_bind', if_true, if_false, bz0, bz1, e1, e2, e3, e4, e5, e6, e7, e8, e9, e10, e11, e12, e13, e14, e15, y9, k9, w9, st_rd, st_row, st_col, ne_eq, not_false_eq_true, Nat.reduceEqDiff, show nI p + nI (szN 12) = nI (p + 2) from nI_add p 2]
    unfold m_X9_step_L513
    rw [st_rd]
  · simp [st_at, t0]
  · simp [st_at]
  · refine hRt.step (fun k h1 h2 h3 h4 => ?_) (fun j h1 h2 h3 h4 h5 => ?_) (fun k h1 h2 h3 h4 => ?_) (fun j h1 h2 h3 h4 h5 h6 => ?_) ?_ ?_ ?_ hbg ?_ (Or.inl ?_) ?_ ?_ ?_ ⟨k, ?_, ?_⟩ ⟨w, ?_, ?_⟩ ?_
    · simp [st, h1, h2, h3, h4]
    · simp [st_at, h1, h2, h3, h4, h5]
    · simp [st, h1, h2, h3, h4]
    · simp [st_at, h1, h2, h3, h4, h5, h6]
    · funext j; simp [st_at, r8, r9, r10]
    · funext j; simp [st_at, r8, r9, r10]
    · funext j; simp [st_at, r8, r9, r10]
    · simp [st_at, hru, v9]
    · simp [st_at, hru]
    · simp [st_at, ek, k9, r9]
    · simp [st_at, a9]
    · simp [st_at, ew, w9]
    · exact (show k ≤ 40 by omega)
    · simp [st_at, ek]
    · exact (show w ≤ 40 by omega)
    · simp [st_at, ew]
    · simp [st_at]
theorem op13 {S T : St} {n p : Nat} {c : Nat → Nat} (hR : Rel S T) (h : SX S T n p c) (hb : c p = 13) : STEP S T := by
  obtain ⟨hcd, hp, hx, hy, hru, hrv, hbg, h16, hz, hrg, hw, -, -⟩ := id h
  rw [hb] at hz hrg hw
  replace hz : p + 1 ≤ n := hz
  have hn := hcd.1
  obtain ⟨m1, m2, m3, m4, m5, m6, m7, m8, ⟨k, hk, ek⟩, ⟨w, hcw, ew⟩, -⟩ := id hR.2.2.2.1
  have e1 : (nI 13 = (1 : Int32)) = False := eq_false (by decide)
  have e2 : (nI 13 = (2 : Int32)) = False := eq_false (by decide)
  have e3 : (nI 13 = (3 : Int32)) = False := eq_false (by decide)
  have e4 : (nI 13 = (4 : Int32)) = False := eq_false (by decide)
  have e5 : (nI 13 = (5 : Int32)) = False := eq_false (by decide)
  have e6 : (nI 13 = (6 : Int32)) = False := eq_false (by decide)
  have e7 : (nI 13 = (7 : Int32)) = False := eq_false (by decide)
  have e8 : (nI 13 = (8 : Int32)) = False := eq_false (by decide)
  have e9 : (nI 13 = (9 : Int32)) = False := eq_false (by decide)
  have e10 : (nI 13 = (10 : Int32)) = False := eq_false (by decide)
  have e11 : (nI 13 = (11 : Int32)) = False := eq_false (by decide)
  have e12 : (nI 13 = (12 : Int32)) = False := eq_false (by decide)
  have e13 : (nI 13 = (13 : Int32)) = True := eq_true rfl
  have e14 : (nI 13 = (14 : Int32)) = False := eq_false (by decide)
  have e15 : (nI 13 = (15 : Int32)) = False := eq_false (by decide)
  have x1 := (hcd.2.2.2 (p + 1)).2.2
  have x2 := (hcd.2.2.2 (p + 2)).2.2
  have hB := stp9 h (x2 := 0) (x3 := 0) (by rw [hb]; rfl) (by rw [hb]; rfl)
  rw [hb] at hB
  have hA := adv_o h (by omega) (by omega) (by omega) (by omega)
  rw [hb] at hA
  replace hA : m_X2_advance S = (m_X2_carryOut (nI 13) (cdv (nI (p + 1)) S) (cdv (nI (p + 2)) S) S).bind fun r => if r.1 = 0 then some (2, r.2) else some (0, st r.2 20 12 (nI (p + 1))) := hA
  obtain ⟨T0, hT0⟩ : ∃ T0, T0 = st T 30 0 (0 : Int32) := ⟨_, rfl⟩
  have t0 : T0 30 0 = 0 := by rw [hT0, st_rd]
  have tl : T0 30 0 ≤ 0 := by rw [t0]; decide
  have tj : ∀ j, j ≠ 0 → T0 30 j = T 30 j := fun j hj => by rw [hT0, st_col _ _ _ hj]
  have tr : ∀ k, k ≠ 30 → T0 k = T k := fun k hk => by rw [hT0]; exact st_ne _ _ _ hk
  have k9 : T0 30 19 = nI k := by rw [tj 19 (by omega), ← m6]; exact ek
  have w9 : T0 30 23 = nI w := by rw [tj 23 (by omega), ← m8]; exact ew
  have y9 : T0 30 18 = nI p := by rw [tj 18 (by omega)]; exact hy
  have a9 : T0 30 20 = S 20 14 := by rw [tj 20 (by omega)]; exact m7.symm
  have v9 : T0 30 17 = 1 := by rw [tj 17 (by omega)]; exact hrv
  have r8 : T0 22 = S 8 := by rw [tr 22 (by omega)]; exact m1.symm
  have r9 : T0 21 = S 9 := by rw [tr 21 (by omega)]; exact m2.symm
  have r10 : T0 24 = S 10 := by rw [tr 24 (by omega)]; exact m3.symm
  have g9 : T 30 19 = nI k := by rw [← m6]; exact ek
  have gw : T 30 23 = nI w := by rw [← m8]; exact ew
  have g21 : T 21 = S 9 := m2.symm
  have hRt : Rel S T0 := by rw [hT0]; exact hR.t 0
  have le := l103_0 (x1 := nI 13) (x2 := 0) (x3 := 0) hT0 (b := 13) (by omega) rfl
  rw [← hT0] at le
  refine fin0 (S1 := st (st S 20 14 (S 20 14 - 1)) 20 12 (nI (p + 1))) (T1 := st (st T0 30 20 (S 20 14 - 1)) 30 18 (nI (p + 1))) (r9 := nI (p + 1)) ?_ ?_ ?_ ?_ ?_
  · rw [hA]
    unfold m_X2_carryOut
    simp only [some_bind', if_true, if_false, bz0, bz1, e1, e2, e3, e4, e5, e6, e7, e8, e9, e10, e11, e12, e13, e14, e15, if_neg i10]
  · have hf : m_X9_fails (nI 13) 0 0 T = some (0, T) := by
      unfold m_X9_fails
      simp only [some_bind', if_true, if_false, bz0, bz1, e1, e2, e3, e4, e5, e6, e7, e8, e9, e10, e11, e12, e13, e14, e15]
    rw [hB, hf, some_bind', if_pos rfl]
    unfold m_X9_step_L103
    rw [← hT0, if_pos tl, le, some_bind']
    simp only [some_bind', if_true, if_false, bz0, bz1, e1, e2, e3, e4, e5, e6, e7, e8, e9, e10, e11, e12, e13, e14, e15, y9, k9, w9, st_rd, st_row, st_col, ne_eq, not_false_eq_true, Nat.reduceEqDiff, a9, show nI p + nI (szN 13) = nI (p + 1) from nI_add p 1]
    unfold m_X9_step_L513
    rw [st_rd]
  · simp [st_at, t0]
  · simp [st_at]
  · refine hRt.step (fun k h1 h2 h3 h4 => ?_) (fun j h1 h2 h3 h4 h5 => ?_) (fun k h1 h2 h3 h4 => ?_) (fun j h1 h2 h3 h4 h5 h6 => ?_) ?_ ?_ ?_ hbg ?_ (Or.inl ?_) ?_ ?_ ?_ ⟨k, ?_, ?_⟩ ⟨w, ?_, ?_⟩ ?_
    · simp [st, h1, h2, h3, h4]
    · simp [st_at, h1, h2, h3, h4, h5]
    · simp [st, h1, h2, h3, h4]
    · simp [st_at, h1, h2, h3, h4, h5, h6]
    · funext j; simp [st_at, r8, r9, r10]
    · funext j; simp [st_at, r8, r9, r10]
    · funext j; simp [st_at, r8, r9, r10]
    · simp [st_at, hru, v9]
    · simp [st_at, hru]
    · simp [st_at, ek, k9, r9]
    · simp [st_at, a9]
    · simp [st_at, ew, w9]
    · exact (show k ≤ 40 by omega)
    · simp [st_at, ek]
    · exact (show w ≤ 40 by omega)
    · simp [st_at, ew]
    · simp [st_at]
theorem op14 {S T : St} {n p : Nat} {c : Nat → Nat} (hR : Rel S T) (h : SX S T n p c) (hb : c p = 14) : STEP S T := by
  obtain ⟨hcd, hp, hx, hy, hru, hrv, hbg, h16, hz, hrg, hw, -, -⟩ := id h
  rw [hb] at hz hrg hw
  replace hz : p + 3 ≤ n := hz
  have hn := hcd.1
  obtain ⟨m1, m2, m3, m4, m5, m6, m7, m8, ⟨k, hk, ek⟩, ⟨w, hcw, ew⟩, -⟩ := id hR.2.2.2.1
  have e1 : (nI 14 = (1 : Int32)) = False := eq_false (by decide)
  have e2 : (nI 14 = (2 : Int32)) = False := eq_false (by decide)
  have e3 : (nI 14 = (3 : Int32)) = False := eq_false (by decide)
  have e4 : (nI 14 = (4 : Int32)) = False := eq_false (by decide)
  have e5 : (nI 14 = (5 : Int32)) = False := eq_false (by decide)
  have e6 : (nI 14 = (6 : Int32)) = False := eq_false (by decide)
  have e7 : (nI 14 = (7 : Int32)) = False := eq_false (by decide)
  have e8 : (nI 14 = (8 : Int32)) = False := eq_false (by decide)
  have e9 : (nI 14 = (9 : Int32)) = False := eq_false (by decide)
  have e10 : (nI 14 = (10 : Int32)) = False := eq_false (by decide)
  have e11 : (nI 14 = (11 : Int32)) = False := eq_false (by decide)
  have e12 : (nI 14 = (12 : Int32)) = False := eq_false (by decide)
  have e13 : (nI 14 = (13 : Int32)) = False := eq_false (by decide)
  have e14 : (nI 14 = (14 : Int32)) = True := eq_true rfl
  have e15 : (nI 14 = (15 : Int32)) = False := eq_false (by decide)
  have x1 := (hcd.2.2.2 (p + 1)).2.2
  have x2 := (hcd.2.2.2 (p + 2)).2.2
  have h3 : c (p + 1) < 3 := hrg rfl
  have n3 : inb (nI (c (p + 1))) 3 = true := inb_nI h3 (by omega)
  have n4 : (nI (c (p + 1))).toNatClampNeg = c (p + 1) := nI_cl (by omega)
  have hB := stp9 h (x2 := nI (c (p + 1))) (x3 := nI (c (p + 2))) (by rw [hb]; rfl) (by rw [hb]; rfl)
  rw [hb] at hB
  have hA := adv_o h (by omega) (by omega) (by omega) (by omega)
  rw [hb] at hA
  rw [cdv_in hn hcd.2.1 (show p + 1 < n by omega), (hcd.2.2.2 (p + 1)).1] at hA
  rw [cdv_in hn hcd.2.1 (show p + 2 < n by omega), (hcd.2.2.2 (p + 2)).1] at hA
  replace hA : m_X2_advance S = (m_X2_carryOut (nI 14) (nI (c (p + 1))) (nI (c (p + 2))) S).bind fun r => if r.1 = 0 then some (2, r.2) else some (0, st r.2 20 12 (nI (p + 3))) := hA
  obtain ⟨T0, hT0⟩ : ∃ T0, T0 = st T 30 0 (0 : Int32) := ⟨_, rfl⟩
  have t0 : T0 30 0 = 0 := by rw [hT0, st_rd]
  have tl : T0 30 0 ≤ 0 := by rw [t0]; decide
  have tj : ∀ j, j ≠ 0 → T0 30 j = T 30 j := fun j hj => by rw [hT0, st_col _ _ _ hj]
  have tr : ∀ k, k ≠ 30 → T0 k = T k := fun k hk => by rw [hT0]; exact st_ne _ _ _ hk
  have k9 : T0 30 19 = nI k := by rw [tj 19 (by omega), ← m6]; exact ek
  have w9 : T0 30 23 = nI w := by rw [tj 23 (by omega), ← m8]; exact ew
  have y9 : T0 30 18 = nI p := by rw [tj 18 (by omega)]; exact hy
  have a9 : T0 30 20 = S 20 14 := by rw [tj 20 (by omega)]; exact m7.symm
  have v9 : T0 30 17 = 1 := by rw [tj 17 (by omega)]; exact hrv
  have r8 : T0 22 = S 8 := by rw [tr 22 (by omega)]; exact m1.symm
  have r9 : T0 21 = S 9 := by rw [tr 21 (by omega)]; exact m2.symm
  have r10 : T0 24 = S 10 := by rw [tr 24 (by omega)]; exact m3.symm
  have g9 : T 30 19 = nI k := by rw [← m6]; exact ek
  have gw : T 30 23 = nI w := by rw [← m8]; exact ew
  have g21 : T 21 = S 9 := m2.symm
  have hRt : Rel S T0 := by rw [hT0]; exact hR.t 0
  have le := l103_0 (x1 := nI 14) (x2 := 0) (x3 := 0) hT0 (b := 14) (by omega) rfl
  rw [← hT0] at le
  obtain ⟨x, hx9⟩ : ∃ x, c (p + 2) = x := ⟨_, rfl⟩
  rw [hx9] at x2
  by_cases h1 : k + x < 40
  · have q4 : inb (nI (k + x)) 40 = true := inb_nI h1 (by omega)
    have q5 : (nI (k + x)).toNatClampNeg = k + x := nI_cl (by omega)
    refine fin0 (S1 := st (st S 8 (k + x) (S 9 (c (p + 1)))) 20 12 (nI (p + 3))) (T1 := st (st T0 22 (k + x) (T0 21 (c (p + 1)))) 30 18 (nI (p + 3))) (r9 := nI (p + 3)) ?_ ?_ ?_ ?_ ?_
    · rw [hA]
      unfold m_X2_carryOut
      simp only [some_bind', if_true, if_false, bz0, bz1, e1, e2, e3, e4, e5, e6, e7, e8, e9, e10, e11, e12, e13, e14, e15, if_neg i10, n3, n4, ek, hx9, nI_add, stw (show k + x < 2 ^ 31 by omega), if_pos h1]
    · have hf : m_X9_fails (nI 14) (nI (c (p + 1))) (nI (c (p + 2))) T = some (0, T) := by
        unfold m_X9_fails
        simp only [some_bind', if_true, if_false, bz0, bz1, e1, e2, e3, e4, e5, e6, e7, e8, e9, e10, e11, e12, e13, e14, e15, g9, hx9, nI_add, wd9 (show k + x < 2 ^ 31 by omega), if_pos h1, if_neg i10]
      rw [hB, hf, some_bind', if_pos rfl]
      unfold m_X9_step_L103
      rw [← hT0, if_pos tl, le, some_bind']
      simp only [some_bind', if_true, if_false, bz0, bz1, e1, e2, e3, e4, e5, e6, e7, e8, e9, e10, e11, e12, e13, e14, e15, y9, k9, w9, st_rd, st_row, st_col, ne_eq, not_false_eq_true, Nat.reduceEqDiff, n3, n4, hx9, nI_add, q4, q5, show p + szN 14 = p + 3 from rfl]
      unfold m_X9_step_L513
      rw [st_rd]
    · simp [st_at, t0]
    · simp [st_at]
    · refine hRt.step (fun k h1 h2 h3 h4 => ?_) (fun j h1 h2 h3 h4 h5 => ?_) (fun k h1 h2 h3 h4 => ?_) (fun j h1 h2 h3 h4 h5 h6 => ?_) ?_ ?_ ?_ hbg ?_ (Or.inl ?_) ?_ ?_ ?_ ⟨k, ?_, ?_⟩ ⟨w, ?_, ?_⟩ ?_
      · simp [st, h1, h2, h3, h4]
      · simp [st_at, h1, h2, h3, h4, h5]
      · simp [st, h1, h2, h3, h4]
      · simp [st_at, h1, h2, h3, h4, h5, h6]
      · funext j; simp [st_at, r8, r9, r10]
      · funext j; simp [st_at, r8, r9, r10]
      · funext j; simp [st_at, r8, r9, r10]
      · simp [st_at, hru, v9]
      · simp [st_at, hru]
      · simp [st_at, ek, k9, r9]
      · simp [st_at, a9]
      · simp [st_at, ew, w9]
      · exact (show k ≤ 40 by omega)
      · simp [st_at, ek]
      · exact (show w ≤ 40 by omega)
      · simp [st_at, ew]
      · simp [st_at]
  · have q0 : True := trivial
    refine fin2 hR ?_ ?_
    · rw [hA]
      unfold m_X2_carryOut
      simp only [some_bind', if_true, if_false, bz0, bz1, e1, e2, e3, e4, e5, e6, e7, e8, e9, e10, e11, e12, e13, e14, e15, n3, n4, ek, hx9, nI_add, stw (show k + x < 2 ^ 31 by omega), if_neg h1]
    · have hf : m_X9_fails (nI 14) (nI (c (p + 1))) (nI (c (p + 2))) T = some (1, T) := by
        unfold m_X9_fails
        simp only [some_bind', if_true, if_false, bz0, bz1, e1, e2, e3, e4, e5, e6, e7, e8, e9, e10, e11, e12, e13, e14, e15, g9, hx9, nI_add, wd9 (show k + x < 2 ^ 31 by omega), if_neg h1]
      rw [hB, hf, some_bind', if_neg i10]
      unfold m_X9_step_L103
      rw [st_rd, if_neg (show ¬ (2 : Int32) ≤ 0 by decide)]
theorem op15 {S T : St} {n p : Nat} {c : Nat → Nat} (hR : Rel S T) (h : SX S T n p c) (hb : c p = 15) : STEP S T := by
  obtain ⟨hcd, hp, hx, hy, hru, hrv, hbg, h16, hz, hrg, hw, -, -⟩ := id h
  rw [hb] at hz hrg hw
  replace hz : p + 3 ≤ n := hz
  have hn := hcd.1
  obtain ⟨m1, m2, m3, m4, m5, m6, m7, m8, ⟨k, hk, ek⟩, ⟨w, hcw, ew⟩, -⟩ := id hR.2.2.2.1
  have e1 : (nI 15 = (1 : Int32)) = False := eq_false (by decide)
  have e2 : (nI 15 = (2 : Int32)) = False := eq_false (by decide)
  have e3 : (nI 15 = (3 : Int32)) = False := eq_false (by decide)
  have e4 : (nI 15 = (4 : Int32)) = False := eq_false (by decide)
  have e5 : (nI 15 = (5 : Int32)) = False := eq_false (by decide)
  have e6 : (nI 15 = (6 : Int32)) = False := eq_false (by decide)
  have e7 : (nI 15 = (7 : Int32)) = False := eq_false (by decide)
  have e8 : (nI 15 = (8 : Int32)) = False := eq_false (by decide)
  have e9 : (nI 15 = (9 : Int32)) = False := eq_false (by decide)
  have e10 : (nI 15 = (10 : Int32)) = False := eq_false (by decide)
  have e11 : (nI 15 = (11 : Int32)) = False := eq_false (by decide)
  have e12 : (nI 15 = (12 : Int32)) = False := eq_false (by decide)
  have e13 : (nI 15 = (13 : Int32)) = False := eq_false (by decide)
  have e14 : (nI 15 = (14 : Int32)) = False := eq_false (by decide)
  have e15 : (nI 15 = (15 : Int32)) = True := eq_true rfl
  have x1 := (hcd.2.2.2 (p + 1)).2.2
  have x2 := (hcd.2.2.2 (p + 2)).2.2
  have h3 : c (p + 1) < 3 := hrg rfl
  have n3 : inb (nI (c (p + 1))) 3 = true := inb_nI h3 (by omega)
  have n4 : (nI (c (p + 1))).toNatClampNeg = c (p + 1) := nI_cl (by omega)
  have hB := stp9 h (x2 := nI (c (p + 1))) (x3 := nI (c (p + 2))) (by rw [hb]; rfl) (by rw [hb]; rfl)
  rw [hb] at hB
  have hA := adv_o h (by omega) (by omega) (by omega) (by omega)
  rw [hb] at hA
  rw [cdv_in hn hcd.2.1 (show p + 1 < n by omega), (hcd.2.2.2 (p + 1)).1] at hA
  rw [cdv_in hn hcd.2.1 (show p + 2 < n by omega), (hcd.2.2.2 (p + 2)).1] at hA
  replace hA : m_X2_advance S = (m_X2_carryOut (nI 15) (nI (c (p + 1))) (nI (c (p + 2))) S).bind fun r => if r.1 = 0 then some (2, r.2) else some (0, st r.2 20 12 (nI (p + 3))) := hA
  obtain ⟨T0, hT0⟩ : ∃ T0, T0 = st T 30 0 (0 : Int32) := ⟨_, rfl⟩
  have t0 : T0 30 0 = 0 := by rw [hT0, st_rd]
  have tl : T0 30 0 ≤ 0 := by rw [t0]; decide
  have tj : ∀ j, j ≠ 0 → T0 30 j = T 30 j := fun j hj => by rw [hT0, st_col _ _ _ hj]
  have tr : ∀ k, k ≠ 30 → T0 k = T k := fun k hk => by rw [hT0]; exact st_ne _ _ _ hk
  have k9 : T0 30 19 = nI k := by rw [tj 19 (by omega), ← m6]; exact ek
  have w9 : T0 30 23 = nI w := by rw [tj 23 (by omega), ← m8]; exact ew
  have y9 : T0 30 18 = nI p := by rw [tj 18 (by omega)]; exact hy
  have a9 : T0 30 20 = S 20 14 := by rw [tj 20 (by omega)]; exact m7.symm
  have v9 : T0 30 17 = 1 := by rw [tj 17 (by omega)]; exact hrv
  have r8 : T0 22 = S 8 := by rw [tr 22 (by omega)]; exact m1.symm
  have r9 : T0 21 = S 9 := by rw [tr 21 (by omega)]; exact m2.symm
  have r10 : T0 24 = S 10 := by rw [tr 24 (by omega)]; exact m3.symm
  have g9 : T 30 19 = nI k := by rw [← m6]; exact ek
  have gw : T 30 23 = nI w := by rw [← m8]; exact ew
  have g21 : T 21 = S 9 := m2.symm
  have hRt : Rel S T0 := by rw [hT0]; exact hR.t 0
  have le := l103_0 (x1 := nI 15) (x2 := 0) (x3 := 0) hT0 (b := 15) (by omega) rfl
  rw [← hT0] at le
  obtain ⟨x, hx9⟩ : ∃ x, c (p + 2) = x := ⟨_, rfl⟩
  rw [hx9] at x2
  by_cases h1 : k + x < 40
  · have q4 : inb (nI (k + x)) 40 = true := inb_nI h1 (by omega)
    have q5 : (nI (k + x)).toNatClampNeg = k + x := nI_cl (by omega)
    refine fin0 (S1 := st (st S 9 (c (p + 1)) (S 8 (k + x))) 20 12 (nI (p + 3))) (T1 := st (st T0 21 (c (p + 1)) (T0 22 (k + x))) 30 18 (nI (p + 3))) (r9 := nI (p + 3)) ?_ ?_ ?_ ?_ ?_
    · rw [hA]
      unfold m_X2_carryOut
      simp only [some_bind', if_true, if_false, bz0, bz1, e1, e2, e3, e4, e5, e6, e7, e8, e9, e10, e11, e12, e13, e14, e15, if_neg i10, n3, n4, ek, hx9, nI_add, ldr h3 (show k + x < 2 ^ 31 by omega), if_pos h1]
    · have hf : m_X9_fails (nI 15) (nI (c (p + 1))) (nI (c (p + 2))) T = some (0, T) := by
        unfold m_X9_fails
        simp only [some_bind', if_true, if_false, bz0, bz1, e1, e2, e3, e4, e5, e6, e7, e8, e9, e10, e11, e12, e13, e14, e15, g9, hx9, nI_add, wd9 (show k + x < 2 ^ 31 by omega), if_pos h1, if_neg i10]
      rw [hB, hf, some_bind', if_pos rfl]
      unfold m_X9_step_L103
      rw [← hT0, if_pos tl, le, some_bind']
      simp only [some_bind', if_true, if_false, bz0, bz1, e1, e2, e3, e4, e5, e6, e7, e8, e9, e10, e11, e12, e13, e14, e15, y9, k9, w9, st_rd, st_row, st_col, ne_eq, not_false_eq_true, Nat.reduceEqDiff, n3, n4, hx9, nI_add, q4, q5, show p + szN 15 = p + 3 from rfl]
      unfold m_X9_step_L513
      rw [st_rd]
    · simp [st_at, t0]
    · simp [st_at]
    · refine hRt.step (fun k h1 h2 h3 h4 => ?_) (fun j h1 h2 h3 h4 h5 => ?_) (fun k h1 h2 h3 h4 => ?_) (fun j h1 h2 h3 h4 h5 h6 => ?_) ?_ ?_ ?_ hbg ?_ (Or.inl ?_) ?_ ?_ ?_ ⟨k, ?_, ?_⟩ ⟨w, ?_, ?_⟩ ?_
      · simp [st, h1, h2, h3, h4]
      · simp [st_at, h1, h2, h3, h4, h5]
      · simp [st, h1, h2, h3, h4]
      · simp [st_at, h1, h2, h3, h4, h5, h6]
      · funext j; simp [st_at, r8, r9, r10]
      · funext j; simp [st_at, r8, r9, r10]
      · funext j; simp [st_at, r8, r9, r10]
      · simp [st_at, hru, v9]
      · simp [st_at, hru]
      · simp [st_at, ek, k9, r9]
      · simp [st_at, a9]
      · simp [st_at, ew, w9]
      · exact (show k ≤ 40 by omega)
      · simp [st_at, ek]
      · exact (show w ≤ 40 by omega)
      · simp [st_at, ew]
      · simp [st_at]
  · have q0 : True := trivial
    refine fin2 hR ?_ ?_
    · rw [hA]
      unfold m_X2_carryOut
      simp only [some_bind', if_true, if_false, bz0, bz1, e1, e2, e3, e4, e5, e6, e7, e8, e9, e10, e11, e12, e13, e14, e15, n3, n4, ek, hx9, nI_add, ldr h3 (show k + x < 2 ^ 31 by omega), if_neg h1]
    · have hf : m_X9_fails (nI 15) (nI (c (p + 1))) (nI (c (p + 2))) T = some (1, T) := by
        unfold m_X9_fails
        simp only [some_bind', if_true, if_false, bz0, bz1, e1, e2, e3, e4, e5, e6, e7, e8, e9, e10, e11, e12, e13, e14, e15, g9, hx9, nI_add, wd9 (show k + x < 2 ^ 31 by omega), if_neg h1]
      rw [hB, hf, some_bind', if_neg i10]
      unfold m_X9_step_L103
      rw [st_rd, if_neg (show ¬ (2 : Int32) ≤ 0 by decide)]
theorem sim_step (S T : St) (hR : Rel S T) : STEP S T := by
  obtain ⟨m1, m2, m3, m4, m5, m6, m7, m8, m9, m10, m11, m12, m13, m14⟩ := id hR.2.2.2.1
  rcases m12 with h0 | ⟨h1, hb⟩
  · refine fin1 hR ?_ ?_
    · unfold m_X2_advance m_X2_advance_L29
      rw [if_pos h0, if_pos rfl]
    · unfold m_X9_step
      rw [if_pos (by rw [← m5]; exact h0)]
  · have hy := m13 hb
    obtain ⟨n, c, hcd⟩ := hR.1.cd
    have hn := hcd.1
    have hg : T 30 17 = 1 := by rw [← m5]; exact h1
    have hrun : ¬ S 20 11 = 0 := by rw [h1]; exact i10
    have hrun9 : ¬ T 30 17 = 0 := by rw [hg]; exact i10
    have hout : m_X4_wholeSize (S 20 12) (nI n) S = some (0, S) → m_X9_isWhole (T 30 18) (nI n) T = some (0, T) → STEP S T := by
      intro a1 a2
      refine fin1 hR ?_ ?_
      · unfold m_X2_advance m_X2_advance_L29
        rw [if_neg hrun, hcd.2.1, a1, some_bind', if_pos rfl]
      · unfold m_X9_step
        rw [if_neg hrun9, hcd.2.2.1, a2, some_bind', if_pos rfl]
    rcases ix3 (S 20 12) (n := n) (by omega) with h | ⟨h, h2, -⟩ | ⟨p, hp, ep, -, -, -⟩
    · exact hout (wsz_out hcd (Or.inl h)).1 (by rw [← hy]; exact (wsz_out hcd (Or.inl h)).2)
    · exact hout (wsz_out hcd (Or.inr ⟨h, h2⟩)).1 (by rw [← hy]; exact (wsz_out hcd (Or.inr ⟨h, h2⟩)).2)
    · by_cases hw : c p < 16 ∧ p + szN (c p) ≤ n ∧ (rgN (c p) = true → c (p + 1) < 3)
      · have hwz : wh c p n = szN (c p) := if_pos hw
        have hs : 1 ≤ szN (c p) ∧ szN (c p) ≤ 3 := by
          rcases lt16 hw.1 with h | h | h | h | h | h | h | h | h | h | h | h | h | h | h | h <;> rw [h] <;> decide
        have hX : SX S T n p c := ⟨hcd, hp, ep, by rw [← hy]; exact ep, h1, hg, hb, hw.1, hw.2.1, hw.2.2, hwz, hs.1, hs.2⟩
        rcases lt16 hw.1 with h | h | h | h | h | h | h | h | h | h | h | h | h | h | h | h
        · exact op0 hR hX h
        · exact op1 hR hX h
        · exact op2 hR hX h
        · exact op3 hR hX h
        · exact op4 hR hX h
        · exact op5 hR hX h
        · exact op6 hR hX h
        · exact op7 hR hX h
        · exact op8 hR hX h
        · exact op9 hR hX h
        · exact op10 hR hX h
        · exact op11 hR hX h
        · exact op12 hR hX h
        · exact op13 hR hX h
        · exact op14 hR hX h
        · exact op15 hR hX h
      · have hwz : wh c p n = 0 := if_neg hw
        refine hout ?_ ?_
        · rw [ep, wsz_eq hcd hp (Nat.le_refl n), hwz]; rfl
        · rw [← hy, ep, isw_eq hcd hp (Nat.le_refl n), hwz]; rfl
