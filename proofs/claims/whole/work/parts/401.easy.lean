theorem ne7 {x : Int32} (h : x < 0 ∨ nI 7 ≤ x) : ¬ x = 0 ∧ ¬ x = 1 ∧ ¬ x = 2 ∧ ¬ x = 3 ∧ ¬ x = 4 ∧ ¬ x = 5 ∧ ¬ x = 6 := by
  refine ⟨?_, ?_, ?_, ?_, ?_, ?_, ?_⟩ <;> (intro e; subst e; rcases h with h | h <;> revert h <;> decide)
theorem sim_machine (S T : St) (z0 : Int32) (hR : Rel S T) : ∃ (r1 : Int32) (S1 T1 : St), m_X8_machine z0 S = some (r1, S1) ∧ m_X9_machine z0 T = some (r1, T1) ∧ Rel S1 T1 := by
  obtain ⟨m1, m2, m3, m4, m5, m6, m7, m8, m9, m10, m11, m12, m13, m14⟩ := id hR.2.2.2.1
  have g : ∀ k, k ≠ 0 → (st T 30 0 (0 : Int32)) 30 k = T 30 k := fun k hk => by rw [st_at]; simp [hk]
  have g2 : ∀ i, (st T 30 0 (0 : Int32)) 21 i = S 9 i := fun i => by rw [st_at, m2]; simp
  unfold m_X8_machine m_X2_part m_X9_machine
  rw [g 16 (by omega), g 18 (by omega), g 19 (by omega), g 20 (by omega), g 23 (by omega), ← m4, ← m6, ← m7, ← m8]
  rcases m11 with h0 | h0
  · rw [h0]
    simp only [if_true, some_bind']
    exact ⟨_, _, _, rfl, rfl, hR.t 0⟩
  · have hp := m13 h0
    have h10 : ¬ (1 : Int32) = 0 := by decide
    rw [h0, ← hp]
    simp only [h10, if_false]
    rcases ix3 z0 (n := 7) (by omega) with h | ⟨a0, a1, a2⟩ | ⟨j, hj, rfl, a0, a1, a2⟩
    · obtain ⟨b0, b1, b2, b3, b4, b5, b6⟩ := ne7 (Or.inl h)
      simp only [b0, b1, b2, b3, b4, b5, b6, h, if_true, if_false, some_bind']
      exact ⟨_, _, _, rfl, rfl, hR.t 0⟩
    · obtain ⟨b0, b1, b2, b3, b4, b5, b6⟩ := ne7 (Or.inr a1)
      have c6 : ¬ z0 ≤ 6 := by
        rw [Int32.le_iff_toInt_le] at a1 ⊢
        have e1 : (nI 7).toInt = 7 := by decide
        have e2 : (6 : Int32).toInt = 6 := by decide
        omega
      simp only [b0, b1, b2, b3, b4, b5, b6, a0, c6, if_false, some_bind']
      exact ⟨_, _, _, rfl, rfl, hR.t 0⟩
    · rcases (show j = 0 ∨ j = 1 ∨ j = 2 ∨ j = 3 ∨ j = 4 ∨ j = 5 ∨ j = 6 by omega) with rfl | rfl | rfl | rfl | rfl | rfl | rfl
      · exact ⟨_, _, _, rfl, rfl, hR.t 0⟩
      · exact ⟨_, _, _, rfl, rfl, hR.t 0⟩
      · exact ⟨S 9 0, _, _, rfl, by rw [← g2 0]; rfl, hR.t 0⟩
      · exact ⟨S 9 1, _, _, rfl, by rw [← g2 1]; rfl, hR.t 0⟩
      · exact ⟨S 9 2, _, _, rfl, by rw [← g2 2]; rfl, hR.t 0⟩
      · exact ⟨_, _, _, rfl, rfl, hR.t 0⟩
      · exact ⟨_, _, _, rfl, rfl, hR.t 0⟩
theorem sim_call (S T : St) (z0 : Int32) (hR : Rel S T) : ∃ (r1 : Int32) (S1 T1 : St), m_X8_call z0 S = some (r1, S1) ∧ m_X9_call z0 T = some (r1, T1) ∧ Rel S1 T1 := by
  obtain ⟨m1, m2, m3, m4, m5, m6, m7, m8, m9, ⟨n, hn, en⟩, -⟩ := id hR.2.2.2.1
  have e3 : (st T 30 0 (0 : Int32)) 30 23 = nI n := by rw [st_at]; simp; rw [← m8, en]
  have e4 : ∀ i, (st T 30 0 (0 : Int32)) 24 i = S 10 i := fun i => by rw [st_at, m3]; simp
  unfold m_X8_call m_X2_returnOf m_X9_call
  rw [e3, en]
  rcases ix3 z0 (n := n) (by omega) with h | ⟨h0, h1, h2⟩ | ⟨j, hj, rfl, h0, h1, h2⟩
  · simp only [h, if_true, some_bind']
    exact ⟨_, _, _, rfl, rfl, hR.t 0⟩
  · simp only [h0, h1, h2, if_true, if_false, some_bind']
    exact ⟨_, _, _, rfl, rfl, hR.t 0⟩
  · have e5 : nI n - 1 - nI j = nI (n - 1 - j) := by
      rw [show (1 : Int32) = nI 1 from rfl, pk_sub (by omega), pk_sub (by omega)]
    simp only [h0, h1, h2, if_true, if_false, some_bind', e5, inb_nI (show n - 1 - j < 40 by omega) (by omega), e4]
    exact ⟨_, _, _, rfl, rfl, hR.t 0⟩
theorem sim_frame (S T : St) (z0 z1 : Int32) (hR : Rel S T) : ∃ (r1 : Int32) (S1 T1 : St), m_X8_frame z0 z1 S = some (r1, S1) ∧ m_X9_frame z0 z1 T = some (r1, T1) ∧ Rel S1 T1 := by
  obtain ⟨e1, n, hn, en, hp⟩ := id hR.2.2.2.2
  have e3 : (st T 30 0 (0 : Int32)) 30 25 = nI n := by rw [st_at]; simp; rw [← e1, en]
  have e4 : ∀ i, (st T 30 0 (0 : Int32)) 26 i = T 26 i := fun i => by rw [st_at]; simp
  unfold m_X8_frame m_X0_part m_X9_frame
  rw [e3, en]
  rcases ix3 z0 (n := n) (by omega) with h | ⟨h0, h1, h2⟩ | ⟨j, hj, rfl, h0, h1, h2⟩
  · simp only [h, if_true, some_bind']
    exact ⟨_, _, _, rfl, rfl, hR.t 0⟩
  · simp only [h0, h1, if_true, if_false, some_bind']
    exact ⟨_, _, _, rfl, rfl, hR.t 0⟩
  · simp only [h0, h1, if_false]
    rcases ix3 z1 (n := 5) (by omega) with k | ⟨k0, k1, k2⟩ | ⟨i, hi, rfl, k0, k1, k2⟩
    · simp only [k, if_true, some_bind']
      exact ⟨_, _, _, rfl, rfl, hR.t 0⟩
    · have k3 : ¬ z1 < 5 := k2
      have k4 : ¬ z1 ≤ 4 := by
        rw [Int32.le_iff_toInt_le] at k1 ⊢
        have e1 : (nI 5).toInt = 5 := by decide
        have e2 : (4 : Int32).toInt = 4 := by decide
        omega
      simp only [k0, k3, k4, if_false, some_bind']
      exact ⟨_, _, _, rfl, rfl, hR.t 0⟩
    · have k3 : nI i < 5 := k2
      have k4 : nI i ≤ 4 := nI_le (b := 4) (by omega) (by decide)
      have e5 : nI j * 5 + nI i = nI (5 * j + i) := by
        rw [show (5 : Int32) = nI 5 from rfl, pk_mul, nI_add, Nat.mul_comm]
      have e6 : 5 * nI j + nI i = nI (5 * j + i) := by
        rw [show (5 : Int32) = nI 5 from rfl, pk_mul, nI_add]
      simp only [k0, k3, k4, if_true, if_false, some_bind', e5, e6, inb_nI (show 5 * j + i < 100 by omega) (by omega), e4, nI_cl (show 5 * j + i < 2 ^ 31 by omega)]
      rw [hp (5 * j + i) (by omega)]
      exact ⟨_, _, _, rfl, rfl, hR.t 0⟩
/-- the run is over: on both sides -/
theorem over_sim {S T : St} (h : RM S T) : ∃ T1 : St, m_X9_over T = some (0, T1) ∧ RM (st (st S 20 11 0) 20 12 255) T1 ∧ (∀ k, k ≠ 30 → T1 k = T k) ∧ ∀ k, k ≠ 17 → k ≠ 18 → T1 30 k = T 30 k := by
  obtain ⟨m1, m2, m3, m4, m5, m6, m7, m8, m9, m10, m11, m12, m13, m14⟩ := h
  have s1 : ∀ k, k ≠ 20 → (st (st S 20 11 0) 20 12 255) k = S k := fun k hk => by simp [st, hk]
  have s2 : ∀ k, k ≠ 11 → k ≠ 12 → (st (st S 20 11 0) 20 12 255) 20 k = S 20 k := fun k h1 h2 => by simp [st_at, h1, h2]
  have s3 : (st (st S 20 11 0) 20 12 255) 20 11 = 0 := by simp [st_at]
  have s4 : (st (st S 20 11 0) 20 12 255) 20 12 = 255 := by simp [st_at]
  unfold m_X9_over
  by_cases hr : T 30 17 = 0
  · rw [if_pos hr]
    have t1 : ∀ k, k ≠ 30 → (st (st T 30 18 (T 30 18)) 30 17 0) k = T k := fun k hk => by simp [st, hk]
    have t2 : ∀ k, k ≠ 17 → k ≠ 18 → (st (st T 30 18 (T 30 18)) 30 17 0) 30 k = T 30 k := fun k h1 h2 => by simp [st_at, h1, h2]
    have t3 : (st (st T 30 18 (T 30 18)) 30 17 0) 30 17 = 0 := by simp [st_at]
    have t4 : (st (st T 30 18 (T 30 18)) 30 17 0) 30 18 = T 30 18 := by simp [st_at]
    refine ⟨_, rfl, ?_, t1, t2⟩
    unfold RM
    rw [s1 8 (by omega), s1 9 (by omega), s1 10 (by omega), s2 10 (by omega) (by omega), s2 13 (by omega) (by omega), s2 14 (by omega) (by omega), s2 15 (by omega) (by omega), s3, s4, t1 22 (by omega), t1 21 (by omega), t1 24 (by omega), t2 16 (by omega) (by omega), t2 19 (by omega) (by omega), t2 20 (by omega) (by omega), t2 23 (by omega) (by omega), t3, t4]
    refine ⟨m1, m2, m3, m4, rfl, m6, m7, m8, m9, m10, m11, Or.inl rfl, fun h => ?_, fun _ _ => rfl⟩
    rw [← m13 h, m14 h (by rw [m5]; exact hr)]
  · rw [if_neg hr]
    have t1 : ∀ k, k ≠ 30 → (st (st T 30 18 255) 30 17 0) k = T k := fun k hk => by simp [st, hk]
    have t2 : ∀ k, k ≠ 17 → k ≠ 18 → (st (st T 30 18 255) 30 17 0) 30 k = T 30 k := fun k h1 h2 => by simp [st_at, h1, h2]
    have t3 : (st (st T 30 18 255) 30 17 0) 30 17 = 0 := by simp [st_at]
    have t4 : (st (st T 30 18 255) 30 17 0) 30 18 = 255 := by simp [st_at]
    refine ⟨_, rfl, ?_, t1, t2⟩
    unfold RM
    rw [s1 8 (by omega), s1 9 (by omega), s1 10 (by omega), s2 10 (by omega) (by omega), s2 13 (by omega) (by omega), s2 14 (by omega) (by omega), s2 15 (by omega) (by omega), s3, s4, t1 22 (by omega), t1 21 (by omega), t1 24 (by omega), t2 16 (by omega) (by omega), t2 19 (by omega) (by omega), t2 20 (by omega) (by omega), t2 23 (by omega) (by omega), t3, t4]
    exact ⟨m1, m2, m3, m4, rfl, m6, m7, m8, m9, m10, m11, Or.inl rfl, fun _ => rfl, fun _ _ => rfl⟩
theorem sim_clear (S T : St) (hR : Rel S T) : ∃ (r1 : Int32) (S1 T1 : St), m_X8_clear S = some (r1, S1) ∧ m_X9_clear T = some (r1, T1) ∧ Rel S1 T1 := by
  obtain ⟨hc, hf, hs, hm, hr⟩ := id (hR.t 0)
  obtain ⟨T1, ho, hm1, t1, t2⟩ := over_sim hm
  unfold m_X8_clear m_X2_end m_X4_empty m_X9_clear
  rw [ho]
  simp only [some_bind']
  refine ⟨_, _, (st (st T1 30 3 0) 30 2 0), rfl, ?_, ?_⟩
  · congr 2
    rw [← hf.1]
    simp [st_at]
  · obtain ⟨c1, c2, ⟨n, hn, en⟩, cb⟩ := hc
    refine ⟨⟨?_, ?_, ⟨0, by omega, ?_⟩, ?_⟩, ⟨?_, ?_, ?_, 0, by omega, ?_, fun _ => 0, fun _ => 0, fun i hi => absurd hi (by omega), fun i hi => absurd hi (by omega)⟩, ?_, ?_, ?_⟩
    · funext i; simp [st_at]; rw [t1 1 (by omega)]; exact congrFun c1 i
    · simp [st_at]
    · simp [st_at]; rfl
    · intro i; simp [st_at]; exact cb i
    · simp [st_at]
    · funext i; simp [st_at]; rw [t1 4 (by omega)]; exact congrFun hf.2.1 i
    · funext i; simp [st_at]; rw [t1 5 (by omega)]; exact congrFun hf.2.2.1 i
    · simp [st_at]; rfl
    · obtain ⟨a1, a2, a3, a4⟩ := hs
      refine ⟨?_, ?_, ?_, ?_⟩
      · funext i; simp [st_at]; rw [t1 10 (by omega)]; exact congrFun a1 i
      · simp [st_at]; rw [t2 12 (by omega) (by omega)]; exact a2
      · simpa [st_at] using a3
      · intro i; simp [st_at]; exact a4 i
    · exact hm1
    · obtain ⟨a1, n, hn, a2, a3⟩ := hr
      refine ⟨?_, n, hn, ?_, ?_⟩
      · simp [st_at]; rw [t2 25 (by omega) (by omega)]; exact a1
      · simpa [st_at] using a2
      · intro i hi; simp [st_at]; rw [t1 26 (by omega)]; exact a3 i hi
