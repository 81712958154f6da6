/-! ===== the pure part: class and reference keep in step ===== -/
def byte (x : Int32) : Prop := ∃ k : Nat, k < 256 ∧ x = nI k
theorem inb_iff {x : Int32} {n : Nat} : (inb x n = true) ↔ 0 ≤ x.toInt ∧ x.toInt < n := by
  rw [← vp_in_iff]
  exact ⟨inb_vp, fun h => decide_eq_true h⟩
theorem inb_nI {j n : Nat} (h : j < n) (hn : n < 2 ^ 31) : inb (nI j) n = true := decide_eq_true (vp_in_nI h hn)
theorem nI_cl {j : Nat} (h : j < 2 ^ 31) : (nI j).toNatClampNeg = j := nI_clamp h
theorem bz0 (S : St) : bz 0 S = some (0, S) := rfl
theorem bz1 (S : St) : bz 1 S = some (1, S) := rfl
theorem some_bind' {α β : Type} (x : α) (f : α → Option β) : (some x).bind f = f x := rfl
/-- where a number lies to a bound -/
theorem ix3 (x : Int32) {n : Nat} (hn : n < 2 ^ 31) : x < 0 ∨ (¬ x < 0 ∧ nI n ≤ x ∧ ¬ x < nI n) ∨ ∃ j : Nat, j < n ∧ x = nI j ∧ ¬ x < 0 ∧ ¬ nI n ≤ x ∧ x < nI n := by
  rcases pk_ix x hn with h | h | ⟨j, hj, rfl⟩
  · exact Or.inl h
  · by_cases h0 : x < 0
    · exact Or.inl h0
    · refine Or.inr (Or.inl ⟨h0, h, ?_⟩)
      rw [Int32.le_iff_toInt_le] at h
      rw [Int32.lt_iff_toInt_lt]
      omega
  · refine Or.inr (Or.inr ⟨j, hj, rfl, nI_pos (by omega), nI_ge hj hn, nI_lt hj hn⟩)
def RC (S T : St) : Prop := S 0 = T 1 ∧ S 20 0 = T 30 2 ∧ (∃ n : Nat, n ≤ 96 ∧ S 20 0 = nI n) ∧ ∀ i, byte (S 0 i)
def RF (S T : St) : Prop := S 20 1 = T 30 3 ∧ S 1 = T 4 ∧ S 2 = T 5 ∧ ∃ k : Nat, k ≤ 5 ∧ S 20 1 = nI k ∧ ∃ f g : Nat → Nat, (∀ i, i < k → S 1 i = nI (f i) ∧ S 2 i = nI (g i) ∧ f i < g i ∧ g i ≤ 96 ∧ nI (g i) ≤ S 20 0) ∧ ∀ i, i + 1 < k → g i ≤ f (i + 1)
def RS (S T : St) : Prop := S 7 = T 10 ∧ S 20 6 = T 30 12 ∧ (∃ n : Nat, n ≤ 1076 ∧ S 20 6 = nI n) ∧ ∀ i, byte (S 7 i)
def RM (S T : St) : Prop := S 8 = T 22 ∧ S 9 = T 21 ∧ S 10 = T 24 ∧ S 20 10 = T 30 16 ∧ S 20 11 = T 30 17 ∧ S 20 13 = T 30 19 ∧ S 20 14 = T 30 20 ∧ S 20 15 = T 30 23 ∧ (∃ n : Nat, n ≤ 40 ∧ S 20 13 = nI n) ∧ (∃ n : Nat, n ≤ 40 ∧ S 20 15 = nI n) ∧ (S 20 10 = 0 ∨ S 20 10 = 1) ∧ (S 20 11 = 0 ∨ (S 20 11 = 1 ∧ S 20 10 = 1)) ∧ (S 20 10 = 1 → S 20 12 = T 30 18) ∧ (S 20 10 = 1 → S 20 11 = 0 → S 20 12 = 255)
def RR (S T : St) : Prop := S 20 16 = T 30 25 ∧ ∃ n : Nat, n ≤ 20 ∧ S 20 16 = nI n ∧ ∀ i, i < 5 * n → S 11 i = T 26 i
def Rel (S T : St) : Prop := RC S T ∧ RF S T ∧ RS S T ∧ RM S T ∧ RR S T
/-- what row 40 holds, and a change of row 40, are no part of it -/
theorem Rel.x {S T : St} (h : Rel S T) (v : Int32) : Rel (st S 40 0 v) T := h
theorem Rel.t {S T : St} (h : Rel S T) (v : Int32) : Rel S (st T 30 0 v) := h
theorem rel0 : Rel (fun _ _ => 0) (fun _ _ => 0) := by
  refine ⟨⟨rfl, rfl, ⟨0, by omega, rfl⟩, fun _ => ⟨0, by omega, rfl⟩⟩, ⟨rfl, rfl, rfl, 0, by omega, rfl, fun _ => 0, fun _ => 0, fun i hi => absurd hi (by omega), fun i hi => absurd hi (by omega)⟩, ⟨rfl, rfl, ⟨0, by omega, rfl⟩, fun _ => ⟨0, by omega, rfl⟩⟩, ⟨rfl, rfl, rfl, rfl, rfl, rfl, rfl, rfl, ⟨0, by omega, rfl⟩, ⟨0, by omega, rfl⟩, Or.inl rfl, Or.inl rfl, fun h => ?_, fun h => ?_⟩, ⟨rfl, 0, by omega, rfl, fun i hi => absurd hi (by omega)⟩⟩
  · exact absurd h (by decide)
  · exact absurd h (by decide)
theorem sim_section (S T : St) (z0 : Int32) (hR : Rel S T) : ∃ (r1 : Int32) (S1 T1 : St), m_X8_section z0 S = some (r1, S1) ∧ m_X9_section z0 T = some (r1, T1) ∧ Rel S1 T1 := by
  obtain ⟨e1, e2, ⟨n, hn, en⟩, -⟩ := id hR.2.2.1
  have e3 : (st T 30 0 (0 : Int32)) 30 12 = nI n := by rw [st_at]; simp; rw [← e2, en]
  have e4 : ∀ i, (st T 30 0 (0 : Int32)) 10 i = S 7 i := fun i => by rw [st_at, e1]; simp
  unfold m_X8_section m_X7_byteAt m_X9_section
  rw [e3, en]
  rcases ix3 z0 (n := n) (by omega) with h | ⟨h0, h1, h2⟩ | ⟨j, hj, rfl, h0, h1, h2⟩
  · simp only [h, if_true, some_bind']
    exact ⟨_, _, _, rfl, rfl, hR.t 0⟩
  · simp only [h0, h1, h2, if_true, if_false, some_bind']
    exact ⟨_, _, _, rfl, rfl, hR.t 0⟩
  · simp only [h0, h1, h2, if_true, if_false, some_bind', inb_nI (show j < 1076 by omega) (by omega), inb_nI (show j < 6000 by omega) (by omega), e4]
    exact ⟨_, _, _, rfl, rfl, hR.t 0⟩
theorem sim_poke (S T : St) (z0 z1 : Int32) (hR : Rel S T) : ∃ (r1 : Int32) (S1 T1 : St), m_X8_poke z0 z1 S = some (r1, S1) ∧ m_X9_poke z0 z1 T = some (r1, T1) ∧ Rel S1 T1 := by
  obtain ⟨hc, hf, hs, hm, hr⟩ := id hR
  obtain ⟨e1, e2, ⟨n, hn, en⟩, hb⟩ := id hs
  have e3 : (st T 30 0 (0 : Int32)) 30 12 = nI n := by rw [st_at]; simp; rw [← e2, en]
  unfold m_X8_poke m_X7_change m_X9_poke
  rw [e3, en]
  rcases ix3 z0 (n := n) (by omega) with h | ⟨h0, h1, h2⟩ | ⟨j, hj, rfl, h0, h1, h2⟩
  · simp only [h, if_true, some_bind', bz0]
    exact ⟨_, _, _, rfl, rfl, hR.t 0⟩
  · simp only [h0, h1, if_true, if_false, some_bind', bz0]
    exact ⟨_, _, _, rfl, rfl, hR.t 0⟩
  · simp only [h0, h1, if_false]
    by_cases k0 : z1 < 0
    · simp only [k0, if_true, some_bind', bz0]
      exact ⟨_, _, _, rfl, rfl, hR.t 0⟩
    · by_cases k1 : z1 ≤ 255
      · simp only [k0, k1, if_true, if_false, some_bind', inb_nI (show j < 1076 by omega) (by omega), inb_nI (show j < 6000 by omega) (by omega), bz1]
        refine ⟨_, _, _, rfl, rfl, ?_⟩
        obtain ⟨q, hq, rfl⟩ := nI_of2 (M := 255) (n := 255) (by decide) k0 k1
        refine ⟨hc, hf, ⟨?_, e2, ⟨n, hn, en⟩, fun i => ?_⟩, hm, hr⟩
        · funext i
          rw [st_at, st_at, st_at]
          simp [e1]
        · rw [st_at]
          by_cases hi : i = (nI j).toNatClampNeg
          · simp [hi]; exact ⟨q, by omega, rfl⟩
          · simp [hi]; exact hb i
      · simp only [k0, k1, if_false, some_bind', bz0]
        exact ⟨_, _, _, rfl, rfl, hR.t 0⟩
