/-! sizes, registers, whole instructions -/
def szN (b : Nat) : Nat := ([1, 2, 2, 2, 2, 1, 1, 2, 1, 2, 2, 3, 2, 1, 3, 3] : List Nat).getD b 0
def rgN (b : Nat) : Bool := b == 1 || b == 2 || b == 11 || b == 14 || b == 15
def wh (c : Nat → Nat) (p e : Nat) : Nat := if c p < 16 ∧ p + szN (c p) ≤ e ∧ (rgN (c p) = true → c (p + 1) < 3) then szN (c p) else 0
theorem lt16 {b : Nat} (h : b < 16) : b = 0 ∨ b = 1 ∨ b = 2 ∨ b = 3 ∨ b = 4 ∨ b = 5 ∨ b = 6 ∨ b = 7 ∨ b = 8 ∨ b = 9 ∨ b = 10 ∨ b = 11 ∨ b = 12 ∨ b = 13 ∨ b = 14 ∨ b = 15 := by omega
theorem nI_ne {a b : Nat} (ha : a < 2 ^ 31) (hb : b < 2 ^ 31) (h : a ≠ b) : ¬ nI a = nI b := fun e => h ((nI_eq ha hb).mp e)
theorem len_eq {b : Nat} (hb : b < 256) (T : St) : m_X9_lengthOf (nI b) T = some (nI (szN b), T) := by
  by_cases h : b < 16
  · rcases lt16 h with rfl | rfl | rfl | rfl | rfl | rfl | rfl | rfl | rfl | rfl | rfl | rfl | rfl | rfl | rfl | rfl <;> rfl
  · have n0 : ¬ nI b = 0 := nI_ne (b := 0) (by omega) (by omega) (by omega)
    have n1 : ¬ nI b = 1 := nI_ne (b := 1) (by omega) (by omega) (by omega)
    have n2 : ¬ nI b = 2 := nI_ne (b := 2) (by omega) (by omega) (by omega)
    have n3 : ¬ nI b = 3 := nI_ne (b := 3) (by omega) (by omega) (by omega)
    have n4 : ¬ nI b = 4 := nI_ne (b := 4) (by omega) (by omega) (by omega)
    have n5 : ¬ nI b = 5 := nI_ne (b := 5) (by omega) (by omega) (by omega)
    have n6 : ¬ nI b = 6 := nI_ne (b := 6) (by omega) (by omega) (by omega)
    have n7 : ¬ nI b = 7 := nI_ne (b := 7) (by omega) (by omega) (by omega)
    have n8 : ¬ nI b = 8 := nI_ne (b := 8) (by omega) (by omega) (by omega)
    have n9 : ¬ nI b = 9 := nI_ne (b := 9) (by omega) (by omega) (by omega)
    have n10 : ¬ nI b = 10 := nI_ne (b := 10) (by omega) (by omega) (by omega)
    have n11 : ¬ nI b = 11 := nI_ne (b := 11) (by omega) (by omega) (by omega)
    have n12 : ¬ nI b = 12 := nI_ne (b := 12) (by omega) (by omega) (by omega)
    have n13 : ¬ nI b = 13 := nI_ne (b := 13) (by omega) (by omega) (by omega)
    have n14 : ¬ nI b = 14 := nI_ne (b := 14) (by omega) (by omega) (by omega)
    have n15 : ¬ nI b = 15 := nI_ne (b := 15) (by omega) (by omega) (by omega)
    have n16 : (16 : Int32) ≤ nI b := nI_le (a := 16) (by omega) (by omega)
    have hz : szN b = 0 := by
      unfold szN
      rw [List.getD_eq_getElem?_getD, List.getElem?_eq_none (by simp; omega)]
      rfl
    unfold m_X9_lengthOf
    simp only [n0, n1, n2, n3, n4, n5, n6, n7, n8, n9, n10, n11, n12, n13, n14, n15, n16, if_true, if_false, hz]
    rfl
theorem szs_eq {b : Nat} (h : b < 16) : szs (nI b).toNatClampNeg = nI (szN b) := by
  rcases lt16 h with rfl | rfl | rfl | rfl | rfl | rfl | rfl | rfl | rfl | rfl | rfl | rfl | rfl | rfl | rfl | rfl <;> rfl
theorem reg_eq {b : Nat} (h : b < 16) (S : St) : m_X4_namesRegister (nI b) S = some ((if rgN b = true then 1 else 0), S) ∧ m_X9_hasRegister (nI b) S = some ((if rgN b = true then 1 else 0), S) := by
  rcases lt16 h with rfl | rfl | rfl | rfl | rfl | rfl | rfl | rfl | rfl | rfl | rfl | rfl | rfl | rfl | rfl | rfl <;> exact ⟨rfl, rfl⟩
/-- what codeAt answers -/
def cdv (x : Int32) (S : St) : Int32 := if x < 0 then -1 else if S 20 0 ≤ x then -1 else S 0 x.toNatClampNeg
theorem codeAt_eq {S : St} {n : Nat} (hn : n ≤ 96) (en : S 20 0 = nI n) (x : Int32) : m_X4_codeAt x S = some (cdv x S, S) := by
  unfold m_X4_codeAt cdv
  rw [en]
  rcases ix3 x (n := n) (by omega) with h | ⟨h0, h1, h2⟩ | ⟨j, hj, rfl, h0, h1, h2⟩
  · simp only [h, if_true]
  · simp only [h0, h1, if_true, if_false]
  · simp only [h0, h1, if_false, inb_nI (show j < 96 by omega) (by omega), if_true]
theorem cdv_in {S : St} {n j : Nat} (hn : n ≤ 96) (en : S 20 0 = nI n) (hj : j < n) : cdv (nI j) S = S 0 j := by
  unfold cdv
  rw [en, if_neg (nI_pos (by omega)), if_neg (nI_ge hj (by omega)), nI_cl (by omega)]
/-- the code as numbers -/
def CD (S T : St) (n : Nat) (c : Nat → Nat) : Prop := n ≤ 96 ∧ S 20 0 = nI n ∧ T 30 2 = nI n ∧ (∀ i, S 0 i = nI (c i) ∧ T 1 i = nI (c i) ∧ c i < 256)
theorem RC.cd {S T : St} (h : RC S T) : ∃ n c, CD S T n c := by
  obtain ⟨h1, h2, ⟨n, hn, en⟩, hb⟩ := h
  refine ⟨n, fun i => Classical.choose (hb i), hn, en, by rw [← h2]; exact en, fun i => ?_⟩
  have := Classical.choose_spec (hb i)
  exact ⟨this.2, by rw [← h1]; exact this.2, this.1⟩
theorem wsz_eq {S T : St} {n : Nat} {c : Nat → Nat} (h : CD S T n c) {p e : Nat} (hp : p < e) (he : e ≤ n) : m_X4_wholeSize (nI p) (nI e) S = some (nI (wh c p e), S) := by
  obtain ⟨hn, en, -, hc⟩ := h
  unfold m_X4_wholeSize
  rw [codeAt_eq hn en, cdv_in hn en (by omega), (hc p).1]
  simp only [some_bind']
  have hb := (hc p).2.2
  have h0 : ¬ nI (c p) < 0 := nI_pos (by omega)
  rw [if_neg h0]
  by_cases h16 : c p < 16
  · have a1 : nI (c p) < 16 := nI_lt (b := 16) h16 (by omega)
    rw [if_pos a1, if_pos (inb_nI h16 (by omega)), szs_eq h16, pk_sub (show p ≤ e by omega)]
    have hs : szN (c p) ≤ 3 := by
      rcases lt16 h16 with h | h | h | h | h | h | h | h | h | h | h | h | h | h | h | h <;> rw [h] <;> decide
    by_cases hz : p + szN (c p) ≤ e
    · have a2 : nI (szN (c p)) ≤ nI (e - p) := nI_le (by omega) (by omega)
      rw [if_pos a2, (reg_eq h16 S).1]
      simp only [some_bind']
      by_cases hr : rgN (c p) = true
      · have hs2 : 2 ≤ szN (c p) := by
          rcases lt16 h16 with h | h | h | h | h | h | h | h | h | h | h | h | h | h | h | h <;> rw [h] at hr ⊢ <;> revert hr <;> decide
        have b1 : ¬ (1 : Int32) = 0 := by decide
        rw [if_pos hr, if_neg b1, nI_1, codeAt_eq hn en, cdv_in hn en (by omega), (hc (p + 1)).1]
        simp only [some_bind']
        have hb1 := (hc (p + 1)).2.2
        by_cases h3 : c (p + 1) < 3
        · rw [if_pos (show nI (c (p + 1)) < 3 from nI_lt (b := 3) h3 (by omega))]
          unfold wh
          rw [if_pos ⟨h16, hz, fun _ => h3⟩]
        · rw [if_neg (show ¬ nI (c (p + 1)) < 3 from nI_nlt (b := 3) (by omega) (by omega))]
          unfold wh
          rw [if_neg (fun q => h3 (q.2.2 hr))]
          rfl
      · rw [if_neg hr, if_pos rfl]
        unfold wh
        rw [if_pos ⟨h16, hz, fun q => absurd q hr⟩]
    · have a2 : ¬ nI (szN (c p)) ≤ nI (e - p) := nI_ge (by omega) (by omega)
      rw [if_neg a2]
      unfold wh
      rw [if_neg (fun q => hz q.2.1)]
      rfl
  · have a1 : ¬ nI (c p) < 16 := nI_nlt (b := 16) (by omega) (by omega)
    rw [if_neg a1]
    unfold wh
    rw [if_neg (fun q => h16 q.1)]
    rfl
theorem isw_eq {S T : St} {n : Nat} {c : Nat → Nat} (h : CD S T n c) {p e : Nat} (hp : p < e) (he : e ≤ n) : m_X9_isWhole (nI p) (nI e) T = some ((if wh c p e = 0 then 0 else 1), T) := by
  obtain ⟨hn, -, -, hc⟩ := h
  have hb := (hc p).2.2
  have h0 : ¬ nI p < 0 := nI_pos (by omega)
  have h1 : nI p < nI e := nI_lt hp (by omega)
  have h2 : inb (nI p) 96 = true := inb_nI (by omega) (by omega)
  unfold m_X9_isWhole
  rw [if_neg h0, if_pos h1, if_pos h2, nI_cl (show p < 2 ^ 31 by omega), (hc p).2.1, len_eq hb]
  simp only [some_bind', (hc p).2.1]
  by_cases h16 : c p < 16
  · have hs : szN (c p) ≤ 3 ∧ 1 ≤ szN (c p) := by
      rcases lt16 h16 with h | h | h | h | h | h | h | h | h | h | h | h | h | h | h | h <;> rw [h] <;> decide
    have a0 : ¬ nI (szN (c p)) ≤ 0 := nI_nle (by omega) (by omega)
    rw [if_neg a0, nI_add]
    by_cases hz : p + szN (c p) ≤ e
    · have a2 : ¬ nI e < nI (p + szN (c p)) := nI_nlt (by omega) (by omega)
      rw [if_neg a2, if_pos h2, (reg_eq h16 T).2]
      simp only [some_bind']
      by_cases hr : rgN (c p) = true
      · have hs2 : 2 ≤ szN (c p) := by
          rcases lt16 h16 with h | h | h | h | h | h | h | h | h | h | h | h | h | h | h | h <;> rw [h] at hr ⊢ <;> revert hr <;> decide
        have b1 : ¬ (1 : Int32) = 0 := by decide
        have hb1 := (hc (p + 1)).2.2
        rw [if_pos hr, if_neg b1, nI_1, if_pos (inb_nI (show p + 1 < 96 by omega) (by omega)), nI_cl (show p + 1 < 2 ^ 31 by omega), (hc (p + 1)).2.1]
        by_cases h3 : c (p + 1) < 3
        · rw [if_neg (show ¬ (3 : Int32) ≤ nI (c (p + 1)) from nI_ge (b := 3) h3 (by omega))]
          unfold wh
          rw [if_pos (show c p < 16 ∧ p + szN (c p) ≤ e ∧ (rgN (c p) = true → c (p + 1) < 3) from ⟨h16, hz, fun _ => h3⟩), if_neg (by omega)]
          rfl
        · rw [if_pos (show (3 : Int32) ≤ nI (c (p + 1)) from nI_le (a := 3) (by omega) (by omega))]
          unfold wh
          rw [if_neg (show ¬ (c p < 16 ∧ p + szN (c p) ≤ e ∧ (rgN (c p) = true → c (p + 1) < 3)) from fun q => h3 (q.2.2 hr)), if_pos rfl]
          rfl
      · rw [if_neg hr, if_pos rfl]
        unfold wh
        rw [if_pos (show c p < 16 ∧ p + szN (c p) ≤ e ∧ (rgN (c p) = true → c (p + 1) < 3) from ⟨h16, hz, fun q => absurd q hr⟩), if_neg (by omega)]
        rfl
    · have a2 : nI e < nI (p + szN (c p)) := nI_lt (by omega) (by omega)
      rw [if_pos a2]
      unfold wh
      rw [if_neg (show ¬ (c p < 16 ∧ p + szN (c p) ≤ e ∧ (rgN (c p) = true → c (p + 1) < 3)) from fun q => hz q.2.1), if_pos rfl]
      rfl
  · have hz : szN (c p) = 0 := by
      unfold szN
      rw [List.getD_eq_getElem?_getD, List.getElem?_eq_none (by simp; omega)]
      rfl
    rw [hz, if_pos (show nI 0 ≤ 0 by decide)]
    unfold wh
    rw [if_neg (show ¬ (c p < 16 ∧ p + szN (c p) ≤ e ∧ (rgN (c p) = true → c (p + 1) < 3)) from fun q => h16 q.1), if_pos rfl]
    rfl
theorem wsz_out {S T : St} {n : Nat} {c : Nat → Nat} (h : CD S T n c) {x : Int32} (hx : x < 0 ∨ (¬ x < 0 ∧ nI n ≤ x)) : m_X4_wholeSize x (nI n) S = some (0, S) ∧ m_X9_isWhole x (nI n) T = some (0, T) := by
  obtain ⟨hn, en, -, hc⟩ := h
  have hm : (-1 : Int32) < 0 := by decide
  unfold m_X4_wholeSize m_X9_isWhole
  rw [codeAt_eq hn en]
  unfold cdv
  rw [en]
  rcases hx with h | ⟨h0, h1⟩
  · simp only [some_bind', if_pos h, if_pos hm]
    exact ⟨trivial, rfl⟩
  · have h2 : ¬ x < nI n := by
      rw [Int32.le_iff_toInt_le] at h1
      rw [Int32.lt_iff_toInt_lt]; omega
    simp only [some_bind', if_neg h0, if_pos h1, if_neg h2, if_pos hm]
    exact ⟨trivial, rfl⟩
