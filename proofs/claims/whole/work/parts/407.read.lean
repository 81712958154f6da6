theorem kl0 : (0 : Int32) = nI 0 := rfl
theorem kl1 : (1 : Int32) = nI 1 := rfl
theorem kl2 : (2 : Int32) = nI 2 := rfl
theorem kl3 : (3 : Int32) = nI 3 := rfl
theorem kl4 : (4 : Int32) = nI 4 := rfl
theorem kl5 : (5 : Int32) = nI 5 := rfl
theorem kl6 : (6 : Int32) = nI 6 := rfl
theorem kl7 : (7 : Int32) = nI 7 := rfl
theorem kl8 : (8 : Int32) = nI 8 := rfl
theorem kl9 : (9 : Int32) = nI 9 := rfl
theorem kl10 : (10 : Int32) = nI 10 := rfl
theorem kl11 : (11 : Int32) = nI 11 := rfl
theorem kl12 : (12 : Int32) = nI 12 := rfl
theorem kl13 : (13 : Int32) = nI 13 := rfl
theorem kl14 : (14 : Int32) = nI 14 := rfl
theorem kl15 : (15 : Int32) = nI 15 := rfl
theorem kl16 : (16 : Int32) = nI 16 := rfl
theorem kl20 : (20 : Int32) = nI 20 := rfl
theorem kl30 : (30 : Int32) = nI 30 := rfl
theorem kl31 : (31 : Int32) = nI 31 := rfl
theorem kl40 : (40 : Int32) = nI 40 := rfl
theorem kl63 : (63 : Int32) = nI 63 := rfl
theorem kl64 : (64 : Int32) = nI 64 := rfl
theorem kl126 : (126 : Int32) = nI 126 := rfl
theorem kl127 : (127 : Int32) = nI 127 := rfl
theorem kl128 : (128 : Int32) = nI 128 := rfl
theorem kl131 : (131 : Int32) = nI 131 := rfl
theorem kl190 : (190 : Int32) = nI 190 := rfl
theorem kl191 : (191 : Int32) = nI 191 := rfl
theorem kl192 : (192 : Int32) = nI 192 := rfl
theorem kl195 : (195 : Int32) = nI 195 := rfl
theorem kl255 : (255 : Int32) = nI 255 := rfl
theorem kl256 : (256 : Int32) = nI 256 := rfl
theorem klm : -(nI 1) = (Int32.ofInt (-1)) := by decide
theorem q_eq {a b : Nat} (ha : a < 2 ^ 31) (hb : b < 2 ^ 31) : (nI a = nI b) = (a = b) := propext (nI_eq ha hb)
theorem q_le {a b : Nat} (ha : a < 2 ^ 31) (hb : b < 2 ^ 31) : (nI a ≤ nI b) = (a ≤ b) := propext (nI_leI ha hb)
theorem q_lt {a b : Nat} (ha : a < 2 ^ 31) (hb : b < 2 ^ 31) : (nI a < nI b) = (a < b) := propext (nI_ltI ha hb)
theorem bzn0 (S : St) : bz (nI 0) S = some (nI 0, S) := rfl
theorem bzn1 (S : St) : bz (nI 1) S = some (nI 1, S) := rfl
theorem inbT {j n : Nat} (h : j < n) (hn : n < 2 ^ 31) : (inb (nI j) n = true) = True := eq_true (inb_nI h hn)
def psz (b : Nat) : Nat := if b = 0 ∨ b = 10 ∨ b = 11 then 1 else if b = 2 ∨ b = 13 ∨ b = 14 then 2 else if b = 12 then 3 else if 64 ≤ b ∧ b < 128 then 1 else if 128 ≤ b ∧ b < 131 then 2 else if 192 ≤ b ∧ b < 195 then 1 else 0
theorem szl_eq {b : Nat} (hb : b < 256) (S : St) (h1 : b < 64 ∨ 131 ≤ b) : m_X5_sizeOf_L31 (nI b) S = some (nI (psz b), S) := by
  by_cases hs : b < 15
  · rcases (show b = 0 ∨ b = 1 ∨ b = 2 ∨ b = 3 ∨ b = 4 ∨ b = 5 ∨ b = 6 ∨ b = 7 ∨ b = 8 ∨ b = 9 ∨ b = 10 ∨ b = 11 ∨ b = 12 ∨ b = 13 ∨ b = 14 by omega) with rfl | rfl | rfl | rfl | rfl | rfl | rfl | rfl | rfl | rfl | rfl | rfl | rfl | rfl | rfl <;> rfl
  have n0 : ¬ nI b = (0 : Int32) := nI_ne (b := 0) (by omega) (by omega) (by omega)
  have n1 : ¬ nI b = (1 : Int32) := nI_ne (b := 1) (by omega) (by omega) (by omega)
  have n2 : ¬ nI b = (2 : Int32) := nI_ne (b := 2) (by omega) (by omega) (by omega)
  have n3 : ¬ nI b = (3 : Int32) := nI_ne (b := 3) (by omega) (by omega) (by omega)
  have n4 : ¬ nI b = (4 : Int32) := nI_ne (b := 4) (by omega) (by omega) (by omega)
  have n5 : ¬ nI b = (5 : Int32) := nI_ne (b := 5) (by omega) (by omega) (by omega)
  have n6 : ¬ nI b = (6 : Int32) := nI_ne (b := 6) (by omega) (by omega) (by omega)
  have n7 : ¬ nI b = (7 : Int32) := nI_ne (b := 7) (by omega) (by omega) (by omega)
  have n8 : ¬ nI b = (8 : Int32) := nI_ne (b := 8) (by omega) (by omega) (by omega)
  have n9 : ¬ nI b = (9 : Int32) := nI_ne (b := 9) (by omega) (by omega) (by omega)
  have n10 : ¬ nI b = (10 : Int32) := nI_ne (b := 10) (by omega) (by omega) (by omega)
  have n11 : ¬ nI b = (11 : Int32) := nI_ne (b := 11) (by omega) (by omega) (by omega)
  have n12 : ¬ nI b = (12 : Int32) := nI_ne (b := 12) (by omega) (by omega) (by omega)
  have n13 : ¬ nI b = (13 : Int32) := nI_ne (b := 13) (by omega) (by omega) (by omega)
  have n14 : ¬ nI b = (14 : Int32) := nI_ne (b := 14) (by omega) (by omega) (by omega)
  have l1 : (nI b < (192 : Int32)) = (b < 192) := q_lt (b := 192) (by omega) (by omega)
  have l2 : ((195 : Int32) ≤ nI b) = (195 ≤ b) := q_le (a := 195) (by omega) (by omega)
  unfold m_X5_sizeOf_L31 psz
  simp only [n0, n1, n2, n3, n4, n5, n6, n7, n8, n9, n10, n11, n12, n13, n14, l1, l2, if_false]
  rw [if_neg (show ¬ (b = 0 ∨ b = 10 ∨ b = 11) by omega), if_neg (show ¬ (b = 2 ∨ b = 13 ∨ b = 14) by omega), if_neg (show ¬ b = 12 by omega), if_neg (show ¬ (64 ≤ b ∧ b < 128) by omega), if_neg (show ¬ (128 ≤ b ∧ b < 131) by omega)]
  by_cases h2 : b < 192
  · rw [if_pos h2, if_neg (show ¬ (192 ≤ b ∧ b < 195) by omega)]; rfl
  · rw [if_neg h2]
    by_cases h3 : 195 ≤ b
    · rw [if_pos h3, if_neg (show ¬ (192 ≤ b ∧ b < 195) by omega)]; rfl
    · rw [if_neg h3, if_pos (show (192 ≤ b ∧ b < 195) by omega)]; rfl
theorem szr_eq {b : Nat} (hb : b < 256) (S : St) : m_X5_sizeOf (nI b) S = some (nI (psz b), S) := by
  have l1 : (nI b < (64 : Int32)) = (b < 64) := q_lt (b := 64) (by omega) (by omega)
  have l2 : (nI b < (128 : Int32)) = (b < 128) := q_lt (b := 128) (by omega) (by omega)
  have l3 : ((131 : Int32) ≤ nI b) = (131 ≤ b) := q_le (a := 131) (by omega) (by omega)
  have l4 : ((128 : Int32) ≤ nI b) = (128 ≤ b) := q_le (a := 128) (by omega) (by omega)
  unfold m_X5_sizeOf
  simp only [l1, l2, l3, l4]
  by_cases h1 : b < 64
  · rw [if_pos h1, if_pos (by omega), szl_eq hb S (Or.inl h1)]
  · rw [if_neg h1]
    by_cases h2 : 128 ≤ b
    · rw [if_pos h2, if_neg (by omega)]
      by_cases h3 : 131 ≤ b
      · rw [if_pos h3, szl_eq hb S (Or.inr h3)]
      · rw [if_neg h3]
        unfold psz
        rw [if_neg (by omega), if_neg (by omega), if_neg (by omega), if_neg (by omega), if_pos (by omega)]
        rfl
    · rw [if_neg h2]
      unfold psz
      rw [if_neg (by omega), if_neg (by omega), if_neg (by omega), if_pos (by omega)]
      rfl
/-- the bytes of the section as numbers -/
def SB (S T : St) (n : Nat) (B : Nat → Nat) : Prop := n ≤ 1076 ∧ S 20 6 = nI n ∧ T 30 12 = nI n ∧ ∀ i, S 7 i = nI (B i) ∧ T 10 i = nI (B i) ∧ B i < 256
theorem RS.sb {S T : St} (h : RS S T) : ∃ n B, SB S T n B := by
  obtain ⟨h1, h2, ⟨n, hn, en⟩, hb⟩ := h
  refine ⟨n, fun i => Classical.choose (hb i), hn, en, by rw [← h2]; exact en, fun i => ?_⟩
  have := Classical.choose_spec (hb i)
  exact ⟨this.2, by rw [← h1]; exact this.2, this.1⟩
theorem byt {S T : St} {n : Nat} {B : Nat → Nat} (h : SB S T n B) {j : Nat} (hj : j < n) : m_X7_byteAt (nI j) S = some (nI (B j), S) := by
  obtain ⟨hn, en, -, hb⟩ := h
  unfold m_X7_byteAt
  rw [en, if_neg (nI_pos (by omega)), if_neg (nI_ge hj (by omega)), if_pos (inb_nI (by omega) (by omega)), nI_cl (by omega), (hb j).1]
theorem byo {S T : St} {n : Nat} {B : Nat → Nat} (h : SB S T n B) {j : Nat} (hj : n ≤ j) (h31 : j < 2 ^ 31) : m_X7_byteAt (nI j) S = some (-1, S) := by
  obtain ⟨hn, en, -, hb⟩ := h
  unfold m_X7_byteAt
  rw [en, if_neg (nI_pos h31), if_pos (nI_le hj h31)]
theorem byA {S T : St} {n : Nat} {B : Nat → Nat} (h : SB S T n B) {j : Nat} (h31 : j < 2 ^ 31) : ∃ v, m_X7_byteAt (nI j) S = some (v, S) := by
  by_cases hj : j < n
  · exact ⟨_, byt h hj⟩
  · exact ⟨_, byo h (by omega) h31⟩
/-- a row of the class copied -/
def cpy (i j : Nat) (S : St) : St := st (st (st (st (st S 20 (17 + 2 * i) (S 20 (17 + 2 * j))) 20 (18 + 2 * i) (S 20 (18 + 2 * j))) (12 + i) 0 (S (12 + j) 0)) (12 + i) 1 (S (12 + j) 1)) (12 + i) 2 (S (12 + j) 2)
theorem cpy_eq {i j : Nat} (hij : i ≠ j) (hi : i < 8) (hj : j < 8) (S : St) : m_X6_copyFrom i j S = some (0, cpy i j S) := by
  unfold m_X6_copyFrom
  generalize hF : (10000 : Nat) = F
  obtain ⟨f, rfl⟩ : ∃ f, F = f + 4 := ⟨F - 4, by omega⟩
  have c0 : ¬ (3 : Int32) ≤ 0 := by decide
  have c1 : ¬ (3 : Int32) ≤ 0 + 1 := by decide
  have c2 : ¬ (3 : Int32) ≤ 0 + 1 + 1 := by decide
  have c3 : (3 : Int32) ≤ 0 + 1 + 1 + 1 := by decide
  have d0 : inb (0 : Int32) 3 = true := by decide
  have d1 : inb (0 + 1 : Int32) 3 = true := by decide
  have d2 : inb (0 + 1 + 1 : Int32) 3 = true := by decide
  have e0 : (0 : Int32).toNatClampNeg = 0 := by decide
  have e1 : (0 + 1 : Int32).toNatClampNeg = 1 := by decide
  have e2 : (0 + 1 + 1 : Int32).toNatClampNeg = 2 := by decide
  simp only [m_X6_copyFrom_L18, if_neg c0, if_neg c1, if_neg c2, if_pos c3, if_pos d0, if_pos d1, if_pos d2, e0, e1, e2]
  have a1 : ∀ (S : St) v, st S 20 (17 + 2 * i) v 20 (18 + 2 * j) = S 20 (18 + 2 * j) := fun S v => st_col _ _ _ (by omega)
  have a2 : ∀ (S : St) k v r, st S 20 k v (12 + j) r = S (12 + j) r := fun S k v r => st_row _ _ _ _ (by omega)
  have a3 : ∀ (S : St) k v r, st S (12 + i) k v (12 + j) r = S (12 + j) r := fun S k v r => st_row _ _ _ _ (by omega)
  simp only [a1, a2, a3]
  rfl
def fst3 (S : St) : St := st (st (st (st (st S 20 23 0) 20 24 1) 15 0 0) 15 1 0) 15 2 0
theorem fst3_eq (S : St) : m_X6_setToFirst 3 S = some (0, fst3 S) := by
  unfold m_X6_setToFirst
  generalize hF : (10000 : Nat) = F
  obtain ⟨f, rfl⟩ : ∃ f, F = f + 4 := ⟨F - 4, by omega⟩
  have c0 : ¬ (3 : Int32) ≤ 0 := by decide
  have c1 : ¬ (3 : Int32) ≤ 0 + 1 := by decide
  have c2 : ¬ (3 : Int32) ≤ 0 + 1 + 1 := by decide
  have c3 : (3 : Int32) ≤ 0 + 1 + 1 + 1 := by decide
  have d0 : inb (0 : Int32) 3 = true := by decide
  have d1 : inb (0 + 1 : Int32) 3 = true := by decide
  have d2 : inb (0 + 1 + 1 : Int32) 3 = true := by decide
  have e0 : (0 : Int32).toNatClampNeg = 0 := by decide
  have e1 : (0 + 1 : Int32).toNatClampNeg = 1 := by decide
  have e2 : (0 + 1 + 1 : Int32).toNatClampNeg = 2 := by decide
  simp only [m_X6_setToFirst_L12, if_neg c0, if_neg c1, if_neg c2, if_pos c3, if_pos d0, if_pos d1, if_pos d2, e0, e1, e2]
  rfl
def kp (T : St) : St := st (st (st (st (st T 13 0 (T 14 0)) 13 1 (T 14 1)) 13 2 (T 14 2)) 13 3 (T 14 3)) 13 4 (T 14 4)
theorem kp0 (T : St) : m_X9_keep 0 T = some (0, T) := by
  unfold m_X9_keep
  generalize hF : (10000 : Nat) = F
  obtain ⟨f, rfl⟩ : ∃ f, F = f + 1 := ⟨F - 1, by omega⟩
  rw [m_X9_keep_L2, if_neg (by decide), if_pos rfl]
theorem kp1 (T : St) : m_X9_keep 1 T = some (0, kp T) := by
  unfold m_X9_keep
  generalize hF : (10000 : Nat) = F
  obtain ⟨f, rfl⟩ : ∃ f, F = f + 6 := ⟨F - 6, by omega⟩
  have c0 : ¬ (5 : Int32) ≤ 0 := by decide
  have c1 : ¬ (5 : Int32) ≤ 0 + 1 := by decide
  have c2 : ¬ (5 : Int32) ≤ 0 + 1 + 1 := by decide
  have c3 : ¬ (5 : Int32) ≤ 0 + 1 + 1 + 1 := by decide
  have c4 : ¬ (5 : Int32) ≤ 0 + 1 + 1 + 1 + 1 := by decide
  have c5 : (5 : Int32) ≤ 0 + 1 + 1 + 1 + 1 + 1 := by decide
  have d0 : inb (0 : Int32) 5 = true := by decide
  have d1 : inb (0 + 1 : Int32) 5 = true := by decide
  have d2 : inb (0 + 1 + 1 : Int32) 5 = true := by decide
  have d3 : inb (0 + 1 + 1 + 1 : Int32) 5 = true := by decide
  have d4 : inb (0 + 1 + 1 + 1 + 1 : Int32) 5 = true := by decide
  have e0 : (0 : Int32).toNatClampNeg = 0 := by decide
  have e1 : (0 + 1 : Int32).toNatClampNeg = 1 := by decide
  have e2 : (0 + 1 + 1 : Int32).toNatClampNeg = 2 := by decide
  have e3 : (0 + 1 + 1 + 1 : Int32).toNatClampNeg = 3 := by decide
  have e4 : (0 + 1 + 1 + 1 + 1 : Int32).toNatClampNeg = 4 := by decide
  simp only [m_X9_keep_L2, if_neg c0, if_neg c1, if_neg c2, if_neg c3, if_neg c4, if_pos c5, if_pos d0, if_pos d1, if_pos d2, if_pos d3, if_pos d4, e0, e1, e2, e3, e4, if_neg i10]
  have a3 : ∀ (S : St) k v r, st S 13 k v 14 r = S 14 r := fun S k v r => st_row _ _ _ _ (by omega)
  simp only [a3]
  rfl
def pil (d : Nat) (T : St) : St := st (st (st (st (st T 15 (5 * d) (T 14 0)) 15 (5 * d + 1) (T 14 1)) 15 (5 * d + 2) (T 14 2)) 15 (5 * d + 3) (T 14 3)) 15 (5 * d + 4) (T 14 4)
def unp (d : Nat) (T : St) : St := st (st (st (st (st T 14 0 (T 15 (5 * d))) 14 1 (T 15 (5 * d + 1))) 14 2 (T 15 (5 * d + 2))) 14 3 (T 15 (5 * d + 3))) 14 4 (T 15 (5 * d + 4))
theorem ix5 {d : Nat} (hd : d < 4) : ((5 : Int32) * nI d + 0 = nI (5 * d)) ∧ ((5 : Int32) * nI d + (0 + 1) = nI (5 * d + 1)) ∧ ((5 : Int32) * nI d + (0 + 1 + 1) = nI (5 * d + 2)) ∧ ((5 : Int32) * nI d + (0 + 1 + 1 + 1) = nI (5 * d + 3)) ∧ ((5 : Int32) * nI d + (0 + 1 + 1 + 1 + 1) = nI (5 * d + 4)) := by
  rcases (show d = 0 ∨ d = 1 ∨ d = 2 ∨ d = 3 by omega) with rfl | rfl | rfl | rfl <;> decide
theorem l232 (k62 : Int32 → Int32 → Int32 → Int32 → Int32 → Int32 → Int32 → St → Option (Int32 × St)) {F d : Nat} (hF : 6 ≤ F) (hd : d < 4) (x2 x3 x4 x5 x6 x8 x10 : Int32) (T : St) : m_X9_readProgram_L232 k62 F x2 x3 x4 x5 x6 (nI d) x8 x10 0 T = m_X9_readProgram_L473 k62 x2 x3 x4 x5 x6 (nI (d + 1)) x8 x10 (pil d T) := by
  obtain ⟨f, rfl⟩ : ∃ f, F = f + 6 := ⟨F - 6, by omega⟩
  have c0 : ¬ (5 : Int32) ≤ 0 := by decide
  have c1 : ¬ (5 : Int32) ≤ 0 + 1 := by decide
  have c2 : ¬ (5 : Int32) ≤ 0 + 1 + 1 := by decide
  have c3 : ¬ (5 : Int32) ≤ 0 + 1 + 1 + 1 := by decide
  have c4 : ¬ (5 : Int32) ≤ 0 + 1 + 1 + 1 + 1 := by decide
  have c5 : (5 : Int32) ≤ 0 + 1 + 1 + 1 + 1 + 1 := by decide
  have d0 : inb (0 : Int32) 5 = true := by decide
  have d1 : inb (0 + 1 : Int32) 5 = true := by decide
  have d2 : inb (0 + 1 + 1 : Int32) 5 = true := by decide
  have d3 : inb (0 + 1 + 1 + 1 : Int32) 5 = true := by decide
  have d4 : inb (0 + 1 + 1 + 1 + 1 : Int32) 5 = true := by decide
  have e0 : (0 : Int32).toNatClampNeg = 0 := by decide
  have e1 : (0 + 1 : Int32).toNatClampNeg = 1 := by decide
  have e2 : (0 + 1 + 1 : Int32).toNatClampNeg = 2 := by decide
  have e3 : (0 + 1 + 1 + 1 : Int32).toNatClampNeg = 3 := by decide
  have e4 : (0 + 1 + 1 + 1 + 1 : Int32).toNatClampNeg = 4 := by decide
  obtain ⟨x0, x1', x2', x3', x4'⟩ := ix5 hd
  have f0 : inb (nI (5 * d)) 20 = true := inb_nI (by omega) (by omega)
  have f1 : inb (nI (5 * d + 1)) 20 = true := inb_nI (by omega) (by omega)
  have f2 : inb (nI (5 * d + 2)) 20 = true := inb_nI (by omega) (by omega)
  have f3 : inb (nI (5 * d + 3)) 20 = true := inb_nI (by omega) (by omega)
  have f4 : inb (nI (5 * d + 4)) 20 = true := inb_nI (by omega) (by omega)
  have g0 : (nI (5 * d)).toNatClampNeg = 5 * d := nI_cl (by omega)
  have g1 : (nI (5 * d + 1)).toNatClampNeg = 5 * d + 1 := nI_cl (by omega)
  have g2 : (nI (5 * d + 2)).toNatClampNeg = 5 * d + 2 := nI_cl (by omega)
  have g3 : (nI (5 * d + 3)).toNatClampNeg = 5 * d + 3 := nI_cl (by omega)
  have g4 : (nI (5 * d + 4)).toNatClampNeg = 5 * d + 4 := nI_cl (by omega)
  simp only [m_X9_readProgram_L232, if_neg c0, if_neg c1, if_neg c2, if_neg c3, if_neg c4, if_pos c5, if_pos d0, if_pos d1, if_pos d2, if_pos d3, if_pos d4, e0, e1, e2, e3, e4, x0, x1', x2', x3', x4', if_pos f0, if_pos f1, if_pos f2, if_pos f3, if_pos f4, g0, g1, g2, g3, g4, nI_1]
  have a3 : ∀ (S : St) k v r, st S 15 k v 14 r = S 14 r := fun S k v r => st_row _ _ _ _ (by omega)
  simp only [a3]
  rfl
theorem l289 (k62 : Int32 → Int32 → Int32 → Int32 → Int32 → Int32 → Int32 → St → Option (Int32 × St)) {F d : Nat} (hF : 6 ≤ F) (hd : d < 4) (x2 x3 x4 x5 x6 x8 x10 : Int32) (T : St) : m_X9_readProgram_L289 k62 F x2 x3 x4 x5 x6 (nI d) x8 x10 0 T = m_X9_readProgram_L473 k62 x2 x3 x4 x5 x6 (nI d) x8 x10 (unp d T) := by
  obtain ⟨f, rfl⟩ : ∃ f, F = f + 6 := ⟨F - 6, by omega⟩
  have c0 : ¬ (5 : Int32) ≤ 0 := by decide
  have c1 : ¬ (5 : Int32) ≤ 0 + 1 := by decide
  have c2 : ¬ (5 : Int32) ≤ 0 + 1 + 1 := by decide
  have c3 : ¬ (5 : Int32) ≤ 0 + 1 + 1 + 1 := by decide
  have c4 : ¬ (5 : Int32) ≤ 0 + 1 + 1 + 1 + 1 := by decide
  have c5 : (5 : Int32) ≤ 0 + 1 + 1 + 1 + 1 + 1 := by decide
  have d0 : inb (0 : Int32) 5 = true := by decide
  have d1 : inb (0 + 1 : Int32) 5 = true := by decide
  have d2 : inb (0 + 1 + 1 : Int32) 5 = true := by decide
  have d3 : inb (0 + 1 + 1 + 1 : Int32) 5 = true := by decide
  have d4 : inb (0 + 1 + 1 + 1 + 1 : Int32) 5 = true := by decide
  have e0 : (0 : Int32).toNatClampNeg = 0 := by decide
  have e1 : (0 + 1 : Int32).toNatClampNeg = 1 := by decide
  have e2 : (0 + 1 + 1 : Int32).toNatClampNeg = 2 := by decide
  have e3 : (0 + 1 + 1 + 1 : Int32).toNatClampNeg = 3 := by decide
  have e4 : (0 + 1 + 1 + 1 + 1 : Int32).toNatClampNeg = 4 := by decide
  obtain ⟨x0, x1', x2', x3', x4'⟩ := ix5 hd
  have f0 : inb (nI (5 * d)) 20 = true := inb_nI (by omega) (by omega)
  have f1 : inb (nI (5 * d + 1)) 20 = true := inb_nI (by omega) (by omega)
  have f2 : inb (nI (5 * d + 2)) 20 = true := inb_nI (by omega) (by omega)
  have f3 : inb (nI (5 * d + 3)) 20 = true := inb_nI (by omega) (by omega)
  have f4 : inb (nI (5 * d + 4)) 20 = true := inb_nI (by omega) (by omega)
  have g0 : (nI (5 * d)).toNatClampNeg = 5 * d := nI_cl (by omega)
  have g1 : (nI (5 * d + 1)).toNatClampNeg = 5 * d + 1 := nI_cl (by omega)
  have g2 : (nI (5 * d + 2)).toNatClampNeg = 5 * d + 2 := nI_cl (by omega)
  have g3 : (nI (5 * d + 3)).toNatClampNeg = 5 * d + 3 := nI_cl (by omega)
  have g4 : (nI (5 * d + 4)).toNatClampNeg = 5 * d + 4 := nI_cl (by omega)
  simp only [m_X9_readProgram_L289, if_neg c0, if_neg c1, if_neg c2, if_neg c3, if_neg c4, if_pos c5, if_pos d0, if_pos d1, if_pos d2, if_pos d3, if_pos d4, e0, e1, e2, e3, e4, x0, x1', x2', x3', x4', if_pos f0, if_pos f1, if_pos f2, if_pos f3, if_pos f4, g0, g1, g2, g3, g4, nI_1]
  have a3 : ∀ (S : St) k v r, st S 14 k v 15 r = S 15 r := fun S k v r => st_row _ _ _ _ (by omega)
  simp only [a3]
  rfl
/-- what the reader leaves as it was -/
def Fr (S S1 : St) : Prop := (∀ k, k < 14 → S1 k = S k) ∧ ∀ j, (j < 7 ∨ 9 < j) → j < 21 → S1 20 j = S 20 j
def Gr (T T1 : St) : Prop := ∀ k, k ≠ 13 → k ≠ 14 → k ≠ 15 → T1 k = T k
theorem Fr.refl (S : St) : Fr S S := ⟨fun _ _ => rfl, fun _ _ _ => rfl⟩
theorem Gr.refl (S : St) : Gr S S := fun _ _ _ _ => rfl
theorem Fr.trans {S S1 S2 : St} (h : Fr S S1) (g : Fr S1 S2) : Fr S S2 := ⟨fun k hk => by rw [g.1 k hk, h.1 k hk], fun j h1 h2 => by rw [g.2 j h1 h2, h.2 j h1 h2]⟩
theorem Gr.trans {S S1 S2 : St} (h : Gr S S1) (g : Gr S1 S2) : Gr S S2 := fun k h1 h2 h3 => by rw [g k h1 h2 h3, h k h1 h2 h3]
theorem SB.fr {S T S1 T1 : St} {n : Nat} {B : Nat → Nat} (h : SB S T n B) (f : Fr S S1) (g : Gr T T1) : SB S1 T1 n B := by
  obtain ⟨h1, h2, h3, h4⟩ := h
  refine ⟨h1, by rw [f.2 6 (by omega) (by omega)]; exact h2, by rw [g 30 (by omega) (by omega) (by omega)]; exact h3, fun i => ?_⟩
  rw [f.1 7 (by omega), g 10 (by omega) (by omega) (by omega)]
  exact h4 i
theorem Rel.fr {S T S1 T1 : St} (h : Rel S T) (f : Fr S S1) (g : Gr T T1) : Rel S1 T1 := by
  obtain ⟨hc, hf, hs, hm, hr⟩ := h
  have a0 : S1 20 0 = S 20 0 := f.2 0 (by omega) (by omega)
  have g30 : T1 30 = T 30 := g 30 (by omega) (by omega) (by omega)
  refine ⟨hc.congr (f.1 0 (by omega)) a0 (g 1 (by omega) (by omega) (by omega)) (by rw [g30]), hf.congr (by rw [a0]; exact Int32.le_refl _) (f.2 1 (by omega) (by omega)) (f.1 1 (by omega)) (f.1 2 (by omega)) (by rw [g30]) (g 4 (by omega) (by omega) (by omega)) (g 5 (by omega) (by omega) (by omega)), hs.congr (f.1 7 (by omega)) (f.2 6 (by omega) (by omega)) (g 10 (by omega) (by omega) (by omega)) (by rw [g30]), hm.congr (fun k h1 h2 => f.1 k (by omega)) (fun j h1 h2 => f.2 j (by omega) (by omega)) (fun k h1 h2 => g k (by omega) (by omega) (by omega)) (fun j h1 h2 => by rw [g30]), hr.congr (f.1 11 (by omega)) (f.2 16 (by omega) (by omega)) (g 26 (by omega) (by omega) (by omega)) (by rw [g30])⟩
/-- the reader's rows: now, found, the pile -/
def QN (S T : St) : Prop := S 20 23 = T 14 0 ∧ S 20 24 = T 14 1 ∧ S 15 0 = T 14 2 ∧ S 15 1 = T 14 3 ∧ S 15 2 = T 14 4
def QF (S T : St) : Prop := S 20 21 = T 13 0 ∧ S 20 22 = T 13 1 ∧ S 14 0 = T 13 2 ∧ S 14 1 = T 13 3 ∧ S 14 2 = T 13 4
def QP (S T : St) (d : Nat) : Prop := ∀ j, j < d → S 20 (25 + 2 * j) = T 15 (5 * j) ∧ S 20 (26 + 2 * j) = T 15 (5 * j + 1) ∧ S (16 + j) 0 = T 15 (5 * j + 2) ∧ S (16 + j) 1 = T 15 (5 * j + 3) ∧ S (16 + j) 2 = T 15 (5 * j + 4)
/-- what the reference's rows hold are bytes -/
def BY (T : St) (d : Nat) : Prop := (∀ k, k < 5 → byte (T 14 k)) ∧ (∀ k, k < 5 → byte (T 13 k)) ∧ ∀ k, k < 5 * d → byte (T 15 k)
theorem BY.s {T : St} {d : Nat} (h : BY T d) {v : Int32} (hv : byte v) (i : Nat) : BY (st T 14 i v) d := by
  refine ⟨fun k hk => ?_, fun k hk => ?_, fun k hk => ?_⟩
  · rw [st_at]
    split
    · exact hv
    · exact h.1 k hk
  · rw [st_row _ _ _ _ (by omega)]; exact h.2.1 k hk
  · rw [st_row _ _ _ _ (by omega)]; exact h.2.2 k hk
theorem BY.s13 {T : St} {d : Nat} (h : BY T d) {v : Int32} (hv : byte v) (i : Nat) : BY (st T 13 i v) d := by
  refine ⟨fun k hk => ?_, fun k hk => ?_, fun k hk => ?_⟩
  · rw [st_row _ _ _ _ (by omega)]; exact h.1 k hk
  · rw [st_at]
    split
    · exact hv
    · exact h.2.1 k hk
  · rw [st_row _ _ _ _ (by omega)]; exact h.2.2 k hk
theorem byteN {n : Nat} (h : n < 256) : byte (nI n) := ⟨n, h, rfl⟩
theorem BY.pil {T : St} {d : Nat} (h : BY T d) : BY (pil d T) (d + 1) := by
  refine ⟨fun k hk => ?_, fun k hk => ?_, fun k hk => ?_⟩
  · simp [_root_.Jvm.Pilot.CChainUnwinderLaw_law_r2913_ac391e.pil, st_at]; exact h.1 k hk
  · simp [_root_.Jvm.Pilot.CChainUnwinderLaw_law_r2913_ac391e.pil, st_at]; exact h.2.1 k hk
  · by_cases hd : k < 5 * d
    · simp [_root_.Jvm.Pilot.CChainUnwinderLaw_law_r2913_ac391e.pil, st_at, show k ≠ 5 * d by omega, show k ≠ 5 * d + 1 by omega, show k ≠ 5 * d + 2 by omega, show k ≠ 5 * d + 3 by omega, show k ≠ 5 * d + 4 by omega]; exact h.2.2 k hd
    · rcases (show k = 5 * d ∨ k = 5 * d + 1 ∨ k = 5 * d + 2 ∨ k = 5 * d + 3 ∨ k = 5 * d + 4 by omega) with rfl | rfl | rfl | rfl | rfl
      · simp [_root_.Jvm.Pilot.CChainUnwinderLaw_law_r2913_ac391e.pil, st_at]; exact h.1 0 (by omega)
      · simp [_root_.Jvm.Pilot.CChainUnwinderLaw_law_r2913_ac391e.pil, st_at]; exact h.1 1 (by omega)
      · simp [_root_.Jvm.Pilot.CChainUnwinderLaw_law_r2913_ac391e.pil, st_at]; exact h.1 2 (by omega)
      · simp [_root_.Jvm.Pilot.CChainUnwinderLaw_law_r2913_ac391e.pil, st_at]; exact h.1 3 (by omega)
      · simp [_root_.Jvm.Pilot.CChainUnwinderLaw_law_r2913_ac391e.pil, st_at]; exact h.1 4 (by omega)
theorem BY.unp {T : St} {d : Nat} (h : BY T (d + 1)) : BY (unp d T) d := by
  have h2 : BY T d := ⟨h.1, h.2.1, fun k hk => h.2.2 k (by omega)⟩
  exact ((((h2.s (h.2.2 _ (by omega)) 0).s (h.2.2 _ (by omega)) 1).s (h.2.2 _ (by omega)) 2).s (h.2.2 _ (by omega)) 3).s (h.2.2 _ (by omega)) 4
theorem BY.kp {T : St} {d : Nat} (h : BY T d) : BY (kp T) d :=
  ((((h.s13 (h.1 0 (by omega)) 0).s13 (h.1 1 (by omega)) 1).s13 (h.1 2 (by omega)) 2).s13 (h.1 3 (by omega)) 3).s13 (h.1 4 (by omega)) 4
def QR (S T : St) (d pl en : Nat) : Prop := QN S T ∧ QF S T ∧ QP S T d ∧ S 20 7 = nI d ∧ d ≤ 4 ∧ S 20 8 = nI pl ∧ S 20 9 = nI en ∧ BY T d
theorem QN.congr {S T S1 T1 : St} (h : QN S T) (a : S1 20 23 = S 20 23) (b : S1 20 24 = S 20 24) (c : S1 15 = S 15) (d : T1 14 = T 14) : QN S1 T1 := by
  unfold QN; rw [a, b, c, d]; exact h
theorem QF.congr {S T S1 T1 : St} (h : QF S T) (a : S1 20 21 = S 20 21) (b : S1 20 22 = S 20 22) (c : S1 14 = S 14) (d : T1 13 = T 13) : QF S1 T1 := by
  unfold QF; rw [a, b, c, d]; exact h
theorem QP.congr {S T S1 T1 : St} {d : Nat} (h : QP S T d) (a : ∀ j, 25 ≤ j → S1 20 j = S 20 j) (c : ∀ k, 16 ≤ k → k < 20 → S1 k = S k) (hd : d ≤ 4) (e : T1 15 = T 15) : QP S1 T1 d := by
  intro j hj
  rw [a _ (by omega), a _ (by omega), c _ (by omega) (by omega), e]; exact h j hj
theorem mv_ok {S : St} {pl en x : Nat} (e1 : S 20 8 = nI pl) (e2 : S 20 9 = nI en) (h : pl + x < en) (hb : en < 2 ^ 31) : m_X5_moveBy (nI x) S = some (1, st S 20 8 (nI (pl + x))) := by
  unfold m_X5_moveBy
  rw [st_col _ _ _ (by omega), st_rd, e1, e2, nI_add, if_neg (nI_ge h hb)]; rfl
theorem mv_no {S : St} {pl en x : Nat} (e1 : S 20 8 = nI pl) (e2 : S 20 9 = nI en) (h : en ≤ pl + x) (hb : pl + x < 2 ^ 31) : m_X5_moveBy (nI x) S = some (0, st S 20 8 (nI (pl + x))) := by
  unfold m_X5_moveBy
  rw [st_col _ _ _ (by omega), st_rd, e1, e2, nI_add, if_pos (nI_le h hb)]; rfl
/-- one part of the program: either it may not be, or both go on in step -/
def FS (S T : St) (a to pl d x3 x4 b : Nat) (w : Int32) : Prop := (∃ S1 : St, m_X5_follow (nI a) S = some (0, S1) ∧ Fr S S1 ∧ ∀ k62 : Int32 → Int32 → Int32 → Int32 → Int32 → Int32 → Int32 → St → Option (Int32 × St), m_X9_readProgram_L128 k62 (nI to) (nI x3) (nI x4) w (nI pl) (nI d) (nI a) (nI b) (nI (psz b - 1)) T = some (0, T)) ∨ ∃ (S1 T1 : St) (d1 p1 : Nat), m_X5_follow (nI a) S = some (1, S1) ∧ Fr S S1 ∧ Gr T T1 ∧ (∀ k62 : Int32 → Int32 → Int32 → Int32 → Int32 → Int32 → Int32 → St → Option (Int32 × St), m_X9_readProgram_L128 k62 (nI to) (nI x3) (nI x4) w (nI pl) (nI d) (nI a) (nI b) (nI (psz b - 1)) T = m_X9_readProgram_L473 k62 (nI to) (nI x3) (nI x4) w (nI p1) (nI d1) (nI a) (nI (psz b - 1)) T1) ∧ QR S1 T1 d1 p1 (x3 + x4) ∧ p1 ≤ 1000
theorem fs0 {S T : St} {n : Nat} {B : Nat → Nat} (hB : SB S T n B) {a to pl d x3 x4 : Nat} (w : Int32) (hQ : QR S T d pl (x3 + x4)) (hp : pl ≤ 1000) (h3 : x3 ≤ 255) (h4 : x4 ≤ 255) (hb : B a = 0) (ha : a + 1 ≤ to) (ht : to ≤ n) : FS S T a to pl d x3 x4 0 w := by
  obtain ⟨q1, q2, q3, q4, q5, q6, q7, q8⟩ := id hQ
  have hn := hB.1
  have g0 := (hB.2.2.2 a).2.1
  have g1 := (hB.2.2.2 (a + 1)).2
  have g2 := (hB.2.2.2 (a + 2)).2
  obtain ⟨v, hv⟩ := byA hB (j := a + 1) (by omega)
  have z0 : nI (psz 0 - 1) = nI 0 := rfl
  have hf : m_X7_byteAt (nI a) S = some (nI 0, S) := by rw [byt hB (by omega), hb]
  have n0 : (nI 0 = (0 : Int32)) = True := eq_true rfl
  have n1 : (nI 0 = (1 : Int32)) = False := eq_false (by decide)
  have n2 : (nI 0 = (2 : Int32)) = False := eq_false (by decide)
  have n3 : (nI 0 = (3 : Int32)) = False := eq_false (by decide)
  have n4 : (nI 0 = (4 : Int32)) = False := eq_false (by decide)
  have n5 : (nI 0 = (5 : Int32)) = False := eq_false (by decide)
  have n6 : (nI 0 = (6 : Int32)) = False := eq_false (by decide)
  have n7 : (nI 0 = (7 : Int32)) = False := eq_false (by decide)
  have n8 : (nI 0 = (8 : Int32)) = False := eq_false (by decide)
  have n9 : (nI 0 = (9 : Int32)) = False := eq_false (by decide)
  have n10 : (nI 0 = (10 : Int32)) = False := eq_false (by decide)
  have n11 : (nI 0 = (11 : Int32)) = False := eq_false (by decide)
  have n12 : (nI 0 = (12 : Int32)) = False := eq_false (by decide)
  have n13 : (nI 0 = (13 : Int32)) = False := eq_false (by decide)
  have n14 : (nI 0 = (14 : Int32)) = False := eq_false (by decide)
  have l63 : (nI 0 ≤ (63 : Int32)) = True := eq_true (by decide)
  have l127 : (nI 0 ≤ (127 : Int32)) = True := eq_true (by decide)
  have l191 : (nI 0 ≤ (191 : Int32)) = True := eq_true (by decide)
  have m128 : ((128 : Int32) ≤ nI 0) = False := eq_false (by decide)
  have m131 : ((131 : Int32) ≤ nI 0) = False := eq_false (by decide)
  have m192 : ((192 : Int32) ≤ nI 0) = False := eq_false (by decide)
  have m195 : ((195 : Int32) ≤ nI 0) = False := eq_false (by decide)
  have y1 : (inb (0 : Int32) 5 = true) = True := eq_true (by decide)
  have y2 : (inb (1 : Int32) 5 = true) = True := eq_true (by decide)
  have y3 : (0 : Int32).toNatClampNeg = 0 := by decide
  have y4 : (1 : Int32).toNatClampNeg = 1 := by decide
  refine Or.inr ⟨S, T, d, pl, ?_, Fr.refl S, Gr.refl T, ?_, hQ, by omega⟩
  · unfold m_X5_follow
    rw [hf, some_bind', nI_1, hv, some_bind']
    simp only [n0, n1, n2, n3, n4, n5, n6, n7, n8, n9, n10, n11, n12, n13, n14, l63, l127, l191, m128, m131, m192, m195, if_true, if_false, some_bind', bz0, bz1]
  · intro k62
    unfold m_X9_readProgram_L128
    rw [z0]
    have u1 : (nI a + nI 0 < nI to) = True := eq_true (by rw [nI_add]; exact nI_lt (by omega) (by omega))
    have u2 : (nI 0 ≤ (0 : Int32)) = True := eq_true (by decide)
    simp only [u1, u2, n0, n1, n2, n3, n4, n5, n6, n7, n8, n9, n10, n11, n12, n13, n14, l63, l127, l191, m128, m131, m192, m195, if_true, if_false]
    unfold m_X9_readProgram_L214 m_X9_readProgram_L435
    simp only [n0, n1, n2, n3, n4, n5, n6, n7, n8, n9, n10, n11, n12, n13, n14, l63, l127, l191, m128, m131, m192, m195, if_true, if_false, y1, y2, y3, y4]
theorem fs2 {S T : St} {n : Nat} {B : Nat → Nat} (hB : SB S T n B) {a to pl d x3 x4 : Nat} (w : Int32) (hQ : QR S T d pl (x3 + x4)) (hp : pl ≤ 1000) (h3 : x3 ≤ 255) (h4 : x4 ≤ 255) (hb : B a = 2) (ha : a + 2 ≤ to) (ht : to ≤ n) : FS S T a to pl d x3 x4 2 w := by
  obtain ⟨q1, q2, q3, q4, q5, q6, q7, q8⟩ := id hQ
  have hn := hB.1
  have g0 := (hB.2.2.2 a).2.1
  have g1 := (hB.2.2.2 (a + 1)).2
  have g2 := (hB.2.2.2 (a + 2)).2
  obtain ⟨v, hv⟩ := byA hB (j := a + 1) (by omega)
  have z0 : nI (psz 2 - 1) = nI 1 := rfl
  have hf : m_X7_byteAt (nI a) S = some (nI 2, S) := by rw [byt hB (by omega), hb]
  have hv : m_X7_byteAt (nI (a + 1)) S = some (nI (B (a + 1)), S) := byt hB (by omega)
  have n0 : (nI 2 = (0 : Int32)) = False := eq_false (by decide)
  have n1 : (nI 2 = (1 : Int32)) = False := eq_false (by decide)
  have n2 : (nI 2 = (2 : Int32)) = True := eq_true rfl
  have n3 : (nI 2 = (3 : Int32)) = False := eq_false (by decide)
  have n4 : (nI 2 = (4 : Int32)) = False := eq_false (by decide)
  have n5 : (nI 2 = (5 : Int32)) = False := eq_false (by decide)
  have n6 : (nI 2 = (6 : Int32)) = False := eq_false (by decide)
  have n7 : (nI 2 = (7 : Int32)) = False := eq_false (by decide)
  have n8 : (nI 2 = (8 : Int32)) = False := eq_false (by decide)
  have n9 : (nI 2 = (9 : Int32)) = False := eq_false (by decide)
  have n10 : (nI 2 = (10 : Int32)) = False := eq_false (by decide)
  have n11 : (nI 2 = (11 : Int32)) = False := eq_false (by decide)
  have n12 : (nI 2 = (12 : Int32)) = False := eq_false (by decide)
  have n13 : (nI 2 = (13 : Int32)) = False := eq_false (by decide)
  have n14 : (nI 2 = (14 : Int32)) = False := eq_false (by decide)
  have l63 : (nI 2 ≤ (63 : Int32)) = True := eq_true (by decide)
  have l127 : (nI 2 ≤ (127 : Int32)) = True := eq_true (by decide)
  have l191 : (nI 2 ≤ (191 : Int32)) = True := eq_true (by decide)
  have m128 : ((128 : Int32) ≤ nI 2) = False := eq_false (by decide)
  have m131 : ((131 : Int32) ≤ nI 2) = False := eq_false (by decide)
  have m192 : ((192 : Int32) ≤ nI 2) = False := eq_false (by decide)
  have m195 : ((195 : Int32) ≤ nI 2) = False := eq_false (by decide)
  have y1 : (inb (0 : Int32) 5 = true) = True := eq_true (by decide)
  have y2 : (inb (1 : Int32) 5 = true) = True := eq_true (by decide)
  have y3 : (0 : Int32).toNatClampNeg = 0 := by decide
  have y4 : (1 : Int32).toNatClampNeg = 1 := by decide
  by_cases hx : pl + B (a + 1) < x3 + x4
  · have w1 : (nI (pl + B (a + 1)) < nI (x3 + x4)) = True := eq_true (nI_lt hx (by omega))
    refine Or.inr ⟨st S 20 8 (nI (pl + B (a + 1))), T, d, (pl + B (a + 1)), ?_, ⟨fun k h => by simp [st, show k ≠ 20 by omega, show k ≠ 15 by omega], fun j h1 h2 => by simp [st_at, show j ≠ 7 by omega, show j ≠ 8 by omega, show j ≠ 23 by omega, show j ≠ 24 by omega]⟩, Gr.refl T, ?_, ?_, by omega⟩
    · unfold m_X5_follow
      rw [hf, some_bind', nI_1, hv, some_bind']
      simp only [n0, n1, n2, n3, n4, n5, n6, n7, n8, n9, n10, n11, n12, n13, n14, l63, l127, l191, m128, m131, m192, m195, if_true, if_false, some_bind', bz0, bz1, mv_ok q6 q7 hx (by omega)]
    · intro k62
      unfold m_X9_readProgram_L128
      rw [z0]
      have u1 : (nI a + nI 1 < nI to) = True := eq_true (by rw [nI_add]; exact nI_lt (by omega) (by omega))
      have u2 : (nI 1 ≤ (0 : Int32)) = False := eq_false (by decide)
      have u3 : (inb (nI (a + 1)) 6000 = true) = True := eq_true (inb_nI (by omega) (by omega))
      have u4 : (nI (a + 1)).toNatClampNeg = a + 1 := nI_cl (by omega)
      simp only [u1, u2, u3, u4, nI_1, (hB.2.2.2 (a + 1)).2.1, n0, n1, n2, n3, n4, n5, n6, n7, n8, n9, n10, n11, n12, n13, n14, l63, l127, l191, m128, m131, m192, m195, if_true, if_false]
      unfold m_X9_readProgram_L182
      simp only [n0, n1, n2, n3, n4, n5, n6, n7, n8, n9, n10, n11, n12, n13, n14, l63, l127, l191, m128, m131, m192, m195, if_true, if_false, y1, y2, y3, y4, nI_add, w1]
    · refine ⟨q1.congr ?_ ?_ ?_ rfl, q2.congr ?_ ?_ ?_ rfl, q3.congr (fun j hj => ?_) (fun k h1 h2 => ?_) q5 rfl, ?_, q5, ?_, ?_, q8⟩
      · simp [st_at]
      · simp [st_at]
      · simp [st]
      · simp [st_at]
      · simp [st_at]
      · simp [st]
      · simp [st_at, show j ≠ 8 by omega]
      · simp [st, show k ≠ 20 by omega]
      · simp [st_at, q4]
      · simp [st_at]
      · simp [st_at, q7]
  · have w1 : (nI (pl + B (a + 1)) < nI (x3 + x4)) = False := eq_false (nI_nlt (by omega) (by omega))
    refine Or.inl ⟨st S 20 8 (nI (pl + B (a + 1))), ?_, ⟨fun k h => by simp [st, show k ≠ 20 by omega, show k ≠ 15 by omega], fun j h1 h2 => by simp [st_at, show j ≠ 7 by omega, show j ≠ 8 by omega, show j ≠ 23 by omega, show j ≠ 24 by omega]⟩, ?_⟩
    · unfold m_X5_follow
      rw [hf, some_bind', nI_1, hv, some_bind']
      simp only [n0, n1, n2, n3, n4, n5, n6, n7, n8, n9, n10, n11, n12, n13, n14, l63, l127, l191, m128, m131, m192, m195, if_true, if_false, some_bind', bz0, bz1, mv_no q6 q7 (show x3 + x4 ≤ pl + B (a + 1) by omega) (by omega)]
    · intro k62
      unfold m_X9_readProgram_L128
      rw [z0]
      have u1 : (nI a + nI 1 < nI to) = True := eq_true (by rw [nI_add]; exact nI_lt (by omega) (by omega))
      have u2 : (nI 1 ≤ (0 : Int32)) = False := eq_false (by decide)
      have u3 : (inb (nI (a + 1)) 6000 = true) = True := eq_true (inb_nI (by omega) (by omega))
      have u4 : (nI (a + 1)).toNatClampNeg = a + 1 := nI_cl (by omega)
      simp only [u1, u2, u3, u4, nI_1, (hB.2.2.2 (a + 1)).2.1, n0, n1, n2, n3, n4, n5, n6, n7, n8, n9, n10, n11, n12, n13, n14, l63, l127, l191, m128, m131, m192, m195, if_true, if_false]
      unfold m_X9_readProgram_L182
      simp only [n0, n1, n2, n3, n4, n5, n6, n7, n8, n9, n10, n11, n12, n13, n14, l63, l127, l191, m128, m131, m192, m195, if_true, if_false, y1, y2, y3, y4, bz0, nI_add, w1]
theorem fs10 {S T : St} {n : Nat} {B : Nat → Nat} (hB : SB S T n B) {a to pl d x3 x4 : Nat} (w : Int32) (hQ : QR S T d pl (x3 + x4)) (hp : pl ≤ 1000) (h3 : x3 ≤ 255) (h4 : x4 ≤ 255) (hb : B a = 10) (ha : a + 1 ≤ to) (ht : to ≤ n) : FS S T a to pl d x3 x4 10 w := by
  obtain ⟨q1, q2, q3, q4, q5, q6, q7, q8⟩ := id hQ
  have hn := hB.1
  have g0 := (hB.2.2.2 a).2.1
  have g1 := (hB.2.2.2 (a + 1)).2
  have g2 := (hB.2.2.2 (a + 2)).2
  obtain ⟨v, hv⟩ := byA hB (j := a + 1) (by omega)
  have z0 : nI (psz 10 - 1) = nI 0 := rfl
  have hf : m_X7_byteAt (nI a) S = some (nI 10, S) := by rw [byt hB (by omega), hb]
  have n0 : (nI 10 = (0 : Int32)) = False := eq_false (by decide)
  have n1 : (nI 10 = (1 : Int32)) = False := eq_false (by decide)
  have n2 : (nI 10 = (2 : Int32)) = False := eq_false (by decide)
  have n3 : (nI 10 = (3 : Int32)) = False := eq_false (by decide)
  have n4 : (nI 10 = (4 : Int32)) = False := eq_false (by decide)
  have n5 : (nI 10 = (5 : Int32)) = False := eq_false (by decide)
  have n6 : (nI 10 = (6 : Int32)) = False := eq_false (by decide)
  have n7 : (nI 10 = (7 : Int32)) = False := eq_false (by decide)
  have n8 : (nI 10 = (8 : Int32)) = False := eq_false (by decide)
  have n9 : (nI 10 = (9 : Int32)) = False := eq_false (by decide)
  have n10 : (nI 10 = (10 : Int32)) = True := eq_true rfl
  have n11 : (nI 10 = (11 : Int32)) = False := eq_false (by decide)
  have n12 : (nI 10 = (12 : Int32)) = False := eq_false (by decide)
  have n13 : (nI 10 = (13 : Int32)) = False := eq_false (by decide)
  have n14 : (nI 10 = (14 : Int32)) = False := eq_false (by decide)
  have l63 : (nI 10 ≤ (63 : Int32)) = True := eq_true (by decide)
  have l127 : (nI 10 ≤ (127 : Int32)) = True := eq_true (by decide)
  have l191 : (nI 10 ≤ (191 : Int32)) = True := eq_true (by decide)
  have m128 : ((128 : Int32) ≤ nI 10) = False := eq_false (by decide)
  have m131 : ((131 : Int32) ≤ nI 10) = False := eq_false (by decide)
  have m192 : ((192 : Int32) ≤ nI 10) = False := eq_false (by decide)
  have m195 : ((195 : Int32) ≤ nI 10) = False := eq_false (by decide)
  have y1 : (inb (0 : Int32) 5 = true) = True := eq_true (by decide)
  have y2 : (inb (1 : Int32) 5 = true) = True := eq_true (by decide)
  have y3 : (0 : Int32).toNatClampNeg = 0 := by decide
  have y4 : (1 : Int32).toNatClampNeg = 1 := by decide
  by_cases hx : d < 4
  · have hd := hx
    have w1 : (nI d = (4 : Int32)) = False := eq_false (nI_ne (b := 4) (by omega) (by omega) (by omega))
    have hpp : m_X5_putOnPile S = some (1, st (cpy (4 + d) 3 S) 20 7 (nI (d + 1))) := by
      unfold m_X5_putOnPile
      have i1 : nI d < (4 : Int32) := nI_lt (b := 4) hx (by omega)
      have i2 : inb (nI d) 4 = true := inb_nI hx (by omega)
      have i3 : (nI d).toNatClampNeg = d := nI_cl (by omega)
      have i4 : cpy (4 + d) 3 S 20 7 = nI d := by
        unfold cpy
        rw [st_row _ _ _ _ (by omega), st_row _ _ _ _ (by omega), st_row _ _ _ _ (by omega), st_col _ _ _ (by omega), st_col _ _ _ (by omega), q4]
      rw [q4, if_pos i1, if_pos i2, i3, cpy_eq (by omega) (by omega) (by omega), some_bind']
      simp only [i4, nI_1, bz1]
    have F10 : 6 ≤ (10000 : Nat) := by decide
    have fr1 : Fr S (st (cpy (4 + d) 3 S) 20 7 (nI (d + 1))) := by
      unfold cpy
      exact ⟨fun k h => by simp [st, show k ≠ 20 by omega, show k ≠ 12 + (4 + d) by omega], fun j h1 h2 => by simp [st_at, show j ≠ 7 by omega, show j ≠ 17 + 2 * (4 + d) by omega, show j ≠ 18 + 2 * (4 + d) by omega, show 20 ≠ 12 + (4 + d) by omega]⟩
    have gr1 : Gr T (pil d T) := fun k h1 h2 h3 => by simp [pil, st, h3]
    have qr1 : QR (st (cpy (4 + d) 3 S) 20 7 (nI (d + 1))) (pil d T) (d + 1) pl (x3 + x4) := by
      rcases (show d = 0 ∨ d = 1 ∨ d = 2 ∨ d = 3 by omega) with rfl | rfl | rfl | rfl
      · refine ⟨q1.congr ?_ ?_ ?_ ?_, q2.congr ?_ ?_ ?_ ?_, fun j hj => ?_, ?_, by omega, ?_, ?_, q8.pil⟩
        · simp [cpy, st_at]
        · simp [cpy, st_at]
        · simp [cpy, st]
        · simp [pil, st]
        · simp [cpy, st_at]
        · simp [cpy, st_at]
        · simp [cpy, st]
        · simp [pil, st]
        · by_cases hj2 : j < 0
          · obtain ⟨z1, z2, z3, z4, z5⟩ := q3 j hj2
            obtain ⟨⟩ : False := by omega

          · obtain rfl : j = 0 := by omega
            obtain ⟨z1, z2, z3, z4, z5⟩ := q1
            simp [cpy, pil, st_at]; exact ⟨z1, z2, z3, z4, z5⟩
        · simp [st_at]
        · simp [cpy, st_at, q6]
        · simp [cpy, st_at, q7]
      · refine ⟨q1.congr ?_ ?_ ?_ ?_, q2.congr ?_ ?_ ?_ ?_, fun j hj => ?_, ?_, by omega, ?_, ?_, q8.pil⟩
        · simp [cpy, st_at]
        · simp [cpy, st_at]
        · simp [cpy, st]
        · simp [pil, st]
        · simp [cpy, st_at]
        · simp [cpy, st_at]
        · simp [cpy, st]
        · simp [pil, st]
        · by_cases hj2 : j < 1
          · obtain ⟨z1, z2, z3, z4, z5⟩ := q3 j hj2
            obtain rfl : j = 0 := by omega
            · simp [cpy, pil, st_at] at z1 z2 z3 z4 z5 ⊢; exact ⟨z1, z2, z3, z4, z5⟩
          · obtain rfl : j = 1 := by omega
            obtain ⟨z1, z2, z3, z4, z5⟩ := q1
            simp [cpy, pil, st_at]; exact ⟨z1, z2, z3, z4, z5⟩
        · simp [st_at]
        · simp [cpy, st_at, q6]
        · simp [cpy, st_at, q7]
      · refine ⟨q1.congr ?_ ?_ ?_ ?_, q2.congr ?_ ?_ ?_ ?_, fun j hj => ?_, ?_, by omega, ?_, ?_, q8.pil⟩
        · simp [cpy, st_at]
        · simp [cpy, st_at]
        · simp [cpy, st]
        · simp [pil, st]
        · simp [cpy, st_at]
        · simp [cpy, st_at]
        · simp [cpy, st]
        · simp [pil, st]
        · by_cases hj2 : j < 2
          · obtain ⟨z1, z2, z3, z4, z5⟩ := q3 j hj2
            obtain rfl | rfl : j = 0 ∨ j = 1 := by omega
            · simp [cpy, pil, st_at] at z1 z2 z3 z4 z5 ⊢; exact ⟨z1, z2, z3, z4, z5⟩
            · simp [cpy, pil, st_at] at z1 z2 z3 z4 z5 ⊢; exact ⟨z1, z2, z3, z4, z5⟩
          · obtain rfl : j = 2 := by omega
            obtain ⟨z1, z2, z3, z4, z5⟩ := q1
            simp [cpy, pil, st_at]; exact ⟨z1, z2, z3, z4, z5⟩
        · simp [st_at]
        · simp [cpy, st_at, q6]
        · simp [cpy, st_at, q7]
      · refine ⟨q1.congr ?_ ?_ ?_ ?_, q2.congr ?_ ?_ ?_ ?_, fun j hj => ?_, ?_, by omega, ?_, ?_, q8.pil⟩
        · simp [cpy, st_at]
        · simp [cpy, st_at]
        · simp [cpy, st]
        · simp [pil, st]
        · simp [cpy, st_at]
        · simp [cpy, st_at]
        · simp [cpy, st]
        · simp [pil, st]
        · by_cases hj2 : j < 3
          · obtain ⟨z1, z2, z3, z4, z5⟩ := q3 j hj2
            obtain rfl | rfl | rfl : j = 0 ∨ j = 1 ∨ j = 2 := by omega
            · simp [cpy, pil, st_at] at z1 z2 z3 z4 z5 ⊢; exact ⟨z1, z2, z3, z4, z5⟩
            · simp [cpy, pil, st_at] at z1 z2 z3 z4 z5 ⊢; exact ⟨z1, z2, z3, z4, z5⟩
            · simp [cpy, pil, st_at] at z1 z2 z3 z4 z5 ⊢; exact ⟨z1, z2, z3, z4, z5⟩
          · obtain rfl : j = 3 := by omega
            obtain ⟨z1, z2, z3, z4, z5⟩ := q1
            simp [cpy, pil, st_at]; exact ⟨z1, z2, z3, z4, z5⟩
        · simp [st_at]
        · simp [cpy, st_at, q6]
        · simp [cpy, st_at, q7]
    refine Or.inr ⟨_, _, _, _, ?_, fr1, gr1, ?_, qr1, by omega⟩
    · unfold m_X5_follow
      rw [hf, some_bind', nI_1, hv, some_bind']
      simp only [n0, n1, n2, n3, n4, n5, n6, n7, n8, n9, n10, n11, n12, n13, n14, l63, l127, l191, m128, m131, m192, m195, if_true, if_false, some_bind', bz0, bz1, hpp]
    · intro k62
      unfold m_X9_readProgram_L128
      rw [z0]
      have u1 : (nI a + nI 0 < nI to) = True := eq_true (by rw [nI_add]; exact nI_lt (by omega) (by omega))
      have u2 : (nI 0 ≤ (0 : Int32)) = True := eq_true (by decide)
      simp only [u1, u2, n0, n1, n2, n3, n4, n5, n6, n7, n8, n9, n10, n11, n12, n13, n14, l63, l127, l191, m128, m131, m192, m195, if_true, if_false]
      unfold m_X9_readProgram_L214
      simp only [n0, n1, n2, n3, n4, n5, n6, n7, n8, n9, n10, n11, n12, n13, n14, l63, l127, l191, m128, m131, m192, m195, if_true, if_false, y1, y2, y3, y4, w1, l232 k62 F10 hd]
  · obtain rfl : d = 4 := by omega
    have w1 : (nI 4 = (4 : Int32)) = True := eq_true rfl
    have hpp : m_X5_putOnPile S = some (0, S) := by
      unfold m_X5_putOnPile
      rw [q4, if_neg (show ¬ nI 4 < (4 : Int32) by decide)]; rfl
    refine Or.inl ⟨S, ?_, Fr.refl S, ?_⟩
    · unfold m_X5_follow
      rw [hf, some_bind', nI_1, hv, some_bind']
      simp only [n0, n1, n2, n3, n4, n5, n6, n7, n8, n9, n10, n11, n12, n13, n14, l63, l127, l191, m128, m131, m192, m195, if_true, if_false, some_bind', bz0, bz1, hpp]
    · intro k62
      unfold m_X9_readProgram_L128
      rw [z0]
      have u1 : (nI a + nI 0 < nI to) = True := eq_true (by rw [nI_add]; exact nI_lt (by omega) (by omega))
      have u2 : (nI 0 ≤ (0 : Int32)) = True := eq_true (by decide)
      simp only [u1, u2, n0, n1, n2, n3, n4, n5, n6, n7, n8, n9, n10, n11, n12, n13, n14, l63, l127, l191, m128, m131, m192, m195, if_true, if_false]
      unfold m_X9_readProgram_L214
      simp only [n0, n1, n2, n3, n4, n5, n6, n7, n8, n9, n10, n11, n12, n13, n14, l63, l127, l191, m128, m131, m192, m195, if_true, if_false, y1, y2, y3, y4, bz0, w1]
theorem fs11 {S T : St} {n : Nat} {B : Nat → Nat} (hB : SB S T n B) {a to pl d x3 x4 : Nat} (w : Int32) (hQ : QR S T d pl (x3 + x4)) (hp : pl ≤ 1000) (h3 : x3 ≤ 255) (h4 : x4 ≤ 255) (hb : B a = 11) (ha : a + 1 ≤ to) (ht : to ≤ n) : FS S T a to pl d x3 x4 11 w := by
  obtain ⟨q1, q2, q3, q4, q5, q6, q7, q8⟩ := id hQ
  have hn := hB.1
  have g0 := (hB.2.2.2 a).2.1
  have g1 := (hB.2.2.2 (a + 1)).2
  have g2 := (hB.2.2.2 (a + 2)).2
  obtain ⟨v, hv⟩ := byA hB (j := a + 1) (by omega)
  have z0 : nI (psz 11 - 1) = nI 0 := rfl
  have hf : m_X7_byteAt (nI a) S = some (nI 11, S) := by rw [byt hB (by omega), hb]
  have n0 : (nI 11 = (0 : Int32)) = False := eq_false (by decide)
  have n1 : (nI 11 = (1 : Int32)) = False := eq_false (by decide)
  have n2 : (nI 11 = (2 : Int32)) = False := eq_false (by decide)
  have n3 : (nI 11 = (3 : Int32)) = False := eq_false (by decide)
  have n4 : (nI 11 = (4 : Int32)) = False := eq_false (by decide)
  have n5 : (nI 11 = (5 : Int32)) = False := eq_false (by decide)
  have n6 : (nI 11 = (6 : Int32)) = False := eq_false (by decide)
  have n7 : (nI 11 = (7 : Int32)) = False := eq_false (by decide)
  have n8 : (nI 11 = (8 : Int32)) = False := eq_false (by decide)
  have n9 : (nI 11 = (9 : Int32)) = False := eq_false (by decide)
  have n10 : (nI 11 = (10 : Int32)) = False := eq_false (by decide)
  have n11 : (nI 11 = (11 : Int32)) = True := eq_true rfl
  have n12 : (nI 11 = (12 : Int32)) = False := eq_false (by decide)
  have n13 : (nI 11 = (13 : Int32)) = False := eq_false (by decide)
  have n14 : (nI 11 = (14 : Int32)) = False := eq_false (by decide)
  have l63 : (nI 11 ≤ (63 : Int32)) = True := eq_true (by decide)
  have l127 : (nI 11 ≤ (127 : Int32)) = True := eq_true (by decide)
  have l191 : (nI 11 ≤ (191 : Int32)) = True := eq_true (by decide)
  have m128 : ((128 : Int32) ≤ nI 11) = False := eq_false (by decide)
  have m131 : ((131 : Int32) ≤ nI 11) = False := eq_false (by decide)
  have m192 : ((192 : Int32) ≤ nI 11) = False := eq_false (by decide)
  have m195 : ((195 : Int32) ≤ nI 11) = False := eq_false (by decide)
  have y1 : (inb (0 : Int32) 5 = true) = True := eq_true (by decide)
  have y2 : (inb (1 : Int32) 5 = true) = True := eq_true (by decide)
  have y3 : (0 : Int32).toNatClampNeg = 0 := by decide
  have y4 : (1 : Int32).toNatClampNeg = 1 := by decide
  by_cases hx : 0 < d
  · obtain ⟨e, rfl⟩ : ∃ e, d = e + 1 := ⟨d - 1, by omega⟩
    have hd : e < 4 := by omega
    have w1 : (nI (e + 1) = (0 : Int32)) = False := eq_false (nI_ne0 (by omega) (by omega))
    have w2 : nI (e + 1) + (-1 : Int32) = nI e := pk_m1 e
    have hpp : m_X5_takeOffPile S = some (1, cpy 3 (4 + e) (st S 20 7 (nI e))) := by
      unfold m_X5_takeOffPile
      have i1 : 0 < nI (e + 1) := nI_lt (a := 0) (by omega) (by omega)
      have i2 : inb (nI e) 4 = true := inb_nI hd (by omega)
      have i3 : (nI e).toNatClampNeg = e := nI_cl (by omega)
      have i4 : nI (e + 1) - 1 = nI e := nI_pred e
      rw [q4, if_pos i1, i4, st_rd, if_pos i2, i3, cpy_eq (by omega) (by omega) (by omega), some_bind']
      rfl
    have F10 : 6 ≤ (10000 : Nat) := by decide
    have fr1 : Fr S (cpy 3 (4 + e) (st S 20 7 (nI e))) := by
      unfold cpy
      exact ⟨fun k h => by simp [st, show k ≠ 20 by omega, show k ≠ 15 by omega], fun j h1 h2 => by simp [st_at, show j ≠ 7 by omega, show j ≠ 23 by omega, show j ≠ 24 by omega]⟩
    have gr1 : Gr T (unp e T) := fun k h1 h2 h3 => by simp [unp, st, h2]
    have qr1 : QR (cpy 3 (4 + e) (st S 20 7 (nI e))) (unp e T) e pl (x3 + x4) := by
      obtain ⟨z1, z2, z3, z4, z5⟩ := q3 e (by omega)
      refine ⟨?_, q2.congr ?_ ?_ ?_ ?_, QP.congr (d := e) (fun j hj => q3 j (by omega)) (fun j hj => ?_) (fun k h1 h2 => ?_) (by omega) ?_, ?_, by omega, ?_, ?_, q8.unp⟩
      · rcases (show e = 0 ∨ e = 1 ∨ e = 2 ∨ e = 3 by omega) with rfl | rfl | rfl | rfl
        · simp [QN, cpy, unp, st_at] at z1 z2 z3 z4 z5 ⊢; exact ⟨z1, z2, z3, z4, z5⟩
        · simp [QN, cpy, unp, st_at] at z1 z2 z3 z4 z5 ⊢; exact ⟨z1, z2, z3, z4, z5⟩
        · simp [QN, cpy, unp, st_at] at z1 z2 z3 z4 z5 ⊢; exact ⟨z1, z2, z3, z4, z5⟩
        · simp [QN, cpy, unp, st_at] at z1 z2 z3 z4 z5 ⊢; exact ⟨z1, z2, z3, z4, z5⟩
      · simp [cpy, st_at]
      · simp [cpy, st_at]
      · simp [cpy, st]
      · simp [unp, st]
      · simp [cpy, st_at, show j ≠ 23 by omega, show j ≠ 24 by omega, show j ≠ 7 by omega]
      · simp [cpy, st, show k ≠ 20 by omega, show k ≠ 15 by omega]
      · simp [unp, st]
      · simp [cpy, st_at]
      · simp [cpy, st_at, q6]
      · simp [cpy, st_at, q7]
    refine Or.inr ⟨_, _, _, _, ?_, fr1, gr1, ?_, qr1, by omega⟩
    · unfold m_X5_follow
      rw [hf, some_bind', nI_1, hv, some_bind']
      simp only [n0, n1, n2, n3, n4, n5, n6, n7, n8, n9, n10, n11, n12, n13, n14, l63, l127, l191, m128, m131, m192, m195, if_true, if_false, some_bind', bz0, bz1, hpp]
    · intro k62
      unfold m_X9_readProgram_L128
      rw [z0]
      have u1 : (nI a + nI 0 < nI to) = True := eq_true (by rw [nI_add]; exact nI_lt (by omega) (by omega))
      have u2 : (nI 0 ≤ (0 : Int32)) = True := eq_true (by decide)
      simp only [u1, u2, n0, n1, n2, n3, n4, n5, n6, n7, n8, n9, n10, n11, n12, n13, n14, l63, l127, l191, m128, m131, m192, m195, if_true, if_false]
      unfold m_X9_readProgram_L214
      simp only [n0, n1, n2, n3, n4, n5, n6, n7, n8, n9, n10, n11, n12, n13, n14, l63, l127, l191, m128, m131, m192, m195, if_true, if_false, y1, y2, y3, y4, w1, w2, l289 k62 F10 hd]
  · obtain rfl : d = 0 := by omega
    have w1 : (nI 0 = (0 : Int32)) = True := eq_true rfl
    have hpp : m_X5_takeOffPile S = some (0, S) := by
      unfold m_X5_takeOffPile
      rw [q4, if_neg (show ¬ 0 < nI 0 by decide)]; rfl
    refine Or.inl ⟨S, ?_, Fr.refl S, ?_⟩
    · unfold m_X5_follow
      rw [hf, some_bind', nI_1, hv, some_bind']
      simp only [n0, n1, n2, n3, n4, n5, n6, n7, n8, n9, n10, n11, n12, n13, n14, l63, l127, l191, m128, m131, m192, m195, if_true, if_false, some_bind', bz0, bz1, hpp]
    · intro k62
      unfold m_X9_readProgram_L128
      rw [z0]
      have u1 : (nI a + nI 0 < nI to) = True := eq_true (by rw [nI_add]; exact nI_lt (by omega) (by omega))
      have u2 : (nI 0 ≤ (0 : Int32)) = True := eq_true (by decide)
      simp only [u1, u2, n0, n1, n2, n3, n4, n5, n6, n7, n8, n9, n10, n11, n12, n13, n14, l63, l127, l191, m128, m131, m192, m195, if_true, if_false]
      unfold m_X9_readProgram_L214
      simp only [n0, n1, n2, n3, n4, n5, n6, n7, n8, n9, n10, n11, n12, n13, n14, l63, l127, l191, m128, m131, m192, m195, if_true, if_false, y1, y2, y3, y4, bz0, w1]
theorem fs12 {S T : St} {n : Nat} {B : Nat → Nat} (hB : SB S T n B) {a to pl d x3 x4 : Nat} (w : Int32) (hQ : QR S T d pl (x3 + x4)) (hp : pl ≤ 1000) (h3 : x3 ≤ 255) (h4 : x4 ≤ 255) (hb : B a = 12) (ha : a + 3 ≤ to) (ht : to ≤ n) : FS S T a to pl d x3 x4 12 w := by
  obtain ⟨q1, q2, q3, q4, q5, q6, q7, q8⟩ := id hQ
  have hn := hB.1
  have g0 := (hB.2.2.2 a).2.1
  have g1 := (hB.2.2.2 (a + 1)).2
  have g2 := (hB.2.2.2 (a + 2)).2
  obtain ⟨v, hv⟩ := byA hB (j := a + 1) (by omega)
  have z0 : nI (psz 12 - 1) = nI 2 := rfl
  have hf : m_X7_byteAt (nI a) S = some (nI 12, S) := by rw [byt hB (by omega), hb]
  have hv : m_X7_byteAt (nI (a + 1)) S = some (nI (B (a + 1)), S) := byt hB (by omega)
  have hv2 : m_X7_byteAt (nI (a + 2)) S = some (nI (B (a + 2)), S) := byt hB (by omega)
  have n0 : (nI 12 = (0 : Int32)) = False := eq_false (by decide)
  have n1 : (nI 12 = (1 : Int32)) = False := eq_false (by decide)
  have n2 : (nI 12 = (2 : Int32)) = False := eq_false (by decide)
  have n3 : (nI 12 = (3 : Int32)) = False := eq_false (by decide)
  have n4 : (nI 12 = (4 : Int32)) = False := eq_false (by decide)
  have n5 : (nI 12 = (5 : Int32)) = False := eq_false (by decide)
  have n6 : (nI 12 = (6 : Int32)) = False := eq_false (by decide)
  have n7 : (nI 12 = (7 : Int32)) = False := eq_false (by decide)
  have n8 : (nI 12 = (8 : Int32)) = False := eq_false (by decide)
  have n9 : (nI 12 = (9 : Int32)) = False := eq_false (by decide)
  have n10 : (nI 12 = (10 : Int32)) = False := eq_false (by decide)
  have n11 : (nI 12 = (11 : Int32)) = False := eq_false (by decide)
  have n12 : (nI 12 = (12 : Int32)) = True := eq_true rfl
  have n13 : (nI 12 = (13 : Int32)) = False := eq_false (by decide)
  have n14 : (nI 12 = (14 : Int32)) = False := eq_false (by decide)
  have l63 : (nI 12 ≤ (63 : Int32)) = True := eq_true (by decide)
  have l127 : (nI 12 ≤ (127 : Int32)) = True := eq_true (by decide)
  have l191 : (nI 12 ≤ (191 : Int32)) = True := eq_true (by decide)
  have m128 : ((128 : Int32) ≤ nI 12) = False := eq_false (by decide)
  have m131 : ((131 : Int32) ≤ nI 12) = False := eq_false (by decide)
  have m192 : ((192 : Int32) ≤ nI 12) = False := eq_false (by decide)
  have m195 : ((195 : Int32) ≤ nI 12) = False := eq_false (by decide)
  have y1 : (inb (0 : Int32) 5 = true) = True := eq_true (by decide)
  have y2 : (inb (1 : Int32) 5 = true) = True := eq_true (by decide)
  have y3 : (0 : Int32).toNatClampNeg = 0 := by decide
  have y4 : (1 : Int32).toNatClampNeg = 1 := by decide
  by_cases hx : B (a + 1) ≤ 1
  · have w1 : (nI (B (a + 1)) ≤ (1 : Int32)) = True := eq_true (nI_le (b := 1) hx (by omega))
    have w2 : ¬ (1 : Int32) < nI (B (a + 1)) := nI_nlt (a := 1) hx (by omega)
    have hsl : m_X5_setLink (nI (B (a + 1))) (st S 20 24 (nI (B (a + 2)))) = some (1, st (st S 20 24 (nI (B (a + 2)))) 20 23 (nI (B (a + 1)))) := by
      unfold m_X5_setLink
      rw [if_neg w2]; rfl
    have r2 : (inb (nI a + (2 : Int32)) 6000 = true) = True := eq_true (by rw [show nI a + (2 : Int32) = nI (a + 2) from nI_add a 2]; exact inb_nI (by omega) (by omega))
    have r3 : (nI a + (2 : Int32)).toNatClampNeg = a + 2 := by rw [show nI a + (2 : Int32) = nI (a + 2) from nI_add a 2]; exact nI_cl (by omega)
    have r4 : ∀ v, st T 14 0 v 10 (a + 2) = nI (B (a + 2)) := fun v => by rw [st_row _ _ _ _ (by omega), g2.1]
    refine Or.inr ⟨st (st S 20 24 (nI (B (a + 2)))) 20 23 (nI (B (a + 1))), st (st T 14 0 (nI (B (a + 1)))) 14 1 (nI (B (a + 2))), d, pl, ?_, ⟨fun k h => by simp [st, show k ≠ 20 by omega, show k ≠ 15 by omega], fun j h1 h2 => by simp [st_at, show j ≠ 7 by omega, show j ≠ 8 by omega, show j ≠ 23 by omega, show j ≠ 24 by omega]⟩, (fun k h1 h2 h3 => by simp [st, h1, h2, h3]), ?_, ?_, by omega⟩
    · unfold m_X5_follow
      rw [hf, some_bind', nI_1, hv, some_bind']
      simp only [n0, n1, n2, n3, n4, n5, n6, n7, n8, n9, n10, n11, n12, n13, n14, l63, l127, l191, m128, m131, m192, m195, if_true, if_false, some_bind', bz0, bz1, show nI a + (2 : Int32) = nI (a + 2) from nI_add a 2, hv2, hsl]
    · intro k62
      unfold m_X9_readProgram_L128
      rw [z0]
      have u1 : (nI a + nI 2 < nI to) = True := eq_true (by rw [nI_add]; exact nI_lt (by omega) (by omega))
      have u2 : (nI 2 ≤ (0 : Int32)) = False := eq_false (by decide)
      have u3 : (inb (nI (a + 1)) 6000 = true) = True := eq_true (inb_nI (by omega) (by omega))
      have u4 : (nI (a + 1)).toNatClampNeg = a + 1 := nI_cl (by omega)
      simp only [u1, u2, u3, u4, nI_1, (hB.2.2.2 (a + 1)).2.1, n0, n1, n2, n3, n4, n5, n6, n7, n8, n9, n10, n11, n12, n13, n14, l63, l127, l191, m128, m131, m192, m195, if_true, if_false]
      unfold m_X9_readProgram_L214 m_X9_readProgram_L337
      simp only [n0, n1, n2, n3, n4, n5, n6, n7, n8, n9, n10, n11, n12, n13, n14, l63, l127, l191, m128, m131, m192, m195, if_true, if_false, y1, y2, y3, y4, w1, r2, r3, r4]
    · obtain ⟨z1, z2, z3, z4, z5⟩ := q1
      refine ⟨⟨?_, ?_, ?_, ?_, ?_⟩, q2.congr ?_ ?_ ?_ ?_, q3.congr (fun j hj => ?_) (fun k h1 h2 => ?_) q5 ?_, ?_, q5, ?_, ?_, (q8.s (byteN (hB.2.2.2 (a + 1)).2.2) 0).s (byteN (hB.2.2.2 (a + 2)).2.2) 1⟩
      · simp [st_at, z1]
      · simp [st_at, z2]
      · simp [st_at, z3]
      · simp [st_at, z4]
      · simp [st_at, z5]
      · simp [st_at]
      · simp [st_at]
      · simp [st]
      · simp [st]
      · simp [st_at, show j ≠ 23 by omega, show j ≠ 24 by omega]
      · simp [st, show k ≠ 20 by omega, show k ≠ 15 by omega]
      · simp [st]
      · simp [st_at, q4]
      · simp [st_at, q6]
      · simp [st_at, q7]
  · have w1 : (nI (B (a + 1)) ≤ (1 : Int32)) = False := eq_false (nI_ge (a := 1) (by omega) (by omega))
    have w2 : (1 : Int32) < nI (B (a + 1)) := nI_lt (a := 1) (by omega) (by omega)
    have hsl : m_X5_setLink (nI (B (a + 1))) (st S 20 24 (nI (B (a + 2)))) = some (0, st (st S 20 24 (nI (B (a + 2)))) 20 23 (nI (B (a + 1)))) := by
      unfold m_X5_setLink
      rw [if_pos w2]; rfl
    refine Or.inl ⟨st (st S 20 24 (nI (B (a + 2)))) 20 23 (nI (B (a + 1))), ?_, ⟨fun k h => by simp [st, show k ≠ 20 by omega, show k ≠ 15 by omega], fun j h1 h2 => by simp [st_at, show j ≠ 7 by omega, show j ≠ 8 by omega, show j ≠ 23 by omega, show j ≠ 24 by omega]⟩, ?_⟩
    · unfold m_X5_follow
      rw [hf, some_bind', nI_1, hv, some_bind']
      simp only [n0, n1, n2, n3, n4, n5, n6, n7, n8, n9, n10, n11, n12, n13, n14, l63, l127, l191, m128, m131, m192, m195, if_true, if_false, some_bind', bz0, bz1, show nI a + (2 : Int32) = nI (a + 2) from nI_add a 2, hv2, hsl]
    · intro k62
      unfold m_X9_readProgram_L128
      rw [z0]
      have u1 : (nI a + nI 2 < nI to) = True := eq_true (by rw [nI_add]; exact nI_lt (by omega) (by omega))
      have u2 : (nI 2 ≤ (0 : Int32)) = False := eq_false (by decide)
      have u3 : (inb (nI (a + 1)) 6000 = true) = True := eq_true (inb_nI (by omega) (by omega))
      have u4 : (nI (a + 1)).toNatClampNeg = a + 1 := nI_cl (by omega)
      simp only [u1, u2, u3, u4, nI_1, (hB.2.2.2 (a + 1)).2.1, n0, n1, n2, n3, n4, n5, n6, n7, n8, n9, n10, n11, n12, n13, n14, l63, l127, l191, m128, m131, m192, m195, if_true, if_false]
      unfold m_X9_readProgram_L214 m_X9_readProgram_L337
      simp only [n0, n1, n2, n3, n4, n5, n6, n7, n8, n9, n10, n11, n12, n13, n14, l63, l127, l191, m128, m131, m192, m195, if_true, if_false, y1, y2, y3, y4, bz0, w1]
theorem fs13 {S T : St} {n : Nat} {B : Nat → Nat} (hB : SB S T n B) {a to pl d x3 x4 : Nat} (w : Int32) (hQ : QR S T d pl (x3 + x4)) (hp : pl ≤ 1000) (h3 : x3 ≤ 255) (h4 : x4 ≤ 255) (hb : B a = 13) (ha : a + 2 ≤ to) (ht : to ≤ n) : FS S T a to pl d x3 x4 13 w := by
  obtain ⟨q1, q2, q3, q4, q5, q6, q7, q8⟩ := id hQ
  have hn := hB.1
  have g0 := (hB.2.2.2 a).2.1
  have g1 := (hB.2.2.2 (a + 1)).2
  have g2 := (hB.2.2.2 (a + 2)).2
  obtain ⟨v, hv⟩ := byA hB (j := a + 1) (by omega)
  have z0 : nI (psz 13 - 1) = nI 1 := rfl
  have hf : m_X7_byteAt (nI a) S = some (nI 13, S) := by rw [byt hB (by omega), hb]
  have hv : m_X7_byteAt (nI (a + 1)) S = some (nI (B (a + 1)), S) := byt hB (by omega)
  have n0 : (nI 13 = (0 : Int32)) = False := eq_false (by decide)
  have n1 : (nI 13 = (1 : Int32)) = False := eq_false (by decide)
  have n2 : (nI 13 = (2 : Int32)) = False := eq_false (by decide)
  have n3 : (nI 13 = (3 : Int32)) = False := eq_false (by decide)
  have n4 : (nI 13 = (4 : Int32)) = False := eq_false (by decide)
  have n5 : (nI 13 = (5 : Int32)) = False := eq_false (by decide)
  have n6 : (nI 13 = (6 : Int32)) = False := eq_false (by decide)
  have n7 : (nI 13 = (7 : Int32)) = False := eq_false (by decide)
  have n8 : (nI 13 = (8 : Int32)) = False := eq_false (by decide)
  have n9 : (nI 13 = (9 : Int32)) = False := eq_false (by decide)
  have n10 : (nI 13 = (10 : Int32)) = False := eq_false (by decide)
  have n11 : (nI 13 = (11 : Int32)) = False := eq_false (by decide)
  have n12 : (nI 13 = (12 : Int32)) = False := eq_false (by decide)
  have n13 : (nI 13 = (13 : Int32)) = True := eq_true rfl
  have n14 : (nI 13 = (14 : Int32)) = False := eq_false (by decide)
  have l63 : (nI 13 ≤ (63 : Int32)) = True := eq_true (by decide)
  have l127 : (nI 13 ≤ (127 : Int32)) = True := eq_true (by decide)
  have l191 : (nI 13 ≤ (191 : Int32)) = True := eq_true (by decide)
  have m128 : ((128 : Int32) ≤ nI 13) = False := eq_false (by decide)
  have m131 : ((131 : Int32) ≤ nI 13) = False := eq_false (by decide)
  have m192 : ((192 : Int32) ≤ nI 13) = False := eq_false (by decide)
  have m195 : ((195 : Int32) ≤ nI 13) = False := eq_false (by decide)
  have y1 : (inb (0 : Int32) 5 = true) = True := eq_true (by decide)
  have y2 : (inb (1 : Int32) 5 = true) = True := eq_true (by decide)
  have y3 : (0 : Int32).toNatClampNeg = 0 := by decide
  have y4 : (1 : Int32).toNatClampNeg = 1 := by decide
  by_cases hx : B (a + 1) ≤ 1
  · have w1 : (nI (B (a + 1)) ≤ (1 : Int32)) = True := eq_true (nI_le (b := 1) hx (by omega))
    have w2 : ¬ (1 : Int32) < nI (B (a + 1)) := nI_nlt (a := 1) hx (by omega)
    have hsl : m_X5_setLink (nI (B (a + 1))) (S) = some (1, st (S) 20 23 (nI (B (a + 1)))) := by
      unfold m_X5_setLink
      rw [if_neg w2]; rfl
    have r4 : ∀ v, st T 14 0 v 14 1 = T 14 1 := fun v => by rw [st_col _ _ _ (by omega)]
    refine Or.inr ⟨st S 20 23 (nI (B (a + 1))), st (st T 14 0 (nI (B (a + 1)))) 14 1 (T 14 1), d, pl, ?_, ⟨fun k h => by simp [st, show k ≠ 20 by omega, show k ≠ 15 by omega], fun j h1 h2 => by simp [st_at, show j ≠ 7 by omega, show j ≠ 8 by omega, show j ≠ 23 by omega, show j ≠ 24 by omega]⟩, (fun k h1 h2 h3 => by simp [st, h1, h2, h3]), ?_, ?_, by omega⟩
    · unfold m_X5_follow
      rw [hf, some_bind', nI_1, hv, some_bind']
      simp only [n0, n1, n2, n3, n4, n5, n6, n7, n8, n9, n10, n11, n12, n13, n14, l63, l127, l191, m128, m131, m192, m195, if_true, if_false, some_bind', bz0, bz1, hsl]
    · intro k62
      unfold m_X9_readProgram_L128
      rw [z0]
      have u1 : (nI a + nI 1 < nI to) = True := eq_true (by rw [nI_add]; exact nI_lt (by omega) (by omega))
      have u2 : (nI 1 ≤ (0 : Int32)) = False := eq_false (by decide)
      have u3 : (inb (nI (a + 1)) 6000 = true) = True := eq_true (inb_nI (by omega) (by omega))
      have u4 : (nI (a + 1)).toNatClampNeg = a + 1 := nI_cl (by omega)
      simp only [u1, u2, u3, u4, nI_1, (hB.2.2.2 (a + 1)).2.1, n0, n1, n2, n3, n4, n5, n6, n7, n8, n9, n10, n11, n12, n13, n14, l63, l127, l191, m128, m131, m192, m195, if_true, if_false]
      unfold m_X9_readProgram_L214 m_X9_readProgram_L337
      simp only [n0, n1, n2, n3, n4, n5, n6, n7, n8, n9, n10, n11, n12, n13, n14, l63, l127, l191, m128, m131, m192, m195, if_true, if_false, y1, y2, y3, y4, w1, r4]
    · obtain ⟨z1, z2, z3, z4, z5⟩ := q1
      refine ⟨⟨?_, ?_, ?_, ?_, ?_⟩, q2.congr ?_ ?_ ?_ ?_, q3.congr (fun j hj => ?_) (fun k h1 h2 => ?_) q5 ?_, ?_, q5, ?_, ?_, (q8.s (byteN (hB.2.2.2 (a + 1)).2.2) 0).s (q8.1 1 (by omega)) 1⟩
      · simp [st_at, z1]
      · simp [st_at, z2]
      · simp [st_at, z3]
      · simp [st_at, z4]
      · simp [st_at, z5]
      · simp [st_at]
      · simp [st_at]
      · simp [st]
      · simp [st]
      · simp [st_at, show j ≠ 23 by omega, show j ≠ 24 by omega]
      · simp [st, show k ≠ 20 by omega, show k ≠ 15 by omega]
      · simp [st]
      · simp [st_at, q4]
      · simp [st_at, q6]
      · simp [st_at, q7]
  · have w1 : (nI (B (a + 1)) ≤ (1 : Int32)) = False := eq_false (nI_ge (a := 1) (by omega) (by omega))
    have w2 : (1 : Int32) < nI (B (a + 1)) := nI_lt (a := 1) (by omega) (by omega)
    have hsl : m_X5_setLink (nI (B (a + 1))) (S) = some (0, st (S) 20 23 (nI (B (a + 1)))) := by
      unfold m_X5_setLink
      rw [if_pos w2]; rfl
    refine Or.inl ⟨st S 20 23 (nI (B (a + 1))), ?_, ⟨fun k h => by simp [st, show k ≠ 20 by omega, show k ≠ 15 by omega], fun j h1 h2 => by simp [st_at, show j ≠ 7 by omega, show j ≠ 8 by omega, show j ≠ 23 by omega, show j ≠ 24 by omega]⟩, ?_⟩
    · unfold m_X5_follow
      rw [hf, some_bind', nI_1, hv, some_bind']
      simp only [n0, n1, n2, n3, n4, n5, n6, n7, n8, n9, n10, n11, n12, n13, n14, l63, l127, l191, m128, m131, m192, m195, if_true, if_false, some_bind', bz0, bz1, hsl]
    · intro k62
      unfold m_X9_readProgram_L128
      rw [z0]
      have u1 : (nI a + nI 1 < nI to) = True := eq_true (by rw [nI_add]; exact nI_lt (by omega) (by omega))
      have u2 : (nI 1 ≤ (0 : Int32)) = False := eq_false (by decide)
      have u3 : (inb (nI (a + 1)) 6000 = true) = True := eq_true (inb_nI (by omega) (by omega))
      have u4 : (nI (a + 1)).toNatClampNeg = a + 1 := nI_cl (by omega)
      simp only [u1, u2, u3, u4, nI_1, (hB.2.2.2 (a + 1)).2.1, n0, n1, n2, n3, n4, n5, n6, n7, n8, n9, n10, n11, n12, n13, n14, l63, l127, l191, m128, m131, m192, m195, if_true, if_false]
      unfold m_X9_readProgram_L214 m_X9_readProgram_L337
      simp only [n0, n1, n2, n3, n4, n5, n6, n7, n8, n9, n10, n11, n12, n13, n14, l63, l127, l191, m128, m131, m192, m195, if_true, if_false, y1, y2, y3, y4, bz0, w1]
theorem fs14 {S T : St} {n : Nat} {B : Nat → Nat} (hB : SB S T n B) {a to pl d x3 x4 : Nat} (w : Int32) (hQ : QR S T d pl (x3 + x4)) (hp : pl ≤ 1000) (h3 : x3 ≤ 255) (h4 : x4 ≤ 255) (hb : B a = 14) (ha : a + 2 ≤ to) (ht : to ≤ n) : FS S T a to pl d x3 x4 14 w := by
  obtain ⟨q1, q2, q3, q4, q5, q6, q7, q8⟩ := id hQ
  have hn := hB.1
  have g0 := (hB.2.2.2 a).2.1
  have g1 := (hB.2.2.2 (a + 1)).2
  have g2 := (hB.2.2.2 (a + 2)).2
  obtain ⟨v, hv⟩ := byA hB (j := a + 1) (by omega)
  have z0 : nI (psz 14 - 1) = nI 1 := rfl
  have hf : m_X7_byteAt (nI a) S = some (nI 14, S) := by rw [byt hB (by omega), hb]
  have hv : m_X7_byteAt (nI (a + 1)) S = some (nI (B (a + 1)), S) := byt hB (by omega)
  have n0 : (nI 14 = (0 : Int32)) = False := eq_false (by decide)
  have n1 : (nI 14 = (1 : Int32)) = False := eq_false (by decide)
  have n2 : (nI 14 = (2 : Int32)) = False := eq_false (by decide)
  have n3 : (nI 14 = (3 : Int32)) = False := eq_false (by decide)
  have n4 : (nI 14 = (4 : Int32)) = False := eq_false (by decide)
  have n5 : (nI 14 = (5 : Int32)) = False := eq_false (by decide)
  have n6 : (nI 14 = (6 : Int32)) = False := eq_false (by decide)
  have n7 : (nI 14 = (7 : Int32)) = False := eq_false (by decide)
  have n8 : (nI 14 = (8 : Int32)) = False := eq_false (by decide)
  have n9 : (nI 14 = (9 : Int32)) = False := eq_false (by decide)
  have n10 : (nI 14 = (10 : Int32)) = False := eq_false (by decide)
  have n11 : (nI 14 = (11 : Int32)) = False := eq_false (by decide)
  have n12 : (nI 14 = (12 : Int32)) = False := eq_false (by decide)
  have n13 : (nI 14 = (13 : Int32)) = False := eq_false (by decide)
  have n14 : (nI 14 = (14 : Int32)) = True := eq_true rfl
  have l63 : (nI 14 ≤ (63 : Int32)) = True := eq_true (by decide)
  have l127 : (nI 14 ≤ (127 : Int32)) = True := eq_true (by decide)
  have l191 : (nI 14 ≤ (191 : Int32)) = True := eq_true (by decide)
  have m128 : ((128 : Int32) ≤ nI 14) = False := eq_false (by decide)
  have m131 : ((131 : Int32) ≤ nI 14) = False := eq_false (by decide)
  have m192 : ((192 : Int32) ≤ nI 14) = False := eq_false (by decide)
  have m195 : ((195 : Int32) ≤ nI 14) = False := eq_false (by decide)
  have y1 : (inb (0 : Int32) 5 = true) = True := eq_true (by decide)
  have y2 : (inb (1 : Int32) 5 = true) = True := eq_true (by decide)
  have y3 : (0 : Int32).toNatClampNeg = 0 := by decide
  have y4 : (1 : Int32).toNatClampNeg = 1 := by decide
  refine Or.inr ⟨st S 20 24 (nI (B (a + 1))), st T 14 1 (nI (B (a + 1))), d, pl, ?_, ⟨fun k h => by simp [st, show k ≠ 20 by omega, show k ≠ 15 by omega], fun j h1 h2 => by simp [st_at, show j ≠ 7 by omega, show j ≠ 8 by omega, show j ≠ 23 by omega, show j ≠ 24 by omega]⟩, (fun k h1 h2 h3 => by simp [st, h1, h2, h3]), ?_, ?_, by omega⟩
  · unfold m_X5_follow
    rw [hf, some_bind', nI_1, hv, some_bind']
    simp only [n0, n1, n2, n3, n4, n5, n6, n7, n8, n9, n10, n11, n12, n13, n14, l63, l127, l191, m128, m131, m192, m195, if_true, if_false, some_bind', bz0, bz1]
  · intro k62
    unfold m_X9_readProgram_L128
    rw [z0]
    have u1 : (nI a + nI 1 < nI to) = True := eq_true (by rw [nI_add]; exact nI_lt (by omega) (by omega))
    have u2 : (nI 1 ≤ (0 : Int32)) = False := eq_false (by decide)
    have u3 : (inb (nI (a + 1)) 6000 = true) = True := eq_true (inb_nI (by omega) (by omega))
    have u4 : (nI (a + 1)).toNatClampNeg = a + 1 := nI_cl (by omega)
    simp only [u1, u2, u3, u4, nI_1, (hB.2.2.2 (a + 1)).2.1, n0, n1, n2, n3, n4, n5, n6, n7, n8, n9, n10, n11, n12, n13, n14, l63, l127, l191, m128, m131, m192, m195, if_true, if_false]
    unfold m_X9_readProgram_L214
    simp only [n0, n1, n2, n3, n4, n5, n6, n7, n8, n9, n10, n11, n12, n13, n14, l63, l127, l191, m128, m131, m192, m195, if_true, if_false, y1, y2, y3, y4]
  · obtain ⟨z1, z2, z3, z4, z5⟩ := q1
    refine ⟨⟨?_, ?_, ?_, ?_, ?_⟩, q2.congr ?_ ?_ ?_ ?_, q3.congr (fun j hj => ?_) (fun k h1 h2 => ?_) q5 ?_, ?_, q5, ?_, ?_, q8.s (byteN (hB.2.2.2 (a + 1)).2.2) 1⟩
    · simp [st_at, z1]
    · simp [st_at, z2]
    · simp [st_at, z3]
    · simp [st_at, z4]
    · simp [st_at, z5]
    · simp [st_at]
    · simp [st_at]
    · simp [st]
    · simp [st]
    · simp [st_at, show j ≠ 23 by omega, show j ≠ 24 by omega]
    · simp [st, show k ≠ 20 by omega, show k ≠ 15 by omega]
    · simp [st]
    · simp [st_at, q4]
    · simp [st_at, q6]
    · simp [st_at, q7]
theorem fs128 {S T : St} {n : Nat} {B : Nat → Nat} (hB : SB S T n B) {a to pl d x3 x4 : Nat} (w : Int32) (hQ : QR S T d pl (x3 + x4)) (hp : pl ≤ 1000) (h3 : x3 ≤ 255) (h4 : x4 ≤ 255) (hb : B a = 128) (ha : a + 2 ≤ to) (ht : to ≤ n) : FS S T a to pl d x3 x4 128 w := by
  obtain ⟨q1, q2, q3, q4, q5, q6, q7, q8⟩ := id hQ
  have hn := hB.1
  have g0 := (hB.2.2.2 a).2.1
  have g1 := (hB.2.2.2 (a + 1)).2
  have g2 := (hB.2.2.2 (a + 2)).2
  obtain ⟨v, hv⟩ := byA hB (j := a + 1) (by omega)
  have z0 : nI (psz 128 - 1) = nI 1 := rfl
  have hf : m_X7_byteAt (nI a) S = some (nI 128, S) := by rw [byt hB (by omega), hb]
  have hv : m_X7_byteAt (nI (a + 1)) S = some (nI (B (a + 1)), S) := byt hB (by omega)
  have n0 : (nI 128 = (0 : Int32)) = False := eq_false (by decide)
  have n1 : (nI 128 = (1 : Int32)) = False := eq_false (by decide)
  have n2 : (nI 128 = (2 : Int32)) = False := eq_false (by decide)
  have n3 : (nI 128 = (3 : Int32)) = False := eq_false (by decide)
  have n4 : (nI 128 = (4 : Int32)) = False := eq_false (by decide)
  have n5 : (nI 128 = (5 : Int32)) = False := eq_false (by decide)
  have n6 : (nI 128 = (6 : Int32)) = False := eq_false (by decide)
  have n7 : (nI 128 = (7 : Int32)) = False := eq_false (by decide)
  have n8 : (nI 128 = (8 : Int32)) = False := eq_false (by decide)
  have n9 : (nI 128 = (9 : Int32)) = False := eq_false (by decide)
  have n10 : (nI 128 = (10 : Int32)) = False := eq_false (by decide)
  have n11 : (nI 128 = (11 : Int32)) = False := eq_false (by decide)
  have n12 : (nI 128 = (12 : Int32)) = False := eq_false (by decide)
  have n13 : (nI 128 = (13 : Int32)) = False := eq_false (by decide)
  have n14 : (nI 128 = (14 : Int32)) = False := eq_false (by decide)
  have l63 : (nI 128 ≤ (63 : Int32)) = False := eq_false (by decide)
  have l127 : (nI 128 ≤ (127 : Int32)) = False := eq_false (by decide)
  have l191 : (nI 128 ≤ (191 : Int32)) = True := eq_true (by decide)
  have m128 : ((128 : Int32) ≤ nI 128) = True := eq_true (by decide)
  have m131 : ((131 : Int32) ≤ nI 128) = False := eq_false (by decide)
  have m192 : ((192 : Int32) ≤ nI 128) = False := eq_false (by decide)
  have m195 : ((195 : Int32) ≤ nI 128) = False := eq_false (by decide)
  have y1 : (inb (0 : Int32) 5 = true) = True := eq_true (by decide)
  have y2 : (inb (1 : Int32) 5 = true) = True := eq_true (by decide)
  have y3 : (0 : Int32).toNatClampNeg = 0 := by decide
  have y4 : (1 : Int32).toNatClampNeg = 1 := by decide
  have hfr : m_X5_followRange (nI 128) (nI (B (a + 1))) S = some (1, st S 15 0 (nI (B (a + 1)))) := by
    unfold m_X5_followRange
    rw [if_pos (show (128 : Int32) ≤ nI 128 by decide), if_neg (show ¬ (192 : Int32) ≤ nI 128 by decide), if_pos (show inb (nI 128 - 128) 3 = true by decide), show (nI 128 - (128 : Int32)).toNatClampNeg = 0 by decide]
    rfl
  have r1 : (inb (nI 128 - (126 : Int32)) 5 = true) = True := eq_true (by decide)
  have r2 : (nI 128 - (126 : Int32)).toNatClampNeg = 2 := by decide
  refine Or.inr ⟨st S 15 0 (nI (B (a + 1))), st T 14 2 (nI (B (a + 1))), d, pl, ?_, ⟨fun k h => by simp [st, show k ≠ 20 by omega, show k ≠ 15 by omega], fun j h1 h2 => by simp [st_at, show j ≠ 7 by omega, show j ≠ 8 by omega, show j ≠ 23 by omega, show j ≠ 24 by omega]⟩, (fun k h1 h2 h3 => by simp [st, h1, h2, h3]), ?_, ?_, by omega⟩
  · unfold m_X5_follow
    rw [hf, some_bind', nI_1, hv, some_bind']
    simp only [n0, n1, n2, n3, n4, n5, n6, n7, n8, n9, n10, n11, n12, n13, n14, l63, l127, l191, m128, m131, m192, m195, if_true, if_false, some_bind', bz0, bz1, hfr]
  · intro k62
    unfold m_X9_readProgram_L128
    rw [z0]
    have u1 : (nI a + nI 1 < nI to) = True := eq_true (by rw [nI_add]; exact nI_lt (by omega) (by omega))
    have u2 : (nI 1 ≤ (0 : Int32)) = False := eq_false (by decide)
    have u3 : (inb (nI (a + 1)) 6000 = true) = True := eq_true (inb_nI (by omega) (by omega))
    have u4 : (nI (a + 1)).toNatClampNeg = a + 1 := nI_cl (by omega)
    simp only [u1, u2, u3, u4, nI_1, (hB.2.2.2 (a + 1)).2.1, n0, n1, n2, n3, n4, n5, n6, n7, n8, n9, n10, n11, n12, n13, n14, l63, l127, l191, m128, m131, m192, m195, if_true, if_false]
    unfold m_X9_readProgram_L214
    simp only [n0, n1, n2, n3, n4, n5, n6, n7, n8, n9, n10, n11, n12, n13, n14, l63, l127, l191, m128, m131, m192, m195, if_true, if_false, y1, y2, y3, y4, r1, r2]
  · obtain ⟨z1, z2, z3, z4, z5⟩ := q1
    refine ⟨⟨?_, ?_, ?_, ?_, ?_⟩, q2.congr ?_ ?_ ?_ ?_, q3.congr (fun j hj => ?_) (fun k h1 h2 => ?_) q5 ?_, ?_, q5, ?_, ?_, q8.s (byteN (hB.2.2.2 (a + 1)).2.2) 2⟩
    · simp [st_at, z1]
    · simp [st_at, z2]
    · simp [st_at, z3]
    · simp [st_at, z4]
    · simp [st_at, z5]
    · simp [st_at]
    · simp [st_at]
    · simp [st]
    · simp [st]
    · simp [st_at, show j ≠ 23 by omega, show j ≠ 24 by omega]
    · simp [st, show k ≠ 20 by omega, show k ≠ 15 by omega]
    · simp [st]
    · simp [st_at, q4]
    · simp [st_at, q6]
    · simp [st_at, q7]
theorem fs129 {S T : St} {n : Nat} {B : Nat → Nat} (hB : SB S T n B) {a to pl d x3 x4 : Nat} (w : Int32) (hQ : QR S T d pl (x3 + x4)) (hp : pl ≤ 1000) (h3 : x3 ≤ 255) (h4 : x4 ≤ 255) (hb : B a = 129) (ha : a + 2 ≤ to) (ht : to ≤ n) : FS S T a to pl d x3 x4 129 w := by
  obtain ⟨q1, q2, q3, q4, q5, q6, q7, q8⟩ := id hQ
  have hn := hB.1
  have g0 := (hB.2.2.2 a).2.1
  have g1 := (hB.2.2.2 (a + 1)).2
  have g2 := (hB.2.2.2 (a + 2)).2
  obtain ⟨v, hv⟩ := byA hB (j := a + 1) (by omega)
  have z0 : nI (psz 129 - 1) = nI 1 := rfl
  have hf : m_X7_byteAt (nI a) S = some (nI 129, S) := by rw [byt hB (by omega), hb]
  have hv : m_X7_byteAt (nI (a + 1)) S = some (nI (B (a + 1)), S) := byt hB (by omega)
  have n0 : (nI 129 = (0 : Int32)) = False := eq_false (by decide)
  have n1 : (nI 129 = (1 : Int32)) = False := eq_false (by decide)
  have n2 : (nI 129 = (2 : Int32)) = False := eq_false (by decide)
  have n3 : (nI 129 = (3 : Int32)) = False := eq_false (by decide)
  have n4 : (nI 129 = (4 : Int32)) = False := eq_false (by decide)
  have n5 : (nI 129 = (5 : Int32)) = False := eq_false (by decide)
  have n6 : (nI 129 = (6 : Int32)) = False := eq_false (by decide)
  have n7 : (nI 129 = (7 : Int32)) = False := eq_false (by decide)
  have n8 : (nI 129 = (8 : Int32)) = False := eq_false (by decide)
  have n9 : (nI 129 = (9 : Int32)) = False := eq_false (by decide)
  have n10 : (nI 129 = (10 : Int32)) = False := eq_false (by decide)
  have n11 : (nI 129 = (11 : Int32)) = False := eq_false (by decide)
  have n12 : (nI 129 = (12 : Int32)) = False := eq_false (by decide)
  have n13 : (nI 129 = (13 : Int32)) = False := eq_false (by decide)
  have n14 : (nI 129 = (14 : Int32)) = False := eq_false (by decide)
  have l63 : (nI 129 ≤ (63 : Int32)) = False := eq_false (by decide)
  have l127 : (nI 129 ≤ (127 : Int32)) = False := eq_false (by decide)
  have l191 : (nI 129 ≤ (191 : Int32)) = True := eq_true (by decide)
  have m128 : ((128 : Int32) ≤ nI 129) = True := eq_true (by decide)
  have m131 : ((131 : Int32) ≤ nI 129) = False := eq_false (by decide)
  have m192 : ((192 : Int32) ≤ nI 129) = False := eq_false (by decide)
  have m195 : ((195 : Int32) ≤ nI 129) = False := eq_false (by decide)
  have y1 : (inb (0 : Int32) 5 = true) = True := eq_true (by decide)
  have y2 : (inb (1 : Int32) 5 = true) = True := eq_true (by decide)
  have y3 : (0 : Int32).toNatClampNeg = 0 := by decide
  have y4 : (1 : Int32).toNatClampNeg = 1 := by decide
  have hfr : m_X5_followRange (nI 129) (nI (B (a + 1))) S = some (1, st S 15 1 (nI (B (a + 1)))) := by
    unfold m_X5_followRange
    rw [if_pos (show (128 : Int32) ≤ nI 129 by decide), if_neg (show ¬ (192 : Int32) ≤ nI 129 by decide), if_pos (show inb (nI 129 - 128) 3 = true by decide), show (nI 129 - (128 : Int32)).toNatClampNeg = 1 by decide]
    rfl
  have r1 : (inb (nI 129 - (126 : Int32)) 5 = true) = True := eq_true (by decide)
  have r2 : (nI 129 - (126 : Int32)).toNatClampNeg = 3 := by decide
  refine Or.inr ⟨st S 15 1 (nI (B (a + 1))), st T 14 3 (nI (B (a + 1))), d, pl, ?_, ⟨fun k h => by simp [st, show k ≠ 20 by omega, show k ≠ 15 by omega], fun j h1 h2 => by simp [st_at, show j ≠ 7 by omega, show j ≠ 8 by omega, show j ≠ 23 by omega, show j ≠ 24 by omega]⟩, (fun k h1 h2 h3 => by simp [st, h1, h2, h3]), ?_, ?_, by omega⟩
  · unfold m_X5_follow
    rw [hf, some_bind', nI_1, hv, some_bind']
    simp only [n0, n1, n2, n3, n4, n5, n6, n7, n8, n9, n10, n11, n12, n13, n14, l63, l127, l191, m128, m131, m192, m195, if_true, if_false, some_bind', bz0, bz1, hfr]
  · intro k62
    unfold m_X9_readProgram_L128
    rw [z0]
    have u1 : (nI a + nI 1 < nI to) = True := eq_true (by rw [nI_add]; exact nI_lt (by omega) (by omega))
    have u2 : (nI 1 ≤ (0 : Int32)) = False := eq_false (by decide)
    have u3 : (inb (nI (a + 1)) 6000 = true) = True := eq_true (inb_nI (by omega) (by omega))
    have u4 : (nI (a + 1)).toNatClampNeg = a + 1 := nI_cl (by omega)
    simp only [u1, u2, u3, u4, nI_1, (hB.2.2.2 (a + 1)).2.1, n0, n1, n2, n3, n4, n5, n6, n7, n8, n9, n10, n11, n12, n13, n14, l63, l127, l191, m128, m131, m192, m195, if_true, if_false]
    unfold m_X9_readProgram_L214
    simp only [n0, n1, n2, n3, n4, n5, n6, n7, n8, n9, n10, n11, n12, n13, n14, l63, l127, l191, m128, m131, m192, m195, if_true, if_false, y1, y2, y3, y4, r1, r2]
  · obtain ⟨z1, z2, z3, z4, z5⟩ := q1
    refine ⟨⟨?_, ?_, ?_, ?_, ?_⟩, q2.congr ?_ ?_ ?_ ?_, q3.congr (fun j hj => ?_) (fun k h1 h2 => ?_) q5 ?_, ?_, q5, ?_, ?_, q8.s (byteN (hB.2.2.2 (a + 1)).2.2) 3⟩
    · simp [st_at, z1]
    · simp [st_at, z2]
    · simp [st_at, z3]
    · simp [st_at, z4]
    · simp [st_at, z5]
    · simp [st_at]
    · simp [st_at]
    · simp [st]
    · simp [st]
    · simp [st_at, show j ≠ 23 by omega, show j ≠ 24 by omega]
    · simp [st, show k ≠ 20 by omega, show k ≠ 15 by omega]
    · simp [st]
    · simp [st_at, q4]
    · simp [st_at, q6]
    · simp [st_at, q7]
theorem fs130 {S T : St} {n : Nat} {B : Nat → Nat} (hB : SB S T n B) {a to pl d x3 x4 : Nat} (w : Int32) (hQ : QR S T d pl (x3 + x4)) (hp : pl ≤ 1000) (h3 : x3 ≤ 255) (h4 : x4 ≤ 255) (hb : B a = 130) (ha : a + 2 ≤ to) (ht : to ≤ n) : FS S T a to pl d x3 x4 130 w := by
  obtain ⟨q1, q2, q3, q4, q5, q6, q7, q8⟩ := id hQ
  have hn := hB.1
  have g0 := (hB.2.2.2 a).2.1
  have g1 := (hB.2.2.2 (a + 1)).2
  have g2 := (hB.2.2.2 (a + 2)).2
  obtain ⟨v, hv⟩ := byA hB (j := a + 1) (by omega)
  have z0 : nI (psz 130 - 1) = nI 1 := rfl
  have hf : m_X7_byteAt (nI a) S = some (nI 130, S) := by rw [byt hB (by omega), hb]
  have hv : m_X7_byteAt (nI (a + 1)) S = some (nI (B (a + 1)), S) := byt hB (by omega)
  have n0 : (nI 130 = (0 : Int32)) = False := eq_false (by decide)
  have n1 : (nI 130 = (1 : Int32)) = False := eq_false (by decide)
  have n2 : (nI 130 = (2 : Int32)) = False := eq_false (by decide)
  have n3 : (nI 130 = (3 : Int32)) = False := eq_false (by decide)
  have n4 : (nI 130 = (4 : Int32)) = False := eq_false (by decide)
  have n5 : (nI 130 = (5 : Int32)) = False := eq_false (by decide)
  have n6 : (nI 130 = (6 : Int32)) = False := eq_false (by decide)
  have n7 : (nI 130 = (7 : Int32)) = False := eq_false (by decide)
  have n8 : (nI 130 = (8 : Int32)) = False := eq_false (by decide)
  have n9 : (nI 130 = (9 : Int32)) = False := eq_false (by decide)
  have n10 : (nI 130 = (10 : Int32)) = False := eq_false (by decide)
  have n11 : (nI 130 = (11 : Int32)) = False := eq_false (by decide)
  have n12 : (nI 130 = (12 : Int32)) = False := eq_false (by decide)
  have n13 : (nI 130 = (13 : Int32)) = False := eq_false (by decide)
  have n14 : (nI 130 = (14 : Int32)) = False := eq_false (by decide)
  have l63 : (nI 130 ≤ (63 : Int32)) = False := eq_false (by decide)
  have l127 : (nI 130 ≤ (127 : Int32)) = False := eq_false (by decide)
  have l191 : (nI 130 ≤ (191 : Int32)) = True := eq_true (by decide)
  have m128 : ((128 : Int32) ≤ nI 130) = True := eq_true (by decide)
  have m131 : ((131 : Int32) ≤ nI 130) = False := eq_false (by decide)
  have m192 : ((192 : Int32) ≤ nI 130) = False := eq_false (by decide)
  have m195 : ((195 : Int32) ≤ nI 130) = False := eq_false (by decide)
  have y1 : (inb (0 : Int32) 5 = true) = True := eq_true (by decide)
  have y2 : (inb (1 : Int32) 5 = true) = True := eq_true (by decide)
  have y3 : (0 : Int32).toNatClampNeg = 0 := by decide
  have y4 : (1 : Int32).toNatClampNeg = 1 := by decide
  have hfr : m_X5_followRange (nI 130) (nI (B (a + 1))) S = some (1, st S 15 2 (nI (B (a + 1)))) := by
    unfold m_X5_followRange
    rw [if_pos (show (128 : Int32) ≤ nI 130 by decide), if_neg (show ¬ (192 : Int32) ≤ nI 130 by decide), if_pos (show inb (nI 130 - 128) 3 = true by decide), show (nI 130 - (128 : Int32)).toNatClampNeg = 2 by decide]
    rfl
  have r1 : (inb (nI 130 - (126 : Int32)) 5 = true) = True := eq_true (by decide)
  have r2 : (nI 130 - (126 : Int32)).toNatClampNeg = 4 := by decide
  refine Or.inr ⟨st S 15 2 (nI (B (a + 1))), st T 14 4 (nI (B (a + 1))), d, pl, ?_, ⟨fun k h => by simp [st, show k ≠ 20 by omega, show k ≠ 15 by omega], fun j h1 h2 => by simp [st_at, show j ≠ 7 by omega, show j ≠ 8 by omega, show j ≠ 23 by omega, show j ≠ 24 by omega]⟩, (fun k h1 h2 h3 => by simp [st, h1, h2, h3]), ?_, ?_, by omega⟩
  · unfold m_X5_follow
    rw [hf, some_bind', nI_1, hv, some_bind']
    simp only [n0, n1, n2, n3, n4, n5, n6, n7, n8, n9, n10, n11, n12, n13, n14, l63, l127, l191, m128, m131, m192, m195, if_true, if_false, some_bind', bz0, bz1, hfr]
  · intro k62
    unfold m_X9_readProgram_L128
    rw [z0]
    have u1 : (nI a + nI 1 < nI to) = True := eq_true (by rw [nI_add]; exact nI_lt (by omega) (by omega))
    have u2 : (nI 1 ≤ (0 : Int32)) = False := eq_false (by decide)
    have u3 : (inb (nI (a + 1)) 6000 = true) = True := eq_true (inb_nI (by omega) (by omega))
    have u4 : (nI (a + 1)).toNatClampNeg = a + 1 := nI_cl (by omega)
    simp only [u1, u2, u3, u4, nI_1, (hB.2.2.2 (a + 1)).2.1, n0, n1, n2, n3, n4, n5, n6, n7, n8, n9, n10, n11, n12, n13, n14, l63, l127, l191, m128, m131, m192, m195, if_true, if_false]
    unfold m_X9_readProgram_L214
    simp only [n0, n1, n2, n3, n4, n5, n6, n7, n8, n9, n10, n11, n12, n13, n14, l63, l127, l191, m128, m131, m192, m195, if_true, if_false, y1, y2, y3, y4, r1, r2]
  · obtain ⟨z1, z2, z3, z4, z5⟩ := q1
    refine ⟨⟨?_, ?_, ?_, ?_, ?_⟩, q2.congr ?_ ?_ ?_ ?_, q3.congr (fun j hj => ?_) (fun k h1 h2 => ?_) q5 ?_, ?_, q5, ?_, ?_, q8.s (byteN (hB.2.2.2 (a + 1)).2.2) 4⟩
    · simp [st_at, z1]
    · simp [st_at, z2]
    · simp [st_at, z3]
    · simp [st_at, z4]
    · simp [st_at, z5]
    · simp [st_at]
    · simp [st_at]
    · simp [st]
    · simp [st]
    · simp [st_at, show j ≠ 23 by omega, show j ≠ 24 by omega]
    · simp [st, show k ≠ 20 by omega, show k ≠ 15 by omega]
    · simp [st]
    · simp [st_at, q4]
    · simp [st_at, q6]
    · simp [st_at, q7]
theorem fs192 {S T : St} {n : Nat} {B : Nat → Nat} (hB : SB S T n B) {a to pl d x3 x4 : Nat} (w : Int32) (hQ : QR S T d pl (x3 + x4)) (hp : pl ≤ 1000) (h3 : x3 ≤ 255) (h4 : x4 ≤ 255) (hb : B a = 192) (ha : a + 1 ≤ to) (ht : to ≤ n) : FS S T a to pl d x3 x4 192 w := by
  obtain ⟨q1, q2, q3, q4, q5, q6, q7, q8⟩ := id hQ
  have hn := hB.1
  have g0 := (hB.2.2.2 a).2.1
  have g1 := (hB.2.2.2 (a + 1)).2
  have g2 := (hB.2.2.2 (a + 2)).2
  obtain ⟨v, hv⟩ := byA hB (j := a + 1) (by omega)
  have z0 : nI (psz 192 - 1) = nI 0 := rfl
  have hf : m_X7_byteAt (nI a) S = some (nI 192, S) := by rw [byt hB (by omega), hb]
  have n0 : (nI 192 = (0 : Int32)) = False := eq_false (by decide)
  have n1 : (nI 192 = (1 : Int32)) = False := eq_false (by decide)
  have n2 : (nI 192 = (2 : Int32)) = False := eq_false (by decide)
  have n3 : (nI 192 = (3 : Int32)) = False := eq_false (by decide)
  have n4 : (nI 192 = (4 : Int32)) = False := eq_false (by decide)
  have n5 : (nI 192 = (5 : Int32)) = False := eq_false (by decide)
  have n6 : (nI 192 = (6 : Int32)) = False := eq_false (by decide)
  have n7 : (nI 192 = (7 : Int32)) = False := eq_false (by decide)
  have n8 : (nI 192 = (8 : Int32)) = False := eq_false (by decide)
  have n9 : (nI 192 = (9 : Int32)) = False := eq_false (by decide)
  have n10 : (nI 192 = (10 : Int32)) = False := eq_false (by decide)
  have n11 : (nI 192 = (11 : Int32)) = False := eq_false (by decide)
  have n12 : (nI 192 = (12 : Int32)) = False := eq_false (by decide)
  have n13 : (nI 192 = (13 : Int32)) = False := eq_false (by decide)
  have n14 : (nI 192 = (14 : Int32)) = False := eq_false (by decide)
  have l63 : (nI 192 ≤ (63 : Int32)) = False := eq_false (by decide)
  have l127 : (nI 192 ≤ (127 : Int32)) = False := eq_false (by decide)
  have l191 : (nI 192 ≤ (191 : Int32)) = False := eq_false (by decide)
  have m128 : ((128 : Int32) ≤ nI 192) = True := eq_true (by decide)
  have m131 : ((131 : Int32) ≤ nI 192) = True := eq_true (by decide)
  have m192 : ((192 : Int32) ≤ nI 192) = True := eq_true (by decide)
  have m195 : ((195 : Int32) ≤ nI 192) = False := eq_false (by decide)
  have y1 : (inb (0 : Int32) 5 = true) = True := eq_true (by decide)
  have y2 : (inb (1 : Int32) 5 = true) = True := eq_true (by decide)
  have y3 : (0 : Int32).toNatClampNeg = 0 := by decide
  have y4 : (1 : Int32).toNatClampNeg = 1 := by decide
  have hfr : m_X5_followRange (nI 192) v S = some (1, st S 15 0 0) := by
    unfold m_X5_followRange
    rw [if_pos (show (128 : Int32) ≤ nI 192 by decide), if_pos (show (192 : Int32) ≤ nI 192 by decide), if_pos (show inb (nI 192 - 192) 3 = true by decide), show (nI 192 - (192 : Int32)).toNatClampNeg = 0 by decide]
    rfl
  have r1 : (inb (nI 192 - (190 : Int32)) 5 = true) = True := eq_true (by decide)
  have r2 : (nI 192 - (190 : Int32)).toNatClampNeg = 2 := by decide
  refine Or.inr ⟨st S 15 0 0, st T 14 2 0, d, pl, ?_, ⟨fun k h => by simp [st, show k ≠ 20 by omega, show k ≠ 15 by omega], fun j h1 h2 => by simp [st_at, show j ≠ 7 by omega, show j ≠ 8 by omega, show j ≠ 23 by omega, show j ≠ 24 by omega]⟩, (fun k h1 h2 h3 => by simp [st, h1, h2, h3]), ?_, ?_, by omega⟩
  · unfold m_X5_follow
    rw [hf, some_bind', nI_1, hv, some_bind']
    simp only [n0, n1, n2, n3, n4, n5, n6, n7, n8, n9, n10, n11, n12, n13, n14, l63, l127, l191, m128, m131, m192, m195, if_true, if_false, some_bind', bz0, bz1, hfr]
  · intro k62
    unfold m_X9_readProgram_L128
    rw [z0]
    have u1 : (nI a + nI 0 < nI to) = True := eq_true (by rw [nI_add]; exact nI_lt (by omega) (by omega))
    have u2 : (nI 0 ≤ (0 : Int32)) = True := eq_true (by decide)
    simp only [u1, u2, n0, n1, n2, n3, n4, n5, n6, n7, n8, n9, n10, n11, n12, n13, n14, l63, l127, l191, m128, m131, m192, m195, if_true, if_false]
    unfold m_X9_readProgram_L214 m_X9_readProgram_L435
    simp only [n0, n1, n2, n3, n4, n5, n6, n7, n8, n9, n10, n11, n12, n13, n14, l63, l127, l191, m128, m131, m192, m195, if_true, if_false, y1, y2, y3, y4, r1, r2]
  · obtain ⟨z1, z2, z3, z4, z5⟩ := q1
    refine ⟨⟨?_, ?_, ?_, ?_, ?_⟩, q2.congr ?_ ?_ ?_ ?_, q3.congr (fun j hj => ?_) (fun k h1 h2 => ?_) q5 ?_, ?_, q5, ?_, ?_, q8.s (byteN (n := 0) (by omega)) 2⟩
    · simp [st_at, z1]
    · simp [st_at, z2]
    · simp [st_at, z3]
    · simp [st_at, z4]
    · simp [st_at, z5]
    · simp [st_at]
    · simp [st_at]
    · simp [st]
    · simp [st]
    · simp [st_at, show j ≠ 23 by omega, show j ≠ 24 by omega]
    · simp [st, show k ≠ 20 by omega, show k ≠ 15 by omega]
    · simp [st]
    · simp [st_at, q4]
    · simp [st_at, q6]
    · simp [st_at, q7]
theorem fs193 {S T : St} {n : Nat} {B : Nat → Nat} (hB : SB S T n B) {a to pl d x3 x4 : Nat} (w : Int32) (hQ : QR S T d pl (x3 + x4)) (hp : pl ≤ 1000) (h3 : x3 ≤ 255) (h4 : x4 ≤ 255) (hb : B a = 193) (ha : a + 1 ≤ to) (ht : to ≤ n) : FS S T a to pl d x3 x4 193 w := by
  obtain ⟨q1, q2, q3, q4, q5, q6, q7, q8⟩ := id hQ
  have hn := hB.1
  have g0 := (hB.2.2.2 a).2.1
  have g1 := (hB.2.2.2 (a + 1)).2
  have g2 := (hB.2.2.2 (a + 2)).2
  obtain ⟨v, hv⟩ := byA hB (j := a + 1) (by omega)
  have z0 : nI (psz 193 - 1) = nI 0 := rfl
  have hf : m_X7_byteAt (nI a) S = some (nI 193, S) := by rw [byt hB (by omega), hb]
  have n0 : (nI 193 = (0 : Int32)) = False := eq_false (by decide)
  have n1 : (nI 193 = (1 : Int32)) = False := eq_false (by decide)
  have n2 : (nI 193 = (2 : Int32)) = False := eq_false (by decide)
  have n3 : (nI 193 = (3 : Int32)) = False := eq_false (by decide)
  have n4 : (nI 193 = (4 : Int32)) = False := eq_false (by decide)
  have n5 : (nI 193 = (5 : Int32)) = False := eq_false (by decide)
  have n6 : (nI 193 = (6 : Int32)) = False := eq_false (by decide)
  have n7 : (nI 193 = (7 : Int32)) = False := eq_false (by decide)
  have n8 : (nI 193 = (8 : Int32)) = False := eq_false (by decide)
  have n9 : (nI 193 = (9 : Int32)) = False := eq_false (by decide)
  have n10 : (nI 193 = (10 : Int32)) = False := eq_false (by decide)
  have n11 : (nI 193 = (11 : Int32)) = False := eq_false (by decide)
  have n12 : (nI 193 = (12 : Int32)) = False := eq_false (by decide)
  have n13 : (nI 193 = (13 : Int32)) = False := eq_false (by decide)
  have n14 : (nI 193 = (14 : Int32)) = False := eq_false (by decide)
  have l63 : (nI 193 ≤ (63 : Int32)) = False := eq_false (by decide)
  have l127 : (nI 193 ≤ (127 : Int32)) = False := eq_false (by decide)
  have l191 : (nI 193 ≤ (191 : Int32)) = False := eq_false (by decide)
  have m128 : ((128 : Int32) ≤ nI 193) = True := eq_true (by decide)
  have m131 : ((131 : Int32) ≤ nI 193) = True := eq_true (by decide)
  have m192 : ((192 : Int32) ≤ nI 193) = True := eq_true (by decide)
  have m195 : ((195 : Int32) ≤ nI 193) = False := eq_false (by decide)
  have y1 : (inb (0 : Int32) 5 = true) = True := eq_true (by decide)
  have y2 : (inb (1 : Int32) 5 = true) = True := eq_true (by decide)
  have y3 : (0 : Int32).toNatClampNeg = 0 := by decide
  have y4 : (1 : Int32).toNatClampNeg = 1 := by decide
  have hfr : m_X5_followRange (nI 193) v S = some (1, st S 15 1 0) := by
    unfold m_X5_followRange
    rw [if_pos (show (128 : Int32) ≤ nI 193 by decide), if_pos (show (192 : Int32) ≤ nI 193 by decide), if_pos (show inb (nI 193 - 192) 3 = true by decide), show (nI 193 - (192 : Int32)).toNatClampNeg = 1 by decide]
    rfl
  have r1 : (inb (nI 193 - (190 : Int32)) 5 = true) = True := eq_true (by decide)
  have r2 : (nI 193 - (190 : Int32)).toNatClampNeg = 3 := by decide
  refine Or.inr ⟨st S 15 1 0, st T 14 3 0, d, pl, ?_, ⟨fun k h => by simp [st, show k ≠ 20 by omega, show k ≠ 15 by omega], fun j h1 h2 => by simp [st_at, show j ≠ 7 by omega, show j ≠ 8 by omega, show j ≠ 23 by omega, show j ≠ 24 by omega]⟩, (fun k h1 h2 h3 => by simp [st, h1, h2, h3]), ?_, ?_, by omega⟩
  · unfold m_X5_follow
    rw [hf, some_bind', nI_1, hv, some_bind']
    simp only [n0, n1, n2, n3, n4, n5, n6, n7, n8, n9, n10, n11, n12, n13, n14, l63, l127, l191, m128, m131, m192, m195, if_true, if_false, some_bind', bz0, bz1, hfr]
  · intro k62
    unfold m_X9_readProgram_L128
    rw [z0]
    have u1 : (nI a + nI 0 < nI to) = True := eq_true (by rw [nI_add]; exact nI_lt (by omega) (by omega))
    have u2 : (nI 0 ≤ (0 : Int32)) = True := eq_true (by decide)
    simp only [u1, u2, n0, n1, n2, n3, n4, n5, n6, n7, n8, n9, n10, n11, n12, n13, n14, l63, l127, l191, m128, m131, m192, m195, if_true, if_false]
    unfold m_X9_readProgram_L214 m_X9_readProgram_L435
    simp only [n0, n1, n2, n3, n4, n5, n6, n7, n8, n9, n10, n11, n12, n13, n14, l63, l127, l191, m128, m131, m192, m195, if_true, if_false, y1, y2, y3, y4, r1, r2]
  · obtain ⟨z1, z2, z3, z4, z5⟩ := q1
    refine ⟨⟨?_, ?_, ?_, ?_, ?_⟩, q2.congr ?_ ?_ ?_ ?_, q3.congr (fun j hj => ?_) (fun k h1 h2 => ?_) q5 ?_, ?_, q5, ?_, ?_, q8.s (byteN (n := 0) (by omega)) 3⟩
    · simp [st_at, z1]
    · simp [st_at, z2]
    · simp [st_at, z3]
    · simp [st_at, z4]
    · simp [st_at, z5]
    · simp [st_at]
    · simp [st_at]
    · simp [st]
    · simp [st]
    · simp [st_at, show j ≠ 23 by omega, show j ≠ 24 by omega]
    · simp [st, show k ≠ 20 by omega, show k ≠ 15 by omega]
    · simp [st]
    · simp [st_at, q4]
    · simp [st_at, q6]
    · simp [st_at, q7]
theorem fs194 {S T : St} {n : Nat} {B : Nat → Nat} (hB : SB S T n B) {a to pl d x3 x4 : Nat} (w : Int32) (hQ : QR S T d pl (x3 + x4)) (hp : pl ≤ 1000) (h3 : x3 ≤ 255) (h4 : x4 ≤ 255) (hb : B a = 194) (ha : a + 1 ≤ to) (ht : to ≤ n) : FS S T a to pl d x3 x4 194 w := by
  obtain ⟨q1, q2, q3, q4, q5, q6, q7, q8⟩ := id hQ
  have hn := hB.1
  have g0 := (hB.2.2.2 a).2.1
  have g1 := (hB.2.2.2 (a + 1)).2
  have g2 := (hB.2.2.2 (a + 2)).2
  obtain ⟨v, hv⟩ := byA hB (j := a + 1) (by omega)
  have z0 : nI (psz 194 - 1) = nI 0 := rfl
  have hf : m_X7_byteAt (nI a) S = some (nI 194, S) := by rw [byt hB (by omega), hb]
  have n0 : (nI 194 = (0 : Int32)) = False := eq_false (by decide)
  have n1 : (nI 194 = (1 : Int32)) = False := eq_false (by decide)
  have n2 : (nI 194 = (2 : Int32)) = False := eq_false (by decide)
  have n3 : (nI 194 = (3 : Int32)) = False := eq_false (by decide)
  have n4 : (nI 194 = (4 : Int32)) = False := eq_false (by decide)
  have n5 : (nI 194 = (5 : Int32)) = False := eq_false (by decide)
  have n6 : (nI 194 = (6 : Int32)) = False := eq_false (by decide)
  have n7 : (nI 194 = (7 : Int32)) = False := eq_false (by decide)
  have n8 : (nI 194 = (8 : Int32)) = False := eq_false (by decide)
  have n9 : (nI 194 = (9 : Int32)) = False := eq_false (by decide)
  have n10 : (nI 194 = (10 : Int32)) = False := eq_false (by decide)
  have n11 : (nI 194 = (11 : Int32)) = False := eq_false (by decide)
  have n12 : (nI 194 = (12 : Int32)) = False := eq_false (by decide)
  have n13 : (nI 194 = (13 : Int32)) = False := eq_false (by decide)
  have n14 : (nI 194 = (14 : Int32)) = False := eq_false (by decide)
  have l63 : (nI 194 ≤ (63 : Int32)) = False := eq_false (by decide)
  have l127 : (nI 194 ≤ (127 : Int32)) = False := eq_false (by decide)
  have l191 : (nI 194 ≤ (191 : Int32)) = False := eq_false (by decide)
  have m128 : ((128 : Int32) ≤ nI 194) = True := eq_true (by decide)
  have m131 : ((131 : Int32) ≤ nI 194) = True := eq_true (by decide)
  have m192 : ((192 : Int32) ≤ nI 194) = True := eq_true (by decide)
  have m195 : ((195 : Int32) ≤ nI 194) = False := eq_false (by decide)
  have y1 : (inb (0 : Int32) 5 = true) = True := eq_true (by decide)
  have y2 : (inb (1 : Int32) 5 = true) = True := eq_true (by decide)
  have y3 : (0 : Int32).toNatClampNeg = 0 := by decide
  have y4 : (1 : Int32).toNatClampNeg = 1 := by decide
  have hfr : m_X5_followRange (nI 194) v S = some (1, st S 15 2 0) := by
    unfold m_X5_followRange
    rw [if_pos (show (128 : Int32) ≤ nI 194 by decide), if_pos (show (192 : Int32) ≤ nI 194 by decide), if_pos (show inb (nI 194 - 192) 3 = true by decide), show (nI 194 - (192 : Int32)).toNatClampNeg = 2 by decide]
    rfl
  have r1 : (inb (nI 194 - (190 : Int32)) 5 = true) = True := eq_true (by decide)
  have r2 : (nI 194 - (190 : Int32)).toNatClampNeg = 4 := by decide
  refine Or.inr ⟨st S 15 2 0, st T 14 4 0, d, pl, ?_, ⟨fun k h => by simp [st, show k ≠ 20 by omega, show k ≠ 15 by omega], fun j h1 h2 => by simp [st_at, show j ≠ 7 by omega, show j ≠ 8 by omega, show j ≠ 23 by omega, show j ≠ 24 by omega]⟩, (fun k h1 h2 h3 => by simp [st, h1, h2, h3]), ?_, ?_, by omega⟩
  · unfold m_X5_follow
    rw [hf, some_bind', nI_1, hv, some_bind']
    simp only [n0, n1, n2, n3, n4, n5, n6, n7, n8, n9, n10, n11, n12, n13, n14, l63, l127, l191, m128, m131, m192, m195, if_true, if_false, some_bind', bz0, bz1, hfr]
  · intro k62
    unfold m_X9_readProgram_L128
    rw [z0]
    have u1 : (nI a + nI 0 < nI to) = True := eq_true (by rw [nI_add]; exact nI_lt (by omega) (by omega))
    have u2 : (nI 0 ≤ (0 : Int32)) = True := eq_true (by decide)
    simp only [u1, u2, n0, n1, n2, n3, n4, n5, n6, n7, n8, n9, n10, n11, n12, n13, n14, l63, l127, l191, m128, m131, m192, m195, if_true, if_false]
    unfold m_X9_readProgram_L214 m_X9_readProgram_L435
    simp only [n0, n1, n2, n3, n4, n5, n6, n7, n8, n9, n10, n11, n12, n13, n14, l63, l127, l191, m128, m131, m192, m195, if_true, if_false, y1, y2, y3, y4, r1, r2]
  · obtain ⟨z1, z2, z3, z4, z5⟩ := q1
    refine ⟨⟨?_, ?_, ?_, ?_, ?_⟩, q2.congr ?_ ?_ ?_ ?_, q3.congr (fun j hj => ?_) (fun k h1 h2 => ?_) q5 ?_, ?_, q5, ?_, ?_, q8.s (byteN (n := 0) (by omega)) 4⟩
    · simp [st_at, z1]
    · simp [st_at, z2]
    · simp [st_at, z3]
    · simp [st_at, z4]
    · simp [st_at, z5]
    · simp [st_at]
    · simp [st_at]
    · simp [st]
    · simp [st]
    · simp [st_at, show j ≠ 23 by omega, show j ≠ 24 by omega]
    · simp [st, show k ≠ 20 by omega, show k ≠ 15 by omega]
    · simp [st]
    · simp [st_at, q4]
    · simp [st_at, q6]
    · simp [st_at, q7]
theorem fsa {S T : St} {n : Nat} {B : Nat → Nat} (hB : SB S T n B) {a to pl d x3 x4 b : Nat} (w : Int32) (hQ : QR S T d pl (x3 + x4)) (hp : pl ≤ 1000) (h3 : x3 ≤ 255) (h4 : x4 ≤ 255) (hb : B a = b) (hb1 : 64 ≤ b) (hb2 : b < 128) (ha : a + 1 ≤ to) (ht : to ≤ n) : FS S T a to pl d x3 x4 b w := by
  obtain ⟨q1, q2, q3, q4, q5, q6, q7, q8⟩ := id hQ
  have hn := hB.1
  obtain ⟨v, hv⟩ := byA hB (j := a + 1) (by omega)
  have z0 : nI (psz b - 1) = nI 0 := by
    unfold psz
    rw [if_neg (by omega), if_neg (by omega), if_neg (by omega), if_pos (by omega)]
  have hf : m_X7_byteAt (nI a) S = some (nI b, S) := by rw [byt hB (by omega), hb]
  have e64 : nI b - (64 : Int32) = nI (b - 64) := pk_sub (b := 64) hb1
  have n0 : (nI b = (0 : Int32)) = False := eq_false (nI_ne (b := 0) (by omega) (by omega) (by omega))
  have n1 : (nI b = (1 : Int32)) = False := eq_false (nI_ne (b := 1) (by omega) (by omega) (by omega))
  have n2 : (nI b = (2 : Int32)) = False := eq_false (nI_ne (b := 2) (by omega) (by omega) (by omega))
  have n3 : (nI b = (3 : Int32)) = False := eq_false (nI_ne (b := 3) (by omega) (by omega) (by omega))
  have n4 : (nI b = (4 : Int32)) = False := eq_false (nI_ne (b := 4) (by omega) (by omega) (by omega))
  have n5 : (nI b = (5 : Int32)) = False := eq_false (nI_ne (b := 5) (by omega) (by omega) (by omega))
  have n6 : (nI b = (6 : Int32)) = False := eq_false (nI_ne (b := 6) (by omega) (by omega) (by omega))
  have n7 : (nI b = (7 : Int32)) = False := eq_false (nI_ne (b := 7) (by omega) (by omega) (by omega))
  have n8 : (nI b = (8 : Int32)) = False := eq_false (nI_ne (b := 8) (by omega) (by omega) (by omega))
  have n9 : (nI b = (9 : Int32)) = False := eq_false (nI_ne (b := 9) (by omega) (by omega) (by omega))
  have n10 : (nI b = (10 : Int32)) = False := eq_false (nI_ne (b := 10) (by omega) (by omega) (by omega))
  have n11 : (nI b = (11 : Int32)) = False := eq_false (nI_ne (b := 11) (by omega) (by omega) (by omega))
  have n12 : (nI b = (12 : Int32)) = False := eq_false (nI_ne (b := 12) (by omega) (by omega) (by omega))
  have n13 : (nI b = (13 : Int32)) = False := eq_false (nI_ne (b := 13) (by omega) (by omega) (by omega))
  have n14 : (nI b = (14 : Int32)) = False := eq_false (nI_ne (b := 14) (by omega) (by omega) (by omega))
  have l63 : (nI b ≤ (63 : Int32)) = False := eq_false (nI_ge (a := 63) (by omega) (by omega))
  have m128 : ((128 : Int32) ≤ nI b) = False := eq_false (nI_ge (b := 128) (by omega) (by omega))
  have u1 : (nI a + nI 0 < nI to) = True := eq_true (by rw [nI_add]; exact nI_lt (by omega) (by omega))
  have u2 : (nI 0 ≤ (0 : Int32)) = True := eq_true (by decide)
  by_cases hx : pl + (b - 64) < x3 + x4
  · have w1 : (nI (pl + (b - 64)) < nI (x3 + x4)) = True := eq_true (nI_lt hx (by omega))
    have hfr : m_X5_followRange (nI b) v S = some (1, st S 20 8 (nI (pl + (b - 64)))) := by
      unfold m_X5_followRange
      rw [if_neg (of_eq_false m128), e64, mv_ok q6 q7 hx (by omega), some_bind']; rfl
    refine Or.inr ⟨st S 20 8 (nI (pl + (b - 64))), T, d, pl + (b - 64), ?_, ⟨fun k h => by simp [st, show k ≠ 20 by omega, show k ≠ 15 by omega], fun j h1 h2 => by simp [st_at, show j ≠ 7 by omega, show j ≠ 8 by omega, show j ≠ 23 by omega, show j ≠ 24 by omega]⟩, Gr.refl T, ?_, ?_, by omega⟩
    · unfold m_X5_follow
      rw [hf, some_bind', nI_1, hv, some_bind']
      simp only [n0, n1, n2, n3, n4, n5, n6, n7, n8, n9, n10, n11, n12, n13, n14, if_true, if_false, some_bind', bz0, bz1, hfr]
    · intro k62
      unfold m_X9_readProgram_L128
      rw [z0]
      simp only [u1, u2, n0, n1, n2, n3, n4, n5, n6, n7, n8, n9, n10, n11, n12, n13, n14, l63, m128, if_true, if_false]
      unfold m_X9_readProgram_L182
      simp only [n0, n1, n2, n3, n4, n5, n6, n7, n8, n9, n10, n11, n12, n13, n14, if_true, if_false, e64, nI_add, w1]
    · refine ⟨q1.congr ?_ ?_ ?_ rfl, q2.congr ?_ ?_ ?_ rfl, q3.congr (fun j hj => ?_) (fun k h1 h2 => ?_) q5 rfl, ?_, q5, ?_, ?_, q8⟩
      · simp [st_at]
      · simp [st_at]
      · simp [st]
      · simp [st_at]
      · simp [st_at]
      · simp [st]
      · simp [st_at, show j ≠ 8 by omega]
      · simp [st, show k ≠ 20 by omega]
      · simp [st_at, q4]
      · simp [st_at]
      · simp [st_at, q7]
  · have w1 : (nI (pl + (b - 64)) < nI (x3 + x4)) = False := eq_false (nI_nlt (by omega) (by omega))
    have hfr : m_X5_followRange (nI b) v S = some (0, st S 20 8 (nI (pl + (b - 64)))) := by
      unfold m_X5_followRange
      rw [if_neg (of_eq_false m128), e64, mv_no q6 q7 (show x3 + x4 ≤ pl + (b - 64) by omega) (by omega), some_bind']; rfl
    refine Or.inl ⟨st S 20 8 (nI (pl + (b - 64))), ?_, ⟨fun k h => by simp [st, show k ≠ 20 by omega, show k ≠ 15 by omega], fun j h1 h2 => by simp [st_at, show j ≠ 7 by omega, show j ≠ 8 by omega, show j ≠ 23 by omega, show j ≠ 24 by omega]⟩, ?_⟩
    · unfold m_X5_follow
      rw [hf, some_bind', nI_1, hv, some_bind']
      simp only [n0, n1, n2, n3, n4, n5, n6, n7, n8, n9, n10, n11, n12, n13, n14, if_true, if_false, some_bind', bz0, bz1, hfr]
    · intro k62
      unfold m_X9_readProgram_L128
      rw [z0]
      simp only [u1, u2, n0, n1, n2, n3, n4, n5, n6, n7, n8, n9, n10, n11, n12, n13, n14, l63, m128, if_true, if_false]
      unfold m_X9_readProgram_L182
      simp only [n0, n1, n2, n3, n4, n5, n6, n7, n8, n9, n10, n11, n12, n13, n14, if_true, if_false, e64, nI_add, w1, bz0]
theorem fs_all {S T : St} {n : Nat} {B : Nat → Nat} (hB : SB S T n B) {a to pl d x3 x4 : Nat} (w : Int32) (hQ : QR S T d pl (x3 + x4)) (hp : pl ≤ 1000) (h3 : x3 ≤ 255) (h4 : x4 ≤ 255) (hz : psz (B a) ≠ 0) (ha : a + psz (B a) ≤ to) (ht : to ≤ n) : FS S T a to pl d x3 x4 (B a) w := by
  obtain ⟨b, hb⟩ : ∃ b, B a = b := ⟨_, rfl⟩
  rw [hb] at hz ha ⊢
  have hc : b = 0 ∨ b = 2 ∨ b = 10 ∨ b = 11 ∨ b = 12 ∨ b = 13 ∨ b = 14 ∨ b = 128 ∨ b = 129 ∨ b = 130 ∨ b = 192 ∨ b = 193 ∨ b = 194 ∨ (64 ≤ b ∧ b < 128) := by
    unfold psz at hz
    repeat' split at hz
    all_goals omega
  rcases hc with rfl | rfl | rfl | rfl | rfl | rfl | rfl | rfl | rfl | rfl | rfl | rfl | rfl | ⟨hb1, hb2⟩
  · exact fs0 hB w hQ hp h3 h4 hb ha ht
  · exact fs2 hB w hQ hp h3 h4 hb ha ht
  · exact fs10 hB w hQ hp h3 h4 hb ha ht
  · exact fs11 hB w hQ hp h3 h4 hb ha ht
  · exact fs12 hB w hQ hp h3 h4 hb ha ht
  · exact fs13 hB w hQ hp h3 h4 hb ha ht
  · exact fs14 hB w hQ hp h3 h4 hb ha ht
  · exact fs128 hB w hQ hp h3 h4 hb ha ht
  · exact fs129 hB w hQ hp h3 h4 hb ha ht
  · exact fs130 hB w hQ hp h3 h4 hb ha ht
  · exact fs192 hB w hQ hp h3 h4 hb ha ht
  · exact fs193 hB w hQ hp h3 h4 hb ha ht
  · exact fs194 hB w hQ hp h3 h4 hb ha ht
  · have : psz b = 1 := by
      unfold psz
      rw [if_neg (by omega), if_neg (by omega), if_neg (by omega), if_pos (by omega)]
    exact fsa hB w hQ hp h3 h4 hb hb1 hb2 (by omega) ht
