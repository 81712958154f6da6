theorem l62 {G : Nat} {T : St} {b a to : Nat} (ht : to ≤ 1076) (ha : a < to) (hb : b < 256) (e : T 10 a = nI b) (x3 x4 w x6 x7 : Int32) : m_X9_readProgram_L62 (G + 1) (nI to) x3 x4 w x6 x7 (nI a) T = m_X9_readProgram_L128 (m_X9_readProgram_L62 G) (nI to) x3 x4 w x6 x7 (nI a) (nI b) (nI (psz b - 1)) T := by
  have n2 : (nI b = (2 : Int32)) = (b = 2) := q_eq (b := 2) (by omega) (by omega)
  have n12 : (nI b = (12 : Int32)) = (b = 12) := q_eq (b := 12) (by omega) (by omega)
  have n13 : (nI b = (13 : Int32)) = (b = 13) := q_eq (b := 13) (by omega) (by omega)
  have n14 : (nI b = (14 : Int32)) = (b = 14) := q_eq (b := 14) (by omega) (by omega)
  have l1 : (nI b ≤ (127 : Int32)) = (b ≤ 127) := q_le (b := 127) (by omega) (by omega)
  have l2 : ((131 : Int32) ≤ nI b) = (131 ≤ b) := q_le (a := 131) (by omega) (by omega)
  rw [m_X9_readProgram_L62, if_neg (nI_ge ha (by omega)), if_pos (inb_nI (show a < 6000 by omega) (by omega)), nI_cl (show a < 2 ^ 31 by omega), e]
  simp only [n2, n12, n13, n14, l1, l2]
  by_cases h2 : b = 2
  · subst h2; rw [if_pos rfl]; rfl
  by_cases h13 : b = 13
  · subst h13; rw [if_neg h2, if_pos rfl]; rfl
  by_cases h14 : b = 14
  · subst h14; rw [if_neg h2, if_neg h13, if_pos rfl]; rfl
  rw [if_neg h2, if_neg h13, if_neg h14]
  by_cases h127 : b ≤ 127
  · rw [if_pos h127]
    by_cases h12 : b = 12
    · subst h12; rw [if_pos rfl]; rfl
    · have hp : psz b - 1 = 0 := by
        unfold psz
        rw [if_neg (show ¬ (b = 2 ∨ b = 13 ∨ b = 14) by omega), if_neg h12, if_neg (show ¬ (128 ≤ b ∧ b < 131) by omega), if_neg (show ¬ (192 ≤ b ∧ b < 195) by omega)]
        split
        · rfl
        · split <;> rfl
      rw [if_neg h12, hp]; rfl
  · rw [if_neg h127]
    by_cases h131 : 131 ≤ b
    · have hp : psz b - 1 = 0 := by
        unfold psz
        rw [if_neg (show ¬ (b = 0 ∨ b = 10 ∨ b = 11) by omega), if_neg (show ¬ (b = 2 ∨ b = 13 ∨ b = 14) by omega), if_neg (show ¬ b = 12 by omega), if_neg (show ¬ (64 ≤ b ∧ b < 128) by omega), if_neg (show ¬ (128 ≤ b ∧ b < 131) by omega)]
        split <;> rfl
      rw [if_pos h131, if_neg (show ¬ b = 12 by omega), hp]; rfl
    · have hp : psz b - 1 = 1 := by
        unfold psz
        rw [if_neg (show ¬ (b = 0 ∨ b = 10 ∨ b = 11) by omega), if_neg (show ¬ (b = 2 ∨ b = 13 ∨ b = 14) by omega), if_neg (show ¬ b = 12 by omega), if_neg (show ¬ (64 ≤ b ∧ b < 128) by omega), if_pos (show (128 ≤ b ∧ b < 131) by omega)]
      rw [if_neg h131, hp]; rfl
theorem l128_no (k62 : Int32 → Int32 → Int32 → Int32 → Int32 → Int32 → Int32 → St → Option (Int32 × St)) {T : St} {b a to : Nat} (ht : to ≤ 1076) (ha : a < to) (hb : b < 256) (hz : psz b = 0) (x3 x4 w x6 x7 : Int32) : m_X9_readProgram_L128 k62 (nI to) x3 x4 w x6 x7 (nI a) (nI b) (nI (psz b - 1)) T = some (0, T) := by
  have hc : b ≠ 0 ∧ b ≠ 2 ∧ b ≠ 10 ∧ b ≠ 11 ∧ b ≠ 12 ∧ b ≠ 13 ∧ b ≠ 14 ∧ (b < 64 ∨ 131 ≤ b) ∧ (b < 192 ∨ 195 ≤ b) := by
    unfold psz at hz
    repeat' split at hz
    all_goals omega
  obtain ⟨c0, c2, c10, c11, c12, c13, c14, cA, cB⟩ := hc
  have n0 : (nI b = (0 : Int32)) = False := eq_false (nI_ne (b := 0) (by omega) (by omega) c0)
  have n2 : (nI b = (2 : Int32)) = False := eq_false (nI_ne (b := 2) (by omega) (by omega) c2)
  have n10 : (nI b = (10 : Int32)) = False := eq_false (nI_ne (b := 10) (by omega) (by omega) c10)
  have n11 : (nI b = (11 : Int32)) = False := eq_false (nI_ne (b := 11) (by omega) (by omega) c11)
  have n12 : (nI b = (12 : Int32)) = False := eq_false (nI_ne (b := 12) (by omega) (by omega) c12)
  have n13 : (nI b = (13 : Int32)) = False := eq_false (nI_ne (b := 13) (by omega) (by omega) c13)
  have n14 : (nI b = (14 : Int32)) = False := eq_false (nI_ne (b := 14) (by omega) (by omega) c14)
  have l63 : (nI b ≤ (63 : Int32)) = (b ≤ 63) := q_le (b := 63) (by omega) (by omega)
  have l127 : (nI b ≤ (127 : Int32)) = (b ≤ 127) := q_le (b := 127) (by omega) (by omega)
  have l191 : (nI b ≤ (191 : Int32)) = (b ≤ 191) := q_le (b := 191) (by omega) (by omega)
  have m128 : ((128 : Int32) ≤ nI b) = (128 ≤ b) := q_le (a := 128) (by omega) (by omega)
  have m131 : ((131 : Int32) ≤ nI b) = (131 ≤ b) := q_le (a := 131) (by omega) (by omega)
  have m195 : ((195 : Int32) ≤ nI b) = (195 ≤ b) := q_le (a := 195) (by omega) (by omega)
  have u1 : (nI a + nI 0 < nI to) = True := eq_true (by rw [nI_add]; exact nI_lt (by omega) (by omega))
  have u2 : (nI 0 ≤ (0 : Int32)) = True := eq_true (by decide)
  rw [show psz b - 1 = 0 by omega]
  have h435 : m_X9_readProgram_L435 k62 (nI to) x3 x4 w x6 x7 (nI a) (nI b) (nI 0) T = some (0, T) := by
    unfold m_X9_readProgram_L435
    simp only [n0, l191, m195, if_false]
    rcases cB with h | h
    · rw [if_pos (show b ≤ 191 by omega)]; rfl
    · rw [if_neg (show ¬ b ≤ 191 by omega), if_pos h]; rfl
  have h214 : ∀ v, m_X9_readProgram_L214 k62 (nI to) x3 x4 w x6 x7 (nI a) (nI b) (nI 0) v T = some (0, T) := by
    intro v
    unfold m_X9_readProgram_L214
    simp only [n10, n11, n12, n13, n14, l127, m131, if_false]
    by_cases h : b ≤ 127
    · rw [if_pos h, h435]
    · rw [if_neg h, if_pos (show 131 ≤ b by omega), h435]
  unfold m_X9_readProgram_L128
  simp only [u1, u2, n2, l63, m128, if_true, if_false]
  by_cases h : b ≤ 63
  · rw [if_pos h, h214]
  · rw [if_neg h, if_pos (show 128 ≤ b by omega), h214]
theorem l473_0 (k62 : Int32 → Int32 → Int32 → Int32 → Int32 → Int32 → Int32 → St → Option (Int32 × St)) (x2 x3 x4 w x7 : Int32) {p a z : Nat} (T : St) (h : w < nI p) : m_X9_readProgram_L473 k62 x2 x3 x4 w (nI p) x7 (nI a) (nI z) T = k62 x2 x3 x4 w (nI p) x7 (nI (a + (z + 1))) T := by
  unfold m_X9_readProgram_L473
  rw [if_pos h, kp0, some_bind', show (1 : Int32) + nI z = nI (z + 1) by rw [show (1 : Int32) = nI 1 from rfl, nI_add, Nat.add_comm], nI_add]
theorem l473_1 (k62 : Int32 → Int32 → Int32 → Int32 → Int32 → Int32 → Int32 → St → Option (Int32 × St)) (x2 x3 x4 w x7 : Int32) {p a z : Nat} (T : St) (h : ¬ w < nI p) : m_X9_readProgram_L473 k62 x2 x3 x4 w (nI p) x7 (nI a) (nI z) T = k62 x2 x3 x4 w (nI p) x7 (nI (a + (z + 1))) (kp T) := by
  unfold m_X9_readProgram_L473
  rw [if_neg h, kp1, some_bind', show (1 : Int32) + nI z = nI (z + 1) by rw [show (1 : Int32) = nI 1 from rfl, nI_add, Nat.add_comm], nI_add]
theorem keepQ {S T : St} {d p en : Nat} (h : QR S T d p en) : QR (cpy 2 3 S) (kp T) d p en ∧ Fr S (cpy 2 3 S) ∧ Gr T (kp T) := by
  obtain ⟨⟨z1, z2, z3, z4, z5⟩, q2, q3, q4, q5, q6, q7, q8⟩ := h
  refine ⟨⟨⟨?_, ?_, ?_, ?_, ?_⟩, ⟨?_, ?_, ?_, ?_, ?_⟩, q3.congr (fun j hj => ?_) (fun k h1 h2 => ?_) q5 ?_, ?_, q5, ?_, ?_, q8.kp⟩, ⟨fun k h => ?_, fun j h1 h2 => ?_⟩, fun k h1 h2 h3 => ?_⟩
  · simp [cpy, kp, st_at, z1]
  · simp [cpy, kp, st_at, z2]
  · simp [cpy, kp, st_at, z3]
  · simp [cpy, kp, st_at, z4]
  · simp [cpy, kp, st_at, z5]
  · simp [cpy, kp, st_at, z1]
  · simp [cpy, kp, st_at, z2]
  · simp [cpy, kp, st_at, z3]
  · simp [cpy, kp, st_at, z4]
  · simp [cpy, kp, st_at, z5]
  · simp [cpy, st_at, show j ≠ 21 by omega, show j ≠ 22 by omega]
  · simp [cpy, st, show k ≠ 20 by omega, show k ≠ 14 by omega]
  · simp [kp, st]
  · simp [cpy, st_at, q4]
  · simp [cpy, st_at, q6]
  · simp [cpy, st_at, q7]
  · simp [cpy, st, show k ≠ 20 by omega, show k ≠ 14 by omega]
  · simp [cpy, st_at, show j ≠ 21 by omega, show j ≠ 22 by omega]
  · simp [kp, st, h1]
theorem rp_sim {n : Nat} {B : Nat → Nat} {to x3 x4 : Nat} (w : Int32) (ht : to ≤ n) (h3 : x3 ≤ 255) (h4 : x4 ≤ 255) : ∀ (m a F G d pl : Nat) (S T : St), to ≤ a + m → m < F → m < G → a ≤ 2000 → SB S T n B → QR S T d pl (x3 + x4) → pl ≤ 1000 → ∃ (r : Int32) (S1 T1 : St), m_X5_readProgram_L29 F (nI to) w (nI a) S = some (r, S1) ∧ m_X9_readProgram_L62 G (nI to) (nI x3) (nI x4) w (nI pl) (nI d) (nI a) T = some (r, T1) ∧ (r = 0 ∨ (r = 1 ∧ QF S1 T1 ∧ ∀ k, k < 5 → byte (T1 13 k))) ∧ Fr S S1 ∧ Gr T T1 := by
  intro m
  induction m with
  | zero =>
    intro a F G d pl S T hm hF hG ha hB hQ hp
    obtain ⟨f, rfl⟩ : ∃ f, F = f + 1 := ⟨F - 1, by omega⟩
    obtain ⟨g, rfl⟩ : ∃ g, G = g + 1 := ⟨G - 1, by omega⟩
    have h : nI to ≤ nI a := nI_le (by omega) (by omega)
    refine ⟨1, S, T, ?_, ?_, Or.inr ⟨rfl, hQ.2.1, hQ.2.2.2.2.2.2.2.2.1⟩, Fr.refl S, Gr.refl T⟩
    · rw [m_X5_readProgram_L29, if_pos h]; rfl
    · rw [m_X9_readProgram_L62, if_pos h]; rfl
  | succ m ih =>
    intro a F G d pl S T hm hF hG ha hB hQ hp
    obtain ⟨f, rfl⟩ : ∃ f, F = f + 1 := ⟨F - 1, by omega⟩
    obtain ⟨g, rfl⟩ : ∃ g, G = g + 1 := ⟨G - 1, by omega⟩
    have hn := hB.1
    by_cases hta : to ≤ a
    · have h : nI to ≤ nI a := nI_le (by omega) (by omega)
      refine ⟨1, S, T, ?_, ?_, Or.inr ⟨rfl, hQ.2.1, hQ.2.2.2.2.2.2.2.2.1⟩, Fr.refl S, Gr.refl T⟩
      · rw [m_X5_readProgram_L29, if_pos h]; rfl
      · rw [m_X9_readProgram_L62, if_pos h]; rfl
    · have hb := (hB.2.2.2 a).2.2
      rw [l62 (by omega) (by omega) hb (hB.2.2.2 a).2.1, m_X5_readProgram_L29, if_neg (nI_ge (by omega) (by omega)), byt hB (by omega), some_bind', szr_eq hb, some_bind']
      by_cases hz : psz (B a) = 0
      · rw [l128_no _ (by omega) (by omega) hb hz]
        refine ⟨0, S, T, ?_, rfl, Or.inl rfl, Fr.refl S, Gr.refl T⟩
        rw [hz]; rfl
      · have hz3 : psz (B a) ≤ 3 := by
          unfold psz
          repeat' split
          all_goals omega
        have z0 : ¬ nI (psz (B a)) = 0 := nI_ne0 (by omega) (by omega)
        simp only [if_neg z0, pk_sub (show a ≤ to by omega)]
        by_cases hle : a + psz (B a) ≤ to
        · rw [if_neg (show ¬ nI (to - a) < nI (psz (B a)) from nI_nlt (by omega) (by omega))]
          rcases fs_all hB w hQ hp h3 h4 hz hle ht with ⟨S1, f1, f2, f3⟩ | ⟨S1, T1, d1, p1, f1, f2, f3, f4, f5, f6⟩
          · rw [f3, f1, some_bind']
            exact ⟨0, S1, T, rfl, rfl, Or.inl rfl, f2, Gr.refl T⟩
          · rw [f4, f1, some_bind']
            simp only [if_neg i10]
            have e8 : S1 20 8 = nI p1 := f5.2.2.2.2.2.1
            have hstep : a + (psz (B a) - 1 + 1) = a + psz (B a) := by omega
            rw [e8]
            by_cases hw : w < nI p1
            · rw [if_pos hw, l473_0 _ _ _ _ _ _ _ hw, hstep, nI_add]
              obtain ⟨r, S2, T2, g1, g2, g3, g4, g5⟩ := ih (a + psz (B a)) f g d1 p1 S1 T1 (by omega) (by omega) (by omega) (by omega) (hB.fr f2 f3) f5 f6
              exact ⟨r, S2, T2, g1, g2, g3, f2.trans g4, f3.trans g5⟩
            · obtain ⟨k1, k2, k3⟩ := keepQ f5
              rw [if_neg hw, l473_1 _ _ _ _ _ _ _ hw, hstep, nI_add, cpy_eq (by omega) (by omega) (by omega), some_bind']
              obtain ⟨r, S2, T2, g1, g2, g3, g4, g5⟩ := ih (a + psz (B a)) f g d1 p1 (cpy 2 3 S1) (kp T1) (by omega) (by omega) (by omega) (by omega) ((hB.fr f2 f3).fr k2 k3) k1 f6
              exact ⟨r, S2, T2, g1, g2, g3, (f2.trans k2).trans g4, (f3.trans k3).trans g5⟩
        · rw [if_pos (show nI (to - a) < nI (psz (B a)) from nI_lt (by omega) (by omega))]
          refine ⟨0, S, T, rfl, ?_, Or.inl rfl, Fr.refl S, Gr.refl T⟩
          unfold m_X9_readProgram_L128
          rw [nI_add, if_neg (nI_nlt (show to ≤ a + (psz (B a) - 1) by omega) (by omega))]; rfl
def beg5 (T : St) : St := st (st (st (st (st T 14 0 0) 14 1 1) 14 2 0) 14 3 0) 14 4 0
theorem rp9_eq (T : St) (x1 x2 x3 x4 w : Int32) (h : ¬ w < x3) : m_X9_readProgram x1 x2 x3 x4 w T = m_X9_readProgram_L62 10000 x2 x3 x4 w x3 (nI 0) x1 (kp (beg5 T)) := by
  unfold m_X9_readProgram
  have c2 : ¬ (5 : Int32) ≤ 2 := by decide
  have c3 : ¬ (5 : Int32) ≤ 2 + 1 := by decide
  have c4 : ¬ (5 : Int32) ≤ 2 + 1 + 1 := by decide
  have c5 : (5 : Int32) ≤ 2 + 1 + 1 + 1 := by decide
  have d0 : inb (0 : Int32) 5 = true := by decide
  have d1 : inb (1 : Int32) 5 = true := by decide
  have d2 : inb (2 : Int32) 5 = true := by decide
  have d3 : inb (2 + 1 : Int32) 5 = true := by decide
  have d4 : inb (2 + 1 + 1 : Int32) 5 = true := by decide
  have e0 : (0 : Int32).toNatClampNeg = 0 := by decide
  have e1 : (1 : Int32).toNatClampNeg = 1 := by decide
  have e2 : (2 : Int32).toNatClampNeg = 2 := by decide
  have e3 : (2 + 1 : Int32).toNatClampNeg = 3 := by decide
  have e4 : (2 + 1 + 1 : Int32).toNatClampNeg = 4 := by decide
  have hL : ∀ (F : Nat) (U : St), 4 ≤ F → m_X9_readProgram_L17 F x1 x2 x3 x4 w 2 U = m_X9_readProgram_L62 10000 x2 x3 x4 w x3 (nI 0) x1 (kp (st (st (st U 14 2 0) 14 3 0) 14 4 0)) := by
    intro F U hF
    obtain ⟨f, rfl⟩ : ∃ f, F = f + 4 := ⟨F - 4, by omega⟩
    simp only [m_X9_readProgram_L17, if_neg c2, if_neg c3, if_neg c4, if_pos c5, if_pos d2, if_pos d3, if_pos d4, e2, e3, e4, if_neg h, kp1, some_bind']
    rfl
  rw [if_pos d0, if_pos d1, hL 10000 _ (by decide), e0, e1]
  rfl
theorem begQ {S T : St} {pl en : Nat} (e8 : S 20 8 = nI pl) (e9 : S 20 9 = nI en) : QR (st (cpy 2 3 (fst3 S)) 20 7 0) (kp (beg5 T)) 0 pl en ∧ Fr S (st (cpy 2 3 (fst3 S)) 20 7 0) ∧ Gr T (kp (beg5 T)) := by
  refine ⟨⟨⟨?_, ?_, ?_, ?_, ?_⟩, ⟨?_, ?_, ?_, ?_, ?_⟩, fun j hj => absurd hj (by omega), ?_, by omega, ?_, ?_, ⟨fun k hk => ?_, fun k hk => ?_, fun k hk => absurd hk (by omega)⟩⟩, ⟨fun k h => ?_, fun j h1 h2 => ?_⟩, fun k h1 h2 h3 => ?_⟩
  · simp [cpy, kp, fst3, beg5, st_at]
  · simp [cpy, kp, fst3, beg5, st_at]
  · simp [cpy, kp, fst3, beg5, st_at]
  · simp [cpy, kp, fst3, beg5, st_at]
  · simp [cpy, kp, fst3, beg5, st_at]
  · simp [cpy, kp, fst3, beg5, st_at]
  · simp [cpy, kp, fst3, beg5, st_at]
  · simp [cpy, kp, fst3, beg5, st_at]
  · simp [cpy, kp, fst3, beg5, st_at]
  · simp [cpy, kp, fst3, beg5, st_at]
  · simp [st_at]; rfl
  · simp [cpy, fst3, st_at, e8]
  · simp [cpy, fst3, st_at, e9]
  · rcases (show k = 0 ∨ k = 1 ∨ k = 2 ∨ k = 3 ∨ k = 4 by omega) with rfl | rfl | rfl | rfl | rfl
    · simp [kp, beg5, st_at]; exact byteN (n := 0) (by omega)
    · simp [kp, beg5, st_at]; exact byteN (n := 1) (by omega)
    · simp [kp, beg5, st_at]; exact byteN (n := 0) (by omega)
    · simp [kp, beg5, st_at]; exact byteN (n := 0) (by omega)
    · simp [kp, beg5, st_at]; exact byteN (n := 0) (by omega)
  · rcases (show k = 0 ∨ k = 1 ∨ k = 2 ∨ k = 3 ∨ k = 4 by omega) with rfl | rfl | rfl | rfl | rfl
    · simp [kp, beg5, st_at]; exact byteN (n := 0) (by omega)
    · simp [kp, beg5, st_at]; exact byteN (n := 1) (by omega)
    · simp [kp, beg5, st_at]; exact byteN (n := 0) (by omega)
    · simp [kp, beg5, st_at]; exact byteN (n := 0) (by omega)
    · simp [kp, beg5, st_at]; exact byteN (n := 0) (by omega)
  · simp [cpy, fst3, st, show k ≠ 20 by omega, show k ≠ 14 by omega, show k ≠ 15 by omega]
  · simp [cpy, fst3, st_at, show j ≠ 21 by omega, show j ≠ 22 by omega, show j ≠ 23 by omega, show j ≠ 24 by omega, show j ≠ 7 by omega]
  · simp [kp, beg5, st, h1, h2]
def LU (w : Int32) (r1 r9 : Int32) (S1 T1 : St) : Prop := (r1 = -1 ∧ r9 = 0) ∨ (r1 = -2 ∧ r9 = -1) ∨ (r1 = 0 ∧ r9 = 1 ∧ QF S1 T1 ∧ ∀ k, k < 5 → byte (T1 13 k))
theorem lu_sim {n : Nat} {B : Nat → Nat} (w : Int32) : ∀ (m a F G : Nat) (S T : St), n ≤ a + m → m < F → m < G → a ≤ n → SB S T n B → ∃ (r1 : Int32) (S1 : St) (r9 : Int32) (T1 : St), m_X5_lookUp_L4 F w (nI a) S = some (r1, S1) ∧ m_X9_findRow_L2 G w (nI a) T = some (r9, T1) ∧ LU w r1 r9 S1 T1 ∧ Fr S S1 ∧ Gr T T1 := by
  intro m
  induction m with
  | zero =>
    intro a F G S T hm hF hG ha hB
    obtain ⟨f, rfl⟩ : ∃ f, F = f + 1 := ⟨F - 1, by omega⟩
    obtain ⟨g, rfl⟩ : ∃ g, G = g + 1 := ⟨G - 1, by omega⟩
    have hn := hB.1
    have h : nI n ≤ nI a := nI_le (by omega) (by omega)
    refine ⟨-1, S, 0, T, ?_, ?_, Or.inl ⟨rfl, rfl⟩, Fr.refl S, Gr.refl T⟩
    · rw [m_X5_lookUp_L4, hB.2.1, if_pos h]
    · rw [m_X9_findRow_L2, hB.2.2.1, if_pos h]
  | succ m ih =>
    intro a F G S T hm hF hG ha hB
    obtain ⟨f, rfl⟩ : ∃ f, F = f + 1 := ⟨F - 1, by omega⟩
    obtain ⟨g, rfl⟩ : ∃ g, G = g + 1 := ⟨G - 1, by omega⟩
    have hn := hB.1
    rw [m_X5_lookUp_L4, m_X9_findRow_L2, hB.2.1, hB.2.2.1]
    by_cases hna : n ≤ a
    · have h : nI n ≤ nI a := nI_le (by omega) (by omega)
      refine ⟨-1, S, 0, T, ?_, ?_, Or.inl ⟨rfl, rfl⟩, Fr.refl S, Gr.refl T⟩
      · rw [if_pos h]
      · rw [if_pos h]
    · have h : ¬ nI n ≤ nI a := nI_ge (by omega) (by omega)
      have e2 : nI a + (2 : Int32) = nI (a + 2) := nI_add a 2
      have e3 : nI a + (3 : Int32) = nI (a + 3) := nI_add a 3
      have e4 : nI a + (4 : Int32) = nI (a + 4) := nI_add a 4
      rw [if_neg h, if_neg h]
      by_cases h1 : a + 1 < n
      · have b0 := (hB.2.2.2 a).2.2
        have b1 := (hB.2.2.2 (a + 1)).2.2
        obtain ⟨cn, hcn⟩ : ∃ cn, cn = 256 * B a + B (a + 1) := ⟨_, rfl⟩
        have ecn : (256 : Int32) * nI (B a) + nI (B (a + 1)) = nI cn := by
          rw [show (256 : Int32) = nI 256 from rfl, pk_mul, nI_add, hcn]
        have hm1 : ¬ nI (B (a + 1)) = (-1 : Int32) := by
          intro e
          have := congrArg Int32.toInt e
          rw [nI_toInt (by omega)] at this
          have u : (-1 : Int32).toInt = -1 := by decide
          omega
        have hct : m_X5_countAt (nI a) S = some (nI cn, S) := by
          unfold m_X5_countAt
          rw [byt hB (by omega), some_bind', nI_1, byt hB h1, some_bind']
          simp only [if_neg hm1, ecn]
        have i0 : inb (nI a) 6000 = true := inb_nI (by omega) (by omega)
        have i1 : inb (nI (a + 1)) 6000 = true := inb_nI (by omega) (by omega)
        have i2 : inb (nI (a + 2)) 6000 = true := inb_nI (by omega) (by omega)
        have i3 : inb (nI (a + 3)) 6000 = true := inb_nI (by omega) (by omega)
        have j0 : (nI a).toNatClampNeg = a := nI_cl (by omega)
        have j1 : (nI (a + 1)).toNatClampNeg = a + 1 := nI_cl (by omega)
        have j2 : (nI (a + 2)).toNatClampNeg = a + 2 := nI_cl (by omega)
        have j3 : (nI (a + 3)).toNatClampNeg = a + 3 := nI_cl (by omega)
        have hle2 : nI (a + 2) ≤ nI n := nI_le (by omega) (by omega)
        rw [hct, some_bind']
        simp only [e2, e3, e4, nI_1, if_pos hle2, if_pos i0, if_pos i1, if_pos i2, if_pos i3, j0, j1, j2, j3, (hB.2.2.2 a).2.1, (hB.2.2.2 (a + 1)).2.1, (hB.2.2.2 (a + 2)).2.1, (hB.2.2.2 (a + 3)).2.1, ecn, hB.2.1]
        by_cases hc2 : cn < 2
        · have k : nI cn < (2 : Int32) := nI_lt (b := 2) hc2 (by omega)
          simp only [if_pos k]
          exact ⟨-2, S, -1, T, rfl, rfl, Or.inr (Or.inl ⟨rfl, rfl⟩), Fr.refl S, Gr.refl T⟩
        · have k : ¬ nI cn < (2 : Int32) := nI_nlt (b := 2) (by omega) (by omega)
          have es : nI n - nI a - (2 : Int32) = nI (n - a - 2) := by
            rw [pk_sub (by omega), show (2 : Int32) = nI 2 from rfl, pk_sub (by omega)]
          have ea : (2 : Int32) + nI cn = nI (2 + cn) := by rw [show (2 : Int32) = nI 2 from rfl, nI_add]
          simp only [if_neg k, es, ea, nI_add]
          by_cases hc3 : a + 2 + cn ≤ n
          · have k1 : nI cn ≤ nI (n - a - 2) := nI_le (by omega) (by omega)
            have k2 : nI (a + 2 + cn) ≤ nI n := nI_le hc3 (by omega)
            have b2 := (hB.2.2.2 (a + 2)).2.2
            have b3 := (hB.2.2.2 (a + 3)).2.2
            have fr0 : ∀ v u : Int32, Fr S (st (st S 20 8 v) 20 9 u) := fun v u => ⟨fun k h => by simp [st, show k ≠ 20 by omega], fun j h1 h2 => by simp [st_at, show j ≠ 8 by omega, show j ≠ 9 by omega]⟩
            have fr8 : ∀ v : Int32, Fr S (st S 20 8 v) := fun v => ⟨fun k h => by simp [st, show k ≠ 20 by omega], fun j h1 h2 => by simp [st_at, show j ≠ 8 by omega]⟩
            have x3 : ∀ v, m_X7_byteAt (nI (a + 3)) (st S 20 8 v) = some (nI (B (a + 3)), st S 20 8 v) := fun v => byt (hB.fr (fr8 v) (Gr.refl T)) (by omega)
            have r8 : ∀ u v : Int32, st (st S 20 8 v) 20 9 u 20 8 = v := fun u v => by simp [st_at]
            have r9 : ∀ u v : Int32, st (st S 20 8 v) 20 9 u 20 9 = u := fun u v => by simp [st_at]
            simp only [if_pos k1, if_pos k2, byt hB (show a + 2 < n by omega), some_bind', x3, st_rd, nI_add]
            rw [st_col _ 20 _ (show (8 : Nat) ≠ 9 by omega), st_rd]
            obtain ⟨S', hS'⟩ : ∃ S', S' = st (st S 20 8 (nI (B (a + 2)))) 20 9 (nI (B (a + 2) + B (a + 3))) := ⟨_, rfl⟩
            have frS : Fr S S' := by rw [hS']; exact fr0 _ _
            have s8 : S' 20 8 = nI (B (a + 2)) := by rw [hS']; exact r8 _ _
            have s9 : S' 20 9 = nI (B (a + 2) + B (a + 3)) := by rw [hS']; exact r9 _ _
            rw [← hS', show a + (2 + cn) = a + 2 + cn by omega]
            obtain ⟨r1, S1, r9', T1, n1, n2, n3, n4, n5⟩ := ih (a + 2 + cn) f g S' T (by omega) (by omega) (by omega) hc3 (hB.fr frS (Gr.refl T))
            by_cases hw : w < nI (B (a + 2))
            · simp only [if_pos hw]
              exact ⟨r1, S1, r9', T1, n1, n2, n3, frS.trans n4, n5⟩
            · by_cases hw2 : nI (B (a + 2) + B (a + 3)) ≤ w
              · simp only [if_neg hw, if_pos hw2]
                exact ⟨r1, S1, r9', T1, n1, n2, n3, frS.trans n4, n5⟩
              · simp only [if_neg hw, if_neg hw2]
                obtain ⟨u1, u2, u3⟩ := begQ (T := T) s8 s9
                unfold m_X5_readProgram
                rw [rp9_eq _ _ _ _ _ _ hw, fst3_eq, some_bind', cpy_eq (by omega) (by omega) (by omega), some_bind']
                obtain ⟨r, S2, T2, g1, g2, g3, g4, g5⟩ := rp_sim (n := n) (B := B) (to := a + 2 + cn) (x3 := B (a + 2)) (x4 := B (a + 3)) w hc3 (by omega) (by omega) (a + 2 + cn) (a + 4) 10000 10000 0 (B (a + 2)) _ _ (by omega) (by omega) (by omega) (by omega) ((hB.fr frS (Gr.refl T)).fr u2 u3) u1 (by omega)
                simp only [g1, g2, some_bind']
                rcases g3 with rfl | ⟨rfl, gQ⟩
                · exact ⟨-2, S2, -1, T2, rfl, rfl, Or.inr (Or.inl ⟨rfl, rfl⟩), (frS.trans u2).trans g4, u3.trans g5⟩
                · exact ⟨0, S2, 1, T2, rfl, rfl, Or.inr (Or.inr ⟨rfl, rfl, gQ⟩), (frS.trans u2).trans g4, u3.trans g5⟩
          · have k1 : ¬ nI cn ≤ nI (n - a - 2) := nI_ge (by omega) (by omega)
            have k2 : ¬ nI (a + 2 + cn) ≤ nI n := nI_ge (by omega) (by omega)
            simp only [if_neg k1, if_neg k2]
            exact ⟨-2, S, -1, T, rfl, rfl, Or.inr (Or.inl ⟨rfl, rfl⟩), Fr.refl S, Gr.refl T⟩
      · have hct : m_X5_countAt (nI a) S = some (-1, S) := by
          unfold m_X5_countAt
          rw [byt hB (by omega), some_bind', nI_1, byo hB (by omega) (by omega), some_bind']
          rfl
        have k : ¬ nI (a + 2) ≤ nI n := nI_ge (by omega) (by omega)
        have k2 : (-1 : Int32) < 2 := by decide
        rw [hct, some_bind']
        simp only [e2, if_neg k, if_pos k2]
        exact ⟨-2, S, -1, T, rfl, rfl, Or.inr (Or.inl ⟨rfl, rfl⟩), Fr.refl S, Gr.refl T⟩
theorem look_sim {S T : St} (hR : Rel S T) (w : Int32) : ∃ (r1 : Int32) (S1 : St) (r9 : Int32) (T1 : St), m_X5_lookUp w S = some (r1, S1) ∧ m_X9_findRow w T = some (r9, T1) ∧ LU w r1 r9 S1 T1 ∧ Fr S S1 ∧ Gr T T1 := by
  obtain ⟨n, B, hB⟩ := hR.2.2.1.sb
  have hn := hB.1
  unfold m_X5_lookUp m_X9_findRow
  exact lu_sim w n 0 10000 10000 S T (by omega) (by omega) (by omega) (by omega) hB
theorem sim_row (S T : St) (z0 z1 : Int32) (hR : Rel S T) : ∃ (r1 : Int32) (S1 : St) (r9 : Int32) (T1 : St), m_X8_row z0 z1 S = some (r1, S1) ∧ m_X9_row z0 z1 T = some (r9, T1) ∧ m_X9_thrown T1 = some (S1 40 0, T1) ∧ (S1 40 0 = 0 → r1 = r9) ∧ (S1 40 0 = 0 ∨ S1 40 0 = 1) ∧ Rel S1 T1 := by
  obtain ⟨r1, S1, r9, T1, h1, h2, h3, h4, h5⟩ := look_sim hR z0
  have hR1 := hR.fr h4 h5
  unfold m_X8_row m_X9_row m_X9_row_L16 m_X9_thrown
  rw [h1, h2, some_bind', some_bind']
  have p0 : (0 : Int32) ≤ 0 := by decide
  have p1 : (0 : Int32) ≤ 1 := by decide
  have p2 : ¬ (0 : Int32) ≤ -1 := by decide
  have p3 : ¬ (1 : Int32) ≤ 0 := by decide
  have p4 : ¬ (-1 : Int32) = -2 := by decide
  have p5 : ¬ (-1 : Int32) = 0 := by decide
  have p6 : ¬ (0 : Int32) = -2 := by decide
  rcases h3 with ⟨rfl, rfl⟩ | ⟨rfl, rfl⟩ | ⟨rfl, rfl, hQ, -⟩
  · simp only [if_neg p4, if_neg p5, if_pos p0, st_rd, if_true]
    refine ⟨_, _, _, _, rfl, rfl, ?_, fun _ => rfl, Or.inl ?_, (hR1.x 0).t 0⟩
    · rw [st_rd, st_rd]
    · rw [st_rd]
  · simp only [if_neg p2, if_neg p3, st_rd, if_true]
    refine ⟨_, _, _, _, rfl, rfl, ?_, fun _ => rfl, Or.inr ?_, (hR1.x 1).t 1⟩
    · rw [st_rd, st_rd]
    · rw [st_rd]
  · obtain ⟨z1', z2', z3', z4', z5'⟩ := hQ
    have hP : ∃ r, m_X6_part 2 z1 S1 = some (r, S1) ∧ (if z1 < 0 then some ((-1 : Int32), st T1 30 0 0) else if z1 ≤ (4 : Int32) then (if inb z1 5 = true then some (st T1 30 0 0 13 z1.toNatClampNeg, st T1 30 0 0) else none) else some ((-1 : Int32), st T1 30 0 0)) = some (r, st T1 30 0 0) := by
      unfold m_X6_part
      rcases ix3 z1 (n := 5) (by omega) with k | ⟨k0, k1, k2⟩ | ⟨i, hi, rfl, k0, k1, k2⟩
      · rw [if_pos k, if_pos k]; exact ⟨_, rfl, rfl⟩
      · have k3 : ¬ z1 < 5 := k2
        have k4 : ¬ z1 ≤ 4 := by
          rw [Int32.le_iff_toInt_le] at k1 ⊢
          have e1 : (nI 5).toInt = 5 := by decide
          have e2 : (4 : Int32).toInt = 4 := by decide
          omega
        rw [if_neg k0, if_neg k0, if_neg k3, if_neg k4]; exact ⟨_, rfl, rfl⟩
      · have k3 : nI i < 5 := k2
        have k4 : nI i ≤ 4 := nI_le (b := 4) (by omega) (by decide)
        have q : ∀ j, st T1 30 0 (0 : Int32) 13 j = T1 13 j := fun j => st_row _ _ _ _ (by omega)
        rw [if_neg k0, if_neg k0, if_pos k3, if_pos k4, if_pos (inb_nI hi (by omega)), nI_cl (by omega), q]
        rcases (show i = 0 ∨ i = 1 ∨ i = 2 ∨ i = 3 ∨ i = 4 by omega) with rfl | rfl | rfl | rfl | rfl
        · exact ⟨_, rfl, by rw [← z1']⟩
        · exact ⟨_, rfl, by rw [← z2']⟩
        · exact ⟨_, rfl, by rw [← z3']; rfl⟩
        · exact ⟨_, rfl, by rw [← z4']; rfl⟩
        · exact ⟨_, rfl, by rw [← z5']; rfl⟩
    obtain ⟨r, hp1, hp2⟩ := hP
    simp only [if_neg p6, if_pos p1, if_pos p0, st_rd, if_true, hp1, some_bind', if_neg i10, hp2]
    refine ⟨_, _, _, _, rfl, rfl, ?_, fun _ => rfl, Or.inl ?_, (hR1.x 0).t 0⟩
    · rw [st_rd, st_rd]
    · rw [st_rd]
