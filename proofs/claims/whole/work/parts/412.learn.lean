/-! the finder: learning and recalling -/
def KN (S T : St) (p : Nat) : Prop := ∃ (h fr : Nat) (s : Nat → Nat), NB h fr s ∧ S 5 (5 * p) = nI h ∧ T 6 (5 * p) = nI h ∧ S 5 (5 * p + 1) = nI fr ∧ T 6 (5 * p + 1) = nI fr ∧ ∀ r, r < 3 → S 5 (5 * p + 2 + r) = nI (s r) ∧ T 6 (5 * p + 2 + r) = nI (s r)
def MK (S T : St) (p : Nat) : Prop := (S 3 p = 0 ∧ T 6 (5 * p) = 0 ∧ T 7 p = 0) ∨ (S 3 p = 1 ∧ T 7 p = 0 ∧ KN S T p) ∨ (S 3 p = 2 ∧ T 7 p = 1 ∧ KN S T p)
theorem KN.congr {S T S1 T1 : St} {p : Nat} (h : KN S T p) (a : ∀ j, 5 * p ≤ j → j < 5 * p + 5 → S1 5 j = S 5 j) (b : ∀ j, 5 * p ≤ j → j < 5 * p + 5 → T1 6 j = T 6 j) : KN S1 T1 p := by
  obtain ⟨h, fr, s, k0, k1, k2, k3, k4, k5⟩ := h
  refine ⟨h, fr, s, k0, by rw [a _ (by omega) (by omega)]; exact k1, by rw [b _ (by omega) (by omega)]; exact k2, by rw [a _ (by omega) (by omega)]; exact k3, by rw [b _ (by omega) (by omega)]; exact k4, fun r hr => ?_⟩
  rw [a _ (by omega) (by omega), b _ (by omega) (by omega)]; exact k5 r hr
theorem MK.congr {S T S1 T1 : St} {p : Nat} (h : MK S T p) (m : S1 3 p = S 3 p) (n : T1 7 p = T 7 p) (a : ∀ j, 5 * p ≤ j → j < 5 * p + 5 → S1 5 j = S 5 j) (b : ∀ j, 5 * p ≤ j → j < 5 * p + 5 → T1 6 j = T 6 j) : MK S1 T1 p := by
  rcases h with ⟨h1, h2, h3⟩ | ⟨h1, h2, h3⟩ | ⟨h1, h2, h3⟩
  · exact Or.inl ⟨by rw [m]; exact h1, by rw [b _ (by omega) (by omega)]; exact h2, by rw [n]; exact h3⟩
  · exact Or.inr (Or.inl ⟨by rw [m]; exact h1, by rw [n]; exact h2, h3.congr a b⟩)
  · exact Or.inr (Or.inr ⟨by rw [m]; exact h1, by rw [n]; exact h2, h3.congr a b⟩)
theorem m5 (p : Nat) : (5 : Int32) * nI p = nI (5 * p) := by rw [show (5 : Int32) = nI 5 from rfl, pk_mul]
theorem m5r (p : Nat) : nI p * (5 : Int32) = nI (5 * p) := by rw [show (5 : Int32) = nI 5 from rfl, pk_mul, Nat.mul_comm]
theorem l59 {p : Nat} (hp : p ≤ 96) : ∀ (d j G : Nat) (T : St), j + d = 5 → d < G → ∃ T1 : St, m_X9_learn_L59 G (nI p) (nI j) T = some (1, T1) ∧ (∀ k, k ≠ 6 → T1 k = T k) ∧ (∀ i, (i < 5 * p + j ∨ 5 * p + 5 ≤ i) → T1 6 i = T 6 i) ∧ ∀ i, j ≤ i → i < 5 → T1 6 (5 * p + i) = T 9 i := by
  intro d
  induction d with
  | zero =>
    intro j G T hj hG
    obtain ⟨g, rfl⟩ : ∃ g, G = g + 1 := ⟨G - 1, by omega⟩
    refine ⟨T, ?_, fun _ _ => rfl, fun _ _ => rfl, fun i h1 h2 => absurd h1 (by omega)⟩
    rw [m_X9_learn_L59, if_pos (show (5 : Int32) ≤ nI j from nI_le (a := 5) (by omega) (by omega))]; rfl
  | succ d ih =>
    intro j G T hj hG
    obtain ⟨g, rfl⟩ : ∃ g, G = g + 1 := ⟨G - 1, by omega⟩
    obtain ⟨T1, q1, q2, q3, q4⟩ := ih (j + 1) g (st T 6 (5 * p + j) (T 9 j)) (by omega) (by omega)
    refine ⟨T1, ?_, fun k hk => by rw [q2 k hk, st_ne _ _ _ hk], fun i hi => by rw [q3 i (by omega), st_col _ _ _ (by omega)], fun i h1 h2 => ?_⟩
    · rw [m_X9_learn_L59, if_neg (show ¬ (5 : Int32) ≤ nI j from nI_ge (b := 5) (by omega) (by omega)), if_pos (inb_nI (show j < 5 by omega) (by omega)), m5, nI_add, if_pos (inb_nI (show 5 * p + j < 485 by omega) (by omega)), nI_cl (by omega), nI_cl (by omega), nI_1]
      exact q1
    · by_cases hi : i = j
      · subst hi
        rw [q3 _ (by omega), st_rd]
      · rw [q4 i (by omega) h2, st_row _ _ _ _ (by omega)]
theorem l4z {p : Nat} (hp : p ≤ 96) {T : St} (h0 : T 6 (5 * p) = 0) : ∀ (d j G : Nat) (f : Int32), j + d = 5 → d < G → m_X9_learn_L4 G (nI p) f (nI j) T = m_X9_learn_L59 10000 (nI p) 0 T := by
  intro d
  induction d with
  | zero =>
    intro j G f hj hG
    obtain ⟨g, rfl⟩ : ∃ g, G = g + 1 := ⟨G - 1, by omega⟩
    rw [m_X9_learn_L4, if_pos (show (5 : Int32) ≤ nI j from nI_le (a := 5) (by omega) (by omega)), m5, if_pos (inb_nI (show 5 * p < 485 by omega) (by omega)), nI_cl (by omega), h0, if_pos (show (0 : Int32) ≤ 0 by decide)]
  | succ d ih =>
    intro j G f hj hG
    obtain ⟨g, rfl⟩ : ∃ g, G = g + 1 := ⟨G - 1, by omega⟩
    rw [m_X9_learn_L4, if_neg (show ¬ (5 : Int32) ≤ nI j from nI_ge (b := 5) (by omega) (by omega)), m5, nI_add, if_pos (inb_nI (show 5 * p + j < 485 by omega) (by omega)), if_pos (inb_nI (show j < 5 by omega) (by omega)), nI_1, ih (j + 1) g 0 (by omega) (by omega), ih (j + 1) g 1 (by omega) (by omega)]
    split
    · rfl
    · split <;> rfl
theorem l4k {p : Nat} (hp : p ≤ 96) {T : St} (h0 : ¬ T 6 (5 * p) ≤ 0) : ∀ (d j G : Nat), j + d = 5 → d < G → m_X9_learn_L4 G (nI p) 0 (nI j) T = some (0, T) ∧ ((∀ i, j ≤ i → i < 5 → T 6 (5 * p + i) = T 9 i) → m_X9_learn_L4 G (nI p) 1 (nI j) T = some (1, T)) ∧ ((¬ ∀ i, j ≤ i → i < 5 → T 6 (5 * p + i) = T 9 i) → m_X9_learn_L4 G (nI p) 1 (nI j) T = some (0, T)) := by
  intro d
  induction d with
  | zero =>
    intro j G hj hG
    obtain ⟨g, rfl⟩ : ∃ g, G = g + 1 := ⟨G - 1, by omega⟩
    have e : ∀ f, m_X9_learn_L4 (g + 1) (nI p) f (nI j) T = bz f T := fun f => by
      rw [m_X9_learn_L4, if_pos (show (5 : Int32) ≤ nI j from nI_le (a := 5) (by omega) (by omega)), m5, if_pos (inb_nI (show 5 * p < 485 by omega) (by omega)), nI_cl (by omega), if_neg h0]
    rw [e, e]
    exact ⟨rfl, fun _ => rfl, fun q => absurd (fun i h1 h2 => absurd h1 (by omega)) q⟩
  | succ d ih =>
    intro j G hj hG
    obtain ⟨g, rfl⟩ : ∃ g, G = g + 1 := ⟨G - 1, by omega⟩
    obtain ⟨i1, i2, i3⟩ := ih (j + 1) g (by omega) (by omega)
    have e0 : m_X9_learn_L4 (g + 1) (nI p) 0 (nI j) T = some (0, T) := by
      rw [m_X9_learn_L4, if_neg (show ¬ (5 : Int32) ≤ nI j from nI_ge (b := 5) (by omega) (by omega)), if_pos rfl, nI_1]; exact i1
    have e1 : m_X9_learn_L4 (g + 1) (nI p) 1 (nI j) T = if T 6 (5 * p + j) = T 9 j then m_X9_learn_L4 g (nI p) 1 (nI (j + 1)) T else m_X9_learn_L4 g (nI p) 0 (nI (j + 1)) T := by
      rw [m_X9_learn_L4, if_neg (show ¬ (5 : Int32) ≤ nI j from nI_ge (b := 5) (by omega) (by omega)), if_neg i10, m5, nI_add, if_pos (inb_nI (show 5 * p + j < 485 by omega) (by omega)), if_pos (inb_nI (show j < 5 by omega) (by omega)), nI_1, nI_cl (by omega), nI_cl (by omega)]
    rw [e0, e1]
    refine ⟨rfl, fun q => ?_, fun q => ?_⟩
    · rw [if_pos (q j (by omega) (by omega))]
      exact i2 (fun i h1 h2 => q i (by omega) h2)
    · by_cases hj2 : T 6 (5 * p + j) = T 9 j
      · rw [if_pos hj2]
        refine i3 (fun q2 => q (fun i h1 h2 => ?_))
        by_cases hi : i = j
        · subst hi; exact hj2
        · exact q2 i (by omega) h2
      · rw [if_neg hj2]; exact i1
theorem l62f {p : Nat} (hp : p ≤ 96) : ∀ (d j F : Nat) (S : St), j + d = 3 → d < F → ∃ S1 : St, m_X1_learn_L62 F (nI (5 * p)) (nI j) S = some (0, S1) ∧ (∀ k, k ≠ 5 → S1 k = S k) ∧ (∀ i, (i < 5 * p + 2 + j ∨ 5 * p + 5 ≤ i) → S1 5 i = S 5 i) ∧ ∀ i, j ≤ i → i < 3 → S1 5 (5 * p + 2 + i) = S 6 i := by
  intro d
  induction d with
  | zero =>
    intro j F S hj hF
    obtain ⟨f, rfl⟩ : ∃ f, F = f + 1 := ⟨F - 1, by omega⟩
    refine ⟨S, ?_, fun _ _ => rfl, fun _ _ => rfl, fun i h1 h2 => absurd h1 (by omega)⟩
    rw [m_X1_learn_L62, if_pos (show (3 : Int32) ≤ nI j from nI_le (a := 3) (by omega) (by omega))]
  | succ d ih =>
    intro j F S hj hF
    obtain ⟨f, rfl⟩ : ∃ f, F = f + 1 := ⟨F - 1, by omega⟩
    obtain ⟨S1, q1, q2, q3, q4⟩ := ih (j + 1) f (st S 5 (5 * p + 2 + j) (S 6 j)) (by omega) (by omega)
    refine ⟨S1, ?_, fun k hk => by rw [q2 k hk, st_ne _ _ _ hk], fun i hi => by rw [q3 i (by omega), st_col _ _ _ (by omega)], fun i h1 h2 => ?_⟩
    · rw [m_X1_learn_L62, if_neg (show ¬ (3 : Int32) ≤ nI j from nI_ge (b := 3) (by omega) (by omega)), if_pos (inb_nI (show j < 3 by omega) (by omega)), show nI (5 * p) + (2 : Int32) = nI (5 * p + 2) from nI_add _ 2, nI_add, if_pos (inb_nI (show 5 * p + 2 + j < 485 by omega) (by omega)), nI_cl (by omega), nI_cl (by omega), nI_1]
      exact q1
    · by_cases hi : i = j
      · subst hi
        rw [q3 _ (by omega), st_rd]
      · rw [q4 i (by omega) h2, st_row _ _ _ _ (by omega)]
theorem l41 {p : Nat} (hp : p ≤ 96) {S : St} {s s1 : Nat → Nat} (bs : ∀ r, r < 3 → s r ≤ 30) (bs1 : ∀ r, r < 3 → s1 r ≤ 30) (e1 : ∀ r, r < 3 → S 6 r = nI (s r)) (e2 : ∀ r, r < 3 → S 5 (5 * p + 2 + r) = nI (s1 r)) : ∀ (d j F : Nat), j + d = 3 → d < F → m_X1_isKnown_L41 F (nI (5 * p)) 0 (nI j) S = some (0, S) ∧ ((∀ i, j ≤ i → i < 3 → s1 i = s i) → m_X1_isKnown_L41 F (nI (5 * p)) 1 (nI j) S = some (1, S)) ∧ ((¬ ∀ i, j ≤ i → i < 3 → s1 i = s i) → m_X1_isKnown_L41 F (nI (5 * p)) 1 (nI j) S = some (0, S)) := by
  intro d
  induction d with
  | zero =>
    intro j F hj hF
    obtain ⟨f, rfl⟩ : ∃ f, F = f + 1 := ⟨F - 1, by omega⟩
    have e : ∀ v, m_X1_isKnown_L41 (f + 1) (nI (5 * p)) v (nI j) S = bz v S := fun v => by
      rw [m_X1_isKnown_L41, if_pos (show (3 : Int32) ≤ nI j from nI_le (a := 3) (by omega) (by omega))]
    rw [e, e]
    exact ⟨rfl, fun _ => rfl, fun q => absurd (fun i h1 h2 => absurd h1 (by omega)) q⟩
  | succ d ih =>
    intro j F hj hF
    obtain ⟨f, rfl⟩ : ∃ f, F = f + 1 := ⟨F - 1, by omega⟩
    obtain ⟨i1, i2, i3⟩ := ih (j + 1) f (by omega) (by omega)
    have t1 := bs j (by omega)
    have t2 := bs1 j (by omega)
    have z0 : m_X1_isKnown_L41 (f + 1) (nI (5 * p)) 0 (nI j) S = some (0, S) := by
      rw [m_X1_isKnown_L41, if_neg (show ¬ (3 : Int32) ≤ nI j from nI_ge (b := 3) (by omega) (by omega)), if_pos rfl, nI_1]; exact i1
    have z1 : m_X1_isKnown_L41 (f + 1) (nI (5 * p)) 1 (nI j) S = if s1 j = s j then m_X1_isKnown_L41 f (nI (5 * p)) 1 (nI (j + 1)) S else m_X1_isKnown_L41 f (nI (5 * p)) 0 (nI (j + 1)) S := by
      rw [m_X1_isKnown_L41, if_neg (show ¬ (3 : Int32) ≤ nI j from nI_ge (b := 3) (by omega) (by omega)), if_neg i10, show nI (5 * p) + (2 : Int32) = nI (5 * p + 2) from nI_add _ 2, nI_add, if_pos (inb_nI (show 5 * p + 2 + j < 485 by omega) (by omega)), if_pos (inb_nI (show j < 3 by omega) (by omega)), nI_1, nI_cl (by omega), nI_cl (by omega), e1 j (by omega), e2 j (by omega)]
      simp only [q_eq (show s1 j < 2 ^ 31 by omega) (show s j < 2 ^ 31 by omega)]
    rw [z0, z1]
    refine ⟨rfl, fun q => ?_, fun q => ?_⟩
    · rw [if_pos (q j (by omega) (by omega))]
      exact i2 (fun i h1 h2 => q i (by omega) h2)
    · by_cases hj2 : s1 j = s j
      · rw [if_pos hj2]
        refine i3 (fun q2 => q (fun i h1 h2 => ?_))
        by_cases hi : i = j
        · subst hi; exact hj2
        · exact q2 i (by omega) h2
      · rw [if_neg hj2]; exact i1
/-- what learning changes -/
def FL (p : Nat) (S S1 : St) : Prop := (∀ k, k ≠ 3 → k ≠ 5 → S1 k = S k) ∧ (∀ q, q ≠ p → S1 3 q = S 3 q) ∧ (∀ j, (j < 5 * p ∨ 5 * p + 5 ≤ j) → S1 5 j = S 5 j) ∧ (S1 3 p = 2 ↔ S 3 p = 2)
def GL (p : Nat) (T T1 : St) : Prop := (∀ k, k ≠ 6 → T1 k = T k) ∧ ∀ j, (j < 5 * p ∨ 5 * p + 5 ≤ j) → T1 6 j = T 6 j
theorem i21 : ¬ (2 : Int32) = 0 := by decide
theorem i12 : ¬ (1 : Int32) = 2 := by decide
theorem i02 : ¬ (0 : Int32) = 2 := by decide
theorem learn_new {S T : St} {p h fr : Nat} {s : Nat → Nat} (hp : p ≤ 96) (h1 : S 3 p = 0) (h2 : T 6 (5 * p) = 0) (h3 : T 7 p = 0) (hw : NW S T h fr s) (hb : NB h fr s) : ∃ S1 T1 : St, m_X1_learn (nI p) S = some (0, S1) ∧ m_X9_learn (nI p) T = some (1, T1) ∧ MK S1 T1 p ∧ FL p S S1 ∧ GL p T T1 := by
  obtain ⟨a1, a2, a3, a4, a5⟩ := id hw
  obtain ⟨b1, b2, b3, b4⟩ := id hb
  have j1 : inb (nI p) 97 = true := inb_nI (by omega) (by omega)
  have j2 : inb (nI (5 * p)) 485 = true := inb_nI (by omega) (by omega)
  have j3 : inb (nI (5 * p + 1)) 485 = true := inb_nI (by omega) (by omega)
  have k1 : (nI p).toNatClampNeg = p := nI_cl (by omega)
  have k2 : (nI (5 * p)).toNatClampNeg = 5 * p := nI_cl (by omega)
  have k3 : (nI (5 * p + 1)).toNatClampNeg = 5 * p + 1 := nI_cl (by omega)
  have t9 : ∀ i, i < 5 → (T 9 i = if i = 0 then nI h else if i = 1 then nI fr else nI (s (i - 2))) := by
    intro i hi
    rcases (show i = 0 ∨ i = 1 ∨ i = 2 ∨ i = 3 ∨ i = 4 by omega) with rfl | rfl | rfl | rfl | rfl
    · exact a2
    · exact a4
    · exact (a5 0 (by omega)).2
    · exact (a5 1 (by omega)).2
    · exact (a5 2 (by omega)).2
  obtain ⟨T1, q1, q2, q3, q4⟩ := l59 hp 5 0 10000 T (by omega) (by omega)
  obtain ⟨S0, hS0⟩ : ∃ S0, S0 = st (st (st S 3 p 1) 5 (5 * p) (nI h)) 5 (5 * p + 1) (nI fr) := ⟨_, rfl⟩
  obtain ⟨S1, r1, r2, r3, r4⟩ := l62f hp 3 0 10000 S0 (by omega) (by omega)
  have z3 : S0 3 = (st S 3 p 1) 3 := by rw [hS0, st_ne _ _ _ (by omega), st_ne _ _ _ (by omega)]
  refine ⟨S1, T1, ?_, ?_, Or.inr (Or.inl ⟨?_, ?_, h, fr, s, hb, ?_, ?_, ?_, ?_, fun r hr => ⟨?_, ?_⟩⟩), ⟨fun k hk3 hk5 => ?_, fun q hq => ?_, fun j hj => ?_, ?_⟩, q2, fun j hj => q3 j (by omega)⟩
  · unfold m_X1_learn
    rw [if_pos j1, k1, if_pos h1, if_pos j1, m5r, if_pos j2, nI_1, if_pos j3, k2, k3, st_row _ _ _ _ (show (20 : Nat) ≠ 3 by omega), a1, st_row _ _ _ _ (show (20 : Nat) ≠ 5 by omega), st_row _ _ _ _ (show (20 : Nat) ≠ 3 by omega), a3, ← hS0]
    exact r1
  · unfold m_X9_learn
    have := l4z hp h2 5 0 10000 1 (by omega) (by omega)
    rw [show nI 0 = (0 : Int32) from rfl] at this
    rw [this]; exact q1
  · rw [r2 3 (by omega), z3, st_rd]
  · rw [q2 7 (by omega)]; exact h3
  · rw [r3 _ (by omega), hS0, st_col _ _ _ (by omega), st_rd]
  · have := q4 0 (by omega) (by omega)
    rw [t9 0 (by omega)] at this; exact this
  · rw [r3 _ (by omega), hS0, st_rd]
  · have := q4 1 (by omega) (by omega)
    rw [t9 1 (by omega)] at this; exact this
  · rw [r4 r (by omega) hr, hS0, st_row _ _ _ _ (by omega), st_row _ _ _ _ (by omega), st_row _ _ _ _ (by omega)]; exact (a5 r hr).1
  · have := q4 (2 + r) (by omega) (by omega)
    rw [show 5 * p + (2 + r) = 5 * p + 2 + r by omega] at this
    rw [this]; exact (a5 r hr).2
  · rw [r2 k hk5, hS0, st_ne _ _ _ hk5, st_ne _ _ _ hk5, st_ne _ _ _ hk3]
  · rw [r2 3 (by omega), z3, st_col _ _ _ hq]
  · rw [r3 j (by omega), hS0, st_col _ _ _ (by omega), st_col _ _ _ (by omega), st_row _ _ _ _ (by omega)]
  · rw [r2 3 (by omega), z3, st_rd, h1]
    exact ⟨fun q => absurd q i12, fun q => absurd q i02⟩
theorem learn_sim {S T : St} {p h fr : Nat} {s : Nat → Nat} (hp : p ≤ 96) (hk : MK S T p) (hw : NW S T h fr s) (hb : NB h fr s) : (∃ S1 T1 : St, m_X1_learn (nI p) S = some (0, S1) ∧ m_X9_learn (nI p) T = some (1, T1) ∧ MK S1 T1 p ∧ FL p S S1 ∧ GL p T T1) ∨ (m_X1_learn (nI p) S = some (nI (700 + p), S) ∧ m_X9_learn (nI p) T = some (0, T)) := by
  obtain ⟨a1, a2, a3, a4, a5⟩ := id hw
  obtain ⟨b1, b2, b3, b4⟩ := id hb
  have j1 : inb (nI p) 97 = true := inb_nI (by omega) (by omega)
  have j2 : inb (nI (5 * p)) 485 = true := inb_nI (by omega) (by omega)
  have j3 : inb (nI (5 * p + 1)) 485 = true := inb_nI (by omega) (by omega)
  have k1 : (nI p).toNatClampNeg = p := nI_cl (by omega)
  have k2 : (nI (5 * p)).toNatClampNeg = 5 * p := nI_cl (by omega)
  have k3 : (nI (5 * p + 1)).toNatClampNeg = 5 * p + 1 := nI_cl (by omega)
  have t9 : ∀ i, i < 5 → (T 9 i = if i = 0 then nI h else if i = 1 then nI fr else nI (s (i - 2))) := by
    intro i hi
    rcases (show i = 0 ∨ i = 1 ∨ i = 2 ∨ i = 3 ∨ i = 4 by omega) with rfl | rfl | rfl | rfl | rfl
    · exact a2
    · exact a4
    · exact (a5 0 (by omega)).2
    · exact (a5 1 (by omega)).2
    · exact (a5 2 (by omega)).2
  rcases hk with ⟨h1, h2, h3⟩ | hkn
  · exact Or.inl (learn_new hp h1 h2 h3 hw hb)
  · have hmk : MK S T p := Or.inr hkn
    have hne : ¬ S 3 p = 0 := by
      rcases hkn with ⟨h1, -⟩ | ⟨h1, -⟩
      · rw [h1]; exact i10
      · rw [h1]; exact i21
    obtain ⟨h', fr', s', b', k1', k2', k3', k4', k5'⟩ : KN S T p := by
      rcases hkn with ⟨-, -, h1⟩ | ⟨-, -, h1⟩
      · exact h1
      · exact h1
    have hb' := b'
    obtain ⟨c1, c2, c3, c4⟩ := b'
    have h0 : ¬ T 6 (5 * p) ≤ 0 := by rw [k2']; exact nI_nle (by omega) (by omega)
    obtain ⟨x1, x2, x3⟩ := l4k hp h0 5 0 10000 (by omega) (by omega)
    obtain ⟨y1, y2, y3⟩ := l41 hp b4 c4 (fun r hr => (a5 r hr).1) (fun r hr => (k5' r hr).1) 3 0 10000 (by omega) (by omega)
    rw [show nI 0 = (0 : Int32) from rfl] at x1 x2 x3 y1 y2 y3
    have q1 : (nI h' = nI h) = (h' = h) := q_eq (by omega) (by omega)
    have q2 : (nI fr' = nI fr) = (fr' = fr) := q_eq (by omega) (by omega)
    have hc : m_X1_learn (nI p) S = (m_X1_isKnown (nI p) S).bind fun r1 => if r1.1 = 0 then some ((700 : Int32) + nI p, r1.2) else some (0, r1.2) := by
      unfold m_X1_learn
      rw [if_pos j1, k1, if_neg hne]
    have hkc : m_X1_isKnown (nI p) S = if h' = h then (if fr' = fr then m_X1_isKnown_L41 10000 (nI (5 * p)) 1 0 S else m_X1_isKnown_L41 10000 (nI (5 * p)) 0 0 S) else m_X1_isKnown_L41 10000 (nI (5 * p)) 0 0 S := by
      unfold m_X1_isKnown
      simp only [m5r, if_pos j2, nI_1, if_pos j3, k2, k3, k1', k3', a1, a3, q1, q2]
    have hr9 : m_X9_learn (nI p) T = m_X9_learn_L4 10000 (nI p) 1 0 T := rfl
    have e700 : (700 : Int32) + nI p = nI (700 + p) := by rw [show (700 : Int32) = nI 700 from rfl, nI_add]
    by_cases hall : h' = h ∧ fr' = fr ∧ ∀ i, 0 ≤ i → i < 3 → s' i = s i
    · left
      obtain ⟨g1, g2, g3⟩ := hall
      refine ⟨S, T, ?_, ?_, hmk, ⟨fun _ _ _ => rfl, fun _ _ => rfl, fun _ _ => rfl, Iff.rfl⟩, ⟨fun _ _ => rfl, fun _ _ => rfl⟩⟩
      · rw [hc, hkc, if_pos g1, if_pos g2, y2 g3, some_bind']
        rfl
      · rw [hr9]
        refine x2 (fun i _ hi => ?_)
        rw [t9 i hi]
        rcases (show i = 0 ∨ i = 1 ∨ i = 2 ∨ i = 3 ∨ i = 4 by omega) with rfl | rfl | rfl | rfl | rfl
        · rw [if_pos rfl, ← g1]; exact k2'
        · rw [if_neg (by omega), if_pos rfl, ← g2]; exact k4'
        · rw [if_neg (by omega), if_neg (by omega), ← g3 0 (by omega) (by omega)]; exact (k5' 0 (by omega)).2
        · rw [if_neg (by omega), if_neg (by omega), ← g3 1 (by omega) (by omega)]; exact (k5' 1 (by omega)).2
        · rw [if_neg (by omega), if_neg (by omega), ← g3 2 (by omega) (by omega)]; exact (k5' 2 (by omega)).2
    · right
      constructor
      · have : m_X1_isKnown (nI p) S = some (0, S) := by
          rw [hkc]
          by_cases g1 : h' = h
          · rw [if_pos g1]
            by_cases g2 : fr' = fr
            · rw [if_pos g2]
              exact y3 (fun g3 => hall ⟨g1, g2, g3⟩)
            · rw [if_neg g2]; exact y1
          · rw [if_neg g1]; exact y1
        rw [hc, this, some_bind', if_pos rfl, e700]
      · rw [hr9]
        refine x3 (fun q => hall ?_)
        have w0 := q 0 (by omega) (by omega)
        have w1 := q 1 (by omega) (by omega)
        rw [t9 0 (by omega), if_pos rfl, show 5 * p + 0 = 5 * p from rfl, k2', q1] at w0
        rw [t9 1 (by omega), if_neg (by omega), if_pos rfl, k4', q2] at w1
        refine ⟨w0, w1, fun i _ hi => ?_⟩
        have w2 := q (2 + i) (by omega) (by omega)
        have u1 := c4 i hi
        have u2 := b4 i hi
        rw [t9 (2 + i) (by omega), if_neg (by omega), if_neg (by omega), show 5 * p + (2 + i) = 5 * p + 2 + i by omega, (k5' i hi).2, show 2 + i - 2 = i by omega, q_eq (by omega) (by omega)] at w2
        exact w2
theorem rc_cls {p : Nat} (hp : p ≤ 96) : ∀ (d j F : Nat) (S : St), j + d = 3 → d < F → ∃ S1 : St, m_X1_recall_L28 F (nI (5 * p)) (nI j) S = some (0, S1) ∧ (∀ k, k ≠ 6 → S1 k = S k) ∧ (∀ i, i < j → S1 6 i = S 6 i) ∧ ∀ i, j ≤ i → i < 3 → S1 6 i = S 5 (5 * p + 2 + i) := by
  intro d
  induction d with
  | zero =>
    intro j F S hj hF
    obtain ⟨f, rfl⟩ : ∃ f, F = f + 1 := ⟨F - 1, by omega⟩
    refine ⟨S, ?_, fun _ _ => rfl, fun _ _ => rfl, fun i h1 h2 => absurd h1 (by omega)⟩
    rw [m_X1_recall_L28, if_pos (show (3 : Int32) ≤ nI j from nI_le (a := 3) (by omega) (by omega))]
  | succ d ih =>
    intro j F S hj hF
    obtain ⟨f, rfl⟩ : ∃ f, F = f + 1 := ⟨F - 1, by omega⟩
    obtain ⟨S1, q1, q2, q3, q4⟩ := ih (j + 1) f (st S 6 j (S 5 (5 * p + 2 + j))) (by omega) (by omega)
    refine ⟨S1, ?_, fun k hk => by rw [q2 k hk, st_ne _ _ _ hk], fun i hi => by rw [q3 i (by omega), st_col _ _ _ (by omega)], fun i h1 h2 => ?_⟩
    · rw [m_X1_recall_L28, if_neg (show ¬ (3 : Int32) ≤ nI j from nI_ge (b := 3) (by omega) (by omega)), show nI (5 * p) + (2 : Int32) = nI (5 * p + 2) from nI_add _ 2, nI_add, if_pos (inb_nI (show 5 * p + 2 + j < 485 by omega) (by omega)), if_pos (inb_nI (show j < 3 by omega) (by omega)), nI_cl (by omega), nI_cl (by omega), nI_1]
      exact q1
    · by_cases hi : i = j
      · subst hi
        rw [q3 _ (by omega), st_rd]
      · rw [q4 i (by omega) h2, st_row _ _ _ _ (by omega)]
/-- the class recalls a place -/
theorem rc_eq {p : Nat} (hp : p ≤ 96) (S : St) : ∃ S1 : St, m_X1_recall (nI p) S = some (0, S1) ∧ FE S S1 ∧ S1 20 2 = S 5 (5 * p) ∧ S1 20 3 = S 5 (5 * p + 1) ∧ ∀ i, i < 3 → S1 6 i = S 5 (5 * p + 2 + i) := by
  have j2 : inb (nI (5 * p)) 485 = true := inb_nI (by omega) (by omega)
  have j3 : inb (nI (5 * p + 1)) 485 = true := inb_nI (by omega) (by omega)
  have k2 : (nI (5 * p)).toNatClampNeg = 5 * p := nI_cl (by omega)
  have k3 : (nI (5 * p + 1)).toNatClampNeg = 5 * p + 1 := nI_cl (by omega)
  obtain ⟨S1, q1, q2, q3, q4⟩ := rc_cls hp 3 0 10000 (st (st S 20 2 (S 5 (5 * p))) 20 3 (S 5 (5 * p + 1))) (by omega) (by omega)
  refine ⟨S1, ?_, ⟨fun k h6 h20 => by rw [q2 k h6, st_ne _ _ _ h20, st_ne _ _ _ h20], fun j h2 h3 => by rw [q2 20 (by omega), st_col _ _ _ h3, st_col _ _ _ h2]⟩, by rw [q2 20 (by omega), st_col _ _ _ (by omega), st_rd], by rw [q2 20 (by omega), st_rd], fun i hi => by rw [q4 i (by omega) hi, st_row _ _ _ _ (by omega), st_row _ _ _ _ (by omega)]⟩
  unfold m_X1_recall
  rw [m5r, if_pos j2, nI_1, if_pos j3, k2, k3, st_row _ _ _ _ (show (5 : Nat) ≠ 20 by omega)]
  exact q1
theorem rc9 {p : Nat} (hp : p ≤ 96) (x1 : Int32) : ∀ (d j F : Nat) (T : St), j + d = 5 → d < F → ∃ T1 : St, (∀ k96 : Int32 → Int32 → St → Option (Int32 × St), m_X9_findOut_L185 k96 F x1 (nI p) (nI j) T = m_X9_findOut_L185 k96 1 x1 (nI p) (nI 5) T1) ∧ (∀ k, k ≠ 9 → T1 k = T k) ∧ (∀ i, i < j → T1 9 i = T 9 i) ∧ ∀ i, j ≤ i → i < 5 → T1 9 i = T 6 (5 * p + i) := by
  intro d
  induction d with
  | zero =>
    intro j F T hj hF
    obtain ⟨f, rfl⟩ : ∃ f, F = f + 1 := ⟨F - 1, by omega⟩
    obtain rfl : j = 5 := by omega
    refine ⟨T, fun k96 => ?_, fun _ _ => rfl, fun _ _ => rfl, fun i h1 h2 => absurd h1 (by omega)⟩
    rw [m_X9_findOut_L185, m_X9_findOut_L185, if_pos (show (5 : Int32) ≤ nI 5 by decide), if_pos (show (5 : Int32) ≤ nI 5 by decide)]
  | succ d ih =>
    intro j F T hj hF
    obtain ⟨f, rfl⟩ : ∃ f, F = f + 1 := ⟨F - 1, by omega⟩
    obtain ⟨T1, q1, q2, q3, q4⟩ := ih (j + 1) f (st T 9 j (T 6 (5 * p + j))) (by omega) (by omega)
    refine ⟨T1, fun k96 => ?_, fun k hk => by rw [q2 k hk, st_ne _ _ _ hk], fun i hi => by rw [q3 i (by omega), st_col _ _ _ (by omega)], fun i h1 h2 => ?_⟩
    · rw [m_X9_findOut_L185, if_neg (show ¬ (5 : Int32) ≤ nI j from nI_ge (b := 5) (by omega) (by omega)), m5, nI_add, if_pos (inb_nI (show 5 * p + j < 485 by omega) (by omega)), if_pos (inb_nI (show j < 5 by omega) (by omega)), nI_cl (by omega), nI_cl (by omega), nI_1]
      exact q1 k96
    · by_cases hi : i = j
      · subst hi
        rw [q3 _ (by omega), st_rd]
      · rw [q4 i (by omega) h2, st_row _ _ _ _ (by omega)]
