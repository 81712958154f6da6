/-! packing: the reference puts -/
def GP (T T1 : St) : Prop := (∀ k, k ≠ 11 → k ≠ 14 → k ≠ 30 → T1 k = T k) ∧ ∀ j, j ≠ 27 → j ≠ 28 → T1 30 j = T 30 j
theorem GP.refl (T : St) : GP T T := ⟨fun _ _ _ _ => rfl, fun _ _ _ => rfl⟩
theorem GP.trans {S S1 S2 : St} (h : GP S S1) (g : GP S1 S2) : GP S S2 := ⟨fun k h1 h2 h3 => by rw [g.1 k h1 h2 h3, h.1 k h1 h2 h3], fun j h1 h2 => by rw [g.2 j h1 h2, h.2 j h1 h2]⟩
/-- put, with what it leaves: rows 14, and what is told -/
def CR (m : Nat) (L : List Nat) (T T1 : St) : Prop := T1 30 27 = nI (m + L.length) ∧ ap m L (T 11) (T1 11) ∧ GP T T1
theorem CR.trans {m : Nat} {L1 L2 : List Nat} {S S1 S2 : St} (a : CR m L1 S S1) (b : CR (m + L1.length) L2 S1 S2) : CR m (L1 ++ L2) S S2 := ⟨by rw [b.1, List.length_append, Nat.add_assoc], a.2.1.trans b.2.1, a.2.2.trans b.2.2⟩
theorem CR.nil {m : Nat} {S : St} (h : S 30 27 = nI m) : CR m [] S S := ⟨h, ap.nil _ _, GP.refl S⟩
theorem CR.nr {m : Nat} {L : List Nat} {S S1 S2 : St} (a : CR m L S S1) (h : S2 30 27 = S1 30 27) (h11 : S2 11 = S1 11) (g : GP S1 S2) : CR m L S S2 := ⟨by rw [h]; exact a.1, by rw [h11]; exact a.2.1, a.2.2.trans g⟩
theorem put_cr {m : Nat} (hm : m < 6000) (v : Nat) {T : St} (e : T 30 27 = nI m) : ∃ T1 : St, m_X9_put (nI v) T = some (0, T1) ∧ CR m [v] T T1 ∧ T1 14 = T 14 ∧ T1 30 28 = T 30 28 := by
  refine ⟨st (st T 11 m (nI v)) 30 27 (nI (m + 1)), ?_, ⟨?_, ap.one m v (fun i => ?_), fun k h7 _ h20 => by rw [st_ne _ _ _ h20, st_ne _ _ _ h7], fun j h6 _ => by rw [st_col _ _ _ h6, st_row _ _ _ _ (by omega)]⟩, by rw [st_ne _ _ _ (by omega), st_ne _ _ _ (by omega)], by rw [st_col _ _ _ (by omega), st_row _ _ _ _ (by omega)]⟩
  · unfold m_X9_put
    rw [e, if_pos (inb_nI hm (by omega)), nI_cl (by omega), st_row _ _ _ _ (show (30 : Nat) ≠ 11 by omega), e, nI_1]
  · rw [st_rd]; rfl
  · rw [st_row _ _ _ _ (by omega)]
    by_cases h : i = m
    · subst h; rw [st_rd, if_pos rfl]
    · rw [st_col _ _ _ h, if_neg h]
/-- one register put -/
theorem pk_sv {m p k x y : Nat} (hm : m + 2 ≤ 6000) (hp : p ≤ 96) (hk : k < 3) (hx : x ≤ 30) (hy : y ≤ 30) {T : St} (e : T 30 27 = nI m) (e1 : T 6 (5 * p + 2 + k) = nI y) (e2 : T 14 (2 + k) = nI x) (x3 x4 : Int32) (f : Nat) : ∃ T1 : St, m_X9_packPlace_L250 (f + 1) (nI p) x3 x4 (nI k) T = m_X9_packPlace_L250 f (nI p) x3 x4 (nI (k + 1)) T1 ∧ CR m (sv k x y) T T1 ∧ T1 14 (2 + k) = nI y ∧ (∀ j, j ≠ 2 + k → T1 14 j = T 14 j) ∧ T1 30 28 = T 30 28 := by
  have a1 : (5 : Int32) * nI p + (2 : Int32) + nI k = nI (5 * p + 2 + k) := by rw [m5, show (2 : Int32) = nI 2 from rfl, nI_add, nI_add]
  have j1 : inb (nI (5 * p + 2 + k)) 485 = true := inb_nI (by omega) (by omega)
  have j2 : inb (nI (2 + k)) 5 = true := inb_nI (by omega) (by omega)
  have k1 : (nI (5 * p + 2 + k)).toNatClampNeg = 5 * p + 2 + k := nI_cl (by omega)
  have k2 : (nI (2 + k)).toNatClampNeg = 2 + k := nI_cl (by omega)
  have c3 : ¬ (3 : Int32) ≤ nI k := nI_ge (b := 3) hk (by omega)
  have yl : (nI y ≤ 0) = (y ≤ 0) := q_le (b := 0) (by omega) (by omega)
  have fin : ∀ (U : St) (L : List Nat), CR m L T U → U 14 = T 14 → U 30 28 = T 30 28 → CR m L T (st U 14 (2 + k) (nI y)) ∧ st U 14 (2 + k) (nI y) 14 (2 + k) = nI y ∧ (∀ j, j ≠ 2 + k → st U 14 (2 + k) (nI y) 14 j = T 14 j) ∧ st U 14 (2 + k) (nI y) 30 28 = T 30 28 := by
    intro U L h1 h2 h3
    exact ⟨h1.nr (st_row _ _ _ _ (by omega)) (st_ne _ _ _ (by omega)) ⟨fun k _ h14 _ => st_ne _ _ _ h14, fun j _ _ => st_row _ _ _ _ (by omega)⟩, st_rd _ _ _ _, fun j hj => by rw [st_col _ _ _ hj, h2], by rw [st_row _ _ _ _ (by omega)]; exact h3⟩
  rw [m_X9_packPlace_L250, if_neg c3, a1, if_pos j1, k1, ad2, if_pos j2, k2, e1, e2]
  unfold m_X9_packPlace_L320
  simp only [q_eq (show x < 2 ^ 31 by omega) (show y < 2 ^ 31 by omega), yl, ad2, if_pos j2, k2, nI_1]
  unfold sv
  by_cases h1 : y = x
  · rw [if_pos h1.symm, if_pos h1]
    exact ⟨_, rfl, fin T [] (CR.nil e) rfl rfl⟩
  · rw [if_neg (fun q => h1 q.symm), if_neg h1]
    by_cases h2 : y = 0
    · rw [if_pos (show y ≤ 0 by omega), if_pos h2]
      obtain ⟨T1, b1, b2, b3, b4⟩ := put_cr (show m < 6000 by omega) (192 + k) e
      rw [show (192 : Int32) + nI k = nI (192 + k) by rw [show (192 : Int32) = nI 192 from rfl, nI_add], b1, some_bind', if_pos (show y ≤ 0 by omega)]
      exact ⟨_, rfl, fin T1 _ b2 b3 b4⟩
    · rw [if_neg (show ¬ y ≤ 0 by omega), if_neg h2]
      obtain ⟨T1, b1, b2, b3, b4⟩ := put_cr (show m < 6000 by omega) (128 + k) e
      obtain ⟨T2, d1, d2, d3, d4⟩ := put_cr (m := m + 1) (by omega) y b2.1
      rw [show (128 : Int32) + nI k = nI (128 + k) by rw [show (128 : Int32) = nI 128 from rfl, nI_add], b1, some_bind', if_neg (show ¬ y ≤ 0 by omega), d1, some_bind']
      exact ⟨_, rfl, fin T2 _ (CR.trans (L1 := [128 + k]) (L2 := [y]) b2 d2) (by rw [d3, b3]) (by rw [d4, b4])⟩
/-- the three registers and what is held then -/
theorem pk_svs {m p : Nat} (hm : m + 6 ≤ 6000) (hp : p ≤ 96) {a r : Nat → Nat} (ha : AB a) (hr : AB r) {T : St} (e : T 30 27 = nI m) (e1 : ∀ k, k < 3 → T 6 (5 * p + 2 + k) = nI (r (2 + k))) (e2 : ∀ k, k < 3 → T 14 (2 + k) = nI (a (2 + k))) : ∃ T1 : St, m_X9_packPlace_L250 10000 (nI p) (nI (r 0)) (nI (r 1)) 0 T = some (0, T1) ∧ CR m (sv 0 (a 2) (r 2) ++ (sv 1 (a 3) (r 3) ++ sv 2 (a 4) (r 4))) T T1 ∧ (∀ k, k < 5 → T1 14 k = nI (r k)) ∧ T1 30 28 = nI p := by
  have L : ∀ F, 4 ≤ F → ∃ T1 : St, m_X9_packPlace_L250 F (nI p) (nI (r 0)) (nI (r 1)) (nI 0) T = some (0, T1) ∧ CR m (sv 0 (a 2) (r 2) ++ (sv 1 (a 3) (r 3) ++ sv 2 (a 4) (r 4))) T T1 ∧ (∀ k, k < 5 → T1 14 k = nI (r k)) ∧ T1 30 28 = nI p := by
    intro F hF
    obtain ⟨f, rfl⟩ : ∃ f, F = f + 4 := ⟨F - 4, by omega⟩
    obtain ⟨T1, b1, b2, b3, b4, b5⟩ := pk_sv (k := 0) (show m + 2 ≤ 6000 by omega) hp (by omega) (ha 2 (by omega)) (hr 2 (by omega)) e (e1 0 (by omega)) (e2 0 (by omega)) (nI (r 0)) (nI (r 1)) (f + 3)
    have l1 := sv_len 0 (a 2) (r 2)
    have t6 : T1 6 = T 6 := b2.2.2.1 6 (by omega) (by omega) (by omega)
    obtain ⟨T2, d1, d2, d3, d4, d5⟩ := pk_sv (m := m + (sv 0 (a 2) (r 2)).length) (k := 1) (by omega) hp (by omega) (ha 3 (by omega)) (hr 3 (by omega)) b2.1 (by rw [t6]; exact e1 1 (by omega)) (by rw [b4 _ (by omega)]; exact e2 1 (by omega)) (nI (r 0)) (nI (r 1)) (f + 2)
    have l2 := sv_len 1 (a 3) (r 3)
    have t6' : T2 6 = T 6 := by rw [d2.2.2.1 6 (by omega) (by omega) (by omega), t6]
    obtain ⟨T3, f1, f2, f3, f4, f5⟩ := pk_sv (m := m + (sv 0 (a 2) (r 2)).length + (sv 1 (a 3) (r 3)).length) (k := 2) (by omega) hp (by omega) (ha 4 (by omega)) (hr 4 (by omega)) d2.1 (by rw [t6']; exact e1 2 (by omega)) (by rw [d4 _ (by omega), b4 _ (by omega)]; exact e2 2 (by omega)) (nI (r 0)) (nI (r 1)) (f + 1)
    have c := b2.trans (d2.trans f2)
    refine ⟨st (st (st T3 14 0 (nI (r 0))) 14 1 (nI (r 1))) 30 28 (nI p), ?_, c.nr ?_ ?_ ⟨fun k _ h14 h30 => by rw [st_ne _ _ _ h30, st_ne _ _ _ h14, st_ne _ _ _ h14], fun j _ h28 => by rw [st_col _ _ _ h28, st_row _ _ _ _ (by omega), st_row _ _ _ _ (by omega)]⟩, fun k hk => ?_, by rw [st_rd]⟩
    · rw [b1, d1, f1, m_X9_packPlace_L250, if_pos (show (3 : Int32) ≤ nI (2 + 1) by decide), if_pos y50, if_pos y51, n50, n51]
    · rw [st_col _ _ _ (by omega), st_row _ _ _ _ (by omega), st_row _ _ _ _ (by omega)]
    · rw [st_ne _ _ _ (by omega), st_ne _ _ _ (by omega), st_ne _ _ _ (by omega)]
    · rw [st_row _ _ _ _ (by omega)]
      rcases (show k = 0 ∨ k = 1 ∨ k = 2 ∨ k = 3 ∨ k = 4 by omega) with rfl | rfl | rfl | rfl | rfl
      · rw [st_col _ _ _ (by omega), st_rd]
      · rw [st_rd]
      · rw [st_col _ _ _ (by omega), st_col _ _ _ (by omega), f4 _ (by omega), d4 _ (by omega)]; exact b3
      · rw [st_col _ _ _ (by omega), st_col _ _ _ (by omega), f4 _ (by omega)]; exact d3
      · rw [st_col _ _ _ (by omega), st_col _ _ _ (by omega)]; exact f3
  exact L 10000 (by omega)
/-- link and number put, then the rest -/
theorem pk_bas {m p : Nat} (hm : m + 9 ≤ 6000) (hp : p ≤ 96) {a r : Nat → Nat} (ha : AB a) (hr : AB r) {T : St} (e : T 30 27 = nI m) (e1 : ∀ k, k < 3 → T 6 (5 * p + 2 + k) = nI (r (2 + k))) (e2 : ∀ k, k < 5 → T 14 k = nI (a k)) : ∃ T1 : St, m_X9_packPlace_L167 (nI p) (nI (r 0)) (nI (r 1)) T = some (0, T1) ∧ CR m (bas a r ++ (sv 0 (a 2) (r 2) ++ (sv 1 (a 3) (r 3) ++ sv 2 (a 4) (r 4)))) T T1 ∧ (∀ k, k < 5 → T1 14 k = nI (r k)) ∧ T1 30 28 = nI p := by
  have a0 := ha 0 (by omega)
  have a1 := ha 1 (by omega)
  have r0 := hr 0 (by omega)
  have r1 := hr 1 (by omega)
  have q0 : (nI (a 0) = nI (r 0)) = (r 0 = a 0) := by rw [q_eq (by omega) (by omega)]; exact propext eq_comm
  have q1 : (nI (a 1) = nI (r 1)) = (r 1 = a 1) := by rw [q_eq (by omega) (by omega)]; exact propext eq_comm
  have rest : ∀ (U : St) (L : List Nat), L.length ≤ 3 → CR m L T U → U 14 = T 14 → ∃ T1 : St, m_X9_packPlace_L250 10000 (nI p) (nI (r 0)) (nI (r 1)) 0 U = some (0, T1) ∧ CR m (L ++ (sv 0 (a 2) (r 2) ++ (sv 1 (a 3) (r 3) ++ sv 2 (a 4) (r 4)))) T T1 ∧ (∀ k, k < 5 → T1 14 k = nI (r k)) ∧ T1 30 28 = nI p := by
    intro U L hL h1 h2
    obtain ⟨T1, b1, b2, b3, b4⟩ := pk_svs (m := m + L.length) (by omega) hp ha hr h1.1 (fun k hk => by rw [h1.2.2.1 6 (by omega) (by omega) (by omega)]; exact e1 k hk) (fun k hk => by rw [h2]; exact e2 _ (by omega))
    exact ⟨T1, b1, h1.trans b2, b3, b4⟩
  unfold m_X9_packPlace_L167 m_X9_packPlace_L196 bas
  simp only [if_pos y50, if_pos y51, n50, n51, e2 0 (by omega), e2 1 (by omega), q0, q1]
  by_cases c0 : r 0 = a 0
  · rw [if_pos c0, if_pos c0]
    by_cases c1 : r 1 = a 1
    · rw [if_pos c1, if_pos c1]
      exact rest T [] (by simp) (CR.nil e) rfl
    · rw [if_neg c1, if_neg c1]
      obtain ⟨T1, b1, b2, b3, b4⟩ := put_cr (show m < 6000 by omega) 14 e
      obtain ⟨T2, d1, d2, d3, d4⟩ := put_cr (m := m + 1) (by omega) (r 1) b2.1
      rw [show (14 : Int32) = nI 14 from rfl, b1, some_bind', d1, some_bind']
      exact rest T2 [14, r 1] (by simp) (CR.trans (L1 := [14]) (L2 := [r 1]) b2 d2) (by rw [d3, b3])
  · rw [if_neg c0, if_neg c0]
    by_cases c1 : r 1 = a 1
    · rw [if_pos c1, if_pos c1]
      obtain ⟨T1, b1, b2, b3, b4⟩ := put_cr (show m < 6000 by omega) 13 e
      obtain ⟨T2, d1, d2, d3, d4⟩ := put_cr (m := m + 1) (by omega) (r 0) b2.1
      have e14 : T2 14 1 = nI (a 1) := by rw [d3, b3]; exact e2 1 (by omega)
      rw [show (13 : Int32) = nI 13 from rfl, b1, some_bind', d1, some_bind']
      rw [if_pos (show ((0 : Int32), T2).2 14 1 = nI (r 1) by rw [c1]; exact e14)]
      exact rest T2 [13, r 0] (by simp) (CR.trans (L1 := [13]) (L2 := [r 0]) b2 d2) (by rw [d3, b3])
    · rw [if_neg c1, if_neg c1]
      obtain ⟨T1, b1, b2, b3, b4⟩ := put_cr (show m < 6000 by omega) 12 e
      obtain ⟨T2, d1, d2, d3, d4⟩ := put_cr (m := m + 1) (by omega) (r 0) b2.1
      obtain ⟨T3, f1, f2, f3, f4⟩ := put_cr (m := m + 1 + 1) (by omega) (r 1) d2.1
      have e14 : T2 14 1 = nI (a 1) := by rw [d3, b3]; exact e2 1 (by omega)
      rw [show (12 : Int32) = nI 12 from rfl, b1, some_bind', d1, some_bind']
      rw [if_neg (show ¬ ((0 : Int32), T2).2 14 1 = nI (r 1) from fun q => c1 (by rw [← q1]; rw [← e14]; exact q)), f1, some_bind']
      exact rest T3 [12, r 0, r 1] (by simp) (CR.trans (L1 := [12]) (L2 := [r 0, r 1]) b2 (CR.trans (L1 := [r 0]) (L2 := [r 1]) d2 f2)) (by rw [f3, d3, b3])
/-- a place put -/
theorem pk_place {m p t : Nat} (hm : m + 11 ≤ 6000) (hp : p ≤ 96) (ht : t ≤ p) {a : Nat → Nat} (ha : AB a) {S T : St} (hK : KN S T p) (e : T 30 27 = nI m) (e2 : ∀ k, k < 5 → T 14 k = nI (a k)) (e28 : T 30 28 = nI t) : ∃ T1 : St, m_X9_packPlace (nI p) (nI t) T = some (0, T1) ∧ (smR a (rwN S p) = true → T1 = T) ∧ (¬ smR a (rwN S p) = true → CR m (plB a (rwN S p) (p - t)) T T1 ∧ (∀ k, k < 5 → T1 14 k = nI (rwN S p k)) ∧ T1 30 28 = nI p) := by
  obtain ⟨h, fr, s, b, k1, k2, k3, k4, k5⟩ := hK
  obtain ⟨v0, v1, v2, hAB⟩ := rw_vals b k1 k3 (fun r hr => (k5 r hr).1)
  obtain ⟨b1, b2, b3, b4⟩ := b
  obtain ⟨r, hr⟩ : ∃ r, r = rwN S p := ⟨_, rfl⟩
  rw [← hr] at v0 v1 v2 hAB ⊢
  have a0 := ha 0 (by omega)
  have a1 := ha 1 (by omega)
  have r0 := hAB 0 (by omega)
  have r1 := hAB 1 (by omega)
  have t6 : ∀ k, k < 3 → T 6 (5 * p + 2 + k) = nI (r (2 + k)) := fun k hk => by rw [v2 k hk]; exact (k5 k hk).2
  have j1 : inb (nI (5 * p + 1)) 485 = true := inb_nI (by omega) (by omega)
  have j0 : inb (nI (5 * p)) 485 = true := inb_nI (by omega) (by omega)
  have c1 : (nI (5 * p + 1)).toNatClampNeg = 5 * p + 1 := nI_cl (by omega)
  have c0 : (nI (5 * p)).toNatClampNeg = 5 * p := nI_cl (by omega)
  have hA : m_X9_packPlace (nI p) (nI t) T = m_X9_packPlace_L45 (nI p) (nI t) (nI (r 0)) (nI (r 1)) T := by
    unfold m_X9_packPlace m_X9_packPlace_L18
    rw [m5, nI_1, if_pos j1, c1, k4, if_pos j0, c0, k2, if_pos j1]
    by_cases hf : fr = 0
    · rw [if_pos (show nI fr = 0 by rw [hf]; rfl), if_neg (show ¬ (0 : Int32) = 1 by decide), v0, v1, if_pos hf, if_pos hf]; rfl
    · rw [if_neg (show ¬ nI fr = 0 from nI_ne0 (by omega) (by omega)), if_pos rfl, if_pos j1, v0, v1, if_neg hf, if_neg hf]; rfl
  have q0 : (nI (a 0) = nI (r 0)) = (r 0 = a 0) := by rw [q_eq (by omega) (by omega)]; exact propext eq_comm
  have q1 : (nI (a 1) = nI (r 1)) = (r 1 = a 1) := by rw [q_eq (by omega) (by omega)]; exact propext eq_comm
  obtain ⟨W, hW⟩ : ∃ W : Option (Int32 × St), W = if (64 : Int32) ≤ nI (p - t) then ((m_X9_put (2 : Int32) T).bind fun r1 => if nI (p - t) ≤ (63 : Int32) then m_X9_packPlace_L167 (nI p) (nI (r 0)) (nI (r 1)) r1.2 else (m_X9_put (nI (p - t)) r1.2).bind fun r2 => m_X9_packPlace_L167 (nI p) (nI (r 0)) (nI (r 1)) r2.2) else ((m_X9_put ((64 : Int32) + nI (p - t)) T).bind fun r3 => if nI (p - t) ≤ (63 : Int32) then m_X9_packPlace_L167 (nI p) (nI (r 0)) (nI (r 1)) r3.2 else (m_X9_put (nI (p - t)) r3.2).bind fun r4 => m_X9_packPlace_L167 (nI p) (nI (r 0)) (nI (r 1)) r4.2) := ⟨_, rfl⟩
  have l0 : ∀ (d j F : Nat), j + d = 5 → d < F → m_X9_packPlace_L78 F (nI p) (nI t) (nI (r 0)) (nI (r 1)) 0 (nI j) T = W := by
    intro d
    induction d with
    | zero =>
      intro j F hj hF
      obtain ⟨f, rfl⟩ : ∃ f, F = f + 1 := ⟨F - 1, by omega⟩
      rw [m_X9_packPlace_L78, if_pos (show (5 : Int32) ≤ nI j from nI_le (a := 5) (by omega) (by omega)), if_pos rfl, pk_sub ht, hW]
    | succ d ih =>
      intro j F hj hF
      obtain ⟨f, rfl⟩ : ∃ f, F = f + 1 := ⟨F - 1, by omega⟩
      rw [m_X9_packPlace_L78, if_neg (show ¬ (5 : Int32) ≤ nI j from nI_ge (b := 5) (by omega) (by omega)), if_pos rfl, nI_1]
      exact ih (j + 1) f (by omega) (by omega)
  have st1 : ∀ (j f : Nat), 2 ≤ j → j < 5 → m_X9_packPlace_L78 (f + 1) (nI p) (nI t) (nI (r 0)) (nI (r 1)) 1 (nI j) T = if r j = a j then m_X9_packPlace_L78 f (nI p) (nI t) (nI (r 0)) (nI (r 1)) 1 (nI (j + 1)) T else m_X9_packPlace_L78 f (nI p) (nI t) (nI (r 0)) (nI (r 1)) 0 (nI (j + 1)) T := by
    intro j f h2 h5
    have w1 := hAB j h5
    have w2 := ha j h5
    obtain ⟨k, rfl⟩ : ∃ k, j = 2 + k := ⟨j - 2, by omega⟩
    rw [m_X9_packPlace_L78, if_neg (show ¬ (5 : Int32) ≤ nI (2 + k) from nI_ge (b := 5) (by omega) (by omega)), if_neg i10, if_pos (inb_nI h5 (by omega)), m5, nI_add, if_pos (inb_nI (show 5 * p + (2 + k) < 485 by omega) (by omega)), nI_cl (by omega), nI_cl (by omega), show 5 * p + (2 + k) = 5 * p + 2 + k by omega, t6 k (by omega), e2 (2 + k) h5, nI_1]
    have qq : (nI (a (2 + k)) = nI (r (2 + k))) = (r (2 + k) = a (2 + k)) := by rw [q_eq (by omega) (by omega)]; exact propext eq_comm
    simp only [qq]
  have L : ∀ F, 4 ≤ F → m_X9_packPlace_L78 F (nI p) (nI t) (nI (r 0)) (nI (r 1)) 1 (nI 2) T = if r 2 = a 2 ∧ r 3 = a 3 ∧ r 4 = a 4 then some (0, T) else W := by
    intro F hF
    obtain ⟨f, rfl⟩ : ∃ f, F = f + 4 := ⟨F - 4, by omega⟩
    rw [st1 2 (f + 3) (by omega) (by omega)]
    by_cases z0 : r 2 = a 2
    · rw [if_pos z0, st1 3 (f + 2) (by omega) (by omega)]
      by_cases z1 : r 3 = a 3
      · rw [if_pos z1, st1 4 (f + 1) (by omega) (by omega)]
        by_cases z2 : r 4 = a 4
        · rw [if_pos z2, m_X9_packPlace_L78, if_pos (show (5 : Int32) ≤ nI (4 + 1) by decide), if_neg i10, if_pos ⟨z0, z1, z2⟩]
        · rw [if_neg z2, if_neg (fun q => z2 q.2.2)]
          exact l0 0 5 (f + 1) (by omega) (by omega)
      · rw [if_neg z1, if_neg (fun q => z1 q.2.1)]
        exact l0 1 4 (f + 2) (by omega) (by omega)
    · rw [if_neg z0, if_neg (fun q => z0 q.1)]
      exact l0 2 3 (f + 3) (by omega) (by omega)
  have hB : m_X9_packPlace_L45 (nI p) (nI t) (nI (r 0)) (nI (r 1)) T = if smR a r = true then some (0, T) else W := by
    have L0 := l0 3 2 10000 (by omega) (by omega)
    have L1 := L 10000 (by omega)
    rw [show nI 2 = (2 : Int32) from rfl] at L0 L1
    unfold m_X9_packPlace_L45 smR
    simp only [if_pos y50, if_pos y51, n50, n51, e2 0 (by omega), e2 1 (by omega), q0, q1, L0, L1, decide_eq_true_eq]
    by_cases c0 : r 0 = a 0
    · rw [if_pos c0]
      by_cases c1 : r 1 = a 1
      · rw [if_pos c1]
        by_cases c2 : r 2 = a 2 ∧ r 3 = a 3 ∧ r 4 = a 4
        · rw [if_pos c2, if_pos ⟨c0, c1, c2⟩]
        · rw [if_neg c2, if_neg (fun q => c2 q.2.2)]
      · rw [if_neg c1, if_neg (fun q => c1 q.2.1)]
    · rw [if_neg c0, if_neg (fun q => c0 q.1)]
  rw [hA, hB]
  by_cases hs : smR a r = true
  · rw [if_pos hs]
    exact ⟨T, rfl, fun _ => rfl, fun q => absurd hs q⟩
  · rw [if_neg hs]
    have rest : ∀ (U : St) (Lq : List Nat), Lq = adv (p - t) → CR m Lq T U → U 14 = T 14 → ∃ T1 : St, m_X9_packPlace_L167 (nI p) (nI (r 0)) (nI (r 1)) U = some (0, T1) ∧ (smR a r = true → T1 = T) ∧ (¬ smR a r = true → CR m (plB a r (p - t)) T T1 ∧ (∀ k, k < 5 → T1 14 k = nI (r k)) ∧ T1 30 28 = nI p) := by
      intro U Lq hL h1 h2
      have la := adv_len (p - t)
      subst hL
      obtain ⟨T1, b1, b2, b3, b4⟩ := pk_bas (m := m + (adv (p - t)).length) (by omega) hp ha hAB h1.1 (fun k hk => by rw [h1.2.2.1 6 (by omega) (by omega) (by omega)]; exact t6 k hk) (fun k hk => by rw [h2]; exact e2 k hk)
      exact ⟨T1, b1, fun q => absurd q hs, fun _ => ⟨h1.trans b2, b3, b4⟩⟩
    rw [hW]
    by_cases hd : p - t ≤ 63
    · obtain ⟨T1, d1, d2, d3, d4⟩ := put_cr (show m < 6000 by omega) (64 + (p - t)) e
      rw [if_neg (show ¬ (64 : Int32) ≤ nI (p - t) from nI_ge (b := 64) (by omega) (by omega)), show (64 : Int32) + nI (p - t) = nI (64 + (p - t)) by rw [show (64 : Int32) = nI 64 from rfl, nI_add], d1, some_bind', if_pos (show nI (p - t) ≤ (63 : Int32) from nI_le (b := 63) hd (by omega))]
      exact rest T1 _ (by unfold adv; rw [if_pos hd]) d2 d3
    · obtain ⟨T1, d1, d2, d3, d4⟩ := put_cr (show m < 6000 by omega) 2 e
      obtain ⟨T2, f1, f2, f3, f4⟩ := put_cr (m := m + 1) (by omega) (p - t) d2.1
      rw [if_pos (show (64 : Int32) ≤ nI (p - t) from nI_le (a := 64) (by omega) (by omega)), show (2 : Int32) = nI 2 from rfl, d1, some_bind', if_neg (show ¬ nI (p - t) ≤ (63 : Int32) from nI_ge (a := 63) (by omega) (by omega)), f1, some_bind']
      exact rest T2 [2, p - t] (by unfold adv; rw [if_neg hd]) (CR.trans (L1 := [2]) (L2 := [p - t]) d2 f2) (by rw [f3, d3])
theorem pp_ref {S : St} {i en : Nat} (hi : i < 5) (he : en ≤ 96) (x2 : Int32) : ∀ (d p t G m : Nat) (a : Nat → Nat) (T : St), p + d = en → d < G → t ≤ p → T 30 27 = nI m → m + 11 * d ≤ 5000 → AB a → (∀ k, k < 5 → T 14 k = nI (a k)) → T 30 28 = nI t → T 5 i = nI en → (∀ q, p ≤ q → q < en → MK S T q) → ∃ T1 : St, m_X9_packFunction_L93 G (nI i) x2 (nI p) T = m_X9_packFunction_L93 1 (nI i) x2 (nI en) T1 ∧ CR m (prB S d a t p) T T1 := by
  have oi : inb (nI i) 5 = true := inb_nI hi (by omega)
  have ci : (nI i).toNatClampNeg = i := nI_cl (by omega)
  intro d
  induction d with
  | zero =>
    intro p t G m a T hp hG ht e hm ha e2 e28 t5 hM
    obtain ⟨g, rfl⟩ : ∃ g, G = g + 1 := ⟨G - 1, by omega⟩
    obtain rfl : p = en := by omega
    refine ⟨T, ?_, CR.nil e⟩
    rw [m_X9_packFunction_L93, m_X9_packFunction_L93, if_pos oi, ci, t5, if_pos (nI_le (Nat.le_refl _) (by omega)), if_pos oi, if_pos (nI_le (Nat.le_refl _) (by omega))]
  | succ d ih =>
    intro p t G m a T hp hG ht e hm ha e2 e28 t5 hM
    obtain ⟨g, rfl⟩ : ∃ g, G = g + 1 := ⟨G - 1, by omega⟩
    rw [m_X9_packFunction_L93, if_pos oi, ci, t5, if_neg (nI_ge (show p < en by omega) (by omega)), m5, if_pos (inb_nI (show 5 * p < 485 by omega) (by omega)), nI_cl (by omega), nI_1, prB]
    have known : KN S T p → ¬ S 3 p = 0 → ∃ T1 : St, (if T 6 (5 * p) ≤ 0 then m_X9_packFunction_L93 g (nI i) x2 (nI (p + 1)) T else (m_X9_packPlace (nI p) (T 30 28) T).bind fun r5 => m_X9_packFunction_L93 g (nI i) x2 (nI (p + 1)) r5.2) = m_X9_packFunction_L93 1 (nI i) x2 (nI en) T1 ∧ CR m (if S 3 p = 0 then prB S d a t (p + 1) else if smR a (rwN S p) = true then prB S d a t (p + 1) else plB a (rwN S p) (p - t) ++ prB S d (rwN S p) p (p + 1)) T T1 := by
      intro hK h3
      have hAB : AB (rwN S p) := by
        obtain ⟨h, fr, s, b, k1, k2, k3, k4, k5⟩ := hK
        exact (rw_vals b k1 k3 (fun r hr => (k5 r hr).1)).2.2.2
      have hne : ¬ T 6 (5 * p) ≤ 0 := by
        obtain ⟨h, fr, s, b, k1, k2, -⟩ := hK
        have := b.1
        have := b.2.1
        rw [k2]; exact nI_nle (by omega) (by omega)
      obtain ⟨T1, b1, b2, b3⟩ := pk_place (show m + 11 ≤ 6000 by omega) (show p ≤ 96 by omega) ht ha hK e e2 e28
      rw [if_neg hne, e28, b1, some_bind', if_neg h3]
      by_cases hs : smR a (rwN S p) = true
      · obtain rfl := b2 hs
        rw [if_pos hs]
        exact ih (p + 1) t g m a T1 (by omega) (by omega) (by omega) e (by omega) ha e2 e28 t5 (fun q h1 h2 => hM q (by omega) h2)
      · rw [if_neg hs]
        obtain ⟨c1, c2, c3⟩ := b3 hs
        have l3 := plB_len a (rwN S p) (p - t)
        obtain ⟨T2, d1, d2⟩ := ih (p + 1) p g (m + (plB a (rwN S p) (p - t)).length) (rwN S p) T1 (by omega) (by omega) (by omega) c1.1 (by omega) hAB c2 c3 (by rw [c1.2.2.1 5 (by omega) (by omega) (by omega)]; exact t5) (fun q h1 h2 => (hM q (by omega) h2).congr rfl (by rw [c1.2.2.1 7 (by omega) (by omega) (by omega)]) (fun _ _ _ => rfl) (fun j _ _ => by rw [c1.2.2.1 6 (by omega) (by omega) (by omega)]))
        exact ⟨T2, d1, c1.trans d2⟩
    rcases hM p (by omega) (by omega) with ⟨h1, h2, h3⟩ | ⟨h1, h2, h3⟩ | ⟨h1, h2, h3⟩
    · rw [if_pos h1, if_pos (show T 6 (5 * p) ≤ 0 by rw [h2]; decide)]
      exact ih (p + 1) t g m a T (by omega) (by omega) (by omega) e (by omega) ha e2 e28 t5 (fun q h1 h2 => hM q (by omega) h2)
    · exact known h3 (by rw [h1]; exact i10)
    · exact known h3 (by rw [h1]; exact i21)
