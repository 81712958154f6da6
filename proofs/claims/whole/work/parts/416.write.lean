/-! packing: the class writes -/
def FW (S S1 : St) : Prop := (∀ k, k ≠ 7 → k ≠ 20 → S1 k = S k) ∧ ∀ j, j ≠ 6 → S1 20 j = S 20 j
theorem FW.refl (S : St) : FW S S := ⟨fun _ _ _ => rfl, fun _ _ => rfl⟩
theorem FW.trans {S S1 S2 : St} (h : FW S S1) (g : FW S1 S2) : FW S S2 := ⟨fun k h1 h2 => by rw [g.1 k h1 h2, h.1 k h1 h2], fun j h1 => by rw [g.2 j h1, h.2 j h1]⟩
def CW (m : Nat) (L : List Nat) (S S1 : St) : Prop := S1 20 6 = nI (m + L.length) ∧ ap m L (S 7) (S1 7) ∧ FW S S1
theorem CW.trans {m : Nat} {L1 L2 : List Nat} {S S1 S2 : St} (a : CW m L1 S S1) (b : CW (m + L1.length) L2 S1 S2) : CW m (L1 ++ L2) S S2 := ⟨by rw [b.1, List.length_append, Nat.add_assoc], a.2.1.trans b.2.1, a.2.2.trans b.2.2⟩
theorem CW.nil {m : Nat} {S : St} (h : S 20 6 = nI m) : CW m [] S S := ⟨h, ap.nil _ _, FW.refl S⟩
theorem app_cw {m : Nat} (hm : m < 1076) (v : Nat) {S : St} (e : S 20 6 = nI m) : ∃ S1 : St, m_X7_append (nI v) S = some (0, S1) ∧ CW m [v] S S1 := by
  refine ⟨st (st S 7 m (nI v)) 20 6 (nI (m + 1)), ?_, ?_, ap.one m v (fun i => ?_), fun k h7 h20 => by rw [st_ne _ _ _ h20, st_ne _ _ _ h7], fun j h6 => by rw [st_col _ _ _ h6, st_row _ _ _ _ (by omega)]⟩
  · unfold m_X7_append
    rw [e, if_neg (show ¬ (1076 : Int32) ≤ nI m from nI_ge (b := 1076) hm (by omega)), if_pos (inb_nI hm (by omega)), nI_cl (by omega), st_row _ _ _ _ (show (20 : Nat) ≠ 7 by omega), e, nI_1]
  · rw [st_rd]; rfl
  · rw [st_row _ _ _ _ (by omega)]
    by_cases h : i = m
    · subst h; rw [st_rd, if_pos rfl]
    · rw [st_col _ _ _ h, if_neg h]
theorem wadv {m : Nat} (hm : m + 2 ≤ 1076) {d : Nat} (hd : d ≤ 96) {S : St} (e : S 20 6 = nI m) : ∃ S1 : St, m_X3_writeAdvance (nI d) S = some (0, S1) ∧ CW m (adv d) S S1 := by
  unfold m_X3_writeAdvance adv
  by_cases h : d ≤ 63
  · obtain ⟨S1, a1, a2⟩ := app_cw (by omega) (64 + d) e
    rw [if_neg (show ¬ (63 : Int32) < nI d from nI_nlt (a := 63) h (by omega)), if_pos h, show (64 : Int32) + nI d = nI (64 + d) by rw [show (64 : Int32) = nI 64 from rfl, nI_add], a1, some_bind']
    exact ⟨S1, rfl, a2⟩
  · obtain ⟨S1, a1, a2⟩ := app_cw (show m < 1076 by omega) 2 e
    obtain ⟨S2, b1, b2⟩ := app_cw (m := m + 1) (by omega) d a2.1
    rw [if_pos (show (63 : Int32) < nI d from nI_lt (a := 63) (by omega) (by omega)), if_neg h, show (2 : Int32) = nI 2 from rfl, a1, some_bind']
    simp only [b1, some_bind']
    exact ⟨S2, rfl, CW.trans (L1 := [2]) (L2 := [d]) a2 b2⟩
def R0 (S : St) (a : Nat → Nat) : Prop := S 20 17 = nI (a 0) ∧ S 20 18 = nI (a 1) ∧ ∀ r, r < 3 → S 12 r = nI (a (2 + r))
def R1 (S : St) (a : Nat → Nat) : Prop := S 20 19 = nI (a 0) ∧ S 20 20 = nI (a 1) ∧ ∀ r, r < 3 → S 13 r = nI (a (2 + r))
theorem R0.w {S S1 : St} {a : Nat → Nat} (h : R0 S a) (f : FW S S1) : R0 S1 a := ⟨by rw [f.2 17 (by omega)]; exact h.1, by rw [f.2 18 (by omega)]; exact h.2.1, fun r hr => by rw [f.1 12 (by omega) (by omega)]; exact h.2.2 r hr⟩
theorem R1.w {S S1 : St} {a : Nat → Nat} (h : R1 S a) (f : FW S S1) : R1 S1 a := ⟨by rw [f.2 19 (by omega)]; exact h.1, by rw [f.2 20 (by omega)]; exact h.2.1, fun r hr => by rw [f.1 13 (by omega) (by omega)]; exact h.2.2 r hr⟩
theorem wbas {m : Nat} (hm : m + 3 ≤ 1076) {a r : Nat → Nat} (ha : AB a) (hr : AB r) {S : St} (e : S 20 6 = nI m) (h0 : R0 S a) (h1 : R1 S r) : ∃ S1 : St, m_X3_writeBase S = some (0, S1) ∧ CW m (bas a r) S S1 := by
  have a0 := ha 0 (by omega)
  have a1 := ha 1 (by omega)
  have r0 := hr 0 (by omega)
  have r1 := hr 1 (by omega)
  unfold m_X3_writeBase m_X3_writeBase_L45 m_X3_writeBase_L95 bas
  rw [h0.1, h0.2.1, h1.1, h1.2.1]
  simp only [q_eq (show r 0 < 2 ^ 31 by omega) (show a 0 < 2 ^ 31 by omega), q_eq (show r 1 < 2 ^ 31 by omega) (show a 1 < 2 ^ 31 by omega), if_neg i10, if_true]
  by_cases c0 : r 0 = a 0
  · by_cases c1 : r 1 = a 1
    · simp only [if_pos c0, if_pos c1]
      exact ⟨S, rfl, CW.nil e⟩
    · simp only [if_pos c0, if_neg c1]
      obtain ⟨S1, b1, b2⟩ := app_cw (show m < 1076 by omega) 14 e
      obtain ⟨S2, d1, d2⟩ := app_cw (m := m + 1) (by omega) (r 1) b2.1
      have e1 : S1 20 20 = nI (r 1) := (h1.w b2.2.2).2.1
      rw [show (14 : Int32) = nI 14 from rfl, b1, some_bind']
      simp only [e1, d1, some_bind']
      exact ⟨S2, rfl, CW.trans (L1 := [14]) (L2 := [r 1]) b2 d2⟩
  · by_cases c1 : r 1 = a 1
    · simp only [if_neg c0, if_pos c1]
      obtain ⟨S1, b1, b2⟩ := app_cw (show m < 1076 by omega) 13 e
      obtain ⟨S2, d1, d2⟩ := app_cw (m := m + 1) (by omega) (r 0) b2.1
      have e1 : S1 20 19 = nI (r 0) := (h1.w b2.2.2).1
      rw [show (13 : Int32) = nI 13 from rfl, b1, some_bind']
      simp only [e1, d1, some_bind']
      exact ⟨S2, rfl, CW.trans (L1 := [13]) (L2 := [r 0]) b2 d2⟩
    · simp only [if_neg c0, if_neg c1]
      obtain ⟨S1, b1, b2⟩ := app_cw (show m < 1076 by omega) 12 e
      obtain ⟨S2, d1, d2⟩ := app_cw (m := m + 1) (by omega) (r 0) b2.1
      obtain ⟨S3, f1, f2⟩ := app_cw (m := m + 1 + 1) (by omega) (r 1) d2.1
      have e1 : S1 20 19 = nI (r 0) := (h1.w b2.2.2).1
      have e2 : S2 20 20 = nI (r 1) := ((h1.w b2.2.2).w d2.2.2).2.1
      rw [show (12 : Int32) = nI 12 from rfl, b1, some_bind']
      simp only [e1, d1, some_bind', e2, f1]
      exact ⟨S3, rfl, CW.trans (L1 := [12]) (L2 := [r 0, r 1]) b2 (CW.trans (L1 := [r 0]) (L2 := [r 1]) d2 f2)⟩
theorem wsv1 {m : Nat} (hm : m + 2 ≤ 1076) {k x y : Nat} (hk : k < 3) (hx : x ≤ 30) (hy : y ≤ 30) {S : St} (e : S 20 6 = nI m) (e1 : S 13 k = nI y) (e2 : S 12 k = nI x) (f : Nat) : ∃ S1 : St, m_X3_writeSaved_L2 (f + 1) (nI k) S = m_X3_writeSaved_L2 f (nI (k + 1)) S1 ∧ CW m (sv k x y) S S1 := by
  have j1 : inb (nI k) 3 = true := inb_nI hk (by omega)
  have k1 : (nI k).toNatClampNeg = k := nI_cl (by omega)
  rw [m_X3_writeSaved_L2, if_neg (show ¬ (3 : Int32) ≤ nI k from nI_ge (b := 3) hk (by omega)), if_pos j1, if_pos j1, k1, e1, e2, nI_1]
  simp only [q_eq (show y < 2 ^ 31 by omega) (show x < 2 ^ 31 by omega), z0i (show y < 2 ^ 31 by omega)]
  unfold sv
  by_cases h1 : y = x
  · simp only [if_pos h1]
    exact ⟨S, rfl, CW.nil e⟩
  · simp only [if_neg h1]
    by_cases h2 : y = 0
    · simp only [if_pos h2]
      obtain ⟨S1, b1, b2⟩ := app_cw (show m < 1076 by omega) (192 + k) e
      rw [show (192 : Int32) + nI k = nI (192 + k) by rw [show (192 : Int32) = nI 192 from rfl, nI_add], b1, some_bind']
      exact ⟨S1, rfl, b2⟩
    · simp only [if_neg h2]
      obtain ⟨S1, b1, b2⟩ := app_cw (show m < 1076 by omega) (128 + k) e
      obtain ⟨S2, d1, d2⟩ := app_cw (m := m + 1) (by omega) y b2.1
      rw [show (128 : Int32) + nI k = nI (128 + k) by rw [show (128 : Int32) = nI 128 from rfl, nI_add], b1, some_bind']
      simp only [d1, some_bind']
      exact ⟨S2, rfl, CW.trans (L1 := [128 + k]) (L2 := [y]) b2 d2⟩
theorem wsv {m : Nat} (hm : m + 6 ≤ 1076) {a r : Nat → Nat} (ha : AB a) (hr : AB r) {S : St} (e : S 20 6 = nI m) (h0 : R0 S a) (h1 : R1 S r) : ∃ S1 : St, m_X3_writeSaved S = some (0, S1) ∧ CW m (sv 0 (a 2) (r 2) ++ (sv 1 (a 3) (r 3) ++ sv 2 (a 4) (r 4))) S S1 := by
  have L : ∀ F, 4 ≤ F → ∃ S1 : St, m_X3_writeSaved_L2 F (nI 0) S = some (0, S1) ∧ CW m (sv 0 (a 2) (r 2) ++ (sv 1 (a 3) (r 3) ++ sv 2 (a 4) (r 4))) S S1 := by
    intro F hF
    obtain ⟨f, rfl⟩ : ∃ f, F = f + 4 := ⟨F - 4, by omega⟩
    obtain ⟨S1, b1, b2⟩ := wsv1 (k := 0) (show m + 2 ≤ 1076 by omega) (by omega) (ha 2 (by omega)) (hr 2 (by omega)) e (h1.2.2 0 (by omega)) (h0.2.2 0 (by omega)) (f + 3)
    have l1 := sv_len 0 (a 2) (r 2)
    have z1 := h1.w b2.2.2
    have y1 := h0.w b2.2.2
    obtain ⟨S2, d1, d2⟩ := wsv1 (m := m + (sv 0 (a 2) (r 2)).length) (k := 1) (by omega) (by omega) (ha 3 (by omega)) (hr 3 (by omega)) b2.1 (z1.2.2 1 (by omega)) (y1.2.2 1 (by omega)) (f + 2)
    have l2 := sv_len 1 (a 3) (r 3)
    have z2 := z1.w d2.2.2
    have y2 := y1.w d2.2.2
    obtain ⟨S3, f1, f2⟩ := wsv1 (m := m + (sv 0 (a 2) (r 2)).length + (sv 1 (a 3) (r 3)).length) (k := 2) (by omega) (by omega) (ha 4 (by omega)) (hr 4 (by omega)) d2.1 (z2.2.2 2 (by omega)) (y2.2.2 2 (by omega)) (f + 1)
    refine ⟨S3, ?_, b2.trans (d2.trans f2)⟩
    rw [b1, d1, f1, m_X3_writeSaved_L2, if_pos (show (3 : Int32) ≤ nI (2 + 1) by decide)]
  exact L 10000 (by omega)
/-- the class's row of a place -/
theorem fill_eq {p : Nat} (hp : p ≤ 96) {S : St} (h3 : ¬ S 3 p = 0) (hK : KS S p) : ∃ S1 : St, m_X1_fillRow (nI p) S = some (1, S1) ∧ R1 S1 (rwN S p) ∧ (∀ k, k ≠ 6 → k ≠ 13 → k ≠ 20 → S1 k = S k) ∧ ∀ j, j ≠ 2 → j ≠ 3 → j ≠ 19 → j ≠ 20 → S1 20 j = S 20 j := by
  obtain ⟨h, fr, s, b, k1, k2, k3⟩ := hK
  obtain ⟨e0, e1, e2, hAB⟩ := rw_vals b k1 k2 k3
  obtain ⟨b1, b2, b3, b4⟩ := b
  obtain ⟨S2, c1, c2, c3, c4, c5⟩ := rc_eq hp S
  have j1 : inb (nI p) 97 = true := inb_nI (by omega) (by omega)
  have kk : (nI p).toNatClampNeg = p := nI_cl (by omega)
  have t3 : S2 20 3 = nI fr := by rw [c4]; exact k2
  have t2 : S2 20 2 = nI h := by rw [c3]; exact k1
  have loop : ∀ (U : St), U 6 = S2 6 → m_X1_fillRow_L56 10000 0 U = some (1, st (st (st U 13 0 (S2 6 0)) 13 1 (S2 6 1)) 13 2 (S2 6 2)) := by
    have : ∀ F (U : St), 4 ≤ F → U 6 = S2 6 → m_X1_fillRow_L56 F 0 U = some (1, st (st (st U 13 0 (S2 6 0)) 13 1 (S2 6 1)) 13 2 (S2 6 2)) := by
      intro F U hF hU
      obtain ⟨f, rfl⟩ : ∃ f, F = f + 4 := ⟨F - 4, by omega⟩
      have a1 : ∀ (V : St) k v r, st V 13 k v 6 r = V 6 r := fun V k v r => st_row _ _ _ _ (by omega)
      rw [m_X1_fillRow_L56, if_neg (by decide), if_pos (by decide), if_pos (by decide), n50]
      rw [m_X1_fillRow_L56, if_neg (by decide), if_pos (by decide), if_pos (by decide), show (0 + 1 : Int32).toNatClampNeg = 1 by decide]
      rw [m_X1_fillRow_L56, if_neg (by decide), if_pos (by decide), if_pos (by decide), show (0 + 1 + 1 : Int32).toNatClampNeg = 2 by decide]
      rw [m_X1_fillRow_L56, if_pos (by decide)]
      simp only [a1, hU, bz1]
    exact fun U hU => this 10000 U (by omega) hU
  have fin : ∀ lk nu : Nat, lk = (if fr = 0 then 0 else 1) → nu = (if fr = 0 then h else fr) → m_X1_fillRow_L56 10000 0 (st (st S2 20 19 (nI lk)) 20 20 (nI nu)) = some (1, st (st (st (st (st S2 20 19 (nI lk)) 20 20 (nI nu)) 13 0 (S2 6 0)) 13 1 (S2 6 1)) 13 2 (S2 6 2)) := by
    intro lk nu _ _
    exact loop _ (by rw [st_ne _ _ _ (by omega), st_ne _ _ _ (by omega)])
  refine ⟨st (st (st (st (st S2 20 19 (nI (rwN S p 0))) 20 20 (nI (rwN S p 1))) 13 0 (S2 6 0)) 13 1 (S2 6 1)) 13 2 (S2 6 2), ?_, ⟨?_, ?_, fun r hr => ?_⟩, fun k h6 h13 h20 => ?_, fun j h2 h3 h19 h20 => ?_⟩
  · unfold m_X1_fillRow
    rw [if_pos j1, kk, if_neg h3, c1, some_bind']
    simp only [t3, z0i (show fr < 2 ^ 31 by omega)]
    unfold m_X1_fillRow_L29
    have g3 : ∀ v, st S2 20 19 v 20 3 = nI fr := fun v => by rw [st_col _ _ _ (by omega)]; exact t3
    have g2 : ∀ v, st S2 20 19 v 20 2 = nI h := fun v => by rw [st_col _ _ _ (by omega)]; exact t2
    simp only [g3, g2, z0i (show fr < 2 ^ 31 by omega)]
    by_cases hf : fr = 0
    · simp only [if_pos hf]
      rw [e0, e1, if_pos hf, if_pos hf]
      exact fin 0 h (by rw [if_pos hf]) (by rw [if_pos hf])
    · simp only [if_neg hf]
      rw [e0, e1, if_neg hf, if_neg hf]
      exact fin 1 fr (by rw [if_neg hf]) (by rw [if_neg hf])
  · rw [st_row _ _ _ _ (by omega), st_row _ _ _ _ (by omega), st_row _ _ _ _ (by omega), st_col _ _ _ (by omega), st_rd]
  · rw [st_row _ _ _ _ (by omega), st_row _ _ _ _ (by omega), st_row _ _ _ _ (by omega), st_rd]
  · rw [e2 r hr, ← k3 r hr, ← c5 r hr]
    rcases (show r = 0 ∨ r = 1 ∨ r = 2 by omega) with rfl | rfl | rfl <;> simp [st_at]
  · rw [st_ne _ _ _ h13, st_ne _ _ _ h13, st_ne _ _ _ h13, st_ne _ _ _ h20, st_ne _ _ _ h20, c2.1 k h6 h20]
  · rw [st_row _ _ _ _ (by omega), st_row _ _ _ _ (by omega), st_row _ _ _ _ (by omega), st_col _ _ _ h20, st_col _ _ _ h19, c2.2 j h2 h3]
theorem same_eq {a r : Nat → Nat} (ha : AB a) (hr : AB r) {S : St} (h0 : R0 S a) (h1 : R1 S r) : m_X6_isSameAs 1 0 S = some ((if smR a r = true then 1 else 0), S) := by
  have a0 := ha 0 (by omega)
  have a1 := ha 1 (by omega)
  have r0 := hr 0 (by omega)
  have r1 := hr 1 (by omega)
  have l0 : ∀ (d j F : Nat), j + d = 3 → d < F → m_X6_isSameAs_L30 1 0 F 0 (nI j) S = some (0, S) := by
    intro d
    induction d with
    | zero =>
      intro j F hj hF
      obtain ⟨f, rfl⟩ : ∃ f, F = f + 1 := ⟨F - 1, by omega⟩
      rw [m_X6_isSameAs_L30, if_pos (show (3 : Int32) ≤ nI j from nI_le (a := 3) (by omega) (by omega))]; rfl
    | succ d ih =>
      intro j F hj hF
      obtain ⟨f, rfl⟩ : ∃ f, F = f + 1 := ⟨F - 1, by omega⟩
      rw [m_X6_isSameAs_L30, if_neg (show ¬ (3 : Int32) ≤ nI j from nI_ge (b := 3) (by omega) (by omega)), if_pos rfl, nI_1]
      exact ih (j + 1) f (by omega) (by omega)
  have st1 : ∀ (j f : Nat), j < 3 → m_X6_isSameAs_L30 1 0 (f + 1) 1 (nI j) S = if r (2 + j) = a (2 + j) then m_X6_isSameAs_L30 1 0 f 1 (nI (j + 1)) S else m_X6_isSameAs_L30 1 0 f 0 (nI (j + 1)) S := by
    intro j f hj
    have w1 := hr (2 + j) (by omega)
    have w2 := ha (2 + j) (by omega)
    rw [m_X6_isSameAs_L30, if_neg (show ¬ (3 : Int32) ≤ nI j from nI_ge (b := 3) hj (by omega)), if_neg i10, if_pos (inb_nI hj (by omega)), if_pos (inb_nI hj (by omega)), nI_cl (by omega), show 12 + 1 = 13 from rfl, show 12 + 0 = 12 from rfl, h1.2.2 j hj, h0.2.2 j hj, nI_1]
    simp only [q_eq (show r (2 + j) < 2 ^ 31 by omega) (show a (2 + j) < 2 ^ 31 by omega)]
  have L : ∀ F, 4 ≤ F → m_X6_isSameAs_L30 1 0 F 1 (nI 0) S = some ((if r 2 = a 2 ∧ r 3 = a 3 ∧ r 4 = a 4 then 1 else 0), S) := by
    intro F hF
    obtain ⟨f, rfl⟩ : ∃ f, F = f + 4 := ⟨F - 4, by omega⟩
    rw [st1 0 (f + 3) (by omega)]
    by_cases z0 : r 2 = a 2
    · rw [if_pos (show r (2 + 0) = a (2 + 0) from z0), st1 1 (f + 2) (by omega)]
      by_cases z1 : r 3 = a 3
      · rw [if_pos (show r (2 + 1) = a (2 + 1) from z1), st1 2 (f + 1) (by omega)]
        by_cases z2 : r 4 = a 4
        · rw [if_pos (show r (2 + 2) = a (2 + 2) from z2), m_X6_isSameAs_L30, if_pos (show (3 : Int32) ≤ nI (2 + 1) by decide), if_pos ⟨z0, z1, z2⟩]; rfl
        · rw [if_neg (show ¬ r (2 + 2) = a (2 + 2) from z2), if_neg (fun q => z2 q.2.2)]
          exact l0 0 3 (f + 1) (by omega) (by omega)
      · rw [if_neg (show ¬ r (2 + 1) = a (2 + 1) from z1), if_neg (fun q => z1 q.2.1)]
        exact l0 1 2 (f + 2) (by omega) (by omega)
    · rw [if_neg (show ¬ r (2 + 0) = a (2 + 0) from z0), if_neg (fun q => z0 q.1)]
      exact l0 2 1 (f + 3) (by omega) (by omega)
  have L0 := l0 3 0 10000 (by omega) (by omega)
  have L1 := L 10000 (by omega)
  rw [show nI 0 = (0 : Int32) from rfl] at L0 L1
  unfold m_X6_isSameAs smR
  rw [show 17 + 2 * 1 = 19 from rfl, show 17 + 2 * 0 = 17 from rfl, show 18 + 2 * 1 = 20 from rfl, show 18 + 2 * 0 = 18 from rfl, h0.1, h0.2.1, h1.1, h1.2.1]
  simp only [q_eq (show r 0 < 2 ^ 31 by omega) (show a 0 < 2 ^ 31 by omega), q_eq (show r 1 < 2 ^ 31 by omega) (show a 1 < 2 ^ 31 by omega), L0, L1, decide_eq_true_eq]
  by_cases c0 : r 0 = a 0
  · rw [if_pos c0]
    by_cases c1 : r 1 = a 1
    · rw [if_pos c1]
      by_cases c2 : r 2 = a 2 ∧ r 3 = a 3 ∧ r 4 = a 4
      · rw [if_pos c2, if_pos ⟨c0, c1, c2⟩]
      · rw [if_neg c2, if_neg (fun q => c2 q.2.2)]
    · rw [if_neg c1, if_neg (fun q => c1 q.2.1)]
  · rw [if_neg c0, if_neg (fun q => c0 q.1)]
/-- what writing a program leaves as it was -/
def FP (S S1 : St) : Prop := (∀ k, k ≠ 6 → k ≠ 7 → k ≠ 12 → k ≠ 13 → k ≠ 20 → S1 k = S k) ∧ ∀ j, j ≠ 2 → j ≠ 3 → j ≠ 6 → (j < 17 ∨ 20 < j) → S1 20 j = S 20 j
theorem FP.trans {S S1 S2 : St} (h : FP S S1) (g : FP S1 S2) : FP S S2 := ⟨fun k h1 h2 h3 h4 h5 => by rw [g.1 k h1 h2 h3 h4 h5, h.1 k h1 h2 h3 h4 h5], fun j h1 h2 h3 h4 => by rw [g.2 j h1 h2 h3 h4, h.2 j h1 h2 h3 h4]⟩
theorem FP.refl (S : St) : FP S S := ⟨fun _ _ _ _ _ _ => rfl, fun _ _ _ _ _ => rfl⟩
theorem FW.p {S S1 : St} (h : FW S S1) : FP S S1 := ⟨fun k _ h7 _ _ h20 => h.1 k h7 h20, fun j _ _ h6 _ => h.2 j h6⟩
/-- the program with its bytes -/
def CP (m : Nat) (L : List Nat) (S S1 : St) : Prop := S1 20 6 = nI (m + L.length) ∧ ap m L (S 7) (S1 7) ∧ FP S S1
theorem CP.trans {m : Nat} {L1 L2 : List Nat} {S S1 S2 : St} (a : CP m L1 S S1) (b : CP (m + L1.length) L2 S1 S2) : CP m (L1 ++ L2) S S2 := ⟨by rw [b.1, List.length_append, Nat.add_assoc], a.2.1.trans b.2.1, a.2.2.trans b.2.2⟩
theorem CW.p {m : Nat} {L : List Nat} {S S1 : St} (h : CW m L S S1) : CP m L S S1 := ⟨h.1, h.2.1, h.2.2.p⟩
theorem CP.fr {m : Nat} {S S1 : St} (e : S 20 6 = nI m) (h7 : S1 7 = S 7) (h6 : S1 20 6 = S 20 6) (f : FP S S1) : CP m [] S S1 := ⟨by rw [h6]; exact e, by rw [h7]; exact ap.nil _ _, f⟩
theorem CP.nl {m : Nat} {L : List Nat} {S S1 S2 : St} (a : CP m [] S S1) (b : CP m L S1 S2) : CP m L S S2 := by
  refine ⟨b.1, fun i => ?_, a.2.2.trans b.2.2⟩
  have h := a.2.1 i
  rw [if_neg (by simp only [List.length_nil]; omega)] at h
  rw [b.2.1 i, h]
theorem VF_fr {S S1 : St} (f : FP S S1) {p en : Nat} (h : ∀ q, p ≤ q → q < en → S 3 q = 0 ∨ KS S q) : ∀ q, p ≤ q → q < en → S1 3 q = 0 ∨ KS S1 q := by
  intro q h1 h2
  unfold KS
  rw [f.1 3 (by omega) (by omega) (by omega) (by omega) (by omega), f.1 5 (by omega) (by omega) (by omega) (by omega) (by omega)]
  exact h q h1 h2
theorem prB_fr {S S1 : St} (f : FP S S1) (m : Nat) (a : Nat → Nat) (t p : Nat) : prB S1 m a t p = prB S m a t p := prB_congr m a t p (fun q _ _ => by rw [f.1 3 (by omega) (by omega) (by omega) (by omega) (by omega)]) (fun j _ _ => by rw [f.1 5 (by omega) (by omega) (by omega) (by omega) (by omega)])
/-- one place written -/
theorem wp_put {p t m : Nat} (hp : p ≤ 96) (ht : t ≤ p) (hm : m + 11 ≤ 1076) {a r : Nat → Nat} (ha : AB a) (hr : AB r) {S1 : St} (e1 : S1 20 6 = nI m) (r0 : R0 S1 a) (r1 : R1 S1 r) (K : St → Option (Int32 × St)) : ∃ S5 : St, ((m_X3_writeAdvance (nI (p - t)) S1).bind fun r4 => (m_X3_writeBase r4.2).bind fun r5 => (m_X3_writeSaved r5.2).bind fun r6 => (m_X6_copyFrom 0 1 r6.2).bind fun r7 => K r7.2) = K S5 ∧ CP m (plB a r (p - t)) S1 S5 ∧ R0 S5 r := by
  obtain ⟨S2, d1, d2⟩ := wadv (show m + 2 ≤ 1076 by omega) (show p - t ≤ 96 by omega) e1
  have l1 := adv_len (p - t)
  obtain ⟨S3, g1, g2⟩ := wbas (m := m + (adv (p - t)).length) (by omega) ha hr d2.1 (r0.w d2.2.2) (r1.w d2.2.2)
  have l2 := bas_len a r
  obtain ⟨S4, k1, k2⟩ := wsv (m := m + (adv (p - t)).length + (bas a r).length) (by omega) ha hr g2.1 ((r0.w d2.2.2).w g2.2.2) ((r1.w d2.2.2).w g2.2.2)
  have cw : CW m (plB a r (p - t)) S1 S4 := d2.trans (g2.trans k2)
  have hr1 : R1 S4 r := r1.w cw.2.2
  have cq := cpy_eq (show 0 ≠ 1 by omega) (show 0 < 8 by omega) (show 1 < 8 by omega) S4
  obtain ⟨S5, hS5⟩ : ∃ S5, S5 = cpy 0 1 S4 := ⟨_, rfl⟩
  rw [← hS5] at cq
  have r5 : R0 S5 r := by
    obtain ⟨w1, w2, w3⟩ := hr1
    rw [hS5]
    refine ⟨?_, ?_, fun q hq => ?_⟩
    · simp [cpy, st_at]; exact w1
    · simp [cpy, st_at]; exact w2
    · rcases (show q = 0 ∨ q = 1 ∨ q = 2 by omega) with rfl | rfl | rfl
      · simp [cpy, st_at]; exact w3 0 (by omega)
      · simp [cpy, st_at]; exact w3 1 (by omega)
      · simp [cpy, st_at]; exact w3 2 (by omega)
  have f5 : FP S4 S5 := by
    rw [hS5]
    exact ⟨fun k _ _ h12 _ h20 => by simp [cpy, st, h12, h20], fun j _ _ _ h17 => by simp [cpy, st_at, show j ≠ 17 by omega, show j ≠ 18 by omega]⟩
  have c5 : CP (m + (plB a r (p - t)).length) [] S4 S5 := CP.fr cw.1 (by rw [hS5]; simp [cpy, st]) (by rw [hS5]; simp [cpy, st_at]) f5
  have c15 : CP m (plB a r (p - t)) S1 S5 := by
    have := cw.p.trans c5
    rw [List.append_nil] at this
    exact this
  refine ⟨S5, ?_, c15, r5⟩
  rw [d1, some_bind']
  rw [g1, some_bind']
  rw [k1, some_bind']
  rw [cq, some_bind']
theorem wp_cls {en : Nat} (he : en ≤ 96) : ∀ (d p t F m : Nat) (a : Nat → Nat) (S : St), p + d = en → d < F → t ≤ p → S 20 6 = nI m → m + 11 * d ≤ 1076 → AB a → R0 S a → (∀ q, p ≤ q → q < en → S 3 q = 0 ∨ KS S q) → ∃ S1 : St, m_X3_writeProgram_L12 F (nI en) (nI t) (nI p) S = some (0, S1) ∧ CP m (prB S d a t p) S S1 := by
  intro d
  induction d with
  | zero =>
    intro p t F m a S hp hF ht e hm ha h0 hV
    obtain ⟨f, rfl⟩ : ∃ f, F = f + 1 := ⟨F - 1, by omega⟩
    refine ⟨S, ?_, CP.fr e rfl rfl (FP.refl S)⟩
    rw [m_X3_writeProgram_L12, if_pos (nI_le (by omega) (by omega))]
  | succ d ih =>
    intro p t F m a S hp hF ht e hm ha h0 hV
    obtain ⟨f, rfl⟩ : ∃ f, F = f + 1 := ⟨F - 1, by omega⟩
    rw [m_X3_writeProgram_L12, if_neg (nI_ge (show p < en by omega) (by omega)), prB, nI_1]
    by_cases h3 : S 3 p = 0
    · have : m_X1_fillRow (nI p) S = some (0, S) := by
        unfold m_X1_fillRow
        rw [if_pos (inb_nI (show p < 97 by omega) (by omega)), nI_cl (by omega), if_pos h3]; rfl
      rw [this, some_bind', if_pos h3, if_pos (show ((0 : Int32), S).1 = 0 from rfl)]
      exact ih (p + 1) t f m a S (by omega) (by omega) (by omega) e (by omega) ha h0 (fun q h1 h2 => hV q (by omega) h2)
    · have hK : KS S p := by
        rcases hV p (by omega) (by omega) with h | h
        · exact absurd h h3
        · exact h
      have hAB : AB (rwN S p) := by
        obtain ⟨h, fr, s, b, k1, k2, k3⟩ := hK
        exact (rw_vals b k1 k2 k3).2.2.2
      obtain ⟨S1, b1, b2, b3, b4⟩ := fill_eq (show p ≤ 96 by omega) h3 hK
      have f1 : FP S S1 := ⟨fun k h6 h7 h12 h13 h20 => b3 k h6 h13 h20, fun j h2 h3 h6 h17 => b4 j h2 h3 (by omega) (by omega)⟩
      have e1 : S1 20 6 = nI m := by rw [b4 6 (by omega) (by omega) (by omega) (by omega)]; exact e
      have c1 : CP m [] S S1 := CP.fr e (b3 7 (by omega) (by omega) (by omega)) (b4 6 (by omega) (by omega) (by omega) (by omega)) f1
      have r0 : R0 S1 a := ⟨by rw [b4 17 (by omega) (by omega) (by omega) (by omega)]; exact h0.1, by rw [b4 18 (by omega) (by omega) (by omega) (by omega)]; exact h0.2.1, fun r hr => by rw [b3 12 (by omega) (by omega) (by omega)]; exact h0.2.2 r hr⟩
      rw [b1, some_bind', if_neg h3, if_neg (show ¬ ((1 : Int32), S1).1 = 0 from i10), same_eq ha hAB r0 b2, some_bind']
      by_cases hs : smR a (rwN S p) = true
      · rw [if_pos hs, if_pos hs, if_neg (show ¬ ((1 : Int32), S1).1 = 0 from i10)]
        obtain ⟨S2, d1, d2⟩ := ih (p + 1) t f m a S1 (by omega) (by omega) (by omega) e1 (by omega) ha r0 (VF_fr f1 (fun q h1 h2 => hV q (by omega) h2))
        rw [prB_fr f1] at d2
        exact ⟨S2, d1, c1.nl d2⟩
      · rw [if_neg hs, if_neg hs, if_pos (show ((0 : Int32), S1).1 = 0 from rfl), pk_sub ht]
        obtain ⟨S5, q1, q2, r5⟩ := wp_put (show p ≤ 96 by omega) ht (show m + 11 ≤ 1076 by omega) ha hAB e1 r0 b2 (fun U => m_X3_writeProgram_L12 f (nI en) (nI p) (nI (p + 1)) U)
        rw [q1]
        have c15 : CP m (plB a (rwN S p) (p - t)) S S5 := c1.nl q2
        have l3 := plB_len a (rwN S p) (p - t)
        obtain ⟨S6, n1, n2⟩ := ih (p + 1) p f (m + (plB a (rwN S p) (p - t)).length) (rwN S p) S5 (by omega) (by omega) (by omega) c15.1 (by omega) hAB r5 (VF_fr c15.2.2 (fun q h1 h2 => hV q (by omega) h2))
        rw [prB_fr c15.2.2] at n2
        exact ⟨S6, n1, c15.trans n2⟩
