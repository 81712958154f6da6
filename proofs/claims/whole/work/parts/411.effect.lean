theorem save9_any {r : Nat} (hr : r < 3) (v : Int32) (T : St) : ∃ T1 : St, m_X9_save (nI r) v T = some (0, T1) ∧ GE T T1 := by
  have i3 : inb (nI (2 + r)) 5 = true := inb_nI (by omega) (by omega)
  unfold m_X9_save
  simp only [ad2, if_pos i3]
  split
  · exact ⟨_, rfl, GE.s T _ _⟩
  · exact ⟨_, rfl, GE.s T _ _⟩
/-- the finder's surroundings -/
def FO (S T : St) (i fi en : Nat) : Prop := i < 5 ∧ en ≤ 96 ∧ fi < en ∧ S 20 4 = nI fi ∧ S 20 5 = nI en ∧ T 4 i = nI fi ∧ T 5 i = nI en ∧ ∀ q, fi ≤ q → q < en → S 4 q = T 8 q
theorem inF {S : St} {fi en x : Nat} (h1 : S 20 4 = nI fi) (h2 : S 20 5 = nI en) (hx : x < 256) (hf : fi < 2 ^ 31) (he : en < 2 ^ 31) : m_X1_inFunction (nI x) S = some ((if fi ≤ x ∧ x < en then 1 else 0), S) := by
  unfold m_X1_inFunction
  rw [h1, h2]
  by_cases a : x < fi
  · rw [if_pos (nI_lt a hf), if_neg (show ¬ (fi ≤ x ∧ x < en) by omega)]; rfl
  · rw [if_neg (nI_nlt (by omega) (by omega))]
    by_cases b : en ≤ x
    · rw [if_pos (nI_le b (by omega)), if_neg (show ¬ (fi ≤ x ∧ x < en) by omega)]; rfl
    · rw [if_neg (nI_ge (by omega) he), if_pos (show fi ≤ x ∧ x < en by omega)]; rfl
theorem hold3 {S : St} {s : Nat → Nat} (es : ∀ r, r < 3 → S 6 r = nI (s r)) (bs : ∀ r, r < 3 → s r ≤ 30) {v : Nat} (hv : v ≤ 30) : m_X1_holdsSaved (nI v) S = some ((if s 0 = v ∨ s 1 = v ∨ s 2 = v then 1 else 0), S) := by
  have s0 := bs 0 (by omega)
  have s1 := bs 1 (by omega)
  have s2 := bs 2 (by omega)
  have st1 : ∀ (j f : Nat), j < 3 → m_X1_holdsSaved_L2 (f + 1) (nI v) (nI j) S = if s j = v then some (1, S) else m_X1_holdsSaved_L2 f (nI v) (nI (j + 1)) S := by
    intro j f hj
    have := bs j hj
    rw [m_X1_holdsSaved_L2, if_neg (show ¬ (3 : Int32) ≤ nI j from nI_ge (b := 3) hj (by omega)), if_pos (inb_nI hj (by omega)), nI_cl (by omega), es j hj, nI_1]
    simp only [q_eq (show s j < 2 ^ 31 by omega) (show v < 2 ^ 31 by omega), bz1]
  have L : ∀ F, 4 ≤ F → m_X1_holdsSaved_L2 F (nI v) (nI 0) S = some ((if s 0 = v ∨ s 1 = v ∨ s 2 = v then 1 else 0), S) := by
    intro F hF
    obtain ⟨f, rfl⟩ : ∃ f, F = f + 4 := ⟨F - 4, by omega⟩
    rw [st1 0 (f + 3) (by omega)]
    by_cases h0 : s 0 = v
    · rw [if_pos h0, if_pos (Or.inl h0)]
    · rw [if_neg h0, st1 1 (f + 2) (by omega)]
      by_cases h1 : s 1 = v
      · rw [if_pos h1, if_pos (Or.inr (Or.inl h1))]
      · rw [if_neg h1, st1 2 (f + 1) (by omega)]
        by_cases h2 : s 2 = v
        · rw [if_pos h2, if_pos (Or.inr (Or.inr h2))]
        · rw [if_neg h2, if_neg (show ¬ (s 0 = v ∨ s 1 = v ∨ s 2 = v) by omega), m_X1_holdsSaved_L2, if_pos (show (3 : Int32) ≤ nI (2 + 1) by decide)]; rfl
  exact L 10000 (by omega)
theorem p00 : (0 : Int32) ≤ 0 := by decide
theorem p40 : ¬ (4 : Int32) ≤ 0 := by decide
theorem p41 : ¬ (4 : Int32) = 0 := by decide
theorem p91 : ¬ (9 : Int32) = 0 := by decide
theorem sub_lt2 {h z : Nat} (h1 : h ≤ 30) (hz : z < 256) (hh : h < z + 2) : nI h - nI z < (2 : Int32) := by
  rw [Int32.lt_iff_toInt_lt, pk_sub_toInt (by omega) (by omega)]
  have : (2 : Int32).toInt = 2 := by decide
  omega
theorem ef0 {S T : St} {h fr : Nat} {s : Nat → Nat} (hw : NW S T h fr s) (hb : NB h fr s) (hF : RF S T) {i fi en : Nat} (hO : FO S T i fi en) (d1 : Int32) (d2 : Int32) : EF S T (m_X1_effect (nI 0) d1 d2 S) (m_X9_effect_L49 (nI i) (nI 0) 0 0 T) := by
  obtain ⟨b1, b2, b3, b4⟩ := id hb
  obtain ⟨a1, a2, a3, a4, a5⟩ := id hw
  obtain ⟨o1, o2, o3, o4, o5, o6, o7, o8⟩ := hO
  have e1 : (nI 0 = (1 : Int32)) = False := eq_false (by decide)
  have e2 : (nI 0 = (2 : Int32)) = False := eq_false (by decide)
  have e3 : (nI 0 = (3 : Int32)) = False := eq_false (by decide)
  have e4 : (nI 0 = (4 : Int32)) = False := eq_false (by decide)
  have e5 : (nI 0 = (5 : Int32)) = False := eq_false (by decide)
  have e6 : (nI 0 = (6 : Int32)) = False := eq_false (by decide)
  have e7 : (nI 0 = (7 : Int32)) = False := eq_false (by decide)
  have e8 : (nI 0 = (8 : Int32)) = False := eq_false (by decide)
  have e9 : (nI 0 = (9 : Int32)) = False := eq_false (by decide)
  have e10 : (nI 0 = (10 : Int32)) = False := eq_false (by decide)
  have e11 : (nI 0 = (11 : Int32)) = False := eq_false (by decide)
  have e12 : (nI 0 = (12 : Int32)) = False := eq_false (by decide)
  have e13 : (nI 0 = (13 : Int32)) = False := eq_false (by decide)
  have e14 : (nI 0 = (14 : Int32)) = False := eq_false (by decide)
  have e15 : (nI 0 = (15 : Int32)) = False := eq_false (by decide)
  have s0 := b4 0 (by omega)
  have s1 := b4 1 (by omega)
  have s2 := b4 2 (by omega)
  have c2 : T 9 2 = nI (s 0) := (a5 0 (by omega)).2
  have c3 : T 9 3 = nI (s 1) := (a5 1 (by omega)).2
  have c4 : T 9 4 = nI (s 2) := (a5 2 (by omega)).2
  have oi : inb (nI i) 5 = true := inb_nI o1 (by omega)
  have ci : (nI i).toNatClampNeg = i := nI_cl (by omega)
  unfold m_X1_effect m_X9_effect_L49
  simp only [if_pos y50, e1, e2, e3, e4, e5, e6, e7, e8, e9, e10, e11, e12, e13, e14, e15, if_true, if_false, n50]
  exact EF.ok rfl rfl (FE.refl S) (GE.refl T) hw hb
theorem ef12 {S T : St} {h fr : Nat} {s : Nat → Nat} (hw : NW S T h fr s) (hb : NB h fr s) (hF : RF S T) {i fi en : Nat} (hO : FO S T i fi en) {x : Nat} (hx : x < 256) (d2 : Int32) : EF S T (m_X1_effect (nI 12) (nI x) d2 S) (m_X9_effect_L49 (nI i) (nI 12) (nI x) 0 T) := by
  obtain ⟨b1, b2, b3, b4⟩ := id hb
  obtain ⟨a1, a2, a3, a4, a5⟩ := id hw
  obtain ⟨o1, o2, o3, o4, o5, o6, o7, o8⟩ := hO
  have e1 : (nI 12 = (1 : Int32)) = False := eq_false (by decide)
  have e2 : (nI 12 = (2 : Int32)) = False := eq_false (by decide)
  have e3 : (nI 12 = (3 : Int32)) = False := eq_false (by decide)
  have e4 : (nI 12 = (4 : Int32)) = False := eq_false (by decide)
  have e5 : (nI 12 = (5 : Int32)) = False := eq_false (by decide)
  have e6 : (nI 12 = (6 : Int32)) = False := eq_false (by decide)
  have e7 : (nI 12 = (7 : Int32)) = False := eq_false (by decide)
  have e8 : (nI 12 = (8 : Int32)) = False := eq_false (by decide)
  have e9 : (nI 12 = (9 : Int32)) = False := eq_false (by decide)
  have e10 : (nI 12 = (10 : Int32)) = False := eq_false (by decide)
  have e11 : (nI 12 = (11 : Int32)) = False := eq_false (by decide)
  have e12 : (nI 12 = (12 : Int32)) = True := eq_true rfl
  have e13 : (nI 12 = (13 : Int32)) = False := eq_false (by decide)
  have e14 : (nI 12 = (14 : Int32)) = False := eq_false (by decide)
  have e15 : (nI 12 = (15 : Int32)) = False := eq_false (by decide)
  have s0 := b4 0 (by omega)
  have s1 := b4 1 (by omega)
  have s2 := b4 2 (by omega)
  have c2 : T 9 2 = nI (s 0) := (a5 0 (by omega)).2
  have c3 : T 9 3 = nI (s 1) := (a5 1 (by omega)).2
  have c4 : T 9 4 = nI (s 2) := (a5 2 (by omega)).2
  have oi : inb (nI i) 5 = true := inb_nI o1 (by omega)
  have ci : (nI i).toNatClampNeg = i := nI_cl (by omega)
  unfold m_X1_effect m_X9_effect_L49
  simp only [if_pos y50, e1, e2, e3, e4, e5, e6, e7, e8, e9, e10, e11, e12, e13, e14, e15, if_true, if_false, n50]
  exact EF.ok rfl rfl (FE.refl S) (GE.refl T) hw hb
theorem ef13 {S T : St} {h fr : Nat} {s : Nat → Nat} (hw : NW S T h fr s) (hb : NB h fr s) (hF : RF S T) {i fi en : Nat} (hO : FO S T i fi en) (d1 : Int32) (d2 : Int32) : EF S T (m_X1_effect (nI 13) d1 d2 S) (m_X9_effect_L49 (nI i) (nI 13) 0 0 T) := by
  obtain ⟨b1, b2, b3, b4⟩ := id hb
  obtain ⟨a1, a2, a3, a4, a5⟩ := id hw
  obtain ⟨o1, o2, o3, o4, o5, o6, o7, o8⟩ := hO
  have e1 : (nI 13 = (1 : Int32)) = False := eq_false (by decide)
  have e2 : (nI 13 = (2 : Int32)) = False := eq_false (by decide)
  have e3 : (nI 13 = (3 : Int32)) = False := eq_false (by decide)
  have e4 : (nI 13 = (4 : Int32)) = False := eq_false (by decide)
  have e5 : (nI 13 = (5 : Int32)) = False := eq_false (by decide)
  have e6 : (nI 13 = (6 : Int32)) = False := eq_false (by decide)
  have e7 : (nI 13 = (7 : Int32)) = False := eq_false (by decide)
  have e8 : (nI 13 = (8 : Int32)) = False := eq_false (by decide)
  have e9 : (nI 13 = (9 : Int32)) = False := eq_false (by decide)
  have e10 : (nI 13 = (10 : Int32)) = False := eq_false (by decide)
  have e11 : (nI 13 = (11 : Int32)) = False := eq_false (by decide)
  have e12 : (nI 13 = (12 : Int32)) = False := eq_false (by decide)
  have e13 : (nI 13 = (13 : Int32)) = True := eq_true rfl
  have e14 : (nI 13 = (14 : Int32)) = False := eq_false (by decide)
  have e15 : (nI 13 = (15 : Int32)) = False := eq_false (by decide)
  have s0 := b4 0 (by omega)
  have s1 := b4 1 (by omega)
  have s2 := b4 2 (by omega)
  have c2 : T 9 2 = nI (s 0) := (a5 0 (by omega)).2
  have c3 : T 9 3 = nI (s 1) := (a5 1 (by omega)).2
  have c4 : T 9 4 = nI (s 2) := (a5 2 (by omega)).2
  have oi : inb (nI i) 5 = true := inb_nI o1 (by omega)
  have ci : (nI i).toNatClampNeg = i := nI_cl (by omega)
  unfold m_X1_effect m_X9_effect_L49
  simp only [if_pos y50, e1, e2, e3, e4, e5, e6, e7, e8, e9, e10, e11, e12, e13, e14, e15, if_true, if_false, n50]
  exact EF.ok rfl rfl (FE.refl S) (GE.refl T) hw hb
theorem ef1 {S T : St} {h fr : Nat} {s : Nat → Nat} (hw : NW S T h fr s) (hb : NB h fr s) (hF : RF S T) {i fi en : Nat} (hO : FO S T i fi en) {x : Nat} (hx : x < 3) (d2 : Int32) : EF S T (m_X1_effect (nI 1) (nI x) d2 S) (m_X9_effect_L49 (nI i) (nI 1) (nI x) 0 T) := by
  obtain ⟨b1, b2, b3, b4⟩ := id hb
  obtain ⟨a1, a2, a3, a4, a5⟩ := id hw
  obtain ⟨o1, o2, o3, o4, o5, o6, o7, o8⟩ := hO
  have e1 : (nI 1 = (1 : Int32)) = True := eq_true rfl
  have e2 : (nI 1 = (2 : Int32)) = False := eq_false (by decide)
  have e3 : (nI 1 = (3 : Int32)) = False := eq_false (by decide)
  have e4 : (nI 1 = (4 : Int32)) = False := eq_false (by decide)
  have e5 : (nI 1 = (5 : Int32)) = False := eq_false (by decide)
  have e6 : (nI 1 = (6 : Int32)) = False := eq_false (by decide)
  have e7 : (nI 1 = (7 : Int32)) = False := eq_false (by decide)
  have e8 : (nI 1 = (8 : Int32)) = False := eq_false (by decide)
  have e9 : (nI 1 = (9 : Int32)) = False := eq_false (by decide)
  have e10 : (nI 1 = (10 : Int32)) = False := eq_false (by decide)
  have e11 : (nI 1 = (11 : Int32)) = False := eq_false (by decide)
  have e12 : (nI 1 = (12 : Int32)) = False := eq_false (by decide)
  have e13 : (nI 1 = (13 : Int32)) = False := eq_false (by decide)
  have e14 : (nI 1 = (14 : Int32)) = False := eq_false (by decide)
  have e15 : (nI 1 = (15 : Int32)) = False := eq_false (by decide)
  have s0 := b4 0 (by omega)
  have s1 := b4 1 (by omega)
  have s2 := b4 2 (by omega)
  have c2 : T 9 2 = nI (s 0) := (a5 0 (by omega)).2
  have c3 : T 9 3 = nI (s 1) := (a5 1 (by omega)).2
  have c4 : T 9 4 = nI (s 2) := (a5 2 (by omega)).2
  have oi : inb (nI i) 5 = true := inb_nI o1 (by omega)
  have ci : (nI i).toNatClampNeg = i := nI_cl (by omega)
  unfold m_X1_effect m_X9_effect_L49
  simp only [if_pos y50, e1, e2, e3, e4, e5, e6, e7, e8, e9, e10, e11, e12, e13, e14, e15, if_true, if_false, n50]
  unfold m_X1_pushRegister
  rcases gain_sim hw hb (show 1 < 256 by omega) with ⟨g1, g2, g3, g4, g5⟩ | ⟨g2, g3⟩
  · rw [show (1 : Int32) = nI 1 from rfl, g2, g3, some_bind', some_bind']
    simp only [if_true, st_rd]
    obtain ⟨S1, T1, s1', v1, v2, v3, v4, v5, v6⟩ := save_sim g4 g5 hx (show h + 1 ≤ 30 from g1)
    rw [v1, v2, some_bind', some_bind']
    exact EF.ok rfl rfl ((FE.s2 S _).trans v3) ((GE.s T _ _).trans v4) v5 v6
  · obtain ⟨T1, v1, v2⟩ := save9_any hx (nI (h + 1)) (st T 9 0 (nI (h + 1)))
    rw [show (1 : Int32) = nI 1 from rfl, g2, g3, some_bind', some_bind']
    simp only [if_neg p91, st_rd, v1, some_bind']
    exact EF.bad 9 (by omega) (by omega) rfl rfl (FE.s2 S _) ((GE.s T _ _).trans v2)
theorem ef2 {S T : St} {h fr : Nat} {s : Nat → Nat} (hw : NW S T h fr s) (hb : NB h fr s) (hF : RF S T) {i fi en : Nat} (hO : FO S T i fi en) {x : Nat} (hx : x < 3) (d2 : Int32) : EF S T (m_X1_effect (nI 2) (nI x) d2 S) (m_X9_effect_L49 (nI i) (nI 2) (nI x) 0 T) := by
  obtain ⟨b1, b2, b3, b4⟩ := id hb
  obtain ⟨a1, a2, a3, a4, a5⟩ := id hw
  obtain ⟨o1, o2, o3, o4, o5, o6, o7, o8⟩ := hO
  have e1 : (nI 2 = (1 : Int32)) = False := eq_false (by decide)
  have e2 : (nI 2 = (2 : Int32)) = True := eq_true rfl
  have e3 : (nI 2 = (3 : Int32)) = False := eq_false (by decide)
  have e4 : (nI 2 = (4 : Int32)) = False := eq_false (by decide)
  have e5 : (nI 2 = (5 : Int32)) = False := eq_false (by decide)
  have e6 : (nI 2 = (6 : Int32)) = False := eq_false (by decide)
  have e7 : (nI 2 = (7 : Int32)) = False := eq_false (by decide)
  have e8 : (nI 2 = (8 : Int32)) = False := eq_false (by decide)
  have e9 : (nI 2 = (9 : Int32)) = False := eq_false (by decide)
  have e10 : (nI 2 = (10 : Int32)) = False := eq_false (by decide)
  have e11 : (nI 2 = (11 : Int32)) = False := eq_false (by decide)
  have e12 : (nI 2 = (12 : Int32)) = False := eq_false (by decide)
  have e13 : (nI 2 = (13 : Int32)) = False := eq_false (by decide)
  have e14 : (nI 2 = (14 : Int32)) = False := eq_false (by decide)
  have e15 : (nI 2 = (15 : Int32)) = False := eq_false (by decide)
  have s0 := b4 0 (by omega)
  have s1 := b4 1 (by omega)
  have s2 := b4 2 (by omega)
  have c2 : T 9 2 = nI (s 0) := (a5 0 (by omega)).2
  have c3 : T 9 3 = nI (s 1) := (a5 1 (by omega)).2
  have c4 : T 9 4 = nI (s 2) := (a5 2 (by omega)).2
  have oi : inb (nI i) 5 = true := inb_nI o1 (by omega)
  have ci : (nI i).toNatClampNeg = i := nI_cl (by omega)
  unfold m_X1_effect m_X9_effect_L49
  simp only [if_pos y50, e1, e2, e3, e4, e5, e6, e7, e8, e9, e10, e11, e12, e13, e14, e15, if_true, if_false, n50]
  unfold m_X1_popRegister
  have hq : (nI h = (1 : Int32)) = (h = 1) := q_eq (b := 1) (by omega) (by omega)
  simp only [a1, a2, hq]
  by_cases h1 : h = 1
  · simp only [if_pos h1, some_bind']
    exact EF.bad 5 (by omega) (by omega) rfl rfl (FE.refl S) (GE.refl T)
  · simp only [if_neg h1]
    rcases give_sim hw hb hx b1 b2 with ⟨g1, g2⟩ | ⟨S1, T1, f1, s1', g1, g2, g3, g4, g5, g6⟩
    · simp only [g1, g2, some_bind', if_neg p41, if_neg p40]
      exact EF.bad 4 (by omega) (by omega) rfl rfl (FE.refl S) (GE.refl T)
    · simp only [g1, g2, some_bind', if_true, if_pos p00]
      obtain ⟨r, S2, T2, l1, l2, l3, l4, l5⟩ := lose_sim g5 g6 (show 1 < 256 by omega)
      rw [show (1 : Int32) = nI 1 from rfl, l1, l2]
      simp only [some_bind']
      exact ⟨r, S2, T2, rfl, rfl, g3.trans l3, g4.trans l4, l5⟩
theorem ef3 {S T : St} {h fr : Nat} {s : Nat → Nat} (hw : NW S T h fr s) (hb : NB h fr s) (hF : RF S T) {i fi en : Nat} (hO : FO S T i fi en) {x : Nat} (hx : x < 256) (d2 : Int32) : EF S T (m_X1_effect (nI 3) (nI x) d2 S) (m_X9_effect_L49 (nI i) (nI 3) (nI x) 0 T) := by
  obtain ⟨b1, b2, b3, b4⟩ := id hb
  obtain ⟨a1, a2, a3, a4, a5⟩ := id hw
  obtain ⟨o1, o2, o3, o4, o5, o6, o7, o8⟩ := hO
  have e1 : (nI 3 = (1 : Int32)) = False := eq_false (by decide)
  have e2 : (nI 3 = (2 : Int32)) = False := eq_false (by decide)
  have e3 : (nI 3 = (3 : Int32)) = True := eq_true rfl
  have e4 : (nI 3 = (4 : Int32)) = False := eq_false (by decide)
  have e5 : (nI 3 = (5 : Int32)) = False := eq_false (by decide)
  have e6 : (nI 3 = (6 : Int32)) = False := eq_false (by decide)
  have e7 : (nI 3 = (7 : Int32)) = False := eq_false (by decide)
  have e8 : (nI 3 = (8 : Int32)) = False := eq_false (by decide)
  have e9 : (nI 3 = (9 : Int32)) = False := eq_false (by decide)
  have e10 : (nI 3 = (10 : Int32)) = False := eq_false (by decide)
  have e11 : (nI 3 = (11 : Int32)) = False := eq_false (by decide)
  have e12 : (nI 3 = (12 : Int32)) = False := eq_false (by decide)
  have e13 : (nI 3 = (13 : Int32)) = False := eq_false (by decide)
  have e14 : (nI 3 = (14 : Int32)) = False := eq_false (by decide)
  have e15 : (nI 3 = (15 : Int32)) = False := eq_false (by decide)
  have s0 := b4 0 (by omega)
  have s1 := b4 1 (by omega)
  have s2 := b4 2 (by omega)
  have c2 : T 9 2 = nI (s 0) := (a5 0 (by omega)).2
  have c3 : T 9 3 = nI (s 1) := (a5 1 (by omega)).2
  have c4 : T 9 4 = nI (s 2) := (a5 2 (by omega)).2
  have oi : inb (nI i) 5 = true := inb_nI o1 (by omega)
  have ci : (nI i).toNatClampNeg = i := nI_cl (by omega)
  unfold m_X1_effect m_X9_effect_L49
  simp only [if_pos y50, e1, e2, e3, e4, e5, e6, e7, e8, e9, e10, e11, e12, e13, e14, e15, if_true, if_false, n50]
  rcases gain_sim hw hb hx with ⟨g1, g2, g3, g4, g5⟩ | ⟨g2, g3⟩
  · simp only [g2, g3, some_bind']
    exact EF.ok rfl rfl (FE.s2 S _) (GE.s T _ _) g4 g5
  · simp only [g2, g3, some_bind']
    exact EF.bad 9 (by omega) (by omega) rfl rfl (FE.s2 S _) (GE.s T _ _)
theorem ef4 {S T : St} {h fr : Nat} {s : Nat → Nat} (hw : NW S T h fr s) (hb : NB h fr s) (hF : RF S T) {i fi en : Nat} (hO : FO S T i fi en) {x : Nat} (hx : x < 256) (d2 : Int32) : EF S T (m_X1_effect (nI 4) (nI x) d2 S) (m_X9_effect_L49 (nI i) (nI 4) (nI x) 0 T) := by
  obtain ⟨b1, b2, b3, b4⟩ := id hb
  obtain ⟨a1, a2, a3, a4, a5⟩ := id hw
  obtain ⟨o1, o2, o3, o4, o5, o6, o7, o8⟩ := hO
  have e1 : (nI 4 = (1 : Int32)) = False := eq_false (by decide)
  have e2 : (nI 4 = (2 : Int32)) = False := eq_false (by decide)
  have e3 : (nI 4 = (3 : Int32)) = False := eq_false (by decide)
  have e4 : (nI 4 = (4 : Int32)) = True := eq_true rfl
  have e5 : (nI 4 = (5 : Int32)) = False := eq_false (by decide)
  have e6 : (nI 4 = (6 : Int32)) = False := eq_false (by decide)
  have e7 : (nI 4 = (7 : Int32)) = False := eq_false (by decide)
  have e8 : (nI 4 = (8 : Int32)) = False := eq_false (by decide)
  have e9 : (nI 4 = (9 : Int32)) = False := eq_false (by decide)
  have e10 : (nI 4 = (10 : Int32)) = False := eq_false (by decide)
  have e11 : (nI 4 = (11 : Int32)) = False := eq_false (by decide)
  have e12 : (nI 4 = (12 : Int32)) = False := eq_false (by decide)
  have e13 : (nI 4 = (13 : Int32)) = False := eq_false (by decide)
  have e14 : (nI 4 = (14 : Int32)) = False := eq_false (by decide)
  have e15 : (nI 4 = (15 : Int32)) = False := eq_false (by decide)
  have s0 := b4 0 (by omega)
  have s1 := b4 1 (by omega)
  have s2 := b4 2 (by omega)
  have c2 : T 9 2 = nI (s 0) := (a5 0 (by omega)).2
  have c3 : T 9 3 = nI (s 1) := (a5 1 (by omega)).2
  have c4 : T 9 4 = nI (s 2) := (a5 2 (by omega)).2
  have oi : inb (nI i) 5 = true := inb_nI o1 (by omega)
  have ci : (nI i).toNatClampNeg = i := nI_cl (by omega)
  unfold m_X1_effect m_X9_effect_L49
  simp only [if_pos y50, e1, e2, e3, e4, e5, e6, e7, e8, e9, e10, e11, e12, e13, e14, e15, if_true, if_false, n50]
  obtain ⟨r, S2, T2, l1, l2, l3, l4, l5⟩ := lose_sim hw hb hx
  rw [l1, l2]
  simp only [some_bind']
  exact ⟨r, S2, T2, rfl, rfl, l3, l4, l5⟩
theorem ef5 {S T : St} {h fr : Nat} {s : Nat → Nat} (hw : NW S T h fr s) (hb : NB h fr s) (hF : RF S T) {i fi en : Nat} (hO : FO S T i fi en) (d1 : Int32) (d2 : Int32) : EF S T (m_X1_effect (nI 5) d1 d2 S) (m_X9_effect_L49 (nI i) (nI 5) 0 0 T) := by
  obtain ⟨b1, b2, b3, b4⟩ := id hb
  obtain ⟨a1, a2, a3, a4, a5⟩ := id hw
  obtain ⟨o1, o2, o3, o4, o5, o6, o7, o8⟩ := hO
  have e1 : (nI 5 = (1 : Int32)) = False := eq_false (by decide)
  have e2 : (nI 5 = (2 : Int32)) = False := eq_false (by decide)
  have e3 : (nI 5 = (3 : Int32)) = False := eq_false (by decide)
  have e4 : (nI 5 = (4 : Int32)) = False := eq_false (by decide)
  have e5 : (nI 5 = (5 : Int32)) = True := eq_true rfl
  have e6 : (nI 5 = (6 : Int32)) = False := eq_false (by decide)
  have e7 : (nI 5 = (7 : Int32)) = False := eq_false (by decide)
  have e8 : (nI 5 = (8 : Int32)) = False := eq_false (by decide)
  have e9 : (nI 5 = (9 : Int32)) = False := eq_false (by decide)
  have e10 : (nI 5 = (10 : Int32)) = False := eq_false (by decide)
  have e11 : (nI 5 = (11 : Int32)) = False := eq_false (by decide)
  have e12 : (nI 5 = (12 : Int32)) = False := eq_false (by decide)
  have e13 : (nI 5 = (13 : Int32)) = False := eq_false (by decide)
  have e14 : (nI 5 = (14 : Int32)) = False := eq_false (by decide)
  have e15 : (nI 5 = (15 : Int32)) = False := eq_false (by decide)
  have s0 := b4 0 (by omega)
  have s1 := b4 1 (by omega)
  have s2 := b4 2 (by omega)
  have c2 : T 9 2 = nI (s 0) := (a5 0 (by omega)).2
  have c3 : T 9 3 = nI (s 1) := (a5 1 (by omega)).2
  have c4 : T 9 4 = nI (s 2) := (a5 2 (by omega)).2
  have oi : inb (nI i) 5 = true := inb_nI o1 (by omega)
  have ci : (nI i).toNatClampNeg = i := nI_cl (by omega)
  unfold m_X1_effect m_X9_effect_L49
  simp only [if_pos y50, e1, e2, e3, e4, e5, e6, e7, e8, e9, e10, e11, e12, e13, e14, e15, if_true, if_false, n50]
  unfold m_X1_setFrame
  simp only [if_pos y51, n51]
  rcases spoil_sim hw hb (show 0 < 3 by omega) with ⟨g1, g2⟩ | ⟨S1, T1, f1, g1, g2, g3, g4, g5, g6⟩
  · rw [show (0 : Int32) = nI 0 from rfl, g1, g2]
    simp only [some_bind', if_neg p41]
    exact EF.bad (T1 := st T 9 1 (T 9 0)) 4 (by omega) (by omega) rfl rfl (FE.refl S) (GE.s T _ _)
  · rw [show (0 : Int32) = nI 0 from rfl, g1, g2]
    simp only [some_bind', if_true, g5.1, g5.2.1]
    exact EF.ok rfl rfl (g3.trans (FE.s3 _ _)) (g4.trans (GE.s _ _ _)) (g5.frm h) ⟨b1, b2, b2, b4⟩
theorem ef6 {S T : St} {h fr : Nat} {s : Nat → Nat} (hw : NW S T h fr s) (hb : NB h fr s) (hF : RF S T) {i fi en : Nat} (hO : FO S T i fi en) (d1 : Int32) (d2 : Int32) : EF S T (m_X1_effect (nI 6) d1 d2 S) (m_X9_effect_L49 (nI i) (nI 6) 0 0 T) := by
  obtain ⟨b1, b2, b3, b4⟩ := id hb
  obtain ⟨a1, a2, a3, a4, a5⟩ := id hw
  obtain ⟨o1, o2, o3, o4, o5, o6, o7, o8⟩ := hO
  have e1 : (nI 6 = (1 : Int32)) = False := eq_false (by decide)
  have e2 : (nI 6 = (2 : Int32)) = False := eq_false (by decide)
  have e3 : (nI 6 = (3 : Int32)) = False := eq_false (by decide)
  have e4 : (nI 6 = (4 : Int32)) = False := eq_false (by decide)
  have e5 : (nI 6 = (5 : Int32)) = False := eq_false (by decide)
  have e6 : (nI 6 = (6 : Int32)) = True := eq_true rfl
  have e7 : (nI 6 = (7 : Int32)) = False := eq_false (by decide)
  have e8 : (nI 6 = (8 : Int32)) = False := eq_false (by decide)
  have e9 : (nI 6 = (9 : Int32)) = False := eq_false (by decide)
  have e10 : (nI 6 = (10 : Int32)) = False := eq_false (by decide)
  have e11 : (nI 6 = (11 : Int32)) = False := eq_false (by decide)
  have e12 : (nI 6 = (12 : Int32)) = False := eq_false (by decide)
  have e13 : (nI 6 = (13 : Int32)) = False := eq_false (by decide)
  have e14 : (nI 6 = (14 : Int32)) = False := eq_false (by decide)
  have e15 : (nI 6 = (15 : Int32)) = False := eq_false (by decide)
  have s0 := b4 0 (by omega)
  have s1 := b4 1 (by omega)
  have s2 := b4 2 (by omega)
  have c2 : T 9 2 = nI (s 0) := (a5 0 (by omega)).2
  have c3 : T 9 3 = nI (s 1) := (a5 1 (by omega)).2
  have c4 : T 9 4 = nI (s 2) := (a5 2 (by omega)).2
  have oi : inb (nI i) 5 = true := inb_nI o1 (by omega)
  have ci : (nI i).toNatClampNeg = i := nI_cl (by omega)
  unfold m_X1_effect m_X9_effect_L49
  simp only [if_pos y50, e1, e2, e3, e4, e5, e6, e7, e8, e9, e10, e11, e12, e13, e14, e15, if_true, if_false, n50]
  unfold m_X1_dropToFrame
  simp only [if_pos y51, n51, a1, a2, a3, a4, z0i (show fr < 2 ^ 31 by omega), q_le (show fr < 2 ^ 31 by omega) (show h < 2 ^ 31 by omega)]
  by_cases h1 : fr = 0
  · simp only [if_pos h1, some_bind']
    exact EF.bad 5 (by omega) (by omega) rfl rfl (FE.refl S) (GE.refl T)
  · by_cases h2 : fr ≤ h
    · simp only [if_neg h1, if_pos h2, pk_sub h2]
      obtain ⟨r, S2, T2, l1, l2, l3, l4, l5⟩ := lose_sim hw hb (show h - fr < 256 by omega)
      rw [l1, l2]
      simp only [some_bind']
      exact ⟨r, S2, T2, rfl, rfl, l3, l4, l5⟩
    · simp only [if_neg h1, if_neg h2, some_bind']
      exact EF.bad 5 (by omega) (by omega) rfl rfl (FE.refl S) (GE.refl T)
theorem ef7 {S T : St} {h fr : Nat} {s : Nat → Nat} (hw : NW S T h fr s) (hb : NB h fr s) (hF : RF S T) {i fi en : Nat} (hO : FO S T i fi en) {x : Nat} (hx : x < 256) (d2 : Int32) : EF S T (m_X1_effect (nI 7) (nI x) d2 S) (m_X9_effect_L49 (nI i) (nI 7) (nI x) 0 T) := by
  obtain ⟨b1, b2, b3, b4⟩ := id hb
  obtain ⟨a1, a2, a3, a4, a5⟩ := id hw
  obtain ⟨o1, o2, o3, o4, o5, o6, o7, o8⟩ := hO
  have e1 : (nI 7 = (1 : Int32)) = False := eq_false (by decide)
  have e2 : (nI 7 = (2 : Int32)) = False := eq_false (by decide)
  have e3 : (nI 7 = (3 : Int32)) = False := eq_false (by decide)
  have e4 : (nI 7 = (4 : Int32)) = False := eq_false (by decide)
  have e5 : (nI 7 = (5 : Int32)) = False := eq_false (by decide)
  have e6 : (nI 7 = (6 : Int32)) = False := eq_false (by decide)
  have e7 : (nI 7 = (7 : Int32)) = True := eq_true rfl
  have e8 : (nI 7 = (8 : Int32)) = False := eq_false (by decide)
  have e9 : (nI 7 = (9 : Int32)) = False := eq_false (by decide)
  have e10 : (nI 7 = (10 : Int32)) = False := eq_false (by decide)
  have e11 : (nI 7 = (11 : Int32)) = False := eq_false (by decide)
  have e12 : (nI 7 = (12 : Int32)) = False := eq_false (by decide)
  have e13 : (nI 7 = (13 : Int32)) = False := eq_false (by decide)
  have e14 : (nI 7 = (14 : Int32)) = False := eq_false (by decide)
  have e15 : (nI 7 = (15 : Int32)) = False := eq_false (by decide)
  have s0 := b4 0 (by omega)
  have s1 := b4 1 (by omega)
  have s2 := b4 2 (by omega)
  have c2 : T 9 2 = nI (s 0) := (a5 0 (by omega)).2
  have c3 : T 9 3 = nI (s 1) := (a5 1 (by omega)).2
  have c4 : T 9 4 = nI (s 2) := (a5 2 (by omega)).2
  have oi : inb (nI i) 5 = true := inb_nI o1 (by omega)
  have ci : (nI i).toNatClampNeg = i := nI_cl (by omega)
  unfold m_X1_effect m_X9_effect_L49
  simp only [if_pos y50, e1, e2, e3, e4, e5, e6, e7, e8, e9, e10, e11, e12, e13, e14, e15, if_true, if_false, n50]
  obtain ⟨v, hv, f1, f2⟩ := first_sim (nI x) hF
  rw [f1, f2]
  simp only [some_bind']
  rcases hv with rfl | rfl
  · simp only [if_true]
    exact EF.bad 3 (by omega) (by omega) rfl rfl (FE.refl S) (GE.refl T)
  · simp only [if_neg i10]
    exact EF.ok rfl rfl (FE.refl S) (GE.refl T) hw hb
theorem ef8 {S T : St} {h fr : Nat} {s : Nat → Nat} (hw : NW S T h fr s) (hb : NB h fr s) (hF : RF S T) {i fi en : Nat} (hO : FO S T i fi en) (d1 : Int32) (d2 : Int32) : EF S T (m_X1_effect (nI 8) d1 d2 S) (m_X9_effect_L49 (nI i) (nI 8) 0 0 T) := by
  obtain ⟨b1, b2, b3, b4⟩ := id hb
  obtain ⟨a1, a2, a3, a4, a5⟩ := id hw
  obtain ⟨o1, o2, o3, o4, o5, o6, o7, o8⟩ := hO
  have e1 : (nI 8 = (1 : Int32)) = False := eq_false (by decide)
  have e2 : (nI 8 = (2 : Int32)) = False := eq_false (by decide)
  have e3 : (nI 8 = (3 : Int32)) = False := eq_false (by decide)
  have e4 : (nI 8 = (4 : Int32)) = False := eq_false (by decide)
  have e5 : (nI 8 = (5 : Int32)) = False := eq_false (by decide)
  have e6 : (nI 8 = (6 : Int32)) = False := eq_false (by decide)
  have e7 : (nI 8 = (7 : Int32)) = False := eq_false (by decide)
  have e8 : (nI 8 = (8 : Int32)) = True := eq_true rfl
  have e9 : (nI 8 = (9 : Int32)) = False := eq_false (by decide)
  have e10 : (nI 8 = (10 : Int32)) = False := eq_false (by decide)
  have e11 : (nI 8 = (11 : Int32)) = False := eq_false (by decide)
  have e12 : (nI 8 = (12 : Int32)) = False := eq_false (by decide)
  have e13 : (nI 8 = (13 : Int32)) = False := eq_false (by decide)
  have e14 : (nI 8 = (14 : Int32)) = False := eq_false (by decide)
  have e15 : (nI 8 = (15 : Int32)) = False := eq_false (by decide)
  have s0 := b4 0 (by omega)
  have s1 := b4 1 (by omega)
  have s2 := b4 2 (by omega)
  have c2 : T 9 2 = nI (s 0) := (a5 0 (by omega)).2
  have c3 : T 9 3 = nI (s 1) := (a5 1 (by omega)).2
  have c4 : T 9 4 = nI (s 2) := (a5 2 (by omega)).2
  have oi : inb (nI i) 5 = true := inb_nI o1 (by omega)
  have ci : (nI i).toNatClampNeg = i := nI_cl (by omega)
  unfold m_X1_effect m_X9_effect_L49
  simp only [if_pos y50, e1, e2, e3, e4, e5, e6, e7, e8, e9, e10, e11, e12, e13, e14, e15, if_true, if_false, n50]
  obtain ⟨v2, hv2, k1, k2⟩ := clean_sim hw hb
  rw [k1, k2]
  simp only [some_bind']
  rcases hv2 with rfl | rfl
  · simp only [if_true]
    exact EF.bad 6 (by omega) (by omega) rfl rfl (FE.refl S) (GE.refl T)
  · simp only [if_neg i10]
    exact EF.ok rfl rfl (FE.refl S) (GE.refl T) hw hb
theorem ef9 {S T : St} {h fr : Nat} {s : Nat → Nat} (hw : NW S T h fr s) (hb : NB h fr s) (hF : RF S T) {i fi en : Nat} (hO : FO S T i fi en) {x : Nat} (hx : x < 256) (d2 : Int32) : EF S T (m_X1_effect (nI 9) (nI x) d2 S) (m_X9_effect_L49 (nI i) (nI 9) (nI x) 0 T) := by
  obtain ⟨b1, b2, b3, b4⟩ := id hb
  obtain ⟨a1, a2, a3, a4, a5⟩ := id hw
  obtain ⟨o1, o2, o3, o4, o5, o6, o7, o8⟩ := hO
  have e1 : (nI 9 = (1 : Int32)) = False := eq_false (by decide)
  have e2 : (nI 9 = (2 : Int32)) = False := eq_false (by decide)
  have e3 : (nI 9 = (3 : Int32)) = False := eq_false (by decide)
  have e4 : (nI 9 = (4 : Int32)) = False := eq_false (by decide)
  have e5 : (nI 9 = (5 : Int32)) = False := eq_false (by decide)
  have e6 : (nI 9 = (6 : Int32)) = False := eq_false (by decide)
  have e7 : (nI 9 = (7 : Int32)) = False := eq_false (by decide)
  have e8 : (nI 9 = (8 : Int32)) = False := eq_false (by decide)
  have e9 : (nI 9 = (9 : Int32)) = True := eq_true rfl
  have e10 : (nI 9 = (10 : Int32)) = False := eq_false (by decide)
  have e11 : (nI 9 = (11 : Int32)) = False := eq_false (by decide)
  have e12 : (nI 9 = (12 : Int32)) = False := eq_false (by decide)
  have e13 : (nI 9 = (13 : Int32)) = False := eq_false (by decide)
  have e14 : (nI 9 = (14 : Int32)) = False := eq_false (by decide)
  have e15 : (nI 9 = (15 : Int32)) = False := eq_false (by decide)
  have s0 := b4 0 (by omega)
  have s1 := b4 1 (by omega)
  have s2 := b4 2 (by omega)
  have c2 : T 9 2 = nI (s 0) := (a5 0 (by omega)).2
  have c3 : T 9 3 = nI (s 1) := (a5 1 (by omega)).2
  have c4 : T 9 4 = nI (s 2) := (a5 2 (by omega)).2
  have oi : inb (nI i) 5 = true := inb_nI o1 (by omega)
  have ci : (nI i).toNatClampNeg = i := nI_cl (by omega)
  unfold m_X1_effect m_X9_effect_L49
  simp only [if_pos y50, e1, e2, e3, e4, e5, e6, e7, e8, e9, e10, e11, e12, e13, e14, e15, if_true, if_false, n50]
  have tf : T 4 i = nI fi := o6
  have te : T 5 i = nI en := o7
  unfold m_X1_jumpTo
  rw [inF o4 o5 hx (by omega) (by omega), some_bind']
  simp only [if_pos oi, ci, o6, o7, q_lt (show x < 2 ^ 31 by omega) (show fi < 2 ^ 31 by omega), q_le (show en < 2 ^ 31 by omega) (show x < 2 ^ 31 by omega)]
  by_cases hin : fi ≤ x ∧ x < en
  · have x97 : inb (nI x) 97 = true := inb_nI (by omega) (by omega)
    have cx : (nI x).toNatClampNeg = x := nI_cl (by omega)
    simp only [if_pos hin, if_neg i10, if_neg (show ¬ x < fi by omega), if_neg (show ¬ en ≤ x by omega), if_pos x97, cx, o8 x hin.1 hin.2]
    by_cases h8 : T 8 x = 0
    · simp only [if_pos h8, some_bind']
      exact EF.bad 3 (by omega) (by omega) rfl rfl (FE.refl S) (GE.refl T)
    · simp only [if_neg h8, some_bind']
      exact EF.ok rfl rfl (FE.refl S) (GE.refl T) hw hb
  · simp only [if_neg hin, if_true]
    by_cases hl : x < fi
    · simp only [if_pos hl]
      obtain ⟨v, hv, f1, f2⟩ := first_sim (nI x) hF
      rw [f1, f2]
      simp only [some_bind']
      rcases hv with rfl | rfl
      · simp only [if_true]
        exact EF.bad 3 (by omega) (by omega) rfl rfl (FE.refl S) (GE.refl T)
      · simp only [if_neg i10]
        obtain ⟨v2, hv2, k1, k2⟩ := clean_sim hw hb
        rw [k1, k2]
        simp only [some_bind']
        rcases hv2 with rfl | rfl
        · simp only [if_true]
          exact EF.bad 6 (by omega) (by omega) rfl rfl (FE.refl S) (GE.refl T)
        · simp only [if_neg i10]
          exact EF.ok rfl rfl (FE.refl S) (GE.refl T) hw hb
    · simp only [if_neg hl, if_pos (show en ≤ x by omega)]
      obtain ⟨v, hv, f1, f2⟩ := first_sim (nI x) hF
      rw [f1, f2]
      simp only [some_bind']
      rcases hv with rfl | rfl
      · simp only [if_true]
        exact EF.bad 3 (by omega) (by omega) rfl rfl (FE.refl S) (GE.refl T)
      · simp only [if_neg i10]
        obtain ⟨v2, hv2, k1, k2⟩ := clean_sim hw hb
        rw [k1, k2]
        simp only [some_bind']
        rcases hv2 with rfl | rfl
        · simp only [if_true]
          exact EF.bad 6 (by omega) (by omega) rfl rfl (FE.refl S) (GE.refl T)
        · simp only [if_neg i10]
          exact EF.ok rfl rfl (FE.refl S) (GE.refl T) hw hb
theorem ef10 {S T : St} {h fr : Nat} {s : Nat → Nat} (hw : NW S T h fr s) (hb : NB h fr s) (hF : RF S T) {i fi en : Nat} (hO : FO S T i fi en) {x : Nat} (hx : x < 256) (d2 : Int32) : EF S T (m_X1_effect (nI 10) (nI x) d2 S) (m_X9_effect_L49 (nI i) (nI 10) (nI x) 0 T) := by
  obtain ⟨b1, b2, b3, b4⟩ := id hb
  obtain ⟨a1, a2, a3, a4, a5⟩ := id hw
  obtain ⟨o1, o2, o3, o4, o5, o6, o7, o8⟩ := hO
  have e1 : (nI 10 = (1 : Int32)) = False := eq_false (by decide)
  have e2 : (nI 10 = (2 : Int32)) = False := eq_false (by decide)
  have e3 : (nI 10 = (3 : Int32)) = False := eq_false (by decide)
  have e4 : (nI 10 = (4 : Int32)) = False := eq_false (by decide)
  have e5 : (nI 10 = (5 : Int32)) = False := eq_false (by decide)
  have e6 : (nI 10 = (6 : Int32)) = False := eq_false (by decide)
  have e7 : (nI 10 = (7 : Int32)) = False := eq_false (by decide)
  have e8 : (nI 10 = (8 : Int32)) = False := eq_false (by decide)
  have e9 : (nI 10 = (9 : Int32)) = False := eq_false (by decide)
  have e10 : (nI 10 = (10 : Int32)) = True := eq_true rfl
  have e11 : (nI 10 = (11 : Int32)) = False := eq_false (by decide)
  have e12 : (nI 10 = (12 : Int32)) = False := eq_false (by decide)
  have e13 : (nI 10 = (13 : Int32)) = False := eq_false (by decide)
  have e14 : (nI 10 = (14 : Int32)) = False := eq_false (by decide)
  have e15 : (nI 10 = (15 : Int32)) = False := eq_false (by decide)
  have s0 := b4 0 (by omega)
  have s1 := b4 1 (by omega)
  have s2 := b4 2 (by omega)
  have c2 : T 9 2 = nI (s 0) := (a5 0 (by omega)).2
  have c3 : T 9 3 = nI (s 1) := (a5 1 (by omega)).2
  have c4 : T 9 4 = nI (s 2) := (a5 2 (by omega)).2
  have oi : inb (nI i) 5 = true := inb_nI o1 (by omega)
  have ci : (nI i).toNatClampNeg = i := nI_cl (by omega)
  unfold m_X1_effect m_X9_effect_L49
  simp only [if_pos y50, e1, e2, e3, e4, e5, e6, e7, e8, e9, e10, e11, e12, e13, e14, e15, if_true, if_false, n50]
  unfold m_X9_isTarget
  rw [inF o4 o5 hx (by omega) (by omega), some_bind']
  simp only [if_pos oi, ci, o6, o7, q_lt (show x < 2 ^ 31 by omega) (show fi < 2 ^ 31 by omega), q_le (show en < 2 ^ 31 by omega) (show x < 2 ^ 31 by omega)]
  by_cases hin : fi ≤ x ∧ x < en
  · have x97 : inb (nI x) 97 = true := inb_nI (by omega) (by omega)
    have cx : (nI x).toNatClampNeg = x := nI_cl (by omega)
    simp only [if_pos hin, if_neg i10, if_neg (show ¬ x < fi by omega), if_neg (show ¬ en ≤ x by omega), if_pos x97, cx, o8 x hin.1 hin.2]
    by_cases h8 : T 8 x = 0
    · simp only [if_pos h8, bz0, some_bind', if_true]
      exact EF.bad 3 (by omega) (by omega) rfl rfl (FE.refl S) (GE.refl T)
    · simp only [if_neg h8, bz1, some_bind', if_neg i10]
      exact EF.ok rfl rfl (FE.refl S) (GE.refl T) hw hb
  · simp only [if_neg hin, if_true]
    by_cases hl : x < fi
    · simp only [if_pos hl, bz0, some_bind', if_true]
      exact EF.bad 3 (by omega) (by omega) rfl rfl (FE.refl S) (GE.refl T)
    · simp only [if_neg hl, if_pos (show en ≤ x by omega), bz0, some_bind', if_true]
      exact EF.bad 3 (by omega) (by omega) rfl rfl (FE.refl S) (GE.refl T)
theorem ef11 {S T : St} {h fr : Nat} {s : Nat → Nat} (hw : NW S T h fr s) (hb : NB h fr s) (hF : RF S T) {i fi en : Nat} (hO : FO S T i fi en) {x : Nat} (hx : x < 3) {z : Nat} (hz : z < 256) : EF S T (m_X1_effect (nI 11) (nI x) (nI z) S) (m_X9_effect_L49 (nI i) (nI 11) (nI x) (nI z) T) := by
  obtain ⟨b1, b2, b3, b4⟩ := id hb
  obtain ⟨a1, a2, a3, a4, a5⟩ := id hw
  obtain ⟨o1, o2, o3, o4, o5, o6, o7, o8⟩ := hO
  have e1 : (nI 11 = (1 : Int32)) = False := eq_false (by decide)
  have e2 : (nI 11 = (2 : Int32)) = False := eq_false (by decide)
  have e3 : (nI 11 = (3 : Int32)) = False := eq_false (by decide)
  have e4 : (nI 11 = (4 : Int32)) = False := eq_false (by decide)
  have e5 : (nI 11 = (5 : Int32)) = False := eq_false (by decide)
  have e6 : (nI 11 = (6 : Int32)) = False := eq_false (by decide)
  have e7 : (nI 11 = (7 : Int32)) = False := eq_false (by decide)
  have e8 : (nI 11 = (8 : Int32)) = False := eq_false (by decide)
  have e9 : (nI 11 = (9 : Int32)) = False := eq_false (by decide)
  have e10 : (nI 11 = (10 : Int32)) = False := eq_false (by decide)
  have e11 : (nI 11 = (11 : Int32)) = True := eq_true rfl
  have e12 : (nI 11 = (12 : Int32)) = False := eq_false (by decide)
  have e13 : (nI 11 = (13 : Int32)) = False := eq_false (by decide)
  have e14 : (nI 11 = (14 : Int32)) = False := eq_false (by decide)
  have e15 : (nI 11 = (15 : Int32)) = False := eq_false (by decide)
  have s0 := b4 0 (by omega)
  have s1 := b4 1 (by omega)
  have s2 := b4 2 (by omega)
  have c2 : T 9 2 = nI (s 0) := (a5 0 (by omega)).2
  have c3 : T 9 3 = nI (s 1) := (a5 1 (by omega)).2
  have c4 : T 9 4 = nI (s 2) := (a5 2 (by omega)).2
  have oi : inb (nI i) 5 = true := inb_nI o1 (by omega)
  have ci : (nI i).toNatClampNeg = i := nI_cl (by omega)
  unfold m_X1_effect m_X9_effect_L49
  simp only [if_pos y50, e1, e2, e3, e4, e5, e6, e7, e8, e9, e10, e11, e12, e13, e14, e15, if_true, if_false, n50]
  rcases spoil_sim hw hb hx with ⟨g1, g2⟩ | ⟨S1, T1, f1, g1, g2, g3, g4, g5, g6⟩
  · rw [g1, g2]
    simp only [some_bind']
    exact EF.bad 4 (by omega) (by omega) rfl rfl (FE.refl S) (GE.refl T)
  · rw [g1, g2]
    simp only [some_bind']
    exact EF.ok rfl rfl g3 g4 g5 g6
theorem ef14 {S T : St} {h fr : Nat} {s : Nat → Nat} (hw : NW S T h fr s) (hb : NB h fr s) (hF : RF S T) {i fi en : Nat} (hO : FO S T i fi en) {x : Nat} (hx : x < 3) {z : Nat} (hz : z < 256) : EF S T (m_X1_effect (nI 14) (nI x) (nI z) S) (m_X9_effect_L49 (nI i) (nI 14) (nI x) (nI z) T) := by
  obtain ⟨b1, b2, b3, b4⟩ := id hb
  obtain ⟨a1, a2, a3, a4, a5⟩ := id hw
  obtain ⟨o1, o2, o3, o4, o5, o6, o7, o8⟩ := hO
  have e1 : (nI 14 = (1 : Int32)) = False := eq_false (by decide)
  have e2 : (nI 14 = (2 : Int32)) = False := eq_false (by decide)
  have e3 : (nI 14 = (3 : Int32)) = False := eq_false (by decide)
  have e4 : (nI 14 = (4 : Int32)) = False := eq_false (by decide)
  have e5 : (nI 14 = (5 : Int32)) = False := eq_false (by decide)
  have e6 : (nI 14 = (6 : Int32)) = False := eq_false (by decide)
  have e7 : (nI 14 = (7 : Int32)) = False := eq_false (by decide)
  have e8 : (nI 14 = (8 : Int32)) = False := eq_false (by decide)
  have e9 : (nI 14 = (9 : Int32)) = False := eq_false (by decide)
  have e10 : (nI 14 = (10 : Int32)) = False := eq_false (by decide)
  have e11 : (nI 14 = (11 : Int32)) = False := eq_false (by decide)
  have e12 : (nI 14 = (12 : Int32)) = False := eq_false (by decide)
  have e13 : (nI 14 = (13 : Int32)) = False := eq_false (by decide)
  have e14 : (nI 14 = (14 : Int32)) = True := eq_true rfl
  have e15 : (nI 14 = (15 : Int32)) = False := eq_false (by decide)
  have s0 := b4 0 (by omega)
  have s1 := b4 1 (by omega)
  have s2 := b4 2 (by omega)
  have c2 : T 9 2 = nI (s 0) := (a5 0 (by omega)).2
  have c3 : T 9 3 = nI (s 1) := (a5 1 (by omega)).2
  have c4 : T 9 4 = nI (s 2) := (a5 2 (by omega)).2
  have oi : inb (nI i) 5 = true := inb_nI o1 (by omega)
  have ci : (nI i).toNatClampNeg = i := nI_cl (by omega)
  unfold m_X1_effect m_X9_effect_L49
  simp only [if_pos y50, e1, e2, e3, e4, e5, e6, e7, e8, e9, e10, e11, e12, e13, e14, e15, if_true, if_false, n50]
  unfold m_X1_store
  simp only [if_pos y52, if_pos y53, if_pos y54, n52, n53, n54, a1, a2, c2, c3, c4]
  by_cases hzh : z + 2 ≤ h
  · have k1 : ¬ nI (h - z) < (2 : Int32) := nI_nlt (b := 2) (by omega) (by omega)
    have k2 : ¬ nI h < nI (h - z) := nI_nlt (by omega) (by omega)
    simp only [pk_sub (show z ≤ h by omega), if_neg k1, if_neg k2, hold3 (fun r hr => (a5 r hr).1) b4 (show h - z ≤ 30 by omega), some_bind', q_eq (show s 0 < 2 ^ 31 by omega) (show h - z < 2 ^ 31 by omega), q_eq (show s 1 < 2 ^ 31 by omega) (show h - z < 2 ^ 31 by omega), q_eq (show s 2 < 2 ^ 31 by omega) (show h - z < 2 ^ 31 by omega)]
    by_cases hs : s 0 = h - z ∨ s 1 = h - z ∨ s 2 = h - z
    · simp only [if_pos hs, if_neg i10, some_bind']
      refine EF.bad (T1 := T) 8 (by omega) (by omega) rfl ?_ (FE.refl S) (GE.refl T)
      by_cases u0 : s 0 = h - z
      · rw [if_pos u0]; rfl
      · rw [if_neg u0]
        by_cases u1 : s 1 = h - z
        · rw [if_pos u1]; rfl
        · rw [if_neg u1, if_pos (show s 2 = h - z by omega)]; rfl
    · simp only [if_neg hs, if_true, if_neg (show ¬ s 0 = h - z by omega), if_neg (show ¬ s 1 = h - z by omega), if_neg (show ¬ s 2 = h - z by omega)]
      obtain ⟨S1, T1, s1', v1, v2, v3, v4, v5, v6⟩ := save_sim hw hb hx (show h - z ≤ 30 by omega)
      rw [v1, v2]
      simp only [some_bind']
      exact EF.ok rfl rfl v3 v4 v5 v6
  · have k1 : nI h - nI z < (2 : Int32) := sub_lt2 b2 hz (by omega)
    simp only [if_pos k1, some_bind']
    exact EF.bad 8 (by omega) (by omega) rfl rfl (FE.refl S) (GE.refl T)
theorem ef15 {S T : St} {h fr : Nat} {s : Nat → Nat} (hw : NW S T h fr s) (hb : NB h fr s) (hF : RF S T) {i fi en : Nat} (hO : FO S T i fi en) {x : Nat} (hx : x < 3) {z : Nat} (hz : z < 256) : EF S T (m_X1_effect (nI 15) (nI x) (nI z) S) (m_X9_effect_L49 (nI i) (nI 15) (nI x) (nI z) T) := by
  obtain ⟨b1, b2, b3, b4⟩ := id hb
  obtain ⟨a1, a2, a3, a4, a5⟩ := id hw
  obtain ⟨o1, o2, o3, o4, o5, o6, o7, o8⟩ := hO
  have e1 : (nI 15 = (1 : Int32)) = False := eq_false (by decide)
  have e2 : (nI 15 = (2 : Int32)) = False := eq_false (by decide)
  have e3 : (nI 15 = (3 : Int32)) = False := eq_false (by decide)
  have e4 : (nI 15 = (4 : Int32)) = False := eq_false (by decide)
  have e5 : (nI 15 = (5 : Int32)) = False := eq_false (by decide)
  have e6 : (nI 15 = (6 : Int32)) = False := eq_false (by decide)
  have e7 : (nI 15 = (7 : Int32)) = False := eq_false (by decide)
  have e8 : (nI 15 = (8 : Int32)) = False := eq_false (by decide)
  have e9 : (nI 15 = (9 : Int32)) = False := eq_false (by decide)
  have e10 : (nI 15 = (10 : Int32)) = False := eq_false (by decide)
  have e11 : (nI 15 = (11 : Int32)) = False := eq_false (by decide)
  have e12 : (nI 15 = (12 : Int32)) = False := eq_false (by decide)
  have e13 : (nI 15 = (13 : Int32)) = False := eq_false (by decide)
  have e14 : (nI 15 = (14 : Int32)) = False := eq_false (by decide)
  have e15 : (nI 15 = (15 : Int32)) = True := eq_true rfl
  have s0 := b4 0 (by omega)
  have s1 := b4 1 (by omega)
  have s2 := b4 2 (by omega)
  have c2 : T 9 2 = nI (s 0) := (a5 0 (by omega)).2
  have c3 : T 9 3 = nI (s 1) := (a5 1 (by omega)).2
  have c4 : T 9 4 = nI (s 2) := (a5 2 (by omega)).2
  have oi : inb (nI i) 5 = true := inb_nI o1 (by omega)
  have ci : (nI i).toNatClampNeg = i := nI_cl (by omega)
  unfold m_X1_effect m_X9_effect_L49
  simp only [if_pos y50, e1, e2, e3, e4, e5, e6, e7, e8, e9, e10, e11, e12, e13, e14, e15, if_true, if_false, n50]
  have e1h : nI h - (1 : Int32) = nI (h - 1) := pk_sub (b := 1) b1
  simp only [a1, a2, e1h, q_le (show h - 1 < 2 ^ 31 by omega) (show z < 2 ^ 31 by omega), q_lt (show z < 2 ^ 31 by omega) (show h - 1 < 2 ^ 31 by omega)]
  by_cases hzh : h - 1 ≤ z
  · simp only [if_pos hzh, if_neg (show ¬ z < h - 1 by omega)]
    exact EF.bad 8 (by omega) (by omega) rfl rfl (FE.refl S) (GE.refl T)
  · simp only [if_neg hzh, if_pos (show z < h - 1 by omega), pk_sub (show z ≤ h by omega)]
    rcases give_sim hw hb hx (show 1 ≤ h - z by omega) (show h - z ≤ 30 by omega) with ⟨g1, g2⟩ | ⟨S1, T1, f1, s1', g1, g2, g3, g4, g5, g6⟩
    · rw [g1, g2]
      simp only [some_bind']
      exact EF.bad 4 (by omega) (by omega) rfl rfl (FE.refl S) (GE.refl T)
    · rw [g1, g2]
      simp only [some_bind']
      exact EF.ok rfl rfl g3 g4 g5 g6
theorem eff9 {S T : St} {n p : Nat} {c : Nat → Nat} (hcd : CD S T n c) (h16 : c p < 16) (hz : p + szN (c p) ≤ n) (i : Nat) {x4 z0 : Int32} (e4 : x4 = if szN (c p) ≤ 1 then 0 else nI (c (p + 1))) (e0 : z0 = if szN (c p) ≤ 2 then 0 else nI (c (p + 2))) : m_X9_effect (nI i) (nI p) T = m_X9_effect_L49 (nI i) (nI (c p)) x4 z0 T := by
  have hn := hcd.1
  have hs : 1 ≤ szN (c p) ∧ szN (c p) ≤ 3 := by
    rcases lt16 h16 with h | h | h | h | h | h | h | h | h | h | h | h | h | h | h | h <;> rw [h] <;> decide
  have k1 : (nI (szN (c p)) ≤ (1 : Int32)) = (szN (c p) ≤ 1) := q_le (b := 1) (by omega) (by omega)
  have k2 : (nI (szN (c p)) ≤ (2 : Int32)) = (szN (c p) ≤ 2) := q_le (b := 2) (by omega) (by omega)
  have b0 : inb (nI p) 96 = true := inb_nI (by omega) (by omega)
  have t2 : nI p + (2 : Int32) = nI (p + 2) := nI_add p 2
  unfold m_X9_effect
  rw [if_pos b0, nI_cl (show p < 2 ^ 31 by omega), (hcd.2.2.2 p).2.1]
  simp only [len_eq (show c p < 256 by omega), some_bind', k1, k2, t2, nI_1]
  by_cases h1 : szN (c p) ≤ 1
  · rw [if_pos h1] at e4
    rw [if_pos (show szN (c p) ≤ 2 by omega)] at e0
    rw [if_pos h1, if_pos (show szN (c p) ≤ 2 by omega), e4, e0]
  · rw [if_neg h1] at e4
    have b1 : inb (nI (p + 1)) 96 = true := inb_nI (by omega) (by omega)
    rw [if_neg h1, if_pos b1, nI_cl (show p + 1 < 2 ^ 31 by omega), (hcd.2.2.2 (p + 1)).2.1, ← e4]
    by_cases h2 : szN (c p) ≤ 2
    · rw [if_pos h2] at e0
      rw [if_pos h2, e0]
    · rw [if_neg h2] at e0
      have b2 : inb (nI (p + 2)) 96 = true := inb_nI (by omega) (by omega)
      rw [if_neg h2, if_pos b2, nI_cl (show p + 2 < 2 ^ 31 by omega), (hcd.2.2.2 (p + 2)).2.1, ← e0]
theorem eff_sim {S T : St} {n p : Nat} {c : Nat → Nat} (hcd : CD S T n c) (h16 : c p < 16) (hz : p + szN (c p) ≤ n) (hrg : rgN (c p) = true → c (p + 1) < 3) {h fr : Nat} {s : Nat → Nat} (hw : NW S T h fr s) (hb : NB h fr s) (hF : RF S T) {i fi en : Nat} (hO : FO S T i fi en) : EF S T (m_X1_effect (nI (c p)) (cdv (nI (p + 1)) S) (cdv (nI (p + 2)) S) S) (m_X9_effect (nI i) (nI p) T) := by
  have hn := hcd.1
  have x1 := (hcd.2.2.2 (p + 1)).2.2
  have x2 := (hcd.2.2.2 (p + 2)).2.2
  have g1 : p + 1 < n → cdv (nI (p + 1)) S = nI (c (p + 1)) := fun q => by rw [cdv_in hn hcd.2.1 q, (hcd.2.2.2 (p + 1)).1]
  have g2 : p + 2 < n → cdv (nI (p + 2)) S = nI (c (p + 2)) := fun q => by rw [cdv_in hn hcd.2.1 q, (hcd.2.2.2 (p + 2)).1]
  rw [eff9 hcd h16 hz i rfl rfl]
  rcases lt16 h16 with h | h | h | h | h | h | h | h | h | h | h | h | h | h | h | h
  · rw [h] at hz hrg ⊢
    replace hz : p + 1 ≤ n := hz
    exact ef0 hw hb hF hO _ _
  · rw [h] at hz hrg ⊢
    replace hz : p + 2 ≤ n := hz
    rw [g1 (by omega)]
    exact ef1 hw hb hF hO (hrg rfl) _
  · rw [h] at hz hrg ⊢
    replace hz : p + 2 ≤ n := hz
    rw [g1 (by omega)]
    exact ef2 hw hb hF hO (hrg rfl) _
  · rw [h] at hz hrg ⊢
    replace hz : p + 2 ≤ n := hz
    rw [g1 (by omega)]
    exact ef3 hw hb hF hO x1 _
  · rw [h] at hz hrg ⊢
    replace hz : p + 2 ≤ n := hz
    rw [g1 (by omega)]
    exact ef4 hw hb hF hO x1 _
  · rw [h] at hz hrg ⊢
    replace hz : p + 1 ≤ n := hz
    exact ef5 hw hb hF hO _ _
  · rw [h] at hz hrg ⊢
    replace hz : p + 1 ≤ n := hz
    exact ef6 hw hb hF hO _ _
  · rw [h] at hz hrg ⊢
    replace hz : p + 2 ≤ n := hz
    rw [g1 (by omega)]
    exact ef7 hw hb hF hO x1 _
  · rw [h] at hz hrg ⊢
    replace hz : p + 1 ≤ n := hz
    exact ef8 hw hb hF hO _ _
  · rw [h] at hz hrg ⊢
    replace hz : p + 2 ≤ n := hz
    rw [g1 (by omega)]
    exact ef9 hw hb hF hO x1 _
  · rw [h] at hz hrg ⊢
    replace hz : p + 2 ≤ n := hz
    rw [g1 (by omega)]
    exact ef10 hw hb hF hO x1 _
  · rw [h] at hz hrg ⊢
    replace hz : p + 3 ≤ n := hz
    rw [g1 (by omega)]
    rw [g2 (by omega)]
    exact ef11 hw hb hF hO (hrg rfl) x2
  · rw [h] at hz hrg ⊢
    replace hz : p + 2 ≤ n := hz
    rw [g1 (by omega)]
    exact ef12 hw hb hF hO x1 _
  · rw [h] at hz hrg ⊢
    replace hz : p + 1 ≤ n := hz
    exact ef13 hw hb hF hO _ _
  · rw [h] at hz hrg ⊢
    replace hz : p + 3 ≤ n := hz
    rw [g1 (by omega)]
    rw [g2 (by omega)]
    exact ef14 hw hb hF hO (hrg rfl) x2
  · rw [h] at hz hrg ⊢
    replace hz : p + 3 ≤ n := hz
    rw [g1 (by omega)]
    rw [g2 (by omega)]
    exact ef15 hw hb hF hO (hrg rfl) x2
