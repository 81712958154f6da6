/-! the finder: one place is looked at -/
def FI (fi en : Nat) (S S1 : St) : Prop := (∀ k, k ≠ 3 → k ≠ 5 → k ≠ 6 → k ≠ 20 → S1 k = S k) ∧ (∀ j, j ≠ 2 → j ≠ 3 → S1 20 j = S 20 j) ∧ (∀ q, (q < fi ∨ en < q) → S1 3 q = S 3 q) ∧ ∀ j, (j < 5 * fi ∨ 5 * en + 5 ≤ j) → S1 5 j = S 5 j
def GI (T T1 : St) : Prop := ∀ k, k ≠ 6 → k ≠ 7 → k ≠ 9 → T1 k = T k
theorem FI.refl (fi en : Nat) (S : St) : FI fi en S S := ⟨fun _ _ _ _ _ => rfl, fun _ _ _ => rfl, fun _ _ => rfl, fun _ _ => rfl⟩
theorem GI.refl (T : St) : GI T T := fun _ _ _ _ => rfl
theorem FI.trans {fi en : Nat} {S S1 S2 : St} (h : FI fi en S S1) (g : FI fi en S1 S2) : FI fi en S S2 := ⟨fun k h1 h2 h3 h4 => by rw [g.1 k h1 h2 h3 h4, h.1 k h1 h2 h3 h4], fun j h1 h2 => by rw [g.2.1 j h1 h2, h.2.1 j h1 h2], fun q hq => by rw [g.2.2.1 q hq, h.2.2.1 q hq], fun j hj => by rw [g.2.2.2 j hj, h.2.2.2 j hj]⟩
theorem GI.trans {S S1 S2 : St} (h : GI S S1) (g : GI S1 S2) : GI S S2 := fun k h1 h2 h3 => by rw [g k h1 h2 h3, h k h1 h2 h3]
theorem FE.i {S S1 : St} (h : FE S S1) (fi en : Nat) : FI fi en S S1 := ⟨fun k _ _ h3 h4 => h.1 k h3 h4, h.2, fun q _ => by rw [h.1 3 (by omega) (by omega)], fun j _ => by rw [h.1 5 (by omega) (by omega)]⟩
theorem GE.i {T T1 : St} (h : GE T T1) : GI T T1 := fun k _ _ h3 => h k h3
theorem FL.i {p fi en : Nat} {S S1 : St} (h : FL p S S1) (h1 : fi ≤ p) (h2 : p ≤ en) : FI fi en S S1 := ⟨fun k h3 h5 _ _ => h.1 k h3 h5, fun j _ _ => by rw [h.1 20 (by omega) (by omega)], fun q hq => h.2.1 q (by omega), fun j hj => h.2.2.1 j (by omega)⟩
theorem GL.i {p : Nat} {T T1 : St} (h : GL p T T1) : GI T T1 := fun k h6 _ _ => h.1 k h6
theorem CD.i {S T S1 T1 : St} {n fi en : Nat} {c : Nat → Nat} (h : CD S T n c) (f : FI fi en S S1) (g : GI T T1) : CD S1 T1 n c := by
  obtain ⟨h1, h2, h3, h4⟩ := h
  refine ⟨h1, by rw [f.2.1 0 (by omega) (by omega)]; exact h2, by rw [g 30 (by omega) (by omega) (by omega)]; exact h3, fun i => ?_⟩
  rw [f.1 0 (by omega) (by omega) (by omega) (by omega), g 1 (by omega) (by omega) (by omega)]; exact h4 i
theorem RF.i {S T S1 T1 : St} {fi en : Nat} (h : RF S T) (f : FI fi en S S1) (g : GI T T1) : RF S1 T1 :=
  h.congr (by rw [f.2.1 0 (by omega) (by omega)]; exact Int32.le_refl _) (f.2.1 1 (by omega) (by omega)) (f.1 1 (by omega) (by omega) (by omega) (by omega)) (f.1 2 (by omega) (by omega) (by omega) (by omega)) (by rw [g 30 (by omega) (by omega) (by omega)]) (g 4 (by omega) (by omega) (by omega)) (g 5 (by omega) (by omega) (by omega))
theorem FO.i {S T S1 T1 : St} {i fi en a b : Nat} (h : FO S T i fi en) (f : FI a b S S1) (g : GI T T1) : FO S1 T1 i fi en := by
  obtain ⟨o1, o2, o3, o4, o5, o6, o7, o8⟩ := h
  refine ⟨o1, o2, o3, by rw [f.2.1 4 (by omega) (by omega)]; exact o4, by rw [f.2.1 5 (by omega) (by omega)]; exact o5, by rw [g 4 (by omega) (by omega) (by omega)]; exact o6, by rw [g 5 (by omega) (by omega) (by omega)]; exact o7, fun q h1 h2 => ?_⟩
  rw [f.1 4 (by omega) (by omega) (by omega) (by omega), g 8 (by omega) (by omega) (by omega)]; exact o8 q h1 h2
theorem MK.e {S T S1 T1 : St} {p : Nat} (h : MK S T p) (f : FE S S1) (g : GE T T1) : MK S1 T1 p := h.congr (by rw [f.1 3 (by omega) (by omega)]) (by rw [g 7 (by omega)]) (fun j _ _ => by rw [f.1 5 (by omega) (by omega)]) (fun j _ _ => by rw [g 6 (by omega)])
theorem MK.l {S T S1 T1 : St} {p q : Nat} (h : ∀ q, p ≤ q → q ≤ p → MK S1 T1 q) (f : FL p S S1) (g : GL p T T1) (hq : MK S T q) : MK S1 T1 q := by
  by_cases e : q = p
  · subst e; exact h q (by omega) (by omega)
  · exact hq.congr (f.2.1 q e) (by rw [g.1 7 (by omega)]) (fun j h1 h2 => f.2.2.1 j (by omega)) (fun j h1 h2 => g.2 j (by omega))
theorem FL.two {p : Nat} {S S1 : St} (h : FL p S S1) (q : Nat) : S1 3 q = 2 ↔ S 3 q = 2 := by
  by_cases e : q = p
  · subst e; exact h.2.2.2
  · rw [h.2.1 q e]
theorem big {k : Nat} (h1 : 1 ≤ k) (h2 : k ≤ 9) (p : Nat) (hp : p ≤ 96) : (100 : Int32) * nI k + nI p = nI (100 * k + p) := by
  rw [show (100 : Int32) = nI 100 from rfl, pk_mul, nI_add]
/-- how it ends when a place is looked at -/
def LK (S T : St) (i fi en p : Nat) (A : Option (Int32 × St)) (B : Nat → Option (Int32 × St)) : Prop := ∃ (r : Int32) (S1 T1 : St), A = some (r, S1) ∧ FI fi en S S1 ∧ GI T T1 ∧ ((r = 0 ∧ (∀ g, B g = m_X9_findOut_L96 g (nI i) (nI fi) T1) ∧ (∀ q, fi ≤ q → q ≤ en → MK S1 T1 q) ∧ S1 3 p = 2 ∧ ∀ q, q ≠ p → (S1 3 q = 2 ↔ S 3 q = 2)) ∨ ∃ k : Nat, 1 ≤ k ∧ k ≤ 2000 ∧ r = nI k ∧ ∀ g, B g = some (nI k, T1))
theorem LK.bad {S T S1 T1 : St} {i fi en p : Nat} {A : Option (Int32 × St)} {B : Nat → Option (Int32 × St)} (k : Nat) (h1 : 1 ≤ k) (h2 : k ≤ 2000) (hA : A = some (nI k, S1)) (hB : ∀ g, B g = some (nI k, T1)) (f : FI fi en S S1) (g : GI T T1) : LK S T i fi en p A B := ⟨nI k, S1, T1, hA, f, g, Or.inr ⟨k, h1, h2, rfl, hB⟩⟩
/-- a jump or a branch: the place it goes to is learned -/
theorem go_sim {S T : St} {i fi en p x : Nat} (hO : FO S T i fi en) (hM : ∀ q, fi ≤ q → q ≤ en → MK S T q) {h fr : Nat} {s : Nat → Nat} (hw : NW S T h fr s) (hb : NB h fr s) (hx1 : fi ≤ x) (hx2 : x < en) (hp2 : S 3 p = 2) (hp : fi ≤ p) : LK S T i fi en p ((m_X1_learn (nI x) S).bind fun r => some (r.1, r.2)) (fun g => m_X9_findOut_L353 (m_X9_findOut_L96 g) (nI i) (nI x) 1 T) := by
  obtain ⟨o1, o2, o3, o4, o5, o6, o7, o8⟩ := id hO
  have oi : inb (nI i) 5 = true := inb_nI o1 (by omega)
  have ci : (nI i).toNatClampNeg = i := nI_cl (by omega)
  unfold m_X9_findOut_L353
  simp only [if_neg i10]
  rcases learn_sim (show x ≤ 96 by omega) (hM x hx1 (by omega)) hw hb with ⟨S1, T1, l1, l2, l3, l4, l5⟩ | ⟨l1, l2⟩
  · rw [l1, l2]
    refine ⟨0, S1, T1, rfl, l4.i hx1 (by omega), l5.i, Or.inl ⟨rfl, fun g => ?_, fun q h1 h2 => MK.l (fun q' h1 h2 => by rw [show q' = x by omega]; exact l3) l4 l5 (hM q h1 h2), (l4.two p).mpr hp2, fun q _ => l4.two q⟩⟩
    simp only [some_bind', if_neg i10, if_pos oi, ci]
    rw [l5.1 4 (by omega), o6]
  · rw [l1, l2]
    refine LK.bad (700 + x) (by omega) (by omega) rfl (fun g => ?_) (FI.refl _ _ S) (GI.refl T)
    simp only [some_bind', if_true]
    rw [show (700 : Int32) = nI 700 from rfl, nI_add]
theorem it_sim {S T : St} {n i fi en p : Nat} {c : Nat → Nat} (hcd : CD S T n c) (hen : en ≤ n) (hF : RF S T) (hO : FO S T i fi en) (hM : ∀ q, fi ≤ q → q ≤ en → MK S T q) (h1 : fi ≤ p) (h2 : p ≤ en) (hk : S 3 p = 1) : LK S T i fi en p (m_X1_lookAt (nI p) S) (fun g => m_X9_findOut_L96 (g + 1) (nI i) (nI p) T) := by
  obtain ⟨o1, o2, o3, o4, o5, o6, o7, o8⟩ := id hO
  have oi : inb (nI i) 5 = true := inb_nI o1 (by omega)
  have ci : (nI i).toNatClampNeg = i := nI_cl (by omega)
  have hmk := hM p h1 h2
  have hkn : T 7 p = 0 ∧ KN S T p := by
    rcases hmk with ⟨q, -⟩ | ⟨-, q1, q2⟩ | ⟨q, -⟩
    · rw [hk] at q; exact absurd q i10
    · exact ⟨q1, q2⟩
    · rw [hk] at q; exact absurd q i12
  obtain ⟨h7, hK⟩ := hkn
  obtain ⟨S', hS'⟩ : ∃ S', S' = st S 3 p 2 := ⟨_, rfl⟩
  obtain ⟨T', hT'⟩ : ∃ T', T' = st T 7 p 1 := ⟨_, rfl⟩
  have fS : FI fi en S S' := by
    rw [hS']
    exact ⟨fun k q _ _ _ => st_ne _ _ _ q, fun j _ _ => st_row _ _ _ _ (by omega), fun q hq => st_col _ _ _ (by omega), fun j _ => st_row _ _ _ _ (by omega)⟩
  have gT : GI T T' := by
    rw [hT']
    exact fun k _ q _ => st_ne _ _ _ q
  have s3p : S' 3 p = 2 := by rw [hS', st_rd]
  have s3q : ∀ q, q ≠ p → S' 3 q = S 3 q := fun q hq => by rw [hS', st_col _ _ _ hq]
  have s5 : S' 5 = S 5 := by rw [hS', st_ne _ _ _ (by omega)]
  have t6 : T' 6 = T 6 := by rw [hT', st_ne _ _ _ (by omega)]
  have hK' : KN S' T' p := hK.congr (fun j _ _ => by rw [s5]) (fun j _ _ => by rw [t6])
  have hM' : ∀ q, fi ≤ q → q ≤ en → MK S' T' q := by
    intro q q1 q2
    by_cases e : q = p
    · subst e
      exact Or.inr (Or.inr ⟨s3p, by rw [hT', st_rd], hK'⟩)
    · exact (hM q q1 q2).congr (s3q q e) (by rw [hT', st_col _ _ _ e]) (fun j _ _ => by rw [s5]) (fun j _ _ => by rw [t6])
  have j1 : inb (nI p) 97 = true := inb_nI (by omega) (by omega)
  have j2 : inb (nI (5 * p)) 485 = true := inb_nI (by omega) (by omega)
  have k1 : (nI p).toNatClampNeg = p := nI_cl (by omega)
  have k2 : (nI (5 * p)).toNatClampNeg = 5 * p := nI_cl (by omega)
  have qe : (nI p = nI en) = (p = en) := q_eq (by omega) (by omega)
  have e5 : T' 5 i = nI en := by rw [gT 5 (by omega) (by omega) (by omega)]; exact o7
  have hne : ¬ T 6 (5 * p) = 0 := by
    obtain ⟨hh, _, _, hb, _, q, _⟩ := hK
    rw [q]; exact nI_ne0 hb.1 (by have := hb.2.1; omega)
  have hlt : ¬ nI en < nI p := nI_nlt h2 (by omega)
  have href : ∀ g, m_X9_findOut_L96 (g + 1) (nI i) (nI p) T = if p = en then some ((200 : Int32) + nI p, T') else (m_X9_isWhole (nI p) (nI en) T').bind fun r4 => if r4.1 = 0 then some ((100 : Int32) + nI p, r4.2) else m_X9_findOut_L185 (m_X9_findOut_L96 g) 10000 (nI i) (nI p) 0 r4.2 := by
    intro g
    rw [m_X9_findOut_L96]
    simp only [if_pos oi, ci, o7, if_neg hlt, m5, if_pos j2, k2, if_neg hne, if_pos j1, k1, h7, if_true, ← hT', e5, qe]
  have e20 : S' 20 5 = nI en := by rw [fS.2.1 5 (by omega) (by omega)]; exact o5
  have hcls : m_X1_lookAt (nI p) S = if p = en then some ((200 : Int32) + nI p, S') else (m_X4_wholeSize (nI p) (nI en) S').bind fun r1 => if r1.1 = 0 then some ((100 : Int32) + nI p, r1.2) else (m_X1_recall (nI p) r1.2).bind fun r2 => (m_X4_codeAt (nI p) r2.2).bind fun r3 => (m_X4_codeAt (nI p + (1 : Int32)) r3.2).bind fun r4 => (m_X4_codeAt (nI p + (2 : Int32)) r4.2).bind fun r5 => (m_X1_effect r3.1 r4.1 r5.1 r5.2).bind fun r6 => if r6.1 = 0 then (if r3.1 = (8 : Int32) then m_X1_lookAt_L124 r3.1 r4.1 (0 : Int32) r6.2 else if r3.1 = (9 : Int32) then m_X1_lookAt_L124 r3.1 r4.1 (0 : Int32) r6.2 else (m_X1_learn (nI p + r1.1) r6.2).bind fun r7 => m_X1_lookAt_L124 r3.1 r4.1 r7.1 r7.2) else some ((((100 : Int32) * r6.1) + nI p), r6.2) := by
    unfold m_X1_lookAt
    simp only [if_pos j1, k1, ← hS', e20, qe]
  simp only [href]
  rw [hcls]
  by_cases hpe : p = en
  · simp only [if_pos hpe]
    exact LK.bad (200 + p) (by omega) (by omega) (by rw [show (200 : Int32) = nI 200 from rfl, nI_add]) (fun g => by rw [show (200 : Int32) = nI 200 from rfl, nI_add]) fS gT
  simp only [if_neg hpe]
  have hcd' := hcd.i fS gT
  rw [wsz_eq hcd' (show p < en by omega) hen, isw_eq hcd' (show p < en by omega) hen, some_bind']
  simp only [some_bind']
  by_cases hwh : c p < 16 ∧ p + szN (c p) ≤ en ∧ (rgN (c p) = true → c (p + 1) < 3)
  · have hws : wh c p en = szN (c p) := if_pos hwh
    obtain ⟨h16, hz, hrg⟩ := hwh
    have hsz : 1 ≤ szN (c p) ∧ szN (c p) ≤ 3 := by
      rcases lt16 h16 with h | h | h | h | h | h | h | h | h | h | h | h | h | h | h | h <;> rw [h] <;> decide
    have nz : ¬ nI (szN (c p)) = 0 := nI_ne0 (by omega) (by omega)
    simp only [hws, if_neg (show ¬ szN (c p) = 0 by omega), if_neg nz, if_neg i10]
    obtain ⟨S2, c1, c2, c3, c4, c5⟩ := rc_eq (show p ≤ 96 by omega) S'
    have f2 : FI fi en S S2 := fS.trans (c2.i fi en)
    obtain ⟨hh, fr, s, hb, u1, u2, u3, u4, u5⟩ := id hK'
    obtain ⟨T2, d1, d2, -, d4⟩ := rc9 (show p ≤ 96 by omega) (nI i) 5 0 10000 T' (by omega) (by omega)
    rw [show nI 0 = (0 : Int32) from rfl] at d1
    have g2 : GI T T2 := gT.trans (fun k _ _ h9 => d2 k h9)
    have hw2 : NW S2 T2 hh fr s := by
      refine ⟨by rw [c3]; exact u1, by rw [d4 0 (by omega) (by omega)]; exact u2, by rw [c4]; exact u3, by rw [d4 1 (by omega) (by omega)]; exact u4, fun r hr => ⟨by rw [c5 r hr]; exact (u5 r hr).1, ?_⟩⟩
      rw [d4 (2 + r) (by omega) (by omega), show 5 * p + (2 + r) = 5 * p + 2 + r by omega]
      exact (u5 r hr).2
    have hcd2 := hcd.i f2 g2
    have hM2 : ∀ q, fi ≤ q → q ≤ en → MK S2 T2 q := fun q q1 q2 => (hM' q q1 q2).e c2 (fun k h9 => d2 k h9)
    have s2p : S2 3 p = 2 := by rw [c2.1 3 (by omega) (by omega)]; exact s3p
    have s2q : ∀ q, q ≠ p → S2 3 q = S 3 q := fun q hq => by rw [c2.1 3 (by omega) (by omega)]; exact s3q q hq
    have t2 : nI p + (2 : Int32) = nI (p + 2) := nI_add p 2
    obtain ⟨r, S3, T3, e1, e2, e3, e4, e5'⟩ := eff_sim hcd2 h16 (by omega) hrg hw2 hb (hF.i f2 g2) (hO.i f2 g2)
    have f3 : FI fi en S S3 := f2.trans (e3.i fi en)
    have g3 : GI T T3 := g2.trans e4.i
    have h5 : (5 : Int32) ≤ nI 5 := by decide
    have i96 : inb (nI p) 96 = true := inb_nI (by omega) (by omega)
    have z5 : T3 1 p = nI (c p) := by rw [g3 1 (by omega) (by omega) (by omega)]; exact (hcd.2.2.2 p).2.1
    have hB : ∀ g, m_X9_findOut_L185 (m_X9_findOut_L96 g) 10000 (nI i) (nI p) 0 T' = if r ≤ 0 then m_X9_findOut_L280 (m_X9_findOut_L96 g) (nI i) (nI (c p)) (nI (p + szN (c p))) (if szN (c p) ≤ 1 then 0 else nI (c (p + 1))) T3 else some ((100 : Int32) * r + nI p, T3) := by
      intro g
      rw [d1, m_X9_findOut_L185]
      simp only [if_pos h5, e2, some_bind', if_pos i96, k1, z5, len_eq (show c p < 256 by omega), nI_add, nI_1]
      have kk : (nI (szN (c p)) ≤ (1 : Int32)) = (szN (c p) ≤ 1) := q_le (b := 1) (by omega) (by omega)
      simp only [kk]
      by_cases hs1 : szN (c p) ≤ 1
      · simp only [if_pos hs1]
      · have i97 : inb (nI (p + 1)) 96 = true := inb_nI (by omega) (by omega)
        have k97 : (nI (p + 1)).toNatClampNeg = p + 1 := nI_cl (by omega)
        have z6 : T3 1 (p + 1) = nI (c (p + 1)) := by rw [g3 1 (by omega) (by omega) (by omega)]; exact (hcd.2.2.2 (p + 1)).2.1
        simp only [if_neg hs1, if_pos i97, k97, z6]
    have hA : (m_X1_recall (nI p) S').bind (fun r2 => (m_X4_codeAt (nI p) r2.2).bind fun r3 => (m_X4_codeAt (nI p + (1 : Int32)) r3.2).bind fun r4 => (m_X4_codeAt (nI p + (2 : Int32)) r4.2).bind fun r5 => (m_X1_effect r3.1 r4.1 r5.1 r5.2).bind fun r6 => if r6.1 = 0 then (if r3.1 = (8 : Int32) then m_X1_lookAt_L124 r3.1 r4.1 (0 : Int32) r6.2 else if r3.1 = (9 : Int32) then m_X1_lookAt_L124 r3.1 r4.1 (0 : Int32) r6.2 else (m_X1_learn (nI p + nI (szN (c p))) r6.2).bind fun r7 => m_X1_lookAt_L124 r3.1 r4.1 r7.1 r7.2) else some ((((100 : Int32) * r6.1) + nI p), r6.2)) = if r = 0 then (if nI (c p) = (8 : Int32) then m_X1_lookAt_L124 (nI (c p)) (cdv (nI (p + 1)) S2) (0 : Int32) S3 else if nI (c p) = (9 : Int32) then m_X1_lookAt_L124 (nI (c p)) (cdv (nI (p + 1)) S2) (0 : Int32) S3 else (m_X1_learn (nI (p + szN (c p))) S3).bind fun r7 => m_X1_lookAt_L124 (nI (c p)) (cdv (nI (p + 1)) S2) r7.1 r7.2) else some ((100 : Int32) * r + nI p, S3) := by
      rw [c1, some_bind', codeAt_eq hcd2.1 hcd2.2.1, cdv_in hcd2.1 hcd2.2.1 (by omega), (hcd2.2.2.2 p).1, some_bind', nI_1, codeAt_eq hcd2.1 hcd2.2.1, some_bind', t2, codeAt_eq hcd2.1 hcd2.2.1, some_bind']
      simp only [e1, some_bind', nI_add]
    simp only [hB]
    rw [hA]
    rcases e5' with ⟨rfl, h', fr', s', hw3, hb3⟩ | ⟨k, k1', k9', rfl⟩
    · simp only [if_true, if_pos p00]
      have hO3 := hO.i f3 g3
      have hM3 : ∀ q, fi ≤ q → q ≤ en → MK S3 T3 q := fun q q1 q2 => (hM2 q q1 q2).e e3 e4
      have s3p' : S3 3 p = 2 := by rw [e3.1 3 (by omega) (by omega)]; exact s2p
      have s3q' : ∀ q, q ≠ p → S3 3 q = S 3 q := fun q hq => by rw [e3.1 3 (by omega) (by omega)]; exact s2q q hq
      have t34 : T3 4 i = nI fi := hO3.2.2.2.2.2.1
      have t35 : T3 5 i = nI en := hO3.2.2.2.2.2.2.1
      have lift : ∀ {A : Option (Int32 × St)} {B : Nat → Option (Int32 × St)}, LK S3 T3 i fi en p A B → LK S T i fi en p A B := by
        intro A B ⟨r, S4, T4, w1, w2, w3, w4⟩
        refine ⟨r, S4, T4, w1, f3.trans w2, g3.trans w3, ?_⟩
        rcases w4 with ⟨v1, v2, v3, v4, v5⟩ | w4
        · exact Or.inl ⟨v1, v2, v3, v4, fun q hq => by rw [v5 q hq, s3q' q hq]⟩
        · exact Or.inr w4
      have done : ∀ {A : Option (Int32 × St)} {B : Nat → Option (Int32 × St)}, A = some (0, S3) → (∀ g, B g = m_X9_findOut_L96 g (nI i) (nI fi) T3) → LK S3 T3 i fi en p A B := fun hA hB => ⟨0, S3, T3, hA, FI.refl _ _ _, GI.refl _, Or.inl ⟨rfl, hB, hM3, s3p', fun q _ => Iff.rfl⟩⟩
      apply lift
      have x1 := (hcd.2.2.2 (p + 1)).2.2
      by_cases c8 : c p = 8
      · have n9 : ¬ nI 8 = (9 : Int32) := by decide
        have n10 : ¬ nI 8 = (10 : Int32) := by decide
        have n8 : nI 8 = (8 : Int32) := rfl
        rw [c8]
        simp only [if_pos n8]
        unfold m_X1_lookAt_L124 m_X9_findOut_L280 m_X9_findOut_L312 m_X9_findOut_L353
        simp only [if_neg n9, if_neg n10, if_true, if_pos n8, if_pos oi, ci, t34]
        exact done rfl (fun g => rfl)
      · have n8 : ¬ nI (c p) = (8 : Int32) := nI_ne (b := 8) (by omega) (by omega) c8
        simp only [if_neg n8]
        by_cases c9 : c p = 9
        · have n9 : nI 9 = (9 : Int32) := rfl
          have n8' : ¬ nI 9 = (8 : Int32) := by decide
          have n10 : ¬ nI 9 = (10 : Int32) := by decide
          rw [c9] at hz ⊢
          replace hz : p + 2 ≤ en := hz
          have hs2 : ¬ szN 9 ≤ 1 := by decide
          rw [cdv_in hcd2.1 hcd2.2.1 (show p + 1 < n by omega), (hcd2.2.2.2 (p + 1)).1]
          simp only [if_pos n9, if_neg hs2]
          unfold m_X1_lookAt_L124 m_X1_lookAt_L138 m_X9_findOut_L280 m_X9_findOut_L312
          simp only [if_pos n9, if_neg n8', if_neg n10, if_pos oi, ci, t34, t35, inF hO3.2.2.2.1 hO3.2.2.2.2.1 x1 (by omega) (by omega), some_bind', q_lt (show c (p + 1) < 2 ^ 31 by omega) (show fi < 2 ^ 31 by omega), q_le (show en < 2 ^ 31 by omega) (show c (p + 1) < 2 ^ 31 by omega)]
          by_cases hin : fi ≤ c (p + 1) ∧ c (p + 1) < en
          · simp only [if_pos hin, if_neg i10, if_true, if_neg (show ¬ c (p + 1) < fi by omega), if_neg (show ¬ en ≤ c (p + 1) by omega)]
            exact go_sim hO3 hM3 hw3 hb3 hin.1 hin.2 s3p' h1
          · simp only [if_neg hin, if_true]
            refine done rfl (fun g => ?_)
            unfold m_X9_findOut_L353
            simp only [if_true, if_pos oi, ci, t34]
            by_cases hl : c (p + 1) < fi
            · rw [if_pos hl]
            · rw [if_neg hl, if_pos (show en ≤ c (p + 1) by omega)]
        · have n9 : ¬ nI (c p) = (9 : Int32) := nI_ne (b := 9) (by omega) (by omega) c9
          simp only [if_neg n9]
          unfold m_X9_findOut_L280
          simp only [if_neg n8, if_neg n9]
          rcases learn_sim (show p + szN (c p) ≤ 96 by omega) (hM3 (p + szN (c p)) (by omega) hz) hw3 hb3 with ⟨S4, T4, l1, l2, l3, l4, l5⟩ | ⟨l1, l2⟩
          · have f4 : FI fi en S3 S4 := l4.i (by omega) hz
            have hM4 : ∀ q, fi ≤ q → q ≤ en → MK S4 T4 q := fun q q1 q2 => MK.l (fun q' h1 h2 => by rw [show q' = p + szN (c p) by omega]; exact l3) l4 l5 (hM3 q q1 q2)
            have hO4 := hO3.i f4 l5.i
            have s4p : S4 3 p = 2 := (l4.two p).mpr s3p'
            have hw4 : NW S4 T4 h' fr' s' := by
              obtain ⟨a1, a2, a3, a4, a5⟩ := hw3
              exact ⟨by rw [l4.1 20 (by omega) (by omega)]; exact a1, by rw [l5.1 9 (by omega)]; exact a2, by rw [l4.1 20 (by omega) (by omega)]; exact a3, by rw [l5.1 9 (by omega)]; exact a4, fun r hr => by rw [l4.1 6 (by omega) (by omega), l5.1 9 (by omega)]; exact a5 r hr⟩
            have lift4 : ∀ {A : Option (Int32 × St)} {B : Nat → Option (Int32 × St)}, LK S4 T4 i fi en p A B → LK S3 T3 i fi en p A B := by
              intro A B ⟨r, S5, T5, w1, w2, w3, w4⟩
              refine ⟨r, S5, T5, w1, f4.trans w2, l5.i.trans w3, ?_⟩
              rcases w4 with ⟨v1, v2, v3, v4, v5⟩ | w4
              · exact Or.inl ⟨v1, v2, v3, v4, fun q hq => by rw [v5 q hq]; exact l4.two q⟩
              · exact Or.inr w4
            simp only [l1, l2, some_bind', if_neg i10]
            apply lift4
            by_cases c10 : c p = 10
            · have hb10 : fi ≤ c (p + 1) ∧ c (p + 1) < en := by
                rw [c10] at hz e1
                replace hz : p + 2 ≤ en := hz
                rw [cdv_in hcd2.1 hcd2.2.1 (show p + 1 < n by omega), (hcd2.2.2.2 (p + 1)).1] at e1
                have o2' := hO.i f2 g2
                by_cases hin : fi ≤ c (p + 1) ∧ c (p + 1) < en
                · exact hin
                · exfalso
                  unfold m_X1_effect at e1
                  rw [if_neg (by decide), if_neg (by decide), if_neg (by decide), if_neg (by decide), if_neg (by decide), if_neg (by decide), if_neg (by decide), if_neg (by decide), if_neg (by decide), if_pos (by decide), inF o2'.2.2.2.1 o2'.2.2.2.2.1 x1 (by omega) (by omega), some_bind', if_neg hin, if_pos rfl] at e1
                  exact absurd (congrArg Prod.fst (Option.some.inj e1)) (show ¬ (3 : Int32) = 0 by decide)
              have n10 : nI 10 = (10 : Int32) := rfl
              have n9' : ¬ nI 10 = (9 : Int32) := by decide
              rw [c10] at hz ⊢
              replace hz : p + 2 ≤ en := hz
              have hs2 : ¬ szN 10 ≤ 1 := by decide
              rw [cdv_in hcd2.1 hcd2.2.1 (show p + 1 < n by omega), (hcd2.2.2.2 (p + 1)).1]
              unfold m_X1_lookAt_L124 m_X1_lookAt_L138 m_X9_findOut_L312
              simp only [if_neg n9', if_pos n10, if_neg hs2, inF hO4.2.2.2.1 hO4.2.2.2.2.1 x1 (by omega) (by omega), some_bind', if_pos hb10, if_neg i10, if_true]
              exact go_sim hO4 hM4 hw4 hb3 hb10.1 hb10.2 s4p h1
            · have n10 : ¬ nI (c p) = (10 : Int32) := nI_ne (b := 10) (by omega) (by omega) c10
              unfold m_X1_lookAt_L124 m_X9_findOut_L312 m_X9_findOut_L353
              simp only [if_neg n9, if_neg n10, if_true, if_pos oi, ci]
              refine ⟨0, S4, T4, rfl, FI.refl _ _ _, GI.refl _, Or.inl ⟨rfl, fun g => ?_, hM4, s4p, fun q _ => Iff.rfl⟩⟩
              rw [hO4.2.2.2.2.2.1]
          · have e7 : (700 : Int32) + nI (p + szN (c p)) = nI (700 + (p + szN (c p))) := by rw [show (700 : Int32) = nI 700 from rfl, nI_add]
            have n7 : ¬ nI (700 + (p + szN (c p))) = 0 := nI_ne0 (by omega) (by omega)
            simp only [l1, l2, some_bind', if_true, e7]
            refine LK.bad (700 + (p + szN (c p))) (by omega) (by omega) ?_ (fun g => rfl) (FI.refl _ _ _) (GI.refl _)
            unfold m_X1_lookAt_L124 m_X1_lookAt_L138
            simp only [if_neg n9, if_neg n7]
            by_cases c10 : nI (c p) = (10 : Int32)
            · simp only [if_pos c10]
              unfold m_X1_inFunction
              split
              · rfl
              · split <;> rfl
            · simp only [if_neg c10]
    · have kz : ¬ nI k = 0 := nI_ne0 (by omega) (by omega)
      have kl : ¬ nI k ≤ 0 := nI_nle (by omega) (by omega)
      simp only [if_neg kz, if_neg kl, big k1' k9' p (by omega)]
      exact LK.bad (100 * k + p) (by omega) (by omega) rfl (fun g => rfl) f3 g3
  · have hws : wh c p en = 0 := if_neg hwh
    simp only [hws, if_true]
    exact LK.bad (100 + p) (by omega) (by omega) (by rw [show (100 : Int32) = nI 100 from rfl, nI_add]; rfl) (fun g => by rw [show (100 : Int32) = nI 100 from rfl, nI_add]) fS gT
