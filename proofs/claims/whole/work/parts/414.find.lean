/-! the finder: a whole function -/
def cnt (f : Nat → Int32) (a : Nat) : Nat → Nat
  | 0 => 0
  | m + 1 => cnt f a m + (if f (a + m) = 2 then 0 else 1)
theorem cnt_le (f : Nat → Int32) (a : Nat) : ∀ m, cnt f a m ≤ m := by
  intro m
  induction m with
  | zero => exact Nat.le_refl 0
  | succ m ih =>
    rw [cnt]
    split <;> omega
theorem cnt_eq {f g : Nat → Int32} {a : Nat} : ∀ m, (∀ i, i < m → (g (a + i) = 2 ↔ f (a + i) = 2)) → cnt g a m = cnt f a m := by
  intro m
  induction m with
  | zero => intro _; rfl
  | succ m ih =>
    intro h
    rw [cnt, cnt, ih (fun i hi => h i (by omega))]
    by_cases q : f (a + m) = 2
    · rw [if_pos q, if_pos ((h m (by omega)).mpr q)]
    · rw [if_neg q, if_neg (fun w => q ((h m (by omega)).mp w))]
theorem cnt_set {f g : Nat → Int32} {a : Nat} : ∀ (m i : Nat), i < m → f (a + i) ≠ 2 → g (a + i) = 2 → (∀ j, j < m → j ≠ i → (g (a + j) = 2 ↔ f (a + j) = 2)) → cnt g a m + 1 = cnt f a m := by
  intro m
  induction m with
  | zero => intro i hi; exact absurd hi (by omega)
  | succ m ih =>
    intro i hi h1 h2 h3
    rw [cnt, cnt]
    by_cases e : i = m
    · subst e
      rw [if_pos h2, if_neg h1, cnt_eq i (fun j hj => h3 j (by omega) (by omega))]
    · have q := ih i (by omega) h1 h2 (fun j hj hn => h3 j (by omega) hn)
      by_cases w : f (a + m) = 2
      · rw [if_pos w, if_pos ((h3 m (by omega) (by omega)).mpr w)]; omega
      · rw [if_neg w, if_neg (fun v => w ((h3 m (by omega) (by omega)).mp v))]; omega
theorem lo_any {S : St} {en : Nat} (he : en ≤ 96) (e5 : S 20 5 = nI en) : ∀ (d q F : Nat), q + d = en + 1 → d < F → ∃ v : Int32, m_X1_lowestToLookAt_L5 F (nI q) S = some (v, S) := by
  intro d
  induction d with
  | zero =>
    intro q F hq hF
    obtain ⟨f, rfl⟩ : ∃ f, F = f + 1 := ⟨F - 1, by omega⟩
    refine ⟨-1, ?_⟩
    rw [m_X1_lowestToLookAt_L5, e5, if_pos (nI_lt (by omega) (by omega))]
  | succ d ih =>
    intro q F hq hF
    obtain ⟨f, rfl⟩ : ∃ f, F = f + 1 := ⟨F - 1, by omega⟩
    rw [m_X1_lowestToLookAt_L5, e5, if_neg (nI_nlt (by omega) (by omega)), if_pos (inb_nI (show q < 97 by omega) (by omega))]
    split
    · exact ⟨_, rfl⟩
    · rw [nI_1]; exact ih (q + 1) f (by omega) (by omega)
theorem sc_sim {S T : St} {i fi en : Nat} (hO : FO S T i fi en) (hM : ∀ q, fi ≤ q → q ≤ en → MK S T q) : ∀ (d q F G : Nat), q + d = en + 1 → d < F → d < G → fi ≤ q → (∃ p, q ≤ p ∧ p ≤ en ∧ S 3 p = 1 ∧ m_X1_lowestToLookAt_L5 F (nI q) S = some (nI p, S) ∧ ∃ g, g + 1 + (p - q) = G ∧ m_X9_findOut_L96 G (nI i) (nI q) T = m_X9_findOut_L96 (g + 1) (nI i) (nI p) T) ∨ (m_X1_lowestToLookAt_L5 F (nI q) S = some (-1, S) ∧ m_X9_findOut_L96 G (nI i) (nI q) T = some (0, T)) := by
  obtain ⟨o1, o2, o3, o4, o5, o6, o7, o8⟩ := id hO
  have oi : inb (nI i) 5 = true := inb_nI o1 (by omega)
  have ci : (nI i).toNatClampNeg = i := nI_cl (by omega)
  intro d
  induction d with
  | zero =>
    intro q F G hq hF hG hfi
    obtain ⟨f, rfl⟩ : ∃ f, F = f + 1 := ⟨F - 1, by omega⟩
    obtain ⟨g, rfl⟩ : ∃ g, G = g + 1 := ⟨G - 1, by omega⟩
    right
    constructor
    · rw [m_X1_lowestToLookAt_L5, o5, if_pos (nI_lt (by omega) (by omega))]
    · rw [m_X9_findOut_L96, if_pos oi, ci, o7, if_pos (nI_lt (by omega) (by omega))]
  | succ d ih =>
    intro q F G hq hF hG hfi
    obtain ⟨f, rfl⟩ : ∃ f, F = f + 1 := ⟨F - 1, by omega⟩
    obtain ⟨g, rfl⟩ : ∃ g, G = g + 1 := ⟨G - 1, by omega⟩
    have nl : ¬ nI en < nI q := nI_nlt (by omega) (by omega)
    have j1 : inb (nI q) 97 = true := inb_nI (by omega) (by omega)
    have j2 : inb (nI (5 * q)) 485 = true := inb_nI (by omega) (by omega)
    have k1 : (nI q).toNatClampNeg = q := nI_cl (by omega)
    have k2 : (nI (5 * q)).toNatClampNeg = 5 * q := nI_cl (by omega)
    have cS : m_X1_lowestToLookAt_L5 (f + 1) (nI q) S = if S 3 q = 1 then some (nI q, S) else m_X1_lowestToLookAt_L5 f (nI (q + 1)) S := by
      rw [m_X1_lowestToLookAt_L5, o5, if_neg nl, if_pos j1, k1, nI_1]
    have skip : (T 6 (5 * q) = 0 ∨ (¬ T 6 (5 * q) = 0 ∧ ¬ T 7 q = 0)) → m_X9_findOut_L96 (g + 1) (nI i) (nI q) T = m_X9_findOut_L96 g (nI i) (nI (q + 1)) T := by
      intro h
      rw [m_X9_findOut_L96, if_pos oi, ci, o7, if_neg nl, m5, if_pos j2, k2, k1, nI_1, if_pos j1]
      rcases h with h | ⟨h, h'⟩
      · rw [if_pos h]
      · rw [if_neg h, if_neg h']
    have next : ¬ S 3 q = 1 → (T 6 (5 * q) = 0 ∨ (¬ T 6 (5 * q) = 0 ∧ ¬ T 7 q = 0)) → (∃ p, q ≤ p ∧ p ≤ en ∧ S 3 p = 1 ∧ m_X1_lowestToLookAt_L5 (f + 1) (nI q) S = some (nI p, S) ∧ ∃ g', g' + 1 + (p - q) = g + 1 ∧ m_X9_findOut_L96 (g + 1) (nI i) (nI q) T = m_X9_findOut_L96 (g' + 1) (nI i) (nI p) T) ∨ (m_X1_lowestToLookAt_L5 (f + 1) (nI q) S = some (-1, S) ∧ m_X9_findOut_L96 (g + 1) (nI i) (nI q) T = some (0, T)) := by
      intro h1 h2
      rw [cS, if_neg h1, skip h2]
      rcases ih (q + 1) f g (by omega) (by omega) (by omega) (by omega) with ⟨p, a1, a2, a3, a4, g', a5, a6⟩ | ⟨a1, a2⟩
      · exact Or.inl ⟨p, by omega, a2, a3, a4, g', by omega, a6⟩
      · exact Or.inr ⟨a1, a2⟩
    have kne : KN S T q → ¬ T 6 (5 * q) = 0 := by
      rintro ⟨hh, _, _, hb, _, e, _⟩
      rw [e]; exact nI_ne0 hb.1 (by have := hb.2.1; omega)
    rcases hM q hfi (by omega) with ⟨h1, h2, h3⟩ | ⟨h1, h2, h3⟩ | ⟨h1, h2, h3⟩
    · exact next (by rw [h1]; decide) (Or.inl h2)
    · left
      refine ⟨q, Nat.le_refl q, by omega, h1, by rw [cS, if_pos h1], g, by omega, rfl⟩
    · exact next (by rw [h1]; decide) (Or.inr ⟨kne h3, by rw [h2]; exact i10⟩)
theorem m1n {p : Nat} (hp : p ≤ 96) : ¬ nI p = (-1 : Int32) := by
  intro e
  have := congrArg Int32.toInt e
  rw [nI_toInt (by omega)] at this
  have u : (-1 : Int32).toInt = -1 := by decide
  omega
theorem fo_loop {n i fi en : Nat} {c : Nat → Nat} : ∀ (m F G x5 : Nat) (S T : St), CD S T n c → en ≤ n → RF S T → FO S T i fi en → (∀ q, fi ≤ q → q ≤ en → MK S T q) → cnt (S 3) fi (en + 1 - fi) = m → x5 + m ≤ 97 → m < F → 98 * (m + 1) ≤ G → ∃ v : Int32, m_X1_lowestToLookAt S = some (v, S) ∧ ∃ (r : Int32) (S1 T1 : St), m_X1_findOut_L66 F 0 v (nI x5) S = some (r, S1) ∧ m_X9_findOut_L96 G (nI i) (nI fi) T = some (r, T1) ∧ FI fi en S S1 ∧ GI T T1 ∧ ((r = 0 ∧ ∀ q, fi ≤ q → q ≤ en → MK S1 T1 q) ∨ ∃ k : Nat, 1 ≤ k ∧ k ≤ 2000 ∧ r = nI k) := by
  intro m
  induction m with
  | zero =>
    intro F G x5 S T hcd hen hF hO hM hc hx hFu hG
    obtain ⟨o1, o2, o3, o4, o5, o6, o7, o8⟩ := id hO
    obtain ⟨f, rfl⟩ : ∃ f, F = f + 1 := ⟨F - 1, by omega⟩
    unfold m_X1_lowestToLookAt
    rw [o4]
    rcases sc_sim hO hM (en + 1 - fi) fi 10000 G (by omega) (by omega) (by omega) (Nat.le_refl _) with ⟨p, a1, a2, a3, -⟩ | ⟨a1, a2⟩
    · exfalso
      have := cnt_set (f := S 3) (g := fun q => if q = p then 2 else S 3 q) (a := fi) (en + 1 - fi) (p - fi) (by omega) (by rw [show fi + (p - fi) = p by omega, a3]; exact i12) (by rw [show fi + (p - fi) = p by omega, if_pos rfl]) (fun j _ hj => by rw [if_neg (show ¬ fi + j = p by omega)])
      omega
    · refine ⟨-1, a1, 0, S, T, ?_, a2, FI.refl _ _ _, GI.refl _, Or.inl ⟨rfl, hM⟩⟩
      rw [m_X1_findOut_L66]
      split
      · rfl
      · rfl
  | succ m ih =>
    intro F G x5 S T hcd hen hF hO hM hc hx hFu hG
    obtain ⟨o1, o2, o3, o4, o5, o6, o7, o8⟩ := id hO
    obtain ⟨f, rfl⟩ : ∃ f, F = f + 1 := ⟨F - 1, by omega⟩
    have low : m_X1_lowestToLookAt S = m_X1_lowestToLookAt_L5 10000 (nI fi) S := by unfold m_X1_lowestToLookAt; rw [o4]
    rw [low]
    rcases sc_sim hO hM (en + 1 - fi) fi 10000 G (by omega) (by omega) (by omega) (Nat.le_refl _) with ⟨p, a1, a2, a3, a4, g, a5, a6⟩ | ⟨a1, a2⟩
    · refine ⟨nI p, a4, ?_⟩
      have h96 : ¬ (96 : Int32) < nI x5 := nI_nlt (a := 96) (by omega) (by omega)
      obtain ⟨r, S1, T1, b1, b2, b3, b4⟩ := it_sim hcd hen hF hO hM a1 a2 a3
      rw [m_X1_findOut_L66, if_neg h96, if_pos rfl, if_neg (m1n (by omega)), b1, some_bind', a6, nI_1]
      have e4 : S1 20 4 = nI fi := by rw [b2.2.1 4 (by omega) (by omega)]; exact o4
      have e5 : S1 20 5 = nI en := by rw [b2.2.1 5 (by omega) (by omega)]; exact o5
      rcases b4 with ⟨rfl, c1, c2, c3, c4⟩ | ⟨k, k1, k2, rfl, c1⟩
      · have hcn : cnt (S1 3) fi (en + 1 - fi) = m := by
          have := cnt_set (f := S 3) (g := S1 3) (a := fi) (en + 1 - fi) (p - fi) (by omega) (by rw [show fi + (p - fi) = p by omega, a3]; exact i12) (by rw [show fi + (p - fi) = p by omega]; exact c3) (fun j _ hj => c4 _ (by omega))
          omega
        obtain ⟨v, d1, r, S2, T2, d2, d3, d4, d5, d6⟩ := ih f g (x5 + 1) S1 T1 (hcd.i b2 b3) hen (hF.i b2 b3) (hO.i b2 b3) c2 hcn (by omega) (by omega) (by omega)
        refine ⟨r, S2, T2, ?_, ?_, b2.trans d4, b3.trans d5, d6⟩
        · rw [d1, some_bind']; exact d2
        · have := c1 g
          simp only at this
          rw [this]; exact d3
      · obtain ⟨v, d1⟩ := lo_any o2 e5 (en + 1 - fi) fi 10000 (by omega) (by omega)
        have d1' : m_X1_lowestToLookAt S1 = some (v, S1) := by unfold m_X1_lowestToLookAt; rw [e4]; exact d1
        have kz : ¬ nI k = 0 := nI_ne0 (by omega) (by omega)
        obtain ⟨f', rfl⟩ : ∃ f', f = f' + 1 := ⟨f - 1, by omega⟩
        refine ⟨nI k, S1, T1, ?_, ?_, b2, b3, Or.inr ⟨k, k1, k2, rfl⟩⟩
        · rw [d1', some_bind', m_X1_findOut_L66]
          simp only [if_neg kz]
          split <;> rfl
        · have := c1 g
          simp only at this
          exact this
    · refine ⟨-1, a1, 0, S, T, ?_, a2, FI.refl _ _ _, GI.refl _, Or.inl ⟨rfl, hM⟩⟩
      rw [m_X1_findOut_L66]
      split
      · rfl
      · rfl
theorem fg_eq {en : Nat} (he : en ≤ 96) : ∀ (d q F : Nat) (S : St), q + d = en + 1 → d < F → S 20 5 = nI en → ∃ S1 : St, m_X1_forget_L5 F (nI q) S = some (0, S1) ∧ (∀ k, k ≠ 3 → k ≠ 4 → S1 k = S k) ∧ (∀ p, q ≤ p → p ≤ en → S1 3 p = 0 ∧ S1 4 p = 0) ∧ ∀ p, (p < q ∨ en < p) → S1 3 p = S 3 p ∧ S1 4 p = S 4 p := by
  intro d
  induction d with
  | zero =>
    intro q F S hq hF e5
    obtain ⟨f, rfl⟩ : ∃ f, F = f + 1 := ⟨F - 1, by omega⟩
    refine ⟨S, ?_, fun _ _ _ => rfl, fun p h1 h2 => absurd h1 (by omega), fun _ _ => ⟨rfl, rfl⟩⟩
    rw [m_X1_forget_L5, e5, if_pos (nI_lt (by omega) (by omega))]
  | succ d ih =>
    intro q F S hq hF e5
    obtain ⟨f, rfl⟩ : ∃ f, F = f + 1 := ⟨F - 1, by omega⟩
    have j1 : inb (nI q) 97 = true := inb_nI (by omega) (by omega)
    obtain ⟨S1, a1, a2, a3, a4⟩ := ih (q + 1) f (st (st S 3 q 0) 4 q 0) (by omega) (by omega) (by rw [st_row _ _ _ _ (by omega), st_row _ _ _ _ (by omega)]; exact e5)
    refine ⟨S1, ?_, fun k h3 h4 => by rw [a2 k h3 h4, st_ne _ _ _ h4, st_ne _ _ _ h3], fun p h1 h2 => ?_, fun p hp => ?_⟩
    · rw [m_X1_forget_L5, e5, if_neg (nI_nlt (by omega) (by omega)), if_pos j1, if_pos j1, nI_cl (by omega), nI_1]; exact a1
    · by_cases e : p = q
      · subst e
        rw [(a4 p (by omega)).1, (a4 p (by omega)).2, st_rd, st_row _ _ _ _ (by omega), st_rd]
        exact ⟨rfl, rfl⟩
      · exact a3 p (by omega) h2
    · rw [(a4 p (by omega)).1, (a4 p (by omega)).2, st_row _ _ _ _ (by omega), st_col _ _ _ (by omega), st_col _ _ _ (by omega), st_row _ _ _ _ (by omega)]
      exact ⟨rfl, rfl⟩
theorem bg_sim {n i fi en : Nat} {c : Nat → Nat} (hi : i < 5) (he : en ≤ 96) (hen : en ≤ n) : ∀ (d x F G z : Nat) (S T : St), x + d = en → d + 1 < F → d < G → fi ≤ x → 1 ≤ z → z ≤ 3 → CD S T n c → S 20 5 = nI en → T 5 i = nI en → (∀ q, fi ≤ q → q < en → q ≠ x → S 4 q = T 8 q) → T 8 x = 1 → ∃ S1 T1 : St, m_X1_markBegins_L7 F (nI x) (nI z) S = some (0, S1) ∧ m_X9_findOut_L14 G (nI i) (nI x) T = m_X9_findOut_L59 10000 (nI i) 1 (st T1 9 0 1) ∧ (∀ k, k ≠ 4 → S1 k = S k) ∧ (∀ k, k ≠ 8 → T1 k = T k) ∧ ∀ q, fi ≤ q → q < en → S1 4 q = T1 8 q := by
  have oi : inb (nI i) 5 = true := inb_nI hi (by omega)
  have ci : (nI i).toNatClampNeg = i := nI_cl (by omega)
  intro d
  induction d using Nat.strongRecOn with
  | _ d ih =>
    intro x F G z S T hx hF hG hfi hz1 hz3 hcd e5 t5 hq hx8
    obtain ⟨f, rfl⟩ : ∃ f, F = f + 1 := ⟨F - 1, by omega⟩
    obtain ⟨g, rfl⟩ : ∃ g, G = g + 1 := ⟨G - 1, by omega⟩
    have stop : m_X9_isWhole (nI x) (nI en) T = some (0, T) → m_X9_findOut_L14 (g + 1) (nI i) (nI x) T = m_X9_findOut_L59 10000 (nI i) 1 (st T 9 0 1) := by
      intro h
      rw [m_X9_findOut_L14, if_pos oi, ci, t5, h, some_bind']
      simp only [if_true, if_pos y50, n50]
    by_cases hd : x = en
    · refine ⟨S, T, ?_, stop ?_, fun _ _ => rfl, fun _ _ => rfl, fun q h1 h2 => hq q h1 h2 (by omega)⟩
      · rw [m_X1_markBegins_L7, e5, if_pos (nI_le (by omega) (by omega))]
      · unfold m_X9_isWhole
        rw [if_neg (nI_pos (by omega)), if_neg (show ¬ nI x < nI en from nI_nlt (by omega) (by omega))]; rfl
    · have hlt : x < en := by omega
      obtain ⟨S', hS'⟩ : ∃ S', S' = st S 4 x 1 := ⟨_, rfl⟩
      have s20 : S' 20 = S 20 := by rw [hS', st_ne _ _ _ (by omega)]
      have s4 : ∀ q, fi ≤ q → q < en → S' 4 q = T 8 q := by
        intro q h1 h2
        by_cases e : q = x
        · subst e; rw [hS', st_rd, hx8]
        · rw [hS', st_col _ _ _ e]; exact hq q h1 h2 e
      have hcd' : CD S' T n c := by
        obtain ⟨w1, w2, w3, w4⟩ := hcd
        exact ⟨w1, by rw [s20]; exact w2, w3, fun j => by rw [hS', st_ne _ _ _ (by omega)]; exact w4 j⟩
      have j1 : inb (nI x) 97 = true := inb_nI (by omega) (by omega)
      have k1 : (nI x).toNatClampNeg = x := nI_cl (by omega)
      have zp : ¬ nI z ≤ 0 := nI_nle (by omega) (by omega)
      have hc : m_X1_markBegins_L7 (f + 1) (nI x) (nI z) S = m_X1_markBegins_L7 f (nI (x + wh c x en)) (nI (wh c x en)) S' := by
        rw [m_X1_markBegins_L7, e5, if_neg (nI_ge hlt (by omega)), if_neg zp, if_pos j1, k1, ← hS', s20, e5, wsz_eq hcd' hlt hen, some_bind', nI_add]
      rw [hc]
      by_cases hwh : c x < 16 ∧ x + szN (c x) ≤ en ∧ (rgN (c x) = true → c (x + 1) < 3)
      · have hws : wh c x en = szN (c x) := if_pos hwh
        obtain ⟨h16, hz, hrg⟩ := hwh
        have hsz : 1 ≤ szN (c x) ∧ szN (c x) ≤ 3 := by
          rcases lt16 h16 with h | h | h | h | h | h | h | h | h | h | h | h | h | h | h | h <;> rw [h] <;> decide
        have nz : ¬ szN (c x) = 0 := by omega
        obtain ⟨T', hT'⟩ : ∃ T', T' = st T 8 (x + szN (c x)) 1 := ⟨_, rfl⟩
        have hr : m_X9_findOut_L14 (g + 1) (nI i) (nI x) T = m_X9_findOut_L14 g (nI i) (nI (x + szN (c x))) T' := by
          rw [m_X9_findOut_L14, if_pos oi, ci, t5, isw_eq hcd hlt hen, some_bind', hws]
          simp only [if_neg nz, if_neg i10, if_pos (inb_nI (show x < 96 by omega) (show 96 < 2 ^ 31 by omega)), k1, (hcd.2.2.2 x).2.1, len_eq (show c x < 256 by omega), some_bind', nI_add, if_pos (inb_nI (show x + szN (c x) < 97 by omega) (show 97 < 2 ^ 31 by omega)), nI_cl (show x + szN (c x) < 2 ^ 31 by omega), ← hT']
        rw [hr, hws]
        obtain ⟨S1, T1, w1, w2, w3, w4, w5⟩ := ih (d - szN (c x)) (by omega) (x + szN (c x)) f g (szN (c x)) S' T' (by omega) (by omega) (by omega) (by omega) hsz.1 hsz.2 (by
          obtain ⟨v1, v2, v3, v4⟩ := hcd'
          exact ⟨v1, v2, by rw [hT', st_ne _ _ _ (by omega)]; exact v3, fun j => by rw [hT', st_ne _ _ _ (by omega)]; exact v4 j⟩) (by rw [s20]; exact e5) (by rw [hT', st_ne _ _ _ (by omega)]; exact t5) (fun q h1 h2 h3 => by rw [hT', st_col _ _ _ h3]; exact s4 q h1 h2) (by rw [hT', st_rd])
        exact ⟨S1, T1, w1, w2, fun k hk => by rw [w3 k hk, hS', st_ne _ _ _ hk], fun k hk => by rw [w4 k hk, hT', st_ne _ _ _ hk], w5⟩
      · have hws : wh c x en = 0 := if_neg hwh
        refine ⟨S', T, ?_, stop ?_, fun k hk => by rw [hS', st_ne _ _ _ hk], fun _ _ => rfl, s4⟩
        · obtain ⟨f', rfl⟩ : ∃ f', f = f' + 1 := ⟨f - 1, by omega⟩
          rw [hws, m_X1_markBegins_L7, s20, e5, if_neg (show ¬ nI en ≤ nI (x + 0) from nI_ge (by omega) (by omega)), if_pos (show nI 0 ≤ 0 by decide)]
        · rw [isw_eq hcd hlt hen, hws]; rfl
def FK (fi en : Nat) (S S1 : St) : Prop := (∀ k, k ≠ 3 → k ≠ 4 → k ≠ 5 → k ≠ 6 → k ≠ 20 → S1 k = S k) ∧ (∀ j, j ≠ 2 → j ≠ 3 → j ≠ 4 → j ≠ 5 → S1 20 j = S 20 j) ∧ (∀ q, (q < fi ∨ en < q) → S1 3 q = S 3 q) ∧ ∀ j, (j < 5 * fi ∨ 5 * en + 5 ≤ j) → S1 5 j = S 5 j
def GK (T T1 : St) : Prop := ∀ k, k ≠ 6 → k ≠ 7 → k ≠ 8 → k ≠ 9 → T1 k = T k
theorem fo_sim {S T : St} {n i fi en : Nat} {c : Nat → Nat} (hcd : CD S T n c) (hF : RF S T) (hi : i < 5) (t4 : T 4 i = nI fi) (t5 : T 5 i = nI en) (hfe : fi < en) (he : en ≤ 96) (hen : en ≤ n) (h6 : ∀ j, j < 485 → T 6 j = 0) (h7 : ∀ q, q < 97 → T 7 q = 0) (h8 : ∀ q, q < 97 → T 8 q = 0) : ∃ (r : Int32) (S1 T1 : St), m_X1_findOut (nI fi) (nI en) S = some (r, S1) ∧ m_X9_findOut (nI i) T = some (r, T1) ∧ FK fi en S S1 ∧ GK T T1 ∧ ((r = 0 ∧ ∀ q, fi ≤ q → q ≤ en → MK S1 T1 q) ∨ ∃ k : Nat, 1 ≤ k ∧ k ≤ 2000 ∧ r = nI k) := by
  have oi : inb (nI i) 5 = true := inb_nI hi (by omega)
  have ci : (nI i).toNatClampNeg = i := nI_cl (by omega)
  obtain ⟨S1, a1, a2, a3, a4⟩ := fg_eq he (en + 1 - fi) fi 10000 (st (st S 20 4 (nI fi)) 20 5 (nI en)) (by omega) (by omega) (by rw [st_rd])
  have s20 : ∀ j, j ≠ 4 → j ≠ 5 → S1 20 j = S 20 j := fun j h4 h5 => by rw [a2 20 (by omega) (by omega), st_col _ _ _ h5, st_col _ _ _ h4]
  have s4 : S1 20 4 = nI fi := by rw [a2 20 (by omega) (by omega), st_col _ _ _ (by omega), st_rd]
  have s5 : S1 20 5 = nI en := by rw [a2 20 (by omega) (by omega), st_rd]
  have sk : ∀ k, k ≠ 3 → k ≠ 4 → k ≠ 20 → S1 k = S k := fun k h3 h4 h20 => by rw [a2 k h3 h4, st_ne _ _ _ h20, st_ne _ _ _ h20]
  obtain ⟨T', hT'⟩ : ∃ T', T' = st T 8 fi 1 := ⟨_, rfl⟩
  have tk : ∀ k, k ≠ 8 → T' k = T k := fun k hk => by rw [hT', st_ne _ _ _ hk]
  have hcd1 : CD S1 T' n c := by
    obtain ⟨w1, w2, w3, w4⟩ := hcd
    exact ⟨w1, by rw [s20 0 (by omega) (by omega)]; exact w2, by rw [tk 30 (by omega)]; exact w3, fun j => by rw [sk 0 (by omega) (by omega) (by omega), tk 1 (by omega)]; exact w4 j⟩
  obtain ⟨S2, T2, b1, b2, b3, b4, b5⟩ := bg_sim (fi := fi) hi he hen (en - fi) fi 10000 10000 1 S1 T' (by omega) (by omega) (by omega) (Nat.le_refl _) (by omega) (by omega) hcd1 s5 (by rw [tk 5 (by omega)]; exact t5) (fun q h1 h2 h3 => by
    rw [(a3 q h1 (by omega)).2, hT', st_col _ _ _ h3, h8 q (by omega)]) (by rw [hT', st_rd])
  have c1 : m_X1_findOut (nI fi) (nI en) S = m_X1_findOut_L30 10000 0 (st (st S2 20 2 1) 20 3 0) := by
    unfold m_X1_findOut m_X1_forget m_X1_markBegins
    rw [st_col _ 20 _ (show (4 : Nat) ≠ 5 by omega), st_rd, a1, some_bind']
    have b1' : m_X1_markBegins_L7 10000 (S1 20 4) 1 S1 = some (0, S2) := by rw [s4]; exact b1
    simp only [b1', some_bind']
  have r1 : m_X9_findOut (nI i) T = m_X9_findOut_L59 10000 (nI i) 1 (st T2 9 0 1) := by
    unfold m_X9_findOut
    rw [if_pos oi, ci, t4, if_pos (inb_nI (show fi < 97 by omega) (by omega)), nI_cl (by omega), ← hT', b2]
  obtain ⟨S3, hS3⟩ : ∃ S3, S3 = st (st (st (st (st S2 20 2 1) 20 3 0) 6 0 0) 6 1 0) 6 2 0 := ⟨_, rfl⟩
  obtain ⟨T3, hT3⟩ : ∃ T3, T3 = st (st (st (st (st T2 9 0 1) 9 1 0) 9 2 0) 9 3 0) 9 4 0 := ⟨_, rfl⟩
  have c2 : m_X1_findOut_L30 10000 0 (st (st S2 20 2 1) 20 3 0) = (m_X1_learn (S3 20 4) S3).bind fun r3 => (m_X1_lowestToLookAt r3.2).bind fun r4 => m_X1_findOut_L66 10000 r3.1 r4.1 (0 : Int32) r4.2 := by
    have : ∀ F (U : St), 4 ≤ F → m_X1_findOut_L30 F 0 U = (m_X1_learn ((st (st (st U 6 0 0) 6 1 0) 6 2 0) 20 4) (st (st (st U 6 0 0) 6 1 0) 6 2 0)).bind fun r3 => (m_X1_lowestToLookAt r3.2).bind fun r4 => m_X1_findOut_L66 10000 r3.1 r4.1 (0 : Int32) r4.2 := by
      intro F U hF
      obtain ⟨f, rfl⟩ : ∃ f, F = f + 4 := ⟨F - 4, by omega⟩
      rw [m_X1_findOut_L30, if_neg (by decide), if_pos (by decide), n50]
      rw [m_X1_findOut_L30, if_neg (by decide), if_pos (by decide), show (0 + 1 : Int32).toNatClampNeg = 1 by decide]
      rw [m_X1_findOut_L30, if_neg (by decide), if_pos (by decide), show (0 + 1 + 1 : Int32).toNatClampNeg = 2 by decide]
      rw [m_X1_findOut_L30, if_pos (by decide)]
    rw [this 10000 _ (by omega), ← hS3]
  have r2 : m_X9_findOut_L59 10000 (nI i) 1 (st T2 9 0 1) = (m_X9_learn (T3 4 i) T3).bind fun r3 => m_X9_findOut_L96 10000 (nI i) (r3.2 4 i) r3.2 := by
    have : ∀ F (U : St), 5 ≤ F → m_X9_findOut_L59 F (nI i) 1 U = (m_X9_learn ((st (st (st (st U 9 1 0) 9 2 0) 9 3 0) 9 4 0) 4 i) (st (st (st (st U 9 1 0) 9 2 0) 9 3 0) 9 4 0)).bind fun r3 => m_X9_findOut_L96 10000 (nI i) (r3.2 4 i) r3.2 := by
      intro F U hF
      obtain ⟨f, rfl⟩ : ∃ f, F = f + 5 := ⟨F - 5, by omega⟩
      rw [m_X9_findOut_L59, if_neg (by decide), if_pos (by decide), n51]
      rw [m_X9_findOut_L59, if_neg (by decide), if_pos (by decide), show (1 + 1 : Int32).toNatClampNeg = 2 by decide]
      rw [m_X9_findOut_L59, if_neg (by decide), if_pos (by decide), show (1 + 1 + 1 : Int32).toNatClampNeg = 3 by decide]
      rw [m_X9_findOut_L59, if_neg (by decide), if_pos (by decide), show (1 + 1 + 1 + 1 : Int32).toNatClampNeg = 4 by decide]
      rw [m_X9_findOut_L59, if_pos (by decide), if_pos oi, ci]
      simp only [if_pos oi]
    rw [this 10000 _ (by omega), ← hT3]
  have S3k : ∀ k, k ≠ 6 → k ≠ 20 → S3 k = S2 k := fun k h6 h20 => by rw [hS3, st_ne _ _ _ h6, st_ne _ _ _ h6, st_ne _ _ _ h6, st_ne _ _ _ h20, st_ne _ _ _ h20]
  have S3j : ∀ j, j ≠ 2 → j ≠ 3 → S3 20 j = S1 20 j := fun j h2 h3 => by rw [hS3, st_row _ _ _ _ (by omega), st_row _ _ _ _ (by omega), st_row _ _ _ _ (by omega), st_col _ _ _ h3, st_col _ _ _ h2, b3 20 (by omega)]
  have T3k : ∀ k, k ≠ 9 → T3 k = T2 k := fun k h9 => by rw [hT3, st_ne _ _ _ h9, st_ne _ _ _ h9, st_ne _ _ _ h9, st_ne _ _ _ h9, st_ne _ _ _ h9]
  have T3T : ∀ k, k ≠ 8 → k ≠ 9 → T3 k = T k := fun k h8 h9 => by rw [T3k k h9, b4 k h8, tk k h8]
  have S3S : ∀ k, k ≠ 3 → k ≠ 4 → k ≠ 6 → k ≠ 20 → S3 k = S k := fun k h3 h4 h6 h20 => by rw [S3k k h6 h20, b3 k h4, sk k h3 h4 h20]
  have S33 : S3 3 = S1 3 := by rw [S3k 3 (by omega) (by omega), b3 3 (by omega)]
  have S3jS : ∀ j, j ≠ 2 → j ≠ 3 → j ≠ 4 → j ≠ 5 → S3 20 j = S 20 j := fun j h2 h3 h4 h5 => by rw [S3j j h2 h3, s20 j h4 h5]
  have hw : NW S3 T3 1 0 (fun _ => 0) := by
    refine ⟨?_, ?_, ?_, ?_, fun r hr => ?_⟩
    · rw [hS3]; simp [st_at]; rfl
    · rw [hT3]; simp [st_at]; rfl
    · rw [hS3]; simp [st_at]; rfl
    · rw [hT3]; simp [st_at]; rfl
    · rcases (show r = 0 ∨ r = 1 ∨ r = 2 by omega) with rfl | rfl | rfl
      · rw [hS3, hT3]; simp [st_at]; rfl
      · rw [hS3, hT3]; simp [st_at]; rfl
      · rw [hS3, hT3]; simp [st_at]; rfl
  have hb : NB 1 0 (fun _ => 0) := ⟨by omega, by omega, by omega, fun _ _ => Nat.zero_le 30⟩
  have hM3 : ∀ q, fi ≤ q → q ≤ en → S3 3 q = 0 ∧ T3 6 (5 * q) = 0 ∧ T3 7 q = 0 := fun q q1 q2 => ⟨by rw [S33]; exact (a3 q q1 q2).1, by rw [T3T 6 (by omega) (by omega)]; exact h6 _ (by omega), by rw [T3T 7 (by omega) (by omega)]; exact h7 _ (by omega)⟩
  obtain ⟨m1, m2, m3⟩ := hM3 fi (Nat.le_refl _) (by omega)
  obtain ⟨S4, T4, l1, l2, l3, l4, l5⟩ := learn_new (show fi ≤ 96 by omega) m1 m2 m3 hw hb
  have hO3 : FO S3 T3 i fi en := ⟨hi, he, hfe, by rw [S3j 4 (by omega) (by omega)]; exact s4, by rw [S3j 5 (by omega) (by omega)]; exact s5, by rw [T3T 4 (by omega) (by omega)]; exact t4, by rw [T3T 5 (by omega) (by omega)]; exact t5, fun q h1 h2 => by rw [S3k 4 (by omega) (by omega), T3k 8 (by omega)]; exact b5 q h1 h2⟩
  have hcd3 : CD S3 T3 n c := by
    obtain ⟨w1, w2, w3, w4⟩ := hcd
    exact ⟨w1, by rw [S3jS 0 (by omega) (by omega) (by omega) (by omega)]; exact w2, by rw [T3T 30 (by omega) (by omega)]; exact w3, fun j => by rw [S3S 0 (by omega) (by omega) (by omega) (by omega), T3T 1 (by omega) (by omega)]; exact w4 j⟩
  have hF3 : RF S3 T3 := hF.congr (by rw [S3jS 0 (by omega) (by omega) (by omega) (by omega)]; exact Int32.le_refl _) (S3jS 1 (by omega) (by omega) (by omega) (by omega)) (S3S 1 (by omega) (by omega) (by omega) (by omega)) (S3S 2 (by omega) (by omega) (by omega) (by omega)) (by rw [T3T 30 (by omega) (by omega)]) (T3T 4 (by omega) (by omega)) (T3T 5 (by omega) (by omega))
  have f4 : FI fi en S3 S4 := l4.i (Nat.le_refl _) (by omega)
  have hM4 : ∀ q, fi ≤ q → q ≤ en → MK S4 T4 q := fun q q1 q2 => MK.l (fun q' h1 h2 => by rw [show q' = fi by omega]; exact l3) l4 l5 (Or.inl (hM3 q q1 q2))
  have cl := cnt_le (S4 3) fi (en + 1 - fi)
  obtain ⟨v, d1, r, S5, T5, d2, d3, d4, d5, d6⟩ := fo_loop (cnt (S4 3) fi (en + 1 - fi)) 10000 10000 0 S4 T4 (hcd3.i f4 l5.i) hen (hF3.i f4 l5.i) (hO3.i f4 l5.i) hM4 rfl (by omega) (by omega) (by omega)
  have f5 := f4.trans d4
  have g5 := l5.i.trans d5
  refine ⟨r, S5, T5, ?_, ?_, ⟨fun k h3 h4 h5 h6 h20 => ?_, fun j h2 h3 h4 h5 => ?_, fun q hq => ?_, fun j hj => ?_⟩, fun k h6 h7 h8 h9 => ?_, d6⟩
  · rw [c1, c2, hO3.2.2.2.1, l1, some_bind']
    simp only [d1, some_bind']
    exact d2
  · rw [r1, r2, hO3.2.2.2.2.2.1, l2, some_bind']
    have : T4 4 i = nI fi := (hO3.i f4 l5.i).2.2.2.2.2.1
    simp only [this]
    exact d3
  · rw [f5.1 k h3 h5 h6 h20, S3S k h3 h4 h6 h20]
  · rw [f5.2.1 j h2 h3, S3jS j h2 h3 h4 h5]
  · rw [f5.2.2.1 q hq, S33, (a4 q hq).1, st_row _ _ _ _ (by omega), st_row _ _ _ _ (by omega)]
  · rw [f5.2.2.2 j hj, S3S 5 (by omega) (by omega) (by omega) (by omega)]
  · rw [g5 k h6 h7 h9, T3T k h8 h9]
