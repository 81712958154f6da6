/-- the check for overlap: both sides alike -/
theorem chk_sim {S T : St} {z0 z1 : Int32} {k : Nat} (hk : k ≤ 5) (ek : S 20 1 = nI k) (e1 : S 20 1 = T 30 3) (e2 : S 1 = T 4) (e3 : S 2 = T 5) : ∀ (d i fu fv : Nat), i + d = k → d < fu → d < fv →
    (m_X4_addFunction_L29 fu z0 z1 (nI i) S = some (-1, S) ∧ m_X9_function_L34 fv z0 z1 (nI i) T = some (-1, T)) ∨
    (m_X4_addFunction_L29 fu z0 z1 (nI i) S = (m_X4_insertFunction z0 z1 S).bind (fun r1 => some ((r1.2 20 1), r1.2)) ∧ m_X9_function_L34 fv z0 z1 (nI i) T = (m_X9_over T).bind (fun r1 => m_X9_function_L79 10000 z0 z1 (r1.2 30 3) r1.2) ∧ ∀ j, i ≤ j → j < k → (S 2 j ≤ z0 ∨ z1 ≤ S 1 j)) := by
  intro d
  induction d with
  | zero =>
    intro i fu fv hi hfu hfv
    obtain ⟨f, rfl⟩ : ∃ f, fu = f + 1 := ⟨fu - 1, by omega⟩
    obtain ⟨g, rfl⟩ : ∃ g, fv = g + 1 := ⟨fv - 1, by omega⟩
    have h : S 20 1 ≤ nI i := by rw [ek]; exact nI_le (by omega) (by omega)
    have h' : T 30 3 ≤ nI i := by rw [← e1]; exact h
    rw [m_X4_addFunction_L29, m_X9_function_L34, if_pos h, if_pos h']
    exact Or.inr ⟨rfl, rfl, fun j h1 h2 => absurd h2 (by omega)⟩
  | succ d ih =>
    intro i fu fv hi hfu hfv
    obtain ⟨f, rfl⟩ : ∃ f, fu = f + 1 := ⟨fu - 1, by omega⟩
    obtain ⟨g, rfl⟩ : ∃ g, fv = g + 1 := ⟨fv - 1, by omega⟩
    have h : ¬ S 20 1 ≤ nI i := by rw [ek]; exact nI_ge (by omega) (by omega)
    have hb : inb (nI i) 5 = true := inb_nI (by omega) (by omega)
    have h' : ¬ T 30 3 ≤ nI i := by rw [← e1]; exact h
    rw [m_X4_addFunction_L29, m_X9_function_L34, if_neg h, if_neg h']
    simp only [if_pos hb, nI_cl (show i < 2 ^ 31 by omega), ← e2, ← e3, nI_1]
    by_cases c1 : S 2 i ≤ z0
    · simp only [if_pos c1]
      rcases ih (i + 1) f g (by omega) (by omega) (by omega) with ⟨a, b⟩ | ⟨a, b, cc⟩
      · exact Or.inl ⟨a, b⟩
      · refine Or.inr ⟨a, b, fun j h1 h2 => ?_⟩
        by_cases hj : j = i
        · subst hj; exact Or.inl c1
        · exact cc j (by omega) h2
    · simp only [if_neg c1]
      by_cases c2 : z1 ≤ S 1 i
      · simp only [if_pos c2]
        rcases ih (i + 1) f g (by omega) (by omega) (by omega) with ⟨a, b⟩ | ⟨a, b, cc⟩
        · exact Or.inl ⟨a, b⟩
        · refine Or.inr ⟨a, b, fun j h1 h2 => ?_⟩
          by_cases hj : j = i
          · subst hj; exact Or.inr c2
          · exact cc j (by omega) h2
      · simp only [if_neg c2]
        exact Or.inl ⟨trivial, trivial⟩
/-- the insertion: both sides alike; p is where it comes to stand -/
theorem ins_sim {z0 z1 : Int32} {k : Nat} (hk : k < 5) : ∀ (p fu fv : Nat) (S T : St), p ≤ k → p < fu → p < fv → S 1 = T 4 → S 2 = T 5 → S 20 1 = nI k → T 30 3 = nI k →
    ∃ (q : Nat) (S1 T1 : St), m_X4_insertFunction_L5 fu z0 z1 (nI p) S = some (0, S1) ∧ m_X9_function_L79 fv z0 z1 (nI p) T = some (nI (k + 1), T1) ∧ q ≤ p ∧ (q = 0 ∨ S 1 (q - 1) ≤ z0) ∧ (∀ j, q ≤ j → j < p → ¬ S 1 j ≤ z0) ∧
      S1 1 = T1 4 ∧ S1 2 = T1 5 ∧ S1 20 1 = nI (k + 1) ∧ T1 30 3 = nI (k + 1) ∧ (∀ j, j < q → S1 1 j = S 1 j ∧ S1 2 j = S 2 j) ∧ (S1 1 q = z0 ∧ S1 2 q = z1) ∧ (∀ j, q < j → j ≤ p → S1 1 j = S 1 (j - 1) ∧ S1 2 j = S 2 (j - 1)) ∧ (∀ j, p < j → S1 1 j = S 1 j ∧ S1 2 j = S 2 j) ∧
      (∀ r, r ≠ 1 → r ≠ 2 → r ≠ 20 → S1 r = S r) ∧ (∀ j, j ≠ 1 → S1 20 j = S 20 j) ∧ (∀ r, r ≠ 4 → r ≠ 5 → r ≠ 30 → T1 r = T r) ∧ (∀ j, j ≠ 3 → T1 30 j = T 30 j) := by
  intro p
  induction p with
  | zero =>
    intro fu fv S T hp hfu hfv e1 e2 ek et
    obtain ⟨f, rfl⟩ : ∃ f, fu = f + 1 := ⟨fu - 1, by omega⟩
    obtain ⟨g, rfl⟩ : ∃ g, fv = g + 1 := ⟨fv - 1, by omega⟩
    have h0 : nI 0 ≤ 0 := by decide
    have hb : inb (nI 0) 5 = true := by decide
    have hc : (nI 0).toNatClampNeg = 0 := by decide
    rw [m_X4_insertFunction_L5, m_X9_function_L79, if_pos h0, if_pos h0, m_X4_insertFunction_L55, m_X9_function_L129, if_pos hb, if_pos hb, if_pos hb, if_pos hb, hc]
    have a1 : (st (st S 1 0 z0) 2 0 z1) 20 1 = nI k := by simp [st_at, ek]
    have a2 : (st (st T 4 0 z0) 5 0 z1) 30 3 = nI k := by simp [st_at, et]
    rw [a1, a2, nI_1]
    refine ⟨0, st (st (st S 1 0 z0) 2 0 z1) 20 1 (nI (k + 1)), st (st (st T 4 0 z0) 5 0 z1) 30 3 (nI (k + 1)), rfl, by simp [st_at], Nat.le_refl _, Or.inl rfl, fun j h1 h2 => absurd h2 (by omega), ?_, ?_, by simp [st_at], by simp [st_at], fun j h => absurd h (by omega), by simp [st_at], fun j h1 h2 => absurd h1 (by omega), fun j h => ?_, fun r h1 h2 h3 => by simp [st, h1, h2, h3], fun j h1 => by simp [st_at, h1], fun r h1 h2 h3 => by simp [st, h1, h2, h3], fun j h1 => by simp [st_at, h1]⟩
    · funext i; simp [st_at, e1]
    · funext i; simp [st_at, e2]
    · have : j ≠ 0 := by omega
      simp [st_at, this]
  | succ p ih =>
    intro fu fv S T hp hfu hfv e1 e2 ek et
    obtain ⟨f, rfl⟩ : ∃ f, fu = f + 1 := ⟨fu - 1, by omega⟩
    obtain ⟨g, rfl⟩ : ∃ g, fv = g + 1 := ⟨fv - 1, by omega⟩
    have h0 : ¬ nI (p + 1) ≤ 0 := nI_nle (by omega) (by omega)
    have hm : nI (p + 1) - 1 = nI p := nI_pred p
    have hb : inb (nI p) 5 = true := inb_nI (by omega) (by omega)
    have hb1 : inb (nI (p + 1)) 5 = true := inb_nI (by omega) (by omega)
    rw [m_X4_insertFunction_L5, m_X9_function_L79, if_neg h0, if_neg h0, hm]
    simp only [if_pos hb, if_pos hb1, nI_cl (show p < 2 ^ 31 by omega), nI_cl (show p + 1 < 2 ^ 31 by omega), ← e1, pk_m1]
    by_cases c : S 1 p ≤ z0
    · simp only [if_pos c, m_X4_insertFunction_L55, m_X9_function_L129, if_pos hb1, nI_cl (show p + 1 < 2 ^ 31 by omega)]
      have a1 : (st (st S 1 (p + 1) z0) 2 (p + 1) z1) 20 1 = nI k := by simp [st_at, ek]
      have a2 : (st (st T 4 (p + 1) z0) 5 (p + 1) z1) 30 3 = nI k := by simp [st_at, et]
      rw [a1, a2, nI_1]
      refine ⟨p + 1, st (st (st S 1 (p + 1) z0) 2 (p + 1) z1) 20 1 (nI (k + 1)), st (st (st T 4 (p + 1) z0) 5 (p + 1) z1) 30 3 (nI (k + 1)), rfl, by simp [st_at], Nat.le_refl _, Or.inr (by simpa using c), fun j h1 h2 => absurd h2 (by omega), ?_, ?_, by simp [st_at], by simp [st_at], fun j h => ?_, by simp [st_at], fun j h1 h2 => absurd h1 (by omega), fun j h => ?_, fun r h1 h2 h3 => by simp [st, h1, h2, h3], fun j h1 => by simp [st_at, h1], fun r h1 h2 h3 => by simp [st, h1, h2, h3], fun j h1 => by simp [st_at, h1]⟩
      · funext i; simp [st_at, e1]
      · funext i; simp [st_at, e2]
      · have : j ≠ p + 1 := by omega
        simp [st_at, this]
      · have : j ≠ p + 1 := by omega
        simp [st_at, this]
    · simp only [if_neg c]
      have b1 : (st S 1 (p + 1) (S 1 p)) 2 p = S 2 p := by simp [st_at]
      have b2 : (st T 4 (p + 1) (S 1 p)) 5 p = S 2 p := by simp [st_at, e2]
      rw [b1, b2]
      obtain ⟨q, S1, T1, r1, r2, r3, r4, r5, r6, r7, r8, r9, r10, r11, r12, r13, r14, r15, r16, r17⟩ := ih f g (st (st S 1 (p + 1) (S 1 p)) 2 (p + 1) (S 2 p)) (st (st T 4 (p + 1) (S 1 p)) 5 (p + 1) (S 2 p)) (by omega) (by omega) (by omega) (by funext i; simp [st_at, e1]) (by funext i; simp [st_at, e2]) (by simp [st_at, ek]) (by simp [st_at, et])
      have w1 : ∀ j, j ≠ p + 1 → (st (st S 1 (p + 1) (S 1 p)) 2 (p + 1) (S 2 p)) 1 j = S 1 j ∧ (st (st S 1 (p + 1) (S 1 p)) 2 (p + 1) (S 2 p)) 2 j = S 2 j := fun j h => by simp [st_at, h]
      have w2 : (st (st S 1 (p + 1) (S 1 p)) 2 (p + 1) (S 2 p)) 1 (p + 1) = S 1 p ∧ (st (st S 1 (p + 1) (S 1 p)) 2 (p + 1) (S 2 p)) 2 (p + 1) = S 2 p := by simp [st_at]
      refine ⟨q, S1, T1, r1, r2, by omega, ?_, fun j h1 h2 => ?_, r6, r7, r8, r9, fun j h => ?_, r11, fun j h1 h2 => ?_, fun j h => ?_, fun r h1 h2 h3 => ?_, fun j h1 => ?_, fun r h1 h2 h3 => ?_, fun j h1 => ?_⟩
      · rcases r4 with h | h
        · exact Or.inl h
        · by_cases hq : q = 0
          · exact Or.inl hq
          · exact Or.inr (by rw [← (w1 (q - 1) (by omega)).1]; exact h)
      · by_cases hj : j = p
        · subst hj; exact c
        · rw [← (w1 j (by omega)).1]; exact r5 j h1 (by omega)
      · rw [(r10 j h).1, (r10 j h).2]; exact w1 j (by omega)
      · by_cases hj : j = p + 1
        · subst hj
          rw [(r13 (p + 1) (by omega)).1, (r13 (p + 1) (by omega)).2]
          exact w2
        · rw [(r12 j h1 (by omega)).1, (r12 j h1 (by omega)).2]; exact w1 (j - 1) (by omega)
      · rw [(r13 j (by omega)).1, (r13 j (by omega)).2]; exact w1 j (by omega)
      · rw [r14 r h1 h2 h3]; simp [st, h1, h2]
      · rw [r15 j h1]; simp [st_at]
      · rw [r16 r h1 h2 h3]; simp [st, h1, h2]
      · rw [r17 j h1]; simp [st_at]
set_option maxRecDepth 100000 in
theorem sim_function (S T : St) (z0 z1 : Int32) (hR : Rel S T) : ∃ (r1 : Int32) (S1 T1 : St), m_X8_function z0 z1 S = some (r1, S1) ∧ m_X9_function z0 z1 T = some (r1, T1) ∧ Rel S1 T1 := by
  have hRt := hR.t 0
  obtain ⟨T0, hT0⟩ : ∃ T0, T0 = st T 30 0 (0 : Int32) := ⟨_, rfl⟩
  rw [← hT0] at hRt
  unfold m_X8_function m_X4_addFunction m_X9_function
  rw [← hT0]
  obtain ⟨hc, hf, hs, hm, hr⟩ := id hRt
  obtain ⟨c0, c1, ⟨n, hn, en⟩, cb⟩ := id hc
  obtain ⟨f1, f2, f3, k, hk, ek, f, g, hfg, hord⟩ := id hf
  have no : ∃ (r1 : Int32) (S1 T1 : St), (some ((-1 : Int32), S) : Option (Int32 × St)).bind (fun r1 => if r1.1 = (-1 : Int32) then some (r1.1, r1.2) else (m_X2_end r1.2).bind fun r2 => some (r1.1, r2.2)) = some (r1, S1) ∧ (some ((-1 : Int32), T0) : Option (Int32 × St)) = some (r1, T1) ∧ Rel S1 T1 := ⟨-1, S, T0, rfl, rfl, hRt⟩
  rw [← f1, ← c1]
  by_cases k5 : k = 5
  · have a1 : (5 : Int32) ≤ S 20 1 := by rw [ek, k5]; decide
    have a2 : S 20 1 = 5 := by rw [ek, k5]; rfl
    rw [if_pos a1, if_pos a2]
    exact no
  · have a1 : ¬ (5 : Int32) ≤ S 20 1 := by rw [ek]; exact nI_ge (b := 5) (by omega) (by decide)
    have a2 : ¬ S 20 1 = 5 := by rw [ek]; exact fun e => k5 ((nI_eq (by omega) (by decide)).mp (show nI k = nI 5 from e))
    rw [if_neg a1, if_neg a2]
    by_cases b0 : z0 < 0
    · rw [if_pos b0, if_pos b0]; exact no
    · rw [if_neg b0, if_neg b0]
      by_cases b1 : z1 ≤ z0
      · have b2 : ¬ z0 < z1 := by
          rw [Int32.lt_iff_toInt_lt]; rw [Int32.le_iff_toInt_le] at b1; omega
        rw [if_pos b1]
        by_cases b3 : S 20 0 < z1
        · rw [if_pos b3]; exact no
        · rw [if_neg b3, if_neg b2]; exact no
      · have b2 : z0 < z1 := by
          rw [Int32.lt_iff_toInt_lt]; rw [Int32.le_iff_toInt_le] at b1; omega
        rw [if_neg b1]
        by_cases b3 : z1 ≤ S 20 0
        · have b4 : ¬ S 20 0 < z1 := by
            rw [Int32.lt_iff_toInt_lt]; rw [Int32.le_iff_toInt_le] at b3; omega
          rw [if_pos b3, if_neg b4, if_pos b2]
          obtain ⟨a, ha31, ea⟩ := nI_of b0
          have hz1 : ¬ z1 < 0 := by
            have hz : (0 : Int32).toInt = 0 := by decide
            rw [Int32.lt_iff_toInt_lt] at b0 b2 ⊢; omega
          obtain ⟨b, hb31, eb⟩ := nI_of hz1
          have hbn : b ≤ n := by
            rw [eb, en] at b3
            exact (nI_leI hb31 (by omega)).mp b3
          have hab : a < b := by
            rw [ea, eb] at b2
            exact (nI_ltI ha31 hb31).mp b2
          generalize hF : (10000 : Nat) = F
          rcases chk_sim (z0 := z0) (z1 := z1) hk ek f1 f2 f3 k 0 F F (by omega) (by omega) (by omega) with ⟨p1, p2⟩ | ⟨p1, p2, hcl⟩
          · rw [show (0 : Int32) = nI 0 from rfl, p1, p2]
            exact no
          · rw [show (0 : Int32) = nI 0 from rfl, p1, p2]
            obtain ⟨T1, ho, hm1, t1, t2⟩ := over_sim hm
            have hi : m_X4_insertFunction z0 z1 S = m_X4_insertFunction_L5 10000 z0 z1 (S 20 1) S := rfl
            rw [ho, hi, hF]
            simp only [some_bind']
            rw [t2 3 (by omega) (by omega), ← f1, ek]
            obtain ⟨q, S1, T2, r1, r2, r3, r4, r5, r6, r7, r8, r9, r10, r11, r12, r13, r14, r15, r16, r17⟩ := ins_sim (z0 := z0) (z1 := z1) (k := k) (by omega) k F F S T1 (Nat.le_refl _) (by omega) (by omega) (by rw [t1 4 (by omega)]; exact f2) (by rw [t1 5 (by omega)]; exact f3) ek (by rw [t2 3 (by omega) (by omega), ← f1]; exact ek)
            rw [r1, r2]
            have hne : ¬ nI (k + 1) = -1 := by
              intro e
              have h1 : ¬ nI (k + 1) < 0 := nI_pos (by omega)
              rw [e] at h1
              exact h1 (by decide)
            simp only [some_bind', r8, hne, if_false, m_X2_end]
            refine ⟨_, _, _, rfl, rfl, ?_⟩
            have s1 : ∀ k, k ≠ 20 → (st (st S1 20 11 0) 20 12 255) k = S1 k := fun k hk => by simp [st, hk]
            have s2 : ∀ j, j ≠ 11 → j ≠ 12 → (st (st S1 20 11 0) 20 12 255) 20 j = S1 20 j := fun j h1 h2 => by simp [st_at, h1, h2]
            have s3 : ∀ k, k ≠ 20 → (st (st S 20 11 0) 20 12 255) k = S k := fun k hk => by simp [st, hk]
            have s4 : ∀ j, j ≠ 11 → j ≠ 12 → (st (st S 20 11 0) 20 12 255) 20 j = S 20 j := fun j h1 h2 => by simp [st_at, h1, h2]
            refine ⟨hc.congr ?_ ?_ ?_ ?_, ⟨?_, ?_, ?_, k + 1, by omega, ?_, fun j => if j < q then f j else if j = q then a else f (j - 1), fun j => if j < q then g j else if j = q then b else g (j - 1), fun j hj => ?_, fun j hj => ?_⟩, hs.congr ?_ ?_ ?_ ?_, hm1.congr (fun k h1 h2 => ?_) (fun j h1 h2 => ?_) (fun k h1 h2 => ?_) (fun j h1 h2 => ?_), hr.congr ?_ ?_ ?_ ?_⟩
            · rw [s1 0 (by omega), r14 0 (by omega) (by omega) (by omega)]
            · rw [s2 0 (by omega) (by omega), r15 0 (by omega)]
            · rw [r16 1 (by omega) (by omega) (by omega), t1 1 (by omega)]
            · rw [r17 2 (by omega), t2 2 (by omega) (by omega)]
            · rw [s2 1 (by omega) (by omega), r8, r9]
            · rw [s1 1 (by omega), r6]
            · rw [s1 2 (by omega), r7]
            · rw [s2 1 (by omega) (by omega), r8]
            · rw [s1 1 (by omega), s1 2 (by omega), s2 0 (by omega) (by omega), r15 0 (by omega)]
              by_cases j1 : j < q
              · obtain ⟨u1, u2, u3, u4, u5⟩ := hfg j (by omega)
                simp only [j1, if_true]
                exact ⟨(r10 j j1).1.trans u1, (r10 j j1).2.trans u2, u3, u4, u5⟩
              · by_cases j2 : j = q
                · subst j2
                  simp only [j1, if_false, if_true]
                  refine ⟨r11.1.trans ea, r11.2.trans eb, hab, by omega, ?_⟩
                  rw [← eb]; exact b3
                · obtain ⟨u1, u2, u3, u4, u5⟩ := hfg (j - 1) (by omega)
                  simp only [j1, j2, if_false]
                  exact ⟨(r12 j (by omega) (by omega)).1.trans u1, (r12 j (by omega) (by omega)).2.trans u2, u3, u4, u5⟩
            · -- the order
              have lo : ∀ i, i < q → g i ≤ a := by
                intro i hi
                have hq0 : q ≠ 0 := by omega
                have hle : f (q - 1) ≤ a := by
                  have := r4.resolve_left hq0
                  rw [(hfg (q - 1) (by omega)).1, ea] at this
                  exact (nI_leI (by have := (hfg (q - 1) (by omega)); omega) ha31).mp this
                have mono : ∀ d i, i + d = q - 1 → f i ≤ f (q - 1) := by
                  intro d
                  induction d with
                  | zero => intro i hi; rw [show i = q - 1 by omega]; exact Nat.le_refl _
                  | succ d ihd =>
                    intro i hi
                    have h1 := ihd (i + 1) (by omega)
                    have h2 := hord i (by omega)
                    have h3 := (hfg i (by omega)).2.2.1
                    omega
                have hfi := mono (q - 1 - i) i (by omega)
                rcases hcl i (by omega) (by omega) with h | h
                · rw [(hfg i (by omega)).2.1, ea] at h
                  exact (nI_leI (by have := (hfg i (by omega)).2.2.2.1; omega) ha31).mp h
                · rw [(hfg i (by omega)).1, eb] at h
                  have := (nI_leI hb31 (by have := (hfg i (by omega)); omega)).mp h
                  omega
              have hi : ∀ i, q ≤ i → i < k → b ≤ f i := by
                intro i h1 h2
                have hn := r5 i h1 h2
                rw [(hfg i h2).1, ea] at hn
                have hgt : ¬ f i ≤ a := fun h => hn (nI_le h ha31)
                rcases hcl i (by omega) h2 with h | h
                · rw [(hfg i h2).2.1, ea] at h
                  have := (nI_leI (by have := (hfg i h2).2.2.2.1; omega) ha31).mp h
                  have := (hfg i h2).2.2.1
                  omega
                · rw [(hfg i h2).1, eb] at h
                  exact (nI_leI hb31 (by have := (hfg i h2); omega)).mp h
              by_cases j1 : j + 1 < q
              · have j0 : j < q := by omega
                simp only [j1, j0, if_true]
                exact hord j (by omega)
              · by_cases j2 : j + 1 = q
                · have j0 : j < q := by omega
                  have j3 : ¬ q < q := by omega
                  simp only [j2, j0, j3, if_true, if_false]
                  exact lo j j0
                · by_cases j4 : j = q
                  · subst j4
                    have j5 : ¬ j < j := by omega
                    have j6 : ¬ j + 1 < j := by omega
                    have j7 : ¬ j + 1 = j := by omega
                    simp only [j5, j6, j7, if_true, if_false]
                    exact hi (j + 1 - 1) (by omega) (by omega)
                  · have j5 : ¬ j < q := by omega
                    simp only [j1, j2, j4, j5, if_false]
                    have := hord (j - 1) (by omega)
                    rw [show j + 1 - 1 = j - 1 + 1 by omega]
                    exact this
            · rw [s1 7 (by omega), r14 7 (by omega) (by omega) (by omega)]
            · rw [s2 6 (by omega) (by omega), r15 6 (by omega)]
            · rw [r16 10 (by omega) (by omega) (by omega), t1 10 (by omega)]
            · rw [r17 12 (by omega), t2 12 (by omega) (by omega)]
            · rw [s1 k (by omega), r14 k (by omega) (by omega) (by omega), s3 k (by omega)]
            · by_cases h11 : j = 11
              · subst h11; simp [st_at]
              · by_cases h12 : j = 12
                · subst h12; simp [st_at]
                · rw [s2 j h11 h12, r15 j (by omega), s4 j h11 h12]
            · rw [r16 k (by omega) (by omega) (by omega)]
            · rw [r17 j (by omega)]
            · rw [s1 11 (by omega), r14 11 (by omega) (by omega) (by omega)]
            · rw [s2 16 (by omega) (by omega), r15 16 (by omega)]
            · rw [r16 26 (by omega) (by omega) (by omega), t1 26 (by omega)]
            · rw [r17 25 (by omega), t2 25 (by omega) (by omega)]
        · have b4 : S 20 0 < z1 := by
            rw [Int32.lt_iff_toInt_lt]; rw [Int32.le_iff_toInt_le] at b3; omega
          rw [if_neg b3, if_pos b4]; exact no
