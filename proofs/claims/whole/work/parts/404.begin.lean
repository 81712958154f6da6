theorem beg_sim (x1 x2 x3 x4 : Int32) : ∀ (d i fu fv : Nat) (S T : St), i + d = 40 → d < fu → d < fv → S 8 = T 22 → ∃ S1 T1 : St, m_X2_start_L15 fu x1 x2 x3 x4 (nI i) S = m_X2_start_L15 1 x1 x2 x3 x4 (nI 40) S1 ∧ m_X9_begin_L17 fv x1 x2 x3 x4 (nI i) T = m_X9_begin_L17 1 x1 x2 x3 x4 (nI 40) T1 ∧ S1 8 = T1 22 ∧ (∀ k, k ≠ 8 → S1 k = S k) ∧ (∀ k, k ≠ 22 → T1 k = T k) := by
  intro d
  induction d with
  | zero =>
    intro i fu fv S T hi hfu hfv he
    obtain ⟨f, rfl⟩ : ∃ f, fu = f + 1 := ⟨fu - 1, by omega⟩
    obtain ⟨g, rfl⟩ : ∃ g, fv = g + 1 := ⟨fv - 1, by omega⟩
    obtain rfl : i = 40 := by omega
    have h : (40 : Int32) ≤ nI 40 := by decide
    refine ⟨S, T, ?_, ?_, he, fun _ _ => rfl, fun _ _ => rfl⟩
    · rw [m_X2_start_L15, m_X2_start_L15, if_pos h, if_pos h]
    · rw [m_X9_begin_L17, m_X9_begin_L17, if_pos h, if_pos h]
  | succ d ih =>
    intro i fu fv S T hi hfu hfv he
    obtain ⟨f, rfl⟩ : ∃ f, fu = f + 1 := ⟨fu - 1, by omega⟩
    obtain ⟨g, rfl⟩ : ∃ g, fv = g + 1 := ⟨fv - 1, by omega⟩
    have h : ¬ (40 : Int32) ≤ nI i := nI_ge (b := 40) (by omega) (by decide)
    have hb : inb (nI i) 40 = true := inb_nI (by omega) (by omega)
    obtain ⟨S1, T1, p1, p2, p3, p4, p5⟩ := ih (i + 1) f g (st S 8 i 0) (st T 22 i 0) (by omega) (by omega) (by omega) (by funext j; simp [st_at, he])
    refine ⟨S1, T1, ?_, ?_, p3, fun k hk => ?_, fun k hk => ?_⟩
    · rw [m_X2_start_L15, if_neg h, if_pos hb, nI_cl (show i < 2 ^ 31 by omega), nI_1]; exact p1
    · rw [m_X9_begin_L17, if_neg h, if_pos hb, nI_cl (show i < 2 ^ 31 by omega), nI_1]; exact p2
    · rw [p4 k hk]; simp [st, hk]
    · rw [p5 k hk]; simp [st, hk]
theorem sim_begin (S T : St) (z0 z1 z2 z3 : Int32) (hR : Rel S T) : ∃ (r1 : Int32) (S1 T1 : St), m_X8_begin z0 z1 z2 z3 S = some (r1, S1) ∧ m_X9_begin z0 z1 z2 z3 T = some (r1, T1) ∧ Rel S1 T1 := by
  have hRt := hR.t 0
  obtain ⟨T0, hT0⟩ : ∃ T0, T0 = st T 30 0 (0 : Int32) := ⟨_, rfl⟩
  rw [← hT0] at hRt
  unfold m_X8_begin m_X2_start m_X9_begin
  rw [← hT0]
  obtain ⟨hc, hf, hs, hm, hr⟩ := id hRt
  obtain ⟨f1, f2, f3, k, hk, ek, f, g, hfg, hord⟩ := id hf
  rw [← f1]
  by_cases h0 : S 20 1 = 0
  · simp only [if_pos h0, bz0, some_bind']
    exact ⟨_, _, _, rfl, rfl, hRt⟩
  · simp only [if_neg h0]
    generalize hF : (10000 : Nat) = F
    obtain ⟨S1, T1, p1, p2, p3, p4, p5⟩ := beg_sim z0 z1 z2 z3 40 0 F F S T0 (by omega) (by omega) (by omega) hm.1
    rw [show (0 : Int32) = nI 0 from rfl, p1, p2, m_X2_start_L15, m_X9_begin_L17]
    have h40 : (40 : Int32) ≤ nI 40 := by decide
    have b39 : inb ((st S1 20 13 (39 : Int32)) 20 13) 40 = true := by rw [st_at]; simp; decide
    have c39 : ((st S1 20 13 (39 : Int32)) 20 13).toNatClampNeg = 39 := by rw [st_at]; simp
    have d39 : (39 : Int32).toNatClampNeg = 39 := by decide
    have e39 : inb (39 : Int32) 40 = true := by decide
    have d0 : (nI 0).toNatClampNeg = 0 := by decide
    have d1 : (1 : Int32).toNatClampNeg = 1 := by decide
    have d2 : (2 : Int32).toNatClampNeg = 2 := by decide
    have g0 : inb (nI 0) 3 = true := by decide
    have g1 : inb (1 : Int32) 3 = true := by decide
    have g2 : inb (2 : Int32) 3 = true := by decide
    have g3 : inb (nI 0) 40 = true := by decide
    have g4 : inb (nI 0) 5 = true := by decide
    simp only [if_pos h40, show (0 : Int32) = nI 0 from rfl, if_pos b39, if_pos e39, if_pos g0, if_pos g1, if_pos g2, if_pos g3, if_pos g4, c39, d39, d0, d1, d2, bz1, some_bind']
    refine ⟨_, _, _, rfl, rfl, ?_⟩
    have m2 := hm.2.1
    have m3 := hm.2.2.1
    refine ⟨hc.congr ?_ ?_ ?_ ?_, hf.congr ?_ ?_ ?_ ?_ ?_ ?_ ?_, hs.congr ?_ ?_ ?_ ?_, ⟨?_, ?_, ?_, ?_, ?_, ?_, ?_, ?_, ⟨39, by omega, ?_⟩, ⟨1, by omega, ?_⟩, ?_, ?_, ?_, ?_⟩, hr.congr ?_ ?_ ?_ ?_⟩
    · funext i; simp [st_at, p4]
    · simp [st_at, p4]
    · funext i; simp [st_at, p5]
    · simp [st_at, p5]
    · simp only [st_at, p4 20 (by omega)]; simp
    · simp [st_at, p4]
    · funext i; simp [st_at, p4]
    · funext i; simp [st_at, p4]
    · simp [st_at, p5]
    · funext i; simp [st_at, p5]
    · funext i; simp [st_at, p5]
    · funext i; simp [st_at, p4]
    · simp [st_at, p4]
    · funext i; simp [st_at, p5]
    · simp [st_at, p5]
    · funext i; simp [st_at, p3]
    · funext i; simp [st_at, p4, p5, m2]
    · funext i; simp [st_at, p4, p5, m3]
    · simp [st_at]
    · simp [st_at]
    · simp [st_at]
    · simp [st_at]
    · simp [st_at]
    · simp [st_at]; rfl
    · simp [st_at]; rfl
    · right; simp [st_at]
    · right; simp [st_at]
    · intro _; simp [st_at, p4, p5, f2]
    · intro _ h; simp [st_at] at h
    · funext i; simp [st_at, p4]
    · simp [st_at, p4]
    · funext i; simp [st_at, p5]
    · simp [st_at, p5]
