theorem RC.congr {S T S' T' : St} (h : RC S T) (a0 : S' 0 = S 0) (a1 : S' 20 0 = S 20 0) (b0 : T' 1 = T 1) (b1 : T' 30 2 = T 30 2) : RC S' T' := by
  unfold RC; rw [a0, a1, b0, b1]; exact h
theorem RF.congr {S T S' T' : St} (h : RF S T) (a0 : S 20 0 ≤ S' 20 0) (a1 : S' 20 1 = S 20 1) (a2 : S' 1 = S 1) (a3 : S' 2 = S 2) (b1 : T' 30 3 = T 30 3) (b2 : T' 4 = T 4) (b3 : T' 5 = T 5) : RF S' T' := by
  obtain ⟨h1, h2, h3, k, hk, ek, f, g, hf, hg⟩ := h
  refine ⟨by rw [a1, b1]; exact h1, by rw [a2, b2]; exact h2, by rw [a3, b3]; exact h3, k, hk, by rw [a1]; exact ek, f, g, fun i hi => ?_, hg⟩
  obtain ⟨q1, q2, q3, q4, q5⟩ := hf i hi
  exact ⟨by rw [a2]; exact q1, by rw [a3]; exact q2, q3, q4, Int32.le_trans q5 a0⟩
theorem RS.congr {S T S' T' : St} (h : RS S T) (a0 : S' 7 = S 7) (a1 : S' 20 6 = S 20 6) (b0 : T' 10 = T 10) (b1 : T' 30 12 = T 30 12) : RS S' T' := by
  unfold RS; rw [a0, a1, b0, b1]; exact h
theorem RM.congr {S T S' T' : St} (h : RM S T) (a0 : ∀ k, 8 ≤ k → k ≤ 10 → S' k = S k) (a1 : ∀ j, 10 ≤ j → j ≤ 15 → S' 20 j = S 20 j) (b0 : ∀ k, 21 ≤ k → k ≤ 24 → T' k = T k) (b1 : ∀ j, 16 ≤ j → j ≤ 23 → T' 30 j = T 30 j) : RM S' T' := by
  unfold RM
  rw [a0 8 (by omega) (by omega), a0 9 (by omega) (by omega), a0 10 (by omega) (by omega), a1 10 (by omega) (by omega), a1 11 (by omega) (by omega), a1 12 (by omega) (by omega), a1 13 (by omega) (by omega), a1 14 (by omega) (by omega), a1 15 (by omega) (by omega), b0 21 (by omega) (by omega), b0 22 (by omega) (by omega), b0 24 (by omega) (by omega), b1 16 (by omega) (by omega), b1 17 (by omega) (by omega), b1 18 (by omega) (by omega), b1 19 (by omega) (by omega), b1 20 (by omega) (by omega), b1 23 (by omega) (by omega)]
  exact h
theorem RR.congr {S T S' T' : St} (h : RR S T) (a0 : S' 11 = S 11) (a1 : S' 20 16 = S 20 16) (b0 : T' 26 = T 26) (b1 : T' 30 25 = T 30 25) : RR S' T' := by
  unfold RR; rw [a0, a1, b0, b1]; exact h
theorem sub1 (x : Int32) : x + (-1) = x - 1 := (Int32.sub_eq_add_neg x 1).symm
theorem sh_eq (x : Int64) (u : UInt64) (w : Int64) (c : Nat) (hc : c ≤ 56) (hu : (u.toBitVec % 64).toNat = c) (hw : (w.toBitVec.smod 64).toNat = c) : ((x.toUInt64 >>> u).toInt64.toInt32) &&& (255 : Int32) = ((x >>> w).toInt32) &&& (255 : Int32) := by
  apply Int32.toBitVec_inj.mp
  apply BitVec.eq_of_getLsbD_eq
  intro i hi
  have e255 : (255 : Int32).toBitVec.getLsbD i = decide (i < 8) := by
    revert i
    decide
  simp only [Int32.toBitVec_and, BitVec.getLsbD_and, e255, Int64.toBitVec_toInt32, BitVec.getLsbD_setWidth, hi, decide_true, Bool.true_and]
  by_cases h8 : i < 8
  · have a1 : (x.toUInt64 >>> u).toInt64.toBitVec.getLsbD i = x.toBitVec.getLsbD (c + i) := by
      have : (x.toUInt64 >>> u).toInt64.toBitVec = x.toBitVec >>> (u.toBitVec % 64) := by
        show (x.toUInt64 >>> u).toBitVec = _
        rw [UInt64.toBitVec_shiftRight]
        rfl
      rw [this, BitVec.ushiftRight_eq', BitVec.getLsbD_ushiftRight, hu]
    have a2 : (x >>> w).toBitVec.getLsbD i = x.toBitVec.getLsbD (c + i) := by
      have : (x >>> w).toBitVec = x.toBitVec.sshiftRight ((w.toBitVec.smod 64).toNat) := rfl
      rw [this, hw, BitVec.getLsbD_sshiftRight]
      have h1 : ¬ 64 ≤ i := by omega
      have h2 : c + i < 64 := by omega
      simp [h1, h2]
    rw [BitVec.getLsbD_signExtend, BitVec.getLsbD_signExtend, if_pos (by omega), if_pos (by omega), a1, a2]
  · simp [h8]
def bE (x : Int64) (k : Int32) : Int32 := (((x >>> (((8 : Int32) * k).toInt64 &&& 63)).toInt32) &&& (255 : Int32))
theorem bE_eq (x : Int64) {k : Nat} (hk : k < 8) : ((((x.toUInt64 >>> (((8 : Int32) * nI k).toInt64.toUInt64 &&& Int64.toUInt64 63)).toInt64).toInt32) &&& (255 : Int32)) = bE x (nI k) := by
  unfold bE
  rcases (show k = 0 ∨ k = 1 ∨ k = 2 ∨ k = 3 ∨ k = 4 ∨ k = 5 ∨ k = 6 ∨ k = 7 by omega) with rfl | rfl | rfl | rfl | rfl | rfl | rfl | rfl
  · exact sh_eq x _ _ 0 (by omega) (by decide) (by decide)
  · exact sh_eq x _ _ 8 (by omega) (by decide) (by decide)
  · exact sh_eq x _ _ 16 (by omega) (by decide) (by decide)
  · exact sh_eq x _ _ 24 (by omega) (by decide) (by decide)
  · exact sh_eq x _ _ 32 (by omega) (by decide) (by decide)
  · exact sh_eq x _ _ 40 (by omega) (by decide) (by decide)
  · exact sh_eq x _ _ 48 (by omega) (by decide) (by decide)
  · exact sh_eq x _ _ 56 (by omega) (by decide) (by decide)
theorem bE_byte (x : Int64) (k : Int32) : byte (bE x k) := by
  obtain ⟨j, hj, e⟩ := pk_andE ((x >>> (((8 : Int32) * k).toInt64 &&& 63)).toInt32) (m := 255) 8 (by decide)
  exact ⟨j, by omega, e⟩
theorem app_sim (x : Int64) : ∀ (c n fuel : Nat) (S T : St), c < fuel → S 20 0 = nI n → n + c ≤ 96 → c ≤ 8 → RC S T → ∃ S1 T1 : St, m_X4_append_L29 fuel x (nI c - 1) S = some (nI (n + c), S1) ∧ m_X9_code_L38 fuel x (nI c - 1) T = some (nI (n + c), T1) ∧ RC S1 T1 ∧ S1 20 0 = nI (n + c) ∧ (∀ k, k ≠ 0 → k ≠ 20 → S1 k = S k) ∧ (∀ j, j ≠ 0 → S1 20 j = S 20 j) ∧ (∀ k, k ≠ 1 → k ≠ 30 → T1 k = T k) ∧ (∀ j, j ≠ 2 → T1 30 j = T 30 j) := by
  intro c
  induction c with
  | zero =>
    intro n fuel S T hf hn h96 h8 hR
    obtain ⟨f, rfl⟩ : ∃ f, fuel = f + 1 := ⟨fuel - 1, by omega⟩
    rw [m_X4_append_L29, m_X9_code_L38]
    have h0 : nI 0 - 1 < 0 := by decide
    rw [if_pos h0, if_pos h0, ← hR.2.1, hn]
    exact ⟨S, T, rfl, rfl, hR, hn, fun _ _ _ => rfl, fun _ _ => rfl, fun _ _ _ => rfl, fun _ _ => rfl⟩
  | succ c ih =>
    intro n fuel S T hf hn h96 h8 hR
    obtain ⟨f, rfl⟩ : ∃ f, fuel = f + 1 := ⟨fuel - 1, by omega⟩
    rw [m_X4_append_L29, m_X9_code_L38]
    obtain ⟨c0, c1, -, cb⟩ := hR
    have hp : nI (c + 1) - 1 = nI c := nI_pred c
    have h0 : ¬ nI c < 0 := nI_pos (by omega)
    rw [hp, if_neg h0, if_neg h0, ← c1, hn, if_pos (inb_nI (show n < 96 by omega) (by omega)), if_pos (inb_nI (show n < 96 by omega) (by omega)), sub1, bE_eq x (by omega)]
    have eS : (st S 0 (nI n).toNatClampNeg (bE x (nI c))) 20 0 = nI n := by rw [st_at]; simp; exact hn
    have eT : (st T 1 (nI n).toNatClampNeg (bE x (nI c))) 30 2 = nI n := by rw [st_at]; simp; rw [← c1]; exact hn
    have eT' : (st T 1 (nI n).toNatClampNeg (((x >>> (((8 : Int32) * nI c).toInt64 &&& 63)).toInt32) &&& (255 : Int32))) 30 2 = nI n := eT
    rw [eS, eT', nI_1]
    have hR2 : RC (st (st S 0 (nI n).toNatClampNeg (bE x (nI c))) 20 0 (nI (n + 1))) (st (st T 1 (nI n).toNatClampNeg (bE x (nI c))) 30 2 (nI (n + 1))) := by
      refine ⟨?_, ?_, ⟨n + 1, by omega, ?_⟩, fun i => ?_⟩
      · funext i; simp [st_at, c0]
      · simp [st_at]
      · simp [st_at]
      · simp only [st_at]
        by_cases hi : i = (nI n).toNatClampNeg
        · simp [hi]; exact bE_byte x _
        · simp [hi]; exact cb i
    obtain ⟨S1, T1, p1, p2, p3, p4, p5, p6, p7, p8⟩ := ih (n + 1) f _ _ (by omega) (by simp [st_at]) (by omega) (by omega) hR2
    have e1 : n + 1 + c = n + (c + 1) := by omega
    rw [e1] at p1 p2 p4
    refine ⟨S1, T1, p1, p2, p3, p4, fun k h1 h2 => ?_, fun j h1 => ?_, fun k h1 h2 => ?_, fun j h1 => ?_⟩
    · rw [p5 k h1 h2]; simp [st, h1, h2]
    · rw [p6 j h1]; simp [st_at, h1]
    · rw [p7 k h1 h2]; simp [st, h1, h2]
    · rw [p8 j h1]; simp [st_at, h1]
set_option maxRecDepth 100000 in
theorem sim_code (S T : St) (z0 : Int64) (z1 : Int32) (hR : Rel S T) : ∃ (r1 : Int32) (S1 T1 : St), m_X8_code z0 z1 S = some (r1, S1) ∧ m_X9_code z0 z1 T = some (r1, T1) ∧ Rel S1 T1 := by
  obtain ⟨hc, hf, hs, hm, hr⟩ := id (hR.t 0)
  obtain ⟨c0, c1, ⟨n, hn, en⟩, cb⟩ := id hc
  have e3 : (st T 30 0 (0 : Int32)) 30 2 = nI n := by rw [← c1, en]
  have no : ∀ r : Int32, r = -1 → ∃ (r1 : Int32) (S1 T1 : St), (if r = (-1 : Int32) then some (r, S) else (m_X2_end S).bind fun r2 => some (r, r2.2)) = some (r1, S1) ∧ (some (r, st T 30 0 (0 : Int32)) : Option (Int32 × St)) = some (r1, T1) ∧ Rel S1 T1 := fun r e => by
    rw [if_pos e]; exact ⟨_, _, _, rfl, rfl, hR.t 0⟩
  unfold m_X8_code m_X4_append m_X9_code
  generalize hF : (10000 : Nat) = F
  rw [e3, en]
  by_cases k1 : z1 < 1
  · simp only [k1, if_true, some_bind']; exact no _ rfl
  · by_cases k2 : 8 < z1
    · simp only [k1, k2, if_true, if_false, some_bind']; exact no _ rfl
    · simp only [k1, k2, if_false]
      have h0 : ¬ z1 < 0 := by
        rw [Int32.lt_iff_toInt_lt] at k1 ⊢
        have e1 : (1 : Int32).toInt = 1 := by decide
        have e2 : (0 : Int32).toInt = 0 := by decide
        omega
      have h8 : z1 ≤ 8 := by
        rw [Int32.lt_iff_toInt_lt] at k2
        rw [Int32.le_iff_toInt_le]
        omega
      obtain ⟨c, hc8, rfl⟩ := nI_of2 (M := 8) (n := 8) (by decide) h0 h8
      rw [nI_add]
      by_cases k3 : n + c ≤ 96
      · have k4 : nI (n + c) ≤ 96 := nI_le (b := 96) k3 (by decide)
        simp only [k4, if_true]
        obtain ⟨T1, ho, hm1, t1, t2⟩ := over_sim hm
        rw [ho]
        simp only [some_bind']
        have hc1 : RC S T1 := hc.congr rfl rfl (t1 1 (by omega)) (t2 2 (by omega) (by omega))
        obtain ⟨S2, T2, p1, p2, p3, p4, p5, p6, p7, p8⟩ := app_sim z0 c n F S T1 (by omega) en k3 hc8 hc1
        rw [p1, p2]
        simp only [some_bind']
        have hne : ¬ nI (n + c) = -1 := by
          intro e
          have h1 : ¬ nI (n + c) < 0 := nI_pos (by omega)
          rw [e] at h1
          exact h1 (by decide)
        simp only [hne, if_false, m_X2_end, some_bind']
        refine ⟨_, _, _, rfl, rfl, ?_⟩
        have s1 : ∀ k, k ≠ 20 → (st (st S2 20 11 0) 20 12 255) k = S2 k := fun k hk => by simp [st, hk]
        have s2 : ∀ j, j ≠ 11 → j ≠ 12 → (st (st S2 20 11 0) 20 12 255) 20 j = S2 20 j := fun j h1 h2 => by simp [st_at, h1, h2]
        have s3 : ∀ k, k ≠ 20 → (st (st S 20 11 0) 20 12 255) k = S k := fun k hk => by simp [st, hk]
        have s4 : ∀ j, j ≠ 11 → j ≠ 12 → (st (st S 20 11 0) 20 12 255) 20 j = S 20 j := fun j h1 h2 => by simp [st_at, h1, h2]
        refine ⟨p3.congr (s1 0 (by omega)) (s2 0 (by omega) (by omega)) rfl rfl, hf.congr ?_ ?_ ?_ ?_ ?_ ?_ ?_, hs.congr ?_ ?_ ?_ ?_, hm1.congr (fun k h1 h2 => ?_) (fun j h1 h2 => ?_) (fun k h1 h2 => ?_) (fun j h1 h2 => ?_), hr.congr ?_ ?_ ?_ ?_⟩
        · rw [s2 0 (by omega) (by omega), p4, en]; exact nI_le (by omega) (by omega)
        · rw [s2 1 (by omega) (by omega), p6 1 (by omega)]
        · rw [s1 1 (by omega), p5 1 (by omega) (by omega)]
        · rw [s1 2 (by omega), p5 2 (by omega) (by omega)]
        · rw [p8 3 (by omega), t2 3 (by omega) (by omega)]
        · rw [p7 4 (by omega) (by omega), t1 4 (by omega)]
        · rw [p7 5 (by omega) (by omega), t1 5 (by omega)]
        · rw [s1 7 (by omega), p5 7 (by omega) (by omega)]
        · rw [s2 6 (by omega) (by omega), p6 6 (by omega)]
        · rw [p7 10 (by omega) (by omega), t1 10 (by omega)]
        · rw [p8 12 (by omega), t2 12 (by omega) (by omega)]
        · rw [s1 k (by omega), p5 k (by omega) (by omega), s3 k (by omega)]
        · by_cases h11 : j = 11
          · subst h11; simp [st_at]
          · by_cases h12 : j = 12
            · subst h12; simp [st_at]
            · rw [s2 j h11 h12, p6 j (by omega), s4 j h11 h12]
        · rw [p7 k (by omega) (by omega)]
        · rw [p8 j (by omega)]
        · rw [s1 11 (by omega), p5 11 (by omega) (by omega)]
        · rw [s2 16 (by omega) (by omega), p6 16 (by omega)]
        · rw [p7 26 (by omega) (by omega), t1 26 (by omega)]
        · rw [p8 25 (by omega), t2 25 (by omega) (by omega)]
      · have k4 : ¬ nI (n + c) ≤ 96 := nI_ge (a := 96) (by omega) (by omega)
        simp only [k4, if_false, some_bind']; exact no _ rfl
