/-! the finder: what an instruction does to what is known -/
def NW (S T : St) (h fr : Nat) (s : Nat → Nat) : Prop := S 20 2 = nI h ∧ T 9 0 = nI h ∧ S 20 3 = nI fr ∧ T 9 1 = nI fr ∧ ∀ r, r < 3 → S 6 r = nI (s r) ∧ T 9 (2 + r) = nI (s r)
def NB (h fr : Nat) (s : Nat → Nat) : Prop := 1 ≤ h ∧ h ≤ 30 ∧ fr ≤ 30 ∧ ∀ r, r < 3 → s r ≤ 30
def FE (S S1 : St) : Prop := (∀ k, k ≠ 6 → k ≠ 20 → S1 k = S k) ∧ ∀ j, j ≠ 2 → j ≠ 3 → S1 20 j = S 20 j
def GE (T T1 : St) : Prop := ∀ k, k ≠ 9 → T1 k = T k
theorem FE.refl (S : St) : FE S S := ⟨fun _ _ _ => rfl, fun _ _ _ => rfl⟩
theorem GE.refl (S : St) : GE S S := fun _ _ => rfl
theorem FE.trans {S S1 S2 : St} (h : FE S S1) (g : FE S1 S2) : FE S S2 := ⟨fun k h1 h2 => by rw [g.1 k h1 h2, h.1 k h1 h2], fun j h1 h2 => by rw [g.2 j h1 h2, h.2 j h1 h2]⟩
theorem GE.trans {S S1 S2 : St} (h : GE S S1) (g : GE S1 S2) : GE S S2 := fun k h1 => by rw [g k h1, h k h1]
theorem FE.s6 (S : St) (r : Nat) (v : Int32) : FE S (st S 6 r v) := ⟨fun k h1 _ => st_ne _ _ _ h1, fun j _ _ => st_row _ _ _ _ (by omega)⟩
theorem FE.s2 (S : St) (v : Int32) : FE S (st S 20 2 v) := ⟨fun k _ h2 => st_ne _ _ _ h2, fun j h1 _ => st_col _ _ _ h1⟩
theorem FE.s3 (S : St) (v : Int32) : FE S (st S 20 3 v) := ⟨fun k _ h2 => st_ne _ _ _ h2, fun j _ h1 => st_col _ _ _ h1⟩
theorem GE.s (T : St) (j : Nat) (v : Int32) : GE T (st T 9 j v) := fun k h => st_ne _ _ _ h
def un (s : Nat → Nat) (r v : Nat) : Nat → Nat := fun i => if i = r then v else s i
theorem NW.save {S T : St} {h fr : Nat} {s : Nat → Nat} (hw : NW S T h fr s) (r v : Nat) : NW (st S 6 r (nI v)) (st T 9 (2 + r) (nI v)) h fr (un s r v) := by
  obtain ⟨a1, a2, a3, a4, a5⟩ := hw
  refine ⟨?_, ?_, ?_, ?_, fun i hi => ?_⟩
  · rw [st_row _ _ _ _ (by omega)]; exact a1
  · rw [st_col _ _ _ (by omega)]; exact a2
  · rw [st_row _ _ _ _ (by omega)]; exact a3
  · rw [st_col _ _ _ (by omega)]; exact a4
  · by_cases h : i = r
    · subst h
      rw [st_rd, st_rd]
      unfold un
      rw [if_pos rfl]; exact ⟨rfl, rfl⟩
    · rw [st_col _ _ _ h, st_col _ _ _ (by omega)]
      unfold un
      rw [if_neg h]; exact a5 i hi
theorem NW.hgt {S T : St} {h fr : Nat} {s : Nat → Nat} (hw : NW S T h fr s) (v : Nat) : NW (st S 20 2 (nI v)) (st T 9 0 (nI v)) v fr s := by
  obtain ⟨a1, a2, a3, a4, a5⟩ := hw
  refine ⟨?_, ?_, ?_, ?_, fun i hi => ?_⟩
  · rw [st_rd]
  · rw [st_rd]
  · rw [st_col _ _ _ (by omega)]; exact a3
  · rw [st_col _ _ _ (by omega)]; exact a4
  · rw [st_row _ _ _ _ (by omega), st_col _ _ _ (by omega)]; exact a5 i hi
theorem NW.frm {S T : St} {h fr : Nat} {s : Nat → Nat} (hw : NW S T h fr s) (v : Nat) : NW (st S 20 3 (nI v)) (st T 9 1 (nI v)) h v s := by
  obtain ⟨a1, a2, a3, a4, a5⟩ := hw
  refine ⟨?_, ?_, ?_, ?_, fun i hi => ?_⟩
  · rw [st_col _ _ _ (by omega)]; exact a1
  · rw [st_col _ _ _ (by omega)]; exact a2
  · rw [st_rd]
  · rw [st_rd]
  · rw [st_row _ _ _ _ (by omega), st_col _ _ _ (by omega)]; exact a5 i hi
theorem st_self9 (T : St) (k j : Nat) : st T k j (T k j) = T := by
  funext a b
  rw [st_at]
  split
  · rename_i h; rw [h.1, h.2]
  · rfl
theorem y50 : inb (0 : Int32) 5 = true := by decide
theorem y51 : inb (1 : Int32) 5 = true := by decide
theorem y52 : inb (2 : Int32) 5 = true := by decide
theorem y53 : inb (3 : Int32) 5 = true := by decide
theorem y54 : inb (4 : Int32) 5 = true := by decide
theorem n50 : (0 : Int32).toNatClampNeg = 0 := by decide
theorem n51 : (1 : Int32).toNatClampNeg = 1 := by decide
theorem n52 : (2 : Int32).toNatClampNeg = 2 := by decide
theorem n53 : (3 : Int32).toNatClampNeg = 3 := by decide
theorem n54 : (4 : Int32).toNatClampNeg = 4 := by decide
theorem ad2 (r : Nat) : (2 : Int32) + nI r = nI (2 + r) := by rw [show (2 : Int32) = nI 2 from rfl, nI_add]
theorem z0i {v : Nat} (h : v < 2 ^ 31) : (nI v = 0) = (v = 0) := q_eq (b := 0) h (by omega)
/-- how an effect ends: the same fault, or none and what is known is the same -/
def EF (S T : St) (A B : Option (Int32 × St)) : Prop := ∃ (r : Int32) (S1 T1 : St), A = some (r, S1) ∧ B = some (r, T1) ∧ FE S S1 ∧ GE T T1 ∧ ((r = 0 ∧ ∃ h fr s, NW S1 T1 h fr s ∧ NB h fr s) ∨ ∃ k : Nat, 1 ≤ k ∧ k ≤ 9 ∧ r = nI k)
theorem EF.bad {S T S1 T1 : St} {A B : Option (Int32 × St)} (k : Nat) (h1 : 1 ≤ k) (h9 : k ≤ 9) (hA : A = some (nI k, S1)) (hB : B = some (nI k, T1)) (f : FE S S1) (g : GE T T1) : EF S T A B := ⟨nI k, S1, T1, hA, hB, f, g, Or.inr ⟨k, h1, h9, rfl⟩⟩
theorem EF.ok {S T S1 T1 : St} {A B : Option (Int32 × St)} {h fr : Nat} {s : Nat → Nat} (hA : A = some (0, S1)) (hB : B = some (0, T1)) (f : FE S S1) (g : GE T T1) (hw : NW S1 T1 h fr s) (hb : NB h fr s) : EF S T A B := ⟨0, S1, T1, hA, hB, f, g, Or.inl ⟨rfl, h, fr, s, hw, hb⟩⟩
theorem save_sim {S T : St} {h fr : Nat} {s : Nat → Nat} (hw : NW S T h fr s) (hb : NB h fr s) {r v : Nat} (hr : r < 3) (hv : v ≤ 30) : ∃ (S1 T1 : St) (s1 : Nat → Nat), m_X1_save (nI r) (nI v) S = some (0, S1) ∧ m_X9_save (nI r) (nI v) T = some (0, T1) ∧ FE S S1 ∧ GE T T1 ∧ NW S1 T1 h fr s1 ∧ NB h fr s1 := by
  have e1 := (hw.2.2.2.2 r hr).1
  have e2 := (hw.2.2.2.2 r hr).2
  have hs := hb.2.2.2 r hr
  have i1 : inb (nI r) 3 = true := inb_nI hr (by omega)
  have i2 : (nI r).toNatClampNeg = r := nI_cl (by omega)
  have i3 : inb (nI (2 + r)) 5 = true := inb_nI (by omega) (by omega)
  have i4 : (nI (2 + r)).toNatClampNeg = 2 + r := nI_cl (by omega)
  unfold m_X1_save m_X9_save
  simp only [ad2, if_pos i1, if_pos i3, i2, i4, e1, e2, z0i (show s r < 2 ^ 31 by omega)]
  by_cases h0 : s r = 0
  · simp only [if_pos h0]
    refine ⟨_, _, un s r v, rfl, rfl, FE.s6 S r _, GE.s T _ _, hw.save r v, hb.1, hb.2.1, hb.2.2.1, fun i hi => ?_⟩
    unfold un
    split
    · exact hv
    · exact hb.2.2.2 i hi
  · simp only [if_neg h0]
    refine ⟨S, st T 9 (2 + r) (nI (s r)), s, rfl, rfl, FE.refl S, GE.s T _ _, ?_, hb⟩
    rw [← e2, st_self9]; exact hw
theorem gain_sim {S T : St} {h fr : Nat} {s : Nat → Nat} (hw : NW S T h fr s) (hb : NB h fr s) {x : Nat} (hx : x < 256) : (h + x ≤ 30 ∧ m_X1_gain (nI x) S = some (0, st S 20 2 (nI (h + x))) ∧ m_X9_raise (nI x) T = some (0, st T 9 0 (nI (h + x))) ∧ NW (st S 20 2 (nI (h + x))) (st T 9 0 (nI (h + x))) (h + x) fr s ∧ NB (h + x) fr s) ∨ (m_X1_gain (nI x) S = some (9, st S 20 2 (nI (h + x))) ∧ m_X9_raise (nI x) T = some (9, st T 9 0 (nI (h + x)))) := by
  obtain ⟨b1, b2, b3, b4⟩ := id hb
  unfold m_X1_gain m_X9_raise
  rw [hw.1]
  simp only [if_pos y50, n50, hw.2.1, st_rd, nI_add]
  by_cases hh : h + x ≤ 30
  · have k : nI (h + x) ≤ (30 : Int32) := nI_le (b := 30) hh (by omega)
    simp only [if_pos k]
    exact Or.inl ⟨hh, trivial, trivial, hw.hgt _, by omega, hh, b3, b4⟩
  · have k : ¬ nI (h + x) ≤ (30 : Int32) := nI_ge (a := 30) (by omega) (by omega)
    simp only [if_neg k]
    exact Or.inr ⟨trivial, trivial⟩
theorem lose1 (S : St) : ∀ (d j F : Nat), j + d = 3 → d < F → m_X1_lose_L26 F 1 (nI j) S = some (5, S) := by
  intro d
  induction d with
  | zero =>
    intro j F hj hF
    obtain ⟨f, rfl⟩ : ∃ f, F = f + 1 := ⟨F - 1, by omega⟩
    rw [m_X1_lose_L26, if_pos (show (3 : Int32) ≤ nI j from nI_le (a := 3) (by omega) (by omega)), if_neg i10]
  | succ d ih =>
    intro j F hj hF
    obtain ⟨f, rfl⟩ : ∃ f, F = f + 1 := ⟨F - 1, by omega⟩
    rw [m_X1_lose_L26, if_neg (show ¬ (3 : Int32) ≤ nI j from nI_ge (b := 3) (by omega) (by omega)), if_neg i10, nI_1]
    exact ih (j + 1) f (by omega) (by omega)
theorem lose0 {S : St} {h : Nat} {s : Nat → Nat} (hh : h ≤ 30) (e : S 20 2 = nI h) (es : ∀ r, r < 3 → S 6 r = nI (s r)) (bs : ∀ r, r < 3 → s r ≤ 30) : ∀ (d j F : Nat), j + d = 3 → d < F → ((∀ i, j ≤ i → i < 3 → s i ≤ h) → m_X1_lose_L26 F 0 (nI j) S = some (0, S)) ∧ ((¬ ∀ i, j ≤ i → i < 3 → s i ≤ h) → m_X1_lose_L26 F 0 (nI j) S = some (5, S)) := by
  intro d
  induction d with
  | zero =>
    intro j F hj hF
    obtain ⟨f, rfl⟩ : ∃ f, F = f + 1 := ⟨F - 1, by omega⟩
    rw [m_X1_lose_L26, if_pos (show (3 : Int32) ≤ nI j from nI_le (a := 3) (by omega) (by omega)), if_pos rfl]
    exact ⟨fun _ => rfl, fun q => absurd (fun i h1 h2 => absurd h1 (by omega)) q⟩
  | succ d ih =>
    intro j F hj hF
    obtain ⟨f, rfl⟩ : ∃ f, F = f + 1 := ⟨F - 1, by omega⟩
    have hs := bs j (by omega)
    rw [m_X1_lose_L26, if_neg (show ¬ (3 : Int32) ≤ nI j from nI_ge (b := 3) (by omega) (by omega)), if_pos rfl, if_pos (inb_nI (show j < 3 by omega) (by omega)), nI_cl (by omega), es j (by omega), e, nI_1]
    obtain ⟨i1, i2⟩ := ih (j + 1) f (by omega) (by omega)
    by_cases hc : s j ≤ h
    · rw [if_pos (nI_le hc (by omega))]
      refine ⟨fun q => i1 (fun i h1 h2 => q i (by omega) h2), fun q => i2 (fun q2 => q (fun i h1 h2 => ?_))⟩
      by_cases hi : i = j
      · subst hi; exact hc
      · exact q2 i (by omega) h2
    · rw [if_neg (nI_ge (by omega) (by omega)), lose1 S d (j + 1) f (by omega) (by omega)]
      exact ⟨fun q => absurd (q j (by omega) (by omega)) hc, fun _ => rfl⟩
theorem lose_sim {S T : St} {h fr : Nat} {s : Nat → Nat} (hw : NW S T h fr s) (hb : NB h fr s) {x : Nat} (hx : x < 256) : EF S T (m_X1_lose (nI x) S) (m_X9_lose (nI x) T) := by
  obtain ⟨b1, b2, b3, b4⟩ := id hb
  obtain ⟨a1, a2, a3, a4, a5⟩ := id hw
  unfold m_X1_lose m_X9_lose
  simp only [if_pos y50, if_pos y52, if_pos y53, if_pos y54, n50, n52, n53, n54, st_rd, a1, a2]
  by_cases hh : x < h
  · have e : nI h - nI x = nI (h - x) := pk_sub (by omega)
    have k1 : (1 : Int32) ≤ nI (h - x) := nI_le (a := 1) (by omega) (by omega)
    have k2 : ¬ nI (h - x) < (1 : Int32) := nI_nlt (b := 1) (by omega) (by omega)
    have c2 : st T 9 0 (nI (h - x)) 9 2 = nI (s 0) := by rw [st_col _ _ _ (by omega)]; exact (a5 0 (by omega)).2
    have c3 : st T 9 0 (nI (h - x)) 9 3 = nI (s 1) := by rw [st_col _ _ _ (by omega)]; exact (a5 1 (by omega)).2
    have c4 : st T 9 0 (nI (h - x)) 9 4 = nI (s 2) := by rw [st_col _ _ _ (by omega)]; exact (a5 2 (by omega)).2
    have s0 := b4 0 (by omega)
    have s1 := b4 1 (by omega)
    have s2 := b4 2 (by omega)
    have hl := lose0 (S := st S 20 2 (nI (h - x))) (h := h - x) (s := s) (by omega) (st_rd _ _ _ _) (fun r hr => by rw [st_row _ _ _ _ (by omega)]; exact (a5 r hr).1) b4 3 0 10000 (by omega) (by omega)
    rw [show nI 0 = (0 : Int32) from rfl] at hl
    simp only [e, if_pos k1, if_neg k2, c2, c3, c4, q_lt (show h - x < 2 ^ 31 by omega) (show s 0 < 2 ^ 31 by omega), q_lt (show h - x < 2 ^ 31 by omega) (show s 1 < 2 ^ 31 by omega), q_le (show s 2 < 2 ^ 31 by omega) (show h - x < 2 ^ 31 by omega)]
    by_cases hall : ∀ i, 0 ≤ i → i < 3 → s i ≤ h - x
    · have u0 := hall 0 (by omega) (by omega)
      have u1 := hall 1 (by omega) (by omega)
      have u2 := hall 2 (by omega) (by omega)
      refine EF.ok (h := h - x) (fr := fr) (s := s) (hl.1 hall) ?_ (FE.s2 S _) (GE.s T _ _) (hw.hgt _) ⟨by omega, by omega, b3, b4⟩
      rw [if_neg (by omega), if_neg (by omega), if_pos u2]
    · refine EF.bad (T1 := st T 9 0 (nI (h - x))) 5 (by omega) (by omega) (hl.2 hall) ?_ (FE.s2 S _) (GE.s T _ _)
      by_cases u0 : h - x < s 0
      · rw [if_pos u0]; rfl
      · rw [if_neg u0]
        by_cases u1 : h - x < s 1
        · rw [if_pos u1]; rfl
        · rw [if_neg u1, if_neg (fun u2 => hall (fun i _ hi => by
            rcases (show i = 0 ∨ i = 1 ∨ i = 2 by omega) with rfl | rfl | rfl <;> omega))]
          rfl
  · have k0 : nI h - nI x ≤ 0 := by
      rw [Int32.le_iff_toInt_le, pk_sub_toInt (by omega) (by omega)]
      have : (0 : Int32).toInt = 0 := by decide
      omega
    have t1 : (1 : Int32).toInt = 1 := by decide
    have t0 : (0 : Int32).toInt = 0 := by decide
    have k1 : ¬ (1 : Int32) ≤ nI h - nI x := by
      rw [Int32.le_iff_toInt_le] at k0 ⊢; omega
    have k2 : nI h - nI x < (1 : Int32) := by
      rw [Int32.le_iff_toInt_le] at k0
      rw [Int32.lt_iff_toInt_lt]; omega
    have hl := lose1 (st S 20 2 (nI h - nI x)) 3 0 10000 (by omega) (by omega)
    rw [show nI 0 = (0 : Int32) from rfl] at hl
    simp only [if_neg k1, if_pos k2, hl]
    exact EF.bad 5 (by omega) (by omega) rfl rfl (FE.s2 S _) (GE.s T _ _)
theorem spoil_sim {S T : St} {h fr : Nat} {s : Nat → Nat} (hw : NW S T h fr s) (hb : NB h fr s) {r : Nat} (hr : r < 3) : (m_X1_spoil (nI r) S = some (4, S) ∧ m_X9_spoil (nI r) T = some (4, T)) ∨ ∃ (S1 T1 : St) (f1 : Nat), m_X1_spoil (nI r) S = some (0, S1) ∧ m_X9_spoil (nI r) T = some (0, T1) ∧ FE S S1 ∧ GE T T1 ∧ NW S1 T1 h f1 s ∧ NB h f1 s := by
  obtain ⟨b1, b2, b3, b4⟩ := id hb
  have e1 := (hw.2.2.2.2 r hr).1
  have e2 := (hw.2.2.2.2 r hr).2
  have hs := b4 r hr
  have i1 : inb (nI r) 3 = true := inb_nI hr (by omega)
  have i2 : (nI r).toNatClampNeg = r := nI_cl (by omega)
  have i3 : inb (nI (2 + r)) 5 = true := inb_nI (by omega) (by omega)
  have i4 : (nI (2 + r)).toNatClampNeg = 2 + r := nI_cl (by omega)
  unfold m_X1_spoil m_X9_spoil
  simp only [ad2, if_pos i1, if_pos i3, i2, i4, e1, e2, z0i (show s r < 2 ^ 31 by omega), z0i (show r < 2 ^ 31 by omega), if_pos y51, n51, hw.2.2.2.1]
  by_cases h0 : s r = 0
  · simp only [if_pos h0]
    exact Or.inl ⟨trivial, trivial⟩
  · simp only [if_neg h0]
    by_cases hr0 : r = 0
    · simp only [if_pos hr0]
      exact Or.inr ⟨_, _, 0, rfl, rfl, FE.s3 S _, GE.s T _ _, hw.frm 0, b1, b2, by omega, b4⟩
    · simp only [if_neg hr0]
      refine Or.inr ⟨S, st T 9 1 (nI fr), fr, rfl, rfl, FE.refl S, GE.s T _ _, ?_, hb⟩
      rw [← hw.2.2.2.1, st_self9]; exact hw
theorem give_sim {S T : St} {h fr : Nat} {s : Nat → Nat} (hw : NW S T h fr s) (hb : NB h fr s) {r v : Nat} (hr : r < 3) (hv : 1 ≤ v) (hv2 : v ≤ 30) : (m_X1_give (nI r) (nI v) S = some (4, S) ∧ m_X9_give (nI r) (nI v) T = some (4, T)) ∨ ∃ (S1 T1 : St) (f1 : Nat) (s1 : Nat → Nat), m_X1_give (nI r) (nI v) S = some (0, S1) ∧ m_X9_give (nI r) (nI v) T = some (0, T1) ∧ FE S S1 ∧ GE T T1 ∧ NW S1 T1 h f1 s1 ∧ NB h f1 s1 := by
  obtain ⟨b1, b2, b3, b4⟩ := id hb
  have e1 := (hw.2.2.2.2 r hr).1
  have e2 := (hw.2.2.2.2 r hr).2
  have hs := b4 r hr
  have i1 : inb (nI r) 3 = true := inb_nI hr (by omega)
  have i2 : (nI r).toNatClampNeg = r := nI_cl (by omega)
  have i3 : inb (nI (2 + r)) 5 = true := inb_nI (by omega) (by omega)
  have i4 : (nI (2 + r)).toNatClampNeg = 2 + r := nI_cl (by omega)
  have hsp := spoil_sim hw hb hr
  unfold m_X1_give m_X9_give
  have t1 : st T 9 (2 + r) 0 9 1 = nI fr := by rw [st_col _ _ _ (by omega)]; exact hw.2.2.2.1
  simp only [ad2, if_pos i1, if_pos i3, i2, i4, e1, e2, z0i (show s r < 2 ^ 31 by omega), z0i (show r < 2 ^ 31 by omega), q_eq (show s r < 2 ^ 31 by omega) (show v < 2 ^ 31 by omega), if_pos y51, n51, t1]
  have bu : NB h fr (un s r 0) := ⟨b1, b2, b3, fun i hi => by
    unfold un
    split
    · omega
    · exact b4 i hi⟩
  have bu0 : NB h 0 (un s r 0) := ⟨b1, b2, by omega, bu.2.2.2⟩
  by_cases hv0 : s r = v
  · have h0 : ¬ s r = 0 := by omega
    simp only [if_neg h0, if_pos hv0]
    by_cases hr0 : r = 0
    · simp only [if_pos hr0]
      exact Or.inr ⟨_, _, 0, un s r 0, rfl, rfl, (FE.s6 S r _).trans (FE.s3 _ _), (GE.s T _ _).trans (GE.s _ _ _), (hw.save r 0).frm 0, bu0⟩
    · simp only [if_neg hr0]
      refine Or.inr ⟨_, _, fr, un s r 0, rfl, rfl, FE.s6 S r _, (GE.s T _ _).trans (GE.s _ _ _), ?_, bu⟩
      rw [← t1, st_self9]; exact hw.save r 0
  · simp only [if_neg hv0]
    rcases hsp with ⟨p1, p2⟩ | ⟨S1, T1, f1, p1, p2, p3, p4, p5, p6⟩
    · left
      have h0 : s r = 0 := by
        by_cases h0 : s r = 0
        · exact h0
        · exfalso
          unfold m_X1_spoil at p1
          simp only [if_pos i1, i2, e1, z0i (show s r < 2 ^ 31 by omega), if_neg h0] at p1
          split at p1
          · exact absurd (congrArg Prod.fst (Option.some.inj p1)) (show ¬ (0 : Int32) = 4 by decide)
          · exact absurd (congrArg Prod.fst (Option.some.inj p1)) (show ¬ (0 : Int32) = 4 by decide)
      simp only [if_pos h0, p2, some_bind']
      exact ⟨trivial, trivial⟩
    · right
      have h0 : ¬ s r = 0 := by
        intro h0
        unfold m_X1_spoil at p1
        simp only [if_pos i1, i2, e1, z0i (show s r < 2 ^ 31 by omega), if_pos h0] at p1
        exact absurd (congrArg Prod.fst (Option.some.inj p1)) (show ¬ (4 : Int32) = 0 by decide)
      refine ⟨S1, T1, f1, s, ?_, ?_, p3, p4, p5, p6⟩
      · unfold m_X1_spoil at p1
        simp only [if_pos i1, i2, e1, z0i (show s r < 2 ^ 31 by omega), z0i (show r < 2 ^ 31 by omega), if_neg h0] at p1
        simp only [if_neg h0]
        exact p1
      · rw [p2, some_bind']
theorem clean_sim {S T : St} {h fr : Nat} {s : Nat → Nat} (hw : NW S T h fr s) (hb : NB h fr s) : ∃ v : Int32, (v = 0 ∨ v = 1) ∧ m_X1_isAsBeforeCall S = some (v, S) ∧ m_X9_isClean T = some (v, T) := by
  obtain ⟨b1, b2, b3, b4⟩ := id hb
  obtain ⟨a1, a2, a3, a4, a5⟩ := id hw
  have s0 := b4 0 (by omega)
  have s1 := b4 1 (by omega)
  have s2 := b4 2 (by omega)
  have l0 : ∀ (d j F : Nat), j + d = 3 → d < F → m_X1_isAsBeforeCall_L16 F 0 (nI j) S = some (0, S) := by
    intro d
    induction d with
    | zero =>
      intro j F hj hF
      obtain ⟨f, rfl⟩ : ∃ f, F = f + 1 := ⟨F - 1, by omega⟩
      rw [m_X1_isAsBeforeCall_L16, if_pos (show (3 : Int32) ≤ nI j from nI_le (a := 3) (by omega) (by omega))]; rfl
    | succ d ih =>
      intro j F hj hF
      obtain ⟨f, rfl⟩ : ∃ f, F = f + 1 := ⟨F - 1, by omega⟩
      rw [m_X1_isAsBeforeCall_L16, if_neg (show ¬ (3 : Int32) ≤ nI j from nI_ge (b := 3) (by omega) (by omega)), if_pos rfl, nI_1]
      exact ih (j + 1) f (by omega) (by omega)
  have st1 : ∀ (j f : Nat), j < 3 → m_X1_isAsBeforeCall_L16 (f + 1) 1 (nI j) S = if s j = 0 then m_X1_isAsBeforeCall_L16 f 1 (nI (j + 1)) S else m_X1_isAsBeforeCall_L16 f 0 (nI (j + 1)) S := by
    intro j f hj
    have := b4 j hj
    rw [m_X1_isAsBeforeCall_L16, if_neg (show ¬ (3 : Int32) ≤ nI j from nI_ge (b := 3) hj (by omega)), if_neg i10, if_pos (inb_nI hj (by omega)), nI_cl (by omega), (a5 j hj).1, nI_1]
    simp only [z0i (show s j < 2 ^ 31 by omega)]
  have hq : (nI h = (1 : Int32)) = (h = 1) := q_eq (b := 1) (by omega) (by omega)
  have c2 : T 9 2 = nI (s 0) := (a5 0 (by omega)).2
  have c3 : T 9 3 = nI (s 1) := (a5 1 (by omega)).2
  have c4 : T 9 4 = nI (s 2) := (a5 2 (by omega)).2
  have L : ∀ F, 4 ≤ F → ∃ v : Int32, (v = 0 ∨ v = 1) ∧ (if h = 1 then m_X1_isAsBeforeCall_L16 F 1 0 S else m_X1_isAsBeforeCall_L16 F 0 0 S) = some (v, S) ∧ m_X9_isClean T = some (v, T) := by
    intro F hF
    unfold m_X9_isClean
    simp only [if_pos y50, if_pos y52, if_pos y53, if_pos y54, n50, n52, n53, n54, a2, c2, c3, c4, hq, z0i (show s 0 < 2 ^ 31 by omega), z0i (show s 1 < 2 ^ 31 by omega), z0i (show s 2 < 2 ^ 31 by omega)]
    rw [show (0 : Int32) = nI 0 from rfl]
    by_cases hh : h = 1
    · rw [if_pos hh, if_pos hh]
      obtain ⟨f, rfl⟩ : ∃ f, F = f + 4 := ⟨F - 4, by omega⟩
      rw [st1 0 (f + 3) (by omega)]
      by_cases z0 : s 0 = 0
      · rw [if_pos z0, if_pos z0, st1 1 (f + 2) (by omega)]
        by_cases z1 : s 1 = 0
        · rw [if_pos z1, if_pos z1, st1 2 (f + 1) (by omega)]
          by_cases z2 : s 2 = 0
          · rw [if_pos z2, if_pos z2, m_X1_isAsBeforeCall_L16, if_pos (show (3 : Int32) ≤ nI (2 + 1) by decide)]
            exact ⟨1, Or.inr rfl, rfl, rfl⟩
          · rw [if_neg z2, if_neg z2]
            exact ⟨0, Or.inl rfl, l0 0 3 (f + 1) (by omega) (by omega), rfl⟩
        · rw [if_neg z1, if_neg z1]
          exact ⟨0, Or.inl rfl, l0 1 2 (f + 2) (by omega) (by omega), rfl⟩
      · rw [if_neg z0, if_neg z0]
        exact ⟨0, Or.inl rfl, l0 2 1 (f + 3) (by omega) (by omega), rfl⟩
    · rw [if_neg hh, if_neg hh]
      exact ⟨0, Or.inl rfl, l0 3 0 F (by omega) (by omega), rfl⟩
  unfold m_X1_isAsBeforeCall
  rw [a1]
  simp only [hq]
  exact L 10000 (by omega)
theorem sf1 (x : Int32) {T : St} {k : Nat} (hk : k ≤ 5) (e : T 30 3 = nI k) : ∀ (d j G : Nat), j + d = k → d < G → m_X9_isFirst_L4 G x 1 (nI j) T = some (1, T) := by
  intro d
  induction d with
  | zero =>
    intro j G hj hG
    obtain ⟨g, rfl⟩ : ∃ g, G = g + 1 := ⟨G - 1, by omega⟩
    rw [m_X9_isFirst_L4, e, if_pos (nI_le (by omega) (by omega))]; rfl
  | succ d ih =>
    intro j G hj hG
    obtain ⟨g, rfl⟩ : ∃ g, G = g + 1 := ⟨G - 1, by omega⟩
    rw [m_X9_isFirst_L4, e, if_neg (nI_ge (by omega) (by omega)), if_neg i10, nI_1]
    exact ih (j + 1) g (by omega) (by omega)
theorem sf_sim (x : Int32) {S T : St} {k : Nat} (hk : k ≤ 5) (e1 : S 20 1 = nI k) (e2 : T 30 3 = nI k) (e3 : S 1 = T 4) : ∀ (d j F G : Nat), j + d = k → d < F → d < G → ∃ v : Int32, (v = 0 ∨ v = 1) ∧ m_X4_startsFunction_L2 F x (nI j) S = some (v, S) ∧ m_X9_isFirst_L4 G x 0 (nI j) T = some (v, T) := by
  intro d
  induction d with
  | zero =>
    intro j F G hj hF hG
    obtain ⟨f, rfl⟩ : ∃ f, F = f + 1 := ⟨F - 1, by omega⟩
    obtain ⟨g, rfl⟩ : ∃ g, G = g + 1 := ⟨G - 1, by omega⟩
    refine ⟨0, Or.inl rfl, ?_, ?_⟩
    · rw [m_X4_startsFunction_L2, e1, if_pos (nI_le (by omega) (by omega))]; rfl
    · rw [m_X9_isFirst_L4, e2, if_pos (nI_le (by omega) (by omega))]; rfl
  | succ d ih =>
    intro j F G hj hF hG
    obtain ⟨f, rfl⟩ : ∃ f, F = f + 1 := ⟨F - 1, by omega⟩
    obtain ⟨g, rfl⟩ : ∃ g, G = g + 1 := ⟨G - 1, by omega⟩
    have i1 : inb (nI j) 5 = true := inb_nI (by omega) (by omega)
    rw [m_X4_startsFunction_L2, m_X9_isFirst_L4, e1, e2, if_neg (nI_ge (show j < k by omega) (by omega)), if_neg (nI_ge (show j < k by omega) (by omega)), if_pos rfl, if_pos i1, if_pos i1, nI_cl (by omega), e3, nI_1]
    by_cases hx : T 4 j = x
    · rw [if_pos hx, if_pos hx]
      exact ⟨1, Or.inr rfl, rfl, sf1 x hk e2 d (j + 1) g (by omega) (by omega)⟩
    · rw [if_neg hx, if_neg hx]
      exact ih (j + 1) f g (by omega) (by omega) (by omega)
theorem first_sim (x : Int32) {S T : St} (h : RF S T) : ∃ v : Int32, (v = 0 ∨ v = 1) ∧ m_X4_startsFunction x S = some (v, S) ∧ m_X9_isFirst x T = some (v, T) := by
  obtain ⟨f1, f2, f3, k, hk, ek, -⟩ := h
  exact sf_sim x hk ek (by rw [← f1]; exact ek) f2 k 0 10000 10000 (by omega) (by omega) (by omega)
