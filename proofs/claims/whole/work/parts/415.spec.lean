/-! packing: the bytes, and how they are put one behind another -/
def adv (d : Nat) : List Nat := if d ≤ 63 then [64 + d] else [2, d]
def bas (a r : Nat → Nat) : List Nat := if r 0 = a 0 then (if r 1 = a 1 then [] else [14, r 1]) else (if r 1 = a 1 then [13, r 0] else [12, r 0, r 1])
def sv (k x y : Nat) : List Nat := if y = x then [] else if y = 0 then [192 + k] else [128 + k, y]
def plB (a r : Nat → Nat) (d : Nat) : List Nat := adv d ++ (bas a r ++ (sv 0 (a 2) (r 2) ++ (sv 1 (a 3) (r 3) ++ sv 2 (a 4) (r 4))))
def rwN (S : St) (p k : Nat) : Nat := if k < 5 then (if k = 0 then (if (S 5 (5 * p + 1)).toNatClampNeg = 0 then 0 else 1) else if k = 1 then (if (S 5 (5 * p + 1)).toNatClampNeg = 0 then (S 5 (5 * p)).toNatClampNeg else (S 5 (5 * p + 1)).toNatClampNeg) else (S 5 (5 * p + k)).toNatClampNeg) else 0
def smR (a r : Nat → Nat) : Bool := decide (r 0 = a 0 ∧ r 1 = a 1 ∧ r 2 = a 2 ∧ r 3 = a 3 ∧ r 4 = a 4)
def prB (S : St) : Nat → (Nat → Nat) → Nat → Nat → List Nat
  | 0, _, _, _ => []
  | m + 1, a, t, p => if S 3 p = 0 then prB S m a t (p + 1) else if smR a (rwN S p) = true then prB S m a t (p + 1) else plB a (rwN S p) (p - t) ++ prB S m (rwN S p) p (p + 1)
def fr0 (k : Nat) : Nat := if k = 1 then 1 else 0
def fnB (S : St) (fi en : Nat) : List Nat := [(2 + (prB S (en - fi) fr0 fi fi).length) / 256, (2 + (prB S (en - fi) fr0 fi fi).length) % 256, fi, en - fi] ++ prB S (en - fi) fr0 fi fi
theorem adv_len (d : Nat) : (adv d).length ≤ 2 := by unfold adv; split <;> simp
theorem bas_len (a r : Nat → Nat) : (bas a r).length ≤ 3 := by
  unfold bas
  split
  · split <;> simp
  · split <;> simp
theorem sv_len (k x y : Nat) : (sv k x y).length ≤ 2 := by
  unfold sv
  split
  · simp
  · split <;> simp
theorem plB_len (a r : Nat → Nat) (d : Nat) : (plB a r d).length ≤ 11 := by
  unfold plB
  simp only [List.length_append]
  have h1 := adv_len d
  have h2 := bas_len a r
  have h3 := sv_len 0 (a 2) (r 2)
  have h4 := sv_len 1 (a 3) (r 3)
  have h5 := sv_len 2 (a 4) (r 4)
  omega
theorem prB_len (S : St) : ∀ (m : Nat) (a : Nat → Nat) (t p : Nat), (prB S m a t p).length ≤ 11 * m := by
  intro m
  induction m with
  | zero => intro a t p; exact Nat.le_refl 0
  | succ m ih =>
    intro a t p
    rw [prB]
    split
    · have := ih a t (p + 1); omega
    · split
      · have := ih a t (p + 1); omega
      · rw [List.length_append]
        have h1 := plB_len a (rwN S p) (p - t)
        have h2 := ih (rwN S p) p (p + 1)
        omega
theorem fnB_len (S : St) {fi en : Nat} : (fnB S fi en).length ≤ 4 + 11 * (en - fi) := by
  unfold fnB
  rw [List.length_append]
  have := prB_len S (en - fi) fr0 fi fi
  simp only [List.length_cons, List.length_nil]
  omega
theorem rwN_congr {S S1 : St} {p : Nat} (h : ∀ j, 5 * p ≤ j → j < 5 * p + 5 → S1 5 j = S 5 j) : rwN S1 p = rwN S p := by
  funext k
  unfold rwN
  by_cases hk : k < 5
  · rw [if_pos hk, if_pos hk, h _ (by omega) (by omega), h (5 * p) (by omega) (by omega), h (5 * p + k) (by omega) (by omega)]
  · rw [if_neg hk, if_neg hk]
theorem prB_congr {S S1 : St} : ∀ (m : Nat) (a : Nat → Nat) (t p : Nat), (∀ q, p ≤ q → q < p + m → S1 3 q = S 3 q) → (∀ j, 5 * p ≤ j → j < 5 * (p + m) → S1 5 j = S 5 j) → prB S1 m a t p = prB S m a t p := by
  intro m
  induction m with
  | zero => intro a t p _ _; rfl
  | succ m ih =>
    intro a t p h1 h2
    have e := rwN_congr (S := S) (S1 := S1) (p := p) (fun j a b => h2 j a (by omega))
    rw [prB, prB, h1 p (by omega) (by omega), e, ih a t (p + 1) (fun q a b => h1 q (by omega) (by omega)) (fun j a b => h2 j (by omega) (by omega)), ih (rwN S p) p (p + 1) (fun q a b => h1 q (by omega) (by omega)) (fun j a b => h2 j (by omega) (by omega))]
theorem fnB_congr {S S1 : St} {fi en : Nat} (hfe : fi ≤ en) (h1 : ∀ q, fi ≤ q → q < en → S1 3 q = S 3 q) (h2 : ∀ j, 5 * fi ≤ j → j < 5 * en → S1 5 j = S 5 j) : fnB S1 fi en = fnB S fi en := by
  unfold fnB
  rw [prB_congr (en - fi) fr0 fi fi (fun q a b => h1 q a (by omega)) (fun j a b => h2 j a (by omega))]
/-- the class's facts at a place -/
def KS (S : St) (p : Nat) : Prop := ∃ (h fr : Nat) (s : Nat → Nat), NB h fr s ∧ S 5 (5 * p) = nI h ∧ S 5 (5 * p + 1) = nI fr ∧ ∀ r, r < 3 → S 5 (5 * p + 2 + r) = nI (s r)
theorem KN.ks {S T : St} {p : Nat} (h : KN S T p) : KS S p := by
  obtain ⟨h, fr, s, b, k1, k2, k3, k4, k5⟩ := h
  exact ⟨h, fr, s, b, k1, k3, fun r hr => (k5 r hr).1⟩
def AB (a : Nat → Nat) : Prop := ∀ k, k < 5 → a k ≤ 30
theorem AB0 : AB fr0 := fun k _ => by unfold fr0; split <;> omega
theorem rw_vals {S : St} {p h fr : Nat} {s : Nat → Nat} (b : NB h fr s) (k1 : S 5 (5 * p) = nI h) (k2 : S 5 (5 * p + 1) = nI fr) (k3 : ∀ r, r < 3 → S 5 (5 * p + 2 + r) = nI (s r)) : rwN S p 0 = (if fr = 0 then 0 else 1) ∧ rwN S p 1 = (if fr = 0 then h else fr) ∧ (∀ r, r < 3 → rwN S p (2 + r) = s r) ∧ AB (rwN S p) := by
  obtain ⟨b1, b2, b3, b4⟩ := b
  have c1 : (nI h).toNatClampNeg = h := nI_cl (by omega)
  have c2 : (nI fr).toNatClampNeg = fr := nI_cl (by omega)
  have e0 : rwN S p 0 = (if fr = 0 then 0 else 1) := by
    unfold rwN
    rw [if_pos (by omega), if_pos rfl, k2, c2]
  have e1 : rwN S p 1 = (if fr = 0 then h else fr) := by
    unfold rwN
    rw [if_pos (by omega), if_neg (by omega), if_pos rfl, k2, c2, k1, c1]
  have e2 : ∀ r, r < 3 → rwN S p (2 + r) = s r := by
    intro r hr
    have := b4 r hr
    unfold rwN
    rw [if_pos (by omega), if_neg (by omega), if_neg (by omega), show 5 * p + (2 + r) = 5 * p + 2 + r by omega, k3 r hr, nI_cl (by omega)]
  refine ⟨e0, e1, e2, fun k hk => ?_⟩
  rcases (show k = 0 ∨ k = 1 ∨ 2 ≤ k by omega) with rfl | rfl | h2
  · rw [e0]; split <;> omega
  · rw [e1]; split <;> omega
  · obtain ⟨r, rfl⟩ : ∃ r, k = 2 + r := ⟨k - 2, by omega⟩
    rw [e2 r (by omega)]; exact b4 r (by omega)
theorem byB {S : St} : ∀ (m : Nat) (a : Nat → Nat) (t p : Nat), AB a → t ≤ p → p + m ≤ 96 → (∀ q, p ≤ q → q < p + m → S 3 q = 0 ∨ KS S q) → ∀ v, v ∈ prB S m a t p → v < 256 := by
  intro m
  induction m with
  | zero => intro a t p _ _ _ _ v hv; exact absurd hv (by simp [prB])
  | succ m ih =>
    intro a t p ha ht hp hK v hv
    rw [prB] at hv
    split at hv
    · exact ih a t (p + 1) ha (by omega) (by omega) (fun q h1 h2 => hK q (by omega) (by omega)) v hv
    · rename_i h3
      split at hv
      · exact ih a t (p + 1) ha (by omega) (by omega) (fun q h1 h2 => hK q (by omega) (by omega)) v hv
      · obtain ⟨h, fr, s, b, k1, k2, k3⟩ : KS S p := by
          rcases hK p (by omega) (by omega) with h | h
          · exact absurd h h3
          · exact h
        obtain ⟨-, -, -, hAB⟩ := rw_vals b k1 k2 k3
        rw [List.mem_append] at hv
        rcases hv with hv | hv
        · have r0 := hAB 0 (by omega)
          have r1 := hAB 1 (by omega)
          have r2 := hAB 2 (by omega)
          have r3 := hAB 3 (by omega)
          have r4 := hAB 4 (by omega)
          have svb : ∀ k x y, k ≤ 2 → y ≤ 30 → v ∈ sv k x y → v < 256 := by
            intro k x y hk hy hm
            unfold sv at hm
            split at hm
            · exact absurd hm (by simp)
            · split at hm <;> simp at hm <;> omega
          unfold plB at hv
          simp only [List.mem_append] at hv
          rcases hv with hv | hv | hv | hv | hv
          · unfold adv at hv
            split at hv <;> simp at hv <;> omega
          · unfold bas at hv
            split at hv
            · split at hv
              · exact absurd hv (by simp)
              · simp at hv; omega
            · split at hv
              · simp at hv; omega
              · simp at hv; omega
          · exact svb _ _ _ (by omega) r2 hv
          · exact svb _ _ _ (by omega) r3 hv
          · exact svb _ _ _ (by omega) r4 hv
        · exact ih (rwN S p) p (p + 1) hAB (by omega) (by omega) (fun q h1 h2 => hK q (by omega) (by omega)) v hv
theorem fnB_by {S : St} {fi en : Nat} (hfe : fi ≤ en) (he : en ≤ 96) (hK : ∀ q, fi ≤ q → q < en → S 3 q = 0 ∨ KS S q) : ∀ v, v ∈ fnB S fi en → v < 256 := by
  intro v hv
  unfold fnB at hv
  rw [List.mem_append] at hv
  have hl := prB_len S (en - fi) fr0 fi fi
  rcases hv with hv | hv
  · simp only [List.mem_cons, List.not_mem_nil, or_false] at hv
    omega
  · exact byB (en - fi) fr0 fi fi AB0 (Nat.le_refl _) (by omega) (fun q h1 h2 => hK q h1 (by omega)) v hv
/-- an array with a list put in from a place on -/
def ap (m : Nat) (L : List Nat) (f g : Nat → Int32) : Prop := ∀ i, g i = if m ≤ i ∧ i < m + L.length then nI (L.getD (i - m) 0) else f i
theorem ap.nil (m : Nat) (f : Nat → Int32) : ap m [] f f := fun i => by
  rw [if_neg]
  simp only [List.length_nil]
  omega
theorem ap.trans {m : Nat} {L1 L2 : List Nat} {f g h : Nat → Int32} (a : ap m L1 f g) (b : ap (m + L1.length) L2 g h) : ap m (L1 ++ L2) f h := by
  intro i
  rw [b i, a i, List.length_append]
  by_cases h1 : m ≤ i ∧ i < m + L1.length
  · rw [if_neg (show ¬ (m + L1.length ≤ i ∧ i < m + L1.length + L2.length) by omega), if_pos h1, if_pos (show m ≤ i ∧ i < m + (L1.length + L2.length) by omega), List.getD_eq_getElem?_getD, List.getD_eq_getElem?_getD, List.getElem?_append_left (by omega)]
  · by_cases h2 : m + L1.length ≤ i ∧ i < m + L1.length + L2.length
    · rw [if_pos h2, if_pos (show m ≤ i ∧ i < m + (L1.length + L2.length) by omega), List.getD_eq_getElem?_getD, List.getD_eq_getElem?_getD, List.getElem?_append_right (by omega), show i - m - L1.length = i - (m + L1.length) by omega]
    · rw [if_neg h2, if_neg h1, if_neg (show ¬ (m ≤ i ∧ i < m + (L1.length + L2.length)) by omega)]
theorem ap.one (m v : Nat) {f g : Nat → Int32} (h : ∀ i, g i = if i = m then nI v else f i) : ap m [v] f g := by
  intro i
  rw [h i]
  by_cases e : i = m
  · subst e
    rw [if_pos rfl, if_pos ⟨Nat.le_refl _, by simp⟩, Nat.sub_self]; rfl
  · rw [if_neg e, if_neg (show ¬ (m ≤ i ∧ i < m + [v].length) by simp only [List.length_cons, List.length_nil]; omega)]
theorem ap.byte {m : Nat} {L : List Nat} {f g : Nat → Int32} (h : ap m L f g) (hf : ∀ i, byte (f i)) (hL : ∀ v, v ∈ L → v < 256) : ∀ i, byte (g i) := by
  intro i
  rw [h i]
  split
  · rename_i q
    refine byteN (hL _ ?_)
    rw [List.getD_eq_getElem?_getD, List.getElem?_eq_getElem (show i - m < L.length by omega)]
    exact List.getElem_mem _
  · exact hf i
