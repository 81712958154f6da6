/-! ===== worlds side by side; calls of one of them ===== -/
theorem mid_P {D : va_G} {cl : List vw_C} {w1 w2 w3 : va_W} {H : Heap} (h : va_P D cl (w1 ++ (w2 ++ w3)) H) : va_P D cl w2 H := fun k q hk => h (w1.length + k) q (by
  have hlt := (List.getElem?_eq_some_iff.mp hk).1
  rw [List.getElem?_append_right (by omega), Nat.add_sub_cancel_left, List.getElem?_append_left hlt]; exact hk)
theorem mid_D {A : Nat → Prop} {w1 w2 w3 : va_W} (h : va_D A (w1 ++ (w2 ++ w3))) : va_D A w2 := by
  have key : ∀ (k : Nat) (q : Nat × va_E), w2[k]? = some q → (w1 ++ (w2 ++ w3))[w1.length + k]? = some q := fun k q hk => by
    have hlt := (List.getElem?_eq_some_iff.mp hk).1
    rw [List.getElem?_append_right (by omega), Nat.add_sub_cancel_left, List.getElem?_append_left hlt]; exact hk
  refine ⟨fun i j p q hi hj e => ?_, fun k q hk => h.2 _ q (key k q hk)⟩
  have := h.1 _ _ p q (key i p hi) (key j q hj) e
  omega
theorem join3 {A : Nat → Prop} {D : va_G} {cl : List vw_C} {w1 w2 w3 w2' : va_W} {H H1 : Heap} (hP : va_P D cl (w1 ++ (w2 ++ w3)) H) (hD : va_D A (w1 ++ (w2 ++ w3))) (hk : ∀ q : Nat, q < H.size → ¬ va_A w2 H.size q → H1[q]? = H[q]?) (hF : ∀ q, va_A w2 H.size q → A q) (hP1 : va_P D cl w2' H1) (hD1 : va_D (va_A w2 H.size) w2') : va_P D cl (w1 ++ (w2' ++ w3)) H1 ∧ va_D A (w1 ++ (w2' ++ w3)) := by
  have k1 : ∀ (k : Nat) (q : Nat × va_E), w1[k]? = some q → k < w1.length ∧ (w1 ++ (w2 ++ w3))[k]? = some q := fun k q hq => by
    have hlt := (List.getElem?_eq_some_iff.mp hq).1
    exact ⟨hlt, by rw [List.getElem?_append_left hlt]; exact hq⟩
  have k2 : ∀ (k : Nat) (q : Nat × va_E), w2[k]? = some q → k < w2.length ∧ (w1 ++ (w2 ++ w3))[w1.length + k]? = some q := fun k q hq => by
    have hlt := (List.getElem?_eq_some_iff.mp hq).1
    exact ⟨hlt, by rw [List.getElem?_append_right (by omega), Nat.add_sub_cancel_left, List.getElem?_append_left hlt]; exact hq⟩
  have k3 : ∀ (k : Nat) (q : Nat × va_E), w3[k]? = some q → (w1 ++ (w2 ++ w3))[w1.length + (w2.length + k)]? = some q := fun k q hq => by
    rw [List.getElem?_append_right (by omega), Nat.add_sub_cancel_left, List.getElem?_append_right (by omega), Nat.add_sub_cancel_left]; exact hq
  have ap1 : ∀ (k : Nat) (q : Nat × va_E), w1[k]? = some q → q.1 < H.size ∧ ¬ va_A w2 H.size q.1 := fun k q hq => by
    obtain ⟨hl, hi⟩ := k1 k q hq
    have hs := (hP _ q hi).lt
    refine ⟨hs, fun h => ?_⟩
    rcases h with ⟨j, e, hj⟩ | h
    · obtain ⟨hl2, hj2⟩ := k2 j _ hj
      have := hD.1 _ _ q (q.1, e) hi hj2 rfl
      omega
    · omega
  have ap3 : ∀ (k : Nat) (q : Nat × va_E), w3[k]? = some q → q.1 < H.size ∧ ¬ va_A w2 H.size q.1 := fun k q hq => by
    have hi := k3 k q hq
    have hs := (hP _ q hi).lt
    refine ⟨hs, fun h => ?_⟩
    rcases h with ⟨j, e, hj⟩ | h
    · obtain ⟨hl2, hj2⟩ := k2 j _ hj
      have := hD.1 _ _ q (q.1, e) hi hj2 rfl
      omega
    · omega
  have hD3 : va_D A w3 := ⟨fun i j p q hi hj e => by
    have := hD.1 _ _ p q (k3 i p hi) (k3 j q hj) e
    omega, fun k q hq => hD.2 _ q (k3 k q hq)⟩
  have hDw1 : va_D A w1 := ⟨fun i j p q hi hj e => hD.1 _ _ p q (k1 i p hi).2 (k1 j q hj).2 e, fun k q hq => hD.2 _ q (k1 k q hq).2⟩
  refine ⟨va_P.app (fun k q hq => ?_) (va_P.app hP1 (fun k q hq => ?_)), va_D.app hDw1 (va_D.app (hD1.weaken (fun k q _ h => hF q.1 h)) hD3 (fun i j x y hx hy e => ?_)) (fun i j x y hx hy e => ?_)⟩
  · exact (hP _ q (k1 k q hq).2).kept (hk q.1 (ap1 k q hq).1 (ap1 k q hq).2)
  · exact (hP _ q (k3 k q hq)).kept (hk q.1 (ap3 k q hq).1 (ap3 k q hq).2)
  · exact (ap3 j y hy).2 (by rw [← e]; exact hD1.2 i x hx)
  · by_cases hj : j < w2'.length
    · rw [List.getElem?_append_left hj] at hy
      exact (ap1 i x hx).2 (by rw [e]; exact hD1.2 j y hy)
    · rw [List.getElem?_append_right (by omega)] at hy
      have a1 := (k1 i x hx).1
      have := hD.1 _ _ x y (k1 i x hx).2 (k3 _ y hy) e
      omega
theorem CX.sub {p : Program} {s : State} {m : MethodId} {args : Array Value} {meth : Method} {c : Code} {cc : ByteArray} {nL : Nat} {ret : Option FieldType} {own : String} {D : va_G} {tys tys' : List (ClassId × FieldType)} {tZ : Nat} {A : Nat → Prop} (h : CX p s m args meth c cc nL ret own D tys tZ A) (is : List Nat) (hs : is.filterMap (fun i => tys[i]?) = tys') : CX p s m args meth c cc nL ret own D tys' tZ A := ⟨h.1, h.2.1.sub is hs, h.2.2⟩
section GCM
variable {p : Program} {l : Launch} {e : Env} {R : Room} {s : State} {m : MethodId} {args : Array Value} {below : List Frame} {meth : Method} {c : Code} {cc : ByteArray} {nL : Nat} {ret : Option FieldType} {own : String} {D : va_G} {tys : List (ClassId × FieldType)} {tZ : Nat} {A : Nat → Prop} {Q : State → Prop} {pc : Nat} {L : List (Nat × Value)} {rest : List Value} {ws : va_W} {cells slots : Nat}
theorem gc_iadd (hC : CX p s m args meth c cc nL ret own D tys tZ A) {x y : Int32} {pc' : Nat} (hp : pc + 1 = pc') (hd : decode cc pc = .ok (.iadd, 1)) (k : GC p l e R s m args below meth c nL D A Q pc' L (.int (x + y) :: rest) ws cells slots) : GC p l e R s m args below meth c nL D A Q pc L (.int y :: .int x :: rest) ws cells slots := by
  subst hp
  exact fun H locs ls hP hD hS hl => lv_iadd hC.1.1 hC.1.2.1 hd (k H locs ls hP hD hS hl)
theorem gc_isub (hC : CX p s m args meth c cc nL ret own D tys tZ A) {x y : Int32} {pc' : Nat} (hp : pc + 1 = pc') (hd : decode cc pc = .ok (.isub, 1)) (k : GC p l e R s m args below meth c nL D A Q pc' L (.int (x - y) :: rest) ws cells slots) : GC p l e R s m args below meth c nL D A Q pc L (.int y :: .int x :: rest) ws cells slots := by
  subst hp
  exact fun H locs ls hP hD hS hl => lv_isub hC.1.1 hC.1.2.1 hd (k H locs ls hP hD hS hl)
theorem gc_imul (hC : CX p s m args meth c cc nL ret own D tys tZ A) {x y : Int32} {pc' : Nat} (hp : pc + 1 = pc') (hd : decode cc pc = .ok (.imul, 1)) (k : GC p l e R s m args below meth c nL D A Q pc' L (.int (x * y) :: rest) ws cells slots) : GC p l e R s m args below meth c nL D A Q pc L (.int y :: .int x :: rest) ws cells slots := by
  subst hp
  exact fun H locs ls hP hD hS hl => lv_imul hC.1.1 hC.1.2.1 hd (k H locs ls hP hD hS hl)
theorem gc_iand (hC : CX p s m args meth c cc nL ret own D tys tZ A) {x y : Int32} {pc' : Nat} (hp : pc + 1 = pc') (hd : decode cc pc = .ok (.iand, 1)) (k : GC p l e R s m args below meth c nL D A Q pc' L (.int (x &&& y) :: rest) ws cells slots) : GC p l e R s m args below meth c nL D A Q pc L (.int y :: .int x :: rest) ws cells slots := by
  subst hp
  exact fun H locs ls hP hD hS hl => lv_iand hC.1.1 hC.1.2.1 hd (k H locs ls hP hD hS hl)
theorem gc_ishl (hC : CX p s m args meth c cc nL ret own D tys tZ A) {x y : Int32} {pc' : Nat} (hp : pc + 1 = pc') (hd : decode cc pc = .ok (.ishl, 1)) (k : GC p l e R s m args below meth c nL D A Q pc' L (.int (x <<< (y &&& 31)) :: rest) ws cells slots) : GC p l e R s m args below meth c nL D A Q pc L (.int y :: .int x :: rest) ws cells slots := by
  subst hp
  exact fun H locs ls hP hD hS hl => lv_ishl hC.1.1 hC.1.2.1 hd (k H locs ls hP hD hS hl)
theorem gc_ishr (hC : CX p s m args meth c cc nL ret own D tys tZ A) {x y : Int32} {pc' : Nat} (hp : pc + 1 = pc') (hd : decode cc pc = .ok (.ishr, 1)) (k : GC p l e R s m args below meth c nL D A Q pc' L (.int (x >>> (y &&& 31)) :: rest) ws cells slots) : GC p l e R s m args below meth c nL D A Q pc L (.int y :: .int x :: rest) ws cells slots := by
  subst hp
  exact fun H locs ls hP hD hS hl => lv_ishr hC.1.1 hC.1.2.1 hd (k H locs ls hP hD hS hl)
theorem gc_ladd (hC : CX p s m args meth c cc nL ret own D tys tZ A) {x y : Int64} {pc' : Nat} (hp : pc + 1 = pc') (hd : decode cc pc = .ok (.ladd, 1)) (k : GC p l e R s m args below meth c nL D A Q pc' L (.long (x + y) :: rest) ws cells slots) : GC p l e R s m args below meth c nL D A Q pc L (.long y :: .long x :: rest) ws cells slots := by
  subst hp
  exact fun H locs ls hP hD hS hl => lv_ladd hC.1.1 hC.1.2.1 hd (k H locs ls hP hD hS hl)
theorem gc_lsub (hC : CX p s m args meth c cc nL ret own D tys tZ A) {x y : Int64} {pc' : Nat} (hp : pc + 1 = pc') (hd : decode cc pc = .ok (.lsub, 1)) (k : GC p l e R s m args below meth c nL D A Q pc' L (.long (x - y) :: rest) ws cells slots) : GC p l e R s m args below meth c nL D A Q pc L (.long y :: .long x :: rest) ws cells slots := by
  subst hp
  exact fun H locs ls hP hD hS hl => lv_lsub hC.1.1 hC.1.2.1 hd (k H locs ls hP hD hS hl)
theorem gc_land (hC : CX p s m args meth c cc nL ret own D tys tZ A) {x y : Int64} {pc' : Nat} (hp : pc + 1 = pc') (hd : decode cc pc = .ok (.land, 1)) (k : GC p l e R s m args below meth c nL D A Q pc' L (.long (x &&& y) :: rest) ws cells slots) : GC p l e R s m args below meth c nL D A Q pc L (.long y :: .long x :: rest) ws cells slots := by
  subst hp
  exact fun H locs ls hP hD hS hl => lv_land hC.1.1 hC.1.2.1 hd (k H locs ls hP hD hS hl)
theorem gc_lor (hC : CX p s m args meth c cc nL ret own D tys tZ A) {x y : Int64} {pc' : Nat} (hp : pc + 1 = pc') (hd : decode cc pc = .ok (.lor, 1)) (k : GC p l e R s m args below meth c nL D A Q pc' L (.long (x ||| y) :: rest) ws cells slots) : GC p l e R s m args below meth c nL D A Q pc L (.long y :: .long x :: rest) ws cells slots := by
  subst hp
  exact fun H locs ls hP hD hS hl => lv_lor hC.1.1 hC.1.2.1 hd (k H locs ls hP hD hS hl)
theorem gc_idiv (hC : CX p s m args meth c cc nL ret own D tys tZ A) {x y : Int32} {pc' : Nat} (hp : pc + 1 = pc') (hd : decode cc pc = .ok (.idiv, 1)) (hy : ¬ y = 0) (k : GC p l e R s m args below meth c nL D A Q pc' L (.int (x / y) :: rest) ws cells slots) : GC p l e R s m args below meth c nL D A Q pc L (.int y :: .int x :: rest) ws cells slots := by
  subst hp
  exact fun H locs ls hP hD hS hl => lv_idiv hC.1.1 hC.1.2.1 hd hy (k H locs ls hP hD hS hl)
theorem gc_irem (hC : CX p s m args meth c cc nL ret own D tys tZ A) {x y : Int32} {pc' : Nat} (hp : pc + 1 = pc') (hd : decode cc pc = .ok (.irem, 1)) (hy : ¬ y = 0) (k : GC p l e R s m args below meth c nL D A Q pc' L (.int (x - x / y * y) :: rest) ws cells slots) : GC p l e R s m args below meth c nL D A Q pc L (.int y :: .int x :: rest) ws cells slots := by
  subst hp
  exact fun H locs ls hP hD hS hl => lv_irem hC.1.1 hC.1.2.1 hd hy (k H locs ls hP hD hS hl)
theorem gc_ineg (hC : CX p s m args meth c cc nL ret own D tys tZ A) {x : Int32} {pc' : Nat} (hp : pc + 1 = pc') (hd : decode cc pc = .ok (.ineg, 1)) (k : GC p l e R s m args below meth c nL D A Q pc' L (.int (-x) :: rest) ws cells slots) : GC p l e R s m args below meth c nL D A Q pc L (.int x :: rest) ws cells slots := by
  subst hp
  exact fun H locs ls hP hD hS hl => lv_ineg hC.1.1 hC.1.2.1 hd (k H locs ls hP hD hS hl)
theorem gc_i2l (hC : CX p s m args meth c cc nL ret own D tys tZ A) {x : Int32} {pc' : Nat} (hp : pc + 1 = pc') (hd : decode cc pc = .ok (.i2l, 1)) (k : GC p l e R s m args below meth c nL D A Q pc' L (.long (x.toInt64) :: rest) ws cells slots) : GC p l e R s m args below meth c nL D A Q pc L (.int x :: rest) ws cells slots := by
  subst hp
  exact fun H locs ls hP hD hS hl => lv_i2l hC.1.1 hC.1.2.1 hd rfl (k H locs ls hP hD hS hl)
theorem gc_l2i (hC : CX p s m args meth c cc nL ret own D tys tZ A) {x : Int64} {pc' : Nat} (hp : pc + 1 = pc') (hd : decode cc pc = .ok (.l2i, 1)) (k : GC p l e R s m args below meth c nL D A Q pc' L (.int (x.toInt32) :: rest) ws cells slots) : GC p l e R s m args below meth c nL D A Q pc L (.long x :: rest) ws cells slots := by
  subst hp
  exact fun H locs ls hP hD hS hl => lv_l2i hC.1.1 hC.1.2.1 hd rfl (k H locs ls hP hD hS hl)
theorem gc_lushr (hC : CX p s m args meth c cc nL ret own D tys tZ A) {x : Int64} {y : Int32} {pc' : Nat} (hp : pc + 1 = pc') (hd : decode cc pc = .ok (.lushr, 1)) (k : GC p l e R s m args below meth c nL D A Q pc' L (.long ((x.toUInt64 >>> (y.toInt64.toUInt64 &&& Int64.toUInt64 63)).toInt64) :: rest) ws cells slots) : GC p l e R s m args below meth c nL D A Q pc L (.int y :: .long x :: rest) ws cells slots := by
  subst hp
  exact fun H locs ls hP hD hS hl => lv_lushr hC.1.1 hC.1.2.1 hd rfl (k H locs ls hP hD hS hl)
theorem gc_lshr (hC : CX p s m args meth c cc nL ret own D tys tZ A) {x : Int64} {y : Int32} {pc' : Nat} (hp : pc + 1 = pc') (hd : decode cc pc = .ok (.lshr, 1)) (k : GC p l e R s m args below meth c nL D A Q pc' L (.long (x >>> (y.toInt64 &&& 63)) :: rest) ws cells slots) : GC p l e R s m args below meth c nL D A Q pc L (.int y :: .long x :: rest) ws cells slots := by
  subst hp
  exact fun H locs ls hP hD hS hl => lv_lshr hC.1.1 hC.1.2.1 hd rfl (k H locs ls hP hD hS hl)
theorem gc_lshl (hC : CX p s m args meth c cc nL ret own D tys tZ A) {x : Int64} {y : Int32} {pc' : Nat} (hp : pc + 1 = pc') (hd : decode cc pc = .ok (.lshl, 1)) (k : GC p l e R s m args below meth c nL D A Q pc' L (.long (x <<< (y.toInt64 &&& 63)) :: rest) ws cells slots) : GC p l e R s m args below meth c nL D A Q pc L (.int y :: .long x :: rest) ws cells slots := by
  subst hp
  exact fun H locs ls hP hD hS hl => lv_lshl hC.1.1 hC.1.2.1 hd rfl (k H locs ls hP hD hS hl)
theorem gc_if_eq (hC : CX p s m args meth c cc nL ret own D tys tZ A) {x : Int32} {off : Int} (tgt : Nat) {pc' : Nat} (hp : pc + 3 = pc') (hd : decode cc pc = .ok (.ifCond .eq off, 3)) (ht : (pc : Int) + off = (tgt : Int)) (kt : x = 0 → GC p l e R s m args below meth c nL D A Q tgt L rest ws cells slots) (kf : ¬ x = 0 → GC p l e R s m args below meth c nL D A Q pc' L rest ws cells slots) : GC p l e R s m args below meth c nL D A Q pc L (.int x :: rest) ws cells slots := by
  subst hp
  exact fun H locs ls hP hD hS hl => lv_if_eq hC.1.1 hC.1.2.1 hd ht (fun h => kt h H locs ls hP hD hS hl) (fun h => kf h H locs ls hP hD hS hl)
theorem gc_icmp_eq (hC : CX p s m args meth c cc nL ret own D tys tZ A) {x y : Int32} {off : Int} (tgt : Nat) {pc' : Nat} (hp : pc + 3 = pc') (hd : decode cc pc = .ok (.if_icmp .eq off, 3)) (ht : (pc : Int) + off = (tgt : Int)) (kt : x = y → GC p l e R s m args below meth c nL D A Q tgt L rest ws cells slots) (kf : ¬ x = y → GC p l e R s m args below meth c nL D A Q pc' L rest ws cells slots) : GC p l e R s m args below meth c nL D A Q pc L (.int y :: .int x :: rest) ws cells slots := by
  subst hp
  exact fun H locs ls hP hD hS hl => lv_icmp_eq hC.1.1 hC.1.2.1 hd ht (fun h => kt h H locs ls hP hD hS hl) (fun h => kf h H locs ls hP hD hS hl)
theorem gc_if_ne (hC : CX p s m args meth c cc nL ret own D tys tZ A) {x : Int32} {off : Int} (tgt : Nat) {pc' : Nat} (hp : pc + 3 = pc') (hd : decode cc pc = .ok (.ifCond .ne off, 3)) (ht : (pc : Int) + off = (tgt : Int)) (kf : x = 0 → GC p l e R s m args below meth c nL D A Q pc' L rest ws cells slots) (kt : ¬ x = 0 → GC p l e R s m args below meth c nL D A Q tgt L rest ws cells slots) : GC p l e R s m args below meth c nL D A Q pc L (.int x :: rest) ws cells slots := by
  subst hp
  exact fun H locs ls hP hD hS hl => lv_if_ne hC.1.1 hC.1.2.1 hd ht (fun h => kt h H locs ls hP hD hS hl) (fun h => kf h H locs ls hP hD hS hl)
theorem gc_icmp_ne (hC : CX p s m args meth c cc nL ret own D tys tZ A) {x y : Int32} {off : Int} (tgt : Nat) {pc' : Nat} (hp : pc + 3 = pc') (hd : decode cc pc = .ok (.if_icmp .ne off, 3)) (ht : (pc : Int) + off = (tgt : Int)) (kf : x = y → GC p l e R s m args below meth c nL D A Q pc' L rest ws cells slots) (kt : ¬ x = y → GC p l e R s m args below meth c nL D A Q tgt L rest ws cells slots) : GC p l e R s m args below meth c nL D A Q pc L (.int y :: .int x :: rest) ws cells slots := by
  subst hp
  exact fun H locs ls hP hD hS hl => lv_icmp_ne hC.1.1 hC.1.2.1 hd ht (fun h => kt h H locs ls hP hD hS hl) (fun h => kf h H locs ls hP hD hS hl)
theorem gc_if_lt (hC : CX p s m args meth c cc nL ret own D tys tZ A) {x : Int32} {off : Int} (tgt : Nat) {pc' : Nat} (hp : pc + 3 = pc') (hd : decode cc pc = .ok (.ifCond .lt off, 3)) (ht : (pc : Int) + off = (tgt : Int)) (kt : x < 0 → GC p l e R s m args below meth c nL D A Q tgt L rest ws cells slots) (kf : ¬ x < 0 → GC p l e R s m args below meth c nL D A Q pc' L rest ws cells slots) : GC p l e R s m args below meth c nL D A Q pc L (.int x :: rest) ws cells slots := by
  subst hp
  exact fun H locs ls hP hD hS hl => lv_if_lt hC.1.1 hC.1.2.1 hd ht (fun h => kt h H locs ls hP hD hS hl) (fun h => kf h H locs ls hP hD hS hl)
theorem gc_icmp_lt (hC : CX p s m args meth c cc nL ret own D tys tZ A) {x y : Int32} {off : Int} (tgt : Nat) {pc' : Nat} (hp : pc + 3 = pc') (hd : decode cc pc = .ok (.if_icmp .lt off, 3)) (ht : (pc : Int) + off = (tgt : Int)) (kt : x < y → GC p l e R s m args below meth c nL D A Q tgt L rest ws cells slots) (kf : ¬ x < y → GC p l e R s m args below meth c nL D A Q pc' L rest ws cells slots) : GC p l e R s m args below meth c nL D A Q pc L (.int y :: .int x :: rest) ws cells slots := by
  subst hp
  exact fun H locs ls hP hD hS hl => lv_icmp_lt hC.1.1 hC.1.2.1 hd ht (fun h => kt h H locs ls hP hD hS hl) (fun h => kf h H locs ls hP hD hS hl)
theorem gc_if_ge (hC : CX p s m args meth c cc nL ret own D tys tZ A) {x : Int32} {off : Int} (tgt : Nat) {pc' : Nat} (hp : pc + 3 = pc') (hd : decode cc pc = .ok (.ifCond .ge off, 3)) (ht : (pc : Int) + off = (tgt : Int)) (kt : 0 ≤ x → GC p l e R s m args below meth c nL D A Q tgt L rest ws cells slots) (kf : ¬ 0 ≤ x → GC p l e R s m args below meth c nL D A Q pc' L rest ws cells slots) : GC p l e R s m args below meth c nL D A Q pc L (.int x :: rest) ws cells slots := by
  subst hp
  exact fun H locs ls hP hD hS hl => lv_if_ge hC.1.1 hC.1.2.1 hd ht (fun h => kt h H locs ls hP hD hS hl) (fun h => kf h H locs ls hP hD hS hl)
theorem gc_icmp_ge (hC : CX p s m args meth c cc nL ret own D tys tZ A) {x y : Int32} {off : Int} (tgt : Nat) {pc' : Nat} (hp : pc + 3 = pc') (hd : decode cc pc = .ok (.if_icmp .ge off, 3)) (ht : (pc : Int) + off = (tgt : Int)) (kt : y ≤ x → GC p l e R s m args below meth c nL D A Q tgt L rest ws cells slots) (kf : ¬ y ≤ x → GC p l e R s m args below meth c nL D A Q pc' L rest ws cells slots) : GC p l e R s m args below meth c nL D A Q pc L (.int y :: .int x :: rest) ws cells slots := by
  subst hp
  exact fun H locs ls hP hD hS hl => lv_icmp_ge hC.1.1 hC.1.2.1 hd ht (fun h => kt h H locs ls hP hD hS hl) (fun h => kf h H locs ls hP hD hS hl)
theorem gc_if_gt (hC : CX p s m args meth c cc nL ret own D tys tZ A) {x : Int32} {off : Int} (tgt : Nat) {pc' : Nat} (hp : pc + 3 = pc') (hd : decode cc pc = .ok (.ifCond .gt off, 3)) (ht : (pc : Int) + off = (tgt : Int)) (kt : 0 < x → GC p l e R s m args below meth c nL D A Q tgt L rest ws cells slots) (kf : ¬ 0 < x → GC p l e R s m args below meth c nL D A Q pc' L rest ws cells slots) : GC p l e R s m args below meth c nL D A Q pc L (.int x :: rest) ws cells slots := by
  subst hp
  exact fun H locs ls hP hD hS hl => lv_if_gt hC.1.1 hC.1.2.1 hd ht (fun h => kt h H locs ls hP hD hS hl) (fun h => kf h H locs ls hP hD hS hl)
theorem gc_icmp_gt (hC : CX p s m args meth c cc nL ret own D tys tZ A) {x y : Int32} {off : Int} (tgt : Nat) {pc' : Nat} (hp : pc + 3 = pc') (hd : decode cc pc = .ok (.if_icmp .gt off, 3)) (ht : (pc : Int) + off = (tgt : Int)) (kt : y < x → GC p l e R s m args below meth c nL D A Q tgt L rest ws cells slots) (kf : ¬ y < x → GC p l e R s m args below meth c nL D A Q pc' L rest ws cells slots) : GC p l e R s m args below meth c nL D A Q pc L (.int y :: .int x :: rest) ws cells slots := by
  subst hp
  exact fun H locs ls hP hD hS hl => lv_icmp_gt hC.1.1 hC.1.2.1 hd ht (fun h => kt h H locs ls hP hD hS hl) (fun h => kf h H locs ls hP hD hS hl)
theorem gc_if_le (hC : CX p s m args meth c cc nL ret own D tys tZ A) {x : Int32} {off : Int} (tgt : Nat) {pc' : Nat} (hp : pc + 3 = pc') (hd : decode cc pc = .ok (.ifCond .le off, 3)) (ht : (pc : Int) + off = (tgt : Int)) (kt : x ≤ 0 → GC p l e R s m args below meth c nL D A Q tgt L rest ws cells slots) (kf : ¬ x ≤ 0 → GC p l e R s m args below meth c nL D A Q pc' L rest ws cells slots) : GC p l e R s m args below meth c nL D A Q pc L (.int x :: rest) ws cells slots := by
  subst hp
  exact fun H locs ls hP hD hS hl => lv_if_le hC.1.1 hC.1.2.1 hd ht (fun h => kt h H locs ls hP hD hS hl) (fun h => kf h H locs ls hP hD hS hl)
theorem gc_icmp_le (hC : CX p s m args meth c cc nL ret own D tys tZ A) {x y : Int32} {off : Int} (tgt : Nat) {pc' : Nat} (hp : pc + 3 = pc') (hd : decode cc pc = .ok (.if_icmp .le off, 3)) (ht : (pc : Int) + off = (tgt : Int)) (kt : x ≤ y → GC p l e R s m args below meth c nL D A Q tgt L rest ws cells slots) (kf : ¬ x ≤ y → GC p l e R s m args below meth c nL D A Q pc' L rest ws cells slots) : GC p l e R s m args below meth c nL D A Q pc L (.int y :: .int x :: rest) ws cells slots := by
  subst hp
  exact fun H locs ls hP hD hS hl => lv_icmp_le hC.1.1 hC.1.2.1 hd ht (fun h => kt h H locs ls hP hD hS hl) (fun h => kf h H locs ls hP hD hS hl)
theorem gc_iload (hC : CX p s m args meth c cc nL ret own D tys tZ A) {i : Nat} {x : Int32} {pc' : Nat} (hp : pc + 2 = pc') (hd : decode cc pc = .ok (.iload i, 2)) (hl0 : L.lookup i = some (.int x)) (k : GC p l e R s m args below meth c nL D A Q pc' L (.int x :: rest) ws cells slots) : GC p l e R s m args below meth c nL D A Q pc L rest ws cells slots := by
  subst hp
  exact fun H locs ls hP hD hS hl => lv_iload hC.1.1 hC.1.2.1 hd (lk_at hl hl0) (k H locs ls hP hD hS hl)
theorem gc_istore (hC : CX p s m args meth c cc nL ret own D tys tZ A) {i : Nat} {x : Int32} (L' : List (Nat × Value)) {pc' : Nat} (hp : pc + 2 = pc') (hd : decode cc pc = .ok (.istore i, 2)) (hn : i < nL) (hL : (i, Value.int x) :: L.filter (fun q => !(q.1 == i) && !(q.1 + 1 == i && q.2.category == 2)) = L') (k : GC p l e R s m args below meth c nL D A Q pc' L' rest ws cells slots) : GC p l e R s m args below meth c nL D A Q pc L (.int x :: rest) ws cells slots := by
  subst hp
  exact fun H locs ls hP hD hS hl => lv_istore hC.1.1 hC.1.2.1 hd hl hn hL (fun ls' hl' => k H locs ls' hP hD hS hl')
theorem gc_astore (hC : CX p s m args meth c cc nL ret own D tys tZ A) {i : Nat} {x : Nat} (L' : List (Nat × Value)) {pc' : Nat} (hp : pc + 2 = pc') (hd : decode cc pc = .ok (.astore i, 2)) (hn : i < nL) (hL : (i, Value.ref x) :: L.filter (fun q => !(q.1 == i) && !(q.1 + 1 == i && q.2.category == 2)) = L') (k : GC p l e R s m args below meth c nL D A Q pc' L' rest ws cells slots) : GC p l e R s m args below meth c nL D A Q pc L (.ref x :: rest) ws cells slots := by
  subst hp
  exact fun H locs ls hP hD hS hl => lv_astore hC.1.1 hC.1.2.1 hd hl hn hL (fun ls' hl' => k H locs ls' hP hD hS hl')
theorem gc_astore_n (hC : CX p s m args meth c cc nL ret own D tys tZ A) {f : Fin 4} {x : Nat} (L' : List (Nat × Value)) {pc' : Nat} (hp : pc + 1 = pc') (hd : decode cc pc = .ok (.astore_n f, 1)) (hn : (f : Nat) < nL) (hL : ((f : Nat), Value.ref x) :: L.filter (fun q => !(q.1 == (f : Nat)) && !(q.1 + 1 == (f : Nat) && q.2.category == 2)) = L') (k : GC p l e R s m args below meth c nL D A Q pc' L' rest ws cells slots) : GC p l e R s m args below meth c nL D A Q pc L (.ref x :: rest) ws cells slots := by
  subst hp
  exact fun H locs ls hP hD hS hl => lv_astore_n hC.1.1 hC.1.2.1 hd rfl hl hn hL (fun ls' hl' => k H locs ls' hP hD hS hl')
theorem gc_ldc2 (hC : CX p s m args meth c cc nL ret own D tys tZ A) {index : Nat} {v : Int64} (hw : Jvm.Cond.constantLong own index v ∈ wsAll) {pc' : Nat} (hp : pc + 3 = pc') (hd : decode cc pc = .ok (.ldc2_w index, 3)) (k : GC p l e R s m args below meth c nL D A Q pc' L (.long v :: rest) ws cells slots) : GC p l e R s m args below meth c nL D A Q pc L rest ws cells slots := by
  subst hp
  exact fun H locs ls hP hD hS hl => lv_ldc2 hC.1.1 hC.1.2.1 hC.1.2.2.2.1 (hC.1.2.2.2.2 _ hw) hd (k H locs ls hP hD hS hl)
theorem gc_lcmp (hC : CX p s m args meth c cc nL ret own D tys tZ A) {x y : Int64} {pc' : Nat} (hp : pc + 1 = pc') (hd : decode cc pc = .ok (.lcmp, 1)) (k : GC p l e R s m args below meth c nL D A Q pc' L (.int (lg_cmp x y) :: rest) ws cells slots) : GC p l e R s m args below meth c nL D A Q pc L (.long y :: .long x :: rest) ws cells slots := by
  subst hp
  exact fun H locs ls hP hD hS hl => W.lcmp hC.1.1 hC.1.2.1 hd (k H locs ls hP hD hS hl)
theorem gc_case (hC : CX p s m args meth c cc nL ret own D tys tZ A) {x v : Int32} {dflt lo hi off : Int} {offs : Array Int} {len : Nat} (tgt : Nat) (hx : x = v) (hd : decode cc pc = .ok (.tableswitch dflt lo hi offs, len)) (h : (¬ v.toInt < lo ∧ ¬ hi < v.toInt) ∧ offs[(v.toInt - lo).toNat]? = some off ∧ (pc : Int) + off = (tgt : Int)) (k : GC p l e R s m args below meth c nL D A Q tgt L rest ws cells slots) : GC p l e R s m args below meth c nL D A Q pc L (.int x :: rest) ws cells slots := by
  subst hx
  exact fun H locs ls hP hD hS hl => lv_tableIn hC.1.1 hC.1.2.1 hd h.1.1 h.1.2 h.2.1 h.2.2 (k H locs ls hP hD hS hl)
theorem gc_dflt (hC : CX p s m args meth c cc nL ret own D tys tZ A) {x : Int32} {dflt lo hi : Int} {offs : Array Int} {len : Nat} (tgt : Nat) (hd : decode cc pc = .ok (.tableswitch dflt lo hi offs, len)) (h : x.toInt < lo ∨ hi < x.toInt) (ht : (pc : Int) + dflt = (tgt : Int)) (k : GC p l e R s m args below meth c nL D A Q tgt L rest ws cells slots) : GC p l e R s m args below meth c nL D A Q pc L (.int x :: rest) ws cells slots :=
  fun H locs ls hP hD hS hl => lv_tableOut hC.1.1 hC.1.2.1 hd h ht (k H locs ls hP hD hS hl)
theorem gc_sld (hC : CX p s m args meth c cc nL ret own D tys tZ A) {b N : Nat} {xs : Nat → Int32} (hX : va_X b N xs s s.heap) (hbl : b < s.heap.size) (hbA : ¬ A b) {i : Int32} (hin : vp_in i N) {pc' : Nat} (hp : pc + 1 = pc') (hd : decode cc pc = .ok (.iaload, 1)) (k : GC p l e R s m args below meth c nL D A Q pc' L (.int (xs i.toNatClampNeg) :: rest) ws cells slots) : GC p l e R s m args below meth c nL D A Q pc L (.int i :: .ref b :: rest) ws cells slots := by
  subst hp
  exact fun H locs ls hP hD hS hl => va_sld hC.1.1 hC.1.2.1 hX hbl hbA hS hin hd (k H locs ls hP hD hS hl)
theorem gc_slen (hC : CX p s m args meth c cc nL ret own D tys tZ A) {b N : Nat} {xs : Nat → Int32} (hX : va_X b N xs s s.heap) (hbl : b < s.heap.size) (hbA : ¬ A b) {pc' : Nat} (hp : pc + 1 = pc') (hd : decode cc pc = .ok (.arraylength, 1)) (k : GC p l e R s m args below meth c nL D A Q pc' L (.int (Int32.ofNat N) :: rest) ws cells slots) : GC p l e R s m args below meth c nL D A Q pc L (.ref b :: rest) ws cells slots := by
  subst hp
  exact fun H locs ls hP hD hS hl => va_slen hC.1.1 hC.1.2.1 hX hbl hbA hS hd (k H locs ls hP hD hS hl)
theorem gc_lald (hC : CX p s m args meth c cc nL ret own D tys tZ A) {cA : ClassId} {n b : Nat} {f : Nat → Int64} {i : Int32} (q0 t0 : Nat) (hq : ws[q0]? = some (b, .inl (cA, n, .inr (.inl f)))) (ht : tys[t0]? = some (cA, .long)) (hin : inb i n = true) {pc' : Nat} (hp : pc + 1 = pc') (hd : decode cc pc = .ok (.laload, 1)) (k : GC p l e R s m args below meth c nL D A Q pc' L (.long (f i.toNatClampNeg) :: rest) ws cells slots) : GC p l e R s m args below meth c nL D A Q pc L (.int i :: .ref b :: rest) ws cells slots := by
  subst hp
  exact fun H locs ls hP hD hS hl => va_lald hC.1.1 hC.1.2.1 hC.2.1 hP q0 t0 hq ht (inb_vp hin) hd (k H locs ls hP hD hS hl)
theorem gc_last (hC : CX p s m args meth c cc nL ret own D tys tZ A) {cA : ClassId} {n b : Nat} {f : Nat → Int64} {i : Int32} {x : Int64} (q0 t0 : Nat) (hq : ws[q0]? = some (b, .inl (cA, n, .inr (.inl f)))) (ht : tys[t0]? = some (cA, .long)) (hin : inb i n = true) (ws' : va_W) (hset : ws.set q0 (b, .inl (cA, n, .inr (.inl (vp_updL f i.toNatClampNeg x)))) = ws') {pc' : Nat} (hp : pc + 1 = pc') (hd : decode cc pc = .ok (.lastore, 1)) (k : GC p l e R s m args below meth c nL D A Q pc' L rest ws' cells slots) : GC p l e R s m args below meth c nL D A Q pc L (.long x :: .int i :: .ref b :: rest) ws cells slots := by
  subst hp
  exact fun H locs ls hP hD hS hl => va_last hC.1.1 hC.1.2.1 hC.2.1 hP hD hS q0 t0 hq ht (inb_vp hin) hd (fun H1 locs1 hP1 hD1 hS1 => k H1 locs1 ls (hset ▸ hP1) (hset ▸ hD1) hS1 hl)
theorem ml_free {w1 w2 w3 : va_W} {H : Heap} {locs : List Loc} (hD : va_D A (w1 ++ (w2 ++ w3))) (hS : va_S A s.heap H locs) (hA : ∀ q, s.heap.size ≤ q → A q) : ∀ q, va_A w2 H.size q → A q := fun q h => h.elim (fun ⟨k, e, hk⟩ => (mid_D hD).2 k (q, e) hk) (fun h => hA q (Nat.le_trans hS.1 h))
/-- a call of a method of one of the worlds, whose model's answer is known -/
theorem gl_callI (hC : CX p s m args meth c cc nL ret own D tys tZ A) {w : St → va_W} {w1 w3 : va_W} {S : St} {y : MethodName} {C : String} {T : u_T} {N ci index b maxL n : Nat} {bytes : ByteArray} {rt : Option FieldType} {rm : Room} {fs As stk : List Value} {Mc : Option (Int32 × St)} {res : Int32 × St} (hcal : MI l D tys tZ w y bytes maxL rt rm (.ref b :: As) S Mc) (hm : Mc = some res) (q0 : Nat) (hq : (w S)[q0]? = some (b, .inr (ci, fs))) (hc : vwCl[ci]? = some (C, T, N)) (hG : GoodIn wsAll (wsV own index C y (Cond.code y bytes maxL rt :: wsAll))) (hy : hdY y C n) (hrm : rm.cells = 0 ∧ rm.slots = 0) (hR : rm.frames + 1 ≤ R.frames ∧ 8 + (maxL + 11) + rm.locals ≤ R.locals) (hn : As.length = n) (hstk : stk = As.reverse ++ .ref b :: rest) (hroom : (rest.map fun v => v.category).sum ≤ 8) (hcs : cells ≤ R.cells ∧ slots ≤ R.slots) {pc' : Nat} (hp : pc + 3 = pc') (hd : decode cc pc = .ok (.invokevirtual index, 3)) (k : GC p l e R s m args below meth c nL D A Q pc' L (.int res.1 :: rest) (w1 ++ (w res.2 ++ w3)) cells slots) : GC p l e R s m args below meth c nL D A Q pc L stk (w1 ++ (w S ++ w3)) cells slots := by
  subst hp
  intro H locs ls hP hD hS hl
  have hF := ml_free hD hS hC.2.2.2.2.1
  have hPc := mid_P hP
  have hDc := mid_D hD
  refine va_calli (va_runV (As := As) (rest := rest) hC.1 (hcal res hm H.size) (cwV n hC.1.2.2.2.2 hG rfl hrm.1 hrm.2 hy hR) ⟨PX.blind, va_recv hC.2.1 hPc hc hq, ac_pre hC hPc hDc hS⟩ rfl hn hl.1 hstk (lv_room hroom) hd ⟨by simpa using hcs.1, by simpa using hcs.2⟩) hS (fun q _ h => hF q h) hF (fun r' u t H1 locs1 ht hvm hpost hB hz hk hS1 => ?_)
  obtain ⟨hP1, hK1, hD1⟩ := hB
  rw [ht] at hP1
  subst hpost
  obtain ⟨hP2, hD2⟩ := join3 hP hD hk hF hP1 hD1
  exact k H1 locs1 ls hP2 hD2 hS1 hl
theorem ac_preE {av : List Value} {H : Heap} {locs : List Loc} {wc : va_W} (hC : CX p s m args meth c cc nL ret own D tys tZ A) (hE : XE A s s.heap) (hP : va_P D vwCl wc H) (hD : va_D A wc) (hS : va_S A s.heap H locs) : ∀ U : State, U.heap = H → s.WarmedH U.vm → va_Pc av (PXE D tys tZ wc H.size) av.toArray U := fun U hU hW =>
  ⟨rfl, ((ac_pre (av := av) hC hP hD hS) U hU hW).2, by rw [hU]; exact hE.go hW (fun a h1 h2 => hS.2.1 a h1 h2) (fun q h => h.elim (fun ⟨k, e, hk⟩ => hD.2 k (q, e) hk) (fun h => hC.2.2.2.2.1 q (Nat.le_trans hS.1 h)))⟩
/-- a call that may throw: the row 40 of the model's answer says which -/
theorem gl_callT (hC : CX p s m args meth c cc nL ret own D tys tZ A) (hE : XE A s s.heap) {nm : Int32 → String} {w : St → va_W} {w1 w3 : va_W} {S : St} {y : MethodName} {C : String} {T : u_T} {N ci index b maxL n : Nat} {bytes : ByteArray} {rt : Option FieldType} {rm : Room} {fs As stk : List Value} {Mc : Option (Int32 × St)} {res : Int32 × St} (hcal : MT nm l D tys tZ w y bytes maxL rt rm (.ref b :: As) S Mc) (hm : Mc = some res) (q0 : Nat) (hq : (w S)[q0]? = some (b, .inr (ci, fs))) (hc : vwCl[ci]? = some (C, T, N)) (hG : GoodIn wsAll (wsV own index C y (Cond.code y bytes maxL rt :: wsAll))) (hy : hdY y C n) (hrm : rm.cells = 1 ∧ rm.slots = 6) (hR : rm.frames + 1 ≤ R.frames ∧ 8 + (maxL + 11) + rm.locals ≤ R.locals) (hn : As.length = n) (hstk : stk = As.reverse ++ .ref b :: rest) (hroom : (rest.map fun v => v.category).sum ≤ 8) (hcs : cells + 1 ≤ R.cells ∧ slots + 6 ≤ R.slots) (hd : decode cc pc = .ok (.invokevirtual index, 3))
    (k0 : res.2 40 0 = 0 → GC p l e R s m args below meth c nL D A Q (pc + 3) L (.int res.1 :: rest) (w1 ++ (w res.2 ++ w3)) (cells + 1) (slots + 6))
    (k1 : res.2 40 0 ≠ 0 → ∀ (q : Addr) (ce : Cell) (H1 : Heap) (locs1 : List Loc) (ls : Array Slot), va_P D vwCl (w1 ++ (w res.2 ++ w3)) H1 → va_D A (w1 ++ (w res.2 ++ w3)) → va_S A s.heap H1 locs1 → lv_has ls nL L → H1[q]? = some ce → ce.vm = .none → s.vm.findClass (nm (res.2 40 0)) = some ce.cls → vx_W p l e R s m args below meth c H1 locs1 (cells + 1) (slots + 6) Q (F0 m pc ls rest) q) : GC p l e R s m args below meth c nL D A Q pc L stk (w1 ++ (w S ++ w3)) cells slots := by
  intro H locs ls hP hD hS hl
  have hF := ml_free hD hS hC.2.2.2.2.1
  have hPc := mid_P hP
  have hDc := mid_D hD
  refine vx_calli (vx_runV (As := As) (rest := rest) hC.1 (hcal res hm H.size) (cwV n hC.1.2.2.2.2 hG rfl hrm.1 hrm.2 hy hR) ⟨PXE.blind, va_recv hC.2.1 hPc hc hq, ac_preE hC hE hPc hDc hS⟩ rfl hn hl.1 hstk (lv_room hroom) hd hcs) hS (fun q _ h => hF q h) hF (fun q _ h => hF q h) (fun E ce q9 u t H1 locs1 ht hvm hpx hBX hz hk hS1 hce hcv hcl => ?_) (fun r' u t H1 locs1 ht hvm hpost hB hz hk hS1 => ?_)
  · obtain ⟨h40, rfl⟩ := hpx
    obtain ⟨rfl, hP1, hK1, hD1⟩ := hBX
    rw [ht] at hP1
    obtain ⟨hP2, hD2⟩ := join3 hP hD hk hF hP1 hD1
    exact k1 h40 q9 ce H1 locs1 ls hP2 hD2 hS1 hl hce hcv hcl
  · obtain ⟨hP1, hK1, hD1⟩ := hB
    rw [ht] at hP1
    obtain ⟨h40, rfl⟩ := hpost
    obtain ⟨hP2, hD2⟩ := join3 hP hD hk hF hP1 hD1
    exact k0 h40 H1 locs1 ls hP2 hD2 hS1 hl
end GCM
def wL (cI cZ cR cL : ClassId) (a b : Nat → Nat) (o : Nat) (S T : St) (f : Nat → Int64) : va_W := wX cI cZ cR a S ++ (wM cI cZ b T ++ [(o, .inl (cL, 1, .inr (.inl f)))])
theorem wL_at (cI cZ cR cL : ClassId) (a b : Nat → Nat) (o : Nat) (S T : St) (f : Nat → Int64) : (wL cI cZ cR cL a b o S T f)[54]? = some (o, .inl (cL, 1, .inr (.inl f))) := rfl
theorem wL_set (cI cZ cR cL : ClassId) (a b : Nat → Nat) (o : Nat) (S T : St) (f g : Nat → Int64) : (wL cI cZ cR cL a b o S T f).set 54 (o, .inl (cL, 1, .inr (.inl g))) = wL cI cZ cR cL a b o S T g := rfl
abbrev tyl4 (cI cZ cR cL : ClassId) : List (ClassId × FieldType) := [(cI, .int), (cZ, .boolean), (cR, .object RX6), (cL, .long)]
