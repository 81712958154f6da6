/-! ===== constructors: worlds that grow, written out ===== -/
def GC (p : Program) (l : Launch) (e : Env) (R : Room) (s : State) (m : MethodId) (args : Array Value) (below : List Frame) (meth : Method) (c : Code) (nL : Nat) (D : va_G) (A : Nat → Prop) (Q : State → Prop) (pc : Nat) (L : List (Nat × Value)) (stk : List Value) (ws : va_W) (cells slots : Nat) : Prop :=
  ∀ (H : Heap) (locs : List Loc) (ls : Array Slot), va_P D vwCl ws H → va_D A ws → va_S A s.heap H locs → lv_has ls nL L → W p l e R s m args below meth c H locs cells slots Q (F0 m pc ls stk)
theorem va_K.same {D : va_G} {cl : List vw_C} {tys : List (ClassId × FieldType)} {U : State} {c1 c2 : ClassId} {ty : FieldType} (h : va_K D cl tys U) (i j : Nat) (h1 : tys[i]? = some (c1, ty)) (h2 : tys[j]? = some (c2, ty)) : c1 = c2 := by
  have a := (h.2 i _ h1).2
  have b := (h.2 j _ h2).2
  cases ty with
  | object C =>
    obtain ⟨k1, m1, -, -, -, e1⟩ := a
    obtain ⟨k2, m2, -, -, -, e2⟩ := b
    exact Option.some.inj (e1.symm.trans e2)
  | _ => exact Option.some.inj (a.symm.trans b)
section GCL
variable {p : Program} {l : Launch} {e : Env} {R : Room} {s : State} {m : MethodId} {args : Array Value} {below : List Frame} {meth : Method} {c : Code} {cc : ByteArray} {nL : Nat} {ret : Option FieldType} {own : String} {D : va_G} {tys : List (ClassId × FieldType)} {tZ : Nat} {A : Nat → Prop} {Q : State → Prop} {pc : Nat} {L : List (Nat × Value)} {rest : List Value} {ws : va_W} {cells slots : Nat}
theorem gc_iconst (hC : CX p s m args meth c cc nL ret own D tys tZ A) {n : Int} {v : Int32} {pc' : Nat} (hp : pc + 1 = pc') (hd : decode cc pc = .ok (.iconst n, 1)) (hv : Int32.ofInt n = v) (k : GC p l e R s m args below meth c nL D A Q pc' L (.int v :: rest) ws cells slots) : GC p l e R s m args below meth c nL D A Q pc L rest ws cells slots := by
  subst hp
  exact fun H locs ls hP hD hS hl => lv_iconst hC.1.1 hC.1.2.1 hd hv (k H locs ls hP hD hS hl)
theorem gc_bipush (hC : CX p s m args meth c cc nL ret own D tys tZ A) {n : Int} {v : Int32} {pc' : Nat} (hp : pc + 2 = pc') (hd : decode cc pc = .ok (.bipush n, 2)) (hv : (Int8.ofInt n).toInt32 = v) (k : GC p l e R s m args below meth c nL D A Q pc' L (.int v :: rest) ws cells slots) : GC p l e R s m args below meth c nL D A Q pc L rest ws cells slots := by
  subst hp
  exact fun H locs ls hP hD hS hl => lv_bipush hC.1.1 hC.1.2.1 hd hv (k H locs ls hP hD hS hl)
theorem gc_sipush (hC : CX p s m args meth c cc nL ret own D tys tZ A) {n : Int} {v : Int32} {pc' : Nat} (hp : pc + 3 = pc') (hd : decode cc pc = .ok (.sipush n, 3)) (hv : (Int16.ofInt n).toInt32 = v) (k : GC p l e R s m args below meth c nL D A Q pc' L (.int v :: rest) ws cells slots) : GC p l e R s m args below meth c nL D A Q pc L rest ws cells slots := by
  subst hp
  exact fun H locs ls hP hD hS hl => lv_sipush hC.1.1 hC.1.2.1 hd hv (k H locs ls hP hD hS hl)
theorem gc_aload_n (hC : CX p s m args meth c cc nL ret own D tys tZ A) {f : Fin 4} {x : Nat} {pc' : Nat} (hp : pc + 1 = pc') (hd : decode cc pc = .ok (.aload_n f, 1)) (hl0 : L.lookup (f : Nat) = some (.ref x)) (k : GC p l e R s m args below meth c nL D A Q pc' L (.ref x :: rest) ws cells slots) : GC p l e R s m args below meth c nL D A Q pc L rest ws cells slots := by
  subst hp
  exact fun H locs ls hP hD hS hl => lv_aload_n hC.1.1 hC.1.2.1 hd rfl (lk_at hl hl0) (k H locs ls hP hD hS hl)
theorem gc_iload_n (hC : CX p s m args meth c cc nL ret own D tys tZ A) {f : Fin 4} {x : Int32} {pc' : Nat} (hp : pc + 1 = pc') (hd : decode cc pc = .ok (.iload_n f, 1)) (hl0 : L.lookup (f : Nat) = some (.int x)) (k : GC p l e R s m args below meth c nL D A Q pc' L (.int x :: rest) ws cells slots) : GC p l e R s m args below meth c nL D A Q pc L rest ws cells slots := by
  subst hp
  exact fun H locs ls hP hD hS hl => lv_iload_n hC.1.1 hC.1.2.1 hd rfl (lk_at hl hl0) (k H locs ls hP hD hS hl)
theorem gc_istore_n (hC : CX p s m args meth c cc nL ret own D tys tZ A) {f : Fin 4} {x : Int32} (L' : List (Nat × Value)) {pc' : Nat} (hp : pc + 1 = pc') (hd : decode cc pc = .ok (.istore_n f, 1)) (hn : (f : Nat) < nL) (hL : ((f : Nat), Value.int x) :: L.filter (fun q => !(q.1 == (f : Nat)) && !(q.1 + 1 == (f : Nat) && q.2.category == 2)) = L') (k : GC p l e R s m args below meth c nL D A Q pc' L' rest ws cells slots) : GC p l e R s m args below meth c nL D A Q pc L (.int x :: rest) ws cells slots := by
  subst hp
  exact fun H locs ls hP hD hS hl => lv_istore_n hC.1.1 hC.1.2.1 hd rfl hl hn hL (fun ls' hl' => k H locs ls' hP hD hS hl')
theorem gc_iinc (hC : CX p s m args meth c cc nL ret own D tys tZ A) {i : Nat} {n : Int} {x v : Int32} (L' : List (Nat × Value)) {pc' : Nat} (hp : pc + 3 = pc') (hd : decode cc pc = .ok (.iinc i n, 3)) (hl0 : L.lookup i = some (.int x)) (hv : x + Int32.ofInt n = v) (hn : i < nL) (hL : (i, Value.int v) :: L.filter (fun q => !(q.1 == i) && !(q.1 + 1 == i && q.2.category == 2)) = L') (k : GC p l e R s m args below meth c nL D A Q pc' L' rest ws cells slots) : GC p l e R s m args below meth c nL D A Q pc L rest ws cells slots := by
  subst hp
  intro H locs ls hP hD hS hl
  obtain ⟨j, hj⟩ := List.getElem?_of_mem (lk_mem hl0)
  exact lv_iinc hC.1.1 hC.1.2.1 hd hl hj hv hn hL (fun ls' hl' => k H locs ls' hP hD hS hl')
theorem gc_goto (hC : CX p s m args meth c cc nL ret own D tys tZ A) {off : Int} (tgt : Nat) (hd : decode cc pc = .ok (.goto off, 3)) (ht : (pc : Int) + off = (tgt : Int)) (k : GC p l e R s m args below meth c nL D A Q tgt L rest ws cells slots) : GC p l e R s m args below meth c nL D A Q pc L rest ws cells slots :=
  fun H locs ls hP hD hS hl => lv_goto hC.1.1 hC.1.2.1 hd ht (k H locs ls hP hD hS hl)
theorem gc_ge1 (hC : CX p s m args meth c cc nL ret own D tys tZ A) {x y : Int32} {off : Int} (tgt : Nat) (h : y ≤ x) (hd : decode cc pc = .ok (.if_icmp .ge off, 3)) (ht : (pc : Int) + off = (tgt : Int)) (k : GC p l e R s m args below meth c nL D A Q tgt L rest ws cells slots) : GC p l e R s m args below meth c nL D A Q pc L (.int y :: .int x :: rest) ws cells slots :=
  fun H locs ls hP hD hS hl => lv_icmp_ge hC.1.1 hC.1.2.1 hd ht (fun _ => k H locs ls hP hD hS hl) (fun h2 => absurd h h2)
theorem gc_ge0 (hC : CX p s m args meth c cc nL ret own D tys tZ A) {x y : Int32} {off : Int} (tgt : Nat) (h : ¬ y ≤ x) {pc' : Nat} (hp : pc + 3 = pc') (hd : decode cc pc = .ok (.if_icmp .ge off, 3)) (ht : (pc : Int) + off = (tgt : Int)) (k : GC p l e R s m args below meth c nL D A Q pc' L rest ws cells slots) : GC p l e R s m args below meth c nL D A Q pc L (.int y :: .int x :: rest) ws cells slots := by
  subst hp
  exact fun H locs ls hP hD hS hl => lv_icmp_ge hC.1.1 hC.1.2.1 hd ht (fun h2 => absurd h2 h) (fun _ => k H locs ls hP hD hS hl)
theorem gc_dup (hC : CX p s m args meth c cc nL ret own D tys tZ A) {va : Value} {pc' : Nat} (hp : pc + 1 = pc') (hd : decode cc pc = .ok (.dup, 1)) (h1 : va.category = 1) (k : GC p l e R s m args below meth c nL D A Q pc' L (va :: va :: rest) ws cells slots) : GC p l e R s m args below meth c nL D A Q pc L (va :: rest) ws cells slots := by
  subst hp
  exact fun H locs ls hP hD hS hl => lv_dup hC.1.1 hC.1.2.1 hd h1 (k H locs ls hP hD hS hl)
theorem gc_oinit (hC : CX p s m args meth c cc nL ret own D tys tZ A) {idx b : Nat} (h1 : Cond.methodLink own idx Lib.objectInit ∈ wsAll) (h2 : Cond.instanceMethod Lib.objectInit ∈ wsAll) (h3 : Cond.code Lib.objectInit ⟨#[0xb1]⟩ 1 none ∈ wsAll) (hf : 1 ≤ R.frames) (hlo : (rest.map fun v => v.category).sum + 12 ≤ R.locals) {pc' : Nat} (hp : pc + 3 = pc') (hd : decode cc pc = .ok (.invokespecial idx, 3)) (k : GC p l e R s m args below meth c nL D A Q pc' L rest ws cells slots) : GC p l e R s m args below meth c nL D A Q pc L (.ref b :: rest) ws cells slots := by
  subst hp
  intro H locs ls hP hD hS hl
  refine W.objInit hC.1.1 hC.1.2.1 hC.1.2.2.2.1 (hC.1.2.2.2.2 _ h1) (hC.1.2.2.2.2 _ h2) (hC.1.2.2.2.2 _ h3) rfl (by rw [hC.1.2.2.1]; exact hl.1) rfl hd hf (by show 2 * 0 + _ + 12 ≤ _; omega) ?_
  exact W.eq (g2 := F0 m (pc + 3) ls rest) rfl (k H locs ls hP hD hS hl)
theorem gc_newa (hC : CX p s m args meth c cc nL ret own D tys tZ A) {atype : ArrayType} {ty : FieldType} {cT : ClassId} {n : Int32} {N' : Nat} {a0 : vp_A} (i0 : Nat) (hi0 : tys[i0]? = some (cT, ty)) (harr : Cond.arrayClass (newarray.typeOf atype) ∈ wsAll) (hty : newarray.typeOf atype = ty) (ha : ∀ cA : ClassId, vp_cell cA a0 = arrV cA N' (fun _ => defaultValue ty)) (hn : ¬ n < 0) (hN : n.toNatClampNeg = N') (hbytes : N' * componentBytes ty ≤ 536870912) (cells' slots' : Nat) (hc' : cells + 1 = cells') (hs' : slots + N' = slots') (hcells : cells' ≤ R.cells) (hslots : slots' ≤ R.slots) {pc' : Nat} (hp : pc + 2 = pc') (hd : decode cc pc = .ok (.newarray atype, 2)) (k : ∀ q : Nat, GC p l e R s m args below meth c nL D A Q pc' L (.ref q :: rest) (ws ++ [(q, .inl (cT, a0))]) cells' slots') : GC p l e R s m args below meth c nL D A Q pc L (.int n :: rest) ws cells slots := by
  subst hp; subst hc'; subst hs'
  intro H locs ls hP hD hS hl
  refine va_newa hC.1.1 hC.1.2.1 (hC.1.2.2.2.2 _ harr) hty hC.2.1 hP hD hS hC.2.2.2.2.1 ha hn hN hbytes hcells hslots hd (fun q cA H1 hK1 hP1 hD1 hS1 => ?_)
  have e : cA = cT := va_K.same (ty := ty) hK1 tys.length i0 (by simp) (by
    have hlt := (List.getElem?_eq_some_iff.mp hi0).1
    rw [List.getElem?_append_left hlt]; exact hi0)
  subst e
  exact k q H1 locs ls hP1 hD1 hS1 hl
theorem gc_newq (hC : CX p s m args meth c cc nL ret own D tys tZ A) {C : String} {cT : ClassId} {index : Nat} {n : Int32} {N' : Nat} (i0 : Nat) (hi0 : tys[i0]? = some (cT, .object C)) (hcl : Cond.classLink own index C ∈ wsAll) (hao : va_AO C s) (hn : ¬ n < 0) (hN : n.toNatClampNeg = N') (hbytes : N' * 4 ≤ 536870912) (cells' slots' : Nat) (hc' : cells + 1 = cells') (hs' : slots + N' = slots') (hcells : cells' ≤ R.cells) (hslots : slots' ≤ R.slots) {pc' : Nat} (hp : pc + 3 = pc') (hd : decode cc pc = .ok (.anewarray index, 3)) (k : ∀ q : Nat, GC p l e R s m args below meth c nL D A Q pc' L (.ref q :: rest) (ws ++ [(q, .inl (cT, N', .inr (.inr (.inr (.inr (fun _ => none))))))]) cells' slots') : GC p l e R s m args below meth c nL D A Q pc L (.int n :: rest) ws cells slots := by
  subst hp; subst hc'; subst hs'
  intro H locs ls hP hD hS hl
  refine va_newq hC.1.1 hC.1.2.1 hC.1.2.2.2.1 (hC.1.2.2.2.2 _ hcl) hao hC.2.1 hP hD hS hC.2.2.2.2.1 hn hN hbytes hcells hslots hd (fun q cA H1 hK1 hP1 hD1 hS1 => ?_)
  have e : cA = cT := va_K.same (ty := .object C) hK1 tys.length i0 (by simp) (by
    have hlt := (List.getElem?_eq_some_iff.mp hi0).1
    rw [List.getElem?_append_left hlt]; exact hi0)
  subst e
  exact k q H1 locs ls hP1 hD1 hS1 hl
theorem gc_new (hC : CX p s m args meth c cc nL ret own D tys tZ A) {C : String} {T : u_T} {N ci index : Nat} {ty0 : Nat → FieldType} {fs : List Value} (hin : ∀ z ∈ u_ws C T N, z ∈ wsAll) (hty : ∀ k, k < N → parseFieldDescriptor (T k).2.2.1 = some (ty0 k)) (h1 : Cond.classLink own index C ∈ wsAll) (h2 : Cond.instantiable C N ∈ wsAll) (h3 : Cond.initialized C ∈ wsAll) (hc : vwCl[ci]? = some (C, T, N)) (hfs : ∀ j, j < N → defaultValue (ty0 j) = vp_V fs j) (cells' slots' : Nat) (hc' : cells + 1 = cells') (hs' : slots + N = slots') (hcells : cells' ≤ R.cells) (hslots : slots' ≤ R.slots) {pc' : Nat} (hp : pc + 3 = pc') (hd : decode cc pc = .ok (.new index, 3)) (k : ∀ q : Nat, GC p l e R s m args below meth c nL D A Q pc' L (.ref q :: rest) (ws ++ [(q, .inr (ci, fs))]) cells' slots') : GC p l e R s m args below meth c nL D A Q pc L rest ws cells slots := by
  subst hp; subst hc'; subst hs'
  intro H locs ls hP hD hS hl
  exact va_new hC.1.1 hC.1.2.1 hC.1.2.2.2.2 hin ty0 hty hC.1.2.2.2.1 (hC.1.2.2.2.2 _ h1) (hC.1.2.2.2.2 _ h2) (hC.1.2.2.2.2 _ h3) hC.2.1 hP hD hS hC.2.2.2.2.1 hc hfs hcells hslots hd (fun q H1 hP1 hD1 hS1 => k q H1 locs ls hP1 hD1 hS1 hl)
theorem gc_putF (hC : CX p s m args meth c cc nL ret own D tys tZ A) (hin2 : meth.name = "<init>") {Cn : String} {T : u_T} {N ci index b : Nat} {fs : List Value} {v : Value} {ty0 : Nat → FieldType} (hty : ∀ k, k < N → parseFieldDescriptor (T k).2.2.1 = some (ty0 k)) (hnm : ∀ a, a < N → ∀ b, b < N → a ≠ b → (T a).2.1 ≠ (T b).2.1) (q0 : Nat) (hq : ws[q0]? = some (b, .inr (ci, fs))) (hc : vwCl[ci]? = some (Cn, T, N)) (hin : ∀ z ∈ u_ws Cn T N, z ∈ wsAll) (k0 : Nat) (hk : k0 < N) (hlk : Cond.fieldLink own index (T k0).1 (T k0).2.1 (T k0).2.2.1 ∈ wsAll) (hfin : (T k0).2.2.2 = true) (hdecl : (T k0).1 = own) (hn : narrow (ty0 k0) v = v) (hf : fits (ty0 k0) v = true) (hl0 : k0 < fs.length) (ws' : va_W) (hset : ws.set q0 (b, .inr (ci, fs.set k0 v)) = ws') {pc' : Nat} (hp : pc + 3 = pc') (hd : decode cc pc = .ok (.putfield index, 3)) (k : GC p l e R s m args below meth c nL D A Q pc' L rest ws' cells slots) : GC p l e R s m args below meth c nL D A Q pc L (v :: .ref b :: rest) ws cells slots := by
  subst hp
  exact fun H locs ls hP hD hS hl => va_putF (D := D) (C := Cn) hC.1.1 hC.1.2.1 hC.1.2.2.2.2 hin ty0 hty hnm hC.1.2.2.2.1 hC.2.1 hP hD hS q0 hq hc k0 hk (hC.1.2.2.2.2 _ hlk) (fun _ h9 => h9) hfin hin2 hdecl (hty k0 hk) hn hf hl0 hd (fun H1 locs1 hP1 hD1 hS1 => k H1 locs1 ls (hset ▸ hP1) (hset ▸ hD1) hS1 hl)
theorem gc_get (hC : CX p s m args meth c cc nL ret own D tys tZ A) {Cn : String} {T : u_T} {N ci index b : Nat} {fs : List Value} {v : Value} (q0 : Nat) (hq : ws[q0]? = some (b, .inr (ci, fs))) (hc : vwCl[ci]? = some (Cn, T, N)) (hin : ∀ z ∈ u_ws Cn T N, z ∈ wsAll) (k0 : Nat) (hk : k0 < N) (hlk : Cond.fieldLink own index (T k0).1 (T k0).2.1 (T k0).2.2.1 ∈ wsAll) (hv : fs[k0]? = some v) {pc' : Nat} (hp : pc + 3 = pc') (hd : decode cc pc = .ok (.getfield index, 3)) (k : GC p l e R s m args below meth c nL D A Q pc' L (v :: rest) ws cells slots) : GC p l e R s m args below meth c nL D A Q pc L (.ref b :: rest) ws cells slots := by
  subst hp
  exact fun H locs ls hP hD hS hl => va_get (D := D) (C := Cn) hC.1.1 hC.1.2.1 hC.1.2.2.2.2 hin hC.1.2.2.2.1 hC.2.1 hP q0 hq hc k0 hk (hC.1.2.2.2.2 _ hlk) (fun _ h9 => h9) hv hd (k H locs ls hP hD hS hl)
theorem gc_astq (hC : CX p s m args meth c cc nL ret own D tys tZ A) {cA : ClassId} {r : vw_C} {n v b : Nat} {vs : List Value} {f : Nat → Option Nat} {i : Int32} (q0 t0 qk ci : Nat) (ha : ws[q0]? = some (b, .inl (cA, n, .inr (.inr (.inr (.inr f)))))) (ht : tys[t0]? = some (cA, .object r.1)) (hv : ws[qk]? = some (v, .inr (ci, vs))) (hc : vwCl[ci]? = some r) (hin : inb i n = true) (ws' : va_W) (hset : ws.set q0 (b, .inl (cA, n, .inr (.inr (.inr (.inr (va_up f i.toNatClampNeg (some v))))))) = ws') {pc' : Nat} (hp : pc + 1 = pc') (hd : decode cc pc = .ok (.aastore, 1)) (k : GC p l e R s m args below meth c nL D A Q pc' L rest ws' cells slots) : GC p l e R s m args below meth c nL D A Q pc L (.ref v :: .int i :: .ref b :: rest) ws cells slots := by
  subst hp
  exact fun H locs ls hP hD hS hl => va_astq hC.1.1 hC.1.2.1 hC.2.1 hP hD hS q0 t0 qk ci ha ht hv hc (inb_vp hin) hd (fun H1 locs1 hP1 hD1 hS1 => k H1 locs1 ls (hset ▸ hP1) (hset ▸ hD1) hS1 hl)
/-- a constructor's contract: u = the addresses of what it makes -/
abbrev MC (l : Launch) (D : va_G) (tys : List (ClassId × FieldType)) (t : Nat) (y : MethodName) (b : ByteArray) (n : Nat) (rm : Room) (av : List Value) (ws : va_W) (w1 : (Nat → Nat) → va_W) : Prop :=
  ∀ sz, Met l y (Cond.code y b n none :: wsAll) rm (va_Pc av (PX D tys t ws sz)) (va_Qv (fun _ : Nat → Nat => True) (fun u t => va_P D vwCl (w1 u) t.heap ∧ va_K D vwCl tys t ∧ va_D (va_A ws sz) (w1 u)) (va_A ws sz)) rm.cells rm.slots (va_A ws sz)
theorem gc_met {y : MethodName} {rm : Room} {maxL : Nat} {av : List Value} {w1 : (Nat → Nat) → va_W} (hy : plainName y.cls = true) (hlen : (lg_sl av).length ≤ maxL) (hname : y.name = "<init>")
    (body : ∀ (p : Program) (e : Env) (s : State) (m : MethodId) (below : List Frame) (meth : Method) (c : Code) (A : Nat → Prop), CX p s m av.toArray meth c cc maxL none y.cls D tys tZ A → meth.name = "<init>" → GC p l e rm s m av.toArray below meth c maxL D A (MQ below (va_Qv (fun _ : Nat → Nat => True) (fun u t => va_P D vwCl (w1 u) t.heap ∧ va_K D vwCl tys t ∧ va_D A (w1 u)) A) av.toArray s rm.cells rm.slots A) 0 (lv_args 0 av) [] ws 0 0) : MC l D tys tZ y cc maxL rm av ws w1 := by
  intro sz
  refine Met.ofW (cc := cc) (maxL := maxL) (ret := none) hy rfl ?_
  intro p e s m args below meth c s₁ B hml hv
  obtain ⟨rfl, hsz, hP, hK, hD0, hX⟩ := hv
  subst hsz
  have hts := atoms_spec (ws := Cond.code y cc maxL none :: wsAll) B.pre
  have hown := findClass_of_methodNamed B.named
  rw [lg_entry_eq]
  exact body p e s m below meth c (va_A ws s.heap.size) ⟨⟨B.exec, B.bytes, hml, hown, fun w h => hts w (List.mem_cons_of_mem _ h)⟩, hK, B.returns, B.notSynchronized, fun q h => Or.inr h, hX⟩ (by rw [(name_of_methodNamed B.named B.method).1]; exact hname) s.heap [] _ hP hD0.self va_S.rf (lv_entry av (n := maxL) hlen)
theorem gc_vret (hC : CX p s m args meth c cc nL none own D tys tZ A) {w1 : (Nat → Nat) → va_W} (u : Nat → Nat) (he : ws = w1 u) (hd : decode cc pc = .ok (.return_, 1)) : GC p l e R s m args below meth c nL D A (MQ below (va_Qv (fun _ : Nat → Nat => True) (fun u t => va_P D vwCl (w1 u) t.heap ∧ va_K D vwCl tys t ∧ va_D A (w1 u)) A) args s cells slots A) pc L [] ws cells slots := by
  intro H locs ls hP hD hS hl
  have hlocks := hC.2.2.2.1
  subst he
  exact W.vret hC.1.1 hC.1.2.1 hC.2.2.1 (fun t ht hW => ⟨⟨u, rfl, trivial, by rw [ht]; exact hP, va_K.moved hW.alike hC.2.1, hD⟩, hS.F ht⟩) hS.2.2 hd
theorem ac_free {H : Heap} {locs : List Loc} {wc : va_W} (hD : va_D A ws) (hS : va_S A s.heap H locs) (hA : ∀ q, s.heap.size ≤ q → A q) (isC : List Nat) (hsub : isC.map (fun i => ws[i]?) = wc.map some) : ∀ q, va_A wc H.size q → A q := va_free hD hS hA isC hsub
theorem ac_pre {av : List Value} {H : Heap} {locs : List Loc} {wc : va_W} (hC : CX p s m args meth c cc nL ret own D tys tZ A) (hP : va_P D vwCl wc H) (hD : va_D A wc) (hS : va_S A s.heap H locs) : ∀ U : State, U.heap = H → s.WarmedH U.vm → va_Pc av (PX D tys tZ wc H.size) av.toArray U := fun U hU hW =>
  ⟨rfl, by rw [hU], by rw [hU]; exact hP, va_K.moved hW.alike hC.2.1, hD.weaken (fun _ _ _ _ => trivial), by rw [hU]; exact hC.2.2.2.2.2.go hW (fun a h1 h2 => hS.2.1 a h1 h2) (fun q h => h.elim (fun ⟨k, e, hk⟩ => hD.2 k (q, e) hk) (fun h => hC.2.2.2.2.1 q (Nat.le_trans hS.1 h)))⟩
theorem gc_ctor (hC : CX p s m args meth c cc nL ret own D tys tZ A) {y : MethodName} {index b maxL n : Nat} {bytes : ByteArray} {rm : Room} {As stk : List Value} {e0 : va_E} {w1 : (Nat → Nat) → va_W} (hcal : MC l D tys tZ y bytes maxL rm (.ref b :: As) [(b, e0)] w1) (wr : va_W) (isC isR : List Nat) (hsC : isC.map (fun i => ws[i]?) = ([(b, e0)] : va_W).map some) (hsR : isR.map (fun i => ws[i]?) = wr.map some) (hnd : va_nd isC = true ∧ va_nd isR = true ∧ ∀ i ∈ isR, i ∉ isC) (hG : GoodIn wsAll (Cond.code y bytes maxL none :: wsAll)) (h1 : Cond.methodLink own index y ∈ wsAll) (h2 : Cond.instanceMethod y ∈ wsAll) (h3 : Cond.initialized y.cls ∈ wsAll) (hy1 : y.name = "<init>") (hy : y.cls ≠ "java/lang/invoke/MethodHandle" ∧ y.cls ≠ "java/lang/invoke/VarHandle" ∧ (parseMethodDescriptor y.desc).map (fun d => d.parameters.length) = some n) (hR : rm.frames + 1 ≤ R.frames ∧ 8 + (maxL + 11) + rm.locals ≤ R.locals) (hn : As.length = n) (hstk : stk = As.reverse ++ .ref b :: rest) (hroom : (rest.map fun v => v.category).sum ≤ 8) (cells' slots' : Nat) (hc' : cells + rm.cells = cells') (hs' : slots + rm.slots = slots') (hcells : cells' ≤ R.cells) (hslots : slots' ≤ R.slots) {pc' : Nat} (hp : pc + 3 = pc') (hd : decode cc pc = .ok (.invokespecial index, 3)) (k : ∀ u : Nat → Nat, GC p l e R s m args below meth c nL D A Q pc' L rest (wr ++ w1 u) cells' slots') : GC p l e R s m args below meth c nL D A Q pc L stk ws cells slots := by
  subst hp; subst hc'; subst hs'
  intro H locs ls hP hD hS hl
  have hPc : va_P D vwCl [(b, e0)] H := hP.sub isC (by
    have := congrArg (List.filterMap id) hsC
    simpa [List.filterMap_map] using this)
  have hDc := hD.sub isC hnd.1 hsC
  have hF := va_free hD hS hC.2.2.2.2.1 isC hsC
  refine va_callv (va_runI (As := As) (rest := rest) hC.1 (hcal H.size) (cwI n hC.1.2.2.2.2 hG rfl rfl rfl (hC.1.2.2.2.2 _ h3) (hC.1.2.2.2.2 _ h1) (hC.1.2.2.2.2 _ h2) hy1 hy hR) ⟨PX.blind, ac_pre hC hPc hDc hS⟩ rfl hn hl.1 hstk (lv_room hroom) hd ⟨hcells, hslots⟩) hS (fun q _ h => hF q h) hF (fun u t H1 locs1 ht hvm hpost hB hz hk hS1 => ?_)
  obtain ⟨hP1, hK1, hD1⟩ := hB
  rw [ht] at hP1
  obtain ⟨hP2, hD2⟩ := va_join (wr := wr) (w1 := w1 u) hP hD isC isR hsC hsR hnd.2.1 hnd.2.2 hk hF hP1 hD1
  exact k u H1 locs1 ls hP2 hD2 hS1 hl
theorem gc_ctorN (hC : CX p s m args meth c cc nL ret own D tys tZ A) {y : MethodName} {host : String} {index b maxL n : Nat} {bytes : ByteArray} {rm : Room} {As stk : List Value} {e0 : va_E} {w1 : (Nat → Nat) → va_W} (hcal : MC l D tys tZ y bytes maxL rm (.ref b :: As) [(b, e0)] w1) (wr : va_W) (isC isR : List Nat) (hsC : isC.map (fun i => ws[i]?) = ([(b, e0)] : va_W).map some) (hsR : isR.map (fun i => ws[i]?) = wr.map some) (hnd : va_nd isC = true ∧ va_nd isR = true ∧ ∀ i ∈ isR, i ∉ isC) (hG : GoodIn wsAll (Cond.code y bytes maxL none :: wsAll)) (h1 : Cond.methodLinkNest own index y host ∈ nestAll) (h2 : Cond.instanceMethod y ∈ wsAll) (h3 : Cond.initialized y.cls ∈ wsAll) (hy1 : y.name = "<init>") (hy : y.cls ≠ "java/lang/invoke/MethodHandle" ∧ y.cls ≠ "java/lang/invoke/VarHandle" ∧ (parseMethodDescriptor y.desc).map (fun d => d.parameters.length) = some n) (hR : rm.frames + 1 ≤ R.frames ∧ 8 + (maxL + 11) + rm.locals ≤ R.locals) (hn : As.length = n) (hstk : stk = As.reverse ++ .ref b :: rest) (hroom : (rest.map fun v => v.category).sum ≤ 8) (cells' slots' : Nat) (hc' : cells + rm.cells = cells') (hs' : slots + rm.slots = slots') (hcells : cells' ≤ R.cells) (hslots : slots' ≤ R.slots) {pc' : Nat} (hp : pc + 3 = pc') (hd : decode cc pc = .ok (.invokespecial index, 3)) (k : ∀ u : Nat → Nat, GC p l e R s m args below meth c nL D A Q pc' L rest (wr ++ w1 u) cells' slots') : GC p l e R s m args below meth c nL D A Q pc L stk ws cells slots := by
  subst hp; subst hc'; subst hs'
  intro H locs ls hP hD hS hl
  have hPc : va_P D vwCl [(b, e0)] H := hP.sub isC (by
    have := congrArg (List.filterMap id) hsC
    simpa [List.filterMap_map] using this)
  have hDc := hD.sub isC hnd.1 hsC
  have hF := va_free hD hS hC.2.2.2.2.1 isC hsC
  refine va_callv (va_runIN (As := As) (rest := rest) hC.1 (hcal H.size) ⟨va_cnB n hC.1.2.2.2.2 hG rfl rfl rfl (hC.2.2.2.2.2.1 _ h1) (hC.1.2.2.2.2 _ h3) hy hR, hy1, hC.1.2.2.2.2 _ h2⟩ ⟨PX.blind, ac_pre hC hPc hDc hS⟩ rfl hn hl.1 hstk (lv_room hroom) hd ⟨hcells, hslots⟩) hS (fun q _ h => hF q h) hF (fun u t H1 locs1 ht hvm hpost hB hz hk hS1 => ?_)
  obtain ⟨hP1, hK1, hD1⟩ := hB
  rw [ht] at hP1
  obtain ⟨hP2, hD2⟩ := va_join (wr := wr) (w1 := w1 u) hP hD isC isR hsC hsR hnd.2.1 hnd.2.2 hk hF hP1 hD1
  exact k u H1 locs1 ls hP2 hD2 hS1 hl
theorem gc_perm (ws' : va_W) (is : List Nat) (hn : va_nd is = true) (hs : is.map (fun i => ws[i]?) = ws'.map some) {stk : List Value} (k : GC p l e R s m args below meth c nL D A Q pc L stk ws' cells slots) : GC p l e R s m args below meth c nL D A Q pc L stk ws cells slots := fun H locs ls hP hD hS hl =>
  k H locs ls (hP.sub is (by
    have := congrArg (List.filterMap id) hs
    simpa [List.filterMap_map] using this)) (hD.sub is hn hs) hS hl
theorem gc_widen {stk : List Value} (c' n' : Nat) (h1 : cells ≤ c') (h2 : slots ≤ n') (k : GC p l e R s m args below meth c nL D A Q pc L stk ws c' n') : GC p l e R s m args below meth c nL D A Q pc L stk ws cells slots := fun H locs ls hP hD hS hl => W.widen h1 h2 (k H locs ls hP hD hS hl)
theorem gc_sub (L' : List (Nat × Value)) (ks : List Nat) (hL : lv_pick L ks = L') {stk : List Value} (k : GC p l e R s m args below meth c nL D A Q pc L' stk ws cells slots) : GC p l e R s m args below meth c nL D A Q pc L stk ws cells slots :=
  fun H locs ls hP hD hS hl => k H locs ls hP hD hS (lv_sub hl ks hL)
end GCL
