/-! ===== base: one world of all cells of an object graph, its numbers a function S (row, place); a judgement GX that carries the model's answer M ===== -/
abbrev St : Type := Nat → Nat → Int32
def st (S : St) (k i : Nat) (v : Int32) : St := fun k' => if k' = k then upd (S k) i v else S k'
theorem st_self (S : St) (k i : Nat) (v : Int32) : st S k i v k = upd (S k) i v := by simp [st]
theorem st_ne (S : St) {k k' : Nat} (i : Nat) (v : Int32) (h : k' ≠ k) : st S k i v k' = S k' := by simp [st, h]
theorem st_at (S : St) (k i : Nat) (v : Int32) (k' i' : Nat) : st S k i v k' i' = if k' = k ∧ i' = i then v else S k' i' := by
  unfold st upd
  by_cases h : k' = k
  · subst h
    by_cases h2 : i' = i <;> simp [h2]
  · simp [h]
def inb (i : Int32) (n : Nat) : Bool := decide (¬ (i < 0 ∨ n ≤ i.toNatClampNeg))
theorem inb_vp {i : Int32} {n : Nat} (h : inb i n = true) : vp_in i n := of_decide_eq_true (p := ¬ (i < 0 ∨ n ≤ i.toNatClampNeg)) h
theorem inb_lt {i : Int32} {n : Nat} (h : inb i n = true) : i.toNatClampNeg < n := Nat.not_le.mp fun q => inb_vp h (Or.inr q)


/-- links of nest mates that are carried along -/
abbrev nestAll : List Cond := [.fieldLinkNest "ChainUnwinder$Packer" 44 "ChainUnwinder$Program" "firsts" "[I" "ChainUnwinder", .fieldLinkNest "ChainUnwinder$Machine" 40 "ChainUnwinder$Program" "firsts" "[I" "ChainUnwinder", .fieldLinkNest "ChainUnwinder$Packer" 48 "ChainUnwinder$Program" "ends" "[I" "ChainUnwinder", .fieldLinkNest "ChainUnwinder$Machine" 53 "ChainUnwinder$Program" "length" "I" "ChainUnwinder", .fieldLinkNest "ChainUnwinder$Machine" 25 "ChainUnwinder$Program" "functions" "I" "ChainUnwinder", .fieldLinkNest "ChainUnwinder$Packer" 38 "ChainUnwinder$Program" "functions" "I" "ChainUnwinder", .fieldLinkNest "ChainUnwinder$Reader" 29 "ChainUnwinder$Section" "length" "I" "ChainUnwinder", .fieldLinkNest "ChainUnwinder$Packer" 64 "ChainUnwinder$Section" "length" "I" "ChainUnwinder", .fieldLinkNest "ChainUnwinder$Chain" 55 "ChainUnwinder$Row" "link" "I" "ChainUnwinder", .fieldLinkNest "ChainUnwinder$Packer" 102 "ChainUnwinder$Row" "link" "I" "ChainUnwinder", .fieldLinkNest "ChainUnwinder$Reader" 93 "ChainUnwinder$Row" "link" "I" "ChainUnwinder", .fieldLinkNest "ChainUnwinder$Finder" 127 "ChainUnwinder$Row" "link" "I" "ChainUnwinder", .fieldLinkNest "ChainUnwinder$Chain" 50 "ChainUnwinder$Row" "number" "I" "ChainUnwinder", .fieldLinkNest "ChainUnwinder$Packer" 105 "ChainUnwinder$Row" "number" "I" "ChainUnwinder", .fieldLinkNest "ChainUnwinder$Reader" 79 "ChainUnwinder$Row" "number" "I" "ChainUnwinder", .fieldLinkNest "ChainUnwinder$Finder" 132 "ChainUnwinder$Row" "number" "I" "ChainUnwinder", .fieldLinkNest "ChainUnwinder$Chain" 65 "ChainUnwinder$Row" "saved" "[I" "ChainUnwinder", .fieldLinkNest "ChainUnwinder$Packer" 108 "ChainUnwinder$Row" "saved" "[I" "ChainUnwinder", .fieldLinkNest "ChainUnwinder$Reader" 89 "ChainUnwinder$Row" "saved" "[I" "ChainUnwinder", .fieldLinkNest "ChainUnwinder$Finder" 135 "ChainUnwinder$Row" "saved" "[I" "ChainUnwinder", .fieldLinkNest "ChainUnwinder$Chain" 42 "ChainUnwinder$Reader" "found" "LChainUnwinder$Row;" "ChainUnwinder", .fieldLinkNest "ChainUnwinder" 91 "ChainUnwinder$Reader" "found" "LChainUnwinder$Row;" "ChainUnwinder", .fieldLinkNest "ChainUnwinder$Chain" 27 "ChainUnwinder$Machine" "underWay" "Z" "ChainUnwinder", .fieldLinkNest "ChainUnwinder" 113 "ChainUnwinder$Machine" "place" "I" "ChainUnwinder", .methodLinkNest "ChainUnwinder" 9 ⟨"ChainUnwinder$Program", "<init>", "()V"⟩ "ChainUnwinder", .methodLinkNest "ChainUnwinder" 18 ⟨"ChainUnwinder$Section", "<init>", "()V"⟩ "ChainUnwinder", .methodLinkNest "ChainUnwinder$Packer" 11 ⟨"ChainUnwinder$Row", "<init>", "()V"⟩ "ChainUnwinder", .methodLinkNest "ChainUnwinder$Reader" 11 ⟨"ChainUnwinder$Row", "<init>", "()V"⟩ "ChainUnwinder"]
theorem nest_kind : ∀ w ∈ nestAll, (∃ (a : String) (i : Nat) (b n d h : String), w = .fieldLinkNest a i b n d h) ∨ ∃ (a : String) (i : Nat) (x : MethodName) (h : String), w = .methodLinkNest a i x h := by
  intro w hw
  simp only [nestAll, List.mem_cons, List.not_mem_nil, or_false] at hw
  rcases hw with rfl | rfl | rfl | rfl | rfl | rfl | rfl | rfl | rfl | rfl | rfl | rfl | rfl | rfl | rfl | rfl | rfl | rfl | rfl | rfl | rfl | rfl | rfl | rfl | rfl | rfl | rfl | rfl <;> first | exact Or.inl ⟨_, _, _, _, _, _, rfl⟩ | exact Or.inr ⟨_, _, _, _, rfl⟩
theorem nest_warm {s U : State} (hW : s.WarmedH U.vm) (h : ∀ w ∈ nestAll, va_Nw w s) : ∀ w ∈ nestAll, va_Nw w U := by
  intro w hw
  rcases nest_kind w hw with ⟨a, i, b, n, d, h', rfl⟩ | ⟨a, i, x, h', rfl⟩
  · exact va_Nw.warmF hW (h _ hw)
  · exact va_Nw.warmM hW (h _ hw)
theorem nest_tab : ∀ w ∈ nestAll, w.onTables = true := by
  intro w hw
  rcases nest_kind w hw with ⟨a, i, b, n, d, h', rfl⟩ | ⟨a, i, x, h', rfl⟩ <;> rfl
/-- the table SIZES -/
def szs (j : Nat) : Int32 := ([1, 2, 2, 2, 2, 1, 1, 2, 1, 2, 2, 3, 2, 1, 3, 3] : List Int32).getD j 0
def XF (t : Nat) (A : Nat → Prop) (U : State) (H : Heap) : Prop := (∀ w ∈ nestAll, va_Nw w U) ∧ va_Z "ChainUnwinder$Program" "SIZES" "[I" (.ref t) A U H ∧ va_T .int t 16 (fun j => .int (szs j)) A U H ∧ va_AO RX6 U
theorem XF.go {t : Nat} {A B : Nat → Prop} {s U : State} {H H1 : Heap} (h : XF t A s H) (hW : s.WarmedH U.vm) (hk : ∀ a : Nat, a < H.size → ¬ A a → H1[a]? = H[a]?) (hAB : ∀ q, B q → A q) : XF t B U H1 :=
  ⟨nest_warm hW h.1, ((h.2.1.kept hk).narrow hAB).moved hW.alike, ((h.2.2.1.kept hk).narrow hAB).moved hW.alike, va_AO.moved hW.alike h.2.2.2⟩
theorem XF.blind {t : Nat} {A : Nat → Prop} {U : State} {H : Heap} (g : JFrame) (mk : MethodId) (a : Array Value) (h : XF t A U H) : XF t A (U.calling g mk a) H :=
  ⟨fun w hw => va_Nw.same (nest_tab w hw) (u := U) (U := U.calling g mk a) rfl (h.1 w hw), va_Z.moved (u := U) (U := U.calling g mk a) (Vm.Alike.refl U.vm) h.2.1, va_T.moved (u := U) (U := U.calling g mk a) (Vm.Alike.refl U.vm) h.2.2.1, va_AO.moved (u := U) (U := U.calling g mk a) (Vm.Alike.refl U.vm) h.2.2.2⟩
/-- a method's start -/
def PX (D : va_G) (tys : List (ClassId × FieldType)) (t : Nat) (ws : va_W) (sz : Nat) (U : State) : Prop := U.heap.size = sz ∧ va_P D vwCl ws U.heap ∧ va_K D vwCl tys U ∧ va_D (fun _ => True) ws ∧ XF t (va_A ws sz) U U.heap
/-- its world behind it -/
def BX (D : va_G) (tys : List (ClassId × FieldType)) (w : St → va_W) (A : Nat → Prop) (u : St) (t : State) : Prop := va_P D vwCl (w u) t.heap ∧ va_K D vwCl tys t ∧ va_D A (w u)
abbrev QI (D : va_G) (tys : List (ClassId × FieldType)) (w : St → va_W) (A : Nat → Prop) (res : Int32 × St) : Array Value → State → Outcome → State → Prop := va_Qi (fun r u => (r, u) = res) (BX D tys w A) A
abbrev QV (D : va_G) (tys : List (ClassId × FieldType)) (w : St → va_W) (A : Nat → Prop) (res : Int32 × St) : Array Value → State → Outcome → State → Prop := va_Qv (fun u => u = res.2) (BX D tys w A) A
abbrev MI (l : Launch) (D : va_G) (tys : List (ClassId × FieldType)) (t : Nat) (w : St → va_W) (y : MethodName) (b : ByteArray) (n : Nat) (ret : Option FieldType) (rm : Room) (av : List Value) (S : St) (M : Option (Int32 × St)) : Prop :=
  ∀ res, M = some res → ∀ sz, Met l y (Cond.code y b n ret :: wsAll) rm (va_Pc av (PX D tys t (w S) sz)) (QI D tys w (va_A (w S) sz) res) 0 0 (va_A (w S) sz)
abbrev MV (l : Launch) (D : va_G) (tys : List (ClassId × FieldType)) (t : Nat) (w : St → va_W) (y : MethodName) (b : ByteArray) (n : Nat) (ret : Option FieldType) (rm : Room) (av : List Value) (S : St) (M : Option (Int32 × St)) : Prop :=
  ∀ res, M = some res → ∀ sz, Met l y (Cond.code y b n ret :: wsAll) rm (va_Pc av (PX D tys t (w S) sz)) (QV D tys w (va_A (w S) sz) res) 0 0 (va_A (w S) sz)
/-- what is fixed in a body -/
def CX (p : Program) (s : State) (m : MethodId) (args : Array Value) (meth : Method) (c : Code) (cc : ByteArray) (nL : Nat) (ret : Option FieldType) (own : String) (D : va_G) (tys : List (ClassId × FieldType)) (t : Nat) (A : Nat → Prop) : Prop :=
  CallFix p m c cc nL s args wsAll own ∧ va_K D vwCl tys s ∧ meth.sig.returnType = ret ∧ meth.locks = false ∧ (∀ q, s.heap.size ≤ q → A q) ∧ XF t A s s.heap
def GX (p : Program) (l : Launch) (e : Env) (R : Room) (s : State) (m : MethodId) (args : Array Value) (below : List Frame) (meth : Method) (c : Code) (nL : Nat) (D : va_G) (A : Nat → Prop) (w : St → va_W) (K : Int32 × St → State → Prop) (pc : Nat) (L : List (Nat × Value)) (stk : List Value) (S : St) (M : Option (Int32 × St)) : Prop :=
  ∀ res, M = some res → ∀ (H : Heap) (locs : List Loc) (ls : Array Slot), va_P D vwCl (w S) H → va_D A (w S) → va_S A s.heap H locs → lv_has ls nL L → W p l e R s m args below meth c H locs 0 0 (K res) (F0 m pc ls stk)
theorem lk_mem {L : List (Nat × Value)} {i : Nat} {v : Value} (h : L.lookup i = some v) : (i, v) ∈ L := by
  induction L with
  | nil => simp at h
  | cons q r ih =>
    obtain ⟨j, u⟩ := q
    rw [List.lookup_cons] at h
    by_cases hj : i = j
    · subst hj
      simp at h
      subst h
      exact List.mem_cons_self
    · have : (i == j) = false := by simpa using hj
      rw [this] at h
      exact List.mem_cons_of_mem _ (ih h)
theorem lk_at {ls : Array Slot} {nL : Nat} {L : List (Nat × Value)} (h : lv_has ls nL L) {i : Nat} {v : Value} (hk : L.lookup i = some v) : ls[i]? = some (.val v) := h.2.2 (i, v) (lk_mem hk)
section GXL
variable {p : Program} {l : Launch} {e : Env} {R : Room} {s : State} {m : MethodId} {args : Array Value} {below : List Frame} {meth : Method} {c : Code} {cc : ByteArray} {nL : Nat} {ret : Option FieldType} {own : String} {D : va_G} {tys : List (ClassId × FieldType)} {tZ : Nat} {A : Nat → Prop} {w : St → va_W} {K : Int32 × St → State → Prop} {pc : Nat} {L : List (Nat × Value)} {rest : List Value} {S : St} {M : Option (Int32 × St)}
theorem gx_iconst (hC : CX p s m args meth c cc nL ret own D tys tZ A) {n : Int} {v : Int32} {pc' : Nat} (hp : pc + 1 = pc') (hd : decode cc pc = .ok (.iconst n, 1)) (hv : Int32.ofInt n = v) (k : GX p l e R s m args below meth c nL D A w K pc' L (.int v :: rest) S M) : GX p l e R s m args below meth c nL D A w K pc L rest S M := by
  subst hp
  exact fun res hM H locs ls hP hD hS hl => lv_iconst hC.1.1 hC.1.2.1 hd hv (k res hM H locs ls hP hD hS hl)
theorem gx_bipush (hC : CX p s m args meth c cc nL ret own D tys tZ A) {n : Int} {v : Int32} {pc' : Nat} (hp : pc + 2 = pc') (hd : decode cc pc = .ok (.bipush n, 2)) (hv : (Int8.ofInt n).toInt32 = v) (k : GX p l e R s m args below meth c nL D A w K pc' L (.int v :: rest) S M) : GX p l e R s m args below meth c nL D A w K pc L rest S M := by
  subst hp
  exact fun res hM H locs ls hP hD hS hl => lv_bipush hC.1.1 hC.1.2.1 hd hv (k res hM H locs ls hP hD hS hl)
theorem gx_sipush (hC : CX p s m args meth c cc nL ret own D tys tZ A) {n : Int} {v : Int32} {pc' : Nat} (hp : pc + 3 = pc') (hd : decode cc pc = .ok (.sipush n, 3)) (hv : (Int16.ofInt n).toInt32 = v) (k : GX p l e R s m args below meth c nL D A w K pc' L (.int v :: rest) S M) : GX p l e R s m args below meth c nL D A w K pc L rest S M := by
  subst hp
  exact fun res hM H locs ls hP hD hS hl => lv_sipush hC.1.1 hC.1.2.1 hd hv (k res hM H locs ls hP hD hS hl)
theorem gx_lconst (hC : CX p s m args meth c cc nL ret own D tys tZ A) {n : Fin 2} {v : Int64} {pc' : Nat} (hp : pc + 1 = pc') (hd : decode cc pc = .ok (.lconst n, 1)) (hv : Int64.ofNat (n : Nat) = v) (k : GX p l e R s m args below meth c nL D A w K pc' L (.long v :: rest) S M) : GX p l e R s m args below meth c nL D A w K pc L rest S M := by
  subst hp
  exact fun res hM H locs ls hP hD hS hl => lv_lconst hC.1.1 hC.1.2.1 hd hv (k res hM H locs ls hP hD hS hl)
theorem gx_ldc2 (hC : CX p s m args meth c cc nL ret own D tys tZ A) {index : Nat} {v : Int64} (hw : Jvm.Cond.constantLong own index v ∈ wsAll) {pc' : Nat} (hp : pc + 3 = pc') (hd : decode cc pc = .ok (.ldc2_w index, 3)) (k : GX p l e R s m args below meth c nL D A w K pc' L (.long v :: rest) S M) : GX p l e R s m args below meth c nL D A w K pc L rest S M := by
  subst hp
  exact fun res hM H locs ls hP hD hS hl => lv_ldc2 hC.1.1 hC.1.2.1 hC.1.2.2.2.1 (hC.1.2.2.2.2 _ hw) hd (k res hM H locs ls hP hD hS hl)
theorem gx_iload_n (hC : CX p s m args meth c cc nL ret own D tys tZ A) {f : Fin 4} {x : Int32} {pc' : Nat} (hp : pc + 1 = pc') (hd : decode cc pc = .ok (.iload_n f, 1)) (hl0 : L.lookup (f : Nat) = some (.int x)) (k : GX p l e R s m args below meth c nL D A w K pc' L (.int x :: rest) S M) : GX p l e R s m args below meth c nL D A w K pc L rest S M := by
  subst hp
  exact fun res hM H locs ls hP hD hS hl => lv_iload_n hC.1.1 hC.1.2.1 hd rfl (lk_at hl hl0) (k res hM H locs ls hP hD hS hl)
theorem gx_iload (hC : CX p s m args meth c cc nL ret own D tys tZ A) {i : Nat} {x : Int32} {pc' : Nat} (hp : pc + 2 = pc') (hd : decode cc pc = .ok (.iload i, 2)) (hl0 : L.lookup i = some (.int x)) (k : GX p l e R s m args below meth c nL D A w K pc' L (.int x :: rest) S M) : GX p l e R s m args below meth c nL D A w K pc L rest S M := by
  subst hp
  exact fun res hM H locs ls hP hD hS hl => lv_iload hC.1.1 hC.1.2.1 hd (lk_at hl hl0) (k res hM H locs ls hP hD hS hl)
theorem gx_lload_n (hC : CX p s m args meth c cc nL ret own D tys tZ A) {f : Fin 4} {x : Int64} {pc' : Nat} (hp : pc + 1 = pc') (hd : decode cc pc = .ok (.lload_n f, 1)) (hl0 : L.lookup (f : Nat) = some (.long x)) (k : GX p l e R s m args below meth c nL D A w K pc' L (.long x :: rest) S M) : GX p l e R s m args below meth c nL D A w K pc L rest S M := by
  subst hp
  exact fun res hM H locs ls hP hD hS hl => lv_lload_n hC.1.1 hC.1.2.1 hd rfl (lk_at hl hl0) (k res hM H locs ls hP hD hS hl)
theorem gx_aload_n (hC : CX p s m args meth c cc nL ret own D tys tZ A) {f : Fin 4} {x : Nat} {pc' : Nat} (hp : pc + 1 = pc') (hd : decode cc pc = .ok (.aload_n f, 1)) (hl0 : L.lookup (f : Nat) = some (.ref x)) (k : GX p l e R s m args below meth c nL D A w K pc' L (.ref x :: rest) S M) : GX p l e R s m args below meth c nL D A w K pc L rest S M := by
  subst hp
  exact fun res hM H locs ls hP hD hS hl => lv_aload_n hC.1.1 hC.1.2.1 hd rfl (lk_at hl hl0) (k res hM H locs ls hP hD hS hl)
theorem gx_istore_n (hC : CX p s m args meth c cc nL ret own D tys tZ A) {f : Fin 4} {x : Int32} (L' : List (Nat × Value)) {pc' : Nat} (hp : pc + 1 = pc') (hd : decode cc pc = .ok (.istore_n f, 1)) (hn : (f : Nat) < nL) (hL : ((f : Nat), Value.int x) :: L.filter (fun q => !(q.1 == (f : Nat)) && !(q.1 + 1 == (f : Nat) && q.2.category == 2)) = L') (k : GX p l e R s m args below meth c nL D A w K pc' L' rest S M) : GX p l e R s m args below meth c nL D A w K pc L (.int x :: rest) S M := by
  subst hp
  exact fun res hM H locs ls hP hD hS hl => lv_istore_n hC.1.1 hC.1.2.1 hd rfl hl hn hL (fun ls' hl' => k res hM H locs ls' hP hD hS hl')
theorem gx_istore (hC : CX p s m args meth c cc nL ret own D tys tZ A) {i : Nat} {x : Int32} (L' : List (Nat × Value)) {pc' : Nat} (hp : pc + 2 = pc') (hd : decode cc pc = .ok (.istore i, 2)) (hn : i < nL) (hL : (i, Value.int x) :: L.filter (fun q => !(q.1 == i) && !(q.1 + 1 == i && q.2.category == 2)) = L') (k : GX p l e R s m args below meth c nL D A w K pc' L' rest S M) : GX p l e R s m args below meth c nL D A w K pc L (.int x :: rest) S M := by
  subst hp
  exact fun res hM H locs ls hP hD hS hl => lv_istore hC.1.1 hC.1.2.1 hd hl hn hL (fun ls' hl' => k res hM H locs ls' hP hD hS hl')
theorem gx_lstore_n (hC : CX p s m args meth c cc nL ret own D tys tZ A) {f : Fin 4} {x : Int64} (L' : List (Nat × Value)) {pc' : Nat} (hp : pc + 1 = pc') (hd : decode cc pc = .ok (.lstore_n f, 1)) (hn : (f : Nat) + 1 < nL) (hL : ((f : Nat), Value.long x) :: L.filter (fun q => !(q.1 == (f : Nat)) && (!(q.1 == (f : Nat) + 1) && !(q.1 + 1 == (f : Nat) && q.2.category == 2))) = L') (k : GX p l e R s m args below meth c nL D A w K pc' L' rest S M) : GX p l e R s m args below meth c nL D A w K pc L (.long x :: rest) S M := by
  subst hp
  exact fun res hM H locs ls hP hD hS hl => lv_lstore_n hC.1.1 hC.1.2.1 hd rfl hl hn hL (fun ls' hl' => k res hM H locs ls' hP hD hS hl')
theorem gx_iinc (hC : CX p s m args meth c cc nL ret own D tys tZ A) {i : Nat} {n : Int} {x v : Int32} (L' : List (Nat × Value)) {pc' : Nat} (hp : pc + 3 = pc') (hd : decode cc pc = .ok (.iinc i n, 3)) (hl0 : L.lookup i = some (.int x)) (hv : x + Int32.ofInt n = v) (hn : i < nL) (hL : (i, Value.int v) :: L.filter (fun q => !(q.1 == i) && !(q.1 + 1 == i && q.2.category == 2)) = L') (k : GX p l e R s m args below meth c nL D A w K pc' L' rest S M) : GX p l e R s m args below meth c nL D A w K pc L rest S M := by
  subst hp
  intro res hM H locs ls hP hD hS hl
  obtain ⟨j, hj⟩ := List.getElem?_of_mem (lk_mem hl0)
  exact lv_iinc hC.1.1 hC.1.2.1 hd hl hj hv hn hL (fun ls' hl' => k res hM H locs ls' hP hD hS hl')
theorem gx_goto (hC : CX p s m args meth c cc nL ret own D tys tZ A) {off : Int} (tgt : Nat) (hd : decode cc pc = .ok (.goto off, 3)) (ht : (pc : Int) + off = (tgt : Int)) (k : GX p l e R s m args below meth c nL D A w K tgt L rest S M) : GX p l e R s m args below meth c nL D A w K pc L rest S M :=
  fun res hM H locs ls hP hD hS hl => lv_goto hC.1.1 hC.1.2.1 hd ht (k res hM H locs ls hP hD hS hl)
theorem gx_dup (hC : CX p s m args meth c cc nL ret own D tys tZ A) {va : Value} {pc' : Nat} (hp : pc + 1 = pc') (hd : decode cc pc = .ok (.dup, 1)) (h1 : va.category = 1) (k : GX p l e R s m args below meth c nL D A w K pc' L (va :: va :: rest) S M) : GX p l e R s m args below meth c nL D A w K pc L (va :: rest) S M := by
  subst hp
  exact fun res hM H locs ls hP hD hS hl => lv_dup hC.1.1 hC.1.2.1 hd h1 (k res hM H locs ls hP hD hS hl)
theorem gx_dup2 (hC : CX p s m args meth c cc nL ret own D tys tZ A) {va vb : Value} {pc' : Nat} (hp : pc + 1 = pc') (hd : decode cc pc = .ok (.dup2, 1)) (h1 : va.category = 1) (h2 : vb.category = 1) (k : GX p l e R s m args below meth c nL D A w K pc' L (va :: vb :: va :: vb :: rest) S M) : GX p l e R s m args below meth c nL D A w K pc L (va :: vb :: rest) S M := by
  subst hp
  exact fun res hM H locs ls hP hD hS hl => lv_dup2_11 hC.1.1 hC.1.2.1 hd h1 h2 (k res hM H locs ls hP hD hS hl)
theorem gx_pop (hC : CX p s m args meth c cc nL ret own D tys tZ A) {va : Value} {pc' : Nat} (hp : pc + 1 = pc') (hd : decode cc pc = .ok (.pop, 1)) (h1 : va.category = 1) (k : GX p l e R s m args below meth c nL D A w K pc' L rest S M) : GX p l e R s m args below meth c nL D A w K pc L (va :: rest) S M := by
  subst hp
  exact fun res hM H locs ls hP hD hS hl => lv_pop hC.1.1 hC.1.2.1 hd h1 (k res hM H locs ls hP hD hS hl)
theorem gx_sub (L' : List (Nat × Value)) (ks : List Nat) (hL : lv_pick L ks = L') {stk : List Value} (k : GX p l e R s m args below meth c nL D A w K pc L' stk S M) : GX p l e R s m args below meth c nL D A w K pc L stk S M :=
  fun res hM H locs ls hP hD hS hl => k res hM H locs ls hP hD hS (lv_sub hl ks hL)
theorem gx_iadd (hC : CX p s m args meth c cc nL ret own D tys tZ A) {x y : Int32} {pc' : Nat} (hp : pc + 1 = pc') (hd : decode cc pc = .ok (.iadd, 1)) (k : GX p l e R s m args below meth c nL D A w K pc' L (.int (x + y) :: rest) S M) : GX p l e R s m args below meth c nL D A w K pc L (.int y :: .int x :: rest) S M := by
  subst hp
  exact fun res hM H locs ls hP hD hS hl => lv_iadd hC.1.1 hC.1.2.1 hd (k res hM H locs ls hP hD hS hl)
theorem gx_isub (hC : CX p s m args meth c cc nL ret own D tys tZ A) {x y : Int32} {pc' : Nat} (hp : pc + 1 = pc') (hd : decode cc pc = .ok (.isub, 1)) (k : GX p l e R s m args below meth c nL D A w K pc' L (.int (x - y) :: rest) S M) : GX p l e R s m args below meth c nL D A w K pc L (.int y :: .int x :: rest) S M := by
  subst hp
  exact fun res hM H locs ls hP hD hS hl => lv_isub hC.1.1 hC.1.2.1 hd (k res hM H locs ls hP hD hS hl)
theorem gx_imul (hC : CX p s m args meth c cc nL ret own D tys tZ A) {x y : Int32} {pc' : Nat} (hp : pc + 1 = pc') (hd : decode cc pc = .ok (.imul, 1)) (k : GX p l e R s m args below meth c nL D A w K pc' L (.int (x * y) :: rest) S M) : GX p l e R s m args below meth c nL D A w K pc L (.int y :: .int x :: rest) S M := by
  subst hp
  exact fun res hM H locs ls hP hD hS hl => lv_imul hC.1.1 hC.1.2.1 hd (k res hM H locs ls hP hD hS hl)
theorem gx_iand (hC : CX p s m args meth c cc nL ret own D tys tZ A) {x y : Int32} {pc' : Nat} (hp : pc + 1 = pc') (hd : decode cc pc = .ok (.iand, 1)) (k : GX p l e R s m args below meth c nL D A w K pc' L (.int (x &&& y) :: rest) S M) : GX p l e R s m args below meth c nL D A w K pc L (.int y :: .int x :: rest) S M := by
  subst hp
  exact fun res hM H locs ls hP hD hS hl => lv_iand hC.1.1 hC.1.2.1 hd (k res hM H locs ls hP hD hS hl)
theorem gx_ishl (hC : CX p s m args meth c cc nL ret own D tys tZ A) {x y : Int32} {pc' : Nat} (hp : pc + 1 = pc') (hd : decode cc pc = .ok (.ishl, 1)) (k : GX p l e R s m args below meth c nL D A w K pc' L (.int (x <<< (y &&& 31)) :: rest) S M) : GX p l e R s m args below meth c nL D A w K pc L (.int y :: .int x :: rest) S M := by
  subst hp
  exact fun res hM H locs ls hP hD hS hl => lv_ishl hC.1.1 hC.1.2.1 hd (k res hM H locs ls hP hD hS hl)
theorem gx_ishr (hC : CX p s m args meth c cc nL ret own D tys tZ A) {x y : Int32} {pc' : Nat} (hp : pc + 1 = pc') (hd : decode cc pc = .ok (.ishr, 1)) (k : GX p l e R s m args below meth c nL D A w K pc' L (.int (x >>> (y &&& 31)) :: rest) S M) : GX p l e R s m args below meth c nL D A w K pc L (.int y :: .int x :: rest) S M := by
  subst hp
  exact fun res hM H locs ls hP hD hS hl => lv_ishr hC.1.1 hC.1.2.1 hd (k res hM H locs ls hP hD hS hl)
theorem gx_ladd (hC : CX p s m args meth c cc nL ret own D tys tZ A) {x y : Int64} {pc' : Nat} (hp : pc + 1 = pc') (hd : decode cc pc = .ok (.ladd, 1)) (k : GX p l e R s m args below meth c nL D A w K pc' L (.long (x + y) :: rest) S M) : GX p l e R s m args below meth c nL D A w K pc L (.long y :: .long x :: rest) S M := by
  subst hp
  exact fun res hM H locs ls hP hD hS hl => lv_ladd hC.1.1 hC.1.2.1 hd (k res hM H locs ls hP hD hS hl)
theorem gx_lsub (hC : CX p s m args meth c cc nL ret own D tys tZ A) {x y : Int64} {pc' : Nat} (hp : pc + 1 = pc') (hd : decode cc pc = .ok (.lsub, 1)) (k : GX p l e R s m args below meth c nL D A w K pc' L (.long (x - y) :: rest) S M) : GX p l e R s m args below meth c nL D A w K pc L (.long y :: .long x :: rest) S M := by
  subst hp
  exact fun res hM H locs ls hP hD hS hl => lv_lsub hC.1.1 hC.1.2.1 hd (k res hM H locs ls hP hD hS hl)
theorem gx_land (hC : CX p s m args meth c cc nL ret own D tys tZ A) {x y : Int64} {pc' : Nat} (hp : pc + 1 = pc') (hd : decode cc pc = .ok (.land, 1)) (k : GX p l e R s m args below meth c nL D A w K pc' L (.long (x &&& y) :: rest) S M) : GX p l e R s m args below meth c nL D A w K pc L (.long y :: .long x :: rest) S M := by
  subst hp
  exact fun res hM H locs ls hP hD hS hl => lv_land hC.1.1 hC.1.2.1 hd (k res hM H locs ls hP hD hS hl)
theorem gx_lor (hC : CX p s m args meth c cc nL ret own D tys tZ A) {x y : Int64} {pc' : Nat} (hp : pc + 1 = pc') (hd : decode cc pc = .ok (.lor, 1)) (k : GX p l e R s m args below meth c nL D A w K pc' L (.long (x ||| y) :: rest) S M) : GX p l e R s m args below meth c nL D A w K pc L (.long y :: .long x :: rest) S M := by
  subst hp
  exact fun res hM H locs ls hP hD hS hl => lv_lor hC.1.1 hC.1.2.1 hd (k res hM H locs ls hP hD hS hl)
theorem gx_idiv (hC : CX p s m args meth c cc nL ret own D tys tZ A) {x y : Int32} {pc' : Nat} (hp : pc + 1 = pc') (hd : decode cc pc = .ok (.idiv, 1)) (hy : ¬ y = 0) (k : GX p l e R s m args below meth c nL D A w K pc' L (.int (x / y) :: rest) S M) : GX p l e R s m args below meth c nL D A w K pc L (.int y :: .int x :: rest) S M := by
  subst hp
  exact fun res hM H locs ls hP hD hS hl => lv_idiv hC.1.1 hC.1.2.1 hd hy (k res hM H locs ls hP hD hS hl)
theorem gx_irem (hC : CX p s m args meth c cc nL ret own D tys tZ A) {x y : Int32} {pc' : Nat} (hp : pc + 1 = pc') (hd : decode cc pc = .ok (.irem, 1)) (hy : ¬ y = 0) (k : GX p l e R s m args below meth c nL D A w K pc' L (.int (x - x / y * y) :: rest) S M) : GX p l e R s m args below meth c nL D A w K pc L (.int y :: .int x :: rest) S M := by
  subst hp
  exact fun res hM H locs ls hP hD hS hl => lv_irem hC.1.1 hC.1.2.1 hd hy (k res hM H locs ls hP hD hS hl)
theorem gx_ineg (hC : CX p s m args meth c cc nL ret own D tys tZ A) {x : Int32} {pc' : Nat} (hp : pc + 1 = pc') (hd : decode cc pc = .ok (.ineg, 1)) (k : GX p l e R s m args below meth c nL D A w K pc' L (.int (-x) :: rest) S M) : GX p l e R s m args below meth c nL D A w K pc L (.int x :: rest) S M := by
  subst hp
  exact fun res hM H locs ls hP hD hS hl => lv_ineg hC.1.1 hC.1.2.1 hd (k res hM H locs ls hP hD hS hl)
theorem gx_i2l (hC : CX p s m args meth c cc nL ret own D tys tZ A) {x : Int32} {pc' : Nat} (hp : pc + 1 = pc') (hd : decode cc pc = .ok (.i2l, 1)) (k : GX p l e R s m args below meth c nL D A w K pc' L (.long (x.toInt64) :: rest) S M) : GX p l e R s m args below meth c nL D A w K pc L (.int x :: rest) S M := by
  subst hp
  exact fun res hM H locs ls hP hD hS hl => lv_i2l hC.1.1 hC.1.2.1 hd rfl (k res hM H locs ls hP hD hS hl)
theorem gx_l2i (hC : CX p s m args meth c cc nL ret own D tys tZ A) {x : Int64} {pc' : Nat} (hp : pc + 1 = pc') (hd : decode cc pc = .ok (.l2i, 1)) (k : GX p l e R s m args below meth c nL D A w K pc' L (.int (x.toInt32) :: rest) S M) : GX p l e R s m args below meth c nL D A w K pc L (.long x :: rest) S M := by
  subst hp
  exact fun res hM H locs ls hP hD hS hl => lv_l2i hC.1.1 hC.1.2.1 hd rfl (k res hM H locs ls hP hD hS hl)
theorem gx_lushr (hC : CX p s m args meth c cc nL ret own D tys tZ A) {x : Int64} {y : Int32} {pc' : Nat} (hp : pc + 1 = pc') (hd : decode cc pc = .ok (.lushr, 1)) (k : GX p l e R s m args below meth c nL D A w K pc' L (.long ((x.toUInt64 >>> (y.toInt64.toUInt64 &&& Int64.toUInt64 63)).toInt64) :: rest) S M) : GX p l e R s m args below meth c nL D A w K pc L (.int y :: .long x :: rest) S M := by
  subst hp
  exact fun res hM H locs ls hP hD hS hl => lv_lushr hC.1.1 hC.1.2.1 hd rfl (k res hM H locs ls hP hD hS hl)
theorem gx_lshr (hC : CX p s m args meth c cc nL ret own D tys tZ A) {x : Int64} {y : Int32} {pc' : Nat} (hp : pc + 1 = pc') (hd : decode cc pc = .ok (.lshr, 1)) (k : GX p l e R s m args below meth c nL D A w K pc' L (.long (x >>> (y.toInt64 &&& 63)) :: rest) S M) : GX p l e R s m args below meth c nL D A w K pc L (.int y :: .long x :: rest) S M := by
  subst hp
  exact fun res hM H locs ls hP hD hS hl => lv_lshr hC.1.1 hC.1.2.1 hd rfl (k res hM H locs ls hP hD hS hl)
theorem gx_lshl (hC : CX p s m args meth c cc nL ret own D tys tZ A) {x : Int64} {y : Int32} {pc' : Nat} (hp : pc + 1 = pc') (hd : decode cc pc = .ok (.lshl, 1)) (k : GX p l e R s m args below meth c nL D A w K pc' L (.long (x <<< (y.toInt64 &&& 63)) :: rest) S M) : GX p l e R s m args below meth c nL D A w K pc L (.int y :: .long x :: rest) S M := by
  subst hp
  exact fun res hM H locs ls hP hD hS hl => lv_lshl hC.1.1 hC.1.2.1 hd rfl (k res hM H locs ls hP hD hS hl)
theorem gx_if_eq (hC : CX p s m args meth c cc nL ret own D tys tZ A) {x : Int32} {off : Int} {Mt Mf : Option (Int32 × St)} (tgt : Nat) {pc' : Nat} (hp : pc + 3 = pc') (hd : decode cc pc = .ok (.ifCond .eq off, 3)) (ht : (pc : Int) + off = (tgt : Int)) (kt : x = 0 → GX p l e R s m args below meth c nL D A w K tgt L rest S Mt) (kf : ¬ x = 0 → GX p l e R s m args below meth c nL D A w K pc' L rest S Mf) : GX p l e R s m args below meth c nL D A w K pc L (.int x :: rest) S (if x = 0 then Mt else Mf) := by
  subst hp
  exact fun res hM H locs ls hP hD hS hl => lv_if_eq hC.1.1 hC.1.2.1 hd ht (fun h => kt h res (by rw [if_pos h] at hM; exact hM) H locs ls hP hD hS hl) (fun h => kf h res (by rw [if_neg h] at hM; exact hM) H locs ls hP hD hS hl)
theorem gx_icmp_eq (hC : CX p s m args meth c cc nL ret own D tys tZ A) {x y : Int32} {off : Int} {Mt Mf : Option (Int32 × St)} (tgt : Nat) {pc' : Nat} (hp : pc + 3 = pc') (hd : decode cc pc = .ok (.if_icmp .eq off, 3)) (ht : (pc : Int) + off = (tgt : Int)) (kt : x = y → GX p l e R s m args below meth c nL D A w K tgt L rest S Mt) (kf : ¬ x = y → GX p l e R s m args below meth c nL D A w K pc' L rest S Mf) : GX p l e R s m args below meth c nL D A w K pc L (.int y :: .int x :: rest) S (if x = y then Mt else Mf) := by
  subst hp
  exact fun res hM H locs ls hP hD hS hl => lv_icmp_eq hC.1.1 hC.1.2.1 hd ht (fun h => kt h res (by rw [if_pos h] at hM; exact hM) H locs ls hP hD hS hl) (fun h => kf h res (by rw [if_neg h] at hM; exact hM) H locs ls hP hD hS hl)
theorem gx_if_ne (hC : CX p s m args meth c cc nL ret own D tys tZ A) {x : Int32} {off : Int} {Mt Mf : Option (Int32 × St)} (tgt : Nat) {pc' : Nat} (hp : pc + 3 = pc') (hd : decode cc pc = .ok (.ifCond .ne off, 3)) (ht : (pc : Int) + off = (tgt : Int)) (kf : x = 0 → GX p l e R s m args below meth c nL D A w K pc' L rest S Mf) (kt : ¬ x = 0 → GX p l e R s m args below meth c nL D A w K tgt L rest S Mt) : GX p l e R s m args below meth c nL D A w K pc L (.int x :: rest) S (if x = 0 then Mf else Mt) := by
  subst hp
  exact fun res hM H locs ls hP hD hS hl => lv_if_ne hC.1.1 hC.1.2.1 hd ht (fun h => kt h res (by rw [if_neg h] at hM; exact hM) H locs ls hP hD hS hl) (fun h => kf h res (by rw [if_pos h] at hM; exact hM) H locs ls hP hD hS hl)
theorem gx_icmp_ne (hC : CX p s m args meth c cc nL ret own D tys tZ A) {x y : Int32} {off : Int} {Mt Mf : Option (Int32 × St)} (tgt : Nat) {pc' : Nat} (hp : pc + 3 = pc') (hd : decode cc pc = .ok (.if_icmp .ne off, 3)) (ht : (pc : Int) + off = (tgt : Int)) (kf : x = y → GX p l e R s m args below meth c nL D A w K pc' L rest S Mf) (kt : ¬ x = y → GX p l e R s m args below meth c nL D A w K tgt L rest S Mt) : GX p l e R s m args below meth c nL D A w K pc L (.int y :: .int x :: rest) S (if x = y then Mf else Mt) := by
  subst hp
  exact fun res hM H locs ls hP hD hS hl => lv_icmp_ne hC.1.1 hC.1.2.1 hd ht (fun h => kt h res (by rw [if_neg h] at hM; exact hM) H locs ls hP hD hS hl) (fun h => kf h res (by rw [if_pos h] at hM; exact hM) H locs ls hP hD hS hl)
theorem gx_if_lt (hC : CX p s m args meth c cc nL ret own D tys tZ A) {x : Int32} {off : Int} {Mt Mf : Option (Int32 × St)} (tgt : Nat) {pc' : Nat} (hp : pc + 3 = pc') (hd : decode cc pc = .ok (.ifCond .lt off, 3)) (ht : (pc : Int) + off = (tgt : Int)) (kt : x < 0 → GX p l e R s m args below meth c nL D A w K tgt L rest S Mt) (kf : ¬ x < 0 → GX p l e R s m args below meth c nL D A w K pc' L rest S Mf) : GX p l e R s m args below meth c nL D A w K pc L (.int x :: rest) S (if x < 0 then Mt else Mf) := by
  subst hp
  exact fun res hM H locs ls hP hD hS hl => lv_if_lt hC.1.1 hC.1.2.1 hd ht (fun h => kt h res (by rw [if_pos h] at hM; exact hM) H locs ls hP hD hS hl) (fun h => kf h res (by rw [if_neg h] at hM; exact hM) H locs ls hP hD hS hl)
theorem gx_icmp_lt (hC : CX p s m args meth c cc nL ret own D tys tZ A) {x y : Int32} {off : Int} {Mt Mf : Option (Int32 × St)} (tgt : Nat) {pc' : Nat} (hp : pc + 3 = pc') (hd : decode cc pc = .ok (.if_icmp .lt off, 3)) (ht : (pc : Int) + off = (tgt : Int)) (kt : x < y → GX p l e R s m args below meth c nL D A w K tgt L rest S Mt) (kf : ¬ x < y → GX p l e R s m args below meth c nL D A w K pc' L rest S Mf) : GX p l e R s m args below meth c nL D A w K pc L (.int y :: .int x :: rest) S (if x < y then Mt else Mf) := by
  subst hp
  exact fun res hM H locs ls hP hD hS hl => lv_icmp_lt hC.1.1 hC.1.2.1 hd ht (fun h => kt h res (by rw [if_pos h] at hM; exact hM) H locs ls hP hD hS hl) (fun h => kf h res (by rw [if_neg h] at hM; exact hM) H locs ls hP hD hS hl)
theorem gx_if_ge (hC : CX p s m args meth c cc nL ret own D tys tZ A) {x : Int32} {off : Int} {Mt Mf : Option (Int32 × St)} (tgt : Nat) {pc' : Nat} (hp : pc + 3 = pc') (hd : decode cc pc = .ok (.ifCond .ge off, 3)) (ht : (pc : Int) + off = (tgt : Int)) (kt : 0 ≤ x → GX p l e R s m args below meth c nL D A w K tgt L rest S Mt) (kf : ¬ 0 ≤ x → GX p l e R s m args below meth c nL D A w K pc' L rest S Mf) : GX p l e R s m args below meth c nL D A w K pc L (.int x :: rest) S (if 0 ≤ x then Mt else Mf) := by
  subst hp
  exact fun res hM H locs ls hP hD hS hl => lv_if_ge hC.1.1 hC.1.2.1 hd ht (fun h => kt h res (by rw [if_pos h] at hM; exact hM) H locs ls hP hD hS hl) (fun h => kf h res (by rw [if_neg h] at hM; exact hM) H locs ls hP hD hS hl)
theorem gx_icmp_ge (hC : CX p s m args meth c cc nL ret own D tys tZ A) {x y : Int32} {off : Int} {Mt Mf : Option (Int32 × St)} (tgt : Nat) {pc' : Nat} (hp : pc + 3 = pc') (hd : decode cc pc = .ok (.if_icmp .ge off, 3)) (ht : (pc : Int) + off = (tgt : Int)) (kt : y ≤ x → GX p l e R s m args below meth c nL D A w K tgt L rest S Mt) (kf : ¬ y ≤ x → GX p l e R s m args below meth c nL D A w K pc' L rest S Mf) : GX p l e R s m args below meth c nL D A w K pc L (.int y :: .int x :: rest) S (if y ≤ x then Mt else Mf) := by
  subst hp
  exact fun res hM H locs ls hP hD hS hl => lv_icmp_ge hC.1.1 hC.1.2.1 hd ht (fun h => kt h res (by rw [if_pos h] at hM; exact hM) H locs ls hP hD hS hl) (fun h => kf h res (by rw [if_neg h] at hM; exact hM) H locs ls hP hD hS hl)
theorem gx_if_gt (hC : CX p s m args meth c cc nL ret own D tys tZ A) {x : Int32} {off : Int} {Mt Mf : Option (Int32 × St)} (tgt : Nat) {pc' : Nat} (hp : pc + 3 = pc') (hd : decode cc pc = .ok (.ifCond .gt off, 3)) (ht : (pc : Int) + off = (tgt : Int)) (kt : 0 < x → GX p l e R s m args below meth c nL D A w K tgt L rest S Mt) (kf : ¬ 0 < x → GX p l e R s m args below meth c nL D A w K pc' L rest S Mf) : GX p l e R s m args below meth c nL D A w K pc L (.int x :: rest) S (if 0 < x then Mt else Mf) := by
  subst hp
  exact fun res hM H locs ls hP hD hS hl => lv_if_gt hC.1.1 hC.1.2.1 hd ht (fun h => kt h res (by rw [if_pos h] at hM; exact hM) H locs ls hP hD hS hl) (fun h => kf h res (by rw [if_neg h] at hM; exact hM) H locs ls hP hD hS hl)
theorem gx_icmp_gt (hC : CX p s m args meth c cc nL ret own D tys tZ A) {x y : Int32} {off : Int} {Mt Mf : Option (Int32 × St)} (tgt : Nat) {pc' : Nat} (hp : pc + 3 = pc') (hd : decode cc pc = .ok (.if_icmp .gt off, 3)) (ht : (pc : Int) + off = (tgt : Int)) (kt : y < x → GX p l e R s m args below meth c nL D A w K tgt L rest S Mt) (kf : ¬ y < x → GX p l e R s m args below meth c nL D A w K pc' L rest S Mf) : GX p l e R s m args below meth c nL D A w K pc L (.int y :: .int x :: rest) S (if y < x then Mt else Mf) := by
  subst hp
  exact fun res hM H locs ls hP hD hS hl => lv_icmp_gt hC.1.1 hC.1.2.1 hd ht (fun h => kt h res (by rw [if_pos h] at hM; exact hM) H locs ls hP hD hS hl) (fun h => kf h res (by rw [if_neg h] at hM; exact hM) H locs ls hP hD hS hl)
theorem gx_if_le (hC : CX p s m args meth c cc nL ret own D tys tZ A) {x : Int32} {off : Int} {Mt Mf : Option (Int32 × St)} (tgt : Nat) {pc' : Nat} (hp : pc + 3 = pc') (hd : decode cc pc = .ok (.ifCond .le off, 3)) (ht : (pc : Int) + off = (tgt : Int)) (kt : x ≤ 0 → GX p l e R s m args below meth c nL D A w K tgt L rest S Mt) (kf : ¬ x ≤ 0 → GX p l e R s m args below meth c nL D A w K pc' L rest S Mf) : GX p l e R s m args below meth c nL D A w K pc L (.int x :: rest) S (if x ≤ 0 then Mt else Mf) := by
  subst hp
  exact fun res hM H locs ls hP hD hS hl => lv_if_le hC.1.1 hC.1.2.1 hd ht (fun h => kt h res (by rw [if_pos h] at hM; exact hM) H locs ls hP hD hS hl) (fun h => kf h res (by rw [if_neg h] at hM; exact hM) H locs ls hP hD hS hl)
theorem gx_icmp_le (hC : CX p s m args meth c cc nL ret own D tys tZ A) {x y : Int32} {off : Int} {Mt Mf : Option (Int32 × St)} (tgt : Nat) {pc' : Nat} (hp : pc + 3 = pc') (hd : decode cc pc = .ok (.if_icmp .le off, 3)) (ht : (pc : Int) + off = (tgt : Int)) (kt : x ≤ y → GX p l e R s m args below meth c nL D A w K tgt L rest S Mt) (kf : ¬ x ≤ y → GX p l e R s m args below meth c nL D A w K pc' L rest S Mf) : GX p l e R s m args below meth c nL D A w K pc L (.int y :: .int x :: rest) S (if x ≤ y then Mt else Mf) := by
  subst hp
  exact fun res hM H locs ls hP hD hS hl => lv_icmp_le hC.1.1 hC.1.2.1 hd ht (fun h => kt h res (by rw [if_pos h] at hM; exact hM) H locs ls hP hD hS hl) (fun h => kf h res (by rw [if_neg h] at hM; exact hM) H locs ls hP hD hS hl)
theorem gx_lcmp (hC : CX p s m args meth c cc nL ret own D tys tZ A) {x y : Int64} {pc' : Nat} (hp : pc + 1 = pc') (hd : decode cc pc = .ok (.lcmp, 1)) (k : GX p l e R s m args below meth c nL D A w K pc' L (.int (lg_cmp x y) :: rest) S M) : GX p l e R s m args below meth c nL D A w K pc L (.long y :: .long x :: rest) S M := by
  subst hp
  exact fun res hM H locs ls hP hD hS hl => W.lcmp hC.1.1 hC.1.2.1 hd (k res hM H locs ls hP hD hS hl)
theorem gx_ite {cnd : Prop} [Decidable cnd] {Mt Mf : Option (Int32 × St)} {stk : List Value} (kt : cnd → GX p l e R s m args below meth c nL D A w K pc L stk S Mt) (kf : ¬ cnd → GX p l e R s m args below meth c nL D A w K pc L stk S Mf) : GX p l e R s m args below meth c nL D A w K pc L stk S (if cnd then Mt else Mf) := by
  by_cases h : cnd
  · rw [if_pos h]; exact kt h
  · rw [if_neg h]; exact kf h
theorem gx_case (hC : CX p s m args meth c cc nL ret own D tys tZ A) {x v : Int32} {dflt lo hi off : Int} {offs : Array Int} {len : Nat} (tgt : Nat) (hx : x = v) (hd : decode cc pc = .ok (.tableswitch dflt lo hi offs, len)) (h : (¬ v.toInt < lo ∧ ¬ hi < v.toInt) ∧ offs[(v.toInt - lo).toNat]? = some off ∧ (pc : Int) + off = (tgt : Int)) (k : GX p l e R s m args below meth c nL D A w K tgt L rest S M) : GX p l e R s m args below meth c nL D A w K pc L (.int x :: rest) S M := by
  subst hx
  exact fun res hM H locs ls hP hD hS hl => lv_tableIn hC.1.1 hC.1.2.1 hd h.1.1 h.1.2 h.2.1 h.2.2 (k res hM H locs ls hP hD hS hl)
theorem gx_dflt (hC : CX p s m args meth c cc nL ret own D tys tZ A) {x : Int32} {dflt lo hi : Int} {offs : Array Int} {len : Nat} (tgt : Nat) (hd : decode cc pc = .ok (.tableswitch dflt lo hi offs, len)) (h : x.toInt < lo ∨ hi < x.toInt) (ht : (pc : Int) + dflt = (tgt : Int)) (k : GX p l e R s m args below meth c nL D A w K tgt L rest S M) : GX p l e R s m args below meth c nL D A w K pc L (.int x :: rest) S M :=
  fun res hM H locs ls hP hD hS hl => lv_tableOut hC.1.1 hC.1.2.1 hd h ht (k res hM H locs ls hP hD hS hl)
theorem gx_get (hC : CX p s m args meth c cc nL ret own D tys tZ A) {Cn : String} {T : u_T} {N ci index b : Nat} {fs : List Value} {v : Value} (q0 : Nat) (hq : (w S)[q0]? = some (b, .inr (ci, fs))) (hc : vwCl[ci]? = some (Cn, T, N)) (hin : ∀ z ∈ u_ws Cn T N, z ∈ wsAll) (k0 : Nat) (hk : k0 < N) (hlk : Cond.fieldLink own index (T k0).1 (T k0).2.1 (T k0).2.2.1 ∈ wsAll) (hv : fs[k0]? = some v) {pc' : Nat} (hp : pc + 3 = pc') (hd : decode cc pc = .ok (.getfield index, 3)) (k : GX p l e R s m args below meth c nL D A w K pc' L (v :: rest) S M) : GX p l e R s m args below meth c nL D A w K pc L (.ref b :: rest) S M := by
  subst hp
  exact fun res hM H locs ls hP hD hS hl => va_get (D := D) (C := Cn) hC.1.1 hC.1.2.1 hC.1.2.2.2.2 hin hC.1.2.2.2.1 hC.2.1 hP q0 hq hc k0 hk (hC.1.2.2.2.2 _ hlk) (fun _ h9 => h9) hv hd (k res hM H locs ls hP hD hS hl)
theorem gx_getN (hC : CX p s m args meth c cc nL ret own D tys tZ A) {Cn host : String} {T : u_T} {N ci index b : Nat} {fs : List Value} {v : Value} (q0 : Nat) (hq : (w S)[q0]? = some (b, .inr (ci, fs))) (hc : vwCl[ci]? = some (Cn, T, N)) (hin : ∀ z ∈ u_ws Cn T N, z ∈ wsAll) (k0 : Nat) (hk : k0 < N) (hlk : Cond.fieldLinkNest own index (T k0).1 (T k0).2.1 (T k0).2.2.1 host ∈ nestAll) (hv : fs[k0]? = some v) {pc' : Nat} (hp : pc + 3 = pc') (hd : decode cc pc = .ok (.getfield index, 3)) (k : GX p l e R s m args below meth c nL D A w K pc' L (v :: rest) S M) : GX p l e R s m args below meth c nL D A w K pc L (.ref b :: rest) S M := by
  subst hp
  exact fun res hM H locs ls hP hD hS hl => va_getN (D := D) (C := Cn) hC.1.1 hC.1.2.1 hC.1.2.2.2.2 hin hC.1.2.2.2.1 hC.2.1 hP q0 hq hc k0 hk (va_Nw.use (nest_tab _ hlk) (hC.2.2.2.2.2.1 _ hlk)) (fun _ h9 => h9) hv hd (k res hM H locs ls hP hD hS hl)
theorem gx_put (hC : CX p s m args meth c cc nL ret own D tys tZ A) {Cn : String} {T : u_T} {N ci index b : Nat} {fs : List Value} {v : Value} {ty0 : Nat → FieldType} (hty : ∀ k, k < N → parseFieldDescriptor (T k).2.2.1 = some (ty0 k)) (hnm : ∀ a, a < N → ∀ b, b < N → a ≠ b → (T a).2.1 ≠ (T b).2.1) (q0 : Nat) (hq : (w S)[q0]? = some (b, .inr (ci, fs))) (hc : vwCl[ci]? = some (Cn, T, N)) (hin : ∀ z ∈ u_ws Cn T N, z ∈ wsAll) (k0 : Nat) (hk : k0 < N) (hlk : Cond.fieldLink own index (T k0).1 (T k0).2.1 (T k0).2.2.1 ∈ wsAll) (hfin : (T k0).2.2.2 = false) (hn : narrow (ty0 k0) v = v) (hf : fits (ty0 k0) v = true) (hl0 : k0 < fs.length) (S' : St) (hset : (w S).set q0 (b, .inr (ci, fs.set k0 v)) = w S') {pc' : Nat} (hp : pc + 3 = pc') (hd : decode cc pc = .ok (.putfield index, 3)) (k : GX p l e R s m args below meth c nL D A w K pc' L rest S' M) : GX p l e R s m args below meth c nL D A w K pc L (v :: .ref b :: rest) S M := by
  subst hp
  exact fun res hM H locs ls hP hD hS hl => va_put (D := D) (C := Cn) hC.1.1 hC.1.2.1 hC.1.2.2.2.2 hin ty0 hty hnm hC.1.2.2.2.1 hC.2.1 hP hD hS q0 hq hc k0 hk (hC.1.2.2.2.2 _ hlk) (fun _ h9 => h9) hfin (hty k0 hk) hn hf hl0 hd (fun H1 locs1 hP1 hD1 hS1 => k res hM H1 locs1 ls (hset ▸ hP1) (hset ▸ hD1) hS1 hl)
theorem gx_putN (hC : CX p s m args meth c cc nL ret own D tys tZ A) {Cn host : String} {T : u_T} {N ci index b : Nat} {fs : List Value} {v : Value} {ty0 : Nat → FieldType} (hty : ∀ k, k < N → parseFieldDescriptor (T k).2.2.1 = some (ty0 k)) (hnm : ∀ a, a < N → ∀ b, b < N → a ≠ b → (T a).2.1 ≠ (T b).2.1) (q0 : Nat) (hq : (w S)[q0]? = some (b, .inr (ci, fs))) (hc : vwCl[ci]? = some (Cn, T, N)) (hin : ∀ z ∈ u_ws Cn T N, z ∈ wsAll) (k0 : Nat) (hk : k0 < N) (hlk : Cond.fieldLinkNest own index (T k0).1 (T k0).2.1 (T k0).2.2.1 host ∈ nestAll) (hfin : (T k0).2.2.2 = false) (hn : narrow (ty0 k0) v = v) (hf : fits (ty0 k0) v = true) (hl0 : k0 < fs.length) (S' : St) (hset : (w S).set q0 (b, .inr (ci, fs.set k0 v)) = w S') {pc' : Nat} (hp : pc + 3 = pc') (hd : decode cc pc = .ok (.putfield index, 3)) (k : GX p l e R s m args below meth c nL D A w K pc' L rest S' M) : GX p l e R s m args below meth c nL D A w K pc L (v :: .ref b :: rest) S M := by
  subst hp
  exact fun res hM H locs ls hP hD hS hl => va_putN (D := D) (C := Cn) hC.1.1 hC.1.2.1 hC.1.2.2.2.2 hin ty0 hty hnm hC.1.2.2.2.1 hC.2.1 hP hD hS q0 hq hc k0 hk (va_Nw.use (nest_tab _ hlk) (hC.2.2.2.2.2.1 _ hlk)) (fun _ h9 => h9) hfin (hty k0 hk) hn hf hl0 hd (fun H1 locs1 hP1 hD1 hS1 => k res hM H1 locs1 ls (hset ▸ hP1) (hset ▸ hD1) hS1 hl)
theorem gx_iald (hC : CX p s m args meth c cc nL ret own D tys tZ A) {cA : ClassId} {n b : Nat} {f : Nat → Int32} {i : Int32} (q0 t0 : Nat) (hq : (w S)[q0]? = some (b, .inl (cA, n, .inl f))) (ht : tys[t0]? = some (cA, .int)) {pc' : Nat} (hp : pc + 1 = pc') (hd : decode cc pc = .ok (.iaload, 1)) (k : GX p l e R s m args below meth c nL D A w K pc' L (.int (f i.toNatClampNeg) :: rest) S M) : GX p l e R s m args below meth c nL D A w K pc L (.int i :: .ref b :: rest) S (if inb i n = true then M else none) := by
  subst hp
  refine gx_ite (fun h => ?_) (fun h res hM => by cases hM)
  exact fun res hM H locs ls hP hD hS hl => va_iald hC.1.1 hC.1.2.1 hC.2.1 hP q0 t0 hq ht (inb_vp h) hd (k res hM H locs ls hP hD hS hl)
theorem gx_zald (hC : CX p s m args meth c cc nL ret own D tys tZ A) {cA : ClassId} {n b : Nat} {f : Nat → Int32} {i : Int32} (q0 t0 : Nat) (hq : (w S)[q0]? = some (b, .inl (cA, n, .inl f))) (ht : tys[t0]? = some (cA, .boolean)) {pc' : Nat} (hp : pc + 1 = pc') (hd : decode cc pc = .ok (.baload, 1)) (k : GX p l e R s m args below meth c nL D A w K pc' L (.int (f i.toNatClampNeg) :: rest) S M) : GX p l e R s m args below meth c nL D A w K pc L (.int i :: .ref b :: rest) S (if inb i n = true then M else none) := by
  subst hp
  refine gx_ite (fun h => ?_) (fun h res hM => by cases hM)
  exact fun res hM H locs ls hP hD hS hl => va_zald hC.1.1 hC.1.2.1 hC.2.1 hP q0 t0 hq ht (inb_vp h) hd (k res hM H locs ls hP hD hS hl)
theorem gx_iast (hC : CX p s m args meth c cc nL ret own D tys tZ A) {cA : ClassId} {n b : Nat} {f : Nat → Int32} {i x : Int32} (q0 t0 : Nat) (hq : (w S)[q0]? = some (b, .inl (cA, n, .inl f))) (ht : tys[t0]? = some (cA, .int)) (S' : St) (hset : (w S).set q0 (b, .inl (cA, n, .inl (upd f i.toNatClampNeg x))) = w S') {pc' : Nat} (hp : pc + 1 = pc') (hd : decode cc pc = .ok (.iastore, 1)) (k : GX p l e R s m args below meth c nL D A w K pc' L rest S' M) : GX p l e R s m args below meth c nL D A w K pc L (.int x :: .int i :: .ref b :: rest) S (if inb i n = true then M else none) := by
  subst hp
  refine gx_ite (fun h => ?_) (fun h res hM => by cases hM)
  exact fun res hM H locs ls hP hD hS hl => va_iast hC.1.1 hC.1.2.1 hC.2.1 hP hD hS q0 t0 hq ht (inb_vp h) hd (fun H1 locs1 hP1 hD1 hS1 => k res hM H1 locs1 ls (hset ▸ hP1) (hset ▸ hD1) hS1 hl)
theorem gx_zast (hC : CX p s m args meth c cc nL ret own D tys tZ A) {cA : ClassId} {n b : Nat} {f : Nat → Int32} {i x : Int32} (q0 t0 : Nat) (hq : (w S)[q0]? = some (b, .inl (cA, n, .inl f))) (ht : tys[t0]? = some (cA, .boolean)) (hx : vp_nar .boolean x = x) (S' : St) (hset : (w S).set q0 (b, .inl (cA, n, .inl (upd f i.toNatClampNeg x))) = w S') {pc' : Nat} (hp : pc + 1 = pc') (hd : decode cc pc = .ok (.bastore, 1)) (k : GX p l e R s m args below meth c nL D A w K pc' L rest S' M) : GX p l e R s m args below meth c nL D A w K pc L (.int x :: .int i :: .ref b :: rest) S (if inb i n = true then M else none) := by
  subst hp
  refine gx_ite (fun h => ?_) (fun h res hM => by cases hM)
  intro res hM H locs ls hP hD hS hl
  refine va_zast hC.1.1 hC.1.2.1 hC.2.1 hP hD hS q0 t0 hq ht (inb_vp h) hd (fun H1 locs1 hP1 hD1 hS1 => ?_)
  rw [hx] at hP1 hD1
  exact k res hM H1 locs1 ls (hset ▸ hP1) (hset ▸ hD1) hS1 hl
theorem gx_aald (hC : CX p s m args meth c cc nL ret own D tys tZ A) {cA : ClassId} {C : String} {n b : Nat} {f : Nat → Option Nat} {i : Int32} (q0 t0 : Nat) (hq : (w S)[q0]? = some (b, .inl (cA, n, .inr (.inr (.inr (.inr f)))))) (ht : tys[t0]? = some (cA, .object C)) {pc' : Nat} (hp : pc + 1 = pc') (hd : decode cc pc = .ok (.aaload, 1)) (k : inb i n = true → GX p l e R s m args below meth c nL D A w K pc' L (va_rf (f i.toNatClampNeg) :: rest) S M) : GX p l e R s m args below meth c nL D A w K pc L (.int i :: .ref b :: rest) S (if inb i n = true then M else none) := by
  subst hp
  refine gx_ite (fun h => ?_) (fun h res hM => by cases hM)
  exact fun res hM H locs ls hP hD hS hl => va_aldq hC.1.1 hC.1.2.1 hC.2.1 hP q0 t0 hq ht (inb_vp h) hd (k h res hM H locs ls hP hD hS hl)
theorem gx_gets (hC : CX p s m args meth c cc nL ret own D tys tZ A) {index : Nat} (hlk : Cond.fieldLink own index "ChainUnwinder$Program" "SIZES" "[I" ∈ wsAll) {pc' : Nat} (hp : pc + 3 = pc') (hd : decode cc pc = .ok (.getstatic index, 3)) (k : GX p l e R s m args below meth c nL D A w K pc' L (.ref tZ :: rest) S M) : GX p l e R s m args below meth c nL D A w K pc L rest S M := by
  subst hp
  exact fun res hM H locs ls hP hD hS hl => va_gets hC.1.1 hC.1.2.1 hC.2.2.2.2.2.2.1 hS hC.1.2.2.2.1 (hC.1.2.2.2.2 _ hlk) (fun _ h9 => h9) hd (k res hM H locs ls hP hD hS hl)
theorem gx_tlen (hC : CX p s m args meth c cc nL ret own D tys tZ A) {pc' : Nat} (hp : pc + 1 = pc') (hd : decode cc pc = .ok (.arraylength, 1)) (k : GX p l e R s m args below meth c nL D A w K pc' L (.int 16 :: rest) S M) : GX p l e R s m args below meth c nL D A w K pc L (.ref tZ :: rest) S M := by
  subst hp
  exact fun res hM H locs ls hP hD hS hl => va_tlen hC.1.1 hC.1.2.1 hC.2.2.2.2.2.2.2.1 hS rfl hd (k res hM H locs ls hP hD hS hl)
theorem gx_ti (hC : CX p s m args meth c cc nL ret own D tys tZ A) {i : Int32} {pc' : Nat} (hp : pc + 1 = pc') (hd : decode cc pc = .ok (.iaload, 1)) (k : GX p l e R s m args below meth c nL D A w K pc' L (.int (szs i.toNatClampNeg) :: rest) S M) : GX p l e R s m args below meth c nL D A w K pc L (.int i :: .ref tZ :: rest) S (if inb i 16 = true then M else none) := by
  subst hp
  refine gx_ite (fun h => ?_) (fun h res hM => by cases hM)
  exact fun res hM H locs ls hP hD hS hl => va_ti hC.1.1 hC.1.2.1 hC.2.2.2.2.2.2.2.1 hS (inb_vp h) rfl hd (k res hM H locs ls hP hD hS hl)
theorem gx_iret (hC : CX p s m args meth c cc nL (some .int) own D tys tZ A) {v : Int32} (hd : decode cc pc = .ok (.ireturn, 1)) : GX p l e R s m args below meth c nL D A w (fun res => MQ below (QI D tys w A res) args s 0 0 A) pc L [.int v] S (some (v, S)) := by
  intro res hM H locs ls hP hD hS hl
  have hlocks := hC.2.2.2.1
  exact W.iret (v := v) hC.1.1 hC.1.2.1 hC.2.2.1 (fun t ht hW => ⟨⟨v, S, rfl, Option.some.inj hM, by rw [ht]; exact hP, va_K.moved hW.alike hC.2.1, hD⟩, hS.F ht⟩) hS.2.2 hd
def bz (v : Int32) (S : St) : Option (Int32 × St) := if v = 0 ∨ v = 1 then some (v, S) else none
theorem gx_zret (hC : CX p s m args meth c cc nL (some .boolean) own D tys tZ A) {v : Int32} (hd : decode cc pc = .ok (.ireturn, 1)) : GX p l e R s m args below meth c nL D A w (fun res => MQ below (QI D tys w A res) args s 0 0 A) pc L [.int v] S (bz v S) := by
  refine gx_ite (fun h => ?_) (fun h res hM => by cases hM)
  intro res hM H locs ls hP hD hS hl
  have hlocks := hC.2.2.2.1
  exact W.zret (v := v) hC.1.1 hC.1.2.1 hC.2.2.1 (by rcases h with rfl | rfl <;> rfl) (fun t ht hW => ⟨⟨v, S, rfl, Option.some.inj hM, by rw [ht]; exact hP, va_K.moved hW.alike hC.2.1, hD⟩, hS.F ht⟩) hS.2.2 hd
theorem gx_vret (hC : CX p s m args meth c cc nL none own D tys tZ A) (hd : decode cc pc = .ok (.return_, 1)) : GX p l e R s m args below meth c nL D A w (fun res => MQ below (QV D tys w A res) args s 0 0 A) pc L [] S (some (0, S)) := by
  intro res hM H locs ls hP hD hS hl
  have hlocks := hC.2.2.2.1
  have he : S = res.2 := by rw [← Option.some.inj hM]
  exact W.vret hC.1.1 hC.1.2.1 hC.2.2.1 (fun t ht hW => ⟨⟨S, rfl, he, by rw [ht]; exact hP, va_K.moved hW.alike hC.2.1, hD⟩, hS.F ht⟩) hS.2.2 hd
theorem PX.blind {t sz : Nat} {ws : va_W} {av : List Value} : FrameBlind (va_Pc av (PX D tys t ws sz)) := fun a U g mk q => by
  obtain ⟨q0, q1, qP, qK, qD, qX⟩ := q
  exact ⟨q0, q1, qP, va_K.moved (u := U) (U := U.calling g mk a) (Vm.Alike.refl U.vm) qK, qD, XF.blind g mk a qX⟩
theorem ax_free {H : Heap} {locs : List Loc} (hD : va_D A (w S)) (hS : va_S A s.heap H locs) (hA : ∀ q, s.heap.size ≤ q → A q) : ∀ q, va_A (w S) H.size q → A q := fun q h => h.elim (fun ⟨k, e, hk⟩ => hD.2 k (q, e) hk) (fun h => hA q (Nat.le_trans hS.1 h))
theorem ax_pre {av : List Value} {H : Heap} {locs : List Loc} (hC : CX p s m args meth c cc nL ret own D tys tZ A) (hP : va_P D vwCl (w S) H) (hD : va_D A (w S)) (hS : va_S A s.heap H locs) : ∀ U : State, U.heap = H → s.WarmedH U.vm → va_Pc av (PX D tys tZ (w S) H.size) av.toArray U := fun U hU hW =>
  ⟨rfl, by rw [hU], by rw [hU]; exact hP, va_K.moved hW.alike hC.2.1, hD.weaken (fun _ _ _ _ => trivial), by rw [hU]; exact hC.2.2.2.2.2.go hW (fun a h1 h2 => hS.2.1 a h1 h2) (ax_free hD hS hC.2.2.2.2.1)⟩
abbrev hdY (y : MethodName) (C : String) (n : Nat) : Prop := y.cls = C ∧ y.cls ≠ "java/lang/invoke/MethodHandle" ∧ y.cls ≠ "java/lang/invoke/VarHandle" ∧ (parseMethodDescriptor y.desc).map (fun d => d.parameters.length) = some n
theorem gx_callVI (hC : CX p s m args meth c cc nL ret own D tys tZ A) {y : MethodName} {C : String} {T : u_T} {N ci index b maxL n : Nat} {bytes : ByteArray} {rt : Option FieldType} {rm : Room} {fs As stk : List Value} {Mc : Option (Int32 × St)} {Mk : Int32 × St → Option (Int32 × St)} (hcal : MI l D tys tZ w y bytes maxL rt rm (.ref b :: As) S Mc) (q0 : Nat) (hq : (w S)[q0]? = some (b, .inr (ci, fs))) (hc : vwCl[ci]? = some (C, T, N)) (hG : GoodIn wsAll (wsV own index C y (Cond.code y bytes maxL rt :: wsAll))) (hy : hdY y C n) (hrm : rm.cells = 0 ∧ rm.slots = 0) (hR : rm.frames + 1 ≤ R.frames ∧ 8 + (maxL + 11) + rm.locals ≤ R.locals) (hn : As.length = n) (hstk : stk = As.reverse ++ .ref b :: rest) (hroom : (rest.map fun v => v.category).sum ≤ 8) {pc' : Nat} (hp : pc + 3 = pc') (hd : decode cc pc = .ok (.invokevirtual index, 3)) (k : ∀ r, GX p l e R s m args below meth c nL D A w K pc' L (.int r.1 :: rest) r.2 (Mk r)) : GX p l e R s m args below meth c nL D A w K pc L stk S (Mc.bind Mk) := by
  subst hp
  intro res hM H locs ls hP hD hS hl
  obtain ⟨r, hMc, hMk⟩ := Option.bind_eq_some_iff.mp hM
  have hF := ax_free hD hS hC.2.2.2.2.1
  refine va_calli (va_runV (As := As) (rest := rest) hC.1 (hcal r hMc H.size) (cwV n hC.1.2.2.2.2 hG rfl hrm.1 hrm.2 hy hR) ⟨PX.blind, va_recv hC.2.1 hP hc hq, ax_pre hC hP hD hS⟩ rfl hn hl.1 hstk (lv_room hroom) hd ⟨Nat.zero_le _, Nat.zero_le _⟩) hS (fun q _ h => hF q h) hF (fun r' u t H1 locs1 ht hvm hpost hB hz hk hS1 => ?_)
  obtain ⟨hP1, hK1, hD1⟩ := hB
  rw [ht] at hP1
  subst hpost
  exact k (r', u) res hMk H1 locs1 ls hP1 (hD1.weaken (fun _ q _ h => hF q.1 h)) hS1 hl
theorem gx_callVV (hC : CX p s m args meth c cc nL ret own D tys tZ A) {y : MethodName} {C : String} {T : u_T} {N ci index b maxL n : Nat} {bytes : ByteArray} {rt : Option FieldType} {rm : Room} {fs As stk : List Value} {Mc : Option (Int32 × St)} {Mk : Int32 × St → Option (Int32 × St)} (hcal : MV l D tys tZ w y bytes maxL rt rm (.ref b :: As) S Mc) (q0 : Nat) (hq : (w S)[q0]? = some (b, .inr (ci, fs))) (hc : vwCl[ci]? = some (C, T, N)) (hG : GoodIn wsAll (wsV own index C y (Cond.code y bytes maxL rt :: wsAll))) (hy : hdY y C n) (hrm : rm.cells = 0 ∧ rm.slots = 0) (hR : rm.frames + 1 ≤ R.frames ∧ 8 + (maxL + 11) + rm.locals ≤ R.locals) (hn : As.length = n) (hstk : stk = As.reverse ++ .ref b :: rest) (hroom : (rest.map fun v => v.category).sum ≤ 8) {pc' : Nat} (hp : pc + 3 = pc') (hd : decode cc pc = .ok (.invokevirtual index, 3)) (k : ∀ r, GX p l e R s m args below meth c nL D A w K pc' L rest r.2 (Mk r)) : GX p l e R s m args below meth c nL D A w K pc L stk S (Mc.bind Mk) := by
  subst hp
  intro res hM H locs ls hP hD hS hl
  obtain ⟨r, hMc, hMk⟩ := Option.bind_eq_some_iff.mp hM
  have hF := ax_free hD hS hC.2.2.2.2.1
  refine va_callv (va_runV (As := As) (rest := rest) hC.1 (hcal r hMc H.size) (cwV n hC.1.2.2.2.2 hG rfl hrm.1 hrm.2 hy hR) ⟨PX.blind, va_recv hC.2.1 hP hc hq, ax_pre hC hP hD hS⟩ rfl hn hl.1 hstk (lv_room hroom) hd ⟨Nat.zero_le _, Nat.zero_le _⟩) hS (fun q _ h => hF q h) hF (fun u t H1 locs1 ht hvm hpost hB hz hk hS1 => ?_)
  obtain ⟨hP1, hK1, hD1⟩ := hB
  rw [ht] at hP1
  subst hpost
  exact k r res hMk H1 locs1 ls hP1 (hD1.weaken (fun _ q _ h => hF q.1 h)) hS1 hl
theorem gx_callSI (hC : CX p s m args meth c cc nL ret own D tys tZ A) {y : MethodName} {index maxL n : Nat} {bytes : ByteArray} {rt : Option FieldType} {rm : Room} {As stk : List Value} {Mc : Option (Int32 × St)} {Mk : Int32 × St → Option (Int32 × St)} (hcal : MI l D tys tZ w y bytes maxL rt rm As S Mc) (hG : GoodIn wsAll (va_wsS own index y (Cond.code y bytes maxL rt :: wsAll))) (hy : y.cls ≠ "java/lang/invoke/MethodHandle" ∧ y.cls ≠ "java/lang/invoke/VarHandle" ∧ (parseMethodDescriptor y.desc).map (fun d => d.parameters.length) = some n) (hrm : rm.cells = 0 ∧ rm.slots = 0) (hR : rm.frames + 1 ≤ R.frames ∧ 8 + (maxL + 11) + rm.locals ≤ R.locals) (hn : As.length = n) (hstk : stk = As.reverse ++ rest) (hroom : (rest.map fun v => v.category).sum ≤ 8) {pc' : Nat} (hp : pc + 3 = pc') (hd : decode cc pc = .ok (.invokestatic index, 3)) (k : ∀ r, GX p l e R s m args below meth c nL D A w K pc' L (.int r.1 :: rest) r.2 (Mk r)) : GX p l e R s m args below meth c nL D A w K pc L stk S (Mc.bind Mk) := by
  subst hp
  intro res hM H locs ls hP hD hS hl
  obtain ⟨r, hMc, hMk⟩ := Option.bind_eq_some_iff.mp hM
  have hF := ax_free hD hS hC.2.2.2.2.1
  refine va_calli (va_runS (As := As) (rest := rest) hC.1 (hcal r hMc H.size) (va_cwS n hC.1.2.2.2.2 hG rfl hrm.1 hrm.2 hy hR) ⟨PX.blind, ax_pre hC hP hD hS⟩ rfl hn hl.1 hstk (lv_room hroom) hd ⟨Nat.zero_le _, Nat.zero_le _⟩) hS (fun q _ h => hF q h) hF (fun r' u t H1 locs1 ht hvm hpost hB hz hk hS1 => ?_)
  obtain ⟨hP1, hK1, hD1⟩ := hB
  rw [ht] at hP1
  subst hpost
  exact k (r', u) res hMk H1 locs1 ls hP1 (hD1.weaken (fun _ q _ h => hF q.1 h)) hS1 hl
end GXL
theorem gx_metI {l : Launch} {D : va_G} {tys : List (ClassId × FieldType)} {tZ : Nat} {w : St → va_W} {y : MethodName} {cc : ByteArray} {maxL : Nat} {ret : Option FieldType} {rm : Room} {av : List Value} {S : St} {M : Option (Int32 × St)} (hy : plainName y.cls = true) (hlen : (lg_sl av).length ≤ maxL)
    (body : ∀ (p : Program) (e : Env) (s : State) (m : MethodId) (below : List Frame) (meth : Method) (c : Code) (A : Nat → Prop), CX p s m av.toArray meth c cc maxL ret y.cls D tys tZ A → GX p l e rm s m av.toArray below meth c maxL D A w (fun res => MQ below (QI D tys w A res) av.toArray s 0 0 A) 0 (lv_args 0 av) [] S M) : MI l D tys tZ w y cc maxL ret rm av S M := by
  intro res hM sz
  refine Met.ofW (cc := cc) (maxL := maxL) (ret := ret) hy rfl ?_
  intro p e s m args below meth c s₁ B hml hv
  obtain ⟨rfl, hsz, hP, hK, hD0, hX⟩ := hv
  subst hsz
  have hts := atoms_spec (ws := Cond.code y cc maxL ret :: wsAll) B.pre
  have hown := findClass_of_methodNamed B.named
  rw [lg_entry_eq]
  exact body p e s m below meth c (va_A (w S) s.heap.size) ⟨⟨B.exec, B.bytes, hml, hown, fun w h => hts w (List.mem_cons_of_mem _ h)⟩, hK, B.returns, B.notSynchronized, fun q h => Or.inr h, hX⟩ res hM s.heap [] _ hP hD0.self va_S.rf (lv_entry av (n := maxL) hlen)
theorem gx_metV {l : Launch} {D : va_G} {tys : List (ClassId × FieldType)} {tZ : Nat} {w : St → va_W} {y : MethodName} {cc : ByteArray} {maxL : Nat} {ret : Option FieldType} {rm : Room} {av : List Value} {S : St} {M : Option (Int32 × St)} (hy : plainName y.cls = true) (hlen : (lg_sl av).length ≤ maxL)
    (body : ∀ (p : Program) (e : Env) (s : State) (m : MethodId) (below : List Frame) (meth : Method) (c : Code) (A : Nat → Prop), CX p s m av.toArray meth c cc maxL ret y.cls D tys tZ A → GX p l e rm s m av.toArray below meth c maxL D A w (fun res => MQ below (QV D tys w A res) av.toArray s 0 0 A) 0 (lv_args 0 av) [] S M) : MV l D tys tZ w y cc maxL ret rm av S M := by
  intro res hM sz
  refine Met.ofW (cc := cc) (maxL := maxL) (ret := ret) hy rfl ?_
  intro p e s m args below meth c s₁ B hml hv
  obtain ⟨rfl, hsz, hP, hK, hD0, hX⟩ := hv
  subst hsz
  have hts := atoms_spec (ws := Cond.code y cc maxL ret :: wsAll) B.pre
  have hown := findClass_of_methodNamed B.named
  rw [lg_entry_eq]
  exact body p e s m below meth c (va_A (w S) s.heap.size) ⟨⟨B.exec, B.bytes, hml, hown, fun w h => hts w (List.mem_cons_of_mem _ h)⟩, hK, B.returns, B.notSynchronized, fun q h => Or.inr h, hX⟩ res hM s.heap [] _ hP hD0.self va_S.rf (lv_entry av (n := maxL) hlen)
