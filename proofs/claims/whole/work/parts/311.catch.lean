/-! ===== a throw that comes out of a call is caught by this method's own table (of one row, or of two) ===== -/
section CUC
/-- one row that covers the place: she takes the object, or the search goes on behind her -/
theorem cu_link {Q : Handler → Pre} {E : CtlPost} {e : Env} {d : Bool} {acts : List Action} {s : State} {f : JFrame} {a : Addr} {x : ExceptionTableEntry} {t : List ExceptionTableEntry} {c : ClassId} {cell : Cell} (hx : covers x f.pc = true) (h0 : x.catchType ≠ 0)
    (hl : s.vm.ClassLinks e.platform f.method.cls x.catchType c) (hcell : s.heap[a]? = some cell) (hobj : ∀ k, cell.vm ≠ .statics k) (hk : ∃ k, s.vm.classes[cell.cls]? = some k) (hc : ∃ k, s.vm.classes[c]? = some k) (b : Bool) (hb : s.vm.assignable cell.cls c = b) :
    wp (findHandler.go f a (x :: t)) Q E e d acts s ↔ (if b = true then Q (.found x.handlerPc) d acts (s.setVm (s.vm.noted f.method.cls x.catchType (.cls c))) else wp (findHandler.go f a t) Q E e d acts (s.setVm (s.vm.noted f.method.cls x.catchType (.cls c)))) := by
  simp only [covers] at hx
  obtain ⟨g1, g2⟩ := (resolveClass_links e.toSetting hl).op (op := VmOp.resolveClass f.method.cls x.catchType) rfl
  have al : s.vm.Alike (s.vm.noted f.method.cls x.catchType (.cls c)) := (Vm.Alike.refl s.vm).noted _ _ _
  obtain ⟨k1, hk1⟩ := hk
  obtain ⟨k2, hk2⟩ := hc
  obtain ⟨j1, hj1, -⟩ := al.2.2 _ _ hk1
  obtain ⟨j2, hj2, -⟩ := al.2.2 _ _ hk2
  have fit : (s.vm.noted f.method.cls x.catchType (.cls c)).assignable cell.cls c = b := by rw [al.assignable]; exact hb
  cases b with
  | true => simp [findHandler.go, hx, h0, g1, g2, hcell, hobj, hj1, hj2, fit, VmOp.dirties, VmOp.acts]
  | false => simp [findHandler.go, hx, h0, g1, g2, hcell, hobj, hj1, hj2, fit, VmOp.dirties, VmOp.acts]
variable {p : Program} {l : Launch} {e : Env} {R : Room} {s : State} {m : MethodId} {args : Array Value} {below : List Frame} {meth : Method} {c : Code} {T : State} {locs : List Loc} {cells slots : Nat}
theorem cu_top (X : Stand p l e R s m args below meth c T locs cells slots) (g : JFrame) (a : Addr) : (T.setTop g).pushFrame (.throwing a) = T.setFrames (.throwing a :: .java g :: below) := by
  obtain ⟨g₁, hfr⟩ := X.frames_eq
  rw [State.pushFrame, State.frames_setTop _ hfr, State.setTop_of_frames _ hfr, State.setFrames_setFrames]
/-- what the search gives, and the tables that it leaves: then the machine stands at the handler -/
theorem cu_caught {tb : Tables} {s0 target : State} {g : JFrame} {a : Addr} (h : At s0 g.method c below) {pc : Nat} {vm' : Vm}
    (hf : ∀ (Q : Handler → Pre) (E : CtlPost) (d : Bool) (acts : List Action), wp (findHandler g a) Q E e d acts ((s0.setTop g).pushFrame (.throwing a)) ↔ Q (.found pc) d acts (((s0.setTop g).pushFrame (.throwing a)).setVm vm'))
    (hrest : Steps tb e below ((s0.setVm vm').setTop { g with pc := pc, stack := [.ref a] }) target) : Steps tb e below ((s0.setTop g).pushFrame (.throwing a)) target := by
  obtain ⟨hgo, hw⟩ := h.throwing a
  refine Steps.head hgo hw ?_
  have hst : (stepThrowing e ((s0.setTop g).pushFrame (.throwing a)) a (.java g :: s0.frames.tail)).1 = (((s0.setTop g).pushFrame (.throwing a)).setVm vm').setFrames (.java { g with pc := pc, stack := [.ref a] } :: s0.frames.tail) := by
    simp only [stepThrowing, searchFrame, vmDo]
    generalize hr : Sem.go _ e false [] ((s0.setTop g).pushFrame (.throwing a)) = r0
    obtain ⟨as, rfl, ha⟩ := Sem.eq_ok_of hr (a := Handler.found pc) (s' := ((s0.setTop g).pushFrame (.throwing a)).setVm vm') (acts' := []) (by simp [hf _ _ _ _])
    rfl
  rw [stepThread_throwing (frames_entered h.top _), hst]
  obtain ⟨g₀, hg⟩ := Option.isSome_iff_exists.mp h.top
  obtain ⟨r, hr⟩ := State.topJava?_eq_some.mp hg
  have hr' : (s0.setVm vm').frames = .java g₀ :: r := hr
  have mv : ∀ (u : State) (F G : List Frame), ((u.setFrames F).setVm vm').setFrames G = (u.setVm vm').setFrames G := fun u F G => by
    rw [show (u.setFrames F).setVm vm' = (u.setVm vm').setFrames F from rfl, State.setFrames_setFrames]
  rw [State.setTop_of_frames _ hr'] at hrest
  rw [hr, List.tail_cons, State.pushFrame, mv, State.setTop_of_frames _ hr, mv]
  exact hrest
theorem cu_st {pl : Platform} {S : State} {d i : Nat} {k : ClassId} (hW : s.WarmedH S.vm) (hl : s.vm.ClassLinks pl d i k) : s.WarmedH (S.vm.noted d i (.cls k)) ∧ ∃ kt, S.vm.classes[k]? = some kt := by
  obtain ⟨dk, _, _, kt, hd, _, _, _, _, hkt, _, hopen⟩ := hl.here
  obtain ⟨kt', hkt', -⟩ := hW.alike.2.2 _ _ hkt
  exact ⟨hW.noted hd hopen (State.rightAt_cls hl), kt', hkt'⟩
variable {H : Heap} {Q : State → Prop} {pc : Nat} {ls : Array Slot} {rest : List Value}
/-- a table whose first row takes it -/
theorem cu_catch1 {own name E : String} {ce : Cell} {q : Addr} (hown : s.vm.findClass own = some m.cls) (x : ExceptionTableEntry) (suf : List ExceptionTableEntry) (hsplit : c.exceptionTable.toList = x :: suf) (hx : covers x pc = true) (h0 : x.catchType ≠ 0)
    (hlink : (Cond.classLink own x.catchType name).before args s = true) (hcast : (Cond.castable E name).before args s = true) (hcell : H[q]? = some ce) (hv : ce.vm = .none) (hcl : s.vm.findClass E = some ce.cls)
    (kk : W p l e R s m args below meth c H locs cells slots Q (F0 m x.handlerPc ls [.ref q])) : vx_W p l e R s m args below meth c H locs cells slots Q (F0 m pc ls rest) q := by
  intro T hT X
  have hpl : e.platform.magicAccessors = ({} : Platform).magicAccessors := by rw [X.admits.platform]
  obtain ⟨c3, c4, hc3, hc4, hasg⟩ := Cond.castable_spec hcast
  cases Option.some.inj (hc3.symm.trans hcl)
  obtain ⟨c5, hc5, hl5⟩ := Cond.classLink_spec hown hlink e.platform hpl
  cases Option.some.inj (hc4.symm.trans hc5)
  obtain ⟨k9, h9, -⟩ := Vm.findClass_spec hcl
  have hW := X.warmed
  obtain ⟨k9', h9', -⟩ := hW.alike.2.2 _ _ h9
  obtain ⟨hW1, hkt⟩ := cu_st hW hl5
  have X' := X.noted hW1
  obtain ⟨t, a1, b1⟩ := kk (T.setVm (T.vm.noted m.cls x.catchType (.cls c4))) hT X'
  refine ⟨t, ?_, b1⟩
  refine cu_caught (g := F0 m pc ls rest) X.here (vm' := T.vm.noted m.cls x.catchType (.cls c4)) (pc := x.handlerPc) (fun Q E d acts => ?_) a1
  rw [W.findHandler_eq (f := F0 m pc ls rest) (s := (T.setTop (F0 m pc ls rest)).pushFrame (.throwing q)) (meth := meth) (code := c) X.method' X.code, hsplit]
  rw [cu_link (s := (T.setTop (F0 m pc ls rest)).pushFrame (.throwing q)) (f := F0 m pc ls rest) (cell := ce) (c := c4) hx h0 (hW.classLinks hl5) (by rw [show ((T.setTop (F0 m pc ls rest)).pushFrame (.throwing q)).heap = T.heap from rfl, hT]; exact hcell) (fun k h => by rw [hv] at h; cases h) ⟨k9', h9'⟩ hkt true (by rw [show ((T.setTop (F0 m pc ls rest)).pushFrame (.throwing q)).vm = T.vm from rfl, hW.alike.assignable]; exact hasg)]
  simp only [if_true]
  exact Iff.rfl
/-- a table whose second row takes it, past the first that names another class -/
theorem cu_catch2 {own name name1 E : String} {ce : Cell} {q : Addr} (hown : s.vm.findClass own = some m.cls) (y x : ExceptionTableEntry) (suf : List ExceptionTableEntry) (hsplit : c.exceptionTable.toList = y :: x :: suf) (hy : covers y pc = true) (hy0 : y.catchType ≠ 0) (hylink : (Cond.classLink own y.catchType name1).before args s = true) (hno : va_Nc E name1 s) (hx : covers x pc = true) (h0 : x.catchType ≠ 0)
    (hlink : (Cond.classLink own x.catchType name).before args s = true) (hcast : (Cond.castable E name).before args s = true) (hcell : H[q]? = some ce) (hv : ce.vm = .none) (hcl : s.vm.findClass E = some ce.cls)
    (kk : W p l e R s m args below meth c H locs cells slots Q (F0 m x.handlerPc ls [.ref q])) : vx_W p l e R s m args below meth c H locs cells slots Q (F0 m pc ls rest) q := by
  intro T hT X
  have hpl : e.platform.magicAccessors = ({} : Platform).magicAccessors := by rw [X.admits.platform]
  obtain ⟨c3, c4, hc3, hc4, hasg⟩ := Cond.castable_spec hcast
  cases Option.some.inj (hc3.symm.trans hcl)
  obtain ⟨c5, hc5, hl5⟩ := Cond.classLink_spec hown hlink e.platform hpl
  cases Option.some.inj (hc4.symm.trans hc5)
  obtain ⟨c6, hc6, hl6⟩ := Cond.classLink_spec hown hylink e.platform hpl
  obtain ⟨a8, b8, n1, n2, n3⟩ := hno
  cases Option.some.inj (n1.symm.trans hcl)
  cases Option.some.inj (n2.symm.trans hc6)
  obtain ⟨k9, h9, -⟩ := Vm.findClass_spec hcl
  have hW := X.warmed
  obtain ⟨k9', h9', -⟩ := hW.alike.2.2 _ _ h9
  obtain ⟨hW1, hkt⟩ := cu_st hW hl6
  have X1 := X.noted hW1
  obtain ⟨k8', h8', -⟩ := X1.warmed.alike.2.2 _ _ h9
  obtain ⟨hW2, hkt2⟩ := cu_st X1.warmed hl5
  have X2 := X1.noted hW2
  obtain ⟨t, a1, b1⟩ := kk ((T.setVm (T.vm.noted m.cls y.catchType (.cls c6))).setVm ((T.setVm (T.vm.noted m.cls y.catchType (.cls c6))).vm.noted m.cls x.catchType (.cls c4))) hT X2
  refine ⟨t, ?_, b1⟩
  refine cu_caught (g := F0 m pc ls rest) X.here (vm' := ((T.setVm (T.vm.noted m.cls y.catchType (.cls c6))).vm.noted m.cls x.catchType (.cls c4))) (pc := x.handlerPc) (fun Q E d acts => ?_) a1
  rw [W.findHandler_eq (f := F0 m pc ls rest) (s := (T.setTop (F0 m pc ls rest)).pushFrame (.throwing q)) (meth := meth) (code := c) X.method' X.code, hsplit]
  rw [cu_link (s := (T.setTop (F0 m pc ls rest)).pushFrame (.throwing q)) (f := F0 m pc ls rest) (cell := ce) (c := c6) hy hy0 (hW.classLinks hl6) (by rw [show ((T.setTop (F0 m pc ls rest)).pushFrame (.throwing q)).heap = T.heap from rfl, hT]; exact hcell) (fun k h => by rw [hv] at h; cases h) ⟨k9', h9'⟩ hkt false (by rw [show ((T.setTop (F0 m pc ls rest)).pushFrame (.throwing q)).vm = T.vm from rfl, hW.alike.assignable]; exact n3)]
  rw [if_neg (by decide)]
  rw [cu_link (s := ((T.setTop (F0 m pc ls rest)).pushFrame (.throwing q)).setVm (((T.setTop (F0 m pc ls rest)).pushFrame (.throwing q)).vm.noted (F0 m pc ls rest).method.cls y.catchType (.cls c6))) (f := F0 m pc ls rest) (cell := ce) (c := c4) hx h0 (X1.warmed.classLinks hl5) (by rw [show ((((T.setTop (F0 m pc ls rest)).pushFrame (.throwing q))).setVm (((T.setTop (F0 m pc ls rest)).pushFrame (.throwing q)).vm.noted (F0 m pc ls rest).method.cls y.catchType (.cls c6))).heap = T.heap from rfl, hT]; exact hcell) (fun k h => by rw [hv] at h; cases h) ⟨k8', h8'⟩ hkt2 true (by
    show (T.setVm (T.vm.noted m.cls y.catchType (.cls c6))).vm.assignable ce.cls c4 = true
    rw [X1.warmed.alike.assignable]; exact hasg)]
  simp only [if_true]
  exact Iff.rfl
end CUC
