/-! A throw that a row of the method's own table takes: proved here over the library's own laws (the printed vx_catch rests on a shelf that rounds leave out). -/
section KXA
variable {Q : Handler → Pre} {E : CtlPost} {e : Env} {d : Bool} {acts : List Action} {S : State} {f : JFrame} {a : Addr}
/-- a row that names a class: it is looked up, and takes what can be assigned to it -/
theorem kx_row {x : ExceptionTableEntry} {t : List ExceptionTableEntry} {c : ClassId} {cell : Cell} (hx : covers x f.pc = true) (h0 : x.catchType ≠ 0) (hl : S.vm.ClassLinks e.platform f.method.cls x.catchType c) (hcell : S.heap[a]? = some cell) (hobj : ∀ k, cell.vm ≠ .statics k) (hk : ∃ k, S.vm.classes[cell.cls]? = some k) (hc : ∃ k, S.vm.classes[c]? = some k) :
    wp (findHandler.go f a (x :: t)) Q E e d acts S ↔ if S.vm.assignable cell.cls c = true then Q (.found x.handlerPc) d acts (S.setVm (S.vm.noted f.method.cls x.catchType (.cls c))) else wp (findHandler.go f a t) Q E e d acts (S.setVm (S.vm.noted f.method.cls x.catchType (.cls c))) := by
  simp only [covers] at hx
  obtain ⟨r1, r2⟩ := (resolveClass_links e.toSetting hl).op (op := VmOp.resolveClass f.method.cls x.catchType) rfl
  have alike : S.vm.Alike (S.vm.noted f.method.cls x.catchType (.cls c)) := (Vm.Alike.refl S.vm).noted _ _ _
  obtain ⟨k1, hk1⟩ := hk
  obtain ⟨k2, hk2⟩ := hc
  obtain ⟨j1, hj1, -⟩ := alike.2.2 _ _ hk1
  obtain ⟨j2, hj2, -⟩ := alike.2.2 _ _ hk2
  have same : (S.vm.noted f.method.cls x.catchType (.cls c)).assignable cell.cls c = S.vm.assignable cell.cls c := alike.assignable _ _
  cases hq : S.vm.assignable cell.cls c <;> rw [hq] at same <;> simp [findHandler.go, hx, h0, r1, r2, hcell, hobj, hj1, hj2, same, VmOp.dirties, VmOp.acts]
end KXA
/-- the frame goes on at the handler -/
theorem kx_step {tb : Tables} {e : Env} {s target : State} {g : JFrame} {c : Code} {below : List Frame} {a : Addr} {pc : Nat} {vm' : Vm} (h : At s g.method c below)
    (hf : ∀ (Q : Handler → Pre) (E : CtlPost) (d : Bool) (acts : List Action), wp (findHandler g a) Q E e d acts ((s.setTop g).pushFrame (.throwing a)) ↔ Q (.found pc) d acts (((s.setTop g).pushFrame (.throwing a)).setVm vm'))
    (hrest : Steps tb e below ((s.setVm vm').setTop { g with pc := pc, stack := [.ref a] }) target) : Steps tb e below ((s.setTop g).pushFrame (.throwing a)) target := by
  obtain ⟨go, wi⟩ := h.throwing a
  refine Steps.head go wi ?_
  have e1 : (stepThrowing e ((s.setTop g).pushFrame (.throwing a)) a (.java g :: s.frames.tail)).1 = ((((s.setTop g).pushFrame (.throwing a)).setVm vm').setFrames (.java { g with pc := pc, stack := [.ref a] } :: s.frames.tail)) := by
    simp only [stepThrowing, searchFrame, vmDo]
    generalize hr : Sem.go _ e false [] ((s.setTop g).pushFrame (.throwing a)) = res
    obtain ⟨as, rfl, -⟩ := Sem.eq_ok_of hr (a := Handler.found pc) (s' := ((s.setTop g).pushFrame (.throwing a)).setVm vm') (acts' := []) (by simp [hf _ _ _ _])
    rfl
  rw [stepThread_throwing (frames_entered h.top _), e1]
  obtain ⟨g0, hg⟩ := Option.isSome_iff_exists.mp h.top
  obtain ⟨r, hr⟩ := State.topJava?_eq_some.mp hg
  have hr' : (s.setVm vm').frames = .java g0 :: r := hr
  rw [State.setTop_of_frames _ hr'] at hrest
  have e2 : ((((s.setTop g).pushFrame (.throwing a)).setVm vm').setFrames (.java { g with pc := pc, stack := [.ref a] } :: s.frames.tail)) = (s.setVm vm').setFrames (.java { g with pc := pc, stack := [.ref a] } :: r) := by
    rw [hr, List.tail_cons, State.pushFrame, State.setTop_of_frames _ hr]
    have q1 : ∀ (u : State) (F G : List Frame), ((u.setFrames F).setVm vm').setFrames G = (u.setVm vm').setFrames G := fun u F G => by
      have : (u.setFrames F).setVm vm' = (u.setVm vm').setFrames F := rfl
      rw [this, State.setFrames_setFrames]
    rw [State.setFrames_setFrames, q1]
  rw [e2]
  exact hrest
section KXB
variable {p : Program} {l : Launch} {e : Env} {R : Room} {s : State} {m : MethodId} {args : Array Value} {below : List Frame} {meth : Method} {c : Code} {H : Heap} {locs : List Loc} {cells slots : Nat} {Q : State → Prop} {ls : Array Slot} {rest : List Value} {pc : Nat}
/-- the table's first row takes it -/
theorem kx_catch1 {own name E : String} {ce : Cell} {q : Addr} {x : ExceptionTableEntry} {suf : List ExceptionTableEntry} (hown : s.vm.findClass own = some m.cls) (hsplit : c.exceptionTable.toList = x :: suf) (hx : covers x pc = true) (h0 : x.catchType ≠ 0) (hlink : (Cond.classLink own x.catchType name).before args s = true) (hcast : (Cond.castable E name).before args s = true) (hcell : H[q]? = some ce) (hv : ce.vm = .none) (hcl : s.vm.findClass E = some ce.cls)
    (kk : W p l e R s m args below meth c H locs cells slots Q (F0 m x.handlerPc ls [.ref q])) : vx_W p l e R s m args below meth c H locs cells slots Q (F0 m pc ls rest) q := by
  intro T hT X
  have hpl : e.platform.magicAccessors = ({} : Platform).magicAccessors := by rw [X.admits.platform]
  obtain ⟨c3, c4, hc3, hc4, hasg⟩ := Cond.castable_spec hcast
  cases Option.some.inj (hc3.symm.trans hcl)
  obtain ⟨c5, hc5, hcl5⟩ := Cond.classLink_spec hown hlink e.platform hpl
  cases Option.some.inj (hc4.symm.trans hc5)
  obtain ⟨k0, hk0, -⟩ := Vm.findClass_spec hcl
  obtain ⟨k0', hk0', -⟩ := X.warmed.alike.2.2 _ _ hk0
  obtain ⟨dk, _, _, kt, hd, _, _, _, _, hkt, _, hopen⟩ := hcl5.here
  obtain ⟨kt', hkt', -⟩ := X.warmed.alike.2.2 _ _ hkt
  have hW := X.warmed.noted hd hopen (State.rightAt_cls hcl5)
  obtain ⟨t, a1, b1⟩ := kk (T.setVm (T.vm.noted m.cls x.catchType (.cls c4))) hT (X.noted hW)
  refine ⟨t, kx_step (g := F0 m pc ls rest) X.here (pc := x.handlerPc) (vm' := T.vm.noted m.cls x.catchType (.cls c4)) (fun Q E d acts => ?_) a1, b1⟩
  have hm' : ((T.setTop (F0 m pc ls rest)).pushFrame (.throwing q)).vm.method? (F0 m pc ls rest).method = some meth := X.method'
  rw [W.findHandler_eq hm' X.code, hsplit, kx_row (S := (T.setTop (F0 m pc ls rest)).pushFrame (.throwing q)) (f := F0 m pc ls rest) (c := c4) (cell := ce) hx h0 (X.warmed.classLinks hcl5) (by show T.heap[q]? = _; rw [hT]; exact hcell) (fun k hk => by rw [hv] at hk; cases hk) ⟨k0', hk0'⟩ ⟨kt', hkt'⟩]
  rw [if_pos (by show T.vm.assignable _ _ = true; rw [X.warmed.alike.assignable]; exact hasg)]
  exact Iff.rfl
/-- the first row doesn't take it, the second does -/
theorem kx_catch2 {own nm name E : String} {ce : Cell} {q : Addr} {y x : ExceptionTableEntry} {suf : List ExceptionTableEntry} (hown : s.vm.findClass own = some m.cls) (hsplit : c.exceptionTable.toList = y :: x :: suf) (hy : covers y pc = true) (hy0 : y.catchType ≠ 0) (hylink : (Cond.classLink own y.catchType nm).before args s = true) (hnc : va_Nc E nm s) (hx : covers x pc = true) (h0 : x.catchType ≠ 0) (hlink : (Cond.classLink own x.catchType name).before args s = true) (hcast : (Cond.castable E name).before args s = true) (hcell : H[q]? = some ce) (hv : ce.vm = .none) (hcl : s.vm.findClass E = some ce.cls)
    (kk : W p l e R s m args below meth c H locs cells slots Q (F0 m x.handlerPc ls [.ref q])) : vx_W p l e R s m args below meth c H locs cells slots Q (F0 m pc ls rest) q := by
  intro T hT X
  have hpl : e.platform.magicAccessors = ({} : Platform).magicAccessors := by rw [X.admits.platform]
  obtain ⟨c3, c4, hc3, hc4, hasg⟩ := Cond.castable_spec hcast
  cases Option.some.inj (hc3.symm.trans hcl)
  obtain ⟨c5, hc5, hcl5⟩ := Cond.classLink_spec hown hlink e.platform hpl
  cases Option.some.inj (hc4.symm.trans hc5)
  obtain ⟨a8, b8, n1, n2, n3⟩ := hnc
  cases Option.some.inj (n1.symm.trans hcl)
  obtain ⟨c6, hc6, hcl6⟩ := Cond.classLink_spec hown hylink e.platform hpl
  cases Option.some.inj (n2.symm.trans hc6)
  obtain ⟨k0, hk0, -⟩ := Vm.findClass_spec hcl
  obtain ⟨k0', hk0', -⟩ := X.warmed.alike.2.2 _ _ hk0
  obtain ⟨dk6, _, _, kt6, hd6, _, _, _, _, hkt6, _, hopen6⟩ := hcl6.here
  obtain ⟨kt6', hkt6', -⟩ := X.warmed.alike.2.2 _ _ hkt6
  have hW6 := X.warmed.noted hd6 hopen6 (State.rightAt_cls hcl6)
  obtain ⟨dk, _, _, kt, hd, _, _, _, _, hkt, _, hopen⟩ := hcl5.here
  obtain ⟨k0'', hk0'', -⟩ := hW6.alike.2.2 _ _ hk0
  obtain ⟨kt', hkt', -⟩ := hW6.alike.2.2 _ _ hkt
  have hW := hW6.noted hd hopen (State.rightAt_cls hcl5)
  obtain ⟨t, a1, b1⟩ := kk (T.setVm ((T.vm.noted m.cls y.catchType (.cls b8)).noted m.cls x.catchType (.cls c4))) hT (X.noted hW)
  refine ⟨t, kx_step (g := F0 m pc ls rest) X.here (pc := x.handlerPc) (vm' := (T.vm.noted m.cls y.catchType (.cls b8)).noted m.cls x.catchType (.cls c4)) (fun Q E d acts => ?_) a1, b1⟩
  have hm' : ((T.setTop (F0 m pc ls rest)).pushFrame (.throwing q)).vm.method? (F0 m pc ls rest).method = some meth := X.method'
  have hq : T.heap[q]? = some ce := by rw [hT]; exact hcell
  have ho : ∀ k, ce.vm ≠ .statics k := fun k hk => by rw [hv] at hk; cases hk
  rw [W.findHandler_eq hm' X.code, hsplit, kx_row (S := (T.setTop (F0 m pc ls rest)).pushFrame (.throwing q)) (f := F0 m pc ls rest) (c := b8) (cell := ce) hy hy0 (X.warmed.classLinks hcl6) hq ho ⟨k0', hk0'⟩ ⟨kt6', hkt6'⟩]
  rw [if_neg (by show ¬ T.vm.assignable _ _ = true; rw [X.warmed.alike.assignable, n3]; decide)]
  rw [show (((T.setTop (F0 m pc ls rest)).pushFrame (.throwing q)).setVm (((T.setTop (F0 m pc ls rest)).pushFrame (.throwing q)).vm.noted (F0 m pc ls rest).method.cls y.catchType (.cls b8))) = ((T.setTop (F0 m pc ls rest)).pushFrame (.throwing q)).setVm (T.vm.noted m.cls y.catchType (.cls b8)) from rfl, kx_row (S := ((T.setTop (F0 m pc ls rest)).pushFrame (.throwing q)).setVm (T.vm.noted m.cls y.catchType (.cls b8))) (f := F0 m pc ls rest) (c := c4) (cell := ce) hx h0 (hW6.classLinks hcl5) hq ho ⟨k0'', hk0''⟩ ⟨kt', hkt'⟩]
  rw [if_pos (by show (T.vm.noted m.cls y.catchType (.cls b8)).assignable _ _ = true; rw [hW6.alike.assignable]; exact hasg)]
  exact Iff.rfl
end KXB
