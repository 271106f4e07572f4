/-! A method of one handler: what is thrown over its frame is caught there, its catch type resolved already or not. -/
section CAUGHT
variable {p : Program} {l : Launch} {e : Env} {R : Room} {s : State} {m : MethodId} {args : Array Value} {below : List Frame} {meth : Method} {c : Code} {T : State} {locs : List Loc} {cells slots : Nat}
theorem law_caught (X : Stand p l e R s m args below meth c T locs cells slots) {y : ExceptionTableEntry} (htab : c.exceptionTable.toList = [y]) {g : JFrame} (hg : g.method = m) (h1 : y.startPc ≤ g.pc) (h2 : g.pc < y.endPc) (h3 : y.catchType ≠ 0)
    {own name : String} (hown : s.vm.findClass own = some m.cls) (hlink : (Cond.classLink own y.catchType name).before args s = true) {cT : ClassId} (hcT : s.vm.findClass name = some cT)
    {a : Addr} {cell : Cell} (hcell : T.heap[a]? = some cell) (hvm : cell.vm = .none) (hcls : cell.cls = cT) (hself : s.vm.assignable cT cT = true) :
    ∃ vm', Stand p l e R s m args below meth c (T.setVm vm') locs cells slots ∧ ∀ t, Steps p.tables e below ((T.setVm vm').setTop { g with pc := y.handlerPc, stack := [.ref a] }) t → Steps p.tables e below ((T.setTop g).pushFrame (.throwing a)) t := by
  subst hg
  obtain ⟨c1, hc1, hcl⟩ := Cond.classLink_spec hown hlink e.platform (by rw [X.admits.platform])
  cases hcT.symm.trans hc1
  obtain ⟨ha, hb⟩ := (resolveClass_links e.toSetting (X.warmed.classLinks hcl)).op (op := VmOp.resolveClass g.method.cls y.catchType) rfl
  obtain ⟨dk, _, _, kt, hd, _, _, _, _, hkt, _, hopen⟩ := hcl.here
  have hWn : s.WarmedH (T.vm.noted g.method.cls y.catchType (.cls cT)) := X.warmed.noted hd hopen (State.rightAt_cls hcl)
  obtain ⟨kn, hkn, -⟩ := hWn.alike.2.2 _ _ hkt
  have hfit : (T.vm.noted g.method.cls y.catchType (.cls cT)).assignable cT cT = true := by rw [hWn.alike.assignable]; exact hself
  refine ⟨T.vm.noted g.method.cls y.catchType (.cls cT), X.noted hWn, fun t ht => ?_⟩
  obtain ⟨hgo, hwi⟩ := X.here.throwing a
  have hfr : ((T.setTop g).pushFrame (.throwing a)).frames = .throwing a :: .java g :: T.frames.tail := frames_entered X.here.top _
  have hone : (stepThread p.tables e ((T.setTop g).pushFrame (.throwing a))).1 = (T.setVm (T.vm.noted g.method.cls y.catchType (.cls cT))).setTop { g with pc := y.handlerPc, stack := [.ref a] } := by
    rw [stepThread_throwing hfr]
    simp only [stepThrowing, searchFrame, vmDo]
    generalize hr : Sem.go _ e false [] ((T.setTop g).pushFrame (.throwing a)) = res
    have hm : ((T.setTop g).pushFrame (.throwing a)).vm.method? g.method = some meth := X.method'
    have hh : ((T.setTop g).pushFrame (.throwing a)).heap[a]? = some cell := hcell
    have hv : ((T.setTop g).pushFrame (.throwing a)).vm = T.vm := rfl
    obtain ⟨as, rfl, -⟩ := Sem.eq_ok_of hr (a := Handler.found y.handlerPc) (s' := ((T.setTop g).pushFrame (.throwing a)).setVm (T.vm.noted g.method.cls y.catchType (.cls cT))) (acts' := []) (by
      rw [Sem.wp_bind', _root_.Jvm.W.findHandler_eq hm X.code, htab]
      simp [findHandler.go, h1, h2, h3, hv, ha, hb, hh, hvm, hcls, hkn, hfit, VmOp.dirties, VmOp.acts])
    obtain ⟨g0, r, hr0⟩ : ∃ g0 r, T.frames = .java g0 :: r := by
      obtain ⟨g0, hg0⟩ := Option.isSome_iff_exists.mp X.here.top
      obtain ⟨r, hr0⟩ := State.topJava?_eq_some.mp hg0
      exact ⟨g0, r, hr0⟩
    have hr1 : (T.setVm (T.vm.noted g.method.cls y.catchType (.cls cT))).frames = .java g0 :: r := hr0
    show State.setFrames _ _ = _
    rw [State.setTop_of_frames _ hr1, State.pushFrame, State.setTop_of_frames _ hr0, hr0]
    show ((((T.setVm _).setFrames _).setFrames _).setFrames _) = _
    rw [State.setFrames_setFrames, State.setFrames_setFrames]
    rfl
  refine Steps.head hgo hwi ?_
  rw [hone]
  exact ht
end CAUGHT
