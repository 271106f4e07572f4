/-! Constructors' contracts; calls with a frame. -/
def Ck {S : Type} (l : Launch) (y : MethodName) (cd : ByteArray) (nL : Nat) (rm : Room) (D : va_G) (cA : ClassId) (ws : va_W) (w : S → va_W) (sz : Nat) (av : List Value) (post : S → Prop) (mc ms : Nat) : Prop :=
  Met l y (Cond.code y cd nL none :: BIG) rm (sw_Pc D cA av ws sz) (va_Qv post (sw_B D cA (va_A ws sz) w) (va_A ws sz)) mc ms (va_A ws sz)
theorem Ck.enter {S : Type} {l : Launch} {y : MethodName} {cd : ByteArray} {nL : Nat} {rm : Room} {D : va_G} {cA : ClassId} {ws : va_W} {w : S → va_W} {sz : Nat} {av : List Value} {post : S → Prop} {mc ms : Nat} (hy : plainName y.cls = true) (hin : y.name = "<init>") (hlen : (lg_sl av).length ≤ nL)
    (body : ∀ (p : Program) (e : Env) (s : State) (m : MethodId) (args : Array Value) (below : List Frame) (meth : Method) (c : Code) (A : Nat → Prop) (ls : Array Slot), p.tables.exec = Jvm.exec → c.code = cd → c.maxLocals = nL → meth.sig.returnType = none → meth.locks = false → meth.name = "<init>" → s.vm.findClass y.cls = some m.cls → (∀ w ∈ BIG, w.before args s = true) →
      va_K D vwC [(cA, .int)] s → va_Nw nestL s → (∀ q : Nat, s.heap.size ≤ q → A q) → va_P D vwC ws s.heap → va_D A ws → va_S A s.heap s.heap [] → lv_has ls nL (lv_args 0 av) →
      W p l e rm s m args below meth c s.heap [] 0 0 (MQ below (va_Qv post (sw_B D cA A w) A) args s mc ms A) (F0 m 0 ls [])) : Ck l y cd nL rm D cA ws w sz av post mc ms := by
  refine Met.ofW (cc := cd) (maxL := nL) (ret := none) hy rfl ?_
  intro p e s m args below meth c s₁ B hml hv
  obtain ⟨rfl, hsz, hP, hK, hD0, hN⟩ := hv
  subst hsz
  have hD := hD0.self (sz := s.heap.size)
  have hts := atoms_spec (ws := Cond.code y cd nL none :: BIG) B.pre
  rw [lg_entry_eq]
  exact body p e s m _ below meth c _ _ B.exec B.bytes hml B.returns B.notSynchronized ((name_of_methodNamed B.named B.method).1.trans hin) (findClass_of_methodNamed B.named) (fun w hw => hts w (List.mem_cons_of_mem _ hw)) hK hN (fun q h => Or.inr h) hP hD va_S.rf (lv_entry av hlen)
theorem sw_cA {D : va_G} {cl : List vw_C} {cA cB : ClassId} {s : State} (h : va_K D cl [(cA, .int), (cB, .int)] s) : cB = cA := by
  have h1 : s.vm.findClass ("[" ++ FieldType.int.toString) = some cA := (h.2 0 _ rfl).2
  have h2 : s.vm.findClass ("[" ++ FieldType.int.toString) = some cB := (h.2 1 _ rfl).2
  exact Option.some.inj (h2.symm.trans h1)
section SWC
variable {p : Program} {l : Launch} {e : Env} {R : Room} {s : State} {m : MethodId} {args : Array Value} {below : List Frame} {meth : Method} {c : Code} {H : Heap} {locs : List Loc} {cells slots : Nat} {Q : State → Prop}
variable {cc : ByteArray} {pc : Nat} {ls : Array Slot} {rest : List Value}
theorem sw_vretK {S : Type} {D : va_G} {cA : ClassId} {A : Nat → Prop} {w : S → va_W} {u : S} {post : S → Prop} (hx : p.tables.exec = Jvm.exec) (hb : c.code = cc) (hr : meth.sig.returnType = none) (hlocks : meth.locks = false) (hK : va_K D vwC [(cA, .int)] s) (hP : va_P D vwC (w u) H) (hD : va_D A (w u)) (hS : va_S A s.heap H locs) (hdg : decode cc pc = .ok (.return_, 1)) (hq : post u) :
    W p l e R s m args below meth c H locs cells slots (MQ below (va_Qv post (sw_B D cA A w) A) args s cells slots A) (F0 m pc ls []) :=
  W.vret hx hb hr (fun t ht hW => ⟨⟨u, rfl, hq, by rw [ht]; exact hP, va_K.moved hW.alike hK, hD⟩, hS.F ht⟩) hS.2.2 hdg hlocks
theorem sw_objI (hx : p.tables.exec = Jvm.exec) (hb : c.code = cc) {own : String} {idx nL : Nat} {a : Nat} (hml : c.maxLocals = nL) (hown : s.vm.findClass own = some m.cls) (hts : ∀ w ∈ BIG, w.before args s = true) (h1 : Cond.methodLink own idx objectInit ∈ BIG) (h2 : Cond.instanceMethod objectInit ∈ BIG) (h3 : Cond.code objectInit ⟨#[0xb1]⟩ 1 none ∈ BIG) (hls : ls.size = nL) (hd : decode cc pc = .ok (.invokespecial idx, 3)) (hf : 1 ≤ R.frames) (hlo : (rest.map fun v => v.category).sum + 12 ≤ R.locals)
    (kk : W p l e R s m args below meth c H locs cells slots Q (F0 m (pc + 3) ls rest)) : W p l e R s m args below meth c H locs cells slots Q (F0 m pc ls (.ref a :: rest)) :=
  W.objInit hx hb hown (hts _ h1) (hts _ h2) (hts _ h3) rfl (by rw [hml]; exact hls) rfl hd hf (by simpa [JFrame.monitorRoom] using hlo) kk
theorem sw_callI {S : Type} {w : S → va_W} {ws wc wr : va_W} {y : MethodName} {cd : ByteArray} {nL nL2 n idx mc ms : Nat} {rm : Room} {D : va_G} {cA : ClassId} {A : Nat → Prop} {post : S → Prop} {own : String} {st0 : List Value} {b : Nat} (isC isR : List Nat) (As : List Value)
    (hx : p.tables.exec = Jvm.exec) (hb : c.code = cc) (hml : c.maxLocals = nL) (hown : s.vm.findClass own = some m.cls) (hts : ∀ w ∈ BIG, w.before args s = true) (hK : va_K D vwC [(cA, .int)] s) (hN : va_Nw nestL s) (hA : ∀ q : Nat, s.heap.size ≤ q → A q) (hP : va_P D vwC ws H) (hD : va_D A ws) (hS : va_S A s.heap H locs)
    (hC : isC.map (fun i => ws[i]?) = wc.map some) (hR : isR.map (fun i => ws[i]?) = wr.map some) (hnC : va_nd isC = true) (hnR : va_nd isR = true) (hdis : ∀ i ∈ isR, i ∉ isC)
    (hM : Ck l y cd nL2 rm D cA wc w H.size (.ref b :: As) post mc ms) (cw : sw_ci own idx y cd nL2 n) (hrc : rm.cells = mc) (hrs : rm.slots = ms) (hRm : rm.frames + 1 ≤ R.frames ∧ 8 + (nL2 + 11) + rm.locals ≤ R.locals) (hf : cells + mc ≤ R.cells ∧ slots + ms ≤ R.slots) (hls : ls.size = nL) (hn : As.length = n) (hst : st0 = As.reverse ++ .ref b :: rest) (hcat : (rest.map fun v => v.category).sum ≤ 8) (hdg : decode cc pc = .ok (.invokespecial idx, 3))
    (kk : ∀ (u : S) (H1 : Heap) (locs1 : List Loc), post u → va_P D vwC (wr ++ w u) H1 → va_D A (wr ++ w u) → va_S A s.heap H1 locs1 → W p l e R s m args below meth c H1 locs1 (cells + mc) (slots + ms) Q (F0 m (pc + 3) ls rest)) :
    W p l e R s m args below meth c H locs cells slots Q (F0 m pc ls st0) := by
  subst hst
  obtain ⟨⟨g1, g2, g4, g5⟩, gi, hd⟩ := cw
  have hFc := va_free hD hS hA isC hC
  have hDc := hD.sub isC hnC hC
  have hPc := hP.sub (ws' := wc) isC (by
    have h1 : (isC.map (fun i => ws[i]?)).filterMap id = (wc.map some).filterMap id := by rw [hC]
    rw [List.filterMap_map, List.filterMap_map] at h1
    simpa using h1)
  refine va_callv (va_runI (As := As) (rest := rest) (Ts := BIG) ⟨hx, hb, hml, hown, hts⟩ hM ⟨callB_of n hts (big_cons g5) rfl hrc hrs (hts _ g4) (hts _ g1) hd hRm, gi, hts _ g2⟩ ⟨sw_blind, sw_pre hK hN hPc hDc⟩ rfl hn hls rfl (lv_room hcat) hdg hf) hS (fun q _ h => hFc q h) hFc (fun u t H1 locs1 ht hvm hq hB _ hk1 hS1 => ?_)
  obtain ⟨b1, b2, b3⟩ := hB
  rw [ht] at b1
  obtain ⟨a1, a2⟩ := va_join (wr := wr) (w1 := w u) hP hD isC isR hC hR hnR hdis hk1 hFc b1 b3
  exact kk u H1 locs1 hq a1 a2 hS1
theorem sw_callFi {S : Type} {w : S → va_W} {ws wr : va_W} {y : MethodName} {cd : ByteArray} {nL nL2 n idx d : Nat} {rt : Option FieldType} {D : va_G} {cA : ClassId} {st : S} {A : Nat → Prop} {post : Int32 → S → Prop} {own : String} {qc : vw_C} {fs st0 : List Value} {b : Nat} (q0 ci : Nat) (isC isR : List Nat) (As : List Value)
    (hx : p.tables.exec = Jvm.exec) (hb : c.code = cc) (hml : c.maxLocals = nL) (hown : s.vm.findClass own = some m.cls) (hts : ∀ w ∈ BIG, w.before args s = true) (hK : va_K D vwC [(cA, .int)] s) (hN : va_Nw nestL s) (hA : ∀ q : Nat, s.heap.size ≤ q → A q) (hP : va_P D vwC ws H) (hD : va_D A ws) (hS : va_S A s.heap H locs)
    (hC : isC.map (fun i => ws[i]?) = (w st).map some) (hR : isR.map (fun i => ws[i]?) = wr.map some) (hnC : va_nd isC = true) (hnR : va_nd isR = true) (hdis : ∀ i ∈ isR, i ∉ isC)
    (hM : Ci l y cd nL2 rt d D cA w st H.size (.ref b :: As) post) (cw : sw_cw own idx y cd nL2 rt n) (he : ws[q0]? = some (b, .inr (ci, fs))) (hc : vwC[ci]? = some qc) (hqc : qc.1 = y.cls) (hRm : d + 1 ≤ R.frames ∧ 8 + (nL2 + 11) + 40 * d ≤ R.locals) (hf : cells ≤ R.cells ∧ slots ≤ R.slots) (hls : ls.size = nL) (hn : As.length = n) (hst : st0 = As.reverse ++ .ref b :: rest) (hcat : (rest.map fun v => v.category).sum ≤ 8) (hdg : decode cc pc = .ok (.invokevirtual idx, 3))
    (kk : ∀ (r : Int32) (u : S) (H1 : Heap) (locs1 : List Loc), post r u → va_P D vwC (wr ++ w u) H1 → va_D A (wr ++ w u) → va_S A s.heap H1 locs1 → W p l e R s m args below meth c H1 locs1 cells slots Q (F0 m (pc + 3) ls (.int r :: rest))) :
    W p l e R s m args below meth c H locs cells slots Q (F0 m pc ls st0) := by
  subst hst
  obtain ⟨⟨g1, g2, g3, g4, g5⟩, hd⟩ := cw
  have hFc := va_free hD hS hA isC hC
  have hDc := hD.sub isC hnC hC
  have hPc := hP.sub (ws' := w st) isC (by
    have h1 : (isC.map (fun i => ws[i]?)).filterMap id = ((w st).map some).filterMap id := by rw [hC]
    rw [List.filterMap_map, List.filterMap_map] at h1
    simpa using h1)
  refine va_calli (va_runV (C := y.cls) (As := As) (rest := rest) (Ts := BIG) ⟨hx, hb, hml, hown, hts⟩ hM ⟨callB_of n hts (big_cons g5) rfl rfl rfl (hts _ g4) (hts _ g1) hd hRm, hts _ g2, hts _ g3⟩ ⟨sw_blind, by have := va_recv hK hP hc he; rw [hqc] at this; exact this, sw_pre hK hN hPc hDc⟩ rfl hn hls rfl (lv_room hcat) hdg hf) hS (fun q _ h => hFc q h) hFc (fun r u t H1 locs1 ht hvm hq hB _ hk1 hS1 => ?_)
  obtain ⟨b1, b2, b3⟩ := hB
  rw [ht] at b1
  obtain ⟨a1, a2⟩ := va_join (wr := wr) (w1 := w u) hP hD isC isR hC hR hnR hdis hk1 hFc b1 b3
  exact kk r u H1 locs1 hq a1 a2 hS1
theorem sw_callFv {S : Type} {w : S → va_W} {ws wr : va_W} {y : MethodName} {cd : ByteArray} {nL nL2 n idx d : Nat} {rt : Option FieldType} {D : va_G} {cA : ClassId} {st : S} {A : Nat → Prop} {post : S → Prop} {own : String} {st0 : List Value} (isC isR : List Nat) (As : List Value)
    (hx : p.tables.exec = Jvm.exec) (hb : c.code = cc) (hml : c.maxLocals = nL) (hown : s.vm.findClass own = some m.cls) (hts : ∀ w ∈ BIG, w.before args s = true) (hK : va_K D vwC [(cA, .int)] s) (hN : va_Nw nestL s) (hA : ∀ q : Nat, s.heap.size ≤ q → A q) (hP : va_P D vwC ws H) (hD : va_D A ws) (hS : va_S A s.heap H locs)
    (hC : isC.map (fun i => ws[i]?) = (w st).map some) (hR : isR.map (fun i => ws[i]?) = wr.map some) (hnC : va_nd isC = true) (hnR : va_nd isR = true) (hdis : ∀ i ∈ isR, i ∉ isC)
    (hM : Cv l y cd nL2 rt d D cA w st H.size As post) (cw : sw_cs own idx y cd nL2 rt n) (hRm : d + 1 ≤ R.frames ∧ 8 + (nL2 + 11) + 40 * d ≤ R.locals) (hf : cells ≤ R.cells ∧ slots ≤ R.slots) (hls : ls.size = nL) (hn : As.length = n) (hst : st0 = As.reverse ++ rest) (hcat : (rest.map fun v => v.category).sum ≤ 8) (hdg : decode cc pc = .ok (.invokestatic idx, 3))
    (kk : ∀ (u : S) (H1 : Heap) (locs1 : List Loc), post u → va_P D vwC (wr ++ w u) H1 → va_D A (wr ++ w u) → va_S A s.heap H1 locs1 → W p l e R s m args below meth c H1 locs1 cells slots Q (F0 m (pc + 3) ls rest)) :
    W p l e R s m args below meth c H locs cells slots Q (F0 m pc ls st0) := by
  subst hst
  obtain ⟨⟨g1, g2, g4, g5⟩, hd⟩ := cw
  have hFc := va_free hD hS hA isC hC
  have hDc := hD.sub isC hnC hC
  have hPc := hP.sub (ws' := w st) isC (by
    have h1 : (isC.map (fun i => ws[i]?)).filterMap id = ((w st).map some).filterMap id := by rw [hC]
    rw [List.filterMap_map, List.filterMap_map] at h1
    simpa using h1)
  refine va_callv (va_runS (As := As) (rest := rest) (Ts := BIG) ⟨hx, hb, hml, hown, hts⟩ hM ⟨callB_of n hts (big_cons g5) rfl rfl rfl (hts _ g4) (hts _ g1) hd hRm, hts _ g2⟩ ⟨sw_blind, sw_pre hK hN hPc hDc⟩ rfl hn hls rfl (lv_room hcat) hdg hf) hS (fun q _ h => hFc q h) hFc (fun u t H1 locs1 ht hvm hq hB _ hk1 hS1 => ?_)
  obtain ⟨b1, b2, b3⟩ := hB
  rw [ht] at b1
  obtain ⟨a1, a2⟩ := va_join (wr := wr) (w1 := w u) hP hD isC isR hC hR hnR hdis hk1 hFc b1 b3
  exact kk u H1 locs1 hq a1 a2 hS1
end SWC
