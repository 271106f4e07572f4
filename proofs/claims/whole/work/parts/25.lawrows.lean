/-! Rows of the law: the helper's call, reads of the script, the loop's bound, the start's relation. -/
theorem h_blind {D : va_G} {cA cL : ClassId} {av : List Value} {ws : va_W} {sz : Nat} : FrameBlind (h_Pc D cA cL av ws sz) := fun a U g mk q => by
  obtain ⟨q0, q1, qP, qK, qD, qN, qT⟩ := q
  exact ⟨q0, q1, qP, va_K.moved (u := U) (U := U.calling g mk a) (Vm.Alike.refl U.vm) qK, qD, va_Nw.same (u := U) (U := U.calling g mk a) rfl rfl qN, TA_move (a := #[]) (s := U) (U := U.calling g mk a) (State.WarmedH.refl U) (fun _ _ h => h) (qT #[])⟩
section LWH
variable {p : Program} {l : Launch} {e : Env} {R : Room} {s : State} {m : MethodId} {args : Array Value} {below : List Frame} {meth : Method} {c : Code} {H : Heap} {locs : List Loc} {cells slots : Nat} {Q : State → Prop}
variable {cc : ByteArray} {pc : Nat} {ls : Array Slot} {rest : List Value}
theorem sw_runH {As : List Value} {Pc : Array Value → State → Prop} {Qc : Array Value → State → Outcome → State → Prop} {free : Addr → Prop} {g : JFrame} {nL : Nat} (hx : p.tables.exec = Jvm.exec) (hb : c.code = cc) (hml : c.maxLocals = nL) (hown : s.vm.findClass R_Law = some m.cls) (hts : ∀ w ∈ BIG, w.before args s = true)
    (hcw : (Cond.codeWith y_Law_byteAt b_Law_byteAt 4 (some .int) [(0, 9, 12, 13)]).before args s = true) (hM : Met l y_Law_byteAt wsH rmH Pc Qc 1 6 free) (hbl : FrameBlind Pc) (hPc : ∀ U : State, U.heap = H → s.WarmedH U.vm → Pc As.toArray U)
    (hg : g.method = m) (hn : As.length = 3) (hsize : g.locals.size = nL) (hstack : g.stack = As.reverse ++ rest) (hW : 2 * g.monitorRoom + (rest.map fun v => v.category).sum ≤ 8) (hdg : decode cc g.pc = .ok (.invokestatic 63, 3)) (hR : rmH.frames + 1 ≤ R.frames ∧ 8 + (4 + 11) + rmH.locals ≤ R.locals) (hf : cells + 1 ≤ R.cells ∧ slots + 6 ≤ R.slots) :
    va_Run p l e R s m args below meth c H locs cells slots 1 6 g rest (Qc As.toArray) free := by
  have hws : ∀ w ∈ wsH, ∀ (a' : Array Value) (U : State), s.WarmedH U.vm → w.before a' U = true := fun w hw a' U hW => (List.mem_cons.mp hw).elim (fun e => by rw [e]; exact word_at hW (Or.inl rfl) hcw) (fun h => pay_in hts big_good w h a' U hW)
  have hK : Back l R p e below s args y_Law_byteAt 3 8 (PreOf R 1 6 Pc) (PostOf Qc 1 6 free) := va_backW (hh := [(0, 9, 12, 13)]) (bytes := b_Law_byteAt) (maxL := 4) (ret := some .int) hM hbl rfl rfl hR.1 hR.2 hws List.mem_cons_self (fun a' U hW => pay_in hts big_good _ wm_0 a' U hW)
  obtain ⟨mk, methM, cM, hnamed, hmethM, -, -, -, -, -, -, hsigM⟩ := Cond.codeWith_spec hcw
  have hstatic : methM.isStatic = true := Cond.static_spec hnamed hmethM (hts _ wm_301)
  obtain ⟨kP, hkP, -⟩ := className_of_methodNamed hnamed
  have hinitP : kP.init = .initialized := Cond.initialized_spec (findClass_of_methodNamed hnamed) hkP (hts _ wm_0)
  have hlen : As.length = methM.sig.parameters.length := by
    have h : (parseMethodDescriptor y_Law_byteAt.desc).map (fun d => d.parameters.length) = some 3 := by decide +kernel
    rw [hsigM] at h
    exact hn.trans (Option.some.inj h).symm
  intro T hT X
  obtain ⟨vm₁, X₁, hstep₁⟩ := X.invokestatic hx hown (hts _ wm_300) hnamed hmethM hstatic hkP hinitP ⟨by decide +kernel, by decide +kernel⟩ (g := g) hg (argsL := As) (rest := rest) hlen hstack (by rw [hb]; exact hdg)
  obtain ⟨v, ⟨U', l2, c2, s2⟩, X', ⟨g', mk', t, L, e1, e2, hq, h1, hL, h2, h3⟩, hsteps⟩ := hK m meth c ⟨T.setVm vm₁, locs, cells, slots⟩ { g with stack := rest } (.invokestatic 63) mk As.toArray X₁ hg (hsize.trans hml.symm) (by rw [hb]; exact hdg) hW (X₁.named hnamed) ⟨hf.1, hf.2, hPc (T.setVm vm₁) hT X₁.warmed⟩
  dsimp only [Pt.U, Pt.locs, Pt.cells, Pt.slots] at X' e1 e2 h1 h2 h3 hsteps
  subst h1; subst h2; subst h3
  exact ⟨v, (T.setVm vm₁).calling g' mk' As.toArray, t, U', L, hT, X', hL, e1, e2, hq, fun target h => hstep₁ _ fun acts => by rw [doInvoke_state]; exact hsteps.trans h⟩
theorem sw_callH {S : Type} {w : S → va_W} {ws wr : va_W} {st : S} {nL : Nat} {D : va_G} {cA cL : ClassId} {A : Nat → Prop} {post : Int32 → S → Prop} {st0 : List Value} (isC isR : List Nat) (As : List Value)
    (hx : p.tables.exec = Jvm.exec) (hb : c.code = cc) (hml : c.maxLocals = nL) (hown : s.vm.findClass R_Law = some m.cls) (hts : ∀ w ∈ BIG, w.before args s = true) (hcw : (Cond.codeWith y_Law_byteAt b_Law_byteAt 4 (some .int) [(0, 9, 12, 13)]).before args s = true) (hTA : TAu s) (hAo : ∀ q : Nat, q < s.heap.size → ¬ A q)
    (hK2 : va_K D vwC [(cA, .int), (cL, .long)] s) (hN : va_Nw nestL s) (hA : ∀ q : Nat, s.heap.size ≤ q → A q) (hP : va_P D vwC ws H) (hD : va_D A ws) (hS : va_S A s.heap H locs)
    (hC : isC.map (fun i => ws[i]?) = (w st).map some) (hR : isR.map (fun i => ws[i]?) = wr.map some) (hnC : va_nd isC = true) (hnR : va_nd isR = true) (hdis : ∀ i ∈ isR, i ∉ isC)
    (hM : Met l y_Law_byteAt wsH rmH (h_Pc D cA cL As (w st) H.size) (va_Qi post (h_B D (va_A (w st) H.size) w) (va_A (w st) H.size)) 1 6 (va_A (w st) H.size)) (hRm : rmH.frames + 1 ≤ R.frames ∧ 8 + (4 + 11) + rmH.locals ≤ R.locals) (hf : cells + 1 ≤ R.cells ∧ slots + 6 ≤ R.slots) (hls : ls.size = nL) (hn : As.length = 3) (hst : st0 = As.reverse ++ rest) (hcat : (rest.map fun v => v.category).sum ≤ 8) (hdg : decode cc pc = .ok (.invokestatic 63, 3))
    (kk : ∀ (r : Int32) (u : S) (H1 : Heap) (locs1 : List Loc), post r u → va_P D vwC (wr ++ w u) H1 → va_D A (wr ++ w u) → va_S A s.heap H1 locs1 → W p l e R s m args below meth c H1 locs1 (cells + 1) (slots + 6) Q (F0 m (pc + 3) ls (.int r :: rest))) :
    W p l e R s m args below meth c H locs cells slots Q (F0 m pc ls st0) := by
  subst hst
  have hFc := va_free hD hS hA isC hC
  have hDc := hD.sub isC hnC hC
  have hPc := hP.sub (ws' := w st) isC (by
    have h1 : (isC.map (fun i => ws[i]?)).filterMap id = ((w st).map some).filterMap id := by rw [hC]
    rw [List.filterMap_map, List.filterMap_map] at h1
    simpa using h1)
  refine va_calli (sw_runH (As := As) (rest := rest) hx hb hml hown hts hcw hM h_blind (fun U hU hW => ⟨rfl, by rw [hU], by rw [hU]; exact hPc, va_K.moved hW.alike hK2, hDc.weaken (fun _ _ _ _ => trivial), va_Nw.warmM hW hN, TA_move (a := #[]) (s := s) hW (fun q cell hq => by
    have hlt := (Array.getElem?_eq_some_iff.mp hq).1
    rw [hU, hS.2.1 q hlt (hAo q hlt)]
    exact hq) (hTA #[])⟩) rfl hn hls rfl (lv_room hcat) hdg hRm hf) hS (fun q _ h => hFc q h) hFc (fun r u t H1 locs1 ht hvm hq hB _ hk1 hS1 => ?_)
  obtain ⟨b1, b3⟩ := hB
  rw [ht] at b1
  obtain ⟨a1, a2⟩ := va_join (wr := wr) (w1 := w u) hP hD isC isR hC hR hnR hdis hk1 hFc b1 b3
  exact kk r u H1 locs1 hq a1 a2 hS1
/-- a word of the script -/
theorem lw_rd {b L i j : Nat} {jn : Int} {xs : Nat → Int32} {A : Nat → Prop} {H0 : Heap} (hx : p.tables.exec = Jvm.exec) (hb : c.code = cc) (hX : va_X b L xs s H0) (hbl : b < H0.size) (hbA : ¬ A b) (hS : va_S A H0 H locs) (hL : L ≤ 2048) (hi : i + j < L) (hj : Int32.ofInt jn = nI j) (h0 : ls[0]? = some (.val (.ref b))) (h4 : ls[4]? = some (.val (.int (nI i))))
    (d0 : decode cc pc = .ok (.aload_n 0, 1)) (d1 : decode cc (pc + 1) = .ok (.iload 4, 2)) (d2 : decode cc (pc + 3) = .ok (.iconst jn, 1)) (d3 : decode cc (pc + 4) = .ok (.iadd, 1)) (d4 : decode cc (pc + 5) = .ok (.iaload, 1))
    (k : W p l e R s m args below meth c H locs cells slots Q (F0 m (pc + 6) ls (.int (xs (i + j)) :: rest))) : W p l e R s m args below meth c H locs cells slots Q (F0 m pc ls rest) := by
  refine lv_aload_n hx hb d0 rfl h0 ?_
  refine lv_iload hx hb d1 h4 ?_
  refine lv_iconst hx hb d2 hj ?_
  refine lv_iadd hx hb d3 ?_
  refine sw_tp (y := nI (i + j)) (nI_add _ _) ?_
  refine va_sld hx hb hX hbl hbA hS (vp_in_nI hi (by omega)) d4 ?_
  rw [nI_clamp (by omega)]
  exact k
end LWH
theorem lw_cmp {L i : Nat} (hL : L ≤ 2048) (hi : i ≤ L) : Int32.ofNat L - 4 < nI i ↔ L < i + 4 := by
  by_cases h4 : 4 ≤ L
  · have e : Int32.ofNat L - 4 = nI (L - 4) := by
      have h : nI (L - 4) + nI 4 = nI L := by rw [nI_add]; exact niE (by omega)
      have h2 : Int32.ofNat L = nI (L - 4) + 4 := h.symm
      rw [h2]
      exact Int32.add_sub_cancel _ _
    rw [e, nI_ltI (by omega) (by omega)]
    omega
  · have hl : L = 0 ∨ L = 1 ∨ L = 2 ∨ L = 3 := by omega
    have hj : i = 0 ∨ i = 1 ∨ i = 2 ∨ i = 3 := by omega
    rcases hl with rfl | rfl | rfl | rfl <;> rcases hj with rfl | rfl | rfl | rfl <;> first | omega | decide
theorem rl_0 : Rl s_0 m_0 := by
  have hf : ∀ k, k < 240 → pfill (fun _ => 0) 0 240 k = 255 := fun k hk => if_pos (by omega)
  refine ⟨rfl, ⟨rfl, rfl⟩, rfl, rfl, ⟨fun i hi => ⟨255, by decide, hf i hi⟩, Or.inr (hf 208 (by decide)), Or.inr (hf 224 (by decide)), fun h => absurd ((hf 209 (by decide)).symm.trans h) (by decide)⟩, fun h => absurd rfl h⟩
