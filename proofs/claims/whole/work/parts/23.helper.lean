/-! The law's helper byteAt: it answers 0 and lays the byte into the array, or 1 if byteAt threw. -/
theorem d_Law_byteAt_0 : decode b_Law_byteAt 0 = .ok (.aload_n 2, 1) := by decide +kernel
theorem d_Law_byteAt_1 : decode b_Law_byteAt 1 = .ok (.iconst 0, 1) := by decide +kernel
theorem d_Law_byteAt_2 : decode b_Law_byteAt 2 = .ok (.aload_n 0, 1) := by decide +kernel
theorem d_Law_byteAt_3 : decode b_Law_byteAt 3 = .ok (.iload_n 1, 1) := by decide +kernel
theorem d_Law_byteAt_4 : decode b_Law_byteAt 4 = .ok (.invokevirtual 7, 3) := by decide +kernel
theorem d_Law_byteAt_7 : decode b_Law_byteAt 7 = .ok (.i2l, 1) := by decide +kernel
theorem d_Law_byteAt_8 : decode b_Law_byteAt 8 = .ok (.lastore, 1) := by decide +kernel
theorem d_Law_byteAt_9 : decode b_Law_byteAt 9 = .ok (.goto 6, 3) := by decide +kernel
theorem d_Law_byteAt_12 : decode b_Law_byteAt 12 = .ok (.astore_n 3, 1) := by decide +kernel
theorem d_Law_byteAt_13 : decode b_Law_byteAt 13 = .ok (.iconst 1, 1) := by decide +kernel
theorem d_Law_byteAt_14 : decode b_Law_byteAt 14 = .ok (.ireturn, 1) := by decide +kernel
theorem d_Law_byteAt_15 : decode b_Law_byteAt 15 = .ok (.iconst 0, 1) := by decide +kernel
theorem d_Law_byteAt_16 : decode b_Law_byteAt 16 = .ok (.ireturn, 1) := by decide +kernel
def HWd (cA cL : ClassId) (aX aF aB aL aP aJ : Nat) (u : St × (Nat → Int64)) : va_W := CW cA aX aF aB aL aP u.1 ++ [(aJ, .inl (cL, 1, .inr (.inl u.2)))]
def h_Pc (D : va_G) (cA cL : ClassId) (av : List Value) (ws : va_W) (sz : Nat) : Array Value → State → Prop := va_Pc av (fun U => U.heap.size = sz ∧ va_P D vwC ws U.heap ∧ va_K D vwC [(cA, .int), (cL, .long)] U ∧ va_D (fun _ => True) ws ∧ va_Nw nestL U ∧ TAu U)
def h_B {S : Type} (D : va_G) (A : Nat → Prop) (w : S → va_W) (u : S) (t : State) : Prop := va_P D vwC (w u) t.heap ∧ va_D A (w u)
def h_post (v : Int32) (st : St) (r : Int32) (u : St × (Nat → Int64)) : Prop := u.1 = st ∧ (((¬ v < 0 ∧ ¬ 240 ≤ v) ∧ r = 0 ∧ u.2 0 = (st.1.1 v.toNatClampNeg).toInt64) ∨ (¬ (¬ v < 0 ∧ ¬ 240 ≤ v) ∧ r = 1))
def rmH : Room := { frames := 7, cells := 1, slots := 6, locals := 160 }
def wsH : List Cond := Cond.codeWith y_Law_byteAt b_Law_byteAt 4 (some .int) [(0, 9, 12, 13)] :: BIG
set_option maxHeartbeats 4000000 in
set_option maxRecDepth 100000 in
theorem k_Law_byteAt (l : Launch) (hfl : l.stackTraces = false) (D : va_G) (cA cL : ClassId) (aX aF aB aL aP aJ : Nat) (st : St) (f : Nat → Int64) (sz : Nat) (v : Int32) :
    Met l y_Law_byteAt wsH rmH (h_Pc D cA cL [.ref aX, .int v, .ref aJ] (HWd cA cL aX aF aB aL aP aJ (st, f)) sz) (va_Qi (h_post v st) (h_B D (va_A (HWd cA cL aX aF aB aL aP aJ (st, f)) sz) (HWd cA cL aX aF aB aL aP aJ)) (va_A (HWd cA cL aX aF aB aL aP aJ (st, f)) sz)) 1 6 (va_A (HWd cA cL aX aF aB aL aP aJ (st, f)) sz) := by
  refine va_MetW (cc := b_Law_byteAt) (maxL := 4) (ret := some .int) (hh := [(0, 9, 12, 13)]) (by decide) rfl ?_
  intro p e s m args below meth c s₁ B hml hv
  obtain ⟨rfl, hsz, hP, hK2, hD0, hN, hTA⟩ := hv
  subst hsz
  have hD := hD0.self (sz := s.heap.size)
  have hA : ∀ q : Nat, s.heap.size ≤ q → va_A (HWd cA cL aX aF aB aL aP aJ (st, f)) s.heap.size q := fun q h => Or.inr h
  have hS : va_S (va_A (HWd cA cL aX aF aB aL aP aJ (st, f)) s.heap.size) s.heap s.heap [] := va_S.rf
  revert hD hA hS
  generalize va_A (HWd cA cL aX aF aB aL aP aJ (st, f)) s.heap.size = A
  intro hD hA hS
  have hts0 := atoms_spec (ws := wsH) B.pre
  have hts : ∀ w ∈ BIG, w.before ([.ref aX, .int v, .ref aJ] : List Value).toArray s = true := fun w hw => hts0 w (List.mem_cons_of_mem _ hw)
  have hx := B.exec
  have hb := B.bytes
  have hr := B.returns
  have hlk := B.notSynchronized
  have hown : s.vm.findClass R_Law = some m.cls := findClass_of_methodNamed B.named
  have hK : va_K D vwC [(cA, .int)] s := hK2.sub [0] rfl
  obtain ⟨m9, meth9, c9, n9, q1, q2, -, -, q5, -⟩ := Cond.codeWith_spec (hts0 _ List.mem_cons_self)
  cases B.named.symm.trans n9
  have X₀ := Stand.of_body B
  cases q1.symm.trans X₀.method
  cases q2.symm.trans X₀.code
  obtain ⟨xh, hxl, x1, x2, x3, x4⟩ : ∃ x : ExceptionTableEntry, c.exceptionTable.toList = [x] ∧ x.startPc = 0 ∧ x.endPc = 9 ∧ x.handlerPc = 12 ∧ x.catchType = 13 := by
    obtain ⟨x, t, hxt, hx0, ht0⟩ := List.map_eq_cons_iff.mp q5
    have ht1 : t = [] := List.map_eq_nil_iff.mp ht0
    rw [ht1] at hxt
    simp only [Prod.mk.injEq] at hx0
    exact ⟨x, hxt, hx0.1, hx0.2.1, hx0.2.2.1, hx0.2.2.2⟩
  rw [lg_entry_eq]
  have go : ∀ ls : Array Slot, lv_has ls 4 [(0, .ref aX), (1, .int v), (2, .ref aJ)] → W p l e rmH s m ([.ref aX, .int v, .ref aJ] : List Value).toArray below meth c s.heap [] 0 0 (MQ below (va_Qi (h_post v st) (h_B D A (HWd cA cL aX aF aB aL aP aJ)) A) ([.ref aX, .int v, .ref aJ] : List Value).toArray s 1 6 A) (F0 m 0 ls []) := by
    intro ls hl
    refine lv_aload_n hx hb d_Law_byteAt_0 rfl (lv_at hl 2 rfl) ?_
    refine lv_iconst (v := 0) hx hb d_Law_byteAt_1 rfl ?_
    refine lv_aload_n hx hb d_Law_byteAt_2 rfl (lv_at hl 0 rfl) ?_
    refine lv_iload_n hx hb d_Law_byteAt_3 rfl (lv_at hl 1 rfl) ?_
    by_cases hin : ¬ v < 0 ∧ ¬ 240 ≤ v
    · obtain ⟨n, hvn, hn⟩ := n240 hin.1 hin.2
      have hcl : v.toNatClampNeg = n := by rw [hvn]; exact nI_clamp (by omega)
      refine sw_callFi (w := CW cA aX aF aB aL aP) (st := st) (wr := [(aJ, .inl (cL, 1, .inr (.inl f)))]) (rest := [.int 0, .ref aJ]) 0 0 [0, 1, 2, 3, 4] [5] [.int v] hx hb hml hown hts hK hN hA hP hD hS rfl rfl (by decide) (by decide) (by decide) (by rw [hvn]; exact k_X_byteAt l D cA aX aF aB aL aP st _ n hn) cw_Law_7 rfl rfl rfl ⟨Nat.le_of_ble_eq_true rfl, Nat.le_of_ble_eq_true rfl⟩ ⟨Nat.le_of_ble_eq_true rfl, Nat.le_of_ble_eq_true rfl⟩ hl.1 rfl rfl (Nat.le_of_ble_eq_true rfl) d_Law_byteAt_4 (fun r u H locs hq hP hD hS => ?_)
      obtain ⟨hr1, hu⟩ := hq
      rw [hr1]
      rw [hu] at hP hD
      refine lv_i2l (v := (st.1.1 n).toInt64) hx hb d_Law_byteAt_7 rfl ?_
      refine va_last hx hb hK2 hP hD hS 0 1 rfl rfl (vp_in_nI (n := 0) (by decide) (by decide)) d_Law_byteAt_8 (fun H locs hP hD hS => ?_)
      refine lv_goto (tgt := 15) hx hb d_Law_byteAt_9 (by decide) ?_
      refine lv_iconst (v := 0) hx hb d_Law_byteAt_15 rfl ?_
      refine W.widen (k := 1) (n := 6) (by decide) (by decide) ?_
      have hP2 : va_P D vwC (HWd cA cL aX aF aB aL aP aJ (st, vp_updL f (nI 0).toNatClampNeg (st.1.1 n).toInt64)) H := hP.sub [1, 2, 3, 4, 5, 0] rfl
      have hD2 : va_D A (HWd cA cL aX aF aB aL aP aJ (st, vp_updL f (nI 0).toNatClampNeg (st.1.1 n).toInt64)) := hD.sub [1, 2, 3, 4, 5, 0] (by decide) rfl
      exact W.zret (v := 0) hx hb hr rfl (fun t ht hW => ⟨⟨0, (st, vp_updL f (nI 0).toNatClampNeg (st.1.1 n).toInt64), rfl, ⟨rfl, Or.inl ⟨hin, rfl, by rw [hcl]; rfl⟩⟩, by rw [ht]; exact hP2, hD2⟩, hS.F ht⟩) hS.2.2 d_Law_byteAt_16 hlk
    · have hout : v < 0 ∨ ¬ v < 240 := by
        by_cases h0 : v < 0
        · exact Or.inl h0
        · exact Or.inr (fun h => hin ⟨h0, fun q => absurd h (Int32.not_lt.mpr q)⟩)
      intro T hT X
      obtain ⟨cellB, hcB, hoB, hclB⟩ := va_recv (q := (R_X, T_X, 5)) (q0 := 0) (ci := 0) (a := aX) hK hP rfl rfl
      obtain ⟨mk, methM, hnamed, hmethM, hstM, habM⟩ := Cond.instanceMethod_spec (hts _ wm_304)
      obtain ⟨methM', cM, hmethM', hcodeM, -, hlM, -, -, -, hsigM⟩ := Cond.code_spec hnamed (hts _ wm_306)
      cases hmethM.symm.trans hmethM'
      obtain ⟨c2, r2, m2, z1, z2, z3, z4, kP, hkP, hkPi⟩ := Cond.selects_spec (hts _ wm_305)
      have hy : y_X_byteAt.cls ≠ "java/lang/invoke/MethodHandle" ∧ y_X_byteAt.cls ≠ "java/lang/invoke/VarHandle" := ⟨cw_Law_7.2.1, cw_Law_7.2.2.1⟩
      cases hclB.symm.trans z1
      cases (State.methodFound?_of_named hnamed hy).symm.trans z2
      cases hnamed.symm.trans z3
      have hselP : selectMethod e.platform s.vm cellB.cls mk = .method mk := by rw [Launch.admits_selectMethod X.admits]; exact z4
      have hlen : ([.int v] : List Value).length = methM.sig.parameters.length := by
        have h := cw_Law_7.2.2.2
        rw [hsigM] at h
        exact (Option.some.inj h).symm
      obtain ⟨vm₁, X₁, hstep₁⟩ := X.invokevirtual hx hown (hts _ wm_303) hnamed hmethM hstM hkP hkPi hy (a := aX) (cell := cellB) (by rw [hT]; exact hcB) (fun z h => by rw [h] at hoB; cases hoB) hselP hmethM habM hkP hkPi (g := F0 m 4 ls [.int v, .ref aX, .int 0, .ref aJ]) rfl (argsL := [.int v]) (rest := [.int 0, .ref aJ]) hlen rfl (by rw [hb]; exact d_Law_byteAt_4)
      have h1 : At (T.setVm vm₁) m c below := X₁.here
      have hnU : (T.setVm vm₁).methodNamed? y_X_byteAt = some mk := X₁.named hnamed
      obtain ⟨methY, cY, hmY, hcY, -, hlY, -, -, -, -⟩ := Cond.code_spec hnU (pay_in hts big_good _ wm_306 #[] (T.setVm vm₁) X₁.warmed)
      obtain ⟨kY, hkY, -⟩ := className_of_methodNamed hnU
      have hinitY : kY.init = .initialized := Cond.initialized_spec (findClass_of_methodNamed hnU) hkY (pay_in hts big_good _ wm_1 #[] (T.setVm vm₁) X₁.warmed)
      have happ : (headSpec (Cond.code y_X_byteAt b_X_byteAt 2 (some .int) :: BIG) rmB).appliesLoose y_X_byteAt e.platform ((T.setVm vm₁).calling (F0 m 4 ls [.int 0, .ref aJ]) mk ([.ref aX, .int v] : List Value).toArray) = true :=
        Spec.appliesLoose_calling (g := F0 m 4 ls [.int 0, .ref aJ]) h1 (by rw [hb]; exact d_Law_byteAt_4) hnU hkY hinitY (X₁.room_calling (g := F0 m 4 ls [.int 0, .ref aJ]) (R' := rmB) (hl.1.trans hml.symm) hmY hcY (by decide) (by rw [hlY]; exact Nat.le_of_ble_eq_true rfl) (by decide) (by decide)) (atoms_intro fun w hw => pay_in hts (big_cons wm_306) w hw _ _ X₁.warmed)
      obtain ⟨mid, hmid⟩ := h1.above
      have hfr : ((T.setVm vm₁).setTop (F0 m 4 ls [.int 0, .ref aJ])).frames = (.java (F0 m 4 ls [.int 0, .ref aJ]) :: mid) ++ below := by rw [State.frames_setTop' _ h1.top, hmid]; rfl
      have hTA1 : TAu ((T.setVm vm₁).calling (F0 m 4 ls [.int 0, .ref aJ]) mk ([.ref aX, .int v] : List Value).toArray) := TA_move (a := #[]) (s := s) X₁.warmed (fun q cell hq => by show T.heap[q]? = some cell; rw [hT]; exact hq) (hTA #[])
      obtain ⟨o, s₂, hsteps, -, hend, hq⟩ := Steps.callFree (k_X_byteAtT l hfl aX v hout) p X.admits X.cas X.clock (acts := []) hfr happ ⟨rfl, hTA1⟩ trivial
      obtain ⟨x, ce, rfl, hW2, hsame, hnew, hce, hoc⟩ := hq
      rw [State.frames_setTop' _ h1.top, X₁.tail] at hend
      obtain ⟨T', X', hWT, hsT, hs2⟩ := X₁.outOfThrown (g := F0 m 4 ls [.int 0, .ref aJ]) rfl hend hW2 hsame
      have hcT' : T'.heap[x]? = some ce := by
        have h2 := hce
        rw [hs2] at h2
        exact h2
      obtain ⟨c3, c4, hc3, hc4, hasg⟩ := Cond.castable_spec (hTA #[] (.castable R_NS R_NS) (by decide +kernel))
      cases hc3.symm.trans hc4
      have e1 : ce.cls = c3 := by
        have h2 : (T.setVm vm₁).vm.findClass R_NS = some ce.cls := hoc.cls
        rw [X₁.warmed.alike.findClass] at h2
        exact Option.some.inj (h2.symm.trans hc3)
      obtain ⟨vm', X'', hcaught⟩ := law_caught X' hxl (g := F0 m 4 ls [.int 0, .ref aJ]) rfl (by rw [x1]; exact Nat.zero_le _) (by rw [x2]; exact (by decide : 4 < 9)) (by rw [x4]; decide) (own := R_Law) (name := R_NS) hown (by rw [x4]; exact hts _ wm_302) hc3 hcT' hoc.vm e1 hasg
      have hold : ∀ (q : Nat) (cell : Cell), s.heap[q]? = some cell → T'.heap[q]? = some cell := fun q cell h => hsT.old_cell (show T.heap[q]? = some cell by rw [hT]; exact h)
      have hszT : s.heap.size ≤ T'.heap.size := by
        have h2 := hsT.2.1
        rw [← hT]
        exact h2
      have heqT : ∀ q : Nat, q < s.heap.size → T'.heap[q]? = s.heap[q]? := fun q h => by
        rw [hold q _ (Array.getElem?_eq_getElem h), Array.getElem?_eq_getElem h]
      have hP' : va_P D vwC (HWd cA cL aX aF aB aL aP aJ (st, f)) T'.heap := hP.kept (fun k q hk => heqT _ (hP k q hk).lt)
      have hS' : va_S A s.heap T'.heap [] := ⟨hszT, fun q h _ => heqT q h, fun _ h => by cases h⟩
      have K2 : W p l e rmH s m ([.ref aX, .int v, .ref aJ] : List Value).toArray below meth c T'.heap [] 1 6 (MQ below (va_Qi (h_post v st) (h_B D A (HWd cA cL aX aF aB aL aP aJ)) A) ([.ref aX, .int v, .ref aJ] : List Value).toArray s 1 6 A) (F0 m 12 ls [.ref x]) := by
        refine lv_astore_n hx hb d_Law_byteAt_12 rfl hl (by decide) rfl (fun ls hl => ?_)
        refine lv_iconst (v := 1) hx hb d_Law_byteAt_13 rfl ?_
        exact W.zret (v := 1) hx hb hr rfl (fun t ht hW => ⟨⟨1, (st, f), rfl, ⟨rfl, Or.inr ⟨hin, rfl⟩⟩, by rw [ht]; exact hP', hD⟩, hS'.F ht⟩) (fun q hq => by cases hq) d_Law_byteAt_14 hlk
      obtain ⟨t, b1, b2⟩ := K2 (T'.setVm vm') rfl X''
      refine ⟨t, hstep₁ t (fun acts => ?_), b2⟩
      rw [doInvoke_state]
      refine hsteps.trans ?_
      rw [hs2]
      rw [x3] at hcaught
      exact hcaught t b1
  exact go _ (lv_entry [.ref aX, .int v, .ref aJ] (Nat.le_of_ble_eq_true rfl))
