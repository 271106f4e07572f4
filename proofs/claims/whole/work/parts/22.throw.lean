/-! byteAt out of range: it throws. -/
def TAL : List Cond := Bundle.ownAtoms0 R_X 113 R_NS [R_RT, R_EX]
def TA4 : List Cond := [.laysStatic R_TH "UNASSIGNED_STACK" "[Ljava/lang/StackTraceElement;", .laysStatic R_TH "SUPPRESSED_SENTINEL" "Ljava/util/List;", .isRef (.static R_TH "UNASSIGNED_STACK" "[Ljava/lang/StackTraceElement;"), .isRef (.static R_TH "SUPPRESSED_SENTINEL" "Ljava/util/List;")]
theorem tal_split : ∀ c ∈ TAL, c.tabsOnly = true ∨ c ∈ TA4 := by decide +kernel
theorem ta4_in : ∀ c ∈ TA4, c ∈ TAL := by decide +kernel
/-- what the tables and Throwable's statics say, whatever the arguments -/
def TAu (U : State) : Prop := ∀ (a : Array Value), ∀ c ∈ TAL, c.before a U = true
theorem TA_ls {O f d : String} {a a' : Array Value} {s U : State} (hW : s.WarmedH U.vm) (hk : ∀ (q : Nat) (cell : Cell), s.heap[q]? = some cell → U.heap[q]? = some cell) (h : (Cond.laysStatic O f d).before a s = true) : (Cond.laysStatic O f d).before a' U = true := by
  have h1 : (Cond.laysStatic O f d).before a (s.setVm U.vm) = true := Cond.before_shiftedFace (State.Shifted.of_warmed hW) _ rfl h
  obtain ⟨c, k, i, fd, q, cell, hc, hf, hst, hsta, hcell, hiss, hcls, hlt, hty⟩ := Cond.laysStatic_spec h1
  have hf' : U.fieldFound? O f d = some (c, k, i, fd) := hf
  have hc' : U.vm.findClass O = some c := hc
  have hq : U.heap[q]? = some cell := hk q cell hcell
  simp [Cond.before, Cond.holds, Cond.value, hc', hf', hst, hsta, hq, hiss, hcls, hlt, hty]
theorem TA_rf {O f d : String} {a a' : Array Value} {s U : State} (hW : s.WarmedH U.vm) (hk : ∀ (q : Nat) (cell : Cell), s.heap[q]? = some cell → U.heap[q]? = some cell) (hl : (Cond.laysStatic O f d).before a s = true) (h : (Cond.isRef (.static O f d)).before a s = true) : (Cond.isRef (.static O f d)).before a' U = true := by
  have h0 : (Cond.laysStatic O f d).before a (s.setVm U.vm) = true := Cond.before_shiftedFace (State.Shifted.of_warmed hW) _ rfl hl
  have h1 : (Cond.isRef (.static O f d)).before a (s.setVm U.vm) = true := Cond.before_shiftedFace (State.Shifted.of_warmed hW) _ rfl h
  obtain ⟨c, k, i, fd, q, cell, hc, hf, hst, hsta, hcell, hiss, hcls, hlt, hty⟩ := Cond.laysStatic_spec h0
  obtain ⟨u, hu⟩ := Cond.staticRefV hf hst hsta hcell hiss h1
  have hf' : U.fieldFound? O f d = some (c, k, i, fd) := hf
  have hq : U.heap[q]? = some cell := hk q cell hcell
  have he : (Term.static O f d).eval a' U none [] U = some u.v := by
    simp [Term.eval, State.fieldNamed?, hf', hst, hsta, hq, hiss, hu]
  obtain ⟨v, hv⟩ := u
  cases v with
  | null => simp [Cond.before, Cond.holds, Cond.value, he]
  | ref x => simp [Cond.before, Cond.holds, Cond.value, he]
  | _ => cases hv
theorem TA_move {a : Array Value} {s U : State} (hW : s.WarmedH U.vm) (hk : ∀ (q : Nat) (cell : Cell), s.heap[q]? = some cell → U.heap[q]? = some cell) (h : ∀ c ∈ TAL, c.before a s = true) : TAu U := by
  intro a' c hc
  rcases tal_split c hc with ht | h4
  · have h1 := Cond.tabsOnly_warm (args' := a') (T := U) hW c ht (h c hc)
    rwa [State.setVm_self] at h1
  · have hl1 := h _ (ta4_in _ (show TA4[0] ∈ TA4 from List.getElem_mem _))
    have hl2 := h _ (ta4_in _ (show TA4[1] ∈ TA4 from List.getElem_mem _))
    have hr := h c hc
    rcases List.mem_cons.mp h4 with rfl | h4
    · exact TA_ls hW hk hr
    rcases List.mem_cons.mp h4 with rfl | h4
    · exact TA_ls hW hk hr
    rcases List.mem_cons.mp h4 with rfl | h4
    · exact TA_rf hW hk hl1 hr
    rcases List.mem_cons.mp h4 with rfl | h4
    · exact TA_rf hW hk hl2 hr
    cases h4
def rmB : Room := { frames := 6, cells := 1, slots := 6, locals := 100 }
/-- it threw: one new cell, of six slots, all else as it was -/
def thQ : Array Value → State → Outcome → State → Prop := fun a st o t => ∃ (x : Addr) (ce : Cell), o = .threw x ∧ st.WarmedH t.vm ∧ st.sameButNew ({ t with vm := st.vm } : State) [] 1 6 ∧ st.heap.size ≤ x ∧ t.heap[x]? = some ce ∧ Bundle.OwnCell a st R_NS x .null ce
set_option maxHeartbeats 4000000 in
theorem k_X_byteAtT (l : Launch) (hfl : l.stackTraces = false) (aX : Nat) (v : Int32) (hv : v < 0 ∨ ¬ v < 240) : MetFree l y_X_byteAt (headSpec (Cond.code y_X_byteAt b_X_byteAt 2 (some .int) :: BIG) rmB) (fun a U => a = ([.ref aX, .int v] : List Value).toArray ∧ TAu U) (fun _ _ _ _ _ => True) thQ := by
  refine MetFree.of_bodyS (code := b_X_byteAt) (maxLocals := 2) (ret := some .int) (by decide) ?_ ?_
  · intro args s m h hn
    obtain ⟨meth, c, h1, h2, h3, h4, h5, h6, -, -⟩ := Cond.code_spec hn (atoms_spec (ws := Cond.code y_X_byteAt b_X_byteAt 2 (some .int) :: BIG) h _ List.mem_cons_self)
    exact ⟨meth, c, h1, h2, h3, h4, h5, h6⟩
  · intro p e s m args below meth c s₁ B hml hP _
    obtain ⟨rfl, hTA⟩ := hP
    have hts0 := atoms_spec (ws := Cond.code y_X_byteAt b_X_byteAt 2 (some .int) :: BIG) B.pre
    have hts : ∀ w ∈ BIG, w.before ([.ref aX, .int v] : List Value).toArray s = true := fun w hw => hts0 w (List.mem_cons_of_mem _ hw)
    obtain ⟨meth', c', g1, g2, -, -, -, -, g7, -⟩ := Cond.code_spec B.named (hts0 _ List.mem_cons_self)
    have X₀ := Stand.of_body B
    cases g1.symm.trans X₀.method
    cases g2.symm.trans X₀.code
    have hh0 : s₁.heap = s.heap := by rw [B.state]; rfl
    have hown : s.vm.findClass R_X = some m.cls := findClass_of_methodNamed B.named
    have htr : e.platform.stackTraces = false := by rw [B.admits.platform]; exact hfl
    have hx := B.exec
    have hb := B.bytes
    obtain ⟨cC, kC0, hfc, -⟩ := Cond.instantiable_spec (hts _ wm_308)
    have tail : ∀ ls : Array Slot, lv_has ls 2 [(0, .ref aX), (1, .int v)] → W p l e rmB s m ([.ref aX, .int v] : List Value).toArray below meth c s.heap [] 0 0 (fun t => ∃ o, t.status = .running ∧ Ended t below o ∧ thQ ([.ref aX, .int v] : List Value).toArray s o t) (F0 m 11 ls []) := by
      intro ls hl
      refine W.newcK (own := R_X) (C := R_NS) (index := 111) (n := 6) hx hb hown (hts _ wm_307) (hts _ wm_308) (hts _ wm_11) rfl d_X_byteAt_11 (by decide) (by decide) hfc rfl (fun H' kC hkC hc1 hsz hold => ?_)
      refine lv_dup hx hb d_X_byteAt_14 rfl ?_
      intro T hT X
      obtain ⟨U, st, hrun, hend, hWU, hsame, ce, hce, hoc⟩ := X.ctorThrow0 hx htr (own := R_X) (cls := R_NS) (names := [R_RT, R_EX]) (ic := 113) hown (by decide) (by decide) (fun c hc => hTA _ c hc) (fun x hx => by cases hx) (a := s.heap.size) hfc hkC (by rw [hT]; exact hc1) (Nat.le_refl _) (g := F0 m 15 ls [.ref s.heap.size, .ref s.heap.size]) rfl (hl.1.trans hml.symm) rfl rfl (rest := []) rfl (by rw [hb]; exact d_X_byteAt_15) (by rw [hb]; exact d_X_byteAt_18) (fun x hx => by
        have h0 : c.exceptionTable.toList = [] := by simpa [Array.isEmpty_iff] using g7
        rw [h0] at hx; cases hx) (by decide) (Nat.le_of_ble_eq_true rfl) B.notSynchronized
      exact ⟨U, st, .threw _, hrun, hend, ⟨_, ce, rfl, hWU, hsame, Nat.le_refl _, hce, hoc⟩⟩
    have K : W p l e rmB s m ([.ref aX, .int v] : List Value).toArray below meth c s.heap [] 0 0 (fun t => ∃ o, t.status = .running ∧ Ended t below o ∧ thQ ([.ref aX, .int v] : List Value).toArray s o t) (entryFrame m ([.ref aX, .int v] : List Value).toArray 2) := by
      rw [lg_entry_eq]
      have go : ∀ ls : Array Slot, lv_has ls 2 [(0, .ref aX), (1, .int v)] → W p l e rmB s m ([.ref aX, .int v] : List Value).toArray below meth c s.heap [] 0 0 (fun t => ∃ o, t.status = .running ∧ Ended t below o ∧ thQ ([.ref aX, .int v] : List Value).toArray s o t) (F0 m 0 ls []) := by
        intro ls hl
        refine lv_iload_n hx hb d_X_byteAt_0 rfl (lv_at hl 1 rfl) ?_
        refine lv_if_lt (tgt := 11) hx hb d_X_byteAt_1 (by decide) (fun h1 => tail ls hl) (fun h1 => ?_)
        refine lv_iload_n hx hb d_X_byteAt_4 rfl (lv_at hl 1 rfl) ?_
        refine lv_sipush (v := 240) hx hb d_X_byteAt_5 (by decide) ?_
        refine lv_icmp_lt (tgt := 19) hx hb d_X_byteAt_8 (by decide) (fun h8 => ?_) (fun h8 => tail ls hl)
        exact absurd h8 (hv.elim (fun q => absurd q h1) (fun q => q))
      exact go _ (lv_entry [.ref aX, .int v] (Nat.le_of_ble_eq_true rfl))
    obtain ⟨t, a1, o, b1, b2, b3⟩ := K s₁ hh0 X₀
    exact ⟨t, o, a1, b1, b2, b3⟩
