/-! Call by call: related states answer alike and stay related. -/
theorem rl_closed {s : St} {m : Ms} (h1 : m.1.1 = s.1) (h2 : RSw s m) (h3 : s.2.2.2.2.1 = 0) (h4 : m.2.2.2.2.1 = 0) (h5 : s.2.2.2.2.2.1 = m.2.2.2.2.2.1) (hI : InvF s.1.1) : Rl s m := ⟨h1, h2, by rw [h3, h4], h5, hI, fun q => absurd h3 q⟩
theorem mans_w {v : Int32} {s : Ms} (h : s.1.2 = true) : mans v s = (-2, mlose s) := if_pos h
theorem mans_ok {v : Int32} {s : Ms} (h : s.1.2 = false) : mans v s = (v, s) := if_neg (by rw [h]; decide)
theorem mans_wz {v : Int32} {z : Mz} {r : Int32 × Bool × Int32} {p : Pt} (h : z.2 = true) : mans v (z, r, p) = (-2, mlose (z, r, p)) := if_pos h
theorem mans_okz {v : Int32} {z : Mz} {r : Int32 × Bool × Int32} {p : Pt} (h : z.2 = false) : mans v (z, r, p) = (v, (z, r, p)) := if_neg (show ¬ z.2 = true by rw [h]; decide)
theorem rl_mr0 {s : St} {m : Ms} (h : Rl s m) : Rl s (mr0 m) := h
theorem off_sim {s : St} {m : Ms} (h : Rl s m) : s.2.1.1 = m.2.1.2.1 ∧ Rl (closs s) (mlose (mr0 m)) := by
  obtain ⟨h1, h2, h3, h4, h5, h6⟩ := h
  exact ⟨h2.1, rl_closed h1 ⟨rfl, rfl⟩ rfl rfl rfl h5⟩
theorem rl_fl {s : St} {m : Ms} {F : Fl} {w : Bool} {r : Int32} (h : Rl s m) (hI : InvF F.1) : Rl (F, s.2) ((F, w), (r, m.2.1.2.1, m.2.1.2.2), m.2.2) := by
  obtain ⟨h1, h2, h3, h4, h5, h6⟩ := h
  exact ⟨rfl, h2, h3, h4, hI, h6⟩
theorem cut_sim {s : St} {m : Ms} (k : Int32) (h : Rl s m) : Rl (ccut k s) (mcut k m) := by
  unfold ccut mcut
  have e := h.1
  by_cases c : ccutok k = true
  · rw [if_pos c, if_pos c, e]
    exact rl_fl h h.2.2.2.2.1
  · rw [if_neg c, if_neg c]
    exact rl_mr0 h
theorem safe_sim {s : St} {m : Ms} (h : Rl s m) : s.1.2.1 = m.1.1.2.1 ∧ Rl ((s.1.1, -1, s.1.2.2.1, s.1.2.2.2), s.2) (msafe m) := by
  have e := h.1
  refine ⟨by rw [e], ?_⟩
  unfold msafe
  rw [e]
  exact rl_fl h h.2.2.2.2.1
theorem ver_sim {s : St} {m : Ms} (w : Int32) (h : Rl s m) : cver w s = mver w m.1.1.1 := by
  rw [h.1]; rfl
theorem state_sim {s : St} {m : Ms} (w : Int32) (h : Rl s m) : cstate w s = mstate w m := by
  obtain ⟨h1, h2, h3, h4, h5, h6⟩ := h
  unfold cstate mstate
  rw [h1, h2.1, h2.2, h3, h4]
theorem boot_sim {s : St} {m : Ms} (h : Rl s m) : (cboot s).1 = (mboot m).1 ∧ Rl (cboot s).2 (mboot m).2 := by
  obtain ⟨h1, h2, h3, h4, h5, h6⟩ := h
  have i1 : InvF (cfollow (s.1, false)).1.1 := ie_follow (z := (s.1, false)) h5
  have i2 : InvF (cmark (cfollow (s.1, false))).1.1 := ie_mark i1
  have ez : mmark (msettle (m.1.1, false)) = cmark (cfollow (s.1, false)) := by
    rw [h1, settle_eq (z := (s.1, false)) h5, mark_eq i1]
  by_cases hw : (cmark (cfollow (s.1, false))).2 = true
  · rw [show cboot s = _ from if_pos hw, mboot_w (by rw [ez]; exact hw), ez, mans_wz hw]
    exact ⟨rfl, rl_closed rfl ⟨rfl, rfl⟩ rfl rfl rfl i2⟩
  · have hw' := bool_f hw
    rw [show cboot s = _ from if_neg hw, mboot_ok (by rw [ez]; exact hw'), ez, mans_okz hw']
    exact ⟨rfl, rl_closed rfl ⟨rfl, rfl⟩ rfl rfl rfl i2⟩
theorem busy_eq {f : Nat → Int32} (h : InvF f) : cbusy f = true ↔ (masks f 208 = true ∨ masks f 224 = true) := by
  unfold cbusy
  rw [decide_eq_true_iff, masks_208 h, masks_224 h]
theorem psize_ff {v n : Int32} : psize v n = false ↔ (pver v = false ∨ plen n = false) := by
  constructor
  · intro h
    by_cases a : pver v = true
    · by_cases b : plen n = true
      · rw [psize_and.mpr ⟨a, b⟩] at h; cases h
      · exact Or.inr (bool_f b)
    · exact Or.inl (bool_f a)
  · intro h
    rcases h with h | h
    · exact psize_f1 h
    · exact psize_f2 h
theorem begin_sim {s : St} {m : Ms} (v n : Int32) (h : Rl s m) : (cbegin v n s).1 = (mbegin v n m).1 ∧ Rl (cbegin v n s).2 (mbegin v n m).2 := by
  have hR := h
  obtain ⟨h1, h2, h3, h4, h5, h6⟩ := h
  have eno : cbegno v n s = true ↔ mbegno v n m = true := by
    unfold cbegno mbegno
    rw [decide_eq_true_iff, decide_eq_true_iff, h1, h2.2, psize_ff, busy_eq h5]
    constructor
    · intro q
      rcases q with q | (q | q) | q | q
      · exact Or.inl q
      · exact Or.inr (Or.inl q)
      · exact Or.inr (Or.inr (Or.inl q))
      · exact Or.inr (Or.inr (Or.inr (Or.inl q)))
      · exact Or.inr (Or.inr (Or.inr (Or.inr q)))
    · intro q
      rcases q with q | q | q | q | q
      · exact Or.inl q
      · exact Or.inr (Or.inl (Or.inl q))
      · exact Or.inr (Or.inl (Or.inr q))
      · exact Or.inr (Or.inr (Or.inl q))
      · exact Or.inr (Or.inr (Or.inr q))
  unfold cbegin mbegin
  by_cases hn : cbegno v n s = true
  · rw [if_pos hn, if_pos (eno.mp hn)]
    exact ⟨rfl, rl_mr0 hR⟩
  · have hsz : psize v n = true := by
      cases e : psize v n with
      | true => rfl
      | false => exact absurd (decide_eq_true (Or.inr (Or.inl e))) hn
    obtain ⟨N, eN, hN8, hN96⟩ := psize_n hsz
    rw [if_neg hn, if_neg (fun q => hn (eno.mpr q)), h1]
    have iP : InvF (perl 6 0 (s.1, false)).1.1 := ie_perl 6 0 _ (by omega) h5
    by_cases hw : (perl 6 0 (s.1, false)).2 = true
    · rw [if_pos hw, mans_wz hw]
      exact ⟨rfl, rl_closed rfl ⟨rfl, rfl⟩ rfl rfl rfl iP⟩
    · rw [if_neg hw, mans_okz (bool_f hw)]
      refine ⟨rfl, rfl, h2, rfl, rfl, iP, fun _ => ⟨⟨rfl, rfl, rfl, rfl, rfl, fun q => absurd (show (0 : Int32) = 2 ∨ (0 : Int32) = 3 from q) (by decide), Or.inl rfl⟩, ⟨N, 4, 4, eN, rfl, rfl, by omega, by omega, hN96, by omega⟩⟩⟩
theorem req_sim {s : St} {m : Ms} (h : Rl s m) : (creq s).1 = (mreq m).1 ∧ Rl (creq s).2 (mreq m).2 := by
  have hR := h
  obtain ⟨h1, h2, h3, h4, h5, h6⟩ := h
  unfold creq mreq
  by_cases hn : s.2.1.2 = 0 ∨ cbusy s.1.1 = true
  · rw [if_pos hn, if_pos (by rw [h1, ← h2.2]; exact hn.imp_right (fun q => (busy_eq h5).mp q))]
    exact ⟨rfl, rl_mr0 hR⟩
  · have hm : ¬ (m.2.1.2.2 = 0 ∨ masks m.1.1.1 208 = true ∨ masks m.1.1.1 224 = true) := fun q => hn (by rw [h1, ← h2.2] at q; exact q.imp_right (fun q => (busy_eq h5).mpr q))
    rw [if_neg hn, if_neg hm, h1]
    by_cases hi : pimg s.1.1 96 = 0
    · rw [if_pos hi, if_pos hi]
      exact ⟨rfl, rl_mr0 hR⟩
    · rw [if_neg hi, if_neg hi]
      have iP : InvF (pwrite 208 15 (s.1, false)).1.1 := ie_208 (z := (s.1, false)) h5
      by_cases hw : (pwrite 208 15 (s.1, false)).2 = true
      · rw [if_pos hw, mans_wz hw]
        exact ⟨rfl, rl_closed rfl ⟨rfl, rfl⟩ rfl rfl rfl iP⟩
      · rw [if_neg hw, mans_okz (bool_f hw)]
        exact ⟨rfl, rfl, h2, h3, h4, iP, h6⟩
theorem await_eq {f : Nat → Int32} (h : InvF f) : cawait f = false ↔ (mset f 1 = false ∨ mset f 2 = true) := by
  have e1 : mset f 1 = true ↔ f 209 = 0 := ⟨fun q => ((mset_iff (k := 1) h).mp q).2, fun q => (mset_iff (k := 1) h).mpr ⟨h.2.2.2 q, q⟩⟩
  constructor
  · intro q
    by_cases a : f 209 = 0
    · refine Or.inr ((mset_iff (k := 2) h).mpr ⟨h.2.2.2 a, ?_⟩)
      exact Classical.byContradiction (fun b => of_decide_eq_false q ⟨a, b⟩)
    · exact Or.inl (bool_f (fun z => a (e1.mp z)))
  · intro q
    refine decide_eq_false (fun z => ?_)
    rcases q with q | q
    · rw [e1.mpr z.1] at q; cases q
    · exact z.2 ((mset_iff (k := 2) h).mp q).2
theorem con_sim {s : St} {m : Ms} (h : Rl s m) : (ccon s).1 = (mcon m).1 ∧ Rl (ccon s).2 (mcon m).2 := by
  have hR := h
  obtain ⟨h1, h2, h3, h4, h5, h6⟩ := h
  unfold ccon mcon
  by_cases hn : s.2.1.2 = 0 ∨ cawait s.1.1 = false
  · rw [if_pos hn, if_pos (by rw [h1, ← h2.2]; exact hn.imp_right (fun q => (await_eq h5).mp q))]
    exact ⟨rfl, rl_mr0 hR⟩
  · have hm : ¬ (m.2.1.2.2 = 0 ∨ mset m.1.1.1 1 = false ∨ mset m.1.1.1 2 = true) := fun q => hn (by rw [h1, ← h2.2] at q; exact q.imp_right (fun q => (await_eq h5).mpr q))
    rw [if_neg hn, if_neg hm, h1]
    have iP : InvF (pwrite 210 0 (s.1, false)).1.1 := ie_write (z := (s.1, false)) h5 (by omega) (by omega) (by omega) (by omega)
    by_cases hw : (pwrite 210 0 (s.1, false)).2 = true
    · rw [if_pos hw, mans_wz hw]
      exact ⟨rfl, rl_closed rfl ⟨rfl, rfl⟩ rfl rfl rfl iP⟩
    · rw [if_neg hw, mans_okz (bool_f hw)]
      exact ⟨rfl, rfl, h2, h3, h4, iP, h6⟩
theorem feed_sim {s : St} {m : Ms} (b : Int64) (n : Int32) (h : Rl s m) : (cfeed b n s).1 = (mfeed b n m).1 ∧ Rl (cfeed b n s).2 (mfeed b n m).2 := by
  have hR := h
  obtain ⟨h1, h2, h3, h4, h5, h6⟩ := h
  have eno : cfdno n s = true ↔ (m.2.2.2.2.1 = 0 ∨ m.2.2.2.2.1 = m.2.2.2.1 ∨ n < 1 ∨ 8 < n) := by
    unfold cfdno
    rw [decide_eq_true_iff]
    constructor
    · intro q
      rcases q with q | q | q
      · exact Or.inr (Or.inr (Or.inl q))
      · exact Or.inr (Or.inr (Or.inr q))
      · by_cases c : s.2.2.2.2.1 = 0
        · exact Or.inl (by rw [← h3]; exact c)
        · obtain ⟨hp, Ln, j, p, k1, k2, k3, k4, k5, k6, k7⟩ := h6 c
          refine Or.inr (Or.inl ?_)
          rw [← h3, ← hp.2.1, k1, k2]
          refine niE ?_
          have := fun z => (copen_iff k1 k2 (by omega) (by omega) (by omega)).mpr z
          have hz : ¬ j < Ln := fun z => by rw [this z] at q; cases q
          omega
    · intro q
      rcases q with q | q | q | q
      · exact Or.inr (Or.inr (decide_eq_false (fun z => z.1 (by rw [h3]; exact q))))
      · refine Or.inr (Or.inr (decide_eq_false (fun z => ?_)))
        obtain ⟨hp, Ln, j, p, k1, k2, k3, k4, k5, k6, k7⟩ := h6 z.1
        rw [← h3, ← hp.2.1] at q
        exact z.2 (by rw [q]; exact Int32.le_refl _)
      · exact Or.inl q
      · exact Or.inr (Or.inl q)
  unfold cfeed mfeed
  by_cases hn : cfdno n s = true
  · rw [if_pos hn, if_pos (eno.mp hn)]
    exact ⟨rfl, rl_mr0 hR⟩
  · rw [if_neg hn, if_neg (fun q => hn (eno.mpr q))]
    have ho : copen s = true := by
      cases e : copen s with
      | true => rfl
      | false => exact absurd (decide_eq_true (Or.inr (Or.inr e))) hn
    obtain ⟨hp, hO⟩ := h6 (of_decide_eq_true ho).1
    have hsim := feedl_sim b n.toNatClampNeg 0 s (mw0 (mr0 m)) (Or.inl ⟨ho, ⟨by show (m.1.1, false) = _; rw [h1], hp, h2, h5, hO⟩⟩)
    generalize cfdl b n.toNatClampNeg 0 s = x at hsim ⊢
    generalize mfdl b n.toNatClampNeg 0 (mw0 (mr0 m)) = y at hsim ⊢
    rcases hsim with ⟨a1, a2, a3⟩ | ⟨a1, a2, a3⟩ | ⟨a1, a2, a3⟩
    · rw [if_pos a1, mans_w (s := y) (by rw [a2])]
      exact ⟨rfl, rl_closed (by show y.1.1 = _; rw [a2]; rfl) ⟨rfl, rfl⟩ rfl rfl rfl a3⟩
    · obtain ⟨b1, b2, b3, b4, b5⟩ := a3
      rw [if_neg (by rw [a1]; decide), if_pos a2, mans_ok (s := y) (by rw [b1])]
      exact ⟨b2.2.2.1, by rw [b1], b3, b2.2.2.1, b2.2.2.2.1, b4, fun _ => ⟨b2, b5⟩⟩
    · obtain ⟨b1, b2, b3, b4, b5⟩ := a3
      have iS : InvF (csealS x.1).1.1 := ie_seal (z := (x.1.1, false)) b4
      rw [if_neg (by rw [a1]; decide), if_neg (by rw [a2]; decide)]
      by_cases hw : (csealS x.1).2 = true
      · rw [if_pos hw, mans_w (s := y) (by rw [b1]; exact hw)]
        exact ⟨rfl, rl_closed (by show y.1.1 = _; rw [b1]; rfl) ⟨rfl, rfl⟩ rfl rfl rfl iS⟩
      · rw [if_neg hw, mans_ok (s := y) (by rw [b1]; exact bool_f hw)]
        exact ⟨b2.2.2.1, by rw [b1], b3, b2.2.2.1, b2.2.2.2.1, iS, fun _ => ⟨b2, b5⟩⟩
theorem psml_upd {f g : Nat → Int32} {a : Nat} : ∀ (d i : Nat) (x : Int32), (∀ j, i ≤ j → f (a + j) = g (a + j)) → psml f a d i x = psml g a d i x := by
  intro d
  induction d with
  | zero => intro i x _; rw [psml_0, psml_0]
  | succ d ih => intro i x h; rw [psml_1, psml_1, h i (Nat.le_refl _), ih (i + 1) _ (fun j hj => h j (by omega))]
theorem fac_im (f : Nat → Int32) (v : Int32) (n : Nat) (sd : Int32) : pfacim f v n sd = mfacim f v n sd := by
  unfold pfacim mfacim
  generalize pfac f (n - 4) 4 sd = g
  have e : psum (upd (upd (upd g 0 165) 1 v) 2 (nI n)) 0 v n = psum g 0 v n := by
    unfold psum
    exact psml_upd _ _ _ (fun j hj => by rw [upd_ne (by omega), upd_ne (by omega), upd_ne (by omega)])
  rw [e]
  funext j
  unfold upd
  by_cases c0 : j = 0
  · subst c0; rfl
  · by_cases c1 : j = 1
    · subst c1; rfl
    · by_cases c2 : j = 2
      · subst c2; rfl
      · by_cases c3 : j = 3
        · subst c3; rfl
        · simp [c0, c1, c2, c3]
theorem inv_fac {bt nx : Int32 → Int32} (hb : ∀ x, ∃ k : Nat, k < 256 ∧ bt x = nI k) : ∀ (d i : Nat) (f : Nat → Int32) (x : Int32), i + d ≤ 96 → InvF f → InvF (pfacG nx bt f d i x) := by
  intro d
  induction d with
  | zero => intro i f x _ h; rw [pfacG_0]; exact h
  | succ d ih =>
    intro i f x hd h
    rw [pfacG]
    exact ih (i + 1) _ _ (by omega) (inv_upd h (hb _) (by omega) (by omega) (by omega))
theorem pbt_byte (x : Int32) : ∃ k : Nat, k < 256 ∧ pbt x = nI k := pk_andE _ 8 rfl
theorem psml_byte {f : Nat → Int32} {a : Nat} : ∀ (d i : Nat) (x : Int32), (∃ k : Nat, k < 256 ∧ x = nI k) → ∃ k : Nat, k < 256 ∧ psml f a d i x = nI k := by
  intro d
  induction d with
  | zero => intro i x h; rw [psml_0]; exact h
  | succ d ih => intro i x _; rw [psml_1]; exact ih (i + 1) _ (pk_andE _ 8 rfl)
theorem fac_sim {s : St} {m : Ms} (v n sd : Int32) (h : Rl s m) : Rl (cfac v n sd s) (mfac v n sd m) := by
  have hR := h
  obtain ⟨h1, h2, h3, h4, h5, h6⟩ := h
  unfold cfac mfac
  by_cases c : psize v n = true
  · rw [if_pos c, if_pos c, h1, fac_im]
    refine rl_closed rfl ⟨rfl, rfl⟩ rfl rfl rfl ?_
    obtain ⟨N, eN, hN8, hN96⟩ := psize_n c
    have hv : ∃ k : Nat, k < 256 ∧ v = nI k := by
      obtain ⟨a, b, -, -⟩ := of_decide_eq_true c
      have h0 : ¬ v < 0 := fun q => a (by
        rw [Int32.lt_iff_toInt_lt] at q ⊢
        have e0 : (0 : Int32).toInt = 0 := rfl
        have e1 : (1 : Int32).toInt = 1 := rfl
        omega)
      obtain ⟨j, hj, rfl⟩ := nI_of h0
      have b' : ¬ nI 250 < nI j := b
      rw [nI_ltI (by decide) hj] at b'
      exact ⟨j, by omega, rfl⟩
    show InvF (mfacim (pfill s.1.1 0 240) v n.toNatClampNeg sd)
    rw [← fac_im, eN, nI_clamp (by omega)]
    unfold pfacim
    have i0 : InvF (pfac (pfill s.1.1 0 240) (N - 4) 4 sd) := inv_fac pbt_byte _ _ _ _ (by omega) inv_fillall
    have i1 := inv_upd (a := 3) i0 (psml_byte (f := pfac (pfill s.1.1 0 240) (N - 4) 4 sd) (a := 0) (N - 4) 4 ((31 * ((217 + v) &&& 255) + nI N) &&& 255) (pk_andE _ 8 rfl)) (by decide) (by decide) (by decide)
    have i2 := inv_upd (a := 2) i1 ⟨N, by omega, rfl⟩ (by decide) (by decide) (by decide)
    have i3 := inv_upd (a := 1) i2 hv (by decide) (by decide) (by decide)
    exact inv_upd (a := 0) i3 ⟨165, by decide, rfl⟩ (by decide) (by decide) (by decide)
  · rw [if_neg c, if_neg c]
    exact rl_mr0 hR
theorem byte_sim {s : St} {m : Ms} (a : Int32) (h : Rl s m) : Rl s (mbyte a m).2 := by
  unfold mbyte
  split
  · exact rl_mr0 h
  · exact h
