/-! Related states; the patch, byte by byte. -/
def RPt (s : St) (m : Ms) : Prop := s.2.2.1 = m.2.2.1 ∧ s.2.2.2.1 = m.2.2.2.1 ∧ s.2.2.2.2.1 = m.2.2.2.2.1 ∧ s.2.2.2.2.2.1 = m.2.2.2.2.2.1 ∧ s.2.2.2.2.2.2.1 = m.2.2.2.2.2.2.1 ∧ ((s.2.2.2.2.2.2.1 = 2 ∨ s.2.2.2.2.2.2.1 = 3) → s.2.2.2.2.2.2.2 = m.2.2.2.2.2.2.2) ∧ (s.2.2.2.2.2.2.1 = 0 ∨ s.2.2.2.2.2.2.1 = 1 ∨ s.2.2.2.2.2.2.1 = 2 ∨ s.2.2.2.2.2.2.1 = 3)
def RSw (s : St) (m : Ms) : Prop := s.2.1.1 = m.2.1.2.1 ∧ s.2.1.2 = m.2.1.2.2
/-- a patch under way, the power there -/
def RP (s : St) (m : Ms) : Prop := m.1 = (s.1, false) ∧ RPt s m ∧ RSw s m ∧ InvF s.1.1 ∧ PtOk s
/-- the same, the reference having sealed already -/
def RPs (s : St) (m : Ms) : Prop := m.1 = csealS s ∧ RPt s m ∧ RSw s m ∧ InvF s.1.1 ∧ PtOk s
/-- between calls -/
def Rl (s : St) (m : Ms) : Prop := m.1.1 = s.1 ∧ RSw s m ∧ s.2.2.2.2.1 = m.2.2.2.2.1 ∧ s.2.2.2.2.2.1 = m.2.2.2.2.2.1 ∧ InvF s.1.1 ∧ (¬ s.2.2.2.2.1 = 0 → RPt s m ∧ PtOk s)
def Out3 (x : St × Bool) (m : Ms) : Prop := (x.2 = false ∧ m.1 = (x.1.1, true) ∧ InvF x.1.1.1) ∨ (x.2 = true ∧ copen x.1 = true ∧ RP x.1 m) ∨ (x.2 = true ∧ copen x.1 = false ∧ RPs x.1 m)
theorem mz_eqt {z : Mz} (h : z.2 = true) : (z.1, true) = z := by rw [← h]
theorem copen_iff {s : St} {Ln n : Nat} (k1 : s.2.2.2.1 = nI Ln) (k2 : s.2.2.2.2.1 = nI n) (h0 : 0 < n) (h1 : Ln < 2 ^ 31) (h2 : n < 2 ^ 31) : copen s = true ↔ n < Ln := by
  unfold copen
  rw [decide_eq_true_iff, k1, k2, nI_leI h1 h2]
  constructor
  · intro h; omega
  · intro h
    exact ⟨nI_ne0 h0 h2, by omega⟩
theorem write_mask {a : Nat} {v : Int32} {z : Mz} (h : InvF z.1.1) (ha : a < 240) : pwrite a (v &&& 255) z = pwrite a v z := by
  unfold pwrite
  rw [byte_mask (by rw [pmay_f]; exact h.1 a ha) v]
theorem seal_went {v : Int32} {n : Nat} {z : Mz} (h : z.2 = true) : pseal v n z = z := by
  unfold pseal
  rw [pwrite_went (a := 99) h, pwrite_went (a := 98) h, pwrite_went (a := 97) h, pwrite_went (a := 96) h]
theorem ie_cmake {n : Nat} {v : Int32} {s : St} (h : InvF s.1.1) (hn : n < 96) : InvF (cmake n v s).1.1.1 := by
  have h1 := ie_write (z := (s.1, false)) (a := 96 + n) (v := v) h (by omega) (by omega) (by omega) (by omega)
  by_cases q : (pwrite (96 + n) v (s.1, false)).2 = true
  · rw [cmake_no q]; exact h1
  · rw [cmake_yes (bool_f q)]; exact h1
/-- one byte made -/
theorem make_sim {n Ln q : Nat} {v : Int32} {s : St} {m : Ms} (hm : m.1 = (s.1, false)) (hp : RPt s m) (hs : RSw s m) (hI : InvF s.1.1) (k1 : s.2.2.2.1 = nI Ln) (k2 : s.2.2.2.2.1 = nI n) (k3 : s.2.2.2.2.2.1 = nI q) (k4 : 4 ≤ n) (k5 : n < Ln) (k6 : Ln ≤ 96) (k7 : q ≤ 255 + n + 1) : Out3 (cmake n v s) (mmake n Ln v m) := by
  have hw0 : m.1.2 = false := by rw [hm]
  have hI' := ie_cmake (v := v) hI (show n < 96 by omega)
  have em : mmake n Ln v m = _ := if_neg (fun z => z.elim (by omega) (fun z => by rw [hw0] at z; cases z))
  have ew : pwrite (96 + n) (v &&& 255) m.1 = pwrite (96 + n) v (s.1, false) := by rw [hm]; exact write_mask hI (by omega)
  by_cases hc : (pwrite (96 + n) v (s.1, false)).2 = true
  · refine Or.inl ?_
    rw [cmake_no hc] at hI' ⊢
    refine ⟨rfl, ?_, hI'⟩
    rw [em]
    by_cases h1 : n + 1 < Ln
    · rw [if_pos h1]
      show pwrite (96 + n) (v &&& 255) m.1 = _
      rw [ew]
      exact (mz_eqt hc).symm
    · rw [if_neg h1]
      show pseal _ Ln (pwrite (96 + n) (v &&& 255) m.1) = _
      rw [ew, seal_went hc]
      exact (mz_eqt hc).symm
  · have hc := bool_f hc
    refine Or.inr ?_
    have k2' : (cmake n v s).1.2.2.2.2.1 = nI (n + 1) := by rw [cmake_yes hc]; show s.2.2.2.2.1 + 1 = _; rw [k2]; exact nI_1 _
    have k1' : (cmake n v s).1.2.2.2.1 = nI Ln := by rw [cmake_len]; exact k1
    have k3' : (cmake n v s).1.2.2.2.2.2.1 = nI q := by rw [cmake_plc]; exact k3
    have hok : PtOk (cmake n v s).1 := ⟨Ln, n + 1, q, k1', k2', k3', by omega, by omega, k6, by omega⟩
    have ho := copen_iff k1' k2' (by omega) (by omega) (by omega)
    have e2 : (cmake n v s).2 = true := by rw [cmake_yes hc]
    obtain ⟨p1, p2, p3, p4, p5, p6, p7⟩ := hp
    by_cases h1 : n + 1 < Ln
    · refine Or.inl ⟨e2, ho.mpr h1, ?_, ?_, ?_, hI', hok⟩
      · rw [em, if_pos h1, cmake_yes hc]
        show pwrite (96 + n) (v &&& 255) m.1 = _
        rw [ew]
        exact (mz_eq hc).symm
      · rw [em, if_pos h1, cmake_yes hc]
        exact ⟨p1, p2, by show s.2.2.2.2.1 + 1 = m.2.2.2.2.1 + 1; rw [p3], p4, p5, p6, p7⟩
      · rw [em, if_pos h1, cmake_yes hc]
        exact hs
    · refine Or.inr ⟨e2, bool_f (fun z => h1 (ho.mp z)), ?_, ?_, ?_, hI', hok⟩
      · rw [em, if_neg h1]
        unfold csealS
        rw [k1', nI_clamp (by omega), cmake_yes hc]
        show pseal m.2.2.1 Ln (pwrite (96 + n) (v &&& 255) m.1) = pseal s.2.2.1 Ln ((pwrite (96 + n) v (s.1, false)).1, false)
        rw [ew, ← p1, mz_eq hc]
      · rw [em, if_neg h1, cmake_yes hc]
        exact ⟨p1, p2, by show s.2.2.2.2.1 + 1 = m.2.2.2.2.1 + 1; rw [p3], p4, p5, p6, p7⟩
      · rw [em, if_neg h1, cmake_yes hc]
        exact hs
theorem copy_sim : ∀ (d n q Ln : Nat) (s : St) (m : Ms), RP s m → s.2.2.2.1 = nI Ln → s.2.2.2.2.1 = nI n → s.2.2.2.2.2.1 = nI q → 4 ≤ n → n < Ln → Ln ≤ 96 → q ≤ 255 + n → Out3 (ccopy (min d (Ln - n)) n q s) (mcopy d n q Ln m) := by
  intro d
  induction d with
  | zero =>
    intro n q Ln s m hR k1 k2 k3 k4 k5 k6 k7
    rw [Nat.zero_min, ccopy_0, mcopy_0]
    exact Or.inr (Or.inl ⟨rfl, (copen_iff k1 k2 (by omega) (by omega) (by omega)).mpr k5, hR⟩)
  | succ d ih =>
    intro n q Ln s m hR k1 k2 k3 k4 k5 k6 k7
    obtain ⟨hm, hp, hs, hI, hO⟩ := hR
    have hw0 : m.1.2 = false := by rw [hm]
    obtain ⟨p1, p2, p3, p4, p5, p6, p7⟩ := hp
    rw [show min (d + 1) (Ln - n) = min d (Ln - (n + 1)) + 1 by omega, ccopy_1, mcopy_1, if_pos (show n < Ln ∧ m.1.2 = false from ⟨k5, hw0⟩)]
    have k3' : (cplc s).2.2.2.2.2.1 = nI (q + 1) := by show s.2.2.2.2.2.1 + 1 = _; rw [k3]; exact nI_1 _
    have hsim := make_sim (n := n) (Ln := Ln) (q := q + 1) (v := cmb s.1.1 q) (s := cplc s) (m := mplc m) hm ⟨p1, p2, p3, by show s.2.2.2.2.2.1 + 1 = m.2.2.2.2.2.1 + 1; rw [p4], p5, p6, p7⟩ hs hI k1 k2 k3' k4 k5 k6 (by omega)
    have ev : cmb m.1.1.1 q = cmb s.1.1 q := by rw [hm]
    rw [ev]
    rcases hsim with ⟨a1, a2, a3⟩ | ⟨a1, a2, a3⟩ | ⟨a1, a2, a3⟩
    · rw [if_neg (by rw [a1]; decide), mcopy_stop (fun z => by have z2 := z.2; rw [a2] at z2; cases z2)]
      exact Or.inl ⟨a1, a2, a3⟩
    · rw [if_pos a1]
      have j1 : (cmake n (cmb s.1.1 q) (cplc s)).1.2.2.2.1 = nI Ln := by rw [cmake_len]; exact k1
      have j2 : (cmake n (cmb s.1.1 q) (cplc s)).1.2.2.2.2.1 = nI (n + 1) := by rw [cmake_nxt a1]; show s.2.2.2.2.1 + 1 = _; rw [k2]; exact nI_1 _
      have j3 : (cmake n (cmb s.1.1 q) (cplc s)).1.2.2.2.2.2.1 = nI (q + 1) := by rw [cmake_plc]; exact k3'
      exact ih (n + 1) (q + 1) Ln _ _ a3 j1 j2 j3 (by omega) ((copen_iff j1 j2 (by omega) (by omega) (by omega)).mp a2) k6 (by omega)
    · rw [if_pos a1]
      have j1 : (cmake n (cmb s.1.1 q) (cplc s)).1.2.2.2.1 = nI Ln := by rw [cmake_len]; exact k1
      have j2 : (cmake n (cmb s.1.1 q) (cplc s)).1.2.2.2.2.1 = nI (n + 1) := by rw [cmake_nxt a1]; show s.2.2.2.2.1 + 1 = _; rw [k2]; exact nI_1 _
      have hn : ¬ n + 1 < Ln := fun z => by rw [(copen_iff j1 j2 (by omega) (by omega) (by omega)).mpr z] at a2; cases a2
      rw [show min d (Ln - (n + 1)) = 0 by omega, ccopy_0, mcopy_stop (fun z => hn z.1)]
      exact Or.inr (Or.inr ⟨rfl, a2, a3⟩)
theorem take_sim {c : Nat} {s : St} {m : Ms} (hc : c < 256) (hR : RP s m) (ho : copen s = true) : Out3 (ctkS c s) (mtkS c m) := by
  obtain ⟨hm, hp, hs, hI, hO⟩ := hR
  have hO' := hO
  obtain ⟨Ln, n, q, k1, k2, k3, k4, k5, k6, k7⟩ := hO
  have kn : n < Ln := (copen_iff k1 k2 (by omega) (by omega) (by omega)).mp ho
  have hp' := hp
  obtain ⟨p1, p2, p3, p4, p5, p6, p7⟩ := hp
  rw [ctkS_eq k1 k2 k3 (by omega) (by omega) (by omega), mtkS_eq (p2 ▸ k1) (p3 ▸ k2) (p4 ▸ k3) (by omega) (by omega) (by omega)]
  have ef : m.1.1.1 = s.1.1 := by rw [hm]
  unfold ctk mtk
  rw [← p5, ef]
  rcases p7 with a | a | a | a
  · rw [if_neg (by rw [a]; decide), if_neg (by rw [a]; decide), if_neg (by rw [a]; decide), if_pos a]
    unfold cobey mcmd
    have emn : mmore c Ln n = min (c % 64 + 1) (Ln - n) := by unfold mmore; split <;> omega
    by_cases b0 : c / 64 = 0
    · rw [if_pos b0, if_pos (show c < 64 by omega)]
      exact copy_sim _ n q Ln s _ ⟨hm, ⟨p1, p2, p3, p4, p5, fun z => by rw [a] at z; exact absurd z (by decide), Or.inl a⟩, hs, hI, hO'⟩ k1 k2 k3 k4 kn k6 k7
    · rw [if_neg b0, if_neg (show ¬ c < 64 by omega), emn]
      by_cases b1 : c / 64 = 1
      · rw [if_pos b1, b1]
        exact Or.inr (Or.inl ⟨rfl, ho, hm, ⟨p1, p2, p3, p4, rfl, fun z => absurd (show (1 : Int32) = 2 ∨ (1 : Int32) = 3 from z) (by decide), Or.inr (Or.inl rfl)⟩, hs, hI, hO'⟩)
      · rw [if_neg b1]
        by_cases b2 : c / 64 = 2
        · rw [if_pos b2, b2]
          exact Or.inr (Or.inl ⟨rfl, ho, hm, ⟨p1, p2, p3, p4, rfl, fun _ => rfl, Or.inr (Or.inr (Or.inl rfl))⟩, hs, hI, hO'⟩)
        · rw [if_neg b2, show c / 64 = 3 by omega]
          exact Or.inr (Or.inl ⟨rfl, ho, hm, ⟨p1, p2, p3, p4, rfl, fun _ => rfl, Or.inr (Or.inr (Or.inr rfl))⟩, hs, hI, hO'⟩)
  · rw [if_pos a, if_neg (by rw [a]; decide), if_pos a]
    exact Or.inr (Or.inl ⟨rfl, ho, hm, ⟨p1, p2, p3, rfl, rfl, fun z => absurd (show (0 : Int32) = 2 ∨ (0 : Int32) = 3 from z) (by decide), Or.inl rfl⟩, hs, hI, ⟨Ln, n, c, k1, k2, rfl, k4, k5, k6, by omega⟩⟩)
  · rw [if_neg (by rw [a]; decide), if_pos a, if_neg (by rw [a]; decide), if_neg (by rw [a]; decide), if_pos a]
    have e6 := p6 (Or.inl a)
    refine make_sim (s := ccnt s) (m := mcnt m) hm ⟨p1, p2, p3, p4, ?_, fun _ => ?_, ?_⟩ hs hI k1 k2 k3 k4 kn k6 (by omega)
    · show (if s.2.2.2.2.2.2.2 - 1 = 0 then 0 else s.2.2.2.2.2.2.1) = (if m.2.2.2.2.2.2.2 - 1 = 0 then 0 else m.2.2.2.2.2.2.1)
      rw [e6, p5]
    · show s.2.2.2.2.2.2.2 - 1 = m.2.2.2.2.2.2.2 - 1
      rw [e6]
    · show ((if s.2.2.2.2.2.2.2 - 1 = 0 then 0 else s.2.2.2.2.2.2.1) = 0 ∨ (if s.2.2.2.2.2.2.2 - 1 = 0 then 0 else s.2.2.2.2.2.2.1) = 1 ∨ (if s.2.2.2.2.2.2.2 - 1 = 0 then 0 else s.2.2.2.2.2.2.1) = 2 ∨ (if s.2.2.2.2.2.2.2 - 1 = 0 then 0 else s.2.2.2.2.2.2.1) = 3)
      split
      · exact Or.inl rfl
      · exact Or.inr (Or.inr (Or.inl a))
  · rw [if_neg (by rw [a]; decide), if_neg (by rw [a]; decide), if_pos a, if_neg (by rw [a]; decide), if_neg (by rw [a]; decide), if_neg (by rw [a]; decide), if_pos a]
    have e6 := p6 (Or.inr a)
    have hsim := make_sim (n := n) (Ln := Ln) (q := q + 1) (v := nI c + cmb s.1.1 q) (s := cplc (ccnt s)) (m := mcnt (mplc m)) hm ⟨p1, p2, p3, by show s.2.2.2.2.2.1 + 1 = m.2.2.2.2.2.1 + 1; rw [p4], by
      show (if s.2.2.2.2.2.2.2 - 1 = 0 then 0 else s.2.2.2.2.2.2.1) = (if m.2.2.2.2.2.2.2 - 1 = 0 then 0 else m.2.2.2.2.2.2.1)
      rw [e6, p5], fun _ => by
      show s.2.2.2.2.2.2.2 - 1 = m.2.2.2.2.2.2.2 - 1
      rw [e6], by
      show ((if s.2.2.2.2.2.2.2 - 1 = 0 then 0 else s.2.2.2.2.2.2.1) = 0 ∨ (if s.2.2.2.2.2.2.2 - 1 = 0 then 0 else s.2.2.2.2.2.2.1) = 1 ∨ (if s.2.2.2.2.2.2.2 - 1 = 0 then 0 else s.2.2.2.2.2.2.1) = 2 ∨ (if s.2.2.2.2.2.2.2 - 1 = 0 then 0 else s.2.2.2.2.2.2.1) = 3)
      split
      · exact Or.inl rfl
      · exact Or.inr (Or.inr (Or.inr a))⟩ hs hI k1 k2 (show s.2.2.2.2.2.1 + 1 = _ by rw [k3]; exact nI_1 _) k4 kn k6 (by omega)
    have ec : cmake n ((nI c + cmb s.1.1 q) &&& 255) (cplc (ccnt s)) = cmake n (nI c + cmb s.1.1 q) (cplc (ccnt s)) := by
      unfold cmake
      rw [write_mask (z := ((cplc (ccnt s)).1, false)) hI (by omega)]
    rw [ec]
    exact hsim
theorem feedl_sim (b : Int64) : ∀ (d i : Nat) (s : St) (m : Ms), ((copen s = true ∧ RP s m) ∨ (copen s = false ∧ RPs s m)) → Out3 (cfdl b d i s) (mfdl b d i m) := by
  intro d
  induction d with
  | zero =>
    intro i s m h
    rw [cfdl_0, mfdl_0]
    rcases h with ⟨a, h⟩ | ⟨a, h⟩
    · exact Or.inr (Or.inl ⟨rfl, a, h⟩)
    · exact Or.inr (Or.inr ⟨rfl, a, h⟩)
  | succ d ih =>
    intro i s m h
    rcases h with ⟨a, h⟩ | ⟨a, h⟩
    · have hg : mgo m = true := by
        obtain ⟨hm, hp, hs, hI, hO⟩ := h
        unfold mgo
        rw [← hp.2.1, ← hp.2.2.1, hm]
        exact decide_eq_true ⟨(of_decide_eq_true a).2, rfl⟩
      rw [cfdl_1, mfdl_1, if_pos a, if_pos hg]
      rcases take_sim (pbyte_lt b i) h a with ⟨t1, t2, t3⟩ | ⟨t1, t2, t3⟩ | ⟨t1, t2, t3⟩
      · rw [if_neg (by rw [t1]; decide), mfdl_stop (fun z => by have z2 := (of_decide_eq_true z).2; rw [t2] at z2; cases z2)]
        exact Or.inl ⟨t1, t2, t3⟩
      · rw [if_pos t1]
        exact ih (i + 1) _ _ (Or.inl ⟨t2, t3⟩)
      · rw [if_pos t1]
        exact ih (i + 1) _ _ (Or.inr ⟨t2, t3⟩)
    · have hg : ¬ mgo m = true := by
        obtain ⟨hm, hp, hs, hI, Ln, n, q, k1, k2, k3, k4, k5, k6, k7⟩ := h
        intro z
        have z1 := (of_decide_eq_true z).1
        rw [← hp.2.1, ← hp.2.2.1, k1, k2, nI_leI (by omega) (by omega)] at z1
        rw [(copen_iff k1 k2 (by omega) (by omega) (by omega)).mpr (by omega)] at a
        cases a
      rw [cfdl_1, mfdl_1, if_neg (by rw [a]; decide), if_neg hg]
      exact Or.inr (Or.inr ⟨rfl, a, h⟩)
