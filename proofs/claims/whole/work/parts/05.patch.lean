/-! The patch as mathematics. -/
def copen (s : St) : Bool := decide (¬ s.2.2.2.2.1 = 0 ∧ ¬ s.2.2.2.1 ≤ s.2.2.2.2.1)
def cplc (s : St) : St := (s.1, s.2.1, s.2.2.1, s.2.2.2.1, s.2.2.2.2.1, s.2.2.2.2.2.1 + 1, s.2.2.2.2.2.2.1, s.2.2.2.2.2.2.2)
def cmb (f : Nat → Int32) (q : Nat) : Int32 := if q < 96 then f q else 0
def cmake (n : Nat) (v : Int32) (s : St) : St × Bool := if (pwrite (96 + n) v (s.1, false)).2 = true then (((pwrite (96 + n) v (s.1, false)).1, s.2), false) else (((pwrite (96 + n) v (s.1, false)).1, s.2.1, s.2.2.1, s.2.2.2.1, s.2.2.2.2.1 + 1, s.2.2.2.2.2.1, s.2.2.2.2.2.2.1, s.2.2.2.2.2.2.2), true)
def ccnt (s : St) : St := (s.1, s.2.1, s.2.2.1, s.2.2.2.1, s.2.2.2.2.1, s.2.2.2.2.2.1, (if s.2.2.2.2.2.2.2 - 1 = 0 then 0 else s.2.2.2.2.2.2.1), s.2.2.2.2.2.2.2 - 1)
def ccopy : Nat → Nat → Nat → St → St × Bool
  | 0, _, _, s => (s, true)
  | d + 1, n, q, s => if (cmake n (cmb s.1.1 q) (cplc s)).2 = true then ccopy d (n + 1) (q + 1) (cmake n (cmb s.1.1 q) (cplc s)).1 else cmake n (cmb s.1.1 q) (cplc s)
termination_by d _ _ _ => d
def cobey (c Ln n q : Nat) (s : St) : St × Bool := if c / 64 = 0 then ccopy (min (c % 64 + 1) (Ln - n)) n q s else if c / 64 = 1 then ((s.1, s.2.1, s.2.2.1, s.2.2.2.1, s.2.2.2.2.1, s.2.2.2.2.2.1, 1, s.2.2.2.2.2.2.2), true) else if c / 64 = 2 then ((s.1, s.2.1, s.2.2.1, s.2.2.2.1, s.2.2.2.2.1, s.2.2.2.2.2.1, 2, nI (min (c % 64 + 1) (Ln - n))), true) else ((s.1, s.2.1, s.2.2.1, s.2.2.2.1, s.2.2.2.2.1, s.2.2.2.2.2.1, 3, nI (min (c % 64 + 1) (Ln - n))), true)
def ctk (c Ln n q : Nat) (s : St) : St × Bool := if s.2.2.2.2.2.2.1 = 1 then ((s.1, s.2.1, s.2.2.1, s.2.2.2.1, s.2.2.2.2.1, nI c, 0, s.2.2.2.2.2.2.2), true) else if s.2.2.2.2.2.2.1 = 2 then cmake n (nI c) (ccnt s) else if s.2.2.2.2.2.2.1 = 3 then cmake n ((nI c + cmb s.1.1 q) &&& 255) (cplc (ccnt s)) else cobey c Ln n q s
def pseal (v : Int32) (n : Nat) (z : Mz) : Mz := pwrite 96 165 (pwrite 97 v (pwrite 98 (nI n) (pwrite 99 (psum z.1.1 96 v n) z)))
theorem ccopy_0 {n q : Nat} {s : St} : ccopy 0 n q s = (s, true) := by rw [ccopy]
theorem ccopy_1 {d n q : Nat} {s : St} : ccopy (d + 1) n q s = if (cmake n (cmb s.1.1 q) (cplc s)).2 = true then ccopy d (n + 1) (q + 1) (cmake n (cmb s.1.1 q) (cplc s)).1 else cmake n (cmb s.1.1 q) (cplc s) := by rw [ccopy]
theorem cmake_no {n : Nat} {v : Int32} {s : St} (h : (pwrite (96 + n) v (s.1, false)).2 = true) : cmake n v s = (((pwrite (96 + n) v (s.1, false)).1, s.2), false) := if_pos h
theorem cmake_yes {n : Nat} {v : Int32} {s : St} (h : (pwrite (96 + n) v (s.1, false)).2 = false) : cmake n v s = (((pwrite (96 + n) v (s.1, false)).1, s.2.1, s.2.2.1, s.2.2.2.1, s.2.2.2.2.1 + 1, s.2.2.2.2.2.1, s.2.2.2.2.2.2.1, s.2.2.2.2.2.2.2), true) := if_neg (by rw [h]; decide)
theorem cmake_nxt {n : Nat} {v : Int32} {s : St} (h : (cmake n v s).2 = true) : (cmake n v s).1.2.2.2.2.1 = s.2.2.2.2.1 + 1 := by
  by_cases q : (pwrite (96 + n) v (s.1, false)).2 = true
  · rw [cmake_no q] at h; cases h
  · rw [cmake_yes (by simpa using q)]
theorem cmake_plc {n : Nat} {v : Int32} {s : St} : (cmake n v s).1.2.2.2.2.2.1 = s.2.2.2.2.2.1 := by
  by_cases q : (pwrite (96 + n) v (s.1, false)).2 = true
  · rw [cmake_no q]
  · rw [cmake_yes (by simpa using q)]
theorem ccopy_no {k i n q : Nat} {s : St} (h : i < k) (h2 : (cmake n (cmb s.1.1 q) (cplc s)).2 = false) : ccopy (k - i) n q s = cmake n (cmb s.1.1 q) (cplc s) := by
  rw [show k - i = (k - (i + 1)) + 1 by omega, ccopy_1]
  rw [if_neg (by rw [h2]; decide)]
theorem ccopy_yes {k i n q : Nat} {s : St} (h : i < k) (h2 : (cmake n (cmb s.1.1 q) (cplc s)).2 = true) : ccopy (k - i) n q s = ccopy (k - (i + 1)) (n + 1) (q + 1) (cmake n (cmb s.1.1 q) (cplc s)).1 := by
  rw [show k - i = (k - (i + 1)) + 1 by omega, ccopy_1]
  rw [if_pos h2]
theorem aw_split (x : Int32) : x = 1 ∨ x = 2 ∨ x = 3 ∨ (¬ x = 1 ∧ ¬ x = 2 ∧ ¬ x = 3) := by
  by_cases h1 : x = 1
  · exact Or.inl h1
  · by_cases h2 : x = 2
    · exact Or.inr (Or.inl h2)
    · by_cases h3 : x = 3
      · exact Or.inr (Or.inr (Or.inl h3))
      · exact Or.inr (Or.inr (Or.inr ⟨h1, h2, h3⟩))
theorem aw_out {x : Int32} (h : ¬ x = 1 ∧ ¬ x = 2 ∧ ¬ x = 3) : x.toInt < 1 ∨ 3 < x.toInt := by
  have a1 := lv_neT h.1 (a := 1) rfl
  have a2 := lv_neT h.2.1 (a := 2) rfl
  have a3 := lv_neT h.2.2 (a := 3) rfl
  omega
theorem pmin_n {a b : Nat} (ha : a < 2 ^ 31) (hb : b < 2 ^ 31) : (if nI b < nI a then nI b else nI a) = nI (min a b) := by
  by_cases h : b < a
  · rw [if_pos ((nI_ltI hb ha).mpr h), Nat.min_eq_right (by omega)]
  · rw [if_neg (fun q => h ((nI_ltI hb ha).mp q)), Nat.min_eq_left (by omega)]
/-! The class's calls as mathematics. -/
def cend (s : St) : St := (s.1, s.2.1, s.2.2.1, s.2.2.2.1, 0, 0, s.2.2.2.2.2.2.1, s.2.2.2.2.2.2.2)
def closs (s : St) : St := (s.1, (false, 0), s.2.2.1, s.2.2.2.1, 0, 0, s.2.2.2.2.2.2.1, s.2.2.2.2.2.2.2)
/-- the power went: what is left, with the flash of z -/
def cgone (z : Mz) (s : St) : St := (z.1, (false, 0), s.2.2.1, s.2.2.2.1, 0, 0, s.2.2.2.2.2.2.1, s.2.2.2.2.2.2.2)
def pfacim (f : Nat → Int32) (v : Int32) (n : Nat) (sd : Int32) : Nat → Int32 := upd (upd (upd (upd (pfac f (n - 4) 4 sd) 3 (psum (pfac f (n - 4) 4 sd) 0 v n)) 2 (nI n)) 1 v) 0 165
def cfac (v n sd : Int32) (s : St) : St := if psize v n = true then ((pfacim (pfill s.1.1 0 240) v n.toNatClampNeg sd, -1, s.1.2.2.1, s.1.2.2.2), (false, 0), s.2.2.1, s.2.2.2.1, 0, 0, s.2.2.2.2.2.2.1, s.2.2.2.2.2.2.2) else s
def cboot (s : St) : Int32 × St := if (cmark (cfollow (s.1, false))).2 = true then (-2, cgone (cmark (cfollow (s.1, false))) s) else (pimg (cmark (cfollow (s.1, false))).1.1 0, ((cmark (cfollow (s.1, false))).1, (true, pimg (cmark (cfollow (s.1, false))).1.1 0), s.2.2.1, s.2.2.2.1, 0, 0, s.2.2.2.2.2.2.1, s.2.2.2.2.2.2.2))
def ccutok (k : Int32) : Bool := decide (¬ k < 0 ∧ ¬ 1000 < k)
def ccut (k : Int32) (s : St) : St := if ccutok k = true then ((s.1.1, k, s.1.2.2.1, s.1.2.2.2), s.2) else s
def perl : Nat → Nat → Mz → Mz
  | 0, _, z => z
  | d + 1, p, z => perl d (p + 1) (perase (6 + p) z)
termination_by d _ _ => d
theorem perl_0 {p : Nat} {z : Mz} : perl 0 p z = z := by rw [perl]
theorem perl_1 {d p : Nat} {z : Mz} : perl (d + 1) p z = perl d (p + 1) (perase (6 + p) z) := by rw [perl]
theorem perl_went {z : Mz} (h : z.2 = true) : ∀ d p, perl d p z = z := by
  intro d
  induction d with
  | zero => intro p; exact perl_0
  | succ d ih =>
    intro p
    rw [perl_1, perase_went h, ih]
theorem perl_s {p : Nat} {z : Mz} (h : p < 6) : perl (6 - p) p z = perl (6 - (p + 1)) (p + 1) (perase (6 + p) z) := by
  rw [show 6 - p = (6 - (p + 1)) + 1 by omega, perl_1]
def cbegno (v n : Int32) (s : St) : Bool := decide (s.2.1.2 = 0 ∨ psize v n = false ∨ cbusy s.1.1 = true)
def cbegin (v n : Int32) (s : St) : Int32 × St := if cbegno v n s = true then (-1, s) else if (perl 6 0 (s.1, false)).2 = true then (-2, cgone (perl 6 0 (s.1, false)) s) else (4, ((perl 6 0 (s.1, false)).1, s.2.1, v, n, 4, 4, 0, 0))
/-- byte i of a fed long -/
def pbyte (b : Int64) (i : Nat) : Nat := ((b.toUInt64 >>> ((nI (i * 8)).toInt64.toUInt64 &&& Int64.toUInt64 63)).toInt64.toInt32).toBitVec.toNat % 2 ^ 8
def ctkS (c : Nat) (s : St) : St × Bool := ctk c s.2.2.2.1.toNatClampNeg s.2.2.2.2.1.toNatClampNeg s.2.2.2.2.2.1.toNatClampNeg s
def cfdl (b : Int64) : Nat → Nat → St → St × Bool
  | 0, _, s => (s, true)
  | d + 1, i, s => if copen s = true then (if (ctkS (pbyte b i) s).2 = true then cfdl b d (i + 1) (ctkS (pbyte b i) s).1 else ctkS (pbyte b i) s) else (s, true)
termination_by d _ _ => d
def cfdno (n : Int32) (s : St) : Bool := decide (n < 1 ∨ 8 < n ∨ copen s = false)
def csealS (s : St) : Mz := pseal s.2.2.1 s.2.2.2.1.toNatClampNeg (s.1, false)
def cfeed (b : Int64) (n : Int32) (s : St) : Int32 × St := if cfdno n s = true then (-1, s) else if (cfdl b n.toNatClampNeg 0 s).2 = false then (-2, closs (cfdl b n.toNatClampNeg 0 s).1) else if copen (cfdl b n.toNatClampNeg 0 s).1 = true then ((cfdl b n.toNatClampNeg 0 s).1.2.2.2.2.1, (cfdl b n.toNatClampNeg 0 s).1) else if (csealS (cfdl b n.toNatClampNeg 0 s).1).2 = true then (-2, cgone (csealS (cfdl b n.toNatClampNeg 0 s).1) (cfdl b n.toNatClampNeg 0 s).1) else ((cfdl b n.toNatClampNeg 0 s).1.2.2.2.2.1, ((csealS (cfdl b n.toNatClampNeg 0 s).1).1, (cfdl b n.toNatClampNeg 0 s).1.2))
def creq (s : St) : Int32 × St := if s.2.1.2 = 0 ∨ cbusy s.1.1 = true then (-1, s) else if pimg s.1.1 96 = 0 then (0, s) else if (pwrite 208 15 (s.1, false)).2 = true then (-2, cgone (pwrite 208 15 (s.1, false)) s) else (1, ((pwrite 208 15 (s.1, false)).1, s.2))
def ccon (s : St) : Int32 × St := if s.2.1.2 = 0 ∨ cawait s.1.1 = false then (-1, s) else if (pwrite 210 0 (s.1, false)).2 = true then (-2, cgone (pwrite 210 0 (s.1, false)) s) else (1, ((pwrite 210 0 (s.1, false)).1, s.2))
def cver (w : Int32) (s : St) : Int32 := if w = 0 then pimg s.1.1 0 else if w = 1 then pimg s.1.1 96 else -1
def cstate (w : Int32) (s : St) : Int32 := if w = 0 then b2i s.2.1.1 else if w = 1 then s.2.1.2 else if w = 2 then s.2.2.2.2.1 else if w = 3 then s.2.2.2.2.2.1 else if w = 4 then nI (pcnt s.1.1 13 18 0 0) else if w = 5 then nI (pcnt s.1.1 14 18 0 0) else if w = 6 then s.1.2.2.1 else if w = 7 then s.1.2.2.2 else -1
/-- an open patch's numbers are small -/
def PtOk (s : St) : Prop := ∃ Ln n q : Nat, s.2.2.2.1 = nI Ln ∧ s.2.2.2.2.1 = nI n ∧ s.2.2.2.2.2.1 = nI q ∧ 4 ≤ n ∧ n ≤ Ln ∧ Ln ≤ 96 ∧ q ≤ 255 + n
theorem cfdl_0 {b : Int64} {i : Nat} {s : St} : cfdl b 0 i s = (s, true) := by rw [cfdl]
theorem cfdl_1 {b : Int64} {d i : Nat} {s : St} : cfdl b (d + 1) i s = if copen s = true then (if (ctkS (pbyte b i) s).2 = true then cfdl b d (i + 1) (ctkS (pbyte b i) s).1 else ctkS (pbyte b i) s) else (s, true) := by rw [cfdl]
theorem cmark_went {z : Mz} (h : z.2 = true) : cmark z = z := by
  unfold cmark
  split
  · exact pwrite_went h
  · rfl
theorem v2_split (x : Int32) : x = 0 ∨ x = 1 ∨ (¬ x = 0 ∧ ¬ x = 1) := by
  by_cases h1 : x = 0
  · exact Or.inl h1
  · by_cases h2 : x = 1
    · exact Or.inr (Or.inl h2)
    · exact Or.inr (Or.inr ⟨h1, h2⟩)
theorem s8_split (x : Int32) : x = 0 ∨ x = 1 ∨ x = 2 ∨ x = 3 ∨ x = 4 ∨ x = 5 ∨ x = 6 ∨ x = 7 ∨ (¬ x = 0 ∧ ¬ x = 1 ∧ ¬ x = 2 ∧ ¬ x = 3 ∧ ¬ x = 4 ∧ ¬ x = 5 ∧ ¬ x = 6 ∧ ¬ x = 7) := by
  by_cases h0 : x = 0
  · exact Or.inl h0
  by_cases h1 : x = 1
  · exact Or.inr (Or.inl h1)
  by_cases h2 : x = 2
  · exact Or.inr (Or.inr (Or.inl h2))
  by_cases h3 : x = 3
  · exact Or.inr (Or.inr (Or.inr (Or.inl h3)))
  by_cases h4 : x = 4
  · exact Or.inr (Or.inr (Or.inr (Or.inr (Or.inl h4))))
  by_cases h5 : x = 5
  · exact Or.inr (Or.inr (Or.inr (Or.inr (Or.inr (Or.inl h5)))))
  by_cases h6 : x = 6
  · exact Or.inr (Or.inr (Or.inr (Or.inr (Or.inr (Or.inr (Or.inl h6))))))
  by_cases h7 : x = 7
  · exact Or.inr (Or.inr (Or.inr (Or.inr (Or.inr (Or.inr (Or.inr (Or.inl h7)))))))
  exact Or.inr (Or.inr (Or.inr (Or.inr (Or.inr (Or.inr (Or.inr (Or.inr ⟨h0, h1, h2, h3, h4, h5, h6, h7⟩)))))))
theorem s8_out {x : Int32} (h : ¬ x = 0 ∧ ¬ x = 1 ∧ ¬ x = 2 ∧ ¬ x = 3 ∧ ¬ x = 4 ∧ ¬ x = 5 ∧ ¬ x = 6 ∧ ¬ x = 7) : x.toInt < 0 ∨ 7 < x.toInt := by
  obtain ⟨h0, h1, h2, h3, h4, h5, h6, h7⟩ := h
  have a0 := lv_neT h0 (a := 0) rfl
  have a1 := lv_neT h1 (a := 1) rfl
  have a2 := lv_neT h2 (a := 2) rfl
  have a3 := lv_neT h3 (a := 3) rfl
  have a4 := lv_neT h4 (a := 4) rfl
  have a5 := lv_neT h5 (a := 5) rfl
  have a6 := lv_neT h6 (a := 6) rfl
  have a7 := lv_neT h7 (a := 7) rfl
  omega
theorem n18 {n : Int32} (h : ¬ n < 1) (h2 : ¬ 8 < n) : ∃ k : Nat, n = nI k ∧ k ≤ 8 := by
  have h0 : ¬ n < 0 := fun q => h (by
    rw [Int32.lt_iff_toInt_lt] at q ⊢
    have e0 : (0 : Int32).toInt = 0 := rfl
    have e1 : (1 : Int32).toInt = 1 := rfl
    omega)
  obtain ⟨j, hj, rfl⟩ := nI_of h0
  have a4 : ¬ nI 8 < nI j := h2
  rw [nI_ltI (by decide) hj] at a4
  exact ⟨j, rfl, by omega⟩
theorem pbyte_lt (b : Int64) (i : Nat) : pbyte b i < 256 := Nat.mod_lt _ (by decide)
theorem copen_lt {s : St} {Ln n : Nat} (h : copen s = true) (k1 : s.2.2.2.1 = nI Ln) (k2 : s.2.2.2.2.1 = nI n) (h1 : Ln < 2 ^ 31) (h2 : n < 2 ^ 31) : n < Ln := by
  have q := (of_decide_eq_true h).2
  rw [k1, k2, nI_leI h1 h2] at q
  omega
theorem ctkS_eq {c Ln n q : Nat} {s : St} (k1 : s.2.2.2.1 = nI Ln) (k2 : s.2.2.2.2.1 = nI n) (k3 : s.2.2.2.2.2.1 = nI q) (h1 : Ln < 2 ^ 31) (h2 : n < 2 ^ 31) (h3 : q < 2 ^ 31) : ctkS c s = ctk c Ln n q s := by
  unfold ctkS
  rw [k1, k2, k3, nI_clamp h1, nI_clamp h2, nI_clamp h3]
theorem cfdl_no {b : Int64} {N i : Nat} {s : St} (h : i < N) (ho : copen s = true) (h2 : (ctkS (pbyte b i) s).2 = false) : cfdl b (N - i) i s = ctkS (pbyte b i) s := by
  rw [show N - i = (N - (i + 1)) + 1 by omega, cfdl_1]
  rw [if_pos ho, if_neg (by rw [h2]; decide)]
theorem cfdl_yes {b : Int64} {N i : Nat} {s : St} (h : i < N) (ho : copen s = true) (h2 : (ctkS (pbyte b i) s).2 = true) : cfdl b (N - i) i s = cfdl b (N - (i + 1)) (i + 1) (ctkS (pbyte b i) s).1 := by
  rw [show N - i = (N - (i + 1)) + 1 by omega, cfdl_1]
  rw [if_pos ho, if_pos h2]
theorem cfdl_stop {b : Int64} {N i : Nat} {s : St} (h : i < N) (ho : copen s = false) : cfdl b (N - i) i s = (s, true) := by
  rw [show N - i = (N - (i + 1)) + 1 by omega, cfdl_1]
  rw [if_neg (by rw [ho]; decide)]
theorem cfeed_open {b : Int64} {n : Int32} {N i : Nat} {s u : St} (hno : cfdno n s = false) (hcn : n.toNatClampNeg = N) (hT : cfdl b (N - i) i u = cfdl b N 0 s) (hz : cfdl b (N - i) i u = (u, true)) (ho : copen u = true) : cfeed b n s = (u.2.2.2.2.1, u) := by
  unfold cfeed
  rw [hcn, ← hT, hz, if_neg (by rw [hno]; decide), if_neg (show ¬ (u, true).2 = false from fun q => by cases q), if_pos ho]
theorem cfeed_end {b : Int64} {n : Int32} {N i : Nat} {s u : St} (hno : cfdno n s = false) (hcn : n.toNatClampNeg = N) (hT : cfdl b (N - i) i u = cfdl b N 0 s) (hz : cfdl b (N - i) i u = (u, true)) (ho : copen u = false) : cfeed b n s = if (csealS u).2 = true then (-2, cgone (csealS u) u) else (u.2.2.2.2.1, ((csealS u).1, u.2)) := by
  unfold cfeed
  rw [hcn, ← hT, hz, if_neg (by rw [hno]; decide), if_neg (show ¬ (u, true).2 = false from fun q => by cases q), if_neg (show ¬ copen u = true by rw [ho]; decide)]
