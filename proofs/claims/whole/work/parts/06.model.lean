/-! The reference's calls as mathematics. -/
def pver (v : Int32) : Bool := decide (¬ v < 1 ∧ ¬ 250 < v)
def plen (n : Int32) : Bool := decide (¬ n < 8 ∧ ¬ 96 < n)
def masks (f : Nat → Int32) (a : Nat) : Bool := decide (¬ f a = 255)
def mset (f : Nat → Int32) (k : Nat) : Bool := decide (¬ f 208 = 255 ∧ f (208 + k) = 0)
def mlose (s : Ms) : Ms := (s.1, (s.2.1.1, false, 0), s.2.2.1, s.2.2.2.1, 0, 0, s.2.2.2.2.2.2.1, s.2.2.2.2.2.2.2)
def mans (v : Int32) (s : Ms) : Int32 × Ms := if s.1.2 = true then (-2, mlose s) else (v, s)
/-- refusal set to 0 -/
def mr0 (s : Ms) : Ms := (s.1, (0, s.2.1.2.1, s.2.1.2.2), s.2.2)
def mw0 (s : Ms) : Ms := ((s.1.1, false), s.2)
def msettle (z : Mz) : Mz := if masks z.1.1 224 = true then pback z else if masks z.1.1 208 = true ∧ mset z.1.1 1 = false then ptry z else if mset z.1.1 1 = true ∧ mset z.1.1 2 = true then perase 13 z else if mset z.1.1 1 = true ∧ mset z.1.1 3 = true then pback (pwrite 224 15 z) else z
def mmark (z : Mz) : Mz := if z.2 = false ∧ mset z.1.1 1 = true then pwrite 211 0 z else z
def mboot (s : Ms) : Int32 × Ms := mans (if (mmark (msettle (s.1.1, false))).2 = true then 0 else pimg (mmark (msettle (s.1.1, false))).1.1 0) (mmark (msettle (s.1.1, false)), (0, true, if (mmark (msettle (s.1.1, false))).2 = true then 0 else pimg (mmark (msettle (s.1.1, false))).1.1 0), s.2.2.1, s.2.2.2.1, 0, 0, s.2.2.2.2.2.2.1, s.2.2.2.2.2.2.2)
def mfacim (f : Nat → Int32) (v : Int32) (n : Nat) (sd : Int32) : Nat → Int32 := upd (upd (upd (upd (pfac f (n - 4) 4 sd) 0 165) 1 v) 2 (nI n)) 3 (psum (upd (upd (upd (pfac f (n - 4) 4 sd) 0 165) 1 v) 2 (nI n)) 0 v n)
def mfac (v n sd : Int32) (s : Ms) : Ms := if psize v n = true then (((mfacim (pfill s.1.1.1 0 240) v n.toNatClampNeg sd, -1, s.1.1.2.2.1, s.1.1.2.2.2), s.1.2), (0, false, 0), s.2.2.1, s.2.2.2.1, 0, 0, s.2.2.2.2.2.2.1, s.2.2.2.2.2.2.2) else mr0 s
def mcut (k : Int32) (s : Ms) : Ms := if ccutok k = true then (((s.1.1.1, k, s.1.1.2.2.1, s.1.1.2.2.2), s.1.2), (0, s.2.1.2.1, s.2.1.2.2), s.2.2) else mr0 s
def mbegno (v n : Int32) (s : Ms) : Bool := decide (s.2.1.2.2 = 0 ∨ pver v = false ∨ plen n = false ∨ masks s.1.1.1 208 = true ∨ masks s.1.1.1 224 = true)
def mbegin (v n : Int32) (s : Ms) : Int32 × Ms := if mbegno v n s = true then (-1, mr0 s) else mans 4 (perl 6 0 (s.1.1, false), (0, s.2.1.2.1, s.2.1.2.2), v, n, 4, 4, 0, s.2.2.2.2.2.2.2)
def mmb (s : Ms) : Int32 := cmb s.1.1.1 s.2.2.2.2.2.1.toNatClampNeg
def mmake (n Ln : Nat) (v : Int32) (s : Ms) : Ms := if n = Ln ∨ s.1.2 = true then s else if n + 1 < Ln then (pwrite (96 + n) (v &&& 255) s.1, s.2.1, s.2.2.1, s.2.2.2.1, s.2.2.2.2.1 + 1, s.2.2.2.2.2.1, s.2.2.2.2.2.2.1, s.2.2.2.2.2.2.2) else (pseal s.2.2.1 Ln (pwrite (96 + n) (v &&& 255) s.1), s.2.1, s.2.2.1, s.2.2.2.1, s.2.2.2.2.1 + 1, s.2.2.2.2.2.1, s.2.2.2.2.2.2.1, s.2.2.2.2.2.2.2)
def mcopy : Nat → Nat → Nat → Nat → Ms → Ms
  | 0, _, _, _, s => s
  | d + 1, n, q, Ln, s => if n < Ln ∧ s.1.2 = false then mcopy d (n + 1) (q + 1) Ln (mmake n Ln (cmb s.1.1.1 q) (s.1, s.2.1, s.2.2.1, s.2.2.2.1, s.2.2.2.2.1, s.2.2.2.2.2.1 + 1, s.2.2.2.2.2.2.1, s.2.2.2.2.2.2.2)) else s
termination_by d _ _ _ _ => d
def mmore (c Ln n : Nat) : Nat := if Ln - n ≤ c % 64 + 1 then Ln - n else c % 64 + 1
def mcmd (c n q Ln : Nat) (s : Ms) : Ms := if c < 64 then mcopy (c % 64 + 1) n q Ln (s.1, s.2.1, s.2.2.1, s.2.2.2.1, s.2.2.2.2.1, s.2.2.2.2.2.1, s.2.2.2.2.2.2.1, nI (mmore c Ln n)) else (s.1, s.2.1, s.2.2.1, s.2.2.2.1, s.2.2.2.2.1, s.2.2.2.2.2.1, nI (c / 64), nI (mmore c Ln n))
/-- more and mode behind a fed byte -/
def mcnt (s : Ms) : Ms := (s.1, s.2.1, s.2.2.1, s.2.2.2.1, s.2.2.2.2.1, s.2.2.2.2.2.1, (if s.2.2.2.2.2.2.2 - 1 = 0 then 0 else s.2.2.2.2.2.2.1), s.2.2.2.2.2.2.2 - 1)
def mplc (s : Ms) : Ms := (s.1, s.2.1, s.2.2.1, s.2.2.2.1, s.2.2.2.2.1, s.2.2.2.2.2.1 + 1, s.2.2.2.2.2.2.1, s.2.2.2.2.2.2.2)
def mtk (c n q Ln : Nat) (s : Ms) : Ms := if s.2.2.2.2.2.2.1 = 0 then mcmd c n q Ln s else if s.2.2.2.2.2.2.1 = 1 then (s.1, s.2.1, s.2.2.1, s.2.2.2.1, s.2.2.2.2.1, nI c, 0, s.2.2.2.2.2.2.2) else if s.2.2.2.2.2.2.1 = 2 then mmake n Ln (nI c) (mcnt s) else if s.2.2.2.2.2.2.1 = 3 then mmake n Ln (nI c + cmb s.1.1.1 q) (mcnt (mplc s)) else mmake n Ln (nI c + cmb s.1.1.1 q) (mcnt s)
theorem mcopy_0 {n q Ln : Nat} {s : Ms} : mcopy 0 n q Ln s = s := by rw [mcopy]
theorem mcopy_1 {d n q Ln : Nat} {s : Ms} : mcopy (d + 1) n q Ln s = if n < Ln ∧ s.1.2 = false then mcopy d (n + 1) (q + 1) Ln (mmake n Ln (cmb s.1.1.1 q) (mplc s)) else s := by rw [mcopy]; rfl
theorem i32_sub0 (x : Int32) : x - 0 = x := by
  apply Int32.toBitVec_inj.mp
  simp
theorem psize_and {v n : Int32} : psize v n = true ↔ pver v = true ∧ plen n = true := by
  unfold psize pver plen
  rw [decide_eq_true_iff, decide_eq_true_iff, decide_eq_true_iff]
  exact ⟨fun h => ⟨⟨h.1, h.2.1⟩, h.2.2.1, h.2.2.2⟩, fun h => ⟨h.1.1, h.1.2, h.2.1, h.2.2⟩⟩
theorem plen_n {n : Int32} (h : plen n = true) : ∃ k : Nat, n = nI k ∧ 8 ≤ k ∧ k ≤ 96 := psize_n (v := 1) (psize_and.mpr ⟨by decide, h⟩)
theorem and255_toNat (x : Int32) : (x &&& 255).toBitVec.toNat = x.toBitVec.toNat % 256 := by
  rw [pk_and x 8 rfl, pk_tn (by omega)]
theorem psum_i (v w : Int32) : (31 * (217 + v) + w) &&& 255 = (31 * ((217 + v) &&& 255) + w) &&& 255 := by
  apply Int32.toBitVec_inj.mp
  apply BitVec.eq_of_toNat_eq
  rw [and255_toNat, and255_toNat, Int32.toBitVec_add, Int32.toBitVec_add, Int32.toBitVec_mul, Int32.toBitVec_mul, BitVec.toNat_add, BitVec.toNat_add, BitVec.toNat_mul, BitVec.toNat_mul, and255_toNat]
  have e : (31 : Int32).toBitVec.toNat = 31 := rfl
  rw [e]
  omega
theorem psum_m (f : Nat → Int32) (a : Nat) (v : Int32) (n : Nat) : psml f a (n - 4) 4 ((31 * (217 + v) + nI n) &&& 255) = psum f a v n := by
  unfold psum
  rw [psum_i]
theorem pbit_iff (x : Int32) (k : Nat) (_ : k < 18) : ((x >>> (nI (k % 8) &&& 31)) &&& 1) = 0 ↔ x &&& nI (2 ^ (k % 8)) = 0 := by
  obtain ⟨j, hj, rfl⟩ : ∃ j, j < 8 ∧ k % 8 = j := ⟨_, Nat.mod_lt _ (by decide), rfl⟩
  generalize k % 8 = j at hj ⊢
  have hs : ((nI j &&& 31).toBitVec.smod 32).toNat = j := by
    have : ∀ n, n < 8 → ((nI n &&& 31).toBitVec.smod 32).toNat = n := by decide +kernel
    exact this j hj
  have hp : (nI (2 ^ j)).toBitVec = BitVec.twoPow 32 j := by
    have : ∀ n, n < 8 → (nI (2 ^ n)).toBitVec = BitVec.twoPow 32 n := by decide +kernel
    exact this j hj
  have e1 : (((x >>> (nI j &&& 31)) &&& 1) = 0) ↔ x.toBitVec.getLsbD j = false := by
    rw [← Int32.toBitVec_inj, Int32.toBitVec_and, show (x >>> (nI j &&& 31)).toBitVec = x.toBitVec.sshiftRight j from (Int32.toBitVec_shiftRight _ _).trans (congrArg x.toBitVec.sshiftRight hs)]
    constructor
    · intro h
      have h0 := congrArg (fun z : BitVec 32 => z.getLsbD 0) h
      simp only [BitVec.getLsbD_and, BitVec.getLsbD_sshiftRight] at h0
      rw [if_pos (show j + 0 < 32 by omega)] at h0
      simpa using h0
    · intro h
      apply BitVec.eq_of_getLsbD_eq
      intro i hi
      by_cases h0 : i = 0
      · subst h0
        simp only [BitVec.getLsbD_and, BitVec.getLsbD_sshiftRight]
        rw [if_pos (show j + 0 < 32 by omega), Nat.add_zero, h]
        simp
      · simp [h0]
  have e2 : (x &&& nI (2 ^ j) = 0) ↔ x.toBitVec.getLsbD j = false := by
    rw [← Int32.toBitVec_inj, Int32.toBitVec_and, hp]
    constructor
    · intro h
      have h0 := congrArg (fun z : BitVec 32 => z.getLsbD j) h
      simpa [show j < 32 by omega] using h0
    · intro h
      apply BitVec.eq_of_getLsbD_eq
      intro i hi
      by_cases h0 : i = j
      · subst h0
        simp [h]
      · simp [BitVec.getLsbD_twoPow, Ne.symm h0]
  rw [e1, e2]
def msafe (s : Ms) : Ms := (((s.1.1.1, -1, s.1.1.2.2.1, s.1.1.2.2.2), s.1.2), (0, s.2.1.2.1, s.2.1.2.2), s.2.2)
def mreq (s : Ms) : Int32 × Ms := if s.2.1.2.2 = 0 ∨ masks s.1.1.1 208 = true ∨ masks s.1.1.1 224 = true then (-1, mr0 s) else if pimg s.1.1.1 96 = 0 then (0, mr0 s) else mans 1 (pwrite 208 15 (s.1.1, false), (0, s.2.1.2.1, s.2.1.2.2), s.2.2)
def mcon (s : Ms) : Int32 × Ms := if s.2.1.2.2 = 0 ∨ mset s.1.1.1 1 = false ∨ mset s.1.1.1 2 = true then (-1, mr0 s) else mans 1 (pwrite 210 0 (s.1.1, false), (0, s.2.1.2.1, s.2.1.2.2), s.2.2)
def mver (w : Int32) (f : Nat → Int32) : Int32 := if w = 0 then pimg f 0 else if w = 1 then pimg f 96 else -1
def mstate (w : Int32) (s : Ms) : Int32 := if w = 0 then b2i s.2.1.2.1 else if w = 1 then s.2.1.2.2 else if w = 2 then s.2.2.2.2.1 else if w = 3 then s.2.2.2.2.2.1 else if w = 4 then nI (pcnt s.1.1.1 13 18 0 0) else if w = 5 then nI (pcnt s.1.1.1 14 18 0 0) else if w = 6 then s.1.1.2.2.1 else if w = 7 then s.1.1.2.2.2 else -1
def mbyte (a : Int32) (s : Ms) : Int32 × Ms := if ¬ a < 0 ∧ ¬ 240 ≤ a then (s.1.1.1 a.toNatClampNeg, mr0 s) else (0, (s.1, (1, s.2.1.2.1, s.2.1.2.2), s.2.2))
theorem n240 {a : Int32} (h : ¬ a < 0) (h2 : ¬ 240 ≤ a) : ∃ k : Nat, a = nI k ∧ k < 240 := by
  obtain ⟨j, hj, rfl⟩ := nI_of h
  have a2 : ¬ nI 240 ≤ nI j := h2
  rw [nI_leI (by decide) hj] at a2
  exact ⟨j, rfl, by omega⟩
theorem i32_add0 (x : Int32) : x + 0 = x := by
  apply Int32.toBitVec_inj.mp
  simp
theorem mcnt_z {s : Ms} (h : s.2.2.2.2.2.2.2 - 1 = 0) : mcnt s = (s.1, s.2.1, s.2.2.1, s.2.2.2.1, s.2.2.2.2.1, s.2.2.2.2.2.1, 0, s.2.2.2.2.2.2.2 - 1) := by
  unfold mcnt; rw [if_pos h]
theorem mcnt_nz {s : Ms} (h : ¬ s.2.2.2.2.2.2.2 - 1 = 0) : mcnt s = (s.1, s.2.1, s.2.2.1, s.2.2.2.1, s.2.2.2.2.1, s.2.2.2.2.2.1, s.2.2.2.2.2.2.1, s.2.2.2.2.2.2.2 - 1) := by
  unfold mcnt; rw [if_neg h]
theorem mcopy_stop {d n q Ln : Nat} {s : Ms} (h : ¬ (n < Ln ∧ s.1.2 = false)) : mcopy d n q Ln s = s := by
  cases d with
  | zero => exact mcopy_0
  | succ d => rw [mcopy_1, if_neg h]
theorem mcopy_go {k i n q Ln : Nat} {s : Ms} (h : i < k) (h1 : n < Ln) (h2 : s.1.2 = false) : mcopy (k - i) n q Ln s = mcopy (k - (i + 1)) (n + 1) (q + 1) Ln (mmake n Ln (cmb s.1.1.1 q) (mplc s)) := by
  rw [show k - i = (k - (i + 1)) + 1 by omega, mcopy_1, if_pos ⟨h1, h2⟩]
theorem mmake_nxt {n Ln : Nat} {v : Int32} {s : Ms} (h1 : n < Ln) (h2 : s.1.2 = false) : (mmake n Ln v s).2.2.2.2.1 = s.2.2.2.2.1 + 1 := by
  unfold mmake
  rw [if_neg (fun q => q.elim (by omega) (fun q => by rw [h2] at q; cases q))]
  split <;> rfl
theorem mmake_plc {n Ln : Nat} {v : Int32} {s : Ms} : (mmake n Ln v s).2.2.2.2.2.1 = s.2.2.2.2.2.1 := by
  unfold mmake
  split
  · rfl
  · split <;> rfl
theorem mmake_len {n Ln : Nat} {v : Int32} {s : Ms} : (mmake n Ln v s).2.2.2.1 = s.2.2.2.1 := by
  unfold mmake
  split
  · rfl
  · split <;> rfl
