/-! The state as mathematics, and what the operations do to it. Fl: bytes, cut, operations, writes. M: a Fl and 'the power went'. -/
abbrev Fl : Type := (Nat → Int32) × Int32 × Int32 × Int32
abbrev Mz : Type := Fl × Bool
/-- version, length, next, place, awaited, still fed -/
abbrev Pt : Type := Int32 × Int32 × Int32 × Int32 × Int32 × Int32
/-- the class: flash, (powered, running), patch -/
abbrev St : Type := Fl × (Bool × Int32) × Pt
/-- the reference: flash and went, (refusal, power, runs), patch -/
abbrev Ms : Type := Mz × (Int32 × Bool × Int32) × Pt
def CW (cA : ClassId) (aX aF aB aL aP : Nat) (s : St) : va_W :=
  [(aX, .inr (0, [.ref aF, .ref aL, .ref aP, .int (b2i s.2.1.1), .int s.2.1.2])),
   (aF, .inr (1, [.ref aB, .int s.1.2.1, .int s.1.2.2.1, .int s.1.2.2.2])),
   (aB, .inl (cA, 240, .inl s.1.1)),
   (aL, .inr (2, [.ref aF])),
   (aP, .inr (3, [.ref aF, .int s.2.2.1, .int s.2.2.2.1, .int s.2.2.2.2.1, .int s.2.2.2.2.2.1, .int s.2.2.2.2.2.2.1, .int s.2.2.2.2.2.2.2]))]
def MW (cA : ClassId) (aM aG : Nat) (s : Ms) : va_W :=
  [(aM, .inr (4, [.int s.2.1.1, .ref aG, .int (b2i s.2.1.2.1), .int s.2.1.2.2, .int s.1.1.2.1, .int (b2i s.1.2), .int s.1.1.2.2.1, .int s.1.1.2.2.2, .int s.2.2.2.2.1, .int s.2.2.2.1, .int s.2.2.1, .int s.2.2.2.2.2.1, .int s.2.2.2.2.2.2.1, .int s.2.2.2.2.2.2.2])),
   (aG, .inl (cA, 240, .inl s.1.1.1))]
def pmay (z : Mz) : Mz := if z.2 = true then z else if z.1.2.1 = 0 then ((z.1.1, -1, z.1.2.2.1, z.1.2.2.2), true) else ((z.1.1, (if 0 < z.1.2.1 then z.1.2.1 - 1 else z.1.2.1), z.1.2.2.1 + 1, z.1.2.2.2), false)
/-- 255 at n places from a on -/
def pfill (f : Nat → Int32) (a n : Nat) : Nat → Int32 := fun j => if a ≤ j ∧ j < a + n then 255 else f j
def perase (p : Nat) (z : Mz) : Mz := if (pmay z).2 = true then pmay z else ((pfill (pmay z).1.1 (p * 16) 16, (pmay z).1.2), false)
def pwrite (a : Nat) (v : Int32) (z : Mz) : Mz := if (pmay z).2 = true then pmay z else ((upd (pmay z).1.1 a ((pmay z).1.1 a &&& v), (pmay z).1.2.1, (pmay z).1.2.2.1, (pmay z).1.2.2.2 + 1), false)
def pmv1 (t f i : Nat) (z : Mz) : Mz := if z.1.1 (f * 16 + i) = 255 then z else pwrite (t * 16 + i) (z.1.1 (f * 16 + i)) z
def pmvl (t f : Nat) : Nat → Nat → Mz → Mz
  | 0, _, z => z
  | d + 1, i, z => pmvl t f d (i + 1) (pmv1 t f i z)
termination_by d _ _ => d
def pmove (t f : Nat) (z : Mz) : Mz := pmvl t f 16 0 (perase t z)
def pdone (f : Nat → Int32) (g k : Nat) : Bool := decide (f (g * 16 + (4 + k / 8)) &&& nI (2 ^ (k % 8)) = 0)
def pcnt (f : Nat → Int32) (g : Nat) : Nat → Nat → Nat → Nat
  | 0, _, n => n
  | d + 1, k, n => pcnt f g d (k + 1) (if pdone f g k = true then n + 1 else n)
termination_by d _ _ => d
def psrc (k : Nat) : Nat := if k % 3 = 0 then k / 3 else if k % 3 = 1 then 6 + k / 3 else 12
def ptgt (k : Nat) : Nat := if k % 3 = 0 then 12 else if k % 3 = 1 then k / 3 else 6 + k / 3
def pstep (g k : Nat) (z : Mz) : Mz := if pdone z.1.1 g k = true then z else pwrite (g * 16 + (4 + k / 8)) (nI (255 - 2 ^ (k % 8))) (pmove (ptgt k) (psrc k) z)
def pchl (g : Nat) : Nat → Nat → Mz → Mz
  | 0, _, z => z
  | d + 1, k, z => pchl g d (k + 1) (pstep g k z)
termination_by d _ _ => d
def pchange (g : Nat) (z : Mz) : Mz := pchl g 18 0 z
def psml (f : Nat → Int32) (a : Nat) : Nat → Nat → Int32 → Int32
  | 0, _, s => s
  | d + 1, i, s => psml f a d (i + 1) ((31 * s + f (a + i)) &&& 255)
termination_by d _ _ => d
def psum (f : Nat → Int32) (a : Nat) (v : Int32) (n : Nat) : Int32 := psml f a (n - 4) 4 ((31 * ((217 + v) &&& 255) + nI n) &&& 255)
def psize (v n : Int32) : Bool := decide (¬ v < 1 ∧ ¬ 250 < v ∧ ¬ n < 8 ∧ ¬ 96 < n)
def pimg (f : Nat → Int32) (a : Nat) : Int32 := if f a = 165 ∧ psize (f (a + 1)) (f (a + 2)) = true ∧ f (a + 3) = psum f a (f (a + 1)) (f (a + 2)).toNatClampNeg then f (a + 1) else 0
def pback (z : Mz) : Mz := perase 14 (perase 13 (pchange 14 z))
def ptry (z : Mz) : Mz := if pcnt z.1.1 13 18 0 0 = 0 ∧ pimg z.1.1 96 = 0 then perase 13 z else pwrite 209 0 (pchange 13 z)
def cfollow (z : Mz) : Mz := if z.1.1 224 = 15 then pback z else if ¬ z.1.1 208 = 15 then z else if ¬ z.1.1 209 = 0 then ptry z else if z.1.1 210 = 0 then perase 13 z else if z.1.1 211 = 0 then pback (pwrite 224 15 z) else z
def cmark (z : Mz) : Mz := if z.1.1 208 = 15 ∧ z.1.1 209 = 0 then pwrite 211 0 z else z
def pfacG (nx bt : Int32 → Int32) : (Nat → Int32) → Nat → Nat → Int32 → Nat → Int32
  | f, 0, _, _ => f
  | f, d + 1, i, s => pfacG nx bt (upd f i (bt (nx s))) d (i + 1) (nx s)
termination_by _ d _ _ => d
def pnx (s : Int32) : Int32 := s * 1103515245 + 12345
def pbt (s : Int32) : Int32 := (s.toUInt32 >>> ((16 : Int32).toUInt32 &&& Int32.toUInt32 31)).toInt32 &&& 255
def pfac (f : Nat → Int32) (d i : Nat) (s : Int32) : Nat → Int32 := pfacG pnx pbt f d i s
/-- the flash that the factory leaves -/
def pfactory (v : Int32) (n : Nat) (sd : Int32) : Nat → Int32 := upd (upd (upd (upd (pfac (fun _ => 255) (n - 4) 4 sd) 3 (psum (pfac (fun _ => 255) (n - 4) 4 sd) 0 v n)) 2 (nI n)) 1 v) 0 165
theorem pmvl_0 {t f i : Nat} {z : Mz} : pmvl t f 0 i z = z := by rw [pmvl]
theorem pmvl_1 {t f d i : Nat} {z : Mz} : pmvl t f (d + 1) i z = pmvl t f d (i + 1) (pmv1 t f i z) := by rw [pmvl]
theorem pcnt_0 {f : Nat → Int32} {g k n : Nat} : pcnt f g 0 k n = n := by rw [pcnt]
theorem pcnt_1 {f : Nat → Int32} {g d k n : Nat} : pcnt f g (d + 1) k n = pcnt f g d (k + 1) (if pdone f g k = true then n + 1 else n) := by rw [pcnt]
theorem pchl_0 {g k : Nat} {z : Mz} : pchl g 0 k z = z := by rw [pchl]
theorem pchl_1 {g d k : Nat} {z : Mz} : pchl g (d + 1) k z = pchl g d (k + 1) (pstep g k z) := by rw [pchl]
theorem psml_0 {f : Nat → Int32} {a i : Nat} {s : Int32} : psml f a 0 i s = s := by rw [psml]
theorem psml_1 {f : Nat → Int32} {a d i : Nat} {s : Int32} : psml f a (d + 1) i s = psml f a d (i + 1) ((31 * s + f (a + i)) &&& 255) := by rw [psml]
theorem pmay_went {z : Mz} (h : z.2 = true) : pmay z = z := by unfold pmay; rw [if_pos h]
theorem perase_went {z : Mz} {p : Nat} (h : z.2 = true) : perase p z = z := by unfold perase; rw [pmay_went h, if_pos h]
theorem pwrite_went {z : Mz} {a : Nat} {v : Int32} (h : z.2 = true) : pwrite a v z = z := by unfold pwrite; rw [pmay_went h, if_pos h]
theorem pmv1_went {z : Mz} {t f i : Nat} (h : z.2 = true) : pmv1 t f i z = z := by
  unfold pmv1
  by_cases q : z.1.1 (f * 16 + i) = 255
  · rw [if_pos q]
  · rw [if_neg q, pwrite_went h]
theorem pmvl_went {z : Mz} {t f : Nat} (h : z.2 = true) : ∀ d i, pmvl t f d i z = z := by
  intro d
  induction d with
  | zero => intro i; exact pmvl_0
  | succ d ih =>
    intro i
    rw [pmvl_1, pmv1_went h, ih]
theorem pmove_went {z : Mz} {t f : Nat} (h : z.2 = true) : pmove t f z = z := by
  unfold pmove
  rw [perase_went h, pmvl_went h]
theorem pstep_went {z : Mz} {g k : Nat} (h : z.2 = true) : pstep g k z = z := by
  unfold pstep
  by_cases q : pdone z.1.1 g k = true
  · rw [if_pos q]
  · rw [if_neg q, pmove_went h, pwrite_went h]
theorem pchl_went {z : Mz} {g : Nat} (h : z.2 = true) : ∀ d k, pchl g d k z = z := by
  intro d
  induction d with
  | zero => intro k; exact pchl_0
  | succ d ih =>
    intro k
    rw [pchl_1, pstep_went h, ih]
theorem pchange_went {z : Mz} {g : Nat} (h : z.2 = true) : pchange g z = z := pchl_went h _ _
theorem pback_went {z : Mz} (h : z.2 = true) : pback z = z := by unfold pback; rw [pchange_went h, perase_went h, perase_went h]
theorem pmvl_s {t f i : Nat} {z : Mz} (h : i < 16) : pmvl t f (16 - i) i z = pmvl t f (16 - (i + 1)) (i + 1) (pmv1 t f i z) := by
  rw [show 16 - i = (16 - (i + 1)) + 1 by omega, pmvl_1]
theorem pchl_s {g k : Nat} {z : Mz} (h : k < 18) : pchl g (18 - k) k z = pchl g (18 - (k + 1)) (k + 1) (pstep g k z) := by
  rw [show 18 - k = (18 - (k + 1)) + 1 by omega, pchl_1]
theorem pcnt_s {f : Nat → Int32} {g k n : Nat} (h : k < 18) : pcnt f g (18 - k) k n = pcnt f g (18 - (k + 1)) (k + 1) (if pdone f g k = true then n + 1 else n) := by
  rw [show 18 - k = (18 - (k + 1)) + 1 by omega, pcnt_1]
theorem psml_s {f : Nat → Int32} {a i n : Nat} {s : Int32} (h : i < n) : psml f a (n - i) i s = psml f a (n - (i + 1)) (i + 1) ((31 * s + f (a + i)) &&& 255) := by
  rw [show n - i = (n - (i + 1)) + 1 by omega, psml_1]
theorem pfacG_s {nx bt : Int32 → Int32} {f : Nat → Int32} {i n : Nat} {s : Int32} (h : i < n) : pfacG nx bt f (n - i) i s = pfacG nx bt (upd f i (bt (nx s))) (n - (i + 1)) (i + 1) (nx s) := by
  rw [show n - i = (n - (i + 1)) + 1 by omega, pfacG]
theorem pfac_s {f : Nat → Int32} {i n : Nat} {s : Int32} (h : i < n) : pfac f (n - i) i s = pfac (upd f i (pbt (pnx s))) (n - (i + 1)) (i + 1) (pnx s) := pfacG_s h
theorem pfacG_0 {nx bt : Int32 → Int32} {f : Nat → Int32} {i : Nat} {s : Int32} : pfacG nx bt f 0 i s = f := by rw [pfacG]
theorem pfac_0 {f : Nat → Int32} {i : Nat} {s : Int32} : pfac f 0 i s = f := pfacG_0
theorem pfill_0 (f : Nat → Int32) (a : Nat) : pfill f a 0 = f := by
  funext j
  unfold pfill
  rw [if_neg (by omega)]
theorem pfill_s (f : Nat → Int32) (a i : Nat) : upd (pfill f a i) (a + i) 255 = pfill f a (i + 1) := by
  funext j
  unfold upd pfill
  by_cases h : j = a + i
  · rw [if_pos h, if_pos (by omega)]
  · rw [if_neg h]
    by_cases h2 : a ≤ j ∧ j < a + i
    · rw [if_pos h2, if_pos (by omega)]
    · rw [if_neg h2, if_neg (by omega)]
theorem pcnt_le (f : Nat → Int32) (g : Nat) : ∀ d k n, pcnt f g d k n ≤ n + d := by
  intro d
  induction d with
  | zero => intro k n; rw [pcnt_0]; exact Nat.le_refl _
  | succ d ih =>
    intro k n
    rw [pcnt_1]
    by_cases h : pdone f g k = true
    · rw [if_pos h]; have := ih (k + 1) (n + 1); omega
    · rw [if_neg h]; have := ih (k + 1) n; omega
theorem ptgt_lt {k : Nat} (h : k < 18) : ptgt k < 15 := by
  unfold ptgt
  split
  · omega
  · split <;> omega
theorem psrc_lt {k : Nat} (h : k < 18) : psrc k < 15 := by
  unfold psrc
  split
  · omega
  · split <;> omega
theorem pbit_shl : ∀ k, k < 18 → (1 : Int32) <<< (nI (k % 8) &&& 31) = nI (2 ^ (k % 8)) := by decide +kernel
theorem pbit_xor : ∀ k, k < 18 → (255 : Int32) ^^^ nI (2 ^ (k % 8)) = nI (255 - 2 ^ (k % 8)) := by decide +kernel
theorem pbit_sub : ∀ k, k < 18 → (255 : Int32) - nI (2 ^ (k % 8)) = nI (255 - 2 ^ (k % 8)) := by decide +kernel
theorem i32_nlt {x y : Int32} (h : x ≤ y) : ¬ y < x := by
  rw [Int32.lt_iff_toInt_lt]; rw [Int32.le_iff_toInt_le] at h; omega
theorem i32_lt {x y : Int32} (h : ¬ x ≤ y) : y < x := by
  rw [Int32.lt_iff_toInt_lt]; rw [Int32.le_iff_toInt_le] at h; omega
theorem mz_ok {z : Mz} (h : (!z.2) = true) : z.2 = false := by
  cases e : z.2 with
  | false => rfl
  | true => rw [e] at h; cases h
theorem mz_no {z : Mz} (h : (!z.2) = false) : z.2 = true := by
  cases e : z.2 with
  | true => rfl
  | false => rw [e] at h; cases h
theorem mz_eq {z : Mz} (h : z.2 = false) : (z.1, false) = z := by rw [← h]
theorem b2i_t {q : Prop} [Decidable q] (h : q) : (1 : Int32) = b2i (decide q) := by rw [decide_eq_true h]; rfl
theorem b2i_f {q : Prop} [Decidable q] (h : ¬ q) : (0 : Int32) = b2i (decide q) := by rw [decide_eq_false h]; rfl
theorem pmv1_skip {t f i : Nat} {u : Fl} {b : Bool} (h : u.1 (f * 16 + i) = 255) : pmv1 t f i (u, b) = (u, b) := if_pos h
theorem pmv1_go {t f i : Nat} {u : Fl} {b : Bool} (h : ¬ u.1 (f * 16 + i) = 255) : pmv1 t f i (u, b) = pwrite (t * 16 + i) (u.1 (f * 16 + i)) (u, b) := if_neg h
theorem pstep_skip {g k : Nat} {u : Fl} {b : Bool} (h : pdone u.1 g k = true) : pstep g k (u, b) = (u, b) := if_pos h
theorem pstep_go {g k : Nat} {u : Fl} {b : Bool} (h : pdone u.1 g k = false) : pstep g k (u, b) = pwrite (g * 16 + (4 + k / 8)) (nI (255 - 2 ^ (k % 8))) (pmove (ptgt k) (psrc k) (u, b)) := if_neg (show ¬ pdone u.1 g k = true by rw [h]; decide)
theorem psize_n {v n : Int32} (h : psize v n = true) : ∃ k : Nat, n = nI k ∧ 8 ≤ k ∧ k ≤ 96 := by
  have h := of_decide_eq_true h
  obtain ⟨-, -, h3, h4⟩ := h
  have h0 : ¬ n < 0 := fun q => h3 (by
    rw [Int32.lt_iff_toInt_lt] at q ⊢
    have e0 : (0 : Int32).toInt = 0 := rfl
    have e8 : (8 : Int32).toInt = 8 := rfl
    omega)
  obtain ⟨j, hj, rfl⟩ := nI_of h0
  have a3 : ¬ nI j < nI 8 := h3
  have a4 : ¬ nI 96 < nI j := h4
  rw [nI_ltI hj (by decide)] at a3
  rw [nI_ltI (by decide) hj] at a4
  exact ⟨j, rfl, by omega, by omega⟩
theorem pimg_yes {f : Nat → Int32} {a : Nat} (h1 : f a = 165) (h2 : psize (f (a + 1)) (f (a + 2)) = true) (h3 : f (a + 3) = psum f a (f (a + 1)) (f (a + 2)).toNatClampNeg) : pimg f a = f (a + 1) := if_pos ⟨h1, h2, h3⟩
theorem pimg_no {f : Nat → Int32} {a : Nat} (h : ¬ (f a = 165 ∧ psize (f (a + 1)) (f (a + 2)) = true ∧ f (a + 3) = psum f a (f (a + 1)) (f (a + 2)).toNatClampNeg)) : pimg f a = 0 := if_neg h
def cbusy (f : Nat → Int32) : Bool := decide (f 208 = 15 ∨ f 224 = 15)
theorem cbusy_t {f : Nat → Int32} (h : f 208 = 15 ∨ f 224 = 15) : cbusy f = true := decide_eq_true h
theorem cbusy_f {f : Nat → Int32} (h : ¬ f 208 = 15) (h2 : ¬ f 224 = 15) : cbusy f = false := decide_eq_false (fun q => q.elim h h2)
def cawait (f : Nat → Int32) : Bool := decide (f 209 = 0 ∧ ¬ f 210 = 0)
theorem cawait_t {f : Nat → Int32} (h : f 209 = 0) (h2 : ¬ f 210 = 0) : cawait f = true := decide_eq_true ⟨h, h2⟩
theorem cawait_f {f : Nat → Int32} (h : ¬ (f 209 = 0 ∧ ¬ f 210 = 0)) : cawait f = false := decide_eq_false h
