/-! The class's mathematics and the reference's: related states answer alike and stay related. -/
def InvF (f : Nat → Int32) : Prop := (∀ i, i < 240 → ∃ k : Nat, k < 256 ∧ f i = nI k) ∧ (f 208 = 15 ∨ f 208 = 255) ∧ (f 224 = 15 ∨ f 224 = 255) ∧ (f 209 = 0 → f 208 = 15)
theorem and_self255 {k : Nat} (h : k < 256) : nI k &&& 255 = nI k := by
  rw [pk_andN (by omega) 8 rfl]
  exact niE (Nat.mod_eq_of_lt h)
theorem byte_and {x : Int32} (h : ∃ k : Nat, k < 256 ∧ x = nI k) (v : Int32) : ∃ k : Nat, k < 256 ∧ x &&& v = nI k := by
  obtain ⟨k, hk, rfl⟩ := h
  obtain ⟨j, hj, e⟩ := pk_andE (nI k &&& v) (m := 255) 8 rfl
  refine ⟨j, hj, ?_⟩
  rw [← e, Int32.and_assoc, Int32.and_comm v 255, ← Int32.and_assoc, and_self255 hk]
theorem byte_mask {x : Int32} (h : ∃ k : Nat, k < 256 ∧ x = nI k) (v : Int32) : x &&& (v &&& 255) = x &&& v := by
  obtain ⟨k, hk, rfl⟩ := h
  rw [Int32.and_comm v 255, ← Int32.and_assoc, and_self255 hk]
theorem inv_fill {f : Nat → Int32} {p : Nat} (h : InvF f) (hp : p < 15) : InvF (pfill f (p * 16) 16) := by
  refine ⟨fun i hi => ?_, ?_, ?_, ?_⟩
  · unfold pfill
    split
    · exact ⟨255, by decide, rfl⟩
    · exact h.1 i hi
  · unfold pfill
    split
    · exact Or.inr rfl
    · exact h.2.1
  · unfold pfill
    split
    · exact Or.inr rfl
    · exact h.2.2.1
  · unfold pfill
    by_cases c : p * 16 ≤ 209 ∧ 209 < p * 16 + 16
    · rw [if_pos c]
      intro q
      exact absurd q (by decide)
    · rw [if_neg c, if_neg (by omega)]
      exact h.2.2.2
theorem inv_fillall {f : Nat → Int32} : InvF (pfill f 0 240) := by
  have e : ∀ i, i < 240 → pfill f 0 240 i = 255 := fun i hi => by
    unfold pfill
    rw [if_pos (by omega)]
  exact ⟨fun i hi => ⟨255, by decide, e i hi⟩, Or.inr (e 208 (by omega)), Or.inr (e 224 (by omega)), fun q => absurd ((e 209 (by omega)).symm.trans q) (by decide)⟩
theorem upd_eq {f : Nat → Int32} {a : Nat} {x : Int32} : upd f a x a = x := if_pos rfl
theorem upd_ne {f : Nat → Int32} {a i : Nat} {x : Int32} (h : i ≠ a) : upd f a x i = f i := if_neg h
theorem inv_upd {f : Nat → Int32} {a : Nat} {x : Int32} (h : InvF f) (hx : ∃ k : Nat, k < 256 ∧ x = nI k) (h1 : a ≠ 208) (h2 : a ≠ 209) (h3 : a ≠ 224) : InvF (upd f a x) := by
  refine ⟨fun i hi => ?_, ?_, ?_, ?_⟩
  · by_cases c : i = a
    · rw [c, upd_eq]; exact hx
    · rw [upd_ne c]; exact h.1 i hi
  · rw [upd_ne (Ne.symm h1)]; exact h.2.1
  · rw [upd_ne (Ne.symm h3)]; exact h.2.2.1
  · rw [upd_ne (Ne.symm h1), upd_ne (Ne.symm h2)]; exact h.2.2.2
theorem inv_write {f : Nat → Int32} {a : Nat} {v : Int32} (h : InvF f) (ha : a < 240) (h1 : a ≠ 208) (h2 : a ≠ 209) (h3 : a ≠ 224) : InvF (upd f a (f a &&& v)) := inv_upd h (byte_and (h.1 a ha) v) h1 h2 h3
theorem inv_208 {f : Nat → Int32} (h : InvF f) : InvF (upd f 208 (f 208 &&& 15)) := by
  have e : f 208 &&& 15 = 15 := by rcases h.2.1 with q | q <;> rw [q] <;> decide
  refine ⟨fun i hi => ?_, ?_, ?_, ?_⟩
  · by_cases c : i = 208
    · rw [c, upd_eq]; exact byte_and (h.1 208 (by omega)) 15
    · rw [upd_ne c]; exact h.1 i hi
  · rw [upd_eq, e]; exact Or.inl rfl
  · rw [upd_ne (by decide)]; exact h.2.2.1
  · intro _; rw [upd_eq, e]
theorem inv_224 {f : Nat → Int32} (h : InvF f) : InvF (upd f 224 (f 224 &&& 15)) := by
  have e : f 224 &&& 15 = 15 := by rcases h.2.2.1 with q | q <;> rw [q] <;> decide
  refine ⟨fun i hi => ?_, ?_, ?_, ?_⟩
  · by_cases c : i = 224
    · rw [c, upd_eq]; exact byte_and (h.1 224 (by omega)) 15
    · rw [upd_ne c]; exact h.1 i hi
  · rw [upd_ne (by decide)]; exact h.2.1
  · rw [upd_eq, e]; exact Or.inl rfl
  · rw [upd_ne (by decide), upd_ne (by decide)]; exact h.2.2.2
theorem inv_209 {f : Nat → Int32} (h : InvF f) (h8 : f 208 = 15) : InvF (upd f 209 (f 209 &&& 0)) := by
  refine ⟨fun i hi => ?_, ?_, ?_, ?_⟩
  · by_cases c : i = 209
    · rw [c, upd_eq]; exact byte_and (h.1 209 (by omega)) 0
    · rw [upd_ne c]; exact h.1 i hi
  · rw [upd_ne (by decide)]; exact h.2.1
  · rw [upd_ne (by decide)]; exact h.2.2.1
  · intro _; rw [upd_ne (by decide)]; exact h8
theorem pmay_f (z : Mz) : (pmay z).1.1 = z.1.1 := by
  unfold pmay
  split
  · rfl
  · split <;> rfl
theorem perase_f (p : Nat) (z : Mz) : (perase p z).1.1 = z.1.1 ∨ (perase p z).1.1 = pfill z.1.1 (p * 16) 16 := by
  unfold perase
  split
  · exact Or.inl (pmay_f z)
  · refine Or.inr ?_
    show pfill (pmay z).1.1 (p * 16) 16 = _
    rw [pmay_f]
theorem pwrite_f (a : Nat) (v : Int32) (z : Mz) : (pwrite a v z).1.1 = z.1.1 ∨ (pwrite a v z).1.1 = upd z.1.1 a (z.1.1 a &&& v) := by
  unfold pwrite
  split
  · exact Or.inl (pmay_f z)
  · refine Or.inr ?_
    show upd (pmay z).1.1 a ((pmay z).1.1 a &&& v) = _
    rw [pmay_f]
theorem ie_erase {p : Nat} {z : Mz} (h : InvF z.1.1) (hp : p < 15) : InvF (perase p z).1.1 := by
  rcases perase_f p z with e | e <;> rw [e]
  · exact h
  · exact inv_fill h hp
theorem ie_write {a : Nat} {v : Int32} {z : Mz} (h : InvF z.1.1) (ha : a < 240) (h1 : a ≠ 208) (h2 : a ≠ 209) (h3 : a ≠ 224) : InvF (pwrite a v z).1.1 := by
  rcases pwrite_f a v z with e | e <;> rw [e]
  · exact h
  · exact inv_write h ha h1 h2 h3
/-- the bytes are sound and the first log's request is c -/
def IM (c : Int32) (z : Mz) : Prop := InvF z.1.1 ∧ z.1.1 208 = c
theorem im_erase {c : Int32} {p : Nat} {z : Mz} (h : IM c z) (hp : p < 13) : IM c (perase p z) := by
  refine ⟨ie_erase h.1 (by omega), ?_⟩
  rcases perase_f p z with e | e <;> rw [e]
  · exact h.2
  · unfold pfill
    rw [if_neg (by omega)]
    exact h.2
theorem im_write {c : Int32} {a : Nat} {v : Int32} {z : Mz} (h : IM c z) (ha : a < 240) (h1 : a ≠ 208) (h2 : a ≠ 209) (h3 : a ≠ 224) : IM c (pwrite a v z) := by
  refine ⟨ie_write h.1 ha h1 h2 h3, ?_⟩
  rcases pwrite_f a v z with e | e <;> rw [e]
  · exact h.2
  · rw [upd_ne (Ne.symm h1)]
    exact h.2
theorem im_mv1 {c : Int32} {t f i : Nat} {z : Mz} (h : IM c z) (ht : t < 13) (hi : i < 16) : IM c (pmv1 t f i z) := by
  unfold pmv1
  split
  · exact h
  · exact im_write h (by omega) (by omega) (by omega) (by omega)
theorem im_mvl {c : Int32} {t f : Nat} (ht : t < 13) : ∀ (d i : Nat) (z : Mz), i + d ≤ 16 → IM c z → IM c (pmvl t f d i z) := by
  intro d
  induction d with
  | zero => intro i z _ h; rw [pmvl_0]; exact h
  | succ d ih => intro i z hd h; rw [pmvl_1]; exact ih (i + 1) _ (by omega) (im_mv1 h ht (by omega))
theorem im_move {c : Int32} {t f : Nat} {z : Mz} (h : IM c z) (ht : t < 13) : IM c (pmove t f z) := im_mvl ht 16 0 _ (by omega) (im_erase h ht)
theorem ptgt_13 {k : Nat} (h : k < 18) : ptgt k < 13 := by
  unfold ptgt
  split
  · omega
  · split <;> omega
theorem im_step {c : Int32} {g k : Nat} {z : Mz} (h : IM c z) (hk : k < 18) (hg : g = 13 ∨ g = 14) : IM c (pstep g k z) := by
  unfold pstep
  split
  · exact h
  · exact im_write (im_move h (ptgt_13 hk)) (by omega) (by omega) (by omega) (by omega)
theorem im_chl {c : Int32} {g : Nat} (hg : g = 13 ∨ g = 14) : ∀ (d k : Nat) (z : Mz), k + d ≤ 18 → IM c z → IM c (pchl g d k z) := by
  intro d
  induction d with
  | zero => intro k z _ h; rw [pchl_0]; exact h
  | succ d ih => intro k z hd h; rw [pchl_1]; exact ih (k + 1) _ (by omega) (im_step h (by omega) hg)
theorem im_change {c : Int32} {g : Nat} {z : Mz} (hg : g = 13 ∨ g = 14) (h : IM c z) : IM c (pchange g z) := im_chl hg 18 0 z (by omega) h
theorem ie_back {z : Mz} (h : InvF z.1.1) : InvF (pback z).1.1 := ie_erase (ie_erase (im_change (Or.inr rfl) ⟨h, rfl⟩).1 (by omega)) (by omega)
theorem ie_224 {z : Mz} (h : InvF z.1.1) : InvF (pwrite 224 15 z).1.1 := by
  rcases pwrite_f 224 15 z with e | e <;> rw [e]
  · exact h
  · exact inv_224 h
theorem ie_208 {z : Mz} (h : InvF z.1.1) : InvF (pwrite 208 15 z).1.1 := by
  rcases pwrite_f 208 15 z with e | e <;> rw [e]
  · exact h
  · exact inv_208 h
theorem ie_209 {z : Mz} (h : IM 15 z) : InvF (pwrite 209 0 z).1.1 := by
  rcases pwrite_f 209 0 z with e | e <;> rw [e]
  · exact h.1
  · exact inv_209 h.1 h.2
theorem ie_try {z : Mz} (h : IM 15 z) : InvF (ptry z).1.1 := by
  unfold ptry
  split
  · exact ie_erase h.1 (by omega)
  · exact ie_209 (im_change (Or.inl rfl) h)
theorem ie_follow {z : Mz} (h : InvF z.1.1) : InvF (cfollow z).1.1 := by
  unfold cfollow
  split
  · exact ie_back h
  · split
    · exact h
    · rename_i h8
      have h8 : z.1.1 208 = 15 := Classical.not_not.mp h8
      split
      · exact ie_try ⟨h, h8⟩
      · split
        · exact ie_erase h (by omega)
        · split
          · exact ie_back (ie_224 h)
          · exact h
theorem ie_mark {z : Mz} (h : InvF z.1.1) : InvF (cmark z).1.1 := by
  unfold cmark
  split
  · exact ie_write h (by omega) (by omega) (by omega) (by omega)
  · exact h
theorem ie_perl : ∀ (d p : Nat) (z : Mz), p + d ≤ 6 → InvF z.1.1 → InvF (perl d p z).1.1 := by
  intro d
  induction d with
  | zero => intro p z _ h; rw [perl_0]; exact h
  | succ d ih => intro p z hd h; rw [perl_1]; exact ih (p + 1) _ (by omega) (ie_erase h (by omega))
theorem ie_seal {v : Int32} {n : Nat} {z : Mz} (h : InvF z.1.1) : InvF (pseal v n z).1.1 :=
  ie_write (ie_write (ie_write (ie_write h (by omega) (by omega) (by omega) (by omega)) (by omega) (by omega) (by omega) (by omega)) (by omega) (by omega) (by omega) (by omega)) (by omega) (by omega) (by omega) (by omega)
theorem masks_208 {f : Nat → Int32} (h : InvF f) : masks f 208 = true ↔ f 208 = 15 := by
  unfold masks
  rw [decide_eq_true_iff]
  rcases h.2.1 with q | q <;> rw [q] <;> decide
theorem masks_224 {f : Nat → Int32} (h : InvF f) : masks f 224 = true ↔ f 224 = 15 := by
  unfold masks
  rw [decide_eq_true_iff]
  rcases h.2.2.1 with q | q <;> rw [q] <;> decide
theorem mset_iff {f : Nat → Int32} {k : Nat} (h : InvF f) : mset f k = true ↔ f 208 = 15 ∧ f (208 + k) = 0 := by
  unfold mset
  rw [decide_eq_true_iff]
  have e : (¬ f 208 = 255) ↔ f 208 = 15 := by rcases h.2.1 with q | q <;> rw [q] <;> decide
  rw [e]
theorem bool_f {b : Bool} (h : ¬ b = true) : b = false := by
  cases b
  · rfl
  · exact absurd rfl h
theorem settle_eq {z : Mz} (h : InvF z.1.1) : msettle z = cfollow z := by
  unfold msettle cfollow
  by_cases a1 : z.1.1 224 = 15
  · rw [if_pos ((masks_224 h).mpr a1), if_pos a1]
  · rw [if_neg (fun q => a1 ((masks_224 h).mp q)), if_neg a1]
    by_cases a2 : z.1.1 208 = 15
    · rw [if_neg (fun q : ¬ z.1.1 208 = 15 => q a2)]
      by_cases a3 : z.1.1 209 = 0
      · rw [if_neg (fun q => by have := (mset_iff (k := 1) h).mpr ⟨a2, a3⟩; rw [this] at q; exact absurd q.2 (by decide)), if_neg (fun q : ¬ z.1.1 209 = 0 => q a3)]
        have m1 : mset z.1.1 1 = true := (mset_iff (k := 1) h).mpr ⟨a2, a3⟩
        by_cases a4 : z.1.1 210 = 0
        · rw [if_pos ⟨m1, (mset_iff (k := 2) h).mpr ⟨a2, a4⟩⟩, if_pos a4]
        · rw [if_neg (fun q => a4 ((mset_iff (k := 2) h).mp q.2).2), if_neg a4]
          by_cases a5 : z.1.1 211 = 0
          · rw [if_pos ⟨m1, (mset_iff (k := 3) h).mpr ⟨a2, a5⟩⟩, if_pos a5]
          · rw [if_neg (fun q => a5 ((mset_iff (k := 3) h).mp q.2).2), if_neg a5]
      · rw [if_pos ⟨(masks_208 h).mpr a2, bool_f (fun q => a3 ((mset_iff (k := 1) h).mp q).2)⟩, if_pos a3]
    · have m1 : mset z.1.1 1 = false := bool_f (fun q => a2 ((mset_iff (k := 1) h).mp q).1)
      rw [if_neg (fun q => a2 ((masks_208 h).mp q.1)), if_neg (fun q => by rw [m1] at q; exact absurd q.1 (by decide)), if_neg (fun q => by rw [m1] at q; exact absurd q.1 (by decide)), if_pos a2]
theorem mark_eq {z : Mz} (h : InvF z.1.1) : mmark z = cmark z := by
  by_cases hw : z.2 = true
  · rw [cmark_went hw, mmark_no (fun q => by rw [hw] at q; exact absurd q.1 (by decide))]
  · have hw : z.2 = false := bool_f hw
    unfold mmark cmark
    by_cases a : z.1.1 208 = 15 ∧ z.1.1 209 = 0
    · rw [if_pos a, if_pos ⟨hw, (mset_iff (k := 1) h).mpr a⟩]
    · rw [if_neg a, if_neg (fun q => a ((mset_iff (k := 1) h).mp q.2))]
