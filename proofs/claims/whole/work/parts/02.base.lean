/-! Base: booleans as ints, the room of a level, the contract's two forms (int, void), how a method is entered, left and called. -/
def b2i (b : Bool) : Int32 := match b with
  | true => 1
  | false => 0
theorem b2i_eq0 {b : Bool} (h : b2i b = 0) : b = false := by
  cases b with
  | false => rfl
  | true => exact absurd h (by decide)
theorem b2i_ne0 {b : Bool} (h : ¬ b2i b = 0) : b = true := by
  cases b with
  | false => exact absurd rfl h
  | true => rfl
theorem nb_b2i (b : Bool) : narrow .boolean (.int (b2i b)) = .int (b2i b) := by cases b <;> rfl
theorem fb_b2i (b : Bool) : fits .boolean (.int (b2i b)) = true := by cases b <;> rfl
theorem niE {a b : Nat} (h : a = b) : nI a = nI b := by rw [h]
def lvr (d : Nat) : Room := { frames := d, cells := 0, slots := 0, locals := 40 * d }
theorem big_cons {w0 : Cond} (h : w0 ∈ BIG) : GoodIn BIG (w0 :: BIG) := fun w hw => (List.mem_cons.mp hw).elim (fun e => by rw [e]; exact big_good _ h) (fun h2 => big_good w h2)
def sw_Pc (D : va_G) (cA : ClassId) (av : List Value) (ws : va_W) (sz : Nat) : Array Value → State → Prop := va_Pc av (fun U => U.heap.size = sz ∧ va_P D vwC ws U.heap ∧ va_K D vwC [(cA, .int)] U ∧ va_D (fun _ => True) ws ∧ va_Nw nestL U)
def sw_B {S : Type} (D : va_G) (cA : ClassId) (A : Nat → Prop) (w : S → va_W) (u : S) (t : State) : Prop := va_P D vwC (w u) t.heap ∧ va_K D vwC [(cA, .int)] t ∧ va_D A (w u)
/-- a method of the system at level d, in the world w at st: it answers an int -/
def Ci {S : Type} (l : Launch) (y : MethodName) (cd : ByteArray) (nL : Nat) (rt : Option FieldType) (d : Nat) (D : va_G) (cA : ClassId) (w : S → va_W) (st : S) (sz : Nat) (av : List Value) (post : Int32 → S → Prop) : Prop :=
  Met l y (Cond.code y cd nL rt :: BIG) (lvr d) (sw_Pc D cA av (w st) sz) (va_Qi post (sw_B D cA (va_A (w st) sz) w) (va_A (w st) sz)) 0 0 (va_A (w st) sz)
/-- the same, void -/
def Cv {S : Type} (l : Launch) (y : MethodName) (cd : ByteArray) (nL : Nat) (rt : Option FieldType) (d : Nat) (D : va_G) (cA : ClassId) (w : S → va_W) (st : S) (sz : Nat) (av : List Value) (post : S → Prop) : Prop :=
  Met l y (Cond.code y cd nL rt :: BIG) (lvr d) (sw_Pc D cA av (w st) sz) (va_Qv post (sw_B D cA (va_A (w st) sz) w) (va_A (w st) sz)) 0 0 (va_A (w st) sz)
theorem Ci.enter {S : Type} {l : Launch} {y : MethodName} {cd : ByteArray} {nL : Nat} {rt : Option FieldType} {d : Nat} {D : va_G} {cA : ClassId} {w : S → va_W} {st : S} {sz : Nat} {av : List Value} {post : Int32 → S → Prop} (hy : plainName y.cls = true) (hlen : (lg_sl av).length ≤ nL)
    (body : ∀ (p : Program) (e : Env) (s : State) (m : MethodId) (args : Array Value) (below : List Frame) (meth : Method) (c : Code) (A : Nat → Prop) (ls : Array Slot), p.tables.exec = Jvm.exec → c.code = cd → c.maxLocals = nL → meth.sig.returnType = rt → meth.locks = false → s.vm.findClass y.cls = some m.cls → (∀ w ∈ BIG, w.before args s = true) →
      va_K D vwC [(cA, .int)] s → va_Nw nestL s → (∀ q : Nat, s.heap.size ≤ q → A q) → va_P D vwC (w st) s.heap → va_D A (w st) → va_S A s.heap s.heap [] → lv_has ls nL (lv_args 0 av) →
      W p l e (lvr d) s m args below meth c s.heap [] 0 0 (MQ below (va_Qi post (sw_B D cA A w) A) args s 0 0 A) (F0 m 0 ls [])) : Ci l y cd nL rt d D cA w st sz av post := by
  refine Met.ofW (cc := cd) (maxL := nL) (ret := rt) hy rfl ?_
  intro p e s m args below meth c s₁ B hml hv
  obtain ⟨rfl, hsz, hP, hK, hD0, hN⟩ := hv
  subst hsz
  have hD := hD0.self (sz := s.heap.size)
  have hts := atoms_spec (ws := Cond.code y cd nL rt :: BIG) B.pre
  rw [lg_entry_eq]
  exact body p e s m _ below meth c _ _ B.exec B.bytes hml B.returns B.notSynchronized (findClass_of_methodNamed B.named) (fun w hw => hts w (List.mem_cons_of_mem _ hw)) hK hN (fun q h => Or.inr h) hP hD va_S.rf (lv_entry av hlen)
theorem Cv.enter {S : Type} {l : Launch} {y : MethodName} {cd : ByteArray} {nL : Nat} {rt : Option FieldType} {d : Nat} {D : va_G} {cA : ClassId} {w : S → va_W} {st : S} {sz : Nat} {av : List Value} {post : S → Prop} (hy : plainName y.cls = true) (hlen : (lg_sl av).length ≤ nL)
    (body : ∀ (p : Program) (e : Env) (s : State) (m : MethodId) (args : Array Value) (below : List Frame) (meth : Method) (c : Code) (A : Nat → Prop) (ls : Array Slot), p.tables.exec = Jvm.exec → c.code = cd → c.maxLocals = nL → meth.sig.returnType = rt → meth.locks = false → s.vm.findClass y.cls = some m.cls → (∀ w ∈ BIG, w.before args s = true) →
      va_K D vwC [(cA, .int)] s → va_Nw nestL s → (∀ q : Nat, s.heap.size ≤ q → A q) → va_P D vwC (w st) s.heap → va_D A (w st) → va_S A s.heap s.heap [] → lv_has ls nL (lv_args 0 av) →
      W p l e (lvr d) s m args below meth c s.heap [] 0 0 (MQ below (va_Qv post (sw_B D cA A w) A) args s 0 0 A) (F0 m 0 ls [])) : Cv l y cd nL rt d D cA w st sz av post := by
  refine Met.ofW (cc := cd) (maxL := nL) (ret := rt) hy rfl ?_
  intro p e s m args below meth c s₁ B hml hv
  obtain ⟨rfl, hsz, hP, hK, hD0, hN⟩ := hv
  subst hsz
  have hD := hD0.self (sz := s.heap.size)
  have hts := atoms_spec (ws := Cond.code y cd nL rt :: BIG) B.pre
  rw [lg_entry_eq]
  exact body p e s m _ below meth c _ _ B.exec B.bytes hml B.returns B.notSynchronized (findClass_of_methodNamed B.named) (fun w hw => hts w (List.mem_cons_of_mem _ hw)) hK hN (fun q h => Or.inr h) hP hD va_S.rf (lv_entry av hlen)
/-- what a call by methodLink needs of the tables: an instance's method -/
def sw_cw (own : String) (idx : Nat) (y : MethodName) (cd : ByteArray) (nL : Nat) (rt : Option FieldType) (n : Nat) : Prop :=
  (Cond.methodLink own idx y ∈ BIG ∧ Cond.instanceMethod y ∈ BIG ∧ Cond.selects y.cls y y ∈ BIG ∧ Cond.initialized y.cls ∈ BIG ∧ Cond.code y cd nL rt ∈ BIG) ∧ (y.cls ≠ "java/lang/invoke/MethodHandle" ∧ y.cls ≠ "java/lang/invoke/VarHandle" ∧ (parseMethodDescriptor y.desc).map (fun d => d.parameters.length) = some n)
/-- a static method's -/
def sw_cs (own : String) (idx : Nat) (y : MethodName) (cd : ByteArray) (nL : Nat) (rt : Option FieldType) (n : Nat) : Prop :=
  (Cond.methodLink own idx y ∈ BIG ∧ Cond.static y ∈ BIG ∧ Cond.initialized y.cls ∈ BIG ∧ Cond.code y cd nL rt ∈ BIG) ∧ (y.cls ≠ "java/lang/invoke/MethodHandle" ∧ y.cls ≠ "java/lang/invoke/VarHandle" ∧ (parseMethodDescriptor y.desc).map (fun d => d.parameters.length) = some n)
/-- a nest mate's private static method's -/
def sw_cn (own : String) (idx : Nat) (y : MethodName) (host : String) (cd : ByteArray) (nL : Nat) (rt : Option FieldType) (n : Nat) : Prop :=
  (nestL = Cond.methodLinkNest own idx y host ∧ Cond.static y ∈ BIG ∧ Cond.initialized y.cls ∈ BIG ∧ Cond.code y cd nL rt ∈ BIG) ∧ (y.cls ≠ "java/lang/invoke/MethodHandle" ∧ y.cls ≠ "java/lang/invoke/VarHandle" ∧ (parseMethodDescriptor y.desc).map (fun d => d.parameters.length) = some n)
/-- a constructor's -/
def sw_ci (own : String) (idx : Nat) (y : MethodName) (cd : ByteArray) (nL : Nat) (n : Nat) : Prop :=
  (Cond.methodLink own idx y ∈ BIG ∧ Cond.instanceMethod y ∈ BIG ∧ Cond.initialized y.cls ∈ BIG ∧ Cond.code y cd nL none ∈ BIG) ∧ y.name = "<init>" ∧ (y.cls ≠ "java/lang/invoke/MethodHandle" ∧ y.cls ≠ "java/lang/invoke/VarHandle" ∧ (parseMethodDescriptor y.desc).map (fun d => d.parameters.length) = some n)
section SWB
variable {p : Program} {l : Launch} {e : Env} {R : Room} {s : State} {m : MethodId} {args : Array Value} {below : List Frame} {meth : Method} {c : Code} {H : Heap} {locs : List Loc} {cells slots : Nat} {Q : State → Prop}
variable {cc : ByteArray} {pc : Nat} {ls : Array Slot} {rest : List Value}
theorem sw_tp {x y : Int32} (h : x = y) (k : W p l e R s m args below meth c H locs cells slots Q (F0 m pc ls (.int y :: rest))) : W p l e R s m args below meth c H locs cells slots Q (F0 m pc ls (.int x :: rest)) := by
  rw [h]; exact k
theorem sw_tp2 {x y : Int32} {v : Value} (h : x = y) (k : W p l e R s m args below meth c H locs cells slots Q (F0 m pc ls (v :: .int y :: rest))) : W p l e R s m args below meth c H locs cells slots Q (F0 m pc ls (v :: .int x :: rest)) := by
  rw [h]; exact k
theorem sw_bz_eq (hx : p.tables.exec = Jvm.exec) (hb : c.code = cc) {b : Bool} {off : Int} {tgt : Nat} (hdg : decode cc pc = .ok (.ifCond .eq off, 3)) (ht : (pc : Int) + off = (tgt : Int))
    (kt : b = false → W p l e R s m args below meth c H locs cells slots Q (F0 m tgt ls rest)) (kf : b = true → W p l e R s m args below meth c H locs cells slots Q (F0 m (pc + 3) ls rest)) : W p l e R s m args below meth c H locs cells slots Q (F0 m pc ls (.int (b2i b) :: rest)) :=
  lv_if_eq hx hb hdg ht (fun h => kt (b2i_eq0 h)) (fun h => kf (b2i_ne0 h))
theorem sw_bz_ne (hx : p.tables.exec = Jvm.exec) (hb : c.code = cc) {b : Bool} {off : Int} {tgt : Nat} (hdg : decode cc pc = .ok (.ifCond .ne off, 3)) (ht : (pc : Int) + off = (tgt : Int))
    (kt : b = true → W p l e R s m args below meth c H locs cells slots Q (F0 m tgt ls rest)) (kf : b = false → W p l e R s m args below meth c H locs cells slots Q (F0 m (pc + 3) ls rest)) : W p l e R s m args below meth c H locs cells slots Q (F0 m pc ls (.int (b2i b) :: rest)) :=
  lv_if_ne hx hb hdg ht (fun h => kt (b2i_ne0 h)) (fun h => kf (b2i_eq0 h))
theorem sw_nz_eq (hx : p.tables.exec = Jvm.exec) (hb : c.code = cc) {a : Nat} {off : Int} {tgt : Nat} (ha : a < 2 ^ 31) (hdg : decode cc pc = .ok (.ifCond .eq off, 3)) (ht : (pc : Int) + off = (tgt : Int))
    (kt : a = 0 → W p l e R s m args below meth c H locs cells slots Q (F0 m tgt ls rest)) (kf : a ≠ 0 → W p l e R s m args below meth c H locs cells slots Q (F0 m (pc + 3) ls rest)) : W p l e R s m args below meth c H locs cells slots Q (F0 m pc ls (.int (nI a) :: rest)) :=
  lv_if_eq hx hb hdg ht (fun h => kt ((nI_eq ha (by decide : 0 < 2 ^ 31)).mp h)) (fun h => kf (fun q => h (by rw [q]; rfl)))
theorem sw_nz_ne (hx : p.tables.exec = Jvm.exec) (hb : c.code = cc) {a : Nat} {off : Int} {tgt : Nat} (ha : a < 2 ^ 31) (hdg : decode cc pc = .ok (.ifCond .ne off, 3)) (ht : (pc : Int) + off = (tgt : Int))
    (kt : a ≠ 0 → W p l e R s m args below meth c H locs cells slots Q (F0 m tgt ls rest)) (kf : a = 0 → W p l e R s m args below meth c H locs cells slots Q (F0 m (pc + 3) ls rest)) : W p l e R s m args below meth c H locs cells slots Q (F0 m pc ls (.int (nI a) :: rest)) :=
  lv_if_ne hx hb hdg ht (fun h => kt (fun q => h (by rw [q]; rfl))) (fun h => kf ((nI_eq ha (by decide : 0 < 2 ^ 31)).mp h))
theorem sw_nc_lt (hx : p.tables.exec = Jvm.exec) (hb : c.code = cc) {a b : Nat} {off : Int} {tgt : Nat} (ha : a < 2 ^ 31) (hb1 : b < 2 ^ 31) (hdg : decode cc pc = .ok (.if_icmp .lt off, 3)) (ht : (pc : Int) + off = (tgt : Int))
    (kt : a < b → W p l e R s m args below meth c H locs cells slots Q (F0 m tgt ls rest)) (kf : b ≤ a → W p l e R s m args below meth c H locs cells slots Q (F0 m (pc + 3) ls rest)) : W p l e R s m args below meth c H locs cells slots Q (F0 m pc ls (.int (nI b) :: .int (nI a) :: rest)) :=
  lv_icmp_lt hx hb hdg ht (fun h => kt ((nI_ltI ha hb1).mp h)) (fun h => kf (Nat.le_of_not_lt (fun q => h ((nI_ltI ha hb1).mpr q))))
theorem sw_nc_ge (hx : p.tables.exec = Jvm.exec) (hb : c.code = cc) {a b : Nat} {off : Int} {tgt : Nat} (ha : a < 2 ^ 31) (hb1 : b < 2 ^ 31) (hdg : decode cc pc = .ok (.if_icmp .ge off, 3)) (ht : (pc : Int) + off = (tgt : Int))
    (kt : b ≤ a → W p l e R s m args below meth c H locs cells slots Q (F0 m tgt ls rest)) (kf : a < b → W p l e R s m args below meth c H locs cells slots Q (F0 m (pc + 3) ls rest)) : W p l e R s m args below meth c H locs cells slots Q (F0 m pc ls (.int (nI b) :: .int (nI a) :: rest)) :=
  lv_icmp_ge hx hb hdg ht (fun h => kt ((nI_leI hb1 ha).mp h)) (fun h => kf (Nat.lt_of_not_le (fun q => h ((nI_leI hb1 ha).mpr q))))
theorem sw_nc_gt (hx : p.tables.exec = Jvm.exec) (hb : c.code = cc) {a b : Nat} {off : Int} {tgt : Nat} (ha : a < 2 ^ 31) (hb1 : b < 2 ^ 31) (hdg : decode cc pc = .ok (.if_icmp .gt off, 3)) (ht : (pc : Int) + off = (tgt : Int))
    (kt : b < a → W p l e R s m args below meth c H locs cells slots Q (F0 m tgt ls rest)) (kf : a ≤ b → W p l e R s m args below meth c H locs cells slots Q (F0 m (pc + 3) ls rest)) : W p l e R s m args below meth c H locs cells slots Q (F0 m pc ls (.int (nI b) :: .int (nI a) :: rest)) :=
  lv_icmp_gt hx hb hdg ht (fun h => kt ((nI_ltI hb1 ha).mp h)) (fun h => kf (Nat.le_of_not_lt (fun q => h ((nI_ltI hb1 ha).mpr q))))
theorem sw_nc_le (hx : p.tables.exec = Jvm.exec) (hb : c.code = cc) {a b : Nat} {off : Int} {tgt : Nat} (ha : a < 2 ^ 31) (hb1 : b < 2 ^ 31) (hdg : decode cc pc = .ok (.if_icmp .le off, 3)) (ht : (pc : Int) + off = (tgt : Int))
    (kt : a ≤ b → W p l e R s m args below meth c H locs cells slots Q (F0 m tgt ls rest)) (kf : b < a → W p l e R s m args below meth c H locs cells slots Q (F0 m (pc + 3) ls rest)) : W p l e R s m args below meth c H locs cells slots Q (F0 m pc ls (.int (nI b) :: .int (nI a) :: rest)) :=
  lv_icmp_le hx hb hdg ht (fun h => kt ((nI_leI ha hb1).mp h)) (fun h => kf (Nat.lt_of_not_le (fun q => h ((nI_leI ha hb1).mpr q))))
theorem sw_nc_eq (hx : p.tables.exec = Jvm.exec) (hb : c.code = cc) {a b : Nat} {off : Int} {tgt : Nat} (ha : a < 2 ^ 31) (hb1 : b < 2 ^ 31) (hdg : decode cc pc = .ok (.if_icmp .eq off, 3)) (ht : (pc : Int) + off = (tgt : Int))
    (kt : a = b → W p l e R s m args below meth c H locs cells slots Q (F0 m tgt ls rest)) (kf : a ≠ b → W p l e R s m args below meth c H locs cells slots Q (F0 m (pc + 3) ls rest)) : W p l e R s m args below meth c H locs cells slots Q (F0 m pc ls (.int (nI b) :: .int (nI a) :: rest)) :=
  lv_icmp_eq hx hb hdg ht (fun h => kt ((nI_eq ha hb1).mp h)) (fun h => kf (fun q => h (niE q)))
theorem sw_nc_ne (hx : p.tables.exec = Jvm.exec) (hb : c.code = cc) {a b : Nat} {off : Int} {tgt : Nat} (ha : a < 2 ^ 31) (hb1 : b < 2 ^ 31) (hdg : decode cc pc = .ok (.if_icmp .ne off, 3)) (ht : (pc : Int) + off = (tgt : Int))
    (kt : a ≠ b → W p l e R s m args below meth c H locs cells slots Q (F0 m tgt ls rest)) (kf : a = b → W p l e R s m args below meth c H locs cells slots Q (F0 m (pc + 3) ls rest)) : W p l e R s m args below meth c H locs cells slots Q (F0 m pc ls (.int (nI b) :: .int (nI a) :: rest)) :=
  lv_icmp_ne hx hb hdg ht (fun h => kt (fun q => h (niE q))) (fun h => kf ((nI_eq ha hb1).mp h))
theorem sw_ald {D : va_G} {cl : List vw_C} {tys : List (ClassId × FieldType)} {ws : va_W} {a : Nat} (hx : p.tables.exec = Jvm.exec) (hb : c.code = cc) (hK : va_K D cl tys s) (hP : va_P D cl ws H) (q0 t0 : Nat) {cA : ClassId} {N : Nat} {f : Nat → Int32} (ha : ws[q0]? = some (a, .inl (cA, N, .inl f))) (ht : tys[t0]? = some (cA, .int)) {n : Nat} (hn : n < N) (hN : N < 2 ^ 31) (hdg : decode cc pc = .ok (.iaload, 1))
    (kk : W p l e R s m args below meth c H locs cells slots Q (F0 m (pc + 1) ls (.int (f n) :: rest))) : W p l e R s m args below meth c H locs cells slots Q (F0 m pc ls (.int (nI n) :: .ref a :: rest)) :=
  va_iald hx hb hK hP q0 t0 ha ht (vp_in_nI hn hN) hdg (by rw [nI_clamp (Nat.lt_trans hn hN)]; exact kk)
theorem sw_ast {D : va_G} {cl : List vw_C} {tys : List (ClassId × FieldType)} {ws : va_W} {a : Nat} {A : Nat → Prop} {H0 : Heap} (hx : p.tables.exec = Jvm.exec) (hb : c.code = cc) (hK : va_K D cl tys s) (hP : va_P D cl ws H) (hD : va_D A ws) (hS : va_S A H0 H locs) (q0 t0 : Nat) {cA : ClassId} {N : Nat} {f : Nat → Int32} (ha : ws[q0]? = some (a, .inl (cA, N, .inl f))) (ht : tys[t0]? = some (cA, .int)) {n : Nat} {x : Int32} (hn : n < N) (hN : N < 2 ^ 31) (hdg : decode cc pc = .ok (.iastore, 1))
    (kk : ∀ (H1 : Heap) (locs1 : List Loc), va_P D cl (ws.set q0 (a, .inl (cA, N, .inl (upd f n x)))) H1 → va_D A (ws.set q0 (a, .inl (cA, N, .inl (upd f n x)))) → va_S A H0 H1 locs1 → W p l e R s m args below meth c H1 locs1 cells slots Q (F0 m (pc + 1) ls rest)) : W p l e R s m args below meth c H locs cells slots Q (F0 m pc ls (.int x :: .int (nI n) :: .ref a :: rest)) :=
  va_iast hx hb hK hP hD hS q0 t0 ha ht (vp_in_nI hn hN) hdg (fun H1 locs1 h1 h2 h3 => by
    rw [nI_clamp (Nat.lt_trans hn hN)] at h1 h2
    exact kk H1 locs1 h1 h2 h3)
theorem sw_iret {S : Type} {D : va_G} {cA : ClassId} {A : Nat → Prop} {w : S → va_W} {u : S} {post : Int32 → S → Prop} {v : Int32} {ty : FieldType} (hx : p.tables.exec = Jvm.exec) (hb : c.code = cc) (hr : meth.sig.returnType = some ty) (hlocks : meth.locks = false) (hK : va_K D vwC [(cA, .int)] s) (hP : va_P D vwC (w u) H) (hD : va_D A (w u)) (hS : va_S A s.heap H locs) (hdg : decode cc pc = .ok (.ireturn, 1)) (hn : narrow ty (.int v) = .int v) (hq : post v u) :
    W p l e R s m args below meth c H locs 0 0 (MQ below (va_Qi post (sw_B D cA A w) A) args s 0 0 A) (F0 m pc ls [.int v]) :=
  W.zret (v := v) hx hb hr hn (fun t ht hW => ⟨⟨v, u, rfl, hq, by rw [ht]; exact hP, va_K.moved hW.alike hK, hD⟩, hS.F ht⟩) hS.2.2 hdg hlocks
theorem sw_vret {S : Type} {D : va_G} {cA : ClassId} {A : Nat → Prop} {w : S → va_W} {u : S} {post : S → Prop} (hx : p.tables.exec = Jvm.exec) (hb : c.code = cc) (hr : meth.sig.returnType = none) (hlocks : meth.locks = false) (hK : va_K D vwC [(cA, .int)] s) (hP : va_P D vwC (w u) H) (hD : va_D A (w u)) (hS : va_S A s.heap H locs) (hdg : decode cc pc = .ok (.return_, 1)) (hq : post u) :
    W p l e R s m args below meth c H locs 0 0 (MQ below (va_Qv post (sw_B D cA A w) A) args s 0 0 A) (F0 m pc ls []) :=
  W.vret hx hb hr (fun t ht hW => ⟨⟨u, rfl, hq, by rw [ht]; exact hP, va_K.moved hW.alike hK, hD⟩, hS.F ht⟩) hS.2.2 hdg hlocks
theorem sw_blind {D : va_G} {cA : ClassId} {av : List Value} {ws : va_W} {sz : Nat} : FrameBlind (sw_Pc D cA av ws sz) := fun a U g mk q => by
  obtain ⟨q0, q1, qP, qK, qD, qN⟩ := q
  exact ⟨q0, q1, qP, va_K.moved (u := U) (U := U.calling g mk a) (Vm.Alike.refl U.vm) qK, qD, va_Nw.same (u := U) (U := U.calling g mk a) rfl rfl qN⟩
theorem sw_pre {D : va_G} {cA : ClassId} {av : List Value} {ws : va_W} {A : Nat → Prop} (hK : va_K D vwC [(cA, .int)] s) (hN : va_Nw nestL s) (hP : va_P D vwC ws H) (hD : va_D A ws) : ∀ U : State, U.heap = H → s.WarmedH U.vm → sw_Pc D cA av ws H.size av.toArray U :=
  fun U hU hW => ⟨rfl, by rw [hU], by rw [hU]; exact hP, va_K.moved hW.alike hK, hD.weaken (fun _ _ _ _ => trivial), va_Nw.warmM hW hN⟩
theorem sw_free {ws : va_W} {A : Nat → Prop} {H0 : Heap} (hD : va_D A ws) (hS : va_S A H0 H locs) (hA : ∀ q : Nat, H0.size ≤ q → A q) : ∀ q, va_A ws H.size q → A q :=
  fun q h => h.elim (fun ⟨k, e, hk⟩ => hD.2 k _ hk) (fun h => hA q (Nat.le_trans hS.1 h))
theorem sw_aft {S : Type} {D : va_G} {cA : ClassId} {w : S → va_W} {u : S} {t : State} {H1 : Heap} {A1 A : Nat → Prop} (ht : t.heap = H1) (hB : sw_B D cA A1 w u t) (hF : ∀ q, A1 q → A q) : va_P D vwC (w u) H1 ∧ va_D A (w u) :=
  ⟨by rw [← ht]; exact hB.1, hB.2.2.weaken (fun _ _ _ h => hF _ h)⟩
theorem sw_callVi {S : Type} {w : S → va_W} {y : MethodName} {cd : ByteArray} {nL nL2 d d0 n idx : Nat} {rt : Option FieldType} {D : va_G} {cA : ClassId} {st : S} {A : Nat → Prop} {post : Int32 → S → Prop} {own : String} {qc : vw_C} {fs st0 : List Value} {b : Nat} (q0 ci : Nat) (As : List Value)
    (hx : p.tables.exec = Jvm.exec) (hb : c.code = cc) (hml : c.maxLocals = nL) (hown : s.vm.findClass own = some m.cls) (hts : ∀ w ∈ BIG, w.before args s = true) (hK : va_K D vwC [(cA, .int)] s) (hN : va_Nw nestL s) (hA : ∀ q : Nat, s.heap.size ≤ q → A q) (hP : va_P D vwC (w st) H) (hD : va_D A (w st)) (hS : va_S A s.heap H locs)
    (hM : Ci l y cd nL2 rt d D cA w st H.size (.ref b :: As) post) (cw : sw_cw own idx y cd nL2 rt n) (he : (w st)[q0]? = some (b, .inr (ci, fs))) (hc : vwC[ci]? = some qc) (hqc : qc.1 = y.cls) (hR : d + 1 ≤ d0 ∧ 8 + (nL2 + 11) + 40 * d ≤ 40 * d0) (hls : ls.size = nL) (hn : As.length = n) (hst : st0 = As.reverse ++ .ref b :: rest) (hcat : (rest.map fun v => v.category).sum ≤ 8) (hdg : decode cc pc = .ok (.invokevirtual idx, 3))
    (kk : ∀ (r : Int32) (u : S) (H1 : Heap) (locs1 : List Loc), post r u → va_P D vwC (w u) H1 → va_D A (w u) → va_S A s.heap H1 locs1 → W p l e (lvr d0) s m args below meth c H1 locs1 0 0 Q (F0 m (pc + 3) ls (.int r :: rest))) :
    W p l e (lvr d0) s m args below meth c H locs 0 0 Q (F0 m pc ls st0) := by
  subst hst
  obtain ⟨⟨g1, g2, g3, g4, g5⟩, hd⟩ := cw
  have hF := sw_free hD hS hA
  refine va_calli (va_runV (C := y.cls) (As := As) (rest := rest) (Ts := BIG) ⟨hx, hb, hml, hown, hts⟩ hM ⟨callB_of n hts (big_cons g5) rfl rfl rfl (hts _ g4) (hts _ g1) hd hR, hts _ g2, hts _ g3⟩ ⟨sw_blind, by have := va_recv hK hP hc he; rw [hqc] at this; exact this, sw_pre hK hN hP hD⟩ rfl hn hls rfl (lv_room hcat) hdg ⟨Nat.le_refl _, Nat.le_refl _⟩) hS (fun q _ h => hF q h) hF (fun r u t H1 locs1 ht hvm hq hB _ _ hS1 => ?_)
  obtain ⟨a1, a2⟩ := sw_aft ht hB hF
  exact kk r u H1 locs1 hq a1 a2 hS1
theorem sw_callVv {S : Type} {w : S → va_W} {y : MethodName} {cd : ByteArray} {nL nL2 d d0 n idx : Nat} {rt : Option FieldType} {D : va_G} {cA : ClassId} {st : S} {A : Nat → Prop} {post : S → Prop} {own : String} {qc : vw_C} {fs st0 : List Value} {b : Nat} (q0 ci : Nat) (As : List Value)
    (hx : p.tables.exec = Jvm.exec) (hb : c.code = cc) (hml : c.maxLocals = nL) (hown : s.vm.findClass own = some m.cls) (hts : ∀ w ∈ BIG, w.before args s = true) (hK : va_K D vwC [(cA, .int)] s) (hN : va_Nw nestL s) (hA : ∀ q : Nat, s.heap.size ≤ q → A q) (hP : va_P D vwC (w st) H) (hD : va_D A (w st)) (hS : va_S A s.heap H locs)
    (hM : Cv l y cd nL2 rt d D cA w st H.size (.ref b :: As) post) (cw : sw_cw own idx y cd nL2 rt n) (he : (w st)[q0]? = some (b, .inr (ci, fs))) (hc : vwC[ci]? = some qc) (hqc : qc.1 = y.cls) (hR : d + 1 ≤ d0 ∧ 8 + (nL2 + 11) + 40 * d ≤ 40 * d0) (hls : ls.size = nL) (hn : As.length = n) (hst : st0 = As.reverse ++ .ref b :: rest) (hcat : (rest.map fun v => v.category).sum ≤ 8) (hdg : decode cc pc = .ok (.invokevirtual idx, 3))
    (kk : ∀ (u : S) (H1 : Heap) (locs1 : List Loc), post u → va_P D vwC (w u) H1 → va_D A (w u) → va_S A s.heap H1 locs1 → W p l e (lvr d0) s m args below meth c H1 locs1 0 0 Q (F0 m (pc + 3) ls rest)) :
    W p l e (lvr d0) s m args below meth c H locs 0 0 Q (F0 m pc ls st0) := by
  subst hst
  obtain ⟨⟨g1, g2, g3, g4, g5⟩, hd⟩ := cw
  have hF := sw_free hD hS hA
  refine va_callv (va_runV (C := y.cls) (As := As) (rest := rest) (Ts := BIG) ⟨hx, hb, hml, hown, hts⟩ hM ⟨callB_of n hts (big_cons g5) rfl rfl rfl (hts _ g4) (hts _ g1) hd hR, hts _ g2, hts _ g3⟩ ⟨sw_blind, by have := va_recv hK hP hc he; rw [hqc] at this; exact this, sw_pre hK hN hP hD⟩ rfl hn hls rfl (lv_room hcat) hdg ⟨Nat.le_refl _, Nat.le_refl _⟩) hS (fun q _ h => hF q h) hF (fun u t H1 locs1 ht hvm hq hB _ _ hS1 => ?_)
  obtain ⟨a1, a2⟩ := sw_aft ht hB hF
  exact kk u H1 locs1 hq a1 a2 hS1
theorem sw_callSi {S : Type} {w : S → va_W} {y : MethodName} {cd : ByteArray} {nL nL2 d d0 n idx : Nat} {rt : Option FieldType} {D : va_G} {cA : ClassId} {st : S} {A : Nat → Prop} {post : Int32 → S → Prop} {own : String} {st0 : List Value} (As : List Value)
    (hx : p.tables.exec = Jvm.exec) (hb : c.code = cc) (hml : c.maxLocals = nL) (hown : s.vm.findClass own = some m.cls) (hts : ∀ w ∈ BIG, w.before args s = true) (hK : va_K D vwC [(cA, .int)] s) (hN : va_Nw nestL s) (hA : ∀ q : Nat, s.heap.size ≤ q → A q) (hP : va_P D vwC (w st) H) (hD : va_D A (w st)) (hS : va_S A s.heap H locs)
    (hM : Ci l y cd nL2 rt d D cA w st H.size As post) (cw : sw_cs own idx y cd nL2 rt n) (hR : d + 1 ≤ d0 ∧ 8 + (nL2 + 11) + 40 * d ≤ 40 * d0) (hls : ls.size = nL) (hn : As.length = n) (hst : st0 = As.reverse ++ rest) (hcat : (rest.map fun v => v.category).sum ≤ 8) (hdg : decode cc pc = .ok (.invokestatic idx, 3))
    (kk : ∀ (r : Int32) (u : S) (H1 : Heap) (locs1 : List Loc), post r u → va_P D vwC (w u) H1 → va_D A (w u) → va_S A s.heap H1 locs1 → W p l e (lvr d0) s m args below meth c H1 locs1 0 0 Q (F0 m (pc + 3) ls (.int r :: rest))) :
    W p l e (lvr d0) s m args below meth c H locs 0 0 Q (F0 m pc ls st0) := by
  subst hst
  obtain ⟨⟨g1, g2, g4, g5⟩, hd⟩ := cw
  have hF := sw_free hD hS hA
  refine va_calli (va_runS (As := As) (rest := rest) (Ts := BIG) ⟨hx, hb, hml, hown, hts⟩ hM ⟨callB_of n hts (big_cons g5) rfl rfl rfl (hts _ g4) (hts _ g1) hd hR, hts _ g2⟩ ⟨sw_blind, sw_pre hK hN hP hD⟩ rfl hn hls rfl (lv_room hcat) hdg ⟨Nat.le_refl _, Nat.le_refl _⟩) hS (fun q _ h => hF q h) hF (fun r u t H1 locs1 ht hvm hq hB _ _ hS1 => ?_)
  obtain ⟨a1, a2⟩ := sw_aft ht hB hF
  exact kk r u H1 locs1 hq a1 a2 hS1
theorem sw_callSv {S : Type} {w : S → va_W} {y : MethodName} {cd : ByteArray} {nL nL2 d d0 n idx : Nat} {rt : Option FieldType} {D : va_G} {cA : ClassId} {st : S} {A : Nat → Prop} {post : S → Prop} {own : String} {st0 : List Value} (As : List Value)
    (hx : p.tables.exec = Jvm.exec) (hb : c.code = cc) (hml : c.maxLocals = nL) (hown : s.vm.findClass own = some m.cls) (hts : ∀ w ∈ BIG, w.before args s = true) (hK : va_K D vwC [(cA, .int)] s) (hN : va_Nw nestL s) (hA : ∀ q : Nat, s.heap.size ≤ q → A q) (hP : va_P D vwC (w st) H) (hD : va_D A (w st)) (hS : va_S A s.heap H locs)
    (hM : Cv l y cd nL2 rt d D cA w st H.size As post) (cw : sw_cs own idx y cd nL2 rt n) (hR : d + 1 ≤ d0 ∧ 8 + (nL2 + 11) + 40 * d ≤ 40 * d0) (hls : ls.size = nL) (hn : As.length = n) (hst : st0 = As.reverse ++ rest) (hcat : (rest.map fun v => v.category).sum ≤ 8) (hdg : decode cc pc = .ok (.invokestatic idx, 3))
    (kk : ∀ (u : S) (H1 : Heap) (locs1 : List Loc), post u → va_P D vwC (w u) H1 → va_D A (w u) → va_S A s.heap H1 locs1 → W p l e (lvr d0) s m args below meth c H1 locs1 0 0 Q (F0 m (pc + 3) ls rest)) :
    W p l e (lvr d0) s m args below meth c H locs 0 0 Q (F0 m pc ls st0) := by
  subst hst
  obtain ⟨⟨g1, g2, g4, g5⟩, hd⟩ := cw
  have hF := sw_free hD hS hA
  refine va_callv (va_runS (As := As) (rest := rest) (Ts := BIG) ⟨hx, hb, hml, hown, hts⟩ hM ⟨callB_of n hts (big_cons g5) rfl rfl rfl (hts _ g4) (hts _ g1) hd hR, hts _ g2⟩ ⟨sw_blind, sw_pre hK hN hP hD⟩ rfl hn hls rfl (lv_room hcat) hdg ⟨Nat.le_refl _, Nat.le_refl _⟩) hS (fun q _ h => hF q h) hF (fun u t H1 locs1 ht hvm hq hB _ _ hS1 => ?_)
  obtain ⟨a1, a2⟩ := sw_aft ht hB hF
  exact kk u H1 locs1 hq a1 a2 hS1
theorem sw_callNi {S : Type} {w : S → va_W} {y : MethodName} {host : String} {cd : ByteArray} {nL nL2 d d0 n idx : Nat} {rt : Option FieldType} {D : va_G} {cA : ClassId} {st : S} {A : Nat → Prop} {post : Int32 → S → Prop} {own : String} {st0 : List Value} (As : List Value)
    (hx : p.tables.exec = Jvm.exec) (hb : c.code = cc) (hml : c.maxLocals = nL) (hown : s.vm.findClass own = some m.cls) (hts : ∀ w ∈ BIG, w.before args s = true) (hK : va_K D vwC [(cA, .int)] s) (hN : va_Nw nestL s) (hA : ∀ q : Nat, s.heap.size ≤ q → A q) (hP : va_P D vwC (w st) H) (hD : va_D A (w st)) (hS : va_S A s.heap H locs)
    (hM : Ci l y cd nL2 rt d D cA w st H.size As post) (cw : sw_cn own idx y host cd nL2 rt n) (hR : d + 1 ≤ d0 ∧ 8 + (nL2 + 11) + 40 * d ≤ 40 * d0) (hls : ls.size = nL) (hn : As.length = n) (hst : st0 = As.reverse ++ rest) (hcat : (rest.map fun v => v.category).sum ≤ 8) (hdg : decode cc pc = .ok (.invokestatic idx, 3))
    (kk : ∀ (r : Int32) (u : S) (H1 : Heap) (locs1 : List Loc), post r u → va_P D vwC (w u) H1 → va_D A (w u) → va_S A s.heap H1 locs1 → W p l e (lvr d0) s m args below meth c H1 locs1 0 0 Q (F0 m (pc + 3) ls (.int r :: rest))) :
    W p l e (lvr d0) s m args below meth c H locs 0 0 Q (F0 m pc ls st0) := by
  subst hst
  obtain ⟨⟨g1, g2, g4, g5⟩, hd⟩ := cw
  have hF := sw_free hD hS hA
  refine va_calli (va_runSN (host := host) (As := As) (rest := rest) (Ts := BIG) ⟨hx, hb, hml, hown, hts⟩ hM ⟨va_cnB n hts (big_cons g5) rfl rfl rfl (g1 ▸ hN) (hts _ g4) hd hR, hts _ g2, trivial⟩ ⟨sw_blind, sw_pre hK hN hP hD⟩ rfl hn hls rfl (lv_room hcat) hdg ⟨Nat.le_refl _, Nat.le_refl _⟩) hS (fun q _ h => hF q h) hF (fun r u t H1 locs1 ht hvm hq hB _ _ hS1 => ?_)
  obtain ⟨a1, a2⟩ := sw_aft ht hB hF
  exact kk r u H1 locs1 hq a1 a2 hS1
end SWB
