/-! 15.model3: by program (wip/whole/src/gen.py) out of the bytecode and the specs. -/
theorem psize_f1 {v n : Int32} (h : pver v = false) : psize v n = false := by
  cases e : psize v n with
  | false => rfl
  | true => rw [(psize_and.mp e).1] at h; cases h
theorem psize_f2 {v n : Int32} (h : plen n = false) : psize v n = false := by
  cases e : psize v n with
  | false => rfl
  | true => rw [(psize_and.mp e).2] at h; cases h
theorem mmark_no {z : Mz} (h : ¬ (z.2 = false ∧ mset z.1.1 1 = true)) : mmark z = z := if_neg h
theorem mboot_w {s : Ms} (h : (mmark (msettle (s.1.1, false))).2 = true) : mboot s = mans 0 (mmark (msettle (s.1.1, false)), (0, true, 0), s.2.2.1, s.2.2.2.1, 0, 0, s.2.2.2.2.2.2.1, s.2.2.2.2.2.2.2) := by
  unfold mboot
  rw [if_pos h]
theorem mboot_ok {s : Ms} (h : (mmark (msettle (s.1.1, false))).2 = false) : mboot s = mans (pimg (mmark (msettle (s.1.1, false))).1.1 0) (mmark (msettle (s.1.1, false)), (0, true, pimg (mmark (msettle (s.1.1, false))).1.1 0), s.2.2.1, s.2.2.2.1, 0, 0, s.2.2.2.2.2.2.1, s.2.2.2.2.2.2.2) := by
  unfold mboot
  rw [if_neg (show ¬ (mmark (msettle (s.1.1, false))).2 = true by rw [h]; decide)]
def PtOkM (s : Ms) : Prop := ∃ Ln n q : Nat, s.2.2.2.1 = nI Ln ∧ s.2.2.2.2.1 = nI n ∧ s.2.2.2.2.2.1 = nI q ∧ 4 ≤ n ∧ n ≤ Ln ∧ Ln ≤ 96 ∧ q ≤ 255 + n
def mtkS (c : Nat) (s : Ms) : Ms := mtk c s.2.2.2.2.1.toNatClampNeg s.2.2.2.2.2.1.toNatClampNeg s.2.2.2.1.toNatClampNeg s
def mgo (s : Ms) : Bool := decide (¬ s.2.2.2.1 ≤ s.2.2.2.2.1 ∧ s.1.2 = false)
def mfdl (b : Int64) : Nat → Nat → Ms → Ms
  | 0, _, s => s
  | d + 1, i, s => if mgo s = true then mfdl b d (i + 1) (mtkS (pbyte b i) s) else s
termination_by d _ _ => d
theorem mfdl_0 {b : Int64} {i : Nat} {s : Ms} : mfdl b 0 i s = s := by rw [mfdl]
theorem mfdl_1 {b : Int64} {d i : Nat} {s : Ms} : mfdl b (d + 1) i s = if mgo s = true then mfdl b d (i + 1) (mtkS (pbyte b i) s) else s := by rw [mfdl]
theorem mfdl_yes {b : Int64} {N i : Nat} {s : Ms} (h : i < N) (hg : mgo s = true) : mfdl b (N - i) i s = mfdl b (N - (i + 1)) (i + 1) (mtkS (pbyte b i) s) := by
  rw [show N - i = (N - (i + 1)) + 1 by omega, mfdl_1, if_pos hg]
theorem mfdl_stop {b : Int64} {d i : Nat} {s : Ms} (hg : ¬ mgo s = true) : mfdl b d i s = s := by
  cases d with
  | zero => exact mfdl_0
  | succ d => rw [mfdl_1, if_neg hg]
def mfeed (b : Int64) (n : Int32) (s : Ms) : Int32 × Ms := if s.2.2.2.2.1 = 0 ∨ s.2.2.2.2.1 = s.2.2.2.1 ∨ n < 1 ∨ 8 < n then (-1, mr0 s) else mans (mfdl b n.toNatClampNeg 0 (mw0 (mr0 s))).2.2.2.2.1 (mfdl b n.toNatClampNeg 0 (mw0 (mr0 s)))
theorem mtkS_eq {c Ln n q : Nat} {s : Ms} (k1 : s.2.2.2.1 = nI Ln) (k2 : s.2.2.2.2.1 = nI n) (k3 : s.2.2.2.2.2.1 = nI q) (h1 : Ln < 2 ^ 31) (h2 : n < 2 ^ 31) (h3 : q < 2 ^ 31) : mtkS c s = mtk c n q Ln s := by
  unfold mtkS
  rw [k1, k2, k3, nI_clamp h1, nI_clamp h2, nI_clamp h3]
theorem mmake_ok {n Ln q : Nat} {v : Int32} {s : Ms} (k1 : s.2.2.2.1 = nI Ln) (k2 : s.2.2.2.2.1 = nI n) (k3 : s.2.2.2.2.2.1 = nI q) (k4 : 4 ≤ n) (k5 : n < Ln) (k6 : Ln ≤ 96) (k7 : q ≤ 255 + n) (hw : s.1.2 = false) : (mmake n Ln v s).2.2.2.1 = nI Ln ∧ (mmake n Ln v s).2.2.2.2.1 = nI (n + 1) ∧ (mmake n Ln v s).2.2.2.2.2.1 = nI q := by
  refine ⟨by rw [mmake_len]; exact k1, ?_, by rw [mmake_plc]; exact k3⟩
  rw [mmake_nxt k5 hw, k2]
  exact nI_1 _
theorem mmake_ok2 {n Ln q : Nat} {v : Int32} {s : Ms} (k1 : s.2.2.2.1 = nI Ln) (k2 : s.2.2.2.2.1 = nI n) (k3 : s.2.2.2.2.2.1 = nI q) (k4 : 4 ≤ n) (k5 : n < Ln) (k6 : Ln ≤ 96) (k7 : q ≤ 255 + n + 1) (k8 : s.1.2 = true → q ≤ 255 + n) : PtOkM (mmake n Ln v s) := by
  by_cases hw : s.1.2 = true
  · rw [show mmake n Ln v s = s from if_pos (Or.inr hw)]
    exact ⟨Ln, n, q, k1, k2, k3, k4, by omega, k6, k8 hw⟩
  · have hw : s.1.2 = false := by simpa using hw
    exact ⟨Ln, n + 1, q, by rw [mmake_len]; exact k1, by rw [mmake_nxt k5 hw, k2]; exact nI_1 _, by rw [mmake_plc]; exact k3, by omega, by omega, k6, by omega⟩
theorem mcopy_ok : ∀ (d n q Ln : Nat) (s : Ms), s.2.2.2.1 = nI Ln → s.2.2.2.2.1 = nI n → s.2.2.2.2.2.1 = nI q → 4 ≤ n → n ≤ Ln → Ln ≤ 96 → q ≤ 255 + n → PtOkM (mcopy d n q Ln s) := by
  intro d
  induction d with
  | zero =>
    intro n q Ln s k1 k2 k3 k4 k5 k6 k7
    rw [mcopy_0]
    exact ⟨Ln, n, q, k1, k2, k3, k4, k5, k6, k7⟩
  | succ d ih =>
    intro n q Ln s k1 k2 k3 k4 k5 k6 k7
    rw [mcopy_1]
    by_cases h : n < Ln ∧ s.1.2 = false
    · rw [if_pos h]
      exact ih (n + 1) (q + 1) Ln _ (by rw [mmake_len]; exact k1) (by rw [mmake_nxt (s := mplc s) h.1 h.2]; show s.2.2.2.2.1 + 1 = _; rw [k2]; exact nI_1 _) (by rw [mmake_plc]; show s.2.2.2.2.2.1 + 1 = _; rw [k3]; exact nI_1 _) (by omega) (by omega) k6 (by omega)
    · rw [if_neg h]
      exact ⟨Ln, n, q, k1, k2, k3, k4, k5, k6, k7⟩
theorem mtkS_ok {c : Nat} {s : Ms} (hc : c < 256) (hO : PtOkM s) (hlt : s.2.2.2.2.1 < s.2.2.2.1) (hw : s.1.2 = false) : PtOkM (mtkS c s) := by
  obtain ⟨Ln, n, q, k1, k2, k3, k4, k5, k6, k7⟩ := hO
  rw [k1, k2, nI_ltI (by omega) (by omega)] at hlt
  rw [mtkS_eq k1 k2 k3 (by omega) (by omega) (by omega)]
  unfold mtk
  split
  · unfold mcmd
    split
    · exact mcopy_ok _ n q Ln _ k1 k2 k3 k4 k5 k6 k7
    · exact ⟨Ln, n, q, k1, k2, k3, k4, k5, k6, k7⟩
  · split
    · exact ⟨Ln, n, c, k1, k2, rfl, k4, k5, k6, by omega⟩
    · split
      · exact mmake_ok2 (s := mcnt s) k1 k2 k3 k4 hlt k6 (by omega) (fun _ => k7)
      · split
        · exact mmake_ok2 (s := mcnt (mplc s)) (q := q + 1) k1 k2 (show s.2.2.2.2.2.1 + 1 = _ by rw [k3]; exact nI_1 _) k4 hlt k6 (by omega) (fun z => by rw [show (mcnt (mplc s)).1.2 = s.1.2 from rfl, hw] at z; cases z)
        · exact mmake_ok2 (s := mcnt s) k1 k2 k3 k4 hlt k6 (by omega) (fun _ => k7)
theorem pbyteM (b : Int64) {i : Nat} (hi : i < 8) : ((b >>> ((nI (i * 8)).toInt64 &&& 63)) &&& 255).toInt32 = nI (pbyte b i) := by
  unfold pbyte
  apply Int32.toBitVec_inj.mp
  rw [← pk_and _ 8 (m := 255) rfl]
  apply BitVec.eq_of_getLsbD_eq
  intro j hj
  have hs : ((nI (i * 8)).toInt64 &&& 63).toBitVec.smod 64 = BitVec.ofNat 64 (i * 8) := by
    have : ∀ n, n < 8 → ((nI (n * 8)).toInt64 &&& 63).toBitVec.smod 64 = BitVec.ofNat 64 (n * 8) := by decide +kernel
    exact this i hi
  have hu : ((nI (i * 8)).toInt64.toUInt64 &&& Int64.toUInt64 63).toBitVec % 64 = BitVec.ofNat 64 (i * 8) := by
    have : ∀ n, n < 8 → ((nI (n * 8)).toInt64.toUInt64 &&& Int64.toUInt64 63).toBitVec % 64 = BitVec.ofNat 64 (n * 8) := by decide +kernel
    exact this i hi
  have hA : (b >>> ((nI (i * 8)).toInt64 &&& 63)).toBitVec = b.toBitVec.sshiftRight (i * 8) := by
    rw [Int64.toBitVec_shiftRight, hs]
    show b.toBitVec.sshiftRight (BitVec.ofNat 64 (i * 8)).toNat = _
    rw [BitVec.toNat_ofNat, Nat.mod_eq_of_lt (by omega)]
  have hB : ((b.toUInt64 >>> ((nI (i * 8)).toInt64.toUInt64 &&& Int64.toUInt64 63)).toInt64).toBitVec = b.toBitVec >>> (i * 8) := by
    show (b.toUInt64 >>> ((nI (i * 8)).toInt64.toUInt64 &&& Int64.toUInt64 63)).toBitVec = _
    rw [UInt64.toBitVec_shiftRight, hu]
    show b.toBitVec >>> (BitVec.ofNat 64 (i * 8)).toNat = _
    rw [BitVec.toNat_ofNat, Nat.mod_eq_of_lt (by omega)]
  have c1 : ∀ n, n < 32 → (Int64.toBitVec 255).getLsbD n = decide (n < 8) := by decide +kernel
  have c2 : ∀ n, n < 32 → (Int32.toBitVec 255).getLsbD n = decide (n < 8) := by decide +kernel
  rw [Int64.toBitVec_toInt32, Int64.toBitVec_and, hA, Int32.toBitVec_and, Int64.toBitVec_toInt32, hB]
  simp only [BitVec.getLsbD_signExtend, BitVec.getLsbD_and, BitVec.getLsbD_sshiftRight, BitVec.getLsbD_ushiftRight, c1 j hj, c2 j hj]
  by_cases h8 : j < 8
  · have h1 : i * 8 + j < 64 := by omega
    simp [h8, hj, h1, show j < 64 by omega, show ¬ 64 ≤ j by omega]
  · simp [h8, show j < 64 by omega]
theorem d_M_factory_0 : decode b_M_factory 0 = .ok (.aload_n 0, 1) := by decide +kernel
theorem d_M_factory_1 : decode b_M_factory 1 = .ok (.iconst 0, 1) := by decide +kernel
theorem d_M_factory_2 : decode b_M_factory 2 = .ok (.putfield 17, 3) := by decide +kernel
theorem d_M_factory_5 : decode b_M_factory 5 = .ok (.iload_n 1, 1) := by decide +kernel
theorem d_M_factory_6 : decode b_M_factory 6 = .ok (.invokestatic 49, 3) := by decide +kernel
theorem d_M_factory_9 : decode b_M_factory 9 = .ok (.ifCond .eq 10, 3) := by decide +kernel
theorem d_M_factory_12 : decode b_M_factory 12 = .ok (.iload_n 2, 1) := by decide +kernel
theorem d_M_factory_13 : decode b_M_factory 13 = .ok (.invokestatic 53, 3) := by decide +kernel
theorem d_M_factory_16 : decode b_M_factory 16 = .ok (.ifCond .ne 5, 3) := by decide +kernel
theorem d_M_factory_19 : decode b_M_factory 19 = .ok (.iconst 0, 1) := by decide +kernel
theorem d_M_factory_20 : decode b_M_factory 20 = .ok (.ireturn, 1) := by decide +kernel
theorem d_M_factory_21 : decode b_M_factory 21 = .ok (.iconst 0, 1) := by decide +kernel
theorem d_M_factory_22 : decode b_M_factory 22 = .ok (.istore 4, 2) := by decide +kernel
theorem d_M_factory_24 : decode b_M_factory 24 = .ok (.iload 4, 2) := by decide +kernel
theorem d_M_factory_26 : decode b_M_factory 26 = .ok (.sipush 240, 3) := by decide +kernel
theorem d_M_factory_29 : decode b_M_factory 29 = .ok (.if_icmp .ge 19, 3) := by decide +kernel
theorem d_M_factory_32 : decode b_M_factory 32 = .ok (.aload_n 0, 1) := by decide +kernel
theorem d_M_factory_33 : decode b_M_factory 33 = .ok (.getfield 7, 3) := by decide +kernel
theorem d_M_factory_36 : decode b_M_factory 36 = .ok (.iload 4, 2) := by decide +kernel
theorem d_M_factory_38 : decode b_M_factory 38 = .ok (.sipush 255, 3) := by decide +kernel
theorem d_M_factory_41 : decode b_M_factory 41 = .ok (.iastore, 1) := by decide +kernel
theorem d_M_factory_42 : decode b_M_factory 42 = .ok (.iinc 4 1, 3) := by decide +kernel
theorem d_M_factory_45 : decode b_M_factory 45 = .ok (.goto (-21), 3) := by decide +kernel
theorem d_M_factory_48 : decode b_M_factory 48 = .ok (.iload_n 3, 1) := by decide +kernel
theorem d_M_factory_49 : decode b_M_factory 49 = .ok (.istore 4, 2) := by decide +kernel
theorem d_M_factory_51 : decode b_M_factory 51 = .ok (.iconst 4, 1) := by decide +kernel
theorem d_M_factory_52 : decode b_M_factory 52 = .ok (.istore 5, 2) := by decide +kernel
theorem d_M_factory_54 : decode b_M_factory 54 = .ok (.iload 5, 2) := by decide +kernel
theorem d_M_factory_56 : decode b_M_factory 56 = .ok (.iload_n 2, 1) := by decide +kernel
theorem d_M_factory_57 : decode b_M_factory 57 = .ok (.if_icmp .ge 36, 3) := by decide +kernel
theorem d_M_factory_60 : decode b_M_factory 60 = .ok (.iload 4, 2) := by decide +kernel
theorem d_M_factory_62 : decode b_M_factory 62 = .ok (.ldc 60, 2) := by decide +kernel
theorem d_M_factory_64 : decode b_M_factory 64 = .ok (.imul, 1) := by decide +kernel
theorem d_M_factory_65 : decode b_M_factory 65 = .ok (.sipush 12345, 3) := by decide +kernel
theorem d_M_factory_68 : decode b_M_factory 68 = .ok (.iadd, 1) := by decide +kernel
theorem d_M_factory_69 : decode b_M_factory 69 = .ok (.istore 4, 2) := by decide +kernel
theorem d_M_factory_71 : decode b_M_factory 71 = .ok (.aload_n 0, 1) := by decide +kernel
theorem d_M_factory_72 : decode b_M_factory 72 = .ok (.getfield 7, 3) := by decide +kernel
theorem d_M_factory_75 : decode b_M_factory 75 = .ok (.iload 5, 2) := by decide +kernel
theorem d_M_factory_77 : decode b_M_factory 77 = .ok (.iload 4, 2) := by decide +kernel
theorem d_M_factory_79 : decode b_M_factory 79 = .ok (.bipush 16, 2) := by decide +kernel
theorem d_M_factory_81 : decode b_M_factory 81 = .ok (.iushr, 1) := by decide +kernel
theorem d_M_factory_82 : decode b_M_factory 82 = .ok (.sipush 255, 3) := by decide +kernel
theorem d_M_factory_85 : decode b_M_factory 85 = .ok (.iand, 1) := by decide +kernel
theorem d_M_factory_86 : decode b_M_factory 86 = .ok (.iastore, 1) := by decide +kernel
theorem d_M_factory_87 : decode b_M_factory 87 = .ok (.iinc 5 1, 3) := by decide +kernel
theorem d_M_factory_90 : decode b_M_factory 90 = .ok (.goto (-36), 3) := by decide +kernel
theorem d_M_factory_93 : decode b_M_factory 93 = .ok (.aload_n 0, 1) := by decide +kernel
theorem d_M_factory_94 : decode b_M_factory 94 = .ok (.getfield 7, 3) := by decide +kernel
theorem d_M_factory_97 : decode b_M_factory 97 = .ok (.iconst 0, 1) := by decide +kernel
theorem d_M_factory_98 : decode b_M_factory 98 = .ok (.sipush 165, 3) := by decide +kernel
theorem d_M_factory_101 : decode b_M_factory 101 = .ok (.iastore, 1) := by decide +kernel
theorem d_M_factory_102 : decode b_M_factory 102 = .ok (.aload_n 0, 1) := by decide +kernel
theorem d_M_factory_103 : decode b_M_factory 103 = .ok (.getfield 7, 3) := by decide +kernel
theorem d_M_factory_106 : decode b_M_factory 106 = .ok (.iconst 1, 1) := by decide +kernel
theorem d_M_factory_107 : decode b_M_factory 107 = .ok (.iload_n 1, 1) := by decide +kernel
theorem d_M_factory_108 : decode b_M_factory 108 = .ok (.iastore, 1) := by decide +kernel
theorem d_M_factory_109 : decode b_M_factory 109 = .ok (.aload_n 0, 1) := by decide +kernel
theorem d_M_factory_110 : decode b_M_factory 110 = .ok (.getfield 7, 3) := by decide +kernel
theorem d_M_factory_113 : decode b_M_factory 113 = .ok (.iconst 2, 1) := by decide +kernel
theorem d_M_factory_114 : decode b_M_factory 114 = .ok (.iload_n 2, 1) := by decide +kernel
theorem d_M_factory_115 : decode b_M_factory 115 = .ok (.iastore, 1) := by decide +kernel
theorem d_M_factory_116 : decode b_M_factory 116 = .ok (.aload_n 0, 1) := by decide +kernel
theorem d_M_factory_117 : decode b_M_factory 117 = .ok (.getfield 7, 3) := by decide +kernel
theorem d_M_factory_120 : decode b_M_factory 120 = .ok (.iconst 3, 1) := by decide +kernel
theorem d_M_factory_121 : decode b_M_factory 121 = .ok (.aload_n 0, 1) := by decide +kernel
theorem d_M_factory_122 : decode b_M_factory 122 = .ok (.iconst 0, 1) := by decide +kernel
theorem d_M_factory_123 : decode b_M_factory 123 = .ok (.iload_n 1, 1) := by decide +kernel
theorem d_M_factory_124 : decode b_M_factory 124 = .ok (.iload_n 2, 1) := by decide +kernel
theorem d_M_factory_125 : decode b_M_factory 125 = .ok (.invokevirtual 56, 3) := by decide +kernel
theorem d_M_factory_128 : decode b_M_factory 128 = .ok (.iastore, 1) := by decide +kernel
theorem d_M_factory_129 : decode b_M_factory 129 = .ok (.aload_n 0, 1) := by decide +kernel
theorem d_M_factory_130 : decode b_M_factory 130 = .ok (.iconst (-1), 1) := by decide +kernel
theorem d_M_factory_131 : decode b_M_factory 131 = .ok (.putfield 13, 3) := by decide +kernel
theorem d_M_factory_134 : decode b_M_factory 134 = .ok (.aload_n 0, 1) := by decide +kernel
theorem d_M_factory_135 : decode b_M_factory 135 = .ok (.invokevirtual 46, 3) := by decide +kernel
theorem d_M_factory_138 : decode b_M_factory 138 = .ok (.iconst 1, 1) := by decide +kernel
theorem d_M_factory_139 : decode b_M_factory 139 = .ok (.ireturn, 1) := by decide +kernel
theorem d_M_boot_0 : decode b_M_boot 0 = .ok (.aload_n 0, 1) := by decide +kernel
theorem d_M_boot_1 : decode b_M_boot 1 = .ok (.iconst 0, 1) := by decide +kernel
theorem d_M_boot_2 : decode b_M_boot 2 = .ok (.putfield 17, 3) := by decide +kernel
theorem d_M_boot_5 : decode b_M_boot 5 = .ok (.aload_n 0, 1) := by decide +kernel
theorem d_M_boot_6 : decode b_M_boot 6 = .ok (.invokevirtual 46, 3) := by decide +kernel
theorem d_M_boot_9 : decode b_M_boot 9 = .ok (.aload_n 0, 1) := by decide +kernel
theorem d_M_boot_10 : decode b_M_boot 10 = .ok (.iconst 1, 1) := by decide +kernel
theorem d_M_boot_11 : decode b_M_boot 11 = .ok (.putfield 34, 3) := by decide +kernel
theorem d_M_boot_14 : decode b_M_boot 14 = .ok (.aload_n 0, 1) := by decide +kernel
theorem d_M_boot_15 : decode b_M_boot 15 = .ok (.iconst 0, 1) := by decide +kernel
theorem d_M_boot_16 : decode b_M_boot 16 = .ok (.putfield 20, 3) := by decide +kernel
theorem d_M_boot_19 : decode b_M_boot 19 = .ok (.aload_n 0, 1) := by decide +kernel
theorem d_M_boot_20 : decode b_M_boot 20 = .ok (.invokevirtual 95, 3) := by decide +kernel
theorem d_M_boot_23 : decode b_M_boot 23 = .ok (.aload_n 0, 1) := by decide +kernel
theorem d_M_boot_24 : decode b_M_boot 24 = .ok (.getfield 20, 3) := by decide +kernel
theorem d_M_boot_27 : decode b_M_boot 27 = .ok (.ifCond .ne 19, 3) := by decide +kernel
theorem d_M_boot_30 : decode b_M_boot 30 = .ok (.aload_n 0, 1) := by decide +kernel
theorem d_M_boot_31 : decode b_M_boot 31 = .ok (.iconst 1, 1) := by decide +kernel
theorem d_M_boot_32 : decode b_M_boot 32 = .ok (.invokevirtual 85, 3) := by decide +kernel
theorem d_M_boot_35 : decode b_M_boot 35 = .ok (.ifCond .eq 11, 3) := by decide +kernel
theorem d_M_boot_38 : decode b_M_boot 38 = .ok (.aload_n 0, 1) := by decide +kernel
theorem d_M_boot_39 : decode b_M_boot 39 = .ok (.sipush 211, 3) := by decide +kernel
theorem d_M_boot_42 : decode b_M_boot 42 = .ok (.iconst 0, 1) := by decide +kernel
theorem d_M_boot_43 : decode b_M_boot 43 = .ok (.invokevirtual 69, 3) := by decide +kernel
theorem d_M_boot_46 : decode b_M_boot 46 = .ok (.aload_n 0, 1) := by decide +kernel
theorem d_M_boot_47 : decode b_M_boot 47 = .ok (.getfield 20, 3) := by decide +kernel
theorem d_M_boot_50 : decode b_M_boot 50 = .ok (.ifCond .ne 12, 3) := by decide +kernel
theorem d_M_boot_53 : decode b_M_boot 53 = .ok (.aload_n 0, 1) := by decide +kernel
theorem d_M_boot_54 : decode b_M_boot 54 = .ok (.aload_n 0, 1) := by decide +kernel
theorem d_M_boot_55 : decode b_M_boot 55 = .ok (.iconst 0, 1) := by decide +kernel
theorem d_M_boot_56 : decode b_M_boot 56 = .ok (.invokevirtual 92, 3) := by decide +kernel
theorem d_M_boot_59 : decode b_M_boot 59 = .ok (.putfield 37, 3) := by decide +kernel
theorem d_M_boot_62 : decode b_M_boot 62 = .ok (.aload_n 0, 1) := by decide +kernel
theorem d_M_boot_63 : decode b_M_boot 63 = .ok (.aload_n 0, 1) := by decide +kernel
theorem d_M_boot_64 : decode b_M_boot 64 = .ok (.getfield 37, 3) := by decide +kernel
theorem d_M_boot_67 : decode b_M_boot 67 = .ok (.invokevirtual 98, 3) := by decide +kernel
theorem d_M_boot_70 : decode b_M_boot 70 = .ok (.ireturn, 1) := by decide +kernel
theorem d_M_feed_0 : decode b_M_feed 0 = .ok (.aload_n 0, 1) := by decide +kernel
theorem d_M_feed_1 : decode b_M_feed 1 = .ok (.iconst 0, 1) := by decide +kernel
theorem d_M_feed_2 : decode b_M_feed 2 = .ok (.putfield 17, 3) := by decide +kernel
theorem d_M_feed_5 : decode b_M_feed 5 = .ok (.aload_n 0, 1) := by decide +kernel
theorem d_M_feed_6 : decode b_M_feed 6 = .ok (.getfield 40, 3) := by decide +kernel
theorem d_M_feed_9 : decode b_M_feed 9 = .ok (.ifCond .eq 25, 3) := by decide +kernel
theorem d_M_feed_12 : decode b_M_feed 12 = .ok (.aload_n 0, 1) := by decide +kernel
theorem d_M_feed_13 : decode b_M_feed 13 = .ok (.getfield 40, 3) := by decide +kernel
theorem d_M_feed_16 : decode b_M_feed 16 = .ok (.aload_n 0, 1) := by decide +kernel
theorem d_M_feed_17 : decode b_M_feed 17 = .ok (.getfield 101, 3) := by decide +kernel
theorem d_M_feed_20 : decode b_M_feed 20 = .ok (.if_icmp .eq 14, 3) := by decide +kernel
theorem d_M_feed_23 : decode b_M_feed 23 = .ok (.iload_n 3, 1) := by decide +kernel
theorem d_M_feed_24 : decode b_M_feed 24 = .ok (.iconst 1, 1) := by decide +kernel
theorem d_M_feed_25 : decode b_M_feed 25 = .ok (.if_icmp .lt 9, 3) := by decide +kernel
theorem d_M_feed_28 : decode b_M_feed 28 = .ok (.iload_n 3, 1) := by decide +kernel
theorem d_M_feed_29 : decode b_M_feed 29 = .ok (.bipush 8, 2) := by decide +kernel
theorem d_M_feed_31 : decode b_M_feed 31 = .ok (.if_icmp .le 5, 3) := by decide +kernel
theorem d_M_feed_34 : decode b_M_feed 34 = .ok (.iconst (-1), 1) := by decide +kernel
theorem d_M_feed_35 : decode b_M_feed 35 = .ok (.ireturn, 1) := by decide +kernel
theorem d_M_feed_36 : decode b_M_feed 36 = .ok (.aload_n 0, 1) := by decide +kernel
theorem d_M_feed_37 : decode b_M_feed 37 = .ok (.iconst 0, 1) := by decide +kernel
theorem d_M_feed_38 : decode b_M_feed 38 = .ok (.putfield 20, 3) := by decide +kernel
theorem d_M_feed_41 : decode b_M_feed 41 = .ok (.iconst 0, 1) := by decide +kernel
theorem d_M_feed_42 : decode b_M_feed 42 = .ok (.istore 4, 2) := by decide +kernel
theorem d_M_feed_44 : decode b_M_feed 44 = .ok (.iload 4, 2) := by decide +kernel
theorem d_M_feed_46 : decode b_M_feed 46 = .ok (.iload_n 3, 1) := by decide +kernel
theorem d_M_feed_47 : decode b_M_feed 47 = .ok (.if_icmp .ge 43, 3) := by decide +kernel
theorem d_M_feed_50 : decode b_M_feed 50 = .ok (.aload_n 0, 1) := by decide +kernel
theorem d_M_feed_51 : decode b_M_feed 51 = .ok (.getfield 40, 3) := by decide +kernel
theorem d_M_feed_54 : decode b_M_feed 54 = .ok (.aload_n 0, 1) := by decide +kernel
theorem d_M_feed_55 : decode b_M_feed 55 = .ok (.getfield 101, 3) := by decide +kernel
theorem d_M_feed_58 : decode b_M_feed 58 = .ok (.if_icmp .ge 32, 3) := by decide +kernel
theorem d_M_feed_61 : decode b_M_feed 61 = .ok (.aload_n 0, 1) := by decide +kernel
theorem d_M_feed_62 : decode b_M_feed 62 = .ok (.getfield 20, 3) := by decide +kernel
theorem d_M_feed_65 : decode b_M_feed 65 = .ok (.ifCond .ne 25, 3) := by decide +kernel
theorem d_M_feed_68 : decode b_M_feed 68 = .ok (.aload_n 0, 1) := by decide +kernel
theorem d_M_feed_69 : decode b_M_feed 69 = .ok (.lload_n 1, 1) := by decide +kernel
theorem d_M_feed_70 : decode b_M_feed 70 = .ok (.bipush 8, 2) := by decide +kernel
theorem d_M_feed_72 : decode b_M_feed 72 = .ok (.iload 4, 2) := by decide +kernel
theorem d_M_feed_74 : decode b_M_feed 74 = .ok (.imul, 1) := by decide +kernel
theorem d_M_feed_75 : decode b_M_feed 75 = .ok (.lshr, 1) := by decide +kernel
theorem d_M_feed_76 : decode b_M_feed 76 = .ok (.ldc2_w 126, 3) := by decide +kernel
theorem d_M_feed_79 : decode b_M_feed 79 = .ok (.land, 1) := by decide +kernel
theorem d_M_feed_80 : decode b_M_feed 80 = .ok (.l2i, 1) := by decide +kernel
theorem d_M_feed_81 : decode b_M_feed 81 = .ok (.invokevirtual 128, 3) := by decide +kernel
theorem d_M_feed_84 : decode b_M_feed 84 = .ok (.iinc 4 1, 3) := by decide +kernel
theorem d_M_feed_87 : decode b_M_feed 87 = .ok (.goto (-43), 3) := by decide +kernel
theorem d_M_feed_90 : decode b_M_feed 90 = .ok (.aload_n 0, 1) := by decide +kernel
theorem d_M_feed_91 : decode b_M_feed 91 = .ok (.aload_n 0, 1) := by decide +kernel
theorem d_M_feed_92 : decode b_M_feed 92 = .ok (.getfield 40, 3) := by decide +kernel
theorem d_M_feed_95 : decode b_M_feed 95 = .ok (.invokevirtual 98, 3) := by decide +kernel
theorem d_M_feed_98 : decode b_M_feed 98 = .ok (.ireturn, 1) := by decide +kernel
set_option maxHeartbeats 4000000 in
set_option maxRecDepth 100000 in
theorem k_M_factory (l : Launch) (D : va_G) (cA : ClassId) (aM aG : Nat) (st : Ms) (sz : Nat) (v n sd : Int32) : Ci l y_M_factory b_M_factory 6 (some .boolean) 1 D cA (MW cA aM aG) st sz [.ref aM, .int v, .int n, .int sd] (fun r u => r = b2i (psize v n) ∧ u = mfac v n sd st) := by
  refine Ci.enter (by decide) (Nat.le_of_ble_eq_true rfl) ?_
  intro pr en s0 m0 ar bl me co A ls hx hb hml hr hlk hown hts hK hN hA hP hD hS hl
  have hl : lv_has ls 6 [(0, .ref aM), (1, .int v), (2, .int n), (3, .int sd)] := hl
  have hown : s0.vm.findClass R_M = some m0.cls := hown
  refine lv_aload_n hx hb d_M_factory_0 rfl (lv_at hl 0 rfl) ?_
  refine lv_iconst (v := 0) hx hb d_M_factory_1 (by decide) ?_
  refine va_put (D := D) (ci := 4) (v := .int (0 : Int32)) (ty := .int) (C := R_M) (T := T_M) (N := 14) hx hb hts in_M ty_M ty_M_ok nm_M hown hK hP hD hS 0 rfl rfl 0 (by decide) (hts _ wm_354) (fun _ h9 => h9) rfl (ty_M_ok 0 (by decide)) rfl rfl (Nat.le_of_ble_eq_true rfl) d_M_factory_2 (fun H locs hP hD hS => ?_)
  have hP : va_P D vwC (MW cA aM aG (((st.1.1.1, st.1.1.2.1, st.1.1.2.2.1, st.1.1.2.2.2), st.1.2), ((0 : Int32), st.2.1.2.1, st.2.1.2.2), (st.2.2.1, st.2.2.2.1, st.2.2.2.2.1, st.2.2.2.2.2.1, st.2.2.2.2.2.2.1, st.2.2.2.2.2.2.2))) H := hP
  have hD : va_D A (MW cA aM aG (((st.1.1.1, st.1.1.2.1, st.1.1.2.2.1, st.1.1.2.2.2), st.1.2), ((0 : Int32), st.2.1.2.1, st.2.1.2.2), (st.2.2.1, st.2.2.2.1, st.2.2.2.2.1, st.2.2.2.2.2.1, st.2.2.2.2.2.2.1, st.2.2.2.2.2.2.2))) := hD
  refine lv_iload_n hx hb d_M_factory_5 rfl (lv_at hl 1 rfl) ?_
  obtain ⟨v6, hv6⟩ : ∃ x : Ms, x = (((st.1.1.1, st.1.1.2.1, st.1.1.2.2.1, st.1.1.2.2.2), st.1.2), ((0 : Int32), st.2.1.2.1, st.2.1.2.2), (st.2.2.1, st.2.2.2.1, st.2.2.2.2.1, st.2.2.2.2.2.1, st.2.2.2.2.2.2.1, st.2.2.2.2.2.2.2)) := ⟨_, rfl⟩
  have hP : va_P D vwC (MW cA aM aG v6) H := by rw [hv6]; exact hP
  have hD : va_D A (MW cA aM aG v6) := by rw [hv6]; exact hD
  refine sw_callSi (rest := []) [.int v] hx hb hml hown hts hK hN hA hP hD hS (k_M_isVersion l D cA aM aG v6 _ v) cw_M_49 ⟨Nat.le_of_ble_eq_true rfl, Nat.le_of_ble_eq_true rfl⟩ hl.1 rfl rfl (Nat.le_of_ble_eq_true rfl) d_M_factory_6 (fun r6 u6 H locs hq6 hP hD hS => ?_)
  obtain ⟨hr6, hq6⟩ := hq6
  rw [hr6]
  rw [hq6] at hP hD
  refine sw_bz_eq (tgt := 19) hx hb d_M_factory_9 (by decide) (fun h9 => ?_) (fun h9 => ?_)
  · skip
    refine lv_iconst (v := 0) hx hb d_M_factory_19 (by decide) ?_
    refine sw_iret (u := v6) (v := (0 : Int32)) hx hb hr hlk hK hP hD hS d_M_factory_20 rfl ?_
    have e : psize v n = false := psize_f1 h9
    rw [e, show mfac v n sd st = mr0 st from if_neg (by rw [e]; decide), hv6]
    exact ⟨rfl, rfl⟩
  · skip
    refine lv_iload_n hx hb d_M_factory_12 rfl (lv_at hl 2 rfl) ?_
    refine sw_callSi (rest := []) [.int n] hx hb hml hown hts hK hN hA hP hD hS (k_M_isLength l D cA aM aG v6 _ n) cw_M_53 ⟨Nat.le_of_ble_eq_true rfl, Nat.le_of_ble_eq_true rfl⟩ hl.1 rfl rfl (Nat.le_of_ble_eq_true rfl) d_M_factory_13 (fun r13 u13 H locs hq13 hP hD hS => ?_)
    obtain ⟨hr13, hq13⟩ := hq13
    rw [hr13]
    rw [hq13] at hP hD
    refine sw_bz_ne (tgt := 21) hx hb d_M_factory_16 (by decide) (fun h16 => ?_) (fun h16 => ?_)
    · skip
      obtain ⟨N, hNN, hN8, hN96⟩ := plen_n h16
      have hl : lv_has ls 6 [(0, .ref aM), (1, .int v), (2, .int (nI N)), (3, .int sd)] := by rw [← hNN]; exact hl
      refine lv_iconst (v := 0) hx hb d_M_factory_21 (by decide) ?_
      refine lv_istore hx hb d_M_factory_22 hl (by decide) rfl (fun ls hl => ?_)
      have hl : lv_has ls 6 [(4, .int (0 : Int32)), (0, .ref aM), (1, .int v), (2, .int (nI N)), (3, .int sd)] := hl
      have loop : ∀ (d : Nat) (a : Nat) (u : Ms) (H : Heap) (locs : List Loc) (ls : Array Slot), 240 - a = d → a ≤ 240 → u.1.1.1 = pfill v6.1.1.1 0 a → u.1.1.2 = v6.1.1.2 → u.1.2 = v6.1.2 → u.2 = v6.2 → lv_has ls 6 [(4, .int (nI a)), (0, .ref aM), (1, .int v), (2, .int (nI N)), (3, .int sd)] → va_P D vwC (MW cA aM aG u) H → va_D A (MW cA aM aG u) → va_S A s0.heap H locs → W pr l en (lvr 1) s0 m0 ar bl me co H locs 0 0 (MQ bl (va_Qi (fun r u => r = b2i (psize v n) ∧ u = mfac v n sd st) (sw_B D cA A (MW cA aM aG)) A) ar s0 0 0 A) (F0 m0 24 ls []) := by
        intro d
        induction d using Nat.strongRecOn with
        | ind d ih =>
          intro a u H locs ls hd ha hF hG hW hE hl hP hD hS
          refine lv_iload hx hb d_M_factory_24 (lv_at hl 0 rfl) ?_
          refine lv_sipush (v := 240) hx hb d_M_factory_26 (by decide) ?_
          refine sw_nc_ge (a := a) (b := 240) (tgt := 48) hx hb (by omega) (by omega) d_M_factory_29 (by decide) (fun h29 => ?_) (fun h29 => ?_)
          · skip
            refine lv_iload_n hx hb d_M_factory_48 rfl (lv_at hl 4 rfl) ?_
            refine lv_istore hx hb d_M_factory_49 hl (by decide) rfl (fun ls hl => ?_)
            have hl : lv_has ls 6 [(4, .int sd), (0, .ref aM), (1, .int v), (2, .int (nI N)), (3, .int sd)] := hl
            refine lv_iconst (v := 4) hx hb d_M_factory_51 (by decide) ?_
            refine lv_istore hx hb d_M_factory_52 hl (by decide) rfl (fun ls hl => ?_)
            have hl : lv_has ls 6 [(5, .int (4 : Int32)), (4, .int sd), (0, .ref aM), (1, .int v), (2, .int (nI N)), (3, .int sd)] := hl
            have loop : ∀ (d : Nat) (i : Nat) (x : Int32) (w : Ms) (H : Heap) (locs : List Loc) (ls : Array Slot), N - i = d → i ≤ N → pfac w.1.1.1 (N - i) i x = pfac u.1.1.1 (N - 4) 4 sd → w.1.1.2 = u.1.1.2 → w.1.2 = u.1.2 → w.2 = u.2 → lv_has ls 6 [(5, .int (nI i)), (4, .int x), (0, .ref aM), (1, .int v), (2, .int (nI N)), (3, .int sd)] → va_P D vwC (MW cA aM aG w) H → va_D A (MW cA aM aG w) → va_S A s0.heap H locs → W pr l en (lvr 1) s0 m0 ar bl me co H locs 0 0 (MQ bl (va_Qi (fun r u => r = b2i (psize v n) ∧ u = mfac v n sd st) (sw_B D cA A (MW cA aM aG)) A) ar s0 0 0 A) (F0 m0 54 ls []) := by
              intro d
              induction d using Nat.strongRecOn with
              | ind d ih =>
                intro i x w H locs ls hd2 hi hT hG2 hW2 hE2 hl hP hD hS
                refine lv_iload hx hb d_M_factory_54 (lv_at hl 0 rfl) ?_
                refine lv_iload_n hx hb d_M_factory_56 rfl (lv_at hl 4 rfl) ?_
                refine sw_nc_ge (a := i) (b := N) (tgt := 93) hx hb (by omega) (by omega) d_M_factory_57 (by decide) (fun h57 => ?_) (fun h57 => ?_)
                · skip
                  refine lv_aload_n hx hb d_M_factory_93 rfl (lv_at hl 2 rfl) ?_
                  refine va_get (D := D) (ci := 4) (v := .ref aG) (C := R_M) (T := T_M) (N := 14) hx hb hts in_M hown hK hP 0 rfl rfl 1 (by decide) (hts _ wm_355) (fun _ h9 => h9) rfl d_M_factory_94 ?_
                  refine lv_iconst (v := 0) hx hb d_M_factory_97 (by decide) ?_
                  refine lv_sipush (v := 165) hx hb d_M_factory_98 (by decide) ?_
                  refine sw_ast (n := 0) (x := (165 : Int32)) (f := w.1.1.1) hx hb hK hP hD hS 1 0 rfl rfl (by omega) (by decide) d_M_factory_101 (fun H locs hP hD hS => ?_)
                  have hP : va_P D vwC (MW cA aM aG (((upd w.1.1.1 0 (165 : Int32), w.1.1.2.1, w.1.1.2.2.1, w.1.1.2.2.2), w.1.2), (w.2.1.1, w.2.1.2.1, w.2.1.2.2), (w.2.2.1, w.2.2.2.1, w.2.2.2.2.1, w.2.2.2.2.2.1, w.2.2.2.2.2.2.1, w.2.2.2.2.2.2.2))) H := hP
                  have hD : va_D A (MW cA aM aG (((upd w.1.1.1 0 (165 : Int32), w.1.1.2.1, w.1.1.2.2.1, w.1.1.2.2.2), w.1.2), (w.2.1.1, w.2.1.2.1, w.2.1.2.2), (w.2.2.1, w.2.2.2.1, w.2.2.2.2.1, w.2.2.2.2.2.1, w.2.2.2.2.2.2.1, w.2.2.2.2.2.2.2))) := hD
                  refine lv_aload_n hx hb d_M_factory_102 rfl (lv_at hl 2 rfl) ?_
                  refine va_get (D := D) (ci := 4) (v := .ref aG) (C := R_M) (T := T_M) (N := 14) hx hb hts in_M hown hK hP 0 rfl rfl 1 (by decide) (hts _ wm_355) (fun _ h9 => h9) rfl d_M_factory_103 ?_
                  refine lv_iconst (v := 1) hx hb d_M_factory_106 (by decide) ?_
                  refine lv_iload_n hx hb d_M_factory_107 rfl (lv_at hl 3 rfl) ?_
                  refine sw_ast (n := 1) (x := v) (f := upd w.1.1.1 0 (165 : Int32)) hx hb hK hP hD hS 1 0 rfl rfl (by omega) (by decide) d_M_factory_108 (fun H locs hP hD hS => ?_)
                  have hP : va_P D vwC (MW cA aM aG (((upd (upd w.1.1.1 0 (165 : Int32)) 1 v, w.1.1.2.1, w.1.1.2.2.1, w.1.1.2.2.2), w.1.2), (w.2.1.1, w.2.1.2.1, w.2.1.2.2), (w.2.2.1, w.2.2.2.1, w.2.2.2.2.1, w.2.2.2.2.2.1, w.2.2.2.2.2.2.1, w.2.2.2.2.2.2.2))) H := hP
                  have hD : va_D A (MW cA aM aG (((upd (upd w.1.1.1 0 (165 : Int32)) 1 v, w.1.1.2.1, w.1.1.2.2.1, w.1.1.2.2.2), w.1.2), (w.2.1.1, w.2.1.2.1, w.2.1.2.2), (w.2.2.1, w.2.2.2.1, w.2.2.2.2.1, w.2.2.2.2.2.1, w.2.2.2.2.2.2.1, w.2.2.2.2.2.2.2))) := hD
                  refine lv_aload_n hx hb d_M_factory_109 rfl (lv_at hl 2 rfl) ?_
                  refine va_get (D := D) (ci := 4) (v := .ref aG) (C := R_M) (T := T_M) (N := 14) hx hb hts in_M hown hK hP 0 rfl rfl 1 (by decide) (hts _ wm_355) (fun _ h9 => h9) rfl d_M_factory_110 ?_
                  refine lv_iconst (v := 2) hx hb d_M_factory_113 (by decide) ?_
                  refine lv_iload_n hx hb d_M_factory_114 rfl (lv_at hl 4 rfl) ?_
                  refine sw_ast (n := 2) (x := nI N) (f := upd (upd w.1.1.1 0 (165 : Int32)) 1 v) hx hb hK hP hD hS 1 0 rfl rfl (by omega) (by decide) d_M_factory_115 (fun H locs hP hD hS => ?_)
                  have hP : va_P D vwC (MW cA aM aG (((upd (upd (upd w.1.1.1 0 (165 : Int32)) 1 v) 2 (nI N), w.1.1.2.1, w.1.1.2.2.1, w.1.1.2.2.2), w.1.2), (w.2.1.1, w.2.1.2.1, w.2.1.2.2), (w.2.2.1, w.2.2.2.1, w.2.2.2.2.1, w.2.2.2.2.2.1, w.2.2.2.2.2.2.1, w.2.2.2.2.2.2.2))) H := hP
                  have hD : va_D A (MW cA aM aG (((upd (upd (upd w.1.1.1 0 (165 : Int32)) 1 v) 2 (nI N), w.1.1.2.1, w.1.1.2.2.1, w.1.1.2.2.2), w.1.2), (w.2.1.1, w.2.1.2.1, w.2.1.2.2), (w.2.2.1, w.2.2.2.1, w.2.2.2.2.1, w.2.2.2.2.2.1, w.2.2.2.2.2.2.1, w.2.2.2.2.2.2.2))) := hD
                  refine lv_aload_n hx hb d_M_factory_116 rfl (lv_at hl 2 rfl) ?_
                  refine va_get (D := D) (ci := 4) (v := .ref aG) (C := R_M) (T := T_M) (N := 14) hx hb hts in_M hown hK hP 0 rfl rfl 1 (by decide) (hts _ wm_355) (fun _ h9 => h9) rfl d_M_factory_117 ?_
                  refine lv_iconst (v := 3) hx hb d_M_factory_120 (by decide) ?_
                  refine lv_aload_n hx hb d_M_factory_121 rfl (lv_at hl 2 rfl) ?_
                  refine lv_iconst (v := 0) hx hb d_M_factory_122 (by decide) ?_
                  refine lv_iload_n hx hb d_M_factory_123 rfl (lv_at hl 3 rfl) ?_
                  refine lv_iload_n hx hb d_M_factory_124 rfl (lv_at hl 4 rfl) ?_
                  obtain ⟨v125, hv125⟩ : ∃ x : Ms, x = (((upd (upd (upd w.1.1.1 0 (165 : Int32)) 1 v) 2 (nI N), w.1.1.2.1, w.1.1.2.2.1, w.1.1.2.2.2), w.1.2), (w.2.1.1, w.2.1.2.1, w.2.1.2.2), (w.2.2.1, w.2.2.2.1, w.2.2.2.2.1, w.2.2.2.2.2.1, w.2.2.2.2.2.2.1, w.2.2.2.2.2.2.2)) := ⟨_, rfl⟩
                  have hP : va_P D vwC (MW cA aM aG v125) H := by rw [hv125]; exact hP
                  have hD : va_D A (MW cA aM aG v125) := by rw [hv125]; exact hD
                  refine sw_callVi (rest := [.int (3 : Int32), .ref aG]) 0 4 [.int (nI 0), .int v, .int (nI N)] hx hb hml hown hts hK hN hA hP hD hS (k_M_sum l D cA aM aG v125 _ 0 v N (by omega) (by omega)) cw_M_56 rfl rfl rfl ⟨Nat.le_of_ble_eq_true rfl, Nat.le_of_ble_eq_true rfl⟩ hl.1 rfl rfl (Nat.le_of_ble_eq_true rfl) d_M_factory_125 (fun r125 u125 H locs hq125 hP hD hS => ?_)
                  obtain ⟨hr125, hq125⟩ := hq125
                  rw [hr125]
                  rw [hq125] at hP hD
                  refine sw_ast (n := 3) (x := (psum v125.1.1.1 0 v N)) (f := v125.1.1.1) hx hb hK hP hD hS 1 0 rfl rfl (by omega) (by decide) d_M_factory_128 (fun H locs hP hD hS => ?_)
                  have hP : va_P D vwC (MW cA aM aG (((upd v125.1.1.1 3 (psum v125.1.1.1 0 v N), v125.1.1.2.1, v125.1.1.2.2.1, v125.1.1.2.2.2), v125.1.2), (v125.2.1.1, v125.2.1.2.1, v125.2.1.2.2), (v125.2.2.1, v125.2.2.2.1, v125.2.2.2.2.1, v125.2.2.2.2.2.1, v125.2.2.2.2.2.2.1, v125.2.2.2.2.2.2.2))) H := hP
                  have hD : va_D A (MW cA aM aG (((upd v125.1.1.1 3 (psum v125.1.1.1 0 v N), v125.1.1.2.1, v125.1.1.2.2.1, v125.1.1.2.2.2), v125.1.2), (v125.2.1.1, v125.2.1.2.1, v125.2.1.2.2), (v125.2.2.1, v125.2.2.2.1, v125.2.2.2.2.1, v125.2.2.2.2.2.1, v125.2.2.2.2.2.2.1, v125.2.2.2.2.2.2.2))) := hD
                  refine lv_aload_n hx hb d_M_factory_129 rfl (lv_at hl 2 rfl) ?_
                  refine lv_iconst (v := -1) hx hb d_M_factory_130 (by decide) ?_
                  refine va_put (D := D) (ci := 4) (v := .int (-1 : Int32)) (ty := .int) (C := R_M) (T := T_M) (N := 14) hx hb hts in_M ty_M ty_M_ok nm_M hown hK hP hD hS 0 rfl rfl 4 (by decide) (hts _ wm_358) (fun _ h9 => h9) rfl (ty_M_ok 4 (by decide)) rfl rfl (Nat.le_of_ble_eq_true rfl) d_M_factory_131 (fun H locs hP hD hS => ?_)
                  have hP : va_P D vwC (MW cA aM aG (((upd v125.1.1.1 3 (psum v125.1.1.1 0 v N), (-1 : Int32), v125.1.1.2.2.1, v125.1.1.2.2.2), v125.1.2), (v125.2.1.1, v125.2.1.2.1, v125.2.1.2.2), (v125.2.2.1, v125.2.2.2.1, v125.2.2.2.2.1, v125.2.2.2.2.2.1, v125.2.2.2.2.2.2.1, v125.2.2.2.2.2.2.2))) H := hP
                  have hD : va_D A (MW cA aM aG (((upd v125.1.1.1 3 (psum v125.1.1.1 0 v N), (-1 : Int32), v125.1.1.2.2.1, v125.1.1.2.2.2), v125.1.2), (v125.2.1.1, v125.2.1.2.1, v125.2.1.2.2), (v125.2.2.1, v125.2.2.2.1, v125.2.2.2.2.1, v125.2.2.2.2.2.1, v125.2.2.2.2.2.2.1, v125.2.2.2.2.2.2.2))) := hD
                  refine lv_aload_n hx hb d_M_factory_134 rfl (lv_at hl 2 rfl) ?_
                  obtain ⟨v135, hv135⟩ : ∃ x : Ms, x = (((upd v125.1.1.1 3 (psum v125.1.1.1 0 v N), (-1 : Int32), v125.1.1.2.2.1, v125.1.1.2.2.2), v125.1.2), (v125.2.1.1, v125.2.1.2.1, v125.2.1.2.2), (v125.2.2.1, v125.2.2.2.1, v125.2.2.2.2.1, v125.2.2.2.2.2.1, v125.2.2.2.2.2.2.1, v125.2.2.2.2.2.2.2)) := ⟨_, rfl⟩
                  have hP : va_P D vwC (MW cA aM aG v135) H := by rw [hv135]; exact hP
                  have hD : va_D A (MW cA aM aG v135) := by rw [hv135]; exact hD
                  refine sw_callVv (rest := []) 0 4 [] hx hb hml hown hts hK hN hA hP hD hS (k_M_lose l D cA aM aG v135 _) cw_M_46 rfl rfl rfl ⟨Nat.le_of_ble_eq_true rfl, Nat.le_of_ble_eq_true rfl⟩ hl.1 rfl rfl (Nat.le_of_ble_eq_true rfl) d_M_factory_135 (fun u135 H locs hq135 hP hD hS => ?_)
                  have hu135 : u135 = mlose v135 := hq135
                  refine lv_iconst (v := 1) hx hb d_M_factory_138 (by decide) ?_
                  refine sw_iret (u := u135) (v := (1 : Int32)) hx hb hr hlk hK hP hD hS d_M_factory_139 rfl ?_
                  have e : psize v n = true := psize_and.mpr ⟨h9, h16⟩
                  have hcn : n.toNatClampNeg = N := by rw [hNN]; exact nI_clamp (by omega)
                  rw [show N - i = 0 by omega, pfac_0] at hT
                  have ha2 : a = 240 := by omega
                  rw [ha2] at hF
                  have hw : w = (((pfac (pfill st.1.1.1 0 240) (N - 4) 4 sd, st.1.1.2), st.1.2), (0, st.2.1.2.1, st.2.1.2.2), st.2.2) := Prod.ext (Prod.ext (Prod.ext (by rw [hT, hF, hv6] <;> rfl) (by rw [hG2, hG, hv6] <;> rfl)) (by rw [hW2, hW, hv6] <;> rfl)) (by rw [hE2, hE, hv6] <;> rfl)
                  rw [e, show mfac v n sd st = _ from if_pos e, hcn]
                  exact ⟨rfl, by rw [hu135, hv135, hv125, hw] <;> rfl⟩
                · skip
                  refine lv_iload hx hb d_M_factory_60 (lv_at hl 1 rfl) ?_
                  refine lv_ldc (v := 1103515245) hx hb hown (hts _ wm_396) d_M_factory_62 ?_
                  refine lv_imul hx hb d_M_factory_64 ?_
                  refine lv_sipush (v := 12345) hx hb d_M_factory_65 (by decide) ?_
                  refine lv_iadd hx hb d_M_factory_68 ?_
                  refine sw_tp (y := (pnx x)) rfl ?_
                  refine lv_istore hx hb d_M_factory_69 hl (by decide) rfl (fun ls hl => ?_)
                  have hl : lv_has ls 6 [(4, .int (pnx x)), (5, .int (nI i)), (0, .ref aM), (1, .int v), (2, .int (nI N)), (3, .int sd)] := hl
                  refine lv_aload_n hx hb d_M_factory_71 rfl (lv_at hl 2 rfl) ?_
                  refine va_get (D := D) (ci := 4) (v := .ref aG) (C := R_M) (T := T_M) (N := 14) hx hb hts in_M hown hK hP 0 rfl rfl 1 (by decide) (hts _ wm_355) (fun _ h9 => h9) rfl d_M_factory_72 ?_
                  refine lv_iload hx hb d_M_factory_75 (lv_at hl 1 rfl) ?_
                  refine lv_iload hx hb d_M_factory_77 (lv_at hl 0 rfl) ?_
                  refine lv_bipush (v := 16) hx hb d_M_factory_79 (by decide) ?_
                  refine lv_iushr (v := ((pnx x).toUInt32 >>> ((16 : Int32).toUInt32 &&& Int32.toUInt32 31)).toInt32) hx hb d_M_factory_81 rfl ?_
                  refine lv_sipush (v := 255) hx hb d_M_factory_82 (by decide) ?_
                  refine lv_iand hx hb d_M_factory_85 ?_
                  refine sw_tp (y := (pbt (pnx x))) rfl ?_
                  refine sw_ast (n := i) (x := (pbt (pnx x))) (f := w.1.1.1) hx hb hK hP hD hS 1 0 rfl rfl (by omega) (by decide) d_M_factory_86 (fun H locs hP hD hS => ?_)
                  have hP : va_P D vwC (MW cA aM aG (((upd w.1.1.1 i (pbt (pnx x)), w.1.1.2.1, w.1.1.2.2.1, w.1.1.2.2.2), w.1.2), (w.2.1.1, w.2.1.2.1, w.2.1.2.2), (w.2.2.1, w.2.2.2.1, w.2.2.2.2.1, w.2.2.2.2.2.1, w.2.2.2.2.2.2.1, w.2.2.2.2.2.2.2))) H := hP
                  have hD : va_D A (MW cA aM aG (((upd w.1.1.1 i (pbt (pnx x)), w.1.1.2.1, w.1.1.2.2.1, w.1.1.2.2.2), w.1.2), (w.2.1.1, w.2.1.2.1, w.2.1.2.2), (w.2.2.1, w.2.2.2.1, w.2.2.2.2.1, w.2.2.2.2.2.1, w.2.2.2.2.2.2.1, w.2.2.2.2.2.2.2))) := hD
                  refine lv_iinc (k := 1) (v := nI (i + 1)) hx hb d_M_factory_87 hl rfl (nI_1 _) (by decide) rfl (fun ls hl => ?_)
                  have hl : lv_has ls 6 [(5, .int (nI (i + 1))), (4, .int (pnx x)), (0, .ref aM), (1, .int v), (2, .int (nI N)), (3, .int sd)] := hl
                  refine lv_goto (tgt := 54) hx hb d_M_factory_90 (by decide) ?_
                  exact ih (N - (i + 1)) (by omega) (i + 1) (pnx x) (((upd w.1.1.1 i (pbt (pnx x)), w.1.1.2.1, w.1.1.2.2.1, w.1.1.2.2.2), w.1.2), (w.2.1.1, w.2.1.2.1, w.2.1.2.2), (w.2.2.1, w.2.2.2.1, w.2.2.2.2.1, w.2.2.2.2.2.1, w.2.2.2.2.2.2.1, w.2.2.2.2.2.2.2)) _ _ _ rfl (by omega) ((pfac_s (i := i) (by omega)).symm.trans hT) hG2 hW2 hE2 (lv_sub hl [0, 1, 2, 3, 4, 5] rfl) hP hD hS
            exact loop _ 4 sd u _ _ _ rfl (by omega) rfl rfl rfl rfl (lv_sub hl [0, 1, 2, 3, 4, 5] rfl) hP hD hS
          · skip
            refine lv_aload_n hx hb d_M_factory_32 rfl (lv_at hl 1 rfl) ?_
            refine va_get (D := D) (ci := 4) (v := .ref aG) (C := R_M) (T := T_M) (N := 14) hx hb hts in_M hown hK hP 0 rfl rfl 1 (by decide) (hts _ wm_355) (fun _ h9 => h9) rfl d_M_factory_33 ?_
            refine lv_iload hx hb d_M_factory_36 (lv_at hl 0 rfl) ?_
            refine lv_sipush (v := 255) hx hb d_M_factory_38 (by decide) ?_
            refine sw_ast (n := a) (x := (255 : Int32)) (f := u.1.1.1) hx hb hK hP hD hS 1 0 rfl rfl (by omega) (by decide) d_M_factory_41 (fun H locs hP hD hS => ?_)
            have hP : va_P D vwC (MW cA aM aG (((upd u.1.1.1 a (255 : Int32), u.1.1.2.1, u.1.1.2.2.1, u.1.1.2.2.2), u.1.2), (u.2.1.1, u.2.1.2.1, u.2.1.2.2), (u.2.2.1, u.2.2.2.1, u.2.2.2.2.1, u.2.2.2.2.2.1, u.2.2.2.2.2.2.1, u.2.2.2.2.2.2.2))) H := hP
            have hD : va_D A (MW cA aM aG (((upd u.1.1.1 a (255 : Int32), u.1.1.2.1, u.1.1.2.2.1, u.1.1.2.2.2), u.1.2), (u.2.1.1, u.2.1.2.1, u.2.1.2.2), (u.2.2.1, u.2.2.2.1, u.2.2.2.2.1, u.2.2.2.2.2.1, u.2.2.2.2.2.2.1, u.2.2.2.2.2.2.2))) := hD
            refine lv_iinc (k := 0) (v := nI (a + 1)) hx hb d_M_factory_42 hl rfl (nI_1 _) (by decide) rfl (fun ls hl => ?_)
            have hl : lv_has ls 6 [(4, .int (nI (a + 1))), (0, .ref aM), (1, .int v), (2, .int (nI N)), (3, .int sd)] := hl
            refine lv_goto (tgt := 24) hx hb d_M_factory_45 (by decide) ?_
            exact ih (240 - (a + 1)) (by omega) (a + 1) (((upd u.1.1.1 a (255 : Int32), u.1.1.2.1, u.1.1.2.2.1, u.1.1.2.2.2), u.1.2), (u.2.1.1, u.2.1.2.1, u.2.1.2.2), (u.2.2.1, u.2.2.2.1, u.2.2.2.2.1, u.2.2.2.2.2.1, u.2.2.2.2.2.2.1, u.2.2.2.2.2.2.2)) _ _ _ rfl (by omega) (by rw [hF]; exact pfill_s0 _ _) hG hW hE (lv_sub hl [0, 1, 2, 3, 4] rfl) hP hD hS
      exact loop _ 0 v6 _ _ _ rfl (by omega) (pfill_0 _ _).symm rfl rfl rfl (lv_sub hl [0, 1, 2, 3, 4] rfl) hP hD hS
    · skip
      refine lv_iconst (v := 0) hx hb d_M_factory_19 (by decide) ?_
      refine sw_iret (u := v6) (v := (0 : Int32)) hx hb hr hlk hK hP hD hS d_M_factory_20 rfl ?_
      have e : psize v n = false := psize_f2 h16
      rw [e, show mfac v n sd st = mr0 st from if_neg (by rw [e]; decide), hv6]
      exact ⟨rfl, rfl⟩
set_option maxHeartbeats 4000000 in
set_option maxRecDepth 100000 in
theorem k_M_boot (l : Launch) (D : va_G) (cA : ClassId) (aM aG : Nat) (st : Ms) (sz : Nat) : Ci l y_M_boot b_M_boot 1 (some .int) 6 D cA (MW cA aM aG) st sz [.ref aM] (fun r u => r = (mboot st).1 ∧ u = (mboot st).2) := by
  refine Ci.enter (by decide) (Nat.le_of_ble_eq_true rfl) ?_
  intro pr en s0 m0 ar bl me co A ls hx hb hml hr hlk hown hts hK hN hA hP hD hS hl
  have hl : lv_has ls 1 [(0, .ref aM)] := hl
  have hown : s0.vm.findClass R_M = some m0.cls := hown
  refine lv_aload_n hx hb d_M_boot_0 rfl (lv_at hl 0 rfl) ?_
  refine lv_iconst (v := 0) hx hb d_M_boot_1 (by decide) ?_
  refine va_put (D := D) (ci := 4) (v := .int (0 : Int32)) (ty := .int) (C := R_M) (T := T_M) (N := 14) hx hb hts in_M ty_M ty_M_ok nm_M hown hK hP hD hS 0 rfl rfl 0 (by decide) (hts _ wm_354) (fun _ h9 => h9) rfl (ty_M_ok 0 (by decide)) rfl rfl (Nat.le_of_ble_eq_true rfl) d_M_boot_2 (fun H locs hP hD hS => ?_)
  have hP : va_P D vwC (MW cA aM aG (((st.1.1.1, st.1.1.2.1, st.1.1.2.2.1, st.1.1.2.2.2), st.1.2), ((0 : Int32), st.2.1.2.1, st.2.1.2.2), (st.2.2.1, st.2.2.2.1, st.2.2.2.2.1, st.2.2.2.2.2.1, st.2.2.2.2.2.2.1, st.2.2.2.2.2.2.2))) H := hP
  have hD : va_D A (MW cA aM aG (((st.1.1.1, st.1.1.2.1, st.1.1.2.2.1, st.1.1.2.2.2), st.1.2), ((0 : Int32), st.2.1.2.1, st.2.1.2.2), (st.2.2.1, st.2.2.2.1, st.2.2.2.2.1, st.2.2.2.2.2.1, st.2.2.2.2.2.2.1, st.2.2.2.2.2.2.2))) := hD
  refine lv_aload_n hx hb d_M_boot_5 rfl (lv_at hl 0 rfl) ?_
  obtain ⟨v6, hv6⟩ : ∃ x : Ms, x = (((st.1.1.1, st.1.1.2.1, st.1.1.2.2.1, st.1.1.2.2.2), st.1.2), ((0 : Int32), st.2.1.2.1, st.2.1.2.2), (st.2.2.1, st.2.2.2.1, st.2.2.2.2.1, st.2.2.2.2.2.1, st.2.2.2.2.2.2.1, st.2.2.2.2.2.2.2)) := ⟨_, rfl⟩
  have hP : va_P D vwC (MW cA aM aG v6) H := by rw [hv6]; exact hP
  have hD : va_D A (MW cA aM aG v6) := by rw [hv6]; exact hD
  refine sw_callVv (rest := []) 0 4 [] hx hb hml hown hts hK hN hA hP hD hS (k_M_lose l D cA aM aG v6 _) cw_M_46 rfl rfl rfl ⟨Nat.le_of_ble_eq_true rfl, Nat.le_of_ble_eq_true rfl⟩ hl.1 rfl rfl (Nat.le_of_ble_eq_true rfl) d_M_boot_6 (fun u6 H locs hq6 hP hD hS => ?_)
  have hu6 : u6 = mlose v6 := hq6
  refine lv_aload_n hx hb d_M_boot_9 rfl (lv_at hl 0 rfl) ?_
  refine lv_iconst (v := 1) hx hb d_M_boot_10 (by decide) ?_
  refine va_put (D := D) (ci := 4) (v := .int (1 : Int32)) (ty := .boolean) (C := R_M) (T := T_M) (N := 14) hx hb hts in_M ty_M ty_M_ok nm_M hown hK hP hD hS 0 rfl rfl 2 (by decide) (hts _ wm_356) (fun _ h9 => h9) rfl (ty_M_ok 2 (by decide)) rfl rfl (Nat.le_of_ble_eq_true rfl) d_M_boot_11 (fun H locs hP hD hS => ?_)
  have hP : va_P D vwC (MW cA aM aG (((u6.1.1.1, u6.1.1.2.1, u6.1.1.2.2.1, u6.1.1.2.2.2), u6.1.2), (u6.2.1.1, true, u6.2.1.2.2), (u6.2.2.1, u6.2.2.2.1, u6.2.2.2.2.1, u6.2.2.2.2.2.1, u6.2.2.2.2.2.2.1, u6.2.2.2.2.2.2.2))) H := hP
  have hD : va_D A (MW cA aM aG (((u6.1.1.1, u6.1.1.2.1, u6.1.1.2.2.1, u6.1.1.2.2.2), u6.1.2), (u6.2.1.1, true, u6.2.1.2.2), (u6.2.2.1, u6.2.2.2.1, u6.2.2.2.2.1, u6.2.2.2.2.2.1, u6.2.2.2.2.2.2.1, u6.2.2.2.2.2.2.2))) := hD
  refine lv_aload_n hx hb d_M_boot_14 rfl (lv_at hl 0 rfl) ?_
  refine lv_iconst (v := 0) hx hb d_M_boot_15 (by decide) ?_
  refine va_put (D := D) (ci := 4) (v := .int (0 : Int32)) (ty := .boolean) (C := R_M) (T := T_M) (N := 14) hx hb hts in_M ty_M ty_M_ok nm_M hown hK hP hD hS 0 rfl rfl 5 (by decide) (hts _ wm_359) (fun _ h9 => h9) rfl (ty_M_ok 5 (by decide)) rfl rfl (Nat.le_of_ble_eq_true rfl) d_M_boot_16 (fun H locs hP hD hS => ?_)
  have hP : va_P D vwC (MW cA aM aG (((u6.1.1.1, u6.1.1.2.1, u6.1.1.2.2.1, u6.1.1.2.2.2), false), (u6.2.1.1, true, u6.2.1.2.2), (u6.2.2.1, u6.2.2.2.1, u6.2.2.2.2.1, u6.2.2.2.2.2.1, u6.2.2.2.2.2.2.1, u6.2.2.2.2.2.2.2))) H := hP
  have hD : va_D A (MW cA aM aG (((u6.1.1.1, u6.1.1.2.1, u6.1.1.2.2.1, u6.1.1.2.2.2), false), (u6.2.1.1, true, u6.2.1.2.2), (u6.2.2.1, u6.2.2.2.1, u6.2.2.2.2.1, u6.2.2.2.2.2.1, u6.2.2.2.2.2.2.1, u6.2.2.2.2.2.2.2))) := hD
  refine lv_aload_n hx hb d_M_boot_19 rfl (lv_at hl 0 rfl) ?_
  obtain ⟨v20, hv20⟩ : ∃ x : Ms, x = (((u6.1.1.1, u6.1.1.2.1, u6.1.1.2.2.1, u6.1.1.2.2.2), false), (u6.2.1.1, true, u6.2.1.2.2), (u6.2.2.1, u6.2.2.2.1, u6.2.2.2.2.1, u6.2.2.2.2.2.1, u6.2.2.2.2.2.2.1, u6.2.2.2.2.2.2.2)) := ⟨_, rfl⟩
  have hP : va_P D vwC (MW cA aM aG v20) H := by rw [hv20]; exact hP
  have hD : va_D A (MW cA aM aG v20) := by rw [hv20]; exact hD
  refine sw_callVv (rest := []) 0 4 [] hx hb hml hown hts hK hN hA hP hD hS (k_M_settle l D cA aM aG v20 _) cw_M_95 rfl rfl rfl ⟨Nat.le_of_ble_eq_true rfl, Nat.le_of_ble_eq_true rfl⟩ hl.1 rfl rfl (Nat.le_of_ble_eq_true rfl) d_M_boot_20 (fun u20 H locs hq20 hP hD hS => ?_)
  have hu20 : u20 = (msettle v20.1, v20.2) := hq20
  refine lv_aload_n hx hb d_M_boot_23 rfl (lv_at hl 0 rfl) ?_
  refine va_get (D := D) (ci := 4) (v := .int (b2i (u20.1.2))) (C := R_M) (T := T_M) (N := 14) hx hb hts in_M hown hK hP 0 rfl rfl 5 (by decide) (hts _ wm_359) (fun _ h9 => h9) rfl d_M_boot_24 ?_
  refine sw_bz_ne (tgt := 46) hx hb d_M_boot_27 (by decide) (fun h27 => ?_) (fun h27 => ?_)
  · skip
    refine lv_aload_n hx hb d_M_boot_46 rfl (lv_at hl 0 rfl) ?_
    refine va_get (D := D) (ci := 4) (v := .int (b2i (u20.1.2))) (C := R_M) (T := T_M) (N := 14) hx hb hts in_M hown hK hP 0 rfl rfl 5 (by decide) (hts _ wm_359) (fun _ h9 => h9) rfl d_M_boot_47 ?_
    refine sw_bz_ne (tgt := 62) hx hb d_M_boot_50 (by decide) (fun h50 => ?_) (fun h50 => ?_)
    · skip
      refine lv_aload_n hx hb d_M_boot_62 rfl (lv_at hl 0 rfl) ?_
      refine lv_aload_n hx hb d_M_boot_63 rfl (lv_at hl 0 rfl) ?_
      refine va_get (D := D) (ci := 4) (v := .int u20.2.1.2.2) (C := R_M) (T := T_M) (N := 14) hx hb hts in_M hown hK hP 0 rfl rfl 3 (by decide) (hts _ wm_357) (fun _ h9 => h9) rfl d_M_boot_64 ?_
      refine sw_callVi (rest := []) 0 4 [.int u20.2.1.2.2] hx hb hml hown hts hK hN hA hP hD hS (k_M_answer l D cA aM aG u20 _ u20.2.1.2.2) cw_M_98 rfl rfl rfl ⟨Nat.le_of_ble_eq_true rfl, Nat.le_of_ble_eq_true rfl⟩ hl.1 rfl rfl (Nat.le_of_ble_eq_true rfl) d_M_boot_67 (fun r67 u67 H locs hq67 hP hD hS => ?_)
      obtain ⟨hr67, hu67⟩ := hq67
      rw [hr67]
      refine sw_iret (u := u67) (v := ((mans u20.2.1.2.2 u20).1)) hx hb hr hlk hK hP hD hS d_M_boot_70 rfl ?_
      have e20 : v20 = ((st.1.1, false), (0, true, 0), st.2.2.1, st.2.2.2.1, 0, 0, st.2.2.2.2.2.2.1, st.2.2.2.2.2.2.2) := by rw [hv20, hu6, hv6] <;> rfl
      rw [e20] at hu20
      rw [hu20] at h27
      rw [mboot_w (by rw [mmark_no (fun q => by rw [show (msettle (st.1.1, false)).2 = true from h27] at q; exact absurd q.1 (by decide))]; exact h27), mmark_no (fun q => by rw [show (msettle (st.1.1, false)).2 = true from h27] at q; exact absurd q.1 (by decide))]
      rw [hu20] at hu67 ⊢
      exact ⟨rfl, hu67⟩
    · skip
      refine lv_aload_n hx hb d_M_boot_53 rfl (lv_at hl 0 rfl) ?_
      refine lv_aload_n hx hb d_M_boot_54 rfl (lv_at hl 0 rfl) ?_
      refine lv_iconst (v := 0) hx hb d_M_boot_55 (by decide) ?_
      refine sw_callVi (rest := [.ref aM]) 0 4 [.int (nI 0)] hx hb hml hown hts hK hN hA hP hD hS (k_M_image l D cA aM aG u20 _ 0 (by omega)) cw_M_92 rfl rfl rfl ⟨Nat.le_of_ble_eq_true rfl, Nat.le_of_ble_eq_true rfl⟩ hl.1 rfl rfl (Nat.le_of_ble_eq_true rfl) d_M_boot_56 (fun r56 u56 H locs hq56 hP hD hS => ?_)
      obtain ⟨hr56, hq56⟩ := hq56
      rw [hr56]
      rw [hq56] at hP hD
      refine va_put (D := D) (ci := 4) (v := .int (pimg u20.1.1.1 0)) (ty := .int) (C := R_M) (T := T_M) (N := 14) hx hb hts in_M ty_M ty_M_ok nm_M hown hK hP hD hS 0 rfl rfl 3 (by decide) (hts _ wm_357) (fun _ h9 => h9) rfl (ty_M_ok 3 (by decide)) rfl rfl (Nat.le_of_ble_eq_true rfl) d_M_boot_59 (fun H locs hP hD hS => ?_)
      have hP : va_P D vwC (MW cA aM aG (((u20.1.1.1, u20.1.1.2.1, u20.1.1.2.2.1, u20.1.1.2.2.2), u20.1.2), (u20.2.1.1, u20.2.1.2.1, (pimg u20.1.1.1 0)), (u20.2.2.1, u20.2.2.2.1, u20.2.2.2.2.1, u20.2.2.2.2.2.1, u20.2.2.2.2.2.2.1, u20.2.2.2.2.2.2.2))) H := hP
      have hD : va_D A (MW cA aM aG (((u20.1.1.1, u20.1.1.2.1, u20.1.1.2.2.1, u20.1.1.2.2.2), u20.1.2), (u20.2.1.1, u20.2.1.2.1, (pimg u20.1.1.1 0)), (u20.2.2.1, u20.2.2.2.1, u20.2.2.2.2.1, u20.2.2.2.2.2.1, u20.2.2.2.2.2.2.1, u20.2.2.2.2.2.2.2))) := hD
      refine lv_aload_n hx hb d_M_boot_62 rfl (lv_at hl 0 rfl) ?_
      refine lv_aload_n hx hb d_M_boot_63 rfl (lv_at hl 0 rfl) ?_
      refine va_get (D := D) (ci := 4) (v := .int ((pimg u20.1.1.1 0))) (C := R_M) (T := T_M) (N := 14) hx hb hts in_M hown hK hP 0 rfl rfl 3 (by decide) (hts _ wm_357) (fun _ h9 => h9) rfl d_M_boot_64 ?_
      obtain ⟨v67, hv67⟩ : ∃ x : Ms, x = (((u20.1.1.1, u20.1.1.2.1, u20.1.1.2.2.1, u20.1.1.2.2.2), u20.1.2), (u20.2.1.1, u20.2.1.2.1, (pimg u20.1.1.1 0)), (u20.2.2.1, u20.2.2.2.1, u20.2.2.2.2.1, u20.2.2.2.2.2.1, u20.2.2.2.2.2.2.1, u20.2.2.2.2.2.2.2)) := ⟨_, rfl⟩
      have hP : va_P D vwC (MW cA aM aG v67) H := by rw [hv67]; exact hP
      have hD : va_D A (MW cA aM aG v67) := by rw [hv67]; exact hD
      refine sw_callVi (rest := []) 0 4 [.int ((pimg u20.1.1.1 0))] hx hb hml hown hts hK hN hA hP hD hS (k_M_answer l D cA aM aG v67 _ ((pimg u20.1.1.1 0))) cw_M_98 rfl rfl rfl ⟨Nat.le_of_ble_eq_true rfl, Nat.le_of_ble_eq_true rfl⟩ hl.1 rfl rfl (Nat.le_of_ble_eq_true rfl) d_M_boot_67 (fun r67 u67 H locs hq67 hP hD hS => ?_)
      obtain ⟨hr67, hu67⟩ := hq67
      rw [hr67]
      refine sw_iret (u := u67) (v := ((mans ((pimg u20.1.1.1 0)) v67).1)) hx hb hr hlk hK hP hD hS d_M_boot_70 rfl ?_
      rw [h27] at h50
      cases h50
  · skip
    refine lv_aload_n hx hb d_M_boot_30 rfl (lv_at hl 0 rfl) ?_
    refine lv_iconst (v := 1) hx hb d_M_boot_31 (by decide) ?_
    refine sw_callVi (rest := []) 0 4 [.int (nI 1)] hx hb hml hown hts hK hN hA hP hD hS (k_M_isSet l D cA aM aG u20 _ 1 (by omega)) cw_M_85 rfl rfl rfl ⟨Nat.le_of_ble_eq_true rfl, Nat.le_of_ble_eq_true rfl⟩ hl.1 rfl rfl (Nat.le_of_ble_eq_true rfl) d_M_boot_32 (fun r32 u32 H locs hq32 hP hD hS => ?_)
    obtain ⟨hr32, hq32⟩ := hq32
    rw [hr32]
    rw [hq32] at hP hD
    refine sw_bz_eq (tgt := 46) hx hb d_M_boot_35 (by decide) (fun h35 => ?_) (fun h35 => ?_)
    · skip
      refine lv_aload_n hx hb d_M_boot_46 rfl (lv_at hl 0 rfl) ?_
      refine va_get (D := D) (ci := 4) (v := .int (b2i (u20.1.2))) (C := R_M) (T := T_M) (N := 14) hx hb hts in_M hown hK hP 0 rfl rfl 5 (by decide) (hts _ wm_359) (fun _ h9 => h9) rfl d_M_boot_47 ?_
      refine sw_bz_ne (tgt := 62) hx hb d_M_boot_50 (by decide) (fun h50 => ?_) (fun h50 => ?_)
      · skip
        refine lv_aload_n hx hb d_M_boot_62 rfl (lv_at hl 0 rfl) ?_
        refine lv_aload_n hx hb d_M_boot_63 rfl (lv_at hl 0 rfl) ?_
        refine va_get (D := D) (ci := 4) (v := .int u20.2.1.2.2) (C := R_M) (T := T_M) (N := 14) hx hb hts in_M hown hK hP 0 rfl rfl 3 (by decide) (hts _ wm_357) (fun _ h9 => h9) rfl d_M_boot_64 ?_
        refine sw_callVi (rest := []) 0 4 [.int u20.2.1.2.2] hx hb hml hown hts hK hN hA hP hD hS (k_M_answer l D cA aM aG u20 _ u20.2.1.2.2) cw_M_98 rfl rfl rfl ⟨Nat.le_of_ble_eq_true rfl, Nat.le_of_ble_eq_true rfl⟩ hl.1 rfl rfl (Nat.le_of_ble_eq_true rfl) d_M_boot_67 (fun r67 u67 H locs hq67 hP hD hS => ?_)
        obtain ⟨hr67, hu67⟩ := hq67
        rw [hr67]
        refine sw_iret (u := u67) (v := ((mans u20.2.1.2.2 u20).1)) hx hb hr hlk hK hP hD hS d_M_boot_70 rfl ?_
        rw [h27] at h50
        cases h50
      · skip
        refine lv_aload_n hx hb d_M_boot_53 rfl (lv_at hl 0 rfl) ?_
        refine lv_aload_n hx hb d_M_boot_54 rfl (lv_at hl 0 rfl) ?_
        refine lv_iconst (v := 0) hx hb d_M_boot_55 (by decide) ?_
        refine sw_callVi (rest := [.ref aM]) 0 4 [.int (nI 0)] hx hb hml hown hts hK hN hA hP hD hS (k_M_image l D cA aM aG u20 _ 0 (by omega)) cw_M_92 rfl rfl rfl ⟨Nat.le_of_ble_eq_true rfl, Nat.le_of_ble_eq_true rfl⟩ hl.1 rfl rfl (Nat.le_of_ble_eq_true rfl) d_M_boot_56 (fun r56 u56 H locs hq56 hP hD hS => ?_)
        obtain ⟨hr56, hq56⟩ := hq56
        rw [hr56]
        rw [hq56] at hP hD
        refine va_put (D := D) (ci := 4) (v := .int (pimg u20.1.1.1 0)) (ty := .int) (C := R_M) (T := T_M) (N := 14) hx hb hts in_M ty_M ty_M_ok nm_M hown hK hP hD hS 0 rfl rfl 3 (by decide) (hts _ wm_357) (fun _ h9 => h9) rfl (ty_M_ok 3 (by decide)) rfl rfl (Nat.le_of_ble_eq_true rfl) d_M_boot_59 (fun H locs hP hD hS => ?_)
        have hP : va_P D vwC (MW cA aM aG (((u20.1.1.1, u20.1.1.2.1, u20.1.1.2.2.1, u20.1.1.2.2.2), u20.1.2), (u20.2.1.1, u20.2.1.2.1, (pimg u20.1.1.1 0)), (u20.2.2.1, u20.2.2.2.1, u20.2.2.2.2.1, u20.2.2.2.2.2.1, u20.2.2.2.2.2.2.1, u20.2.2.2.2.2.2.2))) H := hP
        have hD : va_D A (MW cA aM aG (((u20.1.1.1, u20.1.1.2.1, u20.1.1.2.2.1, u20.1.1.2.2.2), u20.1.2), (u20.2.1.1, u20.2.1.2.1, (pimg u20.1.1.1 0)), (u20.2.2.1, u20.2.2.2.1, u20.2.2.2.2.1, u20.2.2.2.2.2.1, u20.2.2.2.2.2.2.1, u20.2.2.2.2.2.2.2))) := hD
        refine lv_aload_n hx hb d_M_boot_62 rfl (lv_at hl 0 rfl) ?_
        refine lv_aload_n hx hb d_M_boot_63 rfl (lv_at hl 0 rfl) ?_
        refine va_get (D := D) (ci := 4) (v := .int ((pimg u20.1.1.1 0))) (C := R_M) (T := T_M) (N := 14) hx hb hts in_M hown hK hP 0 rfl rfl 3 (by decide) (hts _ wm_357) (fun _ h9 => h9) rfl d_M_boot_64 ?_
        obtain ⟨v67, hv67⟩ : ∃ x : Ms, x = (((u20.1.1.1, u20.1.1.2.1, u20.1.1.2.2.1, u20.1.1.2.2.2), u20.1.2), (u20.2.1.1, u20.2.1.2.1, (pimg u20.1.1.1 0)), (u20.2.2.1, u20.2.2.2.1, u20.2.2.2.2.1, u20.2.2.2.2.2.1, u20.2.2.2.2.2.2.1, u20.2.2.2.2.2.2.2)) := ⟨_, rfl⟩
        have hP : va_P D vwC (MW cA aM aG v67) H := by rw [hv67]; exact hP
        have hD : va_D A (MW cA aM aG v67) := by rw [hv67]; exact hD
        refine sw_callVi (rest := []) 0 4 [.int ((pimg u20.1.1.1 0))] hx hb hml hown hts hK hN hA hP hD hS (k_M_answer l D cA aM aG v67 _ ((pimg u20.1.1.1 0))) cw_M_98 rfl rfl rfl ⟨Nat.le_of_ble_eq_true rfl, Nat.le_of_ble_eq_true rfl⟩ hl.1 rfl rfl (Nat.le_of_ble_eq_true rfl) d_M_boot_67 (fun r67 u67 H locs hq67 hP hD hS => ?_)
        obtain ⟨hr67, hu67⟩ := hq67
        rw [hr67]
        refine sw_iret (u := u67) (v := ((mans ((pimg u20.1.1.1 0)) v67).1)) hx hb hr hlk hK hP hD hS d_M_boot_70 rfl ?_
        have e20 : v20 = ((st.1.1, false), (0, true, 0), st.2.2.1, st.2.2.2.1, 0, 0, st.2.2.2.2.2.2.1, st.2.2.2.2.2.2.2) := by rw [hv20, hu6, hv6] <;> rfl
        rw [e20] at hu20
        rw [hu20] at h27 h35
        have hm : mmark (msettle (st.1.1, false)) = msettle (st.1.1, false) := mmark_no (fun q => by rw [show mset (msettle (st.1.1, false)).1.1 1 = false from h35] at q; exact absurd q.2 (by decide))
        rw [mboot_ok (by rw [hm]; exact h27), hm]
        rw [hv67, hu20] at hu67 ⊢
        exact ⟨rfl, hu67⟩
    · skip
      refine lv_aload_n hx hb d_M_boot_38 rfl (lv_at hl 0 rfl) ?_
      refine lv_sipush (v := 211) hx hb d_M_boot_39 (by decide) ?_
      refine lv_iconst (v := 0) hx hb d_M_boot_42 (by decide) ?_
      refine sw_callVv (rest := []) 0 4 [.int (nI 211), .int (0 : Int32)] hx hb hml hown hts hK hN hA hP hD hS (k_M_write l D cA aM aG u20 _ 211 (0 : Int32) (by omega)) cw_M_69 rfl rfl rfl ⟨Nat.le_of_ble_eq_true rfl, Nat.le_of_ble_eq_true rfl⟩ hl.1 rfl rfl (Nat.le_of_ble_eq_true rfl) d_M_boot_43 (fun u43 H locs hq43 hP hD hS => ?_)
      have hu43 : u43 = (pwrite 211 (0 : Int32) u20.1, u20.2) := hq43
      refine lv_aload_n hx hb d_M_boot_46 rfl (lv_at hl 0 rfl) ?_
      refine va_get (D := D) (ci := 4) (v := .int (b2i (u43.1.2))) (C := R_M) (T := T_M) (N := 14) hx hb hts in_M hown hK hP 0 rfl rfl 5 (by decide) (hts _ wm_359) (fun _ h9 => h9) rfl d_M_boot_47 ?_
      refine sw_bz_ne (tgt := 62) hx hb d_M_boot_50 (by decide) (fun h50 => ?_) (fun h50 => ?_)
      · skip
        refine lv_aload_n hx hb d_M_boot_62 rfl (lv_at hl 0 rfl) ?_
        refine lv_aload_n hx hb d_M_boot_63 rfl (lv_at hl 0 rfl) ?_
        refine va_get (D := D) (ci := 4) (v := .int u43.2.1.2.2) (C := R_M) (T := T_M) (N := 14) hx hb hts in_M hown hK hP 0 rfl rfl 3 (by decide) (hts _ wm_357) (fun _ h9 => h9) rfl d_M_boot_64 ?_
        refine sw_callVi (rest := []) 0 4 [.int u43.2.1.2.2] hx hb hml hown hts hK hN hA hP hD hS (k_M_answer l D cA aM aG u43 _ u43.2.1.2.2) cw_M_98 rfl rfl rfl ⟨Nat.le_of_ble_eq_true rfl, Nat.le_of_ble_eq_true rfl⟩ hl.1 rfl rfl (Nat.le_of_ble_eq_true rfl) d_M_boot_67 (fun r67 u67 H locs hq67 hP hD hS => ?_)
        obtain ⟨hr67, hu67⟩ := hq67
        rw [hr67]
        refine sw_iret (u := u67) (v := ((mans u43.2.1.2.2 u43).1)) hx hb hr hlk hK hP hD hS d_M_boot_70 rfl ?_
        have e20 : v20 = ((st.1.1, false), (0, true, 0), st.2.2.1, st.2.2.2.1, 0, 0, st.2.2.2.2.2.2.1, st.2.2.2.2.2.2.2) := by rw [hv20, hu6, hv6] <;> rfl
        rw [e20] at hu20
        rw [hu20] at h27 h35
        have hm : mmark (msettle (st.1.1, false)) = pwrite 211 0 (msettle (st.1.1, false)) := if_pos ⟨h27, h35⟩
        rw [hu43, hu20] at h50
        rw [mboot_w (by rw [hm]; exact h50), hm]
        rw [hu43, hu20] at hu67 ⊢
        exact ⟨rfl, hu67⟩
      · skip
        refine lv_aload_n hx hb d_M_boot_53 rfl (lv_at hl 0 rfl) ?_
        refine lv_aload_n hx hb d_M_boot_54 rfl (lv_at hl 0 rfl) ?_
        refine lv_iconst (v := 0) hx hb d_M_boot_55 (by decide) ?_
        refine sw_callVi (rest := [.ref aM]) 0 4 [.int (nI 0)] hx hb hml hown hts hK hN hA hP hD hS (k_M_image l D cA aM aG u43 _ 0 (by omega)) cw_M_92 rfl rfl rfl ⟨Nat.le_of_ble_eq_true rfl, Nat.le_of_ble_eq_true rfl⟩ hl.1 rfl rfl (Nat.le_of_ble_eq_true rfl) d_M_boot_56 (fun r56 u56 H locs hq56 hP hD hS => ?_)
        obtain ⟨hr56, hq56⟩ := hq56
        rw [hr56]
        rw [hq56] at hP hD
        refine va_put (D := D) (ci := 4) (v := .int (pimg u43.1.1.1 0)) (ty := .int) (C := R_M) (T := T_M) (N := 14) hx hb hts in_M ty_M ty_M_ok nm_M hown hK hP hD hS 0 rfl rfl 3 (by decide) (hts _ wm_357) (fun _ h9 => h9) rfl (ty_M_ok 3 (by decide)) rfl rfl (Nat.le_of_ble_eq_true rfl) d_M_boot_59 (fun H locs hP hD hS => ?_)
        have hP : va_P D vwC (MW cA aM aG (((u43.1.1.1, u43.1.1.2.1, u43.1.1.2.2.1, u43.1.1.2.2.2), u43.1.2), (u43.2.1.1, u43.2.1.2.1, (pimg u43.1.1.1 0)), (u43.2.2.1, u43.2.2.2.1, u43.2.2.2.2.1, u43.2.2.2.2.2.1, u43.2.2.2.2.2.2.1, u43.2.2.2.2.2.2.2))) H := hP
        have hD : va_D A (MW cA aM aG (((u43.1.1.1, u43.1.1.2.1, u43.1.1.2.2.1, u43.1.1.2.2.2), u43.1.2), (u43.2.1.1, u43.2.1.2.1, (pimg u43.1.1.1 0)), (u43.2.2.1, u43.2.2.2.1, u43.2.2.2.2.1, u43.2.2.2.2.2.1, u43.2.2.2.2.2.2.1, u43.2.2.2.2.2.2.2))) := hD
        refine lv_aload_n hx hb d_M_boot_62 rfl (lv_at hl 0 rfl) ?_
        refine lv_aload_n hx hb d_M_boot_63 rfl (lv_at hl 0 rfl) ?_
        refine va_get (D := D) (ci := 4) (v := .int ((pimg u43.1.1.1 0))) (C := R_M) (T := T_M) (N := 14) hx hb hts in_M hown hK hP 0 rfl rfl 3 (by decide) (hts _ wm_357) (fun _ h9 => h9) rfl d_M_boot_64 ?_
        obtain ⟨v67, hv67⟩ : ∃ x : Ms, x = (((u43.1.1.1, u43.1.1.2.1, u43.1.1.2.2.1, u43.1.1.2.2.2), u43.1.2), (u43.2.1.1, u43.2.1.2.1, (pimg u43.1.1.1 0)), (u43.2.2.1, u43.2.2.2.1, u43.2.2.2.2.1, u43.2.2.2.2.2.1, u43.2.2.2.2.2.2.1, u43.2.2.2.2.2.2.2)) := ⟨_, rfl⟩
        have hP : va_P D vwC (MW cA aM aG v67) H := by rw [hv67]; exact hP
        have hD : va_D A (MW cA aM aG v67) := by rw [hv67]; exact hD
        refine sw_callVi (rest := []) 0 4 [.int ((pimg u43.1.1.1 0))] hx hb hml hown hts hK hN hA hP hD hS (k_M_answer l D cA aM aG v67 _ ((pimg u43.1.1.1 0))) cw_M_98 rfl rfl rfl ⟨Nat.le_of_ble_eq_true rfl, Nat.le_of_ble_eq_true rfl⟩ hl.1 rfl rfl (Nat.le_of_ble_eq_true rfl) d_M_boot_67 (fun r67 u67 H locs hq67 hP hD hS => ?_)
        obtain ⟨hr67, hu67⟩ := hq67
        rw [hr67]
        refine sw_iret (u := u67) (v := ((mans ((pimg u43.1.1.1 0)) v67).1)) hx hb hr hlk hK hP hD hS d_M_boot_70 rfl ?_
        have e20 : v20 = ((st.1.1, false), (0, true, 0), st.2.2.1, st.2.2.2.1, 0, 0, st.2.2.2.2.2.2.1, st.2.2.2.2.2.2.2) := by rw [hv20, hu6, hv6] <;> rfl
        rw [e20] at hu20
        rw [hu20] at h27 h35
        have hm : mmark (msettle (st.1.1, false)) = pwrite 211 0 (msettle (st.1.1, false)) := if_pos ⟨h27, h35⟩
        rw [hu43, hu20] at h50
        rw [mboot_ok (by rw [hm]; exact h50), hm]
        rw [hv67, hu43, hu20] at hu67 ⊢
        exact ⟨rfl, hu67⟩
set_option maxHeartbeats 4000000 in
set_option maxRecDepth 100000 in
theorem k_M_feed (l : Launch) (D : va_G) (cA : ClassId) (aM aG : Nat) (st : Ms) (sz : Nat) (b : Int64) (n : Int32) (hok : ¬ st.2.2.2.2.1 = 0 → PtOkM st) : Ci l y_M_feed b_M_feed 5 (some .int) 6 D cA (MW cA aM aG) st sz [.ref aM, .long b, .int n] (fun r u => r = (mfeed b n st).1 ∧ u = (mfeed b n st).2) := by
  refine Ci.enter (by decide) (Nat.le_of_ble_eq_true rfl) ?_
  intro pr en s0 m0 ar bl me co A ls hx hb hml hr hlk hown hts hK hN hA hP hD hS hl
  have hl : lv_has ls 5 [(0, .ref aM), (1, .long b), (3, .int n)] := hl
  have hown : s0.vm.findClass R_M = some m0.cls := hown
  refine lv_aload_n hx hb d_M_feed_0 rfl (lv_at hl 0 rfl) ?_
  refine lv_iconst (v := 0) hx hb d_M_feed_1 (by decide) ?_
  refine va_put (D := D) (ci := 4) (v := .int (0 : Int32)) (ty := .int) (C := R_M) (T := T_M) (N := 14) hx hb hts in_M ty_M ty_M_ok nm_M hown hK hP hD hS 0 rfl rfl 0 (by decide) (hts _ wm_354) (fun _ h9 => h9) rfl (ty_M_ok 0 (by decide)) rfl rfl (Nat.le_of_ble_eq_true rfl) d_M_feed_2 (fun H locs hP hD hS => ?_)
  have hP : va_P D vwC (MW cA aM aG (((st.1.1.1, st.1.1.2.1, st.1.1.2.2.1, st.1.1.2.2.2), st.1.2), ((0 : Int32), st.2.1.2.1, st.2.1.2.2), (st.2.2.1, st.2.2.2.1, st.2.2.2.2.1, st.2.2.2.2.2.1, st.2.2.2.2.2.2.1, st.2.2.2.2.2.2.2))) H := hP
  have hD : va_D A (MW cA aM aG (((st.1.1.1, st.1.1.2.1, st.1.1.2.2.1, st.1.1.2.2.2), st.1.2), ((0 : Int32), st.2.1.2.1, st.2.1.2.2), (st.2.2.1, st.2.2.2.1, st.2.2.2.2.1, st.2.2.2.2.2.1, st.2.2.2.2.2.2.1, st.2.2.2.2.2.2.2))) := hD
  refine lv_aload_n hx hb d_M_feed_5 rfl (lv_at hl 0 rfl) ?_
  refine va_get (D := D) (ci := 4) (v := .int st.2.2.2.2.1) (C := R_M) (T := T_M) (N := 14) hx hb hts in_M hown hK hP 0 rfl rfl 8 (by decide) (hts _ wm_362) (fun _ h9 => h9) rfl d_M_feed_6 ?_
  refine lv_if_eq (tgt := 34) hx hb d_M_feed_9 (by decide) (fun h9 => ?_) (fun h9 => ?_)
  · skip
    refine lv_iconst (v := -1) hx hb d_M_feed_34 (by decide) ?_
    refine sw_iret (u := (((st.1.1.1, st.1.1.2.1, st.1.1.2.2.1, st.1.1.2.2.2), st.1.2), ((0 : Int32), st.2.1.2.1, st.2.1.2.2), (st.2.2.1, st.2.2.2.1, st.2.2.2.2.1, st.2.2.2.2.2.1, st.2.2.2.2.2.2.1, st.2.2.2.2.2.2.2))) (v := (-1 : Int32)) hx hb hr hlk hK hP hD hS d_M_feed_35 rfl ?_
    rw [show mfeed b n st = _ from if_pos (Or.inl h9)]
    exact ⟨rfl, rfl⟩
  · skip
    refine lv_aload_n hx hb d_M_feed_12 rfl (lv_at hl 0 rfl) ?_
    refine va_get (D := D) (ci := 4) (v := .int st.2.2.2.2.1) (C := R_M) (T := T_M) (N := 14) hx hb hts in_M hown hK hP 0 rfl rfl 8 (by decide) (hts _ wm_362) (fun _ h9 => h9) rfl d_M_feed_13 ?_
    refine lv_aload_n hx hb d_M_feed_16 rfl (lv_at hl 0 rfl) ?_
    refine va_get (D := D) (ci := 4) (v := .int st.2.2.2.1) (C := R_M) (T := T_M) (N := 14) hx hb hts in_M hown hK hP 0 rfl rfl 9 (by decide) (hts _ wm_363) (fun _ h9 => h9) rfl d_M_feed_17 ?_
    refine lv_icmp_eq (tgt := 34) hx hb d_M_feed_20 (by decide) (fun h20 => ?_) (fun h20 => ?_)
    · skip
      refine lv_iconst (v := -1) hx hb d_M_feed_34 (by decide) ?_
      refine sw_iret (u := (((st.1.1.1, st.1.1.2.1, st.1.1.2.2.1, st.1.1.2.2.2), st.1.2), ((0 : Int32), st.2.1.2.1, st.2.1.2.2), (st.2.2.1, st.2.2.2.1, st.2.2.2.2.1, st.2.2.2.2.2.1, st.2.2.2.2.2.2.1, st.2.2.2.2.2.2.2))) (v := (-1 : Int32)) hx hb hr hlk hK hP hD hS d_M_feed_35 rfl ?_
      rw [show mfeed b n st = _ from if_pos (Or.inr (Or.inl h20))]
      exact ⟨rfl, rfl⟩
    · skip
      refine lv_iload_n hx hb d_M_feed_23 rfl (lv_at hl 2 rfl) ?_
      refine lv_iconst (v := 1) hx hb d_M_feed_24 (by decide) ?_
      refine lv_icmp_lt (tgt := 34) hx hb d_M_feed_25 (by decide) (fun h25 => ?_) (fun h25 => ?_)
      · skip
        refine lv_iconst (v := -1) hx hb d_M_feed_34 (by decide) ?_
        refine sw_iret (u := (((st.1.1.1, st.1.1.2.1, st.1.1.2.2.1, st.1.1.2.2.2), st.1.2), ((0 : Int32), st.2.1.2.1, st.2.1.2.2), (st.2.2.1, st.2.2.2.1, st.2.2.2.2.1, st.2.2.2.2.2.1, st.2.2.2.2.2.2.1, st.2.2.2.2.2.2.2))) (v := (-1 : Int32)) hx hb hr hlk hK hP hD hS d_M_feed_35 rfl ?_
        rw [show mfeed b n st = _ from if_pos (Or.inr (Or.inr (Or.inl h25)))]
        exact ⟨rfl, rfl⟩
      · skip
        refine lv_iload_n hx hb d_M_feed_28 rfl (lv_at hl 2 rfl) ?_
        refine lv_bipush (v := 8) hx hb d_M_feed_29 (by decide) ?_
        refine lv_icmp_le (tgt := 36) hx hb d_M_feed_31 (by decide) (fun h31 => ?_) (fun h31 => ?_)
        · skip
          obtain ⟨N, hNN, hN8⟩ : ∃ k : Nat, n = nI k ∧ k ≤ 8 := n18 h25 (i32_nlt h31)
          have hl : lv_has ls 5 [(0, .ref aM), (1, .long b), (3, .int (nI N))] := by rw [← hNN]; exact hl
          refine lv_aload_n hx hb d_M_feed_36 rfl (lv_at hl 0 rfl) ?_
          refine lv_iconst (v := 0) hx hb d_M_feed_37 (by decide) ?_
          refine va_put (D := D) (ci := 4) (v := .int (0 : Int32)) (ty := .boolean) (C := R_M) (T := T_M) (N := 14) hx hb hts in_M ty_M ty_M_ok nm_M hown hK hP hD hS 0 rfl rfl 5 (by decide) (hts _ wm_359) (fun _ h9 => h9) rfl (ty_M_ok 5 (by decide)) rfl rfl (Nat.le_of_ble_eq_true rfl) d_M_feed_38 (fun H locs hP hD hS => ?_)
          have hP : va_P D vwC (MW cA aM aG (((st.1.1.1, st.1.1.2.1, st.1.1.2.2.1, st.1.1.2.2.2), false), ((0 : Int32), st.2.1.2.1, st.2.1.2.2), (st.2.2.1, st.2.2.2.1, st.2.2.2.2.1, st.2.2.2.2.2.1, st.2.2.2.2.2.2.1, st.2.2.2.2.2.2.2))) H := hP
          have hD : va_D A (MW cA aM aG (((st.1.1.1, st.1.1.2.1, st.1.1.2.2.1, st.1.1.2.2.2), false), ((0 : Int32), st.2.1.2.1, st.2.1.2.2), (st.2.2.1, st.2.2.2.1, st.2.2.2.2.1, st.2.2.2.2.2.1, st.2.2.2.2.2.2.1, st.2.2.2.2.2.2.2))) := hD
          refine lv_iconst (v := 0) hx hb d_M_feed_41 (by decide) ?_
          refine lv_istore hx hb d_M_feed_42 hl (by decide) rfl (fun ls hl => ?_)
          have hl : lv_has ls 5 [(4, .int (0 : Int32)), (0, .ref aM), (1, .long b), (3, .int (nI N))] := hl
          have loop : ∀ (d : Nat) (i : Nat) (u : Ms) (H : Heap) (locs : List Loc) (ls : Array Slot), N - i = d → i ≤ N → mfdl b (N - i) i u = mfdl b N 0 (mw0 (mr0 st)) → PtOkM u → lv_has ls 5 [(4, .int (nI i)), (0, .ref aM), (1, .long b), (3, .int (nI N))] → va_P D vwC (MW cA aM aG u) H → va_D A (MW cA aM aG u) → va_S A s0.heap H locs → W pr l en (lvr 6) s0 m0 ar bl me co H locs 0 0 (MQ bl (va_Qi (fun r u => r = (mfeed b n st).1 ∧ u = (mfeed b n st).2) (sw_B D cA A (MW cA aM aG)) A) ar s0 0 0 A) (F0 m0 44 ls []) := by
            intro d
            induction d using Nat.strongRecOn with
            | ind d ih =>
              intro i u H locs ls hd hi hT hO hl hP hD hS
              refine lv_iload hx hb d_M_feed_44 (lv_at hl 0 rfl) ?_
              refine lv_iload_n hx hb d_M_feed_46 rfl (lv_at hl 3 rfl) ?_
              refine sw_nc_ge (a := i) (b := N) (tgt := 90) hx hb (by omega) (by omega) d_M_feed_47 (by decide) (fun h47 => ?_) (fun h47 => ?_)
              · skip
                refine lv_aload_n hx hb d_M_feed_90 rfl (lv_at hl 1 rfl) ?_
                refine lv_aload_n hx hb d_M_feed_91 rfl (lv_at hl 1 rfl) ?_
                refine va_get (D := D) (ci := 4) (v := .int u.2.2.2.2.1) (C := R_M) (T := T_M) (N := 14) hx hb hts in_M hown hK hP 0 rfl rfl 8 (by decide) (hts _ wm_362) (fun _ h9 => h9) rfl d_M_feed_92 ?_
                refine sw_callVi (rest := []) 0 4 [.int u.2.2.2.2.1] hx hb hml hown hts hK hN hA hP hD hS (k_M_answer l D cA aM aG u _ u.2.2.2.2.1) cw_M_98 rfl rfl rfl ⟨Nat.le_of_ble_eq_true rfl, Nat.le_of_ble_eq_true rfl⟩ hl.1 rfl rfl (Nat.le_of_ble_eq_true rfl) d_M_feed_95 (fun r95 u95 H locs hq95 hP hD hS => ?_)
                obtain ⟨hr95, hu95⟩ := hq95
                rw [hr95]
                refine sw_iret (u := u95) (v := ((mans u.2.2.2.2.1 u).1)) hx hb hr hlk hK hP hD hS d_M_feed_98 rfl ?_
                have hz : mfdl b (N - i) i u = u := by rw [show N - i = 0 by omega, mfdl_0]
                have hcn : n.toNatClampNeg = N := by rw [hNN]; exact nI_clamp (by omega)
                rw [show mfeed b n st = _ from if_neg (fun q => q.elim h9 (fun q => q.elim h20 (fun q => q.elim h25 (fun q => i32_nlt h31 q)))), hcn, ← hT, hz]
                exact ⟨rfl, hu95⟩
              · skip
                refine lv_aload_n hx hb d_M_feed_50 rfl (lv_at hl 1 rfl) ?_
                refine va_get (D := D) (ci := 4) (v := .int u.2.2.2.2.1) (C := R_M) (T := T_M) (N := 14) hx hb hts in_M hown hK hP 0 rfl rfl 8 (by decide) (hts _ wm_362) (fun _ h9 => h9) rfl d_M_feed_51 ?_
                refine lv_aload_n hx hb d_M_feed_54 rfl (lv_at hl 1 rfl) ?_
                refine va_get (D := D) (ci := 4) (v := .int u.2.2.2.1) (C := R_M) (T := T_M) (N := 14) hx hb hts in_M hown hK hP 0 rfl rfl 9 (by decide) (hts _ wm_363) (fun _ h9 => h9) rfl d_M_feed_55 ?_
                refine lv_icmp_ge (tgt := 90) hx hb d_M_feed_58 (by decide) (fun h58 => ?_) (fun h58 => ?_)
                · skip
                  refine lv_aload_n hx hb d_M_feed_90 rfl (lv_at hl 1 rfl) ?_
                  refine lv_aload_n hx hb d_M_feed_91 rfl (lv_at hl 1 rfl) ?_
                  refine va_get (D := D) (ci := 4) (v := .int u.2.2.2.2.1) (C := R_M) (T := T_M) (N := 14) hx hb hts in_M hown hK hP 0 rfl rfl 8 (by decide) (hts _ wm_362) (fun _ h9 => h9) rfl d_M_feed_92 ?_
                  refine sw_callVi (rest := []) 0 4 [.int u.2.2.2.2.1] hx hb hml hown hts hK hN hA hP hD hS (k_M_answer l D cA aM aG u _ u.2.2.2.2.1) cw_M_98 rfl rfl rfl ⟨Nat.le_of_ble_eq_true rfl, Nat.le_of_ble_eq_true rfl⟩ hl.1 rfl rfl (Nat.le_of_ble_eq_true rfl) d_M_feed_95 (fun r95 u95 H locs hq95 hP hD hS => ?_)
                  obtain ⟨hr95, hu95⟩ := hq95
                  rw [hr95]
                  refine sw_iret (u := u95) (v := ((mans u.2.2.2.2.1 u).1)) hx hb hr hlk hK hP hD hS d_M_feed_98 rfl ?_
                  have hz : mfdl b (N - i) i u = u := mfdl_stop (fun q => (of_decide_eq_true q).1 h58)
                  have hcn : n.toNatClampNeg = N := by rw [hNN]; exact nI_clamp (by omega)
                  rw [show mfeed b n st = _ from if_neg (fun q => q.elim h9 (fun q => q.elim h20 (fun q => q.elim h25 (fun q => i32_nlt h31 q)))), hcn, ← hT, hz]
                  exact ⟨rfl, hu95⟩
                · skip
                  refine lv_aload_n hx hb d_M_feed_61 rfl (lv_at hl 1 rfl) ?_
                  refine va_get (D := D) (ci := 4) (v := .int (b2i (u.1.2))) (C := R_M) (T := T_M) (N := 14) hx hb hts in_M hown hK hP 0 rfl rfl 5 (by decide) (hts _ wm_359) (fun _ h9 => h9) rfl d_M_feed_62 ?_
                  refine sw_bz_ne (tgt := 90) hx hb d_M_feed_65 (by decide) (fun h65 => ?_) (fun h65 => ?_)
                  · skip
                    refine lv_aload_n hx hb d_M_feed_90 rfl (lv_at hl 1 rfl) ?_
                    refine lv_aload_n hx hb d_M_feed_91 rfl (lv_at hl 1 rfl) ?_
                    refine va_get (D := D) (ci := 4) (v := .int u.2.2.2.2.1) (C := R_M) (T := T_M) (N := 14) hx hb hts in_M hown hK hP 0 rfl rfl 8 (by decide) (hts _ wm_362) (fun _ h9 => h9) rfl d_M_feed_92 ?_
                    refine sw_callVi (rest := []) 0 4 [.int u.2.2.2.2.1] hx hb hml hown hts hK hN hA hP hD hS (k_M_answer l D cA aM aG u _ u.2.2.2.2.1) cw_M_98 rfl rfl rfl ⟨Nat.le_of_ble_eq_true rfl, Nat.le_of_ble_eq_true rfl⟩ hl.1 rfl rfl (Nat.le_of_ble_eq_true rfl) d_M_feed_95 (fun r95 u95 H locs hq95 hP hD hS => ?_)
                    obtain ⟨hr95, hu95⟩ := hq95
                    rw [hr95]
                    refine sw_iret (u := u95) (v := ((mans u.2.2.2.2.1 u).1)) hx hb hr hlk hK hP hD hS d_M_feed_98 rfl ?_
                    have hz : mfdl b (N - i) i u = u := mfdl_stop (fun q => by have q2 := (of_decide_eq_true q).2; rw [h65] at q2; cases q2)
                    have hcn : n.toNatClampNeg = N := by rw [hNN]; exact nI_clamp (by omega)
                    rw [show mfeed b n st = _ from if_neg (fun q => q.elim h9 (fun q => q.elim h20 (fun q => q.elim h25 (fun q => i32_nlt h31 q)))), hcn, ← hT, hz]
                    exact ⟨rfl, hu95⟩
                  · skip
                    obtain ⟨Ln, n1, q1, k1, k2, k3, k4, k5, k6, k7⟩ := hO
                    have kn : n1 < Ln := by rw [k1, k2, nI_leI (by omega) (by omega)] at h58; omega
                    refine lv_aload_n hx hb d_M_feed_68 rfl (lv_at hl 1 rfl) ?_
                    refine lv_lload_n hx hb d_M_feed_69 rfl (lv_at hl 2 rfl) ?_
                    refine lv_bipush (v := 8) hx hb d_M_feed_70 (by decide) ?_
                    refine lv_iload hx hb d_M_feed_72 (lv_at hl 0 rfl) ?_
                    refine lv_imul hx hb d_M_feed_74 ?_
                    refine sw_tp (y := nI (i * 8)) ((pk_mul 8 i).trans (niE (by omega))) ?_
                    refine lv_lshr (v := b >>> ((nI (i * 8)).toInt64 &&& 63)) hx hb d_M_feed_75 rfl ?_
                    refine lv_ldc2 (v := 255) hx hb hown (hts _ wm_466) d_M_feed_76 ?_
                    refine lv_land hx hb d_M_feed_79 ?_
                    refine lv_l2i (v := ((b >>> ((nI (i * 8)).toInt64 &&& 63)) &&& (255 : Int64)).toInt32) hx hb d_M_feed_80 rfl ?_
                    refine sw_tp (y := nI (pbyte b i)) (pbyteM b (by omega)) ?_
                    refine sw_callVv (rest := []) 0 4 [.int (nI (pbyte b i))] hx hb hml hown hts hK hN hA hP hD hS (k_M_take l D cA aM aG u _ (pbyte b i) n1 q1 Ln (pbyte_lt b i) k2 k3 k1 (by omega) k6 (by omega) (by omega)) cw_M_128 rfl rfl rfl ⟨Nat.le_of_ble_eq_true rfl, Nat.le_of_ble_eq_true rfl⟩ hl.1 rfl rfl (Nat.le_of_ble_eq_true rfl) d_M_feed_81 (fun u81 H locs hq81 hP hD hS => ?_)
                    have hu81 : u81 = mtk (pbyte b i) n1 q1 Ln u := hq81
                    refine lv_iinc (k := 0) (v := nI (i + 1)) hx hb d_M_feed_84 hl rfl (nI_1 _) (by decide) rfl (fun ls hl => ?_)
                    have hl : lv_has ls 5 [(4, .int (nI (i + 1))), (0, .ref aM), (1, .long b), (3, .int (nI N))] := hl
                    refine lv_goto (tgt := 44) hx hb d_M_feed_87 (by decide) ?_
                    have ek := mtkS_eq (c := pbyte b i) k1 k2 k3 (by omega) (by omega) (by omega)
                    rw [← ek] at hu81
                    exact ih (N - (i + 1)) (by omega) (i + 1) u81 _ _ _ rfl (by omega) (by rw [← hT, mfdl_yes (i := i) (by omega) (decide_eq_true ⟨h58, h65⟩), hu81]) (by rw [hu81]; exact mtkS_ok (pbyte_lt b i) ⟨Ln, n1, q1, k1, k2, k3, k4, k5, k6, k7⟩ (i32_lt h58) h65) (lv_sub hl [0, 1, 2, 3] rfl) hP hD hS
          exact loop _ 0 (((st.1.1.1, st.1.1.2.1, st.1.1.2.2.1, st.1.1.2.2.2), false), ((0 : Int32), st.2.1.2.1, st.2.1.2.2), (st.2.2.1, st.2.2.2.1, st.2.2.2.2.1, st.2.2.2.2.2.1, st.2.2.2.2.2.2.1, st.2.2.2.2.2.2.2)) _ _ _ rfl (by omega) rfl (hok h9) (lv_sub hl [0, 1, 2, 3] rfl) hP hD hS
        · skip
          refine lv_iconst (v := -1) hx hb d_M_feed_34 (by decide) ?_
          refine sw_iret (u := (((st.1.1.1, st.1.1.2.1, st.1.1.2.2.1, st.1.1.2.2.2), st.1.2), ((0 : Int32), st.2.1.2.1, st.2.1.2.2), (st.2.2.1, st.2.2.2.1, st.2.2.2.2.1, st.2.2.2.2.2.1, st.2.2.2.2.2.2.1, st.2.2.2.2.2.2.2))) (v := (-1 : Int32)) hx hb hr hlk hK hP hD hS d_M_feed_35 rfl ?_
          rw [show mfeed b n st = _ from if_pos (Or.inr (Or.inr (Or.inr (i32_lt h31))))]
          exact ⟨rfl, rfl⟩
