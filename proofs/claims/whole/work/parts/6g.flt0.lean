/-! floats: bits to value -/
theorem fl_vf {a : UInt32} (h : FP.Core.val32 a ≠ .nan) : vf_n32 a := by
  unfold vf_n32
  rw [UInt32.le_iff_toNat_le, FP.Core.mask_toNat32]
  exact (FP.Core.ne_nan32 a).mp h
/-- the number c * 2^k, rounded -/
abbrev fl_D (c : Nat) (k : Int) : FP.Core.Datum := FP.Core.roundRatio FP.Core.b32 false c 1 k
theorem fl_nn {c : Nat} {k : Int} : fl_D c k ≠ .nan := by
  unfold fl_D FP.Core.roundRatio
  split
  · exact fun q => nomatch q
  · unfold FP.Core.roundAt FP.Core.settle FP.Core.bound
    split <;> split <;> exact fun q => nomatch q
theorem fl_q : FP.Core.b32.qmin = -149 ∧ FP.Core.b32.qmax = 104 ∧ FP.Core.b32.tails = 2 ^ 23 ∧ FP.Core.b32.exps = 256 ∧ 2 ^ FP.Core.b32.p = 2 ^ 24 := by decide
/-- c * 2^k is a float -/
theorem fl_fit {c : Nat} {k : Int} (hc : c < 2 ^ 24) (h1 : -149 ≤ k) (h2 : k ≤ 104) : ∃ c' q, FP.Core.fits FP.Core.b32 (.fin false c' q) ∧ c * 2 ^ (k - q).toNat = c' * 1 * 2 ^ (q - k).toNat := by
  obtain ⟨q1, q2, q3, -, q5⟩ := fl_q
  by_cases h0 : c = 0
  · exact ⟨0, -149, ⟨by rw [q5]; decide, by omega, by omega, Or.inl q1.symm⟩, by rw [h0]; simp⟩
  · have l1 : 2 ^ c.log2 ≤ c := Nat.log2_self_le h0
    have l2 : c < 2 ^ (c.log2 + 1) := Nat.lt_log2_self
    have l3 : c.log2 < 24 := (Nat.pow_lt_pow_iff_right (by decide : 1 < 2)).mp (Nat.lt_of_le_of_lt l1 hc)
    generalize c.log2 = L at l1 l2 l3
    have key : ∀ j : Nat, j ≤ 23 - L → (k - (j : Int) = -149 ∨ j = 23 - L) → -149 ≤ k - (j : Int) → ∃ c' q, FP.Core.fits FP.Core.b32 (.fin false c' q) ∧ c * 2 ^ (k - q).toNat = c' * 1 * 2 ^ (q - k).toNat := by
      intro j hj hq hk
      refine ⟨c * 2 ^ j, k - j, ⟨?_, by omega, by omega, ?_⟩, ?_⟩
      · rw [q5]
        calc c * 2 ^ j < 2 ^ (L + 1) * 2 ^ j := Nat.mul_lt_mul_of_pos_right l2 (Nat.two_pow_pos _)
          _ = 2 ^ (L + 1 + j) := (Nat.pow_add _ _ _).symm
          _ ≤ 2 ^ 24 := Nat.pow_le_pow_right (by decide) (by omega)
      · rcases hq with hq | hq
        · left; omega
        · right
          rw [q3, hq]
          calc 2 ^ 23 = 2 ^ L * 2 ^ (23 - L) := by rw [← Nat.pow_add]; congr 1; omega
            _ ≤ c * 2 ^ (23 - L) := Nat.mul_le_mul_right _ l1
      · rw [show (k - (k - (j : Int))).toNat = j by omega, show (k - (j : Int) - k).toNat = 0 by omega]
        simp
    by_cases hj : 23 - L ≤ (k + 149).toNat
    · exact key (23 - L) (Nat.le_refl _) (Or.inr rfl) (by omega)
    · exact key (k + 149).toNat (by omega) (Or.inl (by omega)) (by omega)
theorem fl_D_ex {c : Nat} {k : Int} (hc : c < 2 ^ 24) (h1 : -149 ≤ k) (h2 : k ≤ 104) : ∃ c' q, fl_D c k = .fin false c' q ∧ c * 2 ^ (k - q).toNat = c' * 2 ^ (q - k).toNat := by
  obtain ⟨c', q, hf, hv⟩ := fl_fit hc h1 h2
  refine ⟨c', q, FP.Core.roundRatio_exact FP.Core.good_b32 (by decide) hf hv, ?_⟩
  rw [Nat.mul_one] at hv; exact hv
theorem fl_cg {c c' : Nat} {k q r : Int} (h : c * 2 ^ (k - q).toNat = c' * 2 ^ (q - k).toNat) : c' * 2 ^ 23 * 1 * 2 ^ (q + r - (k + r + 23)).toNat = c * 1 * 2 ^ (k + r + 23 - (q + r)).toNat := by
  rw [Nat.mul_one, Nat.mul_one]
  by_cases h1 : k ≤ q
  · rw [show (k - q).toNat = 0 by omega, Nat.pow_zero, Nat.mul_one] at h
    rw [h]
    by_cases h2 : q - k ≤ 23
    · rw [show (q + r - (k + r + 23)).toNat = 0 by omega, Nat.pow_zero, Nat.mul_one, Nat.mul_assoc, ← Nat.pow_add]
      congr 2; omega
    · rw [show (k + r + 23 - (q + r)).toNat = 0 by omega, Nat.pow_zero, Nat.mul_one, Nat.mul_assoc, ← Nat.pow_add]
      congr 2; omega
  · rw [show (q - k).toNat = 0 by omega, Nat.pow_zero, Nat.mul_one] at h
    rw [← h, show (q + r - (k + r + 23)).toNat = 0 by omega, Nat.pow_zero, Nat.mul_one, Nat.mul_assoc, ← Nat.pow_add]
    congr 2; omega
theorem fl_mul {x y : UInt32} {c : Nat} {k r : Int} (hc : c < 2 ^ 24) (h1 : -149 ≤ k) (h2 : k ≤ 104) (hx : FP.Core.val32 x = fl_D c k) (hy : FP.Core.val32 y = .fin false (2 ^ 23) r) : FP.Core.val32 (FP.fmul x y) = fl_D c (k + r + 23) := by
  obtain ⟨c', q, e, hv⟩ := fl_D_ex hc h1 h2
  rw [show FP.Core.val32 (FP.fmul x y) = FP.Core.round FP.Core.b32 (FP.Core.exactProduct (FP.Core.val32 x) (FP.Core.val32 y)) from FP.Core.val32_fmul x y, hx, e, hy]
  exact FP.Core.roundRatio_congr (by decide) (by decide) (fl_cg hv)
theorem fl_2 : FP.Core.val32 FP.fconst2 = .fin false (2 ^ 23) (-22) := by decide +kernel
theorem fl_h : FP.Core.val32 (1056964608 : UInt32) = .fin false (2 ^ 23) (-24) := by decide +kernel
theorem fl_i {c : Nat} (h : c < 2 ^ 31) : FP.Core.val32 (FP.i2f (nI c)) = fl_D c 0 := by
  rw [show FP.Core.val32 (FP.i2f (nI c)) = FP.Core.round FP.Core.b32 (FP.Core.ofInt (nI c).toInt) from FP.Core.val32_i2f (nI c), nI_toInt h]
  show FP.Core.roundRatio FP.Core.b32 (decide ((c : Int) < 0)) (c : Int).natAbs 1 0 = _
  rw [decide_eq_false (by omega), Int.natAbs_natCast]
/-- the fields of a pattern -/
def fE (v : Int32) : Nat := v.toUInt32.toNat / 2 ^ 23 % 256
def fT (v : Int32) : Nat := v.toUInt32.toNat % 2 ^ 23
theorem fE_lt (v : Int32) : fE v < 256 := Nat.mod_lt _ (by decide)
theorem fT_lt (v : Int32) : fT v < 2 ^ 23 := Nat.mod_lt _ (by decide)
theorem f_bE (x : BitVec 32) : (x &&& 2139095040#32).sshiftRight 23 = BitVec.ofNat 32 (x.toNat / 2 ^ 23 % 2 ^ 8) := by
  refine BitVec.eq_of_getLsbD_eq (fun i hi => ?_)
  rw [BitVec.getLsbD_sshiftRight, BitVec.getLsbD_ofNat, Nat.testBit_mod_two_pow, Nat.testBit_div_two_pow, BitVec.testBit_toNat]
  have hm : (x &&& 2139095040#32).msb = false := by
    rw [BitVec.msb_and, show (2139095040#32 : BitVec 32).msb = false by decide, Bool.and_false]
  by_cases h : 23 + i < 32
  · rw [if_pos h, BitVec.getLsbD_and, nan_a _ h]
    by_cases h8 : i < 8
    · rw [decide_eq_true (show 23 ≤ 23 + i ∧ 23 + i < 31 by omega), decide_eq_true h8, decide_eq_true hi, decide_eq_false (show ¬ 32 ≤ i by omega)]
      simp [Nat.add_comm]
    · rw [decide_eq_false (show ¬ (23 ≤ 23 + i ∧ 23 + i < 31) by omega), decide_eq_false h8]
      simp
  · rw [if_neg h, hm, decide_eq_false (show ¬ i < 8 by omega)]
    simp
theorem f_bT (x : BitVec 32) : x &&& 8388607#32 = BitVec.ofNat 32 (x.toNat % 2 ^ 23) := by
  refine BitVec.eq_of_getLsbD_eq (fun i hi => ?_)
  have hb : ∀ i, i < 32 → (8388607#32).getLsbD i = decide (i < 23) := by decide +kernel
  rw [BitVec.getLsbD_and, hb i hi, BitVec.getLsbD_ofNat, Nat.testBit_mod_two_pow, BitVec.testBit_toNat, decide_eq_true hi]
  cases x.getLsbD i <;> cases decide (i < 23) <;> rfl
theorem fE_cv (v : Int32) : (v &&& nI 2139095040) >>> (nI 23 &&& 31) = nI (fE v) := by
  rw [← Int32.toBitVec_inj]
  exact f_bE v.toBitVec
theorem fT_cv (v : Int32) : v &&& nI 8388607 = nI (fT v) := by
  rw [← Int32.toBitVec_inj]
  exact f_bT v.toBitVec
theorem f_nan (v : Int32) : m_nan v = (decide (fE v = 255) && !decide (fT v = 0)) := by
  have hE := fE_lt v
  have hT := fT_lt v
  have e1 : ((v >>> (nI 23 &&& 31)) &&& nI 255 = nI 255) ↔ fE v = 255 := by
    rw [← nan_cv]
    constructor
    · intro h
      have e := fE_cv v
      rw [h] at e
      have e2 : nI 2139095040 >>> (nI 23 &&& 31) = nI 255 := by decide
      rw [e2] at e
      exact ((nI_eq (by omega) (by omega)).mp e).symm
    · intro h
      have e := fE_cv v
      rw [h] at e
      rw [← Int32.toBitVec_inj]
      refine BitVec.eq_of_getLsbD_eq (fun i hi => ?_)
      show (v.toBitVec &&& 2139095040#32).getLsbD i = (2139095040#32).getLsbD i
      by_cases hc : 23 ≤ i ∧ i < 31
      · have e3 := congrArg (fun y : Int32 => y.toBitVec.getLsbD (i - 23)) e
        have e4 : ((v.toBitVec &&& 2139095040#32).sshiftRight 23).getLsbD (i - 23) = (255#32).getLsbD (i - 23) := e3
        rw [BitVec.getLsbD_sshiftRight, if_pos (by omega), show 23 + (i - 23) = i by omega, nan_b _ (by omega), decide_eq_true (show i - 23 < 8 by omega)] at e4
        rw [nan_a i hi, decide_eq_true hc]
        exact (Bool.and_eq_true_iff.mp e4).2
      · rw [BitVec.getLsbD_and, nan_a i hi, decide_eq_false hc, Bool.and_false]
  have e2 : (v &&& nI 8388607 = 0) ↔ fT v = 0 := by
    rw [fT_cv]
    exact nI_eq (b := 0) (by omega) (by omega)
  unfold m_nan
  congr 1
  · congr 1; exact propext e1
  · congr 2; exact propext e2
theorem f_val (v : Int32) : FP.Core.val32 v.toUInt32 = if fE v = 255 then (if fT v = 0 then .inf (decide (v < 0)) else .nan) else if fE v = 0 then .fin (decide (v < 0)) (fT v) (-149) else .fin (decide (v < 0)) (2 ^ 23 + fT v) (-149 + ((fE v : Int) - 1)) := by
  have hs : FP.Core.fieldS FP.Core.b32 v.toUInt32.toNat = decide (v < 0) := by
    have h1 : FP.Core.fieldS FP.Core.b32 v.toUInt32.toNat = (v.toUInt32.toNat / 2 ^ 23 / 256 % 2 == 1) := rfl
    have h2 : v.toUInt32.toNat < 2 ^ 32 := v.toUInt32.toNat_lt
    have h3 : (v < 0) ↔ 2 ^ 31 ≤ v.toUInt32.toNat := by
      rw [Int32.lt_iff_toInt_lt, show (0 : Int32).toInt = 0 from rfl]
      have h4 : v.toInt = (v.toUInt32.toNat : Int).bmod (2 ^ 32) := by
        show v.toBitVec.toInt = ((v.toBitVec.toNat : Nat) : Int).bmod (2 ^ 32)
        exact BitVec.toInt_eq_toNat_bmod _
      rw [h4]
      have := Int.bmod_def ((v.toUInt32.toNat : Nat) : Int) (2 ^ 32)
      omega
    rw [h1]
    by_cases q : v < 0
    · have := h3.mp q
      rw [decide_eq_true q, show v.toUInt32.toNat / 2 ^ 23 / 256 % 2 = 1 by omega]; rfl
    · have : ¬ 2 ^ 31 ≤ v.toUInt32.toNat := fun z => q (h3.mpr z)
      rw [decide_eq_false q, show v.toUInt32.toNat / 2 ^ 23 / 256 % 2 = 0 by omega]; rfl
  show FP.Core.decode FP.Core.b32 v.toUInt32.toNat = _
  unfold FP.Core.decode
  rw [hs]
  rfl
theorem fl_neg {x : UInt32} (h : FP.Core.val32 x ≠ .nan) : FP.Core.val32 (FP.fmul x (3212836864 : UInt32)) = FP.Core.negate (FP.Core.val32 x) := by
  have e : (3212836864 : UInt32) = FP.Core.fneg FP.Core.fconst1 := by decide +kernel
  rw [e, show FP.fmul x (FP.Core.fneg FP.Core.fconst1) = FP.Core.fmul x (FP.Core.fneg FP.Core.fconst1) from rfl, FP.Core.fmul_comm, FP.Core.fmul_fneg, FP.Core.fmul_comm, FP.Core.fmul_one h]
  exact FP.Core.val32_fneg x
theorem fl_neg_nn {d : FP.Core.Datum} (h : d ≠ .nan) : FP.Core.negate d ≠ .nan := by
  cases d with
  | nan => exact absurd rfl h
  | inf s => exact fun q => nomatch q
  | fin s c q => exact fun q => nomatch q
/-- the end of the walk: the sign -/
theorem c_sign {K : UInt32 → ab_F → ab_F → Prop} {I A : ab_F} {v : Int32} {x : UInt32} {d : FP.Core.Datum} (hx : FP.Core.val32 x = d) (hd : d ≠ .nan) (hv : FP.Core.val32 v.toUInt32 = if v < 0 then FP.Core.negate d else d) (h : K v.toUInt32 I A) : (0 ≤ v → K x I A) ∧ (¬ 0 ≤ v → (vf_n32 (FP.fmul x (3212836864 : UInt32)) ∧ K (FP.fmul x (3212836864 : UInt32)) I A)) := by
  have hc : 0 ≤ v ↔ ¬ v < 0 := by rw [Int32.le_iff_toInt_le, Int32.lt_iff_toInt_lt]; omega
  rw [hc]
  by_cases q : v < 0
  · rw [if_pos q] at hv
    refine ⟨fun z => absurd q z, fun _ => ?_⟩
    have hn : FP.Core.val32 x ≠ .nan := by rw [hx]; exact hd
    have e := fl_neg hn
    rw [hx] at e
    have hn2 : FP.Core.val32 (FP.fmul x (3212836864 : UInt32)) ≠ .nan := by rw [e]; exact fl_neg_nn hd
    refine ⟨fl_vf hn2, ?_⟩
    rw [FP.Core.val32_inj hn2 (e.trans hv.symm)]
    exact h
  · rw [if_neg q] at hv
    refine ⟨fun _ => ?_, fun z => absurd q z⟩
    rw [FP.Core.val32_inj (show FP.Core.val32 x ≠ .nan by rw [hx]; exact hd) (hx.trans hv.symm)]
    exact h
/-- halving down to 2^-m -/
theorem c_f79 {K : UInt32 → ab_F → ab_F → Prop} {I A : ab_F} {v : Int32} {c m : Nat} (hc : c < 2 ^ 24) (hm : m ≤ 149) (hd : FP.Core.val32 v.toUInt32 = if v < 0 then FP.Core.negate (fl_D c (-(m : Int))) else fl_D c (-(m : Int))) (h : K v.toUInt32 I A) : ∀ (l j : Nat) (x : UInt32), j + l = m → FP.Core.val32 x = fl_D c (-(j : Int)) → wlX11_floatOfBits_79 K (l + 1) v x (-(nI m)) (-(nI j)) I A
  | 0, j, x, hj, hx => by
    rw [show j = m by omega] at hx ⊢
    exact ⟨fun _ => c_sign hx fl_nn hd h, fun z => absurd (Int32.le_refl _) z⟩
  | l + 1, j, x, hj, hx => by
    have hne : ¬ (-(nI j)) ≤ (-(nI m)) := by
      rw [Int32.le_iff_toInt_le]
      have e1 : (-(nI j)).toInt = -(j : Int) := by rw [Int32.toInt_neg, nI_toInt (by omega)]; exact Int.bmod_eq_of_le (by omega) (by omega)
      have e2 : (-(nI m)).toInt = -(m : Int) := by rw [Int32.toInt_neg, nI_toInt (by omega)]; exact Int.bmod_eq_of_le (by omega) (by omega)
      rw [e1, e2]; omega
    have e := fl_mul (r := -24) hc (by omega) (by omega) hx fl_h
    rw [show -(j : Int) + -24 + 23 = -((j + 1 : Nat) : Int) by omega] at e
    refine ⟨fun z => absurd z hne, fun _ => ⟨fl_vf (by rw [e]; exact fl_nn), nm_r rfl ?_⟩⟩
    have ej : -(nI j) + (-1 : Int32) = -(nI (j + 1)) := by rw [← nI_add j 1, Int32.neg_add, Int32.sub_eq_add_neg]; rfl
    rw [ej]
    exact c_f79 hc hm hd h l (j + 1) _ (by omega) e
