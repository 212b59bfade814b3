/-! the hit ratio's bits -/
/-- n / a rounded, n between 1 and a -/
theorem fl_rat {n a : Nat} (h1 : 1 ≤ n) (h2 : n ≤ a) (h3 : a < 2 ^ 24) : ∃ c q, FP.Core.roundRatio FP.Core.b32 false n a 0 = .fin false c q ∧ 2 ^ 23 ≤ c ∧ c < 2 ^ 24 ∧ -47 ≤ q ∧ q ≤ -23 := by
  obtain ⟨q1, q2, q3, -, q5⟩ := fl_q
  have ls := FP.Core.leading_spec (A := n) (B := a) (by omega) (by omega)
  unfold FP.Core.Below at ls
  have hL0 : FP.Core.leading n a ≤ 0 := by
    refine Int.not_lt.mp (fun z => ?_)
    have g := ls.1
    rw [show (-(FP.Core.leading n a)).toNat = 0 by omega, Nat.pow_zero, Nat.mul_one] at g
    have h2k : 2 ^ 1 ≤ 2 ^ (FP.Core.leading n a).toNat := Nat.pow_le_pow_right (by decide) (by omega)
    have := Nat.mul_le_mul_left a h2k
    omega
  have hLm : -24 ≤ FP.Core.leading n a := by
    refine Int.not_lt.mp (fun z => ?_)
    have g := ls.2
    rw [show (FP.Core.leading n a + 1).toNat = 0 by omega, Nat.pow_zero, Nat.mul_one] at g
    have h2k : 2 ^ 24 ≤ 2 ^ (-(FP.Core.leading n a + 1)).toNat := Nat.pow_le_pow_right (by decide) (by omega)
    have := Nat.mul_le_mul h1 h2k
    omega
  unfold FP.Core.roundRatio
  rw [if_neg (by omega)]
  have hq : FP.Core.quantum FP.Core.b32 n a 0 = FP.Core.leading n a - 23 := by
    unfold FP.Core.quantum
    rw [q1]
    show max (-149) (FP.Core.leading n a + 0 - ((24 : Int) - 1)) = _
    omega
  rw [hq]
  generalize FP.Core.leading n a = L at *
  obtain ⟨l, rfl⟩ : ∃ l : Nat, L = -(l : Int) := ⟨(-L).toNat, by omega⟩
  have hl : l ≤ 24 := by omega
  unfold FP.Core.roundAt FP.Core.unitsNum FP.Core.unitsDen
  rw [show (0 - (-(l : Int) - 23)).toNat = l + 23 by omega, show (-(l : Int) - 23 - 0).toNat = 0 by omega, Nat.pow_zero, Nat.mul_one]
  have g1 : a ≤ n * 2 ^ l := by
    have g := ls.1
    rw [show (- -(l : Int)).toNat = l by omega, show (-(l : Int)).toNat = 0 by omega, Nat.pow_zero, Nat.mul_one] at g
    omega
  have ge : 2 ^ 23 ≤ FP.Core.nearest (n * 2 ^ (l + 23)) a := by
    refine FP.Core.nearest_ge (by omega) ?_
    rw [Nat.pow_add, ← Nat.mul_assoc, Nat.mul_comm (2 ^ 23) a]
    exact Nat.mul_le_mul_right _ g1
  have le : FP.Core.nearest (n * 2 ^ (l + 23)) a ≤ 2 ^ 24 := by
    refine FP.Core.nearest_le (by omega) ?_
    by_cases l0 : l = 0
    · subst l0
      have := Nat.mul_le_mul_right (2 ^ 23) h2
      simp only [Nat.zero_add]
      omega
    · have g := ls.2
      rw [show (-(-(l : Int) + 1)).toNat = l - 1 by omega, show (-(l : Int) + 1).toNat = 0 by omega, Nat.pow_zero, Nat.mul_one] at g
      have e : n * 2 ^ (l + 23) = (n * 2 ^ (l - 1)) * 2 ^ 24 := by rw [Nat.mul_assoc, ← Nat.pow_add]; congr 2; omega
      rw [e, Nat.mul_comm (2 ^ 24) a]
      exact Nat.mul_le_mul_right _ (Nat.le_of_lt g)
  generalize hcc : FP.Core.nearest (n * 2 ^ (l + 23)) a = c0 at *
  unfold FP.Core.settle FP.Core.bound
  rw [q5, q2, q3]
  by_cases hc : c0 < 2 ^ 24
  · rw [if_pos hc, if_pos (by omega)]
    exact ⟨c0, _, rfl, ge, hc, by omega, by omega⟩
  · rw [if_neg hc, if_pos (by omega)]
    refine ⟨2 ^ 23, _, rfl, Nat.le_refl _, by decide, by omega, ?_⟩
    by_cases l0 : l = 0
    · exfalso
      subst l0
      have hna : n = a := by simp only [Nat.pow_zero, Nat.mul_one] at g1; omega
      rw [hna, Nat.zero_add, Nat.mul_comm, FP.Core.nearest_exact (2 ^ 23) (by omega)] at hcc
      omega
    · omega
theorem fl_div {n a : Nat} (h1 : 1 ≤ a) (h2 : n ≤ a) (h3 : a < 2 ^ 24) : FP.Core.val32 (FP.fdiv (FP.i2f (nI n)) (FP.i2f (nI a))) = FP.Core.roundRatio FP.Core.b32 false n a 0 := by
  rw [show FP.Core.val32 (FP.fdiv (FP.i2f (nI n)) (FP.i2f (nI a))) = FP.Core.quotient FP.Core.b32 (FP.Core.val32 (FP.i2f (nI n))) (FP.Core.val32 (FP.i2f (nI a))) from FP.Core.val32_fdiv _ _, fl_i (by omega), fl_i (by omega)]
  obtain ⟨c, q, e, hv⟩ := fl_D_ex (c := n) (k := 0) (by omega) (by omega) (by omega)
  obtain ⟨c', q', e', hv'⟩ := fl_D_ex (c := a) (k := 0) (by omega) (by omega) (by omega)
  rw [e, e']
  have hc' : c' ≠ 0 := fun z => by
    rw [z, Nat.zero_mul] at hv'
    have := Nat.two_pow_pos (0 - q').toNat
    have := Nat.mul_pos (show 0 < a by omega) this
    omega
  show (if c' = 0 then _ else FP.Core.roundRatio FP.Core.b32 (false != false) c c' (q - q')) = _
  rw [if_neg hc']
  refine FP.Core.roundRatio_congr (by omega) (by omega) ?_
  have p2 : ∀ x : Int, 2 ^ (0 - x).toNat = 2 ^ (-x).toNat ∧ 2 ^ (x - 0).toNat = 2 ^ x.toNat := fun x => by rw [show (0 - x) = -x by omega, show (x - 0) = x by omega]; exact ⟨rfl, rfl⟩
  rw [(p2 q).1, (p2 q).2] at hv
  rw [(p2 q').1, (p2 q').2] at hv'
  have pw : 2 ^ (q - q' - 0).toNat * (2 ^ (-q).toNat * 2 ^ q'.toNat) = 2 ^ (0 - (q - q')).toNat * (2 ^ q.toNat * 2 ^ (-q').toNat) := by
    rw [← Nat.pow_add, ← Nat.pow_add, ← Nat.pow_add, ← Nat.pow_add]
    congr 1; omega
  have k1 := Nat.two_pow_pos (-q).toNat
  have k2 := Nat.two_pow_pos q'.toNat
  refine Nat.eq_of_mul_eq_mul_right (Nat.mul_pos k1 k2) ?_
  calc c * a * 2 ^ (q - q' - 0).toNat * (2 ^ (-q).toNat * 2 ^ q'.toNat) = c * a * (2 ^ (q - q' - 0).toNat * (2 ^ (-q).toNat * 2 ^ q'.toNat)) := by rw [Nat.mul_assoc]
    _ = c * a * (2 ^ (0 - (q - q')).toNat * (2 ^ q.toNat * 2 ^ (-q').toNat)) := by rw [pw]
    _ = (c * 2 ^ q.toNat) * (a * 2 ^ (-q').toNat) * 2 ^ (0 - (q - q')).toNat := by ac_rfl
    _ = (n * 2 ^ (-q).toNat) * (c' * 2 ^ q'.toNat) * 2 ^ (0 - (q - q')).toNat := by rw [hv, hv']
    _ = n * c' * 2 ^ (0 - (q - q')).toNat * (2 ^ (-q).toNat * 2 ^ q'.toNat) := by ac_rfl
theorem rr_nn {s : Bool} {n a : Nat} {k : Int} : FP.Core.roundRatio FP.Core.b32 s n a k ≠ .nan := by
  unfold FP.Core.roundRatio
  split
  · exact fun q => nomatch q
  · unfold FP.Core.roundAt FP.Core.settle FP.Core.bound
    split <;> split <;> exact fun q => nomatch q
/-- a ratio's bits -/
theorem fl_bits {x : UInt32} {c : Nat} {q : Int} (hx : FP.Core.val32 x = .fin false c q) (h1 : 2 ^ 23 ≤ c) (h2 : c < 2 ^ 24) (h3 : -47 ≤ q) (h4 : q ≤ -23) : x.toInt32 = nI ((q + 150).toNat * 2 ^ 23 + (c - 2 ^ 23)) := by
  obtain ⟨q1, -, q3, q4, -⟩ := fl_q
  have e : FP.Core.of32 (FP.Core.val32 x) = x := FP.Core.of32_val32 (by rw [hx]; exact fun z => nomatch z)
  rw [hx] at e
  have e2 : FP.Core.encode FP.Core.b32 (.fin false c q) = (q + 150).toNat * 2 ^ 23 + (c - 2 ^ 23) := by
    unfold FP.Core.encode
    rw [q3]
    show (if c < 2 ^ 23 then _ else FP.Core.assemble FP.Core.b32 false ((q - FP.Core.b32.qmin).toNat + 1) (c - 2 ^ 23)) = _
    rw [if_neg (by omega), q1]
    unfold FP.Core.assemble
    rw [q3, q4, show false.toNat = 0 from rfl, Nat.zero_mul, Nat.zero_add, show (q - -149).toNat + 1 = (q + 150).toNat by omega]
  rw [← e]
  unfold FP.Core.of32
  rw [e2]
  rw [← Int32.toBitVec_inj]
  rfl
theorem fl_23 : FP.Core.val32 (1258291200 : UInt32) = .fin false (2 ^ 23) 0 := by decide +kernel
theorem fl_1 : FP.Core.val32 FP.fconst1 = .fin false (2 ^ 23) (-23) := by decide +kernel
theorem fl_f2i {x : UInt32} {c : Nat} (h1 : 2 ^ 23 ≤ c) (h2 : c < 2 ^ 24) (hx : FP.Core.val32 x = .fin false c 0) : FP.f2i x = nI c := by
  show FP.Core.toI (FP.Core.val32 x) = _
  rw [hx]
  show Int32.ofInt (max (-2 ^ 31) (min (2 ^ 31 - 1) (FP.Core.truncate false c 0))) = _
  have e : FP.Core.truncate false c 0 = (c : Int) := by
    unfold FP.Core.truncate FP.Core.signed
    simp
  rw [e, show max (-2 ^ 31) (min (2 ^ 31 - 1) (c : Int)) = (c : Int) by omega]
  rfl
theorem sh23 : ∀ e, e < 128 → nI e <<< (nI 23 &&& 31) = nI (e * 2 ^ 23) := by decide +kernel
theorem fl_cmp1 {x : UInt32} {c : Nat} {q : Int} (hx : FP.Core.val32 x = .fin false c q) (h1 : 2 ^ 23 ≤ c) (h2 : c < 2 ^ 24) (h4 : q ≤ -23) : (0 ≤ Op.cmpValue (FP.fcmp x FP.fconst1) .g) ↔ q = -23 := by
  have e : FP.fcmp x FP.fconst1 = some (compare (FP.Core.signed false (FP.Core.inUnits c q (min q (-23)))) (FP.Core.signed false (FP.Core.inUnits (2 ^ 23) (-23) (min q (-23))))) := by
    show FP.Core.order (FP.Core.val32 x) (FP.Core.val32 FP.fconst1) = _
    rw [hx, fl_1]; rfl
  rw [e, show min q (-23) = q by omega]
  have e1 : FP.Core.signed false (FP.Core.inUnits c q q) = (c : Int) := by unfold FP.Core.signed FP.Core.inUnits; simp
  have e2 : FP.Core.signed false (FP.Core.inUnits (2 ^ 23) (-23) q) = ((2 ^ 23 * 2 ^ (-23 - q).toNat : Nat) : Int) := by unfold FP.Core.signed FP.Core.inUnits; simp
  rw [e1, e2]
  by_cases h : q = -23
  · subst h
    refine ⟨fun _ => rfl, fun _ => ?_⟩
    rw [show (-23 - -23 : Int).toNat = 0 by omega, Nat.pow_zero, Nat.mul_one]
    rcases Nat.lt_or_ge (2 ^ 23) c with z | z
    · rw [show compare (c : Int) ((2 ^ 23 : Nat) : Int) = .gt from Int.compare_eq_gt.mpr (by omega)]; decide
    · rw [show compare (c : Int) ((2 ^ 23 : Nat) : Int) = .eq from Int.compare_eq_eq.mpr (by omega)]; decide
  · refine ⟨fun z => ?_, fun z => absurd z h⟩
    exfalso
    have hp : 2 ^ 1 ≤ 2 ^ (-23 - q).toNat := Nat.pow_le_pow_right (by decide) (by omega)
    have hp2 := Nat.mul_le_mul_left (2 ^ 23) hp
    rw [show compare (c : Int) ((2 ^ 23 * 2 ^ (-23 - q).toNat : Nat) : Int) = .lt from Int.compare_eq_lt.mpr (by omega)] at z
    exact absurd z (by decide)
theorem c_bor0 {K : Int32 → ab_F → ab_F → Prop} {I A : ab_F} {c E : Nat} {x : UInt32} (h1 : 2 ^ 23 ≤ c) (h2 : c < 2 ^ 24) (hE : E ≤ 127) (hx : FP.Core.val32 x = .fin false c (-23)) (h : K (nI (E * 2 ^ 23 + (c - 2 ^ 23))) I A) : wjX11_bitsOfRatio_34 K x (nI E) I A := by
  have e := fl_mul (c := c) (k := -23) (r := 0) h2 (by omega) (by omega) (by rw [hx]; exact (fl_Dx h2 (by omega) (by omega) (Or.inr h1)).symm) fl_23
  rw [show (-23 : Int) + 0 + 23 = 0 by omega, fl_Dx h2 (by omega) (by omega) (Or.inr h1)] at e
  have e3 : FP.f2i (FP.fmul x (1258291200 : UInt32)) = nI c := fl_f2i h1 h2 e
  unfold wjX11_bitsOfRatio_34
  rw [e3, sh23 E (by omega), nI_add, nI_sb (by omega), show E * 2 ^ 23 + c - 8388608 = E * 2 ^ 23 + (c - 2 ^ 23) by omega]
  exact ⟨fl_vf (by rw [e]; exact fun z => nomatch z), h⟩
theorem c_bor {K : Int32 → ab_F → ab_F → Prop} {I A : ab_F} {c E : Nat} (h1 : 2 ^ 23 ≤ c) (h2 : c < 2 ^ 24) (hE : E ≤ 127) (hE2 : 103 ≤ E) (h : K (nI (E * 2 ^ 23 + (c - 2 ^ 23))) I A) : ∀ (l : Nat) (x : UInt32), l ≤ 24 → FP.Core.val32 x = .fin false c (-23 - (l : Int)) → E + l ≤ 127 → wlX11_bitsOfRatio_13 K (l + 1) x (nI (E + l)) I A
  | 0, x, hl, hx, he => by
    rw [show (-23 - ((0 : Nat) : Int)) = -23 by omega] at hx
    refine br_t ((fl_cmp1 hx h1 h2 (by omega)).mpr rfl) ?_
    exact c_bor0 h1 h2 hE hx h
  | l + 1, x, hl, hx, he => by
    refine br_f (fun z => ?_) (br_f ?_ ?_)
    · have := (fl_cmp1 hx h1 h2 (by omega)).mp z
      omega
    · exact nI_ge (by omega) (by omega)
    · have e := fl_mul (c := c) (k := -23 - ((l + 1 : Nat) : Int)) (r := -22) (x := x) (y := FP.fconst2) h2 (by omega) (by omega) (by rw [hx]; exact (fl_Dx h2 (by omega) (by omega) (Or.inr h1)).symm) fl_2
      rw [show (-23 - ((l + 1 : Nat) : Int)) + (-22) + 23 = -23 - (l : Int) by omega, fl_Dx h2 (by omega) (by omega) (Or.inr h1)] at e
      refine ⟨fl_vf (by rw [e]; exact fun z => nomatch z), nm_r rfl ?_⟩
      rw [show E + (l + 1) = (E + l) + 1 by omega, pred_1]
      exact c_bor h1 h2 hE hE2 h l _ (by omega) e (by omega)
theorem c_bitsOfRatio {K : Int32 → ab_F → ab_F → Prop} {I A : ab_F} {n a : Nat} {x : UInt32} (ha : 1 ≤ a) (h2 : n ≤ a) (h3 : a < 2 ^ 24) (hx : FP.Core.val32 x = FP.Core.roundRatio FP.Core.b32 false n a 0) (h : K x.toInt32 I A) : wX11_bitsOfRatio K I A x := by
  by_cases h0 : n = 0
  · have e : FP.Core.val32 x = FP.Core.val32 FP.fconst0 := by
      rw [hx, h0]
      unfold FP.Core.roundRatio
      rw [if_pos rfl]
      decide +kernel
    have ex : x = FP.fconst0 := FP.Core.val32_inj (by rw [hx]; exact rr_nn) e
    rw [ex] at h ⊢
    refine br_f (by decide +kernel) ?_
    exact h
  · obtain ⟨c, q, e, c1, c2, q1, q2⟩ := fl_rat (n := n) (a := a) (by omega) h2 h3
    rw [e] at hx
    rw [fl_bits hx c1 c2 q1 q2] at h
    have ec : FP.fcmp x FP.fconst0 = some .gt := by
      show FP.Core.order (FP.Core.val32 x) (FP.Core.val32 FP.fconst0) = _
      rw [hx, show FP.Core.val32 FP.fconst0 = .fin false 0 FP.Core.b32.qmin by decide +kernel]
      show some (compare (FP.Core.signed false (FP.Core.inUnits c q _)) (FP.Core.signed false (FP.Core.inUnits 0 _ _))) = _
      congr 1
      refine Int.compare_eq_gt.mpr ?_
      have hp : 0 < FP.Core.inUnits c q (min q FP.Core.b32.qmin) := Nat.mul_pos (by omega) (Nat.two_pow_pos _)
      have e0 : FP.Core.inUnits 0 FP.Core.b32.qmin (min q FP.Core.b32.qmin) = 0 := Nat.zero_mul _
      show FP.Core.signed false _ < FP.Core.signed false _
      rw [e0]
      show (0 : Int) < _
      unfold FP.Core.signed
      simp only [Bool.false_eq_true, if_false]
      omega
    unfold wX11_bitsOfRatio
    rw [ec]
    refine br_t (by decide) ⟨(-23 - q).toNat + 1, ?_⟩
    have g := c_bor (I := I) (A := A) (c := c) (E := (q + 150).toNat) c1 c2 (by omega) (by omega) h (-23 - q).toNat x (by omega) (by rw [hx]; congr 1; omega) (by omega)
    rw [show (q + 150).toNat + (-23 - q).toNat = 127 by omega] at g
    exact g
/-- accesses and faults -/
theorem ac_of {B : Nat} {w : Nat → Int32} (iv : Iv B w) : ∃ a f, f ≤ a ∧ a ≤ B ∧ w 5 = nI a ∧ w 6 = nI f := iv.2.2.2.2.2.2.2.2.2.1.2.1
def s_hit (s : st_S) : st_O := if s.1 5 = 0 then (1, 0, s) else (0, (FP.fdiv (FP.i2f (s.1 5 - s.1 6)) (FP.i2f (s.1 5))).toInt32, s)
theorem f_hit {B : Nat} {s : st_S} {K : Int32 → ab_Z → ab_F → ab_F → Prop} {KX : String → ab_Z → ab_F → ab_F → Prop} {Z : ab_Z} {I A : ab_F} (r : RCs B s Z I A) (hB : B < 2 ^ 24) (o : oC ["java/lang/ArithmeticException"] B (s_hit s) K KX) : wX11_hitRatioBits (fun v I A => K v Z I A) (fun E I A => KX E Z I A) I A := by
  obtain ⟨a, f, h1, h2, e5, e6⟩ := ac_of r.1.2
  have i0 : I 29 0 = s.1 5 := r.1.1.2.2.1
  have i1 : I 29 1 = s.1 6 := r.1.1.2.2.2.1
  refine nm_r i0 ?_
  rw [i1]
  by_cases q : s.1 5 = 0
  · exact rb_t q (o.x (c := 0) (by unfold s_hit; rw [if_pos q]) rfl (Nat.le_refl _) r)
  · refine rb_f q ?_
    have g := o.k (by unfold s_hit; rw [if_neg q]) (Nat.le_refl _) r
    have ha : 1 ≤ a := by
      by_cases z : a = 0
      · rw [z] at e5; exact absurd e5 q
      · omega
    rw [e5, e6, nI_sb h1] at g ⊢
    have e := fl_div (n := a - f) ha (by omega) (by omega)
    exact ⟨fl_vf (by rw [e]; exact rr_nn), c_bitsOfRatio ha (by omega) (by omega) e g⟩
theorem r_hit {B : Nat} {s : st_S} {K : Int32 → ab_F → ab_F → Prop} {I A : ab_F} (r : RMs B s I A) (hB : B < 2 ^ 24) (o : oM B (s_hit s) K) : wX12_hitRatioBits K I A := by
  have e1 : A 1 = s.1 := r.1.1
  obtain ⟨a, f, h1, h2, e5, e6⟩ := ac_of r.1.2
  unfold wX12_hitRatioBits
  rw [e1]
  by_cases q : s.1 5 = 0
  · refine rb_t q (q_fails (b := true) (bb (fun q2 => nomatch q2) (fun _ => ?_)))
    exact o.x (c := 0) (by unfold s_hit; rw [if_pos q]) (Nat.le_refl _) (RM_5 r) w5
  · refine rb_f q (q_fails (b := false) (bb (fun _ => ?_) (fun q2 => nomatch q2)))
    rw [e1]
    have g : ∀ u, u = (FP.fdiv (FP.i2f (s.1 5 - s.1 6)) (FP.i2f (s.1 5))).toInt32 → K u (wr I 0 5 (if false = true then nI 1 else nI 0)) A := fun u hu => o.k (by unfold s_hit; rw [if_neg q]) (Nat.le_refl _) (RM_5 r) w5 hu
    have ha : 1 ≤ a := by
      by_cases z : a = 0
      · rw [z] at e5; exact absurd e5 q
      · omega
    rw [e5, e6, nI_sb h1] at g ⊢
    have e := fl_div (n := a - f) ha (by omega) (by omega)
    have hn : FP.Core.val32 (FP.fdiv (FP.i2f (nI (a - f))) (FP.i2f (nI a))) ≠ .nan := by rw [e]; exact rr_nn
    refine ⟨fl_vf hn, ?_⟩
    generalize FP.fdiv (FP.i2f (nI (a - f))) (FP.i2f (nI a)) = x at *
    have ec : Op.cmpValue (FP.fcmp x x) .l = 0 := by
      have hc : FP.fcmp x x = some .eq := by
        show FP.Core.order (FP.Core.val32 x) (FP.Core.val32 x) = _
        cases hd : FP.Core.val32 x with
        | nan => exact absurd hd hn
        | inf s => show some (compare _ _) = _; rw [Int.compare_eq_eq.mpr rfl]
        | fin s c q => show some (compare _ _) = _; rw [Int.compare_eq_eq.mpr rfl]
      rw [hc]; rfl
    exact br_t ec (rb_t rfl (g _ rfl))
