/-! floats: the class's walk from bits to value as a whole -/
theorem fl_Dx {c : Nat} {k : Int} (hc : c < 2 ^ 24) (h1 : -149 ≤ k) (h2 : k ≤ 104) (h : k = -149 ∨ 2 ^ 23 ≤ c) : fl_D c k = .fin false c k := by
  obtain ⟨q1, q2, q3, -, q5⟩ := fl_q
  refine FP.Core.roundRatio_exact FP.Core.good_b32 (by decide) ⟨by rw [q5]; exact hc, by omega, by omega, ?_⟩ (by simp)
  rcases h with h | h
  · left; omega
  · right; rw [q3]; exact h
theorem c_f59u {K : UInt32 → ab_F → ab_F → Prop} {I A : ab_F} {v : Int32} {c m : Nat} (hc : c < 2 ^ 24) (hm : m ≤ 105) (hd : FP.Core.val32 v.toUInt32 = if v < 0 then FP.Core.negate (fl_D c (m : Int)) else fl_D c (m : Int)) (h : K v.toUInt32 I A) : ∀ (l j : Nat) (x : UInt32), j + l = m → FP.Core.val32 x = fl_D c (j : Int) → wlX11_floatOfBits_59 K (l + 1) v x (nI m) (nI j) I A
  | 0, j, x, hj, hx => by
    rw [show j = m by omega] at hx ⊢
    refine br_t (Int32.le_refl _) ⟨1, br_t (nI_le (by omega) (by omega)) (c_sign hx fl_nn hd h)⟩
  | l + 1, j, x, hj, hx => by
    have e := fl_mul (r := -22) hc (by omega) (by omega) hx fl_2
    rw [show (j : Int) + -22 + 23 = ((j + 1 : Nat) : Int) by omega] at e
    refine br_f (nI_ge (by omega) (by omega)) ⟨fl_vf (by rw [e]; exact fl_nn), nm_r rfl ?_⟩
    rw [nI_add j 1]
    exact c_f59u hc hm hd h l (j + 1) _ (by omega) e
theorem c_f59d {K : UInt32 → ab_F → ab_F → Prop} {I A : ab_F} {v : Int32} {c m : Nat} {x : UInt32} (hc : c < 2 ^ 24) (hm : m ≤ 149) (hd : FP.Core.val32 v.toUInt32 = if v < 0 then FP.Core.negate (fl_D c (-(m : Int))) else fl_D c (-(m : Int))) (h : K v.toUInt32 I A) (hx : FP.Core.val32 x = fl_D c 0) : wlX11_floatOfBits_59 K 1 v x (-(nI m)) (nI 0) I A := by
  have e2 : (-(nI m)).toInt = -(m : Int) := by rw [Int32.toInt_neg, nI_toInt (by omega)]; exact Int.bmod_eq_of_le (by omega) (by omega)
  refine br_t (by rw [Int32.le_iff_toInt_le, e2, show (nI 0).toInt = 0 from rfl]; omega) ⟨m + 1, ?_⟩
  have g := c_f79 (I := I) (A := A) hc hm hd h m 0 x (by omega) hx
  rw [show -(nI 0) = nI 0 by decide] at g
  exact g
theorem c_f50 {K : UInt32 → ab_F → ab_F → Prop} {I A : ab_F} {v : Int32} {c e : Nat} {x : UInt32} (hc : c < 2 ^ 24) (he : e < 256) (hd : FP.Core.val32 v.toUInt32 = if v < 0 then FP.Core.negate (fl_D c ((e : Int) - 150)) else fl_D c ((e : Int) - 150)) (he1 : 1 ≤ e) (h : K v.toUInt32 I A) (hx : FP.Core.val32 x = fl_D c 0) : wjX11_floatOfBits_50 K v x (nI e) I A := by
  by_cases q : 150 ≤ e
  · refine nm_r (nI_sb q) ⟨e - 150 + 1, c_f59u (m := e - 150) hc (by omega) ?_ h (e - 150) 0 x (by omega) hx⟩
    rw [show ((e - 150 : Nat) : Int) = (e : Int) - 150 by omega]; exact hd
  · have es : nI e - nI 150 = -(nI (150 - e)) := by
      have e3 : nI e + nI (150 - e) = nI 150 := by rw [nI_add]; congr 1; omega
      rw [← e3, Int32.sub_eq_add_neg, Int32.neg_add, Int32.sub_eq_add_neg, ← Int32.add_assoc, Int32.add_right_neg, Int32.zero_add]
    refine nm_r es ⟨1, c_f59d (m := 150 - e) hc (by omega) ?_ h hx⟩
    rw [show -((150 - e : Nat) : Int) = (e : Int) - 150 by omega]; exact hd
theorem c_floatOfBits {K : UInt32 → ab_F → ab_F → Prop} {I A : ab_F} {v : Int32} (h : m_nan v = false → K v.toUInt32 I A) (h2 : m_nan v = true → K (2143289344 : UInt32) I A) : wX11_floatOfBits K I A v := by
  refine c_isNan (bb (fun q => ?_) (fun q => h2 q))
  have hk := h q
  rw [f_nan] at q
  have hE := fE_lt v
  have hT := fT_lt v
  have hv := f_val v
  refine nm_r (fE_cv v) (nm_r (fT_cv v) ?_)
  have sg : ∀ d : FP.Core.Datum, (∀ (s : Bool), FP.Core.val32 v.toUInt32 = (if s = true then FP.Core.negate d else d) → s = decide (v < 0) → True) → True := fun _ _ => trivial
  by_cases h0 : fE v = 0
  · refine rb_t (by rw [h0]; rfl) (nm_r rfl (rb_t (by rw [h0]; rfl) ?_))
    refine c_f50 (c := fT v) (e := 1) (by omega) (by omega) ?_ (by omega) hk (fl_i (by omega))
    rw [show ((1 : Nat) : Int) - 150 = -149 by omega, fl_Dx (by omega) (by omega) (by omega) (Or.inl rfl), hv, if_neg (by omega), if_pos h0]
    by_cases n : v < 0
    · rw [if_pos n, decide_eq_true n]; rfl
    · rw [if_neg n, decide_eq_false n]
  · have n0 : ¬ nI (fE v) = 0 := fun z => h0 ((nI_eq (b := 0) (by omega) (by omega)).mp z)
    refine rb_f n0 ?_
    rw [nI_add]
    refine nm_r rfl (rb_f n0 ?_)
    refine c_f50 (c := fT v + 8388608) (e := fE v) (by omega) hE ?_ (by omega) hk (fl_i (by omega))
    by_cases h255 : fE v = 255
    · rw [decide_eq_true h255, Bool.true_and] at q
      have ht0 : fT v = 0 := of_decide_eq_true (nb_f q)
      rw [hv, if_pos h255, if_pos ht0, h255, ht0, show fl_D (0 + 8388608) (((255 : Nat) : Int) - 150) = .inf false by decide +kernel]
      by_cases n : v < 0
      · rw [if_pos n, decide_eq_true n]; rfl
      · rw [if_neg n, decide_eq_false n]
    · rw [fl_Dx (by omega) (by omega) (by omega) (Or.inr (by omega)), hv, if_neg h255, if_neg h0, show 2 ^ 23 + fT v = fT v + 8388608 by omega, show (-149 : Int) + ((fE v : Int) - 1) = (fE v : Int) - 150 by omega]
      by_cases n : v < 0
      · rw [if_pos n, decide_eq_true n]; rfl
      · rw [if_neg n, decide_eq_false n]
/-- a pattern that Float.intBitsToFloat takes as it is -/
theorem f_sn {v : Int32} (h : m_nan v = true → v = nI 2143289344) : vn_sni2f v = false := by
  by_cases q : m_nan v = true
  · rw [h q]; decide
  · have q2 := b_f q
    rw [f_nan] at q2
    have hE := fE_lt v
    have hT := fT_lt v
    have h2 : v.toUInt32.toNat < 2 ^ 32 := v.toUInt32.toNat_lt
    have hm : v.toUInt32 &&& 0x7fffffff ≤ 0x7f800000 := by
      rw [UInt32.le_iff_toNat_le, FP.Core.mask_toNat32]
      show v.toUInt32.toNat % 2 ^ 31 ≤ 2139095040
      have e : v.toUInt32.toNat % 2 ^ 31 = fE v * 2 ^ 23 + fT v := by unfold fE fT; omega
      rw [e]
      by_cases h255 : fE v = 255
      · rw [decide_eq_true h255, Bool.true_and] at q2
        have ht0 : fT v = 0 := of_decide_eq_true (nb_f q2)
        omega
      · omega
    unfold vn_sni2f
    have : (decide (v.toUInt32 &&& 0x7fffffff > 0x7f800000)) = false := decide_eq_false (fun z => by
      have z2 : (0x7f800000 : UInt32) < v.toUInt32 &&& 0x7fffffff := z
      rw [UInt32.lt_iff_toNat_lt] at z2
      rw [UInt32.le_iff_toNat_le] at hm
      omega)
    rw [this]; rfl
/-- values of float pages that are no number have the one pattern -/
def Nf (w : Nat → Int32) : Prop := ∀ k, k < 48 → w (14 + k / 8) = nI 1 → m_nan (w (32 + k)) = true → w (32 + k) = nI 2143289344
def s_peekF (s : st_S) (x y : Int32) : st_O := if m_pg s.1 x y = false then (1, 0, s) else if s.1 (14 + m_id x y / 8) = 0 then (2, 0, s) else (0, s.1 (32 + m_id x y), s)
theorem f_peekF {B : Nat} {s : st_S} {x y : Int32} {K : UInt32 → ab_Z → ab_F → ab_F → Prop} {KX : String → ab_Z → ab_F → ab_F → Prop} {Z : ab_Z} {I A : ab_F} (r : RCs B s Z I A) (nf : Nf s.1) (o : oC [xIx, xUn] B (s_peekF s x y) (fun v Z I A => K v.toUInt32 Z I A) KX) : wX11_peekFloat (fun v I A => K v Z I A) (fun E I A => KX E Z I A) I A x y := by
  refine c_hasPage r.1.1 r.1.2.1 (dmI (fun e => o.x (c := 0) (by unfold s_peekF; rw [if_pos e]) rfl (Nat.le_refl _) r) (fun e => ?_))
  obtain ⟨k, hk, ht, ek, ex⟩ := pg_k r.1.2.1 e
  have em := m_id_k ek hk
  have h1 : ¬ m_pg s.1 x y = false := by rw [e]; decide
  refine ⟨k / 8, ex, by omega, ?_⟩
  have e11 : A 11 (k / 8) = s.1 (14 + k / 8) := (r.1.1.1.1.2.1 (k / 8) (by omega)).2.1
  rw [e11]
  rcases r.1.2.2.2.2.2.2.2.2.2.1.2 (k / 8) (by omega) with q | q
  · refine br_f (by rw [q]; decide) (o.x (c := 1) (by unfold s_peekF; rw [if_neg h1, em, if_pos (by rw [q]; rfl)]) rfl (Nat.le_refl _) r)
  · refine br_t q ?_
    have g := o.k (by unfold s_peekF; rw [if_neg h1, em, if_neg (by rw [q]; decide)]) (Nat.le_refl _) r
    unfold wX11_idOf
    rw [ek]
    refine ix0 hk ?_
    rw [show A 13 k = s.1 (32 + k) from (r.1.1.1.1.2.2 k hk).1]
    refine c_floatOfBits (fun _ => g) (fun z => ?_)
    rw [nf k hk q z] at g
    exact g
theorem r_peekF {B : Nat} {s : st_S} {x y : Int32} {K : UInt32 → ab_F → ab_F → Prop} {I A : ab_F} (r : RMs B s I A) (nf : Nf s.1) (o : ∀ r I A, RMs B (s_peekF s x y).2.2 I A → I 0 5 = nI (s_peekF s x y).1 → ((s_peekF s x y).1 = 0 → r = (s_peekF s x y).2.1.toUInt32) → K r I A) : wX12_peekFloat K I A x y := by
  have e1 : A 1 = s.1 := r.1.1
  have iv : Iv B s.1 := r.1.2
  refine q_isNoPage (by rw [e1]; exact iv.1) ?_
  rw [e1]
  refine bb' (fun q => ?_) (fun q => ?_)
  · have hl := nb_f q
    obtain ⟨k, hk, ht, ek, ex⟩ := pg_k iv.1 hl
    have em := m_id_k ek hk
    have h1 : ¬ m_pg s.1 x y = false := by rw [hl]; decide
    refine ixv ex (by omega) ?_
    try rw [e1]
    rcases iv.2.2.2.2.2.2.2.2.1.2 (k / 8) (by omega) with q2 | q2
    · have eo : s_peekF s x y = (2, 0, s) := by unfold s_peekF; rw [if_neg h1, em, if_pos (by rw [q2]; rfl)]
      rw [eo] at o
      refine rb_t (by rw [q2]; rfl) (q_fails (b := true) (bb (fun q3 => nomatch q3) (fun _ => ?_)))
      exact o _ _ _ (RM_5 (RM_5 r)) w5 (fun z => absurd (show (2 : Nat) = 0 from z) (by decide))
    · have eo : s_peekF s x y = (0, s.1 (32 + k), s) := by unfold s_peekF; rw [if_neg h1, em, if_neg (by rw [q2]; decide)]
      rw [eo] at o
      refine rb_f (by rw [q2]; decide) (q_fails (b := false) (bb (fun _ => ?_) (fun q3 => nomatch q3)))
      unfold wX12_pageOf
      rw [ek]
      refine ixa (by omega) ?_
      rw [e1]
      exact ⟨f_sn (nf k hk q2), o _ _ _ (RM_5 (RM_5 r)) w5 (fun _ => rfl)⟩
  · have hl := nb_t q
    have eo : s_peekF s x y = (1, 0, s) := by unfold s_peekF; rw [if_pos hl]
    rw [eo] at o
    exact o _ _ _ (RM_5 r) (by rw [w5, q]; rfl) (fun z => absurd (show (1 : Nat) = 0 from z) (by decide))
