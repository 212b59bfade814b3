/-! what Integer.stringSize and getChars do on a natural number -/
theorem wr_rw (A : ab_F) (v j : Nat) (x : Int32) : (wr A v j x) v = upd (A v) j x := by
  funext k
  unfold wr upd
  rw [if_pos rfl]
theorem c_ssz {K : Int32 → ab_F → ab_F → Prop} {I A : ab_F} {x : Nat} (hv : x < 2 ^ 31) (hp : K (nI (sb_dg x)) I A) : wJ6_stringSize_0f7a4 K I A (nI x) := by
  have hs : ∀ i, sb_dg x = i → K (nI i) I A := fun i e => e ▸ hp
  refine br_f (nI_pos hv) (nm_e ⟨11, ?_⟩)
  rw [wlJ6_stringSize_0f7a4_16]
  refine br_f (by decide) (sb_cmp x 10 (fun h1 => ?_) (fun h => sb_at (P := fun z => K z I A) (by decide) (hs 1 (by unfold sb_dg; (repeat' split) <;> omega))) hv)
  refine nm_r (e' := (-100 : Int32)) (by decide) ?_
  rw [show nI 1 + nI 1 = nI 2 from by decide, wlJ6_stringSize_0f7a4_16]
  refine br_f (by decide) (sb_cmp x 100 (fun h2 => ?_) (fun h => sb_at (P := fun z => K z I A) (by decide) (hs 2 (by unfold sb_dg; (repeat' split) <;> omega))) hv)
  refine nm_r (e' := (-1000 : Int32)) (by decide) ?_
  rw [show nI 2 + nI 1 = nI 3 from by decide, wlJ6_stringSize_0f7a4_16]
  refine br_f (by decide) (sb_cmp x 1000 (fun h3 => ?_) (fun h => sb_at (P := fun z => K z I A) (by decide) (hs 3 (by unfold sb_dg; (repeat' split) <;> omega))) hv)
  refine nm_r (e' := (-10000 : Int32)) (by decide) ?_
  rw [show nI 3 + nI 1 = nI 4 from by decide, wlJ6_stringSize_0f7a4_16]
  refine br_f (by decide) (sb_cmp x 10000 (fun h4 => ?_) (fun h => sb_at (P := fun z => K z I A) (by decide) (hs 4 (by unfold sb_dg; (repeat' split) <;> omega))) hv)
  refine nm_r (e' := (-100000 : Int32)) (by decide) ?_
  rw [show nI 4 + nI 1 = nI 5 from by decide, wlJ6_stringSize_0f7a4_16]
  refine br_f (by decide) (sb_cmp x 100000 (fun h5 => ?_) (fun h => sb_at (P := fun z => K z I A) (by decide) (hs 5 (by unfold sb_dg; (repeat' split) <;> omega))) hv)
  refine nm_r (e' := (-1000000 : Int32)) (by decide) ?_
  rw [show nI 5 + nI 1 = nI 6 from by decide, wlJ6_stringSize_0f7a4_16]
  refine br_f (by decide) (sb_cmp x 1000000 (fun h6 => ?_) (fun h => sb_at (P := fun z => K z I A) (by decide) (hs 6 (by unfold sb_dg; (repeat' split) <;> omega))) hv)
  refine nm_r (e' := (-10000000 : Int32)) (by decide) ?_
  rw [show nI 6 + nI 1 = nI 7 from by decide, wlJ6_stringSize_0f7a4_16]
  refine br_f (by decide) (sb_cmp x 10000000 (fun h7 => ?_) (fun h => sb_at (P := fun z => K z I A) (by decide) (hs 7 (by unfold sb_dg; (repeat' split) <;> omega))) hv)
  refine nm_r (e' := (-100000000 : Int32)) (by decide) ?_
  rw [show nI 7 + nI 1 = nI 8 from by decide, wlJ6_stringSize_0f7a4_16]
  refine br_f (by decide) (sb_cmp x 100000000 (fun h8 => ?_) (fun h => sb_at (P := fun z => K z I A) (by decide) (hs 8 (by unfold sb_dg; (repeat' split) <;> omega))) hv)
  refine nm_r (e' := (-1000000000 : Int32)) (by decide) ?_
  rw [show nI 8 + nI 1 = nI 9 from by decide, wlJ6_stringSize_0f7a4_16]
  refine br_f (by decide) (sb_cmp x 1000000000 (fun h9 => ?_) (fun h => sb_at (P := fun z => K z I A) (by decide) (hs 9 (by unfold sb_dg; (repeat' split) <;> omega))) hv)
  refine nm_e ?_
  rw [show nI 9 + nI 1 = nI 10 from by decide, wlJ6_stringSize_0f7a4_16]
  exact br_t (by decide) (sb_at (P := fun z => K z I A) (by decide) (hs 10 (by unfold sb_dg; (repeat' split) <;> omega)))
theorem s_tab : ∀ k, k < 100 → vp_nar .byte (ab_stv 1 k) = sb_b (48 + k % 10) ∧ vp_nar .byte (ab_stv 2 k) = sb_b (48 + k / 10) := by decide +kernel
theorem c_gcl {K : Int32 → ab_F → ab_F → Prop} {I : ab_F} {v cap n : Nat} (hm : cap ≤ 65536) : ∀ (f w p : Nat) (A : ab_F), w < f → w < 2 ^ 31 → p = n + sb_dg w → p ≤ cap →
    (∀ A', (∀ c, c ≠ v → A' c = A c) → (∀ j, j < n ∨ p ≤ j → A' v j = A v j) → (∀ i, i < sb_dg w → A' v (p - 1 - i) = sb_b (48 + w / 10 ^ i % 10)) → (sb_Fit (A v) → sb_Fit (A' v)) → K (nI n) I A') →
    wlJ6_getChars_ba4f3_22 v cap K f (-nI w) (nI p) (nI 0) I A := by
  intro f
  induction f with
  | zero =>
    intro w p A h
    omega
  | succ f ih =>
    intro w p A hwf hw hp hpm hP
    have hd1 := (sb_dg_in w).1
    have e1 : -(-nI w) = nI w := Int32.neg_neg
    rw [wlJ6_getChars_ba4f3_22]
    by_cases h100 : w < 100
    · obtain ⟨t1, t2⟩ := s_tab w h100
      refine br_t (show -nI 100 < -nI w from (sb_nlt (by decide) hw).mpr h100) ⟨w, e1, h100, p - 1, sb_m1 (by omega), by omega, ?_⟩
      rw [t1]
      by_cases h9 : w < 10
      · have hd : sb_dg w = 1 := if_pos h9
        refine br_t (show -nI 9 ≤ -nI w from (sb_nle (by decide) hw).mpr (by omega)) (br_t rfl ?_)
        rw [sb_m1 (by omega), show nI (p - 1) = nI n from congrArg nI (by omega)]
        refine hP _ (fun c hc => wr_ne hc) (fun j hj => by rw [wr_rw, pk_un (by omega)]) (fun i hi => ?_) (fun hf => by rw [wr_rw]; exact sb_fitU hf (sb_fitB _))
        obtain rfl : i = 0 := by omega
        rw [Nat.sub_zero, wr_rw, pk_us, Nat.pow_zero, Nat.div_one]
      · have hd : sb_dg w = 2 := by rw [sb_dg, if_neg h9, if_pos h100]
        have d2 : w / 10 % 10 = w / 10 := by omega
        refine br_f (fun z => by have := (sb_nle (by decide) hw).mp (show -nI 9 ≤ -nI w from z); omega) ⟨w, e1, h100, p - 1 - 1, by rw [sb_m1 (by omega), sb_m1 (by omega)], by omega, ?_⟩
        rw [t2]
        refine br_t rfl ?_
        rw [sb_m1 (by omega), sb_m1 (by omega), show nI (p - 1 - 1) = nI n from congrArg nI (by omega)]
        refine hP _ (fun c hc => by rw [wr_ne hc, wr_ne hc]) (fun j hj => by rw [wr_rw, wr_rw, pk_un (by omega), pk_un (by omega)]) (fun i hi => ?_) (fun hf => by rw [wr_rw, wr_rw]; exact sb_fitU (sb_fitU hf (sb_fitB _)) (sb_fitB _))
        obtain rfl | rfl : i = 0 ∨ i = 1 := by omega
        · rw [Nat.sub_zero, wr_rw, wr_rw, pk_un (by omega), pk_us, Nat.pow_zero, Nat.div_one]
        · rw [wr_rw, pk_us, Nat.pow_one, d2]
    · obtain ⟨t1, t2⟩ := s_tab (w % 100) (Nat.mod_lt _ (by decide))
      have hd := sb_dg100 (w := w) (by omega) hw
      have hd2 := (sb_dg_in (w / 100)).1
      rw [show w % 100 % 10 = w % 10 by omega] at t1
      rw [show w % 100 / 10 = w / 10 % 10 by omega] at t2
      refine br_f (fun z => h100 ((sb_nlt (by decide) hw).mp (show -nI 100 < -nI w from z))) (nm_r (sb_ndiv hw) (nm_r (sb_nrem hw) ⟨w % 100, rfl, Nat.mod_lt _ (by decide), p - 1, sb_m1 (by omega), by omega, w % 100, rfl, Nat.mod_lt _ (by decide), p - 1 - 1, by rw [sb_m1 (by omega), sb_m1 (by omega)], by omega, ?_⟩))
      rw [t1, t2, sb_m1 (by omega), sb_m1 (by omega)]
      refine ih (w / 100) (p - 1 - 1) _ (by omega) (by omega) (by omega) (by omega) (fun A' h0 h1 h2 h3 => ?_)
      refine hP A' (fun c hc => by rw [h0 c hc, wr_ne hc, wr_ne hc]) (fun j hj => by rw [h1 j (by omega), wr_rw, wr_rw, pk_un (by omega), pk_un (by omega)]) (fun i hi => ?_) (fun hf => h3 (by rw [wr_rw, wr_rw]; exact sb_fitU (sb_fitU hf (sb_fitB _)) (sb_fitB _)))
      match i, hi with
      | 0, _ => rw [Nat.sub_zero, h1 _ (by omega), wr_rw, wr_rw, pk_un (by omega), pk_us, Nat.pow_zero, Nat.div_one]
      | 1, _ => rw [h1 _ (by omega), wr_rw, pk_us, Nat.pow_one]
      | k + 2, hi =>
        rw [show p - 1 - (k + 2) = p - 1 - 1 - 1 - k by omega, h2 k (by omega), Nat.div_div_eq_div_mul, show 100 * 10 ^ k = 10 ^ (k + 2) by rw [show k + 2 = k + 1 + 1 from rfl, Nat.pow_succ, Nat.pow_succ]; omega]
/-- the decimal digits of x, from place n on -/
theorem c_gch {K : Int32 → ab_F → ab_F → Prop} {I A : ab_F} {v cap n x : Nat} (hm : cap ≤ 65536) (hx : x < 2 ^ 31) (hp : n + sb_dg x ≤ cap)
    (hP : ∀ A', (∀ c, c ≠ v → A' c = A c) → (∀ j, j < n → A' v j = A v j) → (∀ i, i < sb_dg x → A' v (n + i) = sb_b (sb_dec x i)) → (sb_Fit (A v) → sb_Fit (A' v)) → K (nI n) I A') : wJ6_getChars_ba4f3 v cap K I A (nI x) (nI (n + sb_dg x)) := by
  refine br_t (nI_pos' hx) ⟨fun h => absurd rfl h, fun _ => nm_e ⟨x + 1, ?_⟩⟩
  refine c_gcl hm (x + 1) x _ A (Nat.lt_succ_self x) hx rfl hp (fun A' h0 h1 h2 h3 => hP A' h0 (fun j hj => h1 j (Or.inl hj)) (fun i hi => ?_) h3)
  have h9 := h2 (sb_dg x - 1 - i) (by omega)
  rw [show n + sb_dg x - 1 - (sb_dg x - 1 - i) = n + i by omega] at h9
  exact h9
