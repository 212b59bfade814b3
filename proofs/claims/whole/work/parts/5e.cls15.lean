/-! lost pages, a process is restored, crashes, in the class -/
theorem c_rv {K : Int32 → ab_F → ab_F → Prop} {I A : ab_F} {w : Nat → Int32} {k : Nat} (e27 : A 27 k = w (272 + k)) (e21 : ∀ s, s < 48 → A 21 s = w (368 + s)) (z : Sz w) (ck : Ck w) (hk : k < 48) (h : K (m_rsd w k) I A) : wX8_restoredValue K I A (nI k) := by
  have hS := z.2.1.2
  refine ix0 hk (nm_r e27 ?_)
  unfold m_rsd at h
  rcases ck k hk with a | ⟨s, a, b, c, d⟩
  · refine rb_t a ?_
    rw [if_pos a] at h
    split at h <;> exact h
  · rw [b]
    rw [if_neg d, b, if_neg (nI_m1 (by omega)), nn_nI (by omega)] at h
    refine rb_f (nI_m1 (by omega)) (ix0 (by omega) ?_)
    rw [e21 s (by omega)]; exact h
theorem c_restoredValue {K : Int32 → ab_F → ab_F → Prop} {I A : ab_F} {B : Nat} {w : Nat → Int32} {k : Nat} (r : Rs 8 I A w) (x : Iv B w) (hk : k < 48) (h : K (m_rsd w k) I A) : wX8_restoredValue K I A (nI k) :=
  c_rv ((r.2.1.2.2.1 k hk).2) (fun s hs => (r.1.2.2.2.2 s hs).1) x.1 x.2.2.2.2.1 hk h
theorem c_lostSet {K : Int32 → ab_F → ab_F → Prop} {I A : ab_F} {B p : Nat} {w : Nat → Int32} (r : Rs 8 I A w) (x : Iv B w) (hp : p < 6) (h : K (nI (m_los w p)) I A) : wX8_lostSet K I A (nI p) := by
  have hC := x.1.2.2.2 p hp
  have e10 : A 10 p = nI (m_C w p) := ((r.1.1.2.1 p hp).1).trans hC.1
  refine lp (W := fun n i => wlX8_lostSet_4 K n (nI p) (nI (sb (fun i => !decide (w (32 + (8 * p + i)) = m_rsd w (8 * p + i))) i)) (nI i) I A) (e := m_C w p) (fun n => ?_) (fun n i hi hw => ?_)
  · refine ix0 hp ?_
    rw [e10]
    exact br_t (nI_le (Nat.le_refl _) (by omega)) h
  · refine ix0 hp ?_
    rw [e10]
    refine br_f (nI_ge hi (by omega)) ?_
    have hk : 8 * p + i < 48 := by omega
    unfold wX11_idOf
    rw [nI_mul8, nI_add (8 * p) i]
    refine ix0 hk (c_restoredValue r x hk ?_)
    rw [(r.1.1.2.2 (8 * p + i) hk).1]
    rw [sb] at hw
    by_cases e : w (32 + (8 * p + i)) = m_rsd w (8 * p + i)
    · refine br_t e ?_
      simp only [decide_eq_true e, Bool.not_true, Bool.false_eq_true, if_false, Nat.add_zero] at hw
      rw [nI_add i 1]; exact hw
    · refine br_f e (nm_r (or_bit i (by omega) _ (sb_lt i)) ?_)
      simp only [decide_eq_false e, Bool.not_false, if_true] at hw
      rw [nI_add i 1]; exact hw
theorem c_leave0 {K : ab_F → ab_F → Prop} {I A : ab_F} {k : Nat} {w : Nat → Int32} (r : Rs 8 I A w) (hk : k < 48) (e : w (128 + k) = -1) (h : K I A) : wX8_leaveFrame K I A (nI k) := by
  have e14 : A 14 k = -1 := ((r.1.1.2.2 k hk).2.1).trans e
  exact ix0 hk (nm_r e14 (br_t rfl h))
/-- a page leaves its frame if it has one -/
def m_r2 (w : Nat → Int32) (k : Nat) : Nat → Int32 := if w (128 + k) = -1 then w else m_lv w k
theorem r2_ne {w : Nat → Int32} {k j : Nat} (h1 : j ≠ 128 + k) (h2 : j < 320 ∨ 336 ≤ j) {B : Nat} (x : Iv B w) (hk : k < 48) : m_r2 w k j = w j := by
  unfold m_r2
  split
  · rfl
  · rename_i hn
    obtain ⟨f, a, b, c⟩ := Fr_get x.2.1 hk hn
    have hF := x.1.1.2
    unfold m_lv
    rw [b, nn_nI (by omega), uw_ne h1, uw_ne (by omega)]
theorem c_r1 {K : ab_F → ab_F → Prop} {I A : ab_F} {B k : Nat} {w : Nat → Int32} (r : Rs 8 I A w) (x : Iv B w) (hk : k < 48) (h : ∀ A', Rs 8 I A' (m_r1 w k) → Ek I A I A' → K I A') : wX8_leaveFrame (fun I1 A1 => wX4_makeClean (fun I2 A2 => wX8_restoredValue (fun v I3 A3 => ∃ j1 : Nat, nI k = nI j1 ∧ j1 < 48 ∧ (∃ j2 : Nat, nI k = nI j2 ∧ j2 < 48 ∧ (∃ j3 : Nat, nI k = nI j3 ∧ j3 < 48 ∧ K I3 (wr (wr A3 13 j1 v) 15 j3 (A3 27 j2))))) I2 A2 (nI k)) I1 A1 (nI k)) I A (nI k) := by
  have hF := x.1.1.2
  have fin : ∀ A1, Rs 8 I A1 (m_r2 w k) → Ek I A I A1 → wX4_makeClean (fun I2 A2 => wX8_restoredValue (fun v I3 A3 => ∃ j1 : Nat, nI k = nI j1 ∧ j1 < 48 ∧ (∃ j2 : Nat, nI k = nI j2 ∧ j2 < 48 ∧ (∃ j3 : Nat, nI k = nI j3 ∧ j3 < 48 ∧ K I3 (wr (wr A3 13 j1 v) 15 j3 (A3 27 j2))))) I2 A2 (nI k)) I A1 (nI k) := by
    intro A1 r1 ek1
    have ne : ∀ j, j ≠ 128 + k → (j < 320 ∨ 336 ≤ j) → m_r2 w k j = w j := fun j a b => r2_ne a b x hk
    have sm : Sm w (m_r2 w k) := ⟨ne _ (by omega) (by omega), ne _ (by omega) (by omega), ne _ (by omega) (by omega), fun p hp => ne _ (by omega) (by omega)⟩
    have z1 := sm.sz x.1
    have ck1 : Ck (m_r2 w k) := Ck_eq sm (fun j hj => ne _ (by omega) (by omega)) (fun p hp => ne _ (by omega) (by omega)) x.2.2.2.2.1
    have e1 : m_r1 w k = m_r0 (m_r2 w k) k := rfl
    generalize m_r2 w k = v at *
    have e12 : A1 12 (k / 8) = nI (m_ds v (k / 8)) := (r1.1.1.2.1 (k / 8) (by omega)).2.2
    have hds := ds_c (w := v) (w' := m_r0 v k) (k := k) hk (by unfold m_r0; rw [uw_ne (by omega), uw_ne (by omega), uw_at]) (fun j h48 hj => by unfold m_r0; rw [uw_ne (by omega), uw_ne (by omega), uw_ne (by omega)])
    unfold wX4_makeClean
    rw [pk_div (by omega) (by omega) (by omega), show nI k - nI (k / 8) * nI 8 = nI (k % 8) from by rw [← pk_div (by omega) (by omega) (by omega)]; exact pk_rem (by omega) (by omega) (by omega)]
    refine ix0 (by omega) (ix0 (by omega) ?_)
    rw [e12, hds]
    refine c_rv (w := v) (by rw [wr_ne (by decide)]; exact (r1.2.1.2.2.1 k hk).2) (fun s hs => by rw [wr_ne (by decide)]; exact (r1.1.2.2.2.2 s hs).1) z1 ck1 hk (ix0 hk (ix0 hk (ix0 hk (h _ ?_ ?_))))
    · rw [e1]
      have e27 : wr A1 12 (k / 8) (nI (m_ds (m_r0 v k) (k / 8))) 27 k = (if v (26 + k / 8) = -1 then -1 else v (272 + k)) := by
        rw [wr_ne (by decide), (show A1 27 k = v (272 + k) from (r1.2.1.2.2.1 k hk).2)]
        by_cases hp : v (26 + k / 8) = -1
        · rw [if_pos hp]
          rcases ck1 k hk with a | ⟨s, a, b, c, d⟩
          · exact a
          · exact absurd hp d
        · rw [if_neg hp]
      rw [e27]
      refine Rs_pg r1 (fun j hj => ?_) (fun j hj => ?_) (fun j hj => ?_) (fun p hp => ?_) (fun c q1 q2 q3 q4 => by rw [wr_ne q3, wr_ne q2, wr_ne q1])
      · unfold m_r0; rw [uw_ne (by omega), uw_ne (by omega), uw_ne (by omega)]
      · rw [wr_ne (by decide), wr_w, wrow_at, wr_ne (by decide)]
        unfold m_r0
        by_cases ej : j = k
        · subst ej; rw [uw_at, uw_at]
        · rw [uw_ne ej, uw_ne (by omega), uw_ne (by omega), uw_ne (by omega)]; exact (r1.1.1.2.2 j hj).1
      · rw [wr_w, wrow_at, wr_ne (by decide), wr_ne (by decide)]
        unfold m_r0
        by_cases ej : j = k
        · subst ej; rw [uw_at, uw_ne (by omega), uw_at]
        · rw [uw_ne ej, uw_ne (by omega), uw_ne (by omega), uw_ne (by omega)]; exact (r1.1.1.2.2 j hj).2.2
      · rw [wr_ne (by decide), wr_ne (by decide), wr_w, wrow_at]
        by_cases ep : p = k / 8
        · subst ep; rw [uw_at]
        · rw [uw_ne ep, show A1 12 p = nI (m_ds v p) from (r1.1.1.2.1 p hp).2.2, ds_eq (w := v) (w' := m_r0 v k) (fun i hi => by unfold m_r0; rw [uw_ne (by omega), uw_ne (by omega), uw_ne (by omega)])]
    · exact ek1.trans (fun c hc => ⟨rfl, by rw [wr_ne (by omega), wr_ne (by omega), wr_ne (by omega)]⟩)
  by_cases hn : w (128 + k) = -1
  · refine c_leave0 r hk hn (fin A ?_ (Ek.refl I A))
    unfold m_r2; rw [if_pos hn]; exact r
  · obtain ⟨f, a, b, c⟩ := Fr_get x.2.1 hk hn
    refine c_leaveFrame r hk (by omega) b (fun A1 r1 ek1 => fin A1 ?_ ek1)
    unfold m_r2; rw [if_neg hn]; exact r1
theorem c_rst {K : Int32 → ab_F → ab_F → Prop} {B p : Nat} {u : Int32} {w : Nat → Int32} (x : Iv B w) (hp : p < 6) (hb : m_has (w 10) p = false) : ∀ (m i : Nat) (I A : ab_F), i + m = m_C w p → Rs 8 I A (up (fun i v => m_r1 v (8 * p + i)) w i) → (∀ I' A', Rs 8 I' A' (m_rst w p) → Ek I A I' A' → K u I' A') → wlX8_restore_8 K (m + 1) (nI p) u (nI i) I A
  | 0, i, I, A, hi, r, h => by
    have hC := x.1.2.2.2 p hp
    have hx := Iv_rst x hp hb i (by omega)
    have e10 : A 10 p = nI (m_C w p) := ((r.1.1.2.1 p hp).1).trans ((hx.2.1.2.2.2 p hp).trans hC.1)
    refine ix0 hp ?_
    rw [e10]
    refine br_t (nI_le (by omega) (by omega)) (h _ _ ?_ (Ek.refl I A))
    unfold m_rst
    rw [← hi]; exact r
  | m + 1, i, I, A, hi, r, h => by
    have hC := x.1.2.2.2 p hp
    have hx := Iv_rst x hp hb i (by omega)
    have e10 : A 10 p = nI (m_C w p) := ((r.1.1.2.1 p hp).1).trans ((hx.2.1.2.2.2 p hp).trans hC.1)
    refine ix0 hp ?_
    rw [e10]
    refine br_f (nI_ge (by omega) (by omega)) ?_
    unfold wX11_idOf
    rw [nI_mul8, nI_add (8 * p) i]
    refine c_r1 (K := fun I3 A3 => wlX8_restore_8 K (m + 1) (nI p) u (nI i + nI 1) I3 A3) r hx.1 (by omega) (fun A' r' ek => ?_)
    rw [nI_add i 1]
    exact c_rst x hp hb m (i + 1) I A' (by omega) r' (fun I2 A2 r2 ek2 => h _ _ r2 (ek.trans ek2))
theorem c_restore {K : Int32 → ab_F → ab_F → Prop} {I A : ab_F} {B p : Nat} {w : Nat → Int32} (r : Rs 8 I A w) (x : Iv B w) (hp : p < 6) (hb : m_has (w 10) p = false) (h : ∀ I' A', Rs 8 I' A' (m_rst w p) → Ek I A I' A' → K (nI (m_los w p)) I' A') : wX8_restore K I A (nI p) :=
  c_lostSet r x hp ⟨m_C w p + 1, c_rst x hp hb (m_C w p) 0 I A (by omega) r h⟩
theorem c_crl {K : Int32 → ab_F → ab_F → Prop} {B : Nat} {w : Nat → Int32} (x : Iv B w) : ∀ (m i : Nat) (I A : ab_F), i + m = m_P w → Rs 8 I A (m_crl w i) → (∀ I' A', Rs 8 I' A' (m_crs w) → Ek I A I' A' → K (nI (sb (fun p => !decide (w (26 + p) = -1)) (m_P w))) I' A') → wlX8_crashAll_11 K (m + 1) (nI (sb (fun p => !decide (w (26 + p) = -1)) i)) (nI i) I A
  | 0, i, I, A, hi, r, h => by
    have hP := x.1.2.2.1.2
    have hx := Iv_crl x i (by omega)
    have e3 : m_crl w i 3 = nI (m_P w) := (hx.2.1.2.2.1).trans ((uw_ne (by omega)).trans x.1.2.2.1.1)
    have e9 : I 9 0 = nI (m_P w) := (r.1.1.1).trans e3
    rw [wlX8_crashAll_11, e9]
    have hi2 : i = m_P w := by omega
    refine br_t (nI_le (by omega) (by omega)) ?_
    rw [hi2]
    rw [hi2] at r
    refine h _ _ ?_ ?_
    · unfold m_crs
      obtain ⟨q1, q2, q3, n, a, eb, e4, e5, e6, e7, e8⟩ := r.2.2
      refine Rs_ac r (fun j hj h5 => by rw [uw_ne (by omega), uw_ne (by omega)]) (fun c a b => by rw [wr_ne b, wr_ne a]) (fun c _ _ => rfl) ⟨?_, ?_, ?_, 0, a, eb, ?_, by omega, ?_, ?_, fun i hi => by omega⟩
      · show wr (wr I 29 2 (nI 0)) 8 5 _ 29 0 = _
        rw [wr_ne (by decide), wr_nei (by decide), uw_ne (by omega), uw_ne (by omega)]; exact q1
      · show wr (wr I 29 2 (nI 0)) 8 5 _ 29 1 = _
        rw [wr_ne (by decide), wr_nei (by decide), uw_ne (by omega), uw_ne (by omega)]; exact q2
      · rw [wr_ate, uw_at, (show I 8 5 = m_crl w (m_P w) 9 from q3)]
      · rw [uw_ne (by omega), uw_ne (by omega)]; exact e4
      · show wr (wr I 29 2 (nI 0)) 8 5 _ 29 2 = _
        rw [wr_ne (by decide), wr_ate]
      · rw [uw_ne (by omega), uw_at]; rfl
    · intro c hc; exact ⟨by rw [wr_ne (by omega), wr_ne (by omega)], rfl⟩
  | m + 1, i, I, A, hi, r, h => by
    have hP := x.1.2.2.1.2
    have hx := Iv_crl x i (by omega)
    have e3 : m_crl w i 3 = nI (m_P w) := (hx.2.1.2.2.1).trans ((uw_ne (by omega)).trans x.1.2.2.1.1)
    have e9 : I 9 0 = nI (m_P w) := (r.1.1.1).trans e3
    have h10 : m_crl w i 10 = nI 0 := (hx.2.2.1).trans (uw_at _ _ _)
    rw [wlX8_crashAll_11, e9]
    refine br_f (nI_ge (by omega) (by omega)) (c_restore r hx.1 (by omega) (by rw [h10]; exact has_0 i) (fun I' A' r' ek => ix0 (by omega) ?_))
    have hx1 := Iv_crl x (i + 1) (by omega)
    have e26 : A' 26 i = w (26 + i) := (r'.2.1.2.2.2.1 i (by omega)).trans ((hx1.2.2.2.1 i (by omega)).trans (uw_ne (by omega)))
    rw [e26, nI_add i 1]
    have nx := c_crl (K := K) x m (i + 1) I' A' (by omega) r' (fun I2 A2 r2 ek2 => h _ _ r2 (ek.trans ek2))
    rw [sb] at nx
    by_cases e : w (26 + i) = -1
    · refine br_t e ?_
      simp only [decide_eq_true e, Bool.not_true, Bool.false_eq_true, if_false, Nat.add_zero] at nx
      exact nx
    · refine br_f e (nm_r (or_bit i (by omega) _ (sb_lt i)) ?_)
      simp only [decide_eq_false e, Bool.not_false, if_true] at nx
      exact nx
theorem c_crashAll {K : Int32 → ab_F → ab_F → Prop} {I A : ab_F} {B : Nat} {w : Nat → Int32} (r : Rs 8 I A w) (x : Iv B w) (h : ∀ I' A', Rs 8 I' A' (m_crs w) → Ek I A I' A' → K (nI (sb (fun p => !decide (w (26 + p) = -1)) (m_P w))) I' A') : wX8_crashAll K I A := by
  refine c_clr r (fun I1 A1 r1 ek1 => ⟨m_P w + 1, ?_⟩)
  exact c_crl x (m_P w) 0 I1 A1 (by omega) r1 (fun I2 A2 r2 ek2 => h _ _ r2 (ek1.trans ek2))
