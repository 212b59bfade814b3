/-! the class's relation where one part of the system changes alone -/
/-- pages' values, swap slots and dirty bits -/
theorem Rs_pg {I A A' : ab_F} {w w' : Nat → Int32} (r : Rs 8 I A w) (hw : ∀ j, (j < 32 ∨ (128 ≤ j ∧ j < 176) ∨ 224 ≤ j) → w' j = w j) (h13 : ∀ k, k < 48 → A' 13 k = w' (32 + k)) (h15 : ∀ k, k < 48 → A' 15 k = w' (80 + k)) (h12 : ∀ p, p < 6 → A' 12 p = nI (m_ds w' p)) (ho : ∀ c, c ≠ 12 → c ≠ 13 → c ≠ 15 → c ≠ 31 → A' c = A c) : Rs 8 I A' w' := by
  obtain ⟨⟨⟨a1, a2, a3⟩, ⟨b1, b2, b3⟩, ⟨c1, c2, c3⟩⟩, ⟨⟨d1, d2, d3⟩, d4, d5, d6, d7⟩, e1, e2, e3, n, a, eb, e4, e5, e6, e7, e8⟩ := r
  have oA : ∀ c, c ≠ 12 ∧ c ≠ 13 ∧ c ≠ 15 ∧ c ≠ 31 → A' c = A c := fun c h => ho c h.1 h.2.1 h.2.2.1 h.2.2.2
  have sm : Sm w w' := ⟨hw _ (by omega), hw _ (by omega), hw _ (by omega), fun p hp => hw _ (by omega)⟩
  have epc : m_pc w' = m_pc w := by
    unfold m_pc
    refine cn_congr (fun j hj => ?_)
    unfold m_tp m_pd
    rw [sm.th hj, hw 10 (by omega), hw (224 + j) (by omega)]
  refine ⟨⟨⟨?_, fun p hp => ⟨?_, ?_, h12 p hp⟩, fun j hj => ⟨h13 j hj, ?_, h15 j hj⟩⟩, ⟨?_, ?_, fun f hf => ⟨?_, ?_, ?_⟩⟩, ⟨?_, ?_, fun t ht => ⟨?_, ?_, ?_⟩⟩⟩, ⟨⟨?_, ?_, ?_⟩, ?_, fun j hj => ⟨?_, ?_⟩, fun p hp => ?_, ?_⟩, ?_, ?_, ?_, n, a, eb, ?_, e5, e6, ?_, ?_⟩
  · rw [a1, hw _ (by omega)]
  · rw [oA _ (by decide), (a2 p hp).1, hw _ (by omega)]
  · rw [oA _ (by decide), (a2 p hp).2.1, hw _ (by omega)]
  · rw [oA _ (by decide), (a3 j hj).2.1, hw _ (by omega)]
  · rw [b1, hw _ (by omega)]
  · rw [b2, hw _ (by omega)]
  · rw [oA _ (by decide), (b3 f hf).1, hw _ (by omega)]
  · rw [oA _ (by decide), (b3 f hf).2.1, hw _ (by omega)]
  · rw [oA _ (by decide), (b3 f hf).2.2, hw _ (by omega)]
  · rw [c1, hw _ (by omega)]
  · rw [c2, hw _ (by omega)]
  · rw [oA _ (by decide), (c3 t ht).1, hw _ (by omega)]
  · rw [oA _ (by decide), (c3 t ht).2.1, hw _ (by omega)]
  · rw [oA _ (by decide), (c3 t ht).2.2, hw _ (by omega)]
  · rw [d1, hw _ (by omega)]
  · rw [d2, hw _ (by omega)]
  · rw [d3, hw _ (by omega)]
  · rw [hw 10 (by omega), hw 11 (by omega), epc]; exact d4
  · rw [oA _ (by decide), (d5 j hj).1]; unfold m_rk; rw [hw 10 (by omega), hw (224 + j) (by omega)]
  · rw [oA _ (by decide), (d5 j hj).2, hw _ (by omega)]
  · rw [oA _ (by decide), d6 p hp, hw _ (by omega)]
  · rw [hw 8 (by omega)]
    intro c hc hc2 i hi j hj
    rw [oA _ (by decide), d7 c hc hc2 i hi j hj, hw _ (by omega)]
  · rw [e1, hw _ (by omega)]
  · rw [e2, hw _ (by omega)]
  · rw [e3, hw _ (by omega)]
  · rw [hw _ (by omega)]; exact e4
  · rw [hw _ (by omega)]; exact e7
  · intro i hi
    rw [oA _ (by decide), e8 i hi, hw _ (by omega)]
/-- barriers -/
theorem Rs_ba {I A I' A' : ab_F} {w w' : Nat → Int32} (r : Rs 8 I A w) (hw : ∀ j, (j < 26 ∨ (32 ≤ j ∧ j < 224) ∨ (320 ≤ j ∧ j < 576)) → j ≠ 4 ∧ j ≠ 8 ∧ j ≠ 10 ∧ j ≠ 11 ∧ j ≠ 13 → w' j = w j) (hI : ∀ c, c ≠ 24 → I' c = I c) (ho : ∀ c, c ≠ 25 → c ≠ 26 → c ≠ 27 → c ≠ 28 → c ≠ 31 → A' c = A c) (hb : Rb 8 I' A' w') : Rs 8 I' A' w' := by
  obtain ⟨⟨⟨a1, a2, a3⟩, ⟨b1, b2, b3⟩, ⟨c1, c2, c3⟩⟩, -, e1, e2, e3, n, a, eb, e4, e5, e6, e7, e8⟩ := r
  have oA : ∀ c, c ≠ 25 ∧ c ≠ 26 ∧ c ≠ 27 ∧ c ≠ 28 ∧ c ≠ 31 → A' c = A c := fun c h => ho c h.1 h.2.1 h.2.2.1 h.2.2.2.1 h.2.2.2.2
  refine ⟨⟨⟨?_, fun p hp => ⟨?_, ?_, ?_⟩, fun j hj => ⟨?_, ?_, ?_⟩⟩, ⟨?_, ?_, fun f hf => ⟨?_, ?_, ?_⟩⟩, ⟨?_, ?_, fun t ht => ⟨?_, ?_, ?_⟩⟩⟩, hb, ?_, ?_, ?_, n, a, eb, ?_, e5, ?_, ?_, ?_⟩
  · rw [hI _ (by decide), a1, hw _ (by omega) (by omega)]
  · rw [oA _ (by decide), (a2 p hp).1, hw _ (by omega) (by omega)]
  · rw [oA _ (by decide), (a2 p hp).2.1, hw _ (by omega) (by omega)]
  · rw [oA _ (by decide), (a2 p hp).2.2, ds_eq (w := w) (w' := w') (fun i hi => hw _ (by omega) (by omega))]
  · rw [oA _ (by decide), (a3 j hj).1, hw _ (by omega) (by omega)]
  · rw [oA _ (by decide), (a3 j hj).2.1, hw _ (by omega) (by omega)]
  · rw [oA _ (by decide), (a3 j hj).2.2, hw _ (by omega) (by omega)]
  · rw [hI _ (by decide), b1, hw _ (by omega) (by omega)]
  · rw [hI _ (by decide), b2, hw _ (by omega) (by omega)]
  · rw [oA _ (by decide), (b3 f hf).1, hw _ (by omega) (by omega)]
  · rw [oA _ (by decide), (b3 f hf).2.1, hw _ (by omega) (by omega)]
  · rw [oA _ (by decide), (b3 f hf).2.2, hw _ (by omega) (by omega)]
  · rw [hI _ (by decide), c1, hw _ (by omega) (by omega)]
  · rw [hI _ (by decide), c2, hw _ (by omega) (by omega)]
  · rw [oA _ (by decide), (c3 t ht).1, hw _ (by omega) (by omega)]
  · rw [oA _ (by decide), (c3 t ht).2.1, hw _ (by omega) (by omega)]
  · rw [oA _ (by decide), (c3 t ht).2.2, hw _ (by omega) (by omega)]
  · rw [hI _ (by decide), e1, hw _ (by omega) (by omega)]
  · rw [hI _ (by decide), e2, hw _ (by omega) (by omega)]
  · rw [hI _ (by decide), e3, hw _ (by omega) (by omega)]
  · rw [hw _ (by omega) (by omega)]; exact e4
  · rw [hI _ (by decide)]; exact e6
  · rw [hw _ (by omega) (by omega)]; exact e7
  · intro i hi
    rw [oA _ (by decide), e8 i hi, hw _ (by omega) (by omega)]
/-- accesses and crashes -/
theorem Rs_ac {I A I' A' : ab_F} {w w' : Nat → Int32} (r : Rs 8 I A w) (hw : ∀ j, (j < 512 ∨ 576 ≤ j) → j ≠ 5 ∧ j ≠ 6 ∧ j ≠ 9 ∧ j ≠ 12 → w' j = w j) (hI : ∀ c, c ≠ 29 → c ≠ 8 → I' c = I c) (ho : ∀ c, c ≠ 30 → c ≠ 31 → A' c = A c) (hb : Rc2 8 I' A' w') : Rs 8 I' A' w' := by
  obtain ⟨⟨⟨a1, a2, a3⟩, ⟨b1, b2, b3⟩, ⟨c1, c2, c3⟩⟩, ⟨⟨d1, d2, d3⟩, d4, d5, d6, d7⟩, -⟩ := r
  have oA : ∀ c, c ≠ 30 ∧ c ≠ 31 → A' c = A c := fun c h => ho c h.1 h.2
  have oI : ∀ c, c ≠ 29 ∧ c ≠ 8 → I' c = I c := fun c h => hI c h.1 h.2
  have sm : Sm w w' := ⟨hw _ (by omega) (by omega), hw _ (by omega) (by omega), hw _ (by omega) (by omega), fun p hp => hw _ (by omega) (by omega)⟩
  have epc : m_pc w' = m_pc w := by
    unfold m_pc
    refine cn_congr (fun j hj => ?_)
    unfold m_tp m_pd
    rw [sm.th hj, hw 10 (by omega) (by omega), hw (224 + j) (by omega) (by omega)]
  refine ⟨⟨⟨?_, fun p hp => ⟨?_, ?_, ?_⟩, fun j hj => ⟨?_, ?_, ?_⟩⟩, ⟨?_, ?_, fun f hf => ⟨?_, ?_, ?_⟩⟩, ⟨?_, ?_, fun t ht => ⟨?_, ?_, ?_⟩⟩⟩, ⟨⟨?_, ?_, ?_⟩, ?_, fun j hj => ⟨?_, ?_⟩, fun p hp => ?_, ?_⟩, hb⟩
  · rw [oI _ (by decide), a1, hw _ (by omega) (by omega)]
  · rw [oA _ (by decide), (a2 p hp).1, hw _ (by omega) (by omega)]
  · rw [oA _ (by decide), (a2 p hp).2.1, hw _ (by omega) (by omega)]
  · rw [oA _ (by decide), (a2 p hp).2.2, ds_eq (w := w) (w' := w') (fun i hi => hw _ (by omega) (by omega))]
  · rw [oA _ (by decide), (a3 j hj).1, hw _ (by omega) (by omega)]
  · rw [oA _ (by decide), (a3 j hj).2.1, hw _ (by omega) (by omega)]
  · rw [oA _ (by decide), (a3 j hj).2.2, hw _ (by omega) (by omega)]
  · rw [oI _ (by decide), b1, hw _ (by omega) (by omega)]
  · rw [oI _ (by decide), b2, hw _ (by omega) (by omega)]
  · rw [oA _ (by decide), (b3 f hf).1, hw _ (by omega) (by omega)]
  · rw [oA _ (by decide), (b3 f hf).2.1, hw _ (by omega) (by omega)]
  · rw [oA _ (by decide), (b3 f hf).2.2, hw _ (by omega) (by omega)]
  · rw [oI _ (by decide), c1, hw _ (by omega) (by omega)]
  · rw [oI _ (by decide), c2, hw _ (by omega) (by omega)]
  · rw [oA _ (by decide), (c3 t ht).1, hw _ (by omega) (by omega)]
  · rw [oA _ (by decide), (c3 t ht).2.1, hw _ (by omega) (by omega)]
  · rw [oA _ (by decide), (c3 t ht).2.2, hw _ (by omega) (by omega)]
  · rw [oI _ (by decide), d1, hw _ (by omega) (by omega)]
  · rw [oI _ (by decide), d2, hw _ (by omega) (by omega)]
  · rw [oI _ (by decide), d3, hw _ (by omega) (by omega)]
  · rw [hw 10 (by omega) (by omega), hw 11 (by omega) (by omega), epc, oI _ (by decide)]; exact d4
  · rw [oA _ (by decide), (d5 j hj).1]; unfold m_rk; rw [hw 10 (by omega) (by omega), hw (224 + j) (by omega) (by omega)]
  · rw [oA _ (by decide), (d5 j hj).2, hw _ (by omega) (by omega)]
  · rw [oA _ (by decide), d6 p hp, hw _ (by omega) (by omega)]
  · rw [hw 8 (by omega) (by omega)]
    intro c hc hc2 i hi j hj
    rw [oA _ (by decide), d7 c hc hc2 i hi j hj, hw _ (by omega) (by omega)]
/-! NaN's bits, in both ways -/
theorem nan_a : ∀ i, i < 32 → (2139095040#32).getLsbD i = decide (23 ≤ i ∧ i < 31) := by decide +kernel
theorem nan_b : ∀ i, i < 32 → (255#32).getLsbD i = decide (i < 8) := by decide +kernel
theorem nan_bv (x : BitVec 32) : x &&& 2139095040#32 = 2139095040#32 ↔ x.sshiftRight 23 &&& 255#32 = 255#32 := by
  constructor
  · intro h
    refine BitVec.eq_of_getLsbD_eq (fun i hi => ?_)
    rw [BitVec.getLsbD_and, nan_b i hi, BitVec.getLsbD_sshiftRight]
    by_cases h8 : i < 8
    · have e := congrArg (fun y => y.getLsbD (23 + i)) h
      simp only [BitVec.getLsbD_and] at e
      rw [nan_a (23 + i) (by omega), decide_eq_true (show 23 ≤ 23 + i ∧ 23 + i < 31 by omega), Bool.and_true] at e
      rw [if_pos (by omega), e]
      simp [h8, show ¬ 32 ≤ i by omega]
    · simp [h8]
  · intro h
    refine BitVec.eq_of_getLsbD_eq (fun i hi => ?_)
    rw [BitVec.getLsbD_and, nan_a i hi]
    by_cases h8 : 23 ≤ i ∧ i < 31
    · have e := congrArg (fun y => y.getLsbD (i - 23)) h
      simp only [BitVec.getLsbD_and] at e
      rw [nan_b (i - 23) (by omega), decide_eq_true (show i - 23 < 8 by omega), Bool.and_true, BitVec.getLsbD_sshiftRight, if_pos (by omega), show 23 + (i - 23) = i by omega] at e
      rw [decide_eq_true h8, Bool.and_true]
      have e2 := (Bool.and_eq_true_iff.mp e).2
      exact e2
    · rw [decide_eq_false h8, Bool.and_false]
theorem nan_cv (v : Int32) : v &&& nI 2139095040 = nI 2139095040 ↔ (v >>> (nI 23 &&& 31)) &&& nI 255 = nI 255 := by
  rw [← Int32.toBitVec_inj, ← Int32.toBitVec_inj]
  exact nan_bv v.toBitVec
theorem c_isNan {K : Int32 → ab_F → ab_F → Prop} {I A : ab_F} {v : Int32} (h : K (bI (m_nan v)) I A) : wX11_isNanPattern K I A v := by
  unfold m_nan at h
  by_cases h1 : v &&& nI 2139095040 = nI 2139095040
  · rw [decide_eq_true ((nan_cv v).mp h1), Bool.true_and] at h
    refine rb_t h1 ?_
    by_cases h2 : v &&& nI 8388607 = 0
    · rw [decide_eq_true h2] at h; exact br_t h2 h
    · rw [decide_eq_false h2] at h; exact br_f h2 h
  · rw [decide_eq_false (fun q => h1 ((nan_cv v).mpr q)), Bool.false_and] at h
    exact rb_f h1 h
/-! a write, in the class -/
theorem c_st {K : ab_F → ab_F → Prop} {I A : ab_F} {k : Nat} {v : Int32} {w : Nat → Int32} (r : Rs 8 I A w) (hk : k < 48) (h : ∀ A', Rs 8 I A' (m_st w k v) → Ek I A I A' → K I A') : wX4_store (fun I1 A1 => ∃ j : Nat, nI k = nI j ∧ j < 48 ∧ wX4_makeDirty K I1 (wr A1 15 j (-1 : Int32)) (nI k)) I A (nI k) v := by
  have e11 : A 11 (k / 8) = w (14 + k / 8) := (r.1.1.2.1 (k / 8) (by omega)).2.1
  have e12 : A 12 (k / 8) = nI (m_ds w (k / 8)) := (r.1.1.2.1 (k / 8) (by omega)).2.2
  have hds := ds_d (w := w) (w' := m_st w k v) (k := k) hk (by unfold m_st; rw [uw_at]) (fun j h48 hj => by unfold m_st; rw [uw_ne (by omega), uw_ne (by omega), uw_ne (by omega)])
  have fin : ∀ u : Int32, u = m_val w k v → wjX4_store_41 (fun I1 A1 => ∃ j : Nat, nI k = nI j ∧ j < 48 ∧ wX4_makeDirty K I1 (wr A1 15 j (-1 : Int32)) (nI k)) u (nI k) I A := by
    intro u hu
    refine ix0 hk (ix0 hk ?_)
    unfold wX4_makeDirty
    rw [pk_div (by omega) (by omega) (by omega), show nI k - nI (k / 8) * nI 8 = nI (k % 8) from by rw [← pk_div (by omega) (by omega) (by omega)]; exact pk_rem (by omega) (by omega) (by omega)]
    refine ix0 (by omega) (ix0 (by omega) (h _ ?_ ?_))
    · have x12 : wr (wr A 13 k u) 15 k (-1) 12 (k / 8) = nI (m_ds w (k / 8)) := by rw [wr_ne (by decide), wr_ne (by decide)]; exact e12
      rw [x12, hds, hu]
      refine Rs_pg r (fun j hj => ?_) (fun j hj => ?_) (fun j hj => ?_) (fun p hp => ?_) (fun c q1 q2 q3 q4 => by rw [wr_ne q1, wr_ne q3, wr_ne q2])
      · unfold m_st; rw [uw_ne (by omega), uw_ne (by omega), uw_ne (by omega)]
      · rw [wr_ne (by decide), wr_ne (by decide), wr_w, wrow_at]
        unfold m_st
        by_cases ej : j = k
        · subst ej; rw [uw_at, uw_ne (by omega), uw_ne (by omega), uw_at]
        · rw [uw_ne ej, uw_ne (by omega), uw_ne (by omega), uw_ne (by omega)]; exact (r.1.1.2.2 j hj).1
      · rw [wr_ne (by decide), wr_w, wrow_at, wr_ne (by decide)]
        unfold m_st
        by_cases ej : j = k
        · subst ej; rw [uw_at, uw_ne (by omega), uw_at]
        · rw [uw_ne ej, uw_ne (by omega), uw_ne (by omega), uw_ne (by omega)]; exact (r.1.1.2.2 j hj).2.2
      · rw [wr_w, wrow_at, wr_ne (by decide), wr_ne (by decide)]
        by_cases ep : p = k / 8
        · subst ep; rw [uw_at]
        · rw [uw_ne ep, show A 12 p = nI (m_ds w p) from (r.1.1.2.1 p hp).2.2, ds_eq (w := w) (w' := m_st w k v) (fun i hi => by unfold m_st; rw [uw_ne (by omega), uw_ne (by omega), uw_ne (by omega)])]
    · intro c hc; exact ⟨rfl, by rw [wr_ne (by omega), wr_ne (by omega), wr_ne (by omega)]⟩
  unfold wX4_store
  rw [pk_div (by omega) (by omega) (by omega)]
  refine ix0 (by omega) ?_
  rw [e11]
  by_cases h1 : w (14 + k / 8) = nI 1
  · refine rb_t h1 (c_isNan (bb (fun e => br_t rfl (fin _ ?_)) (fun e => br_f (by decide) (fin _ ?_))))
    · unfold m_val; rw [if_neg (by rw [e]; exact fun q => nomatch q.2)]
    · unfold m_val; rw [if_pos ⟨h1, e⟩]
  · refine rb_f h1 (br_t rfl (fin _ ?_))
    unfold m_val; rw [if_neg (fun q => h1 q.1)]
/-- an access leaves the pages' values as they are -/
theorem ev_val {w : Nat → Int32} {k j : Nat} (hj : 14 ≤ j ∧ j < 80) : m_ev w k j = w j := by
  unfold m_ev m_lv
  rw [uw_ne (by omega), uw_ne (by omega)]
  split
  · cases m_nf w with
    | none => rfl
    | some s => exact m_put_ne (by omega) (by omega) (by omega) (by omega) (by omega) (by omega) (by omega) (by omega)
  · rfl
theorem mk_val {w : Nat → Int32} {j : Nat} (hj : 14 ≤ j ∧ j < 80) : m_mk w j = w j := by
  unfold m_mk
  cases m_ff w with
  | none => exact ev_val hj
  | some f => rfl
theorem acc_val {w : Nat → Int32} {k j : Nat} (hj : 14 ≤ j ∧ j < 80) : m_acc w k j = w j := by
  unfold m_acc m_a3
  rw [rec_o (by omega) (by omega), uw_ne (by omega)]
  unfold m_a2
  split
  · show m_load _ _ _ _ = _
    unfold m_load
    rw [uw_ne (by omega), uw_ne (by omega), uw_ne (by omega), mk_val hj, uw_ne (by omega)]
    unfold m_a1; rw [uw_ne (by omega)]
  · unfold m_a1; rw [uw_ne (by omega)]
theorem w0_val {w : Nat → Int32} {k j : Nat} (hj : 14 ≤ j ∧ j < 80) : m_w0 w k j = w j := by
  unfold m_w0
  split
  · cases m_nf w with
    | none => rfl
    | some s => exact m_put_ne (by omega) (by omega) (by omega) (by omega) (by omega) (by omega) (by omega) (by omega)
  · rfl
theorem rk_pd {w : Nat → Int32} {k : Nat} : m_rk w k = -2 ↔ m_pd w k = true := by
  unfold m_rk m_pd
  by_cases hb : m_has (w 10) (k / 8) = true
  · rw [if_pos hb, hb, Bool.true_and, decide_eq_true_iff]
  · rw [if_neg hb]
    have hb2 : m_has (w 10) (k / 8) = false := by cases q : m_has (w 10) (k / 8) with
      | false => rfl
      | true => exact absurd q hb
    rw [hb2, Bool.false_and]
    exact ⟨fun q => absurd q (by decide), fun q => nomatch q⟩
theorem c_write {K : Int32 → ab_F → ab_F → Prop} {I A : ab_F} {B k : Nat} {v : Int32} {w : Nat → Int32} (r : Rs 8 I A w) (x : Iv B w) (hB : B + 1 < 2 ^ 30) (hk : k < 48) (ht : m_th w k = true) (hs : m_stk w k true = false) (h : ∀ I' A', Rs 8 I' A' (m_wri w k v) → Ek I A I' A' → K (w (32 + k)) I' A') : wX8_write K I A (nI k) v := by
  have h0 := w0_ok x hk ht hs
  have fin : ∀ I1 A1, Rs 8 I1 A1 (m_w0 w k) → Ek I A I1 A1 → wjX8_write_23 K (nI k) v I1 A1 := by
    intro I1 A1 r1 ek1
    refine c_access r1 h0.1 hB hk h0.2.2.1 (fun I2 A2 r2 ek2 => ix0 hk ?_)
    have e13 : A2 13 k = w (32 + k) := ((r2.1.1.2.2 k hk).1).trans ((acc_val (by omega)).trans (w0_val (by omega)))
    refine nm_r e13 (c_st r2 hk (fun A3 r3 ek3 => h _ _ r3 ((ek1.trans ek2).trans ek3)))
  refine ix0 hk ?_
  have e25 : A 25 k = m_rk w k := (r.2.1.2.2.1 k hk).1
  rw [e25]
  by_cases hp : m_pd w k = true
  · refine rb_t (rk_pd.mpr hp) (c_nextFree r x ?_)
    obtain ⟨s, hs1⟩ := h0.2.2.2 hp
    have hs8 := m_nf_lt x.1 s hs1
    rw [hs1]
    refine c_writeOut (Rs_31 r) x hk ht hs8 (fun I' A' r' ek => fin _ _ ?_ ((Ek_u _).trans ek))
    unfold m_w0; rw [if_pos hp, hs1]; exact r'
  · refine rb_f (fun q => hp (rk_pd.mp q)) (fin _ _ ?_ (Ek.refl I A))
    unfold m_w0; rw [if_neg hp]; exact r
