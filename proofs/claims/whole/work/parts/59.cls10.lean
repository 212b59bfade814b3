/-! the rest of an access, in the class -/
theorem Rs_6 {I A : ab_F} {w : Nat → Int32} {y z : Int32} (r : Rs 8 I A w) (e : y = z) : Rs 8 (wr I 29 1 y) A (uw w 6 z) := by
  subst e
  have wI : ∀ c, c ≠ 29 → wr I 29 1 y c = I c := fun c hc => wr_ne hc
  have po : ∀ j, j ≠ 6 → uw w 6 y j = w j := fun j h => uw_ne h
  obtain ⟨⟨⟨a1, a2, a3⟩, ⟨b1, b2, b3⟩, ⟨c1, c2, c3⟩⟩, ⟨⟨d1, d2, d3⟩, d4, d5, d6, d7⟩, e1, e2, e3, n, a, eb, e4, e5, e6, e7, e8⟩ := r
  have sm : Sm w (uw w 6 y) := Sm_uw (by omega)
  have epc : m_pc (uw w 6 y) = m_pc w := by
    unfold m_pc
    refine cn_congr (fun j hj => ?_)
    unfold m_tp m_pd
    rw [sm.th hj, po 10 (by omega), po (224 + j) (by omega)]
  refine ⟨⟨⟨?_, fun p hp => ⟨?_, ?_, ?_⟩, fun j hj => ⟨?_, ?_, ?_⟩⟩, ⟨?_, ?_, fun f hf => ⟨?_, ?_, ?_⟩⟩, ⟨?_, ?_, fun t ht => ⟨?_, ?_, ?_⟩⟩⟩, ⟨⟨?_, ?_, ?_⟩, ?_, fun j hj => ⟨?_, ?_⟩, fun p hp => ?_, ?_⟩, ?_, ?_, ?_, n, a, eb, ?_, e5, ?_, ?_, ?_⟩
  · rw [wI _ (by decide), a1, po _ (by omega)]
  · rw [(a2 p hp).1, po _ (by omega)]
  · rw [(a2 p hp).2.1, po _ (by omega)]
  · rw [(a2 p hp).2.2, ds_eq (w := w) (w' := uw w 6 y) (fun i hi => po _ (by omega))]
  · rw [(a3 j hj).1, po _ (by omega)]
  · rw [(a3 j hj).2.1, po _ (by omega)]
  · rw [(a3 j hj).2.2, po _ (by omega)]
  · rw [wI _ (by decide), b1, po _ (by omega)]
  · rw [wI _ (by decide), b2, po _ (by omega)]
  · rw [(b3 f hf).1, po _ (by omega)]
  · rw [(b3 f hf).2.1, po _ (by omega)]
  · rw [(b3 f hf).2.2, po _ (by omega)]
  · rw [wI _ (by decide), c1, po _ (by omega)]
  · rw [wI _ (by decide), c2, po _ (by omega)]
  · rw [(c3 t ht).1, po _ (by omega)]
  · rw [(c3 t ht).2.1, po _ (by omega)]
  · rw [(c3 t ht).2.2, po _ (by omega)]
  · rw [wI _ (by decide), d1, po _ (by omega)]
  · rw [wI _ (by decide), d2, po _ (by omega)]
  · rw [wI _ (by decide), d3, po _ (by omega)]
  · rw [po 10 (by omega), po 11 (by omega), epc, wI _ (by decide)]; exact d4
  · rw [(d5 j hj).1]; unfold m_rk; rw [po 10 (by omega), po (224 + j) (by omega)]
  · rw [(d5 j hj).2, po _ (by omega)]
  · rw [d6 p hp, po _ (by omega)]
  · rw [po 8 (by omega)]
    intro c hc hc2 i hi j hj
    rw [d7 c hc hc2 i hi j hj, po _ (by omega)]
  · show wr I 29 1 y 29 0 = _
    rw [wr_nei (by decide), po _ (by omega)]; exact e1
  · show wr I 29 1 y 29 1 = _
    rw [wr_ate, uw_at]
  · rw [wI _ (by decide), e3, po _ (by omega)]
  · rw [po _ (by omega)]; exact e4
  · show wr I 29 1 y 29 2 = _
    rw [wr_nei (by decide)]; exact e6
  · rw [po _ (by omega)]; exact e7
  · intro i hi; rw [e8 i hi, po _ (by omega)]
theorem c_a39 {K : ab_F → ab_F → Prop} {I A : ab_F} {k f : Nat} {w : Nat → Int32} (r : Rs 8 I A w) (hk : k < 48) (hf : f < 16) (e : w (128 + k) = nI f) (h : ∀ A', Rs 8 I A' (uw w (336 + f) (w 5)) → Ek I A I A' → K I A') : wjX8_access_39 K (nI k) I A := by
  have e14 : A 14 k = nI f := ((r.1.1.2.2 k hk).2.1).trans e
  have e5 : I 29 0 = w 5 := r.2.2.1
  refine ix0 hk (nm_r e14 (br_f (nI_m1 (by omega)) (ix0 hf (h _ ?_ ?_))))
  · refine Rs_fr r (fun j hj => uw_ne (by omega)) (fun j hj => ?_) (fun g hg => ?_) (fun g hg => ?_) (fun g hg => ?_) (fun c q1 q2 q3 q4 q5 => wr_ne q3)
    · rw [wr_ne (by decide), uw_ne (by omega)]; exact (r.1.1.2.2 j hj).2.1
    · rw [wr_ne (by decide), uw_ne (by omega)]; exact (r.1.2.1.2.2 g hg).1
    · rw [wr_w, wrow_at, e5]
      by_cases eg : g = f
      · subst eg; rw [uw_at, uw_at]
      · rw [uw_ne eg, uw_ne (by omega)]; exact (r.1.2.1.2.2 g hg).2.1
    · rw [wr_ne (by decide), uw_ne (by omega)]; exact (r.1.2.1.2.2 g hg).2.2
  · intro c hc; exact ⟨rfl, wr_ne (by omega)⟩
theorem c_load {K : ab_F → ab_F → Prop} {I A : ab_F} {k f : Nat} {w : Nat → Int32} (r : Rs 8 I A w) (z : Sz w) (hk : k < 48) (hf : m_ff w = some f) (h : ∀ A', Rs 8 I A' (m_load w k f) → Ek I A I A' → K I A') : wX8_load K I A (nI k) := by
  have hf8 := m_ff_lt z f hf
  have e5 : I 29 0 = w 5 := r.2.2.1
  refine c_firstFree r z ?_
  rw [hf]
  refine br_f (nI_m1 (by omega)) (ix0 hf8 (ix0 hf8 (ix0 hk (h _ ?_ ?_))))
  · unfold m_load
    refine Rs_fr r (fun j hj => by rw [uw_ne (by omega), uw_ne (by omega), uw_ne (by omega)]) (fun j hj => ?_) (fun g hg => ?_) (fun g hg => ?_) (fun g hg => ?_) (fun c q1 q2 q3 q4 q5 => by rw [wr_ne q1, wr_ne q4, wr_ne q2])
    · by_cases ej : j = k
      · subst ej; rw [wr_w, wrow_at, uw_at, uw_ne (by omega), uw_at]; rfl
      · rw [wr_w, wrow_at, uw_ne ej, wr_ne (by decide), wr_ne (by decide), uw_ne (by omega), uw_ne (by omega), uw_ne (by omega)]; exact (r.1.1.2.2 j hj).2.1
    · by_cases eg : g = f
      · subst eg; rw [wr_ne (by decide), wr_ne (by decide), wr_w, wrow_at, uw_at, uw_ne (by omega), uw_ne (by omega), uw_at]
      · rw [wr_ne (by decide), wr_ne (by decide), wr_w, wrow_at, uw_ne eg, uw_ne (by omega), uw_ne (by omega), uw_ne (by omega)]; exact (r.1.2.1.2.2 g hg).1
    · rw [wr_ne (by decide), wr_ne (by decide), wr_ne (by decide), uw_ne (by omega), uw_ne (by omega), uw_ne (by omega)]; exact (r.1.2.1.2.2 g hg).2.1
    · rw [wr_ne (by decide), wr_w, wrow_at, e5]
      by_cases eg : g = f
      · subst eg; rw [uw_at, uw_at]
      · rw [uw_ne eg, uw_ne (by omega), uw_ne (by omega), uw_ne (by omega), wr_ne (by decide)]; exact (r.1.2.1.2.2 g hg).2.2
  · intro c hc; exact ⟨rfl, by rw [wr_ne (by omega), wr_ne (by omega), wr_ne (by omega)]⟩
