/-! frames, in the class: leaving, evicting -/
/-- a row that differs from w in the frames' places alone: the relation's other parts -/
theorem Rs_fr {I A A' : ab_F} {w w' : Nat → Int32} (r : Rs 8 I A w) (hw : ∀ j, (j < 128 ∨ (176 ≤ j ∧ j < 320) ∨ 368 ≤ j) → w' j = w j) (h14 : ∀ k, k < 48 → A' 14 k = w' (128 + k)) (h17 : ∀ f, f < 16 → A' 17 f = w' (320 + f)) (h18 : ∀ f, f < 16 → A' 18 f = w' (336 + f)) (h19 : ∀ f, f < 16 → A' 19 f = w' (352 + f)) (ho : ∀ c, c ≠ 14 → c ≠ 17 → c ≠ 18 → c ≠ 19 → c ≠ 31 → A' c = A c) : Rs 8 I A' w' := by
  obtain ⟨⟨⟨a1, a2, a3⟩, ⟨b1, b2, b3⟩, ⟨c1, c2, c3⟩⟩, ⟨⟨d1, d2, d3⟩, d4, d5, d6, d7⟩, e1, e2, e3, n, a, eb, e4, e5, e6, e7, e8⟩ := r
  have oA : ∀ c, c ≠ 14 ∧ c ≠ 17 ∧ c ≠ 18 ∧ c ≠ 19 ∧ c ≠ 31 → A' c = A c := fun c h => ho c h.1 h.2.1 h.2.2.1 h.2.2.2.1 h.2.2.2.2
  have sm : Sm w w' := ⟨hw _ (by omega), hw _ (by omega), hw _ (by omega), fun p hp => hw _ (by omega)⟩
  have epc : m_pc w' = m_pc w := by
    unfold m_pc
    refine cn_congr (fun j hj => ?_)
    unfold m_tp m_pd
    rw [sm.th hj, hw 10 (by omega), hw (224 + j) (by omega)]
  refine ⟨⟨⟨?_, fun p hp => ⟨?_, ?_, ?_⟩, fun j hj => ⟨?_, h14 j hj, ?_⟩⟩, ⟨?_, ?_, fun f hf => ⟨h17 f hf, h18 f hf, h19 f hf⟩⟩, ⟨?_, ?_, fun t ht => ⟨?_, ?_, ?_⟩⟩⟩, ⟨⟨?_, ?_, ?_⟩, ?_, fun j hj => ⟨?_, ?_⟩, fun p hp => ?_, ?_⟩, ?_, ?_, ?_, n, a, eb, ?_, e5, e6, ?_, ?_⟩
  · rw [a1, hw _ (by omega)]
  · rw [oA _ (by decide), (a2 p hp).1, hw _ (by omega)]
  · rw [oA _ (by decide), (a2 p hp).2.1, hw _ (by omega)]
  · rw [oA _ (by decide), (a2 p hp).2.2, ds_eq (w := w) (w' := w') (fun i hi => hw _ (by omega))]
  · rw [oA _ (by decide), (a3 j hj).1, hw _ (by omega)]
  · rw [oA _ (by decide), (a3 j hj).2.2, hw _ (by omega)]
  · rw [b1, hw _ (by omega)]
  · rw [b2, hw _ (by omega)]
  · rw [c1, hw _ (by omega)]
  · rw [c2, hw _ (by omega)]
  · rw [oA _ (by decide), (c3 t ht).1, hw _ (by omega)]
  · rw [oA _ (by decide), (c3 t ht).2.1, hw _ (by omega)]
  · rw [oA _ (by decide), (c3 t ht).2.2, hw _ (by omega)]
  · rw [d1, hw _ (by omega)]
  · rw [d2, hw _ (by omega)]
  · rw [d3, hw _ (by omega)]
  · rw [hw 10 (by omega), hw 11 (by omega), epc]; exact d4
  · rw [oA _ (by decide), (d5 j hj).1]; unfold m_rk; rw [hw 10 (by omega), hw (224 + j) (by omega)]
  · rw [oA _ (by decide), (d5 j hj).2, hw _ (by omega)]
  · rw [oA _ (by decide), d6 p hp, hw _ (by omega)]
  · rw [hw 8 (by omega)]
    intro c hc hc2 i hi j hj
    rw [oA _ (by decide), d7 c hc hc2 i hi j hj, hw _ (by omega)]
  · rw [e1, hw _ (by omega)]
  · rw [e2, hw _ (by omega)]
  · rw [e3, hw _ (by omega)]
  · rw [hw _ (by omega)]; exact e4
  · rw [hw _ (by omega)]; exact e7
  · intro i hi
    rw [oA _ (by decide), e8 i hi, hw _ (by omega)]
theorem c_leaveFrame {K : ab_F → ab_F → Prop} {I A : ab_F} {k f : Nat} {w : Nat → Int32} (r : Rs 8 I A w) (hk : k < 48) (hf : f < 16) (e : w (128 + k) = nI f) (h : ∀ A', Rs 8 I A' (m_lv w k) → Ek I A I A' → K I A') : wX8_leaveFrame K I A (nI k) := by
  have e14 : A 14 k = nI f := ((r.1.1.2.2 k hk).2.1).trans e
  refine ix0 hk (nm_r e14 (br_f (nI_m1 (by omega)) (ix0 hf (ix0 hk (h _ ?_ ?_)))))
  · have el : m_lv w k = uw (uw w (320 + f) (-1)) (128 + k) (-1) := by unfold m_lv; rw [e, nn_nI (by omega)]
    rw [el]
    refine Rs_fr r (fun j hj => by rw [uw_ne (by omega), uw_ne (by omega)]) (fun j hj => ?_) (fun g hg => ?_) (fun g hg => ?_) (fun g hg => ?_) (fun c q1 q2 q3 q4 q5 => by rw [wr_ne q1, wr_ne q2])
    · rw [wr_w, wrow_at]
      by_cases ej : j = k
      · subst ej; rw [uw_at, uw_at]
      · rw [uw_ne ej, uw_ne (by omega), uw_ne (by omega), wr_ne (by decide)]; exact (r.1.1.2.2 j hj).2.1
    · rw [wr_ne (by decide), wr_w, wrow_at]
      by_cases eg : g = f
      · subst eg; rw [uw_at, uw_ne (by omega), uw_at]
      · rw [uw_ne eg, uw_ne (by omega), uw_ne (by omega)]; exact (r.1.2.1.2.2 g hg).1
    · rw [wr_ne (by decide), wr_ne (by decide), uw_ne (by omega), uw_ne (by omega)]; exact (r.1.2.1.2.2 g hg).2.1
    · rw [wr_ne (by decide), wr_ne (by decide), uw_ne (by omega), uw_ne (by omega)]; exact (r.1.2.1.2.2 g hg).2.2
  · intro c hc; exact ⟨rfl, by rw [wr_ne (by omega), wr_ne (by omega)]⟩
theorem c_evict {K : Int32 → ab_F → ab_F → Prop} {I A : ab_F} {B k f : Nat} {w : Nat → Int32} (r : Rs 8 I A w) (x : Iv B w) (hk : k < 48) (hf : f < m_F w) (e : w (128 + k) = nI f) (hn : w (176 + k) = nI 1 → ∃ s, m_nf w = some s) (h : ∀ I' A', Rs 8 I' A' (m_ev w k) → Ek I A I' A' → K (m_ev w k (80 + k)) I' A') : wX8_evict K I A (nI k) := by
  have hF := x.1.1.2
  have hS := x.1.2.1.2
  have ht := (Fr_th x.1 x.2.1 hk e (by omega)).1
  have fin : ∀ (v : Nat → Int32) (I' A' : ab_F), m_ev w k = m_lv v k → Rs 8 I' A' v → v (128 + k) = nI f → Ek I A I' A' → wjX8_evict_20 K (nI k) I' A' := by
    intro v I' A' ev r' e' ek
    refine c_leaveFrame r' hk (by omega) e' (fun A'' r'' ek' => ix0 hk ?_)
    have e15 : A'' 15 k = m_lv v k (80 + k) := (r''.1.1.2.2 k hk).2.2
    rw [e15, ← ev]
    rw [← ev] at r''
    exact h _ _ r'' (ek.trans ek')
  refine c_isDirty r hk (bb (fun q => ?_) (fun q => ?_))
  · have h1 : ¬ w (176 + k) = nI 1 := of_decide_eq_false q
    exact fin w I A (by unfold m_ev; rw [if_neg h1]) r e (Ek.refl I A)
  · have h1 : w (176 + k) = nI 1 := of_decide_eq_true q
    obtain ⟨s, hs⟩ := hn h1
    have hs8 := m_nf_lt x.1 s hs
    refine c_nextFree r x ?_
    rw [hs]
    refine c_writeOut (Rs_31 r) x hk ht hs8 (fun I' A' r' ek => fin (m_put w k s) I' A' ?_ r' ?_ ((Ek_u _).trans ek))
    · unfold m_ev; rw [if_pos h1, hs]
    · rw [put_o hk hs8 (by omega) (by omega) (by omega)]; exact e
