/-! the class's system after a page was written to a slot -/
theorem m_rk_put {w : Nat → Int32} {k s j : Nat} (hk : k < 48) (hs : s < 48) (hj : j < 48) : m_rk (m_put w k s) j = uw (m_rk w) k (if m_rk w k = -2 then nI s else m_rk w k) j := by
  have e10 : m_put w k s 10 = w 10 := put_o hk hs (by omega) (by omega) (by omega)
  by_cases e : j = k
  · subst e
    rw [uw_at]
    unfold m_rk
    rw [e10, put_224 hk hs hk, uw_at]
    unfold m_pd
    by_cases hb : m_has (w 10) (j / 8) = true
    · rw [if_pos hb, if_pos hb, hb, Bool.true_and]
      by_cases h2 : w (224 + j) = -2
      · rw [if_pos h2, if_pos (decide_eq_true h2)]
      · rw [if_neg h2, if_neg (by rw [decide_eq_false h2]; decide)]
    · rw [if_neg hb, if_neg hb, if_neg (by decide)]
  · rw [uw_ne e]
    unfold m_rk
    rw [e10, put_224 hk hs hj, uw_ne e]
theorem Rs_put {I A A' : ab_F} {B k s : Nat} {w : Nat → Int32} (r : Rs 8 I A w) (x : Iv B w) (hk : k < 48) (ht : m_th w k = true) (hs : s < 48)
    (h21 : A' 21 = uw (A 21) s (w (32 + k))) (h22 : A' 22 = uw (A 22) s (nI k)) (h23 : A' 23 = uw (A 23) s (w 4)) (h15 : A' 15 = uw (A 15) k (nI s)) (h12 : A' 12 = uw (A 12) (k / 8) (nI (m_ds (m_put w k s) (k / 8)))) (h25 : A' 25 = uw (A 25) k (if m_rk w k = -2 then nI s else m_rk w k)) (ho : ∀ c, c ≠ 21 → c ≠ 22 → c ≠ 23 → c ≠ 15 → c ≠ 12 → c ≠ 25 → c ≠ 31 → A' c = A c) : Rs 8 (wr I 20 1 (I 20 1 + nI 1)) A' (m_put w k s) := by
  obtain ⟨⟨⟨a1, a2, a3⟩, ⟨b1, b2, b3⟩, ⟨c1, c2, c3⟩⟩, ⟨⟨d1, d2, d3⟩, d4, d5, d6, d7⟩, e1, e2, e3, n, a, eb, e4, e5, e6, e7, e8⟩ := r
  have po : ∀ j, (j < 80 ∨ (128 ≤ j ∧ j < 176) ∨ (272 ≤ j ∧ j < 368) ∨ 512 ≤ j) → j ≠ 7 → j ≠ 11 → m_put w k s j = w j := fun j => put_o hk hs
  have wI : ∀ c, c ≠ 20 → wr I 20 1 (I 20 1 + nI 1) c = I c := fun c hc => wr_ne hc
  have wI0 : wr I 20 1 (I 20 1 + nI 1) 20 0 = I 20 0 := wr_nei (by decide)
  have wI1 : wr I 20 1 (I 20 1 + nI 1) 20 1 = I 20 1 + nI 1 := wr_ate _ _ _ _
  have oA : ∀ c, c ≠ 21 ∧ c ≠ 22 ∧ c ≠ 23 ∧ c ≠ 15 ∧ c ≠ 12 ∧ c ≠ 25 ∧ c ≠ 31 → A' c = A c := fun c h => ho c h.1 h.2.1 h.2.2.1 h.2.2.2.1 h.2.2.2.2.1 h.2.2.2.2.2.1 h.2.2.2.2.2.2
  refine ⟨⟨⟨?_, fun p hp => ⟨?_, ?_, ?_⟩, fun j hj => ⟨?_, ?_, ?_⟩⟩, ⟨?_, ?_, fun f hf => ⟨?_, ?_, ?_⟩⟩, ⟨?_, ?_, fun t ht => ⟨?_, ?_, ?_⟩⟩⟩, ⟨⟨?_, ?_, ?_⟩, ?_, fun j hj => ⟨?_, ?_⟩, fun p hp => ?_, ?_⟩, ?_, ?_, ?_, n, a, eb, ?_, e5, ?_, ?_, ?_⟩
  · rw [wI _ (by decide), a1, po _ (by omega) (by omega) (by omega)]
  · rw [oA _ (by decide), (a2 p hp).1, po _ (by omega) (by omega) (by omega)]
  · rw [oA _ (by decide), (a2 p hp).2.1, po _ (by omega) (by omega) (by omega)]
  · show A' 12 p = _
    rw [h12]
    by_cases e : p = k / 8
    · subst e; rw [uw_at]
    · rw [uw_ne e, show A 12 p = nI (m_ds w p) from (a2 p hp).2.2, ds_eq (w := w) (w' := m_put w k s) (fun i hi => by rw [put_176 hk hs (by omega), uw_ne (by omega)])]
  · rw [oA _ (by decide), (a3 j hj).1, po _ (by omega) (by omega) (by omega)]
  · rw [oA _ (by decide), (a3 j hj).2.1, po _ (by omega) (by omega) (by omega)]
  · show A' 15 j = _
    rw [h15, put_80 hk hs hj]
    by_cases e : j = k
    · subst e; rw [uw_at, uw_at]
    · rw [uw_ne e, uw_ne e]; exact (a3 j hj).2.2
  · rw [wI _ (by decide), b1, po _ (by omega) (by omega) (by omega)]
  · rw [wI _ (by decide), b2, po _ (by omega) (by omega) (by omega)]
  · rw [oA _ (by decide), (b3 f hf).1, po _ (by omega) (by omega) (by omega)]
  · rw [oA _ (by decide), (b3 f hf).2.1, po _ (by omega) (by omega) (by omega)]
  · rw [oA _ (by decide), (b3 f hf).2.2, po _ (by omega) (by omega) (by omega)]
  · show wr I 20 1 (I 20 1 + nI 1) 20 0 = _
    rw [wI0, po _ (by omega) (by omega) (by omega)]; exact c1
  · show wr I 20 1 (I 20 1 + nI 1) 20 1 = _
    rw [wI1, put_7 hk hs, show I 20 1 = w 7 from c2]
  · show A' 21 t = _
    rw [h21, put_368 hk hs ht]
    by_cases e : t = s
    · subst e; rw [uw_at, uw_at]
    · rw [uw_ne e, uw_ne e]; exact (c3 t ht).1
  · show A' 22 t = _
    rw [h22, put_416 hk hs ht]
    by_cases e : t = s
    · subst e; rw [uw_at, uw_at]
    · rw [uw_ne e, uw_ne e]; exact (c3 t ht).2.1
  · show A' 23 t = _
    rw [h23, put_464 hk hs ht]
    by_cases e : t = s
    · subst e; rw [uw_at, uw_at]
    · rw [uw_ne e, uw_ne e]; exact (c3 t ht).2.2
  · rw [wI _ (by decide), d1, po _ (by omega) (by omega) (by omega)]
  · rw [wI _ (by decide), d2, po _ (by omega) (by omega) (by omega)]
  · rw [wI _ (by decide), d3, po _ (by omega) (by omega) (by omega)]
  · intro h0
    rw [po 10 (by omega) (by omega) (by omega)] at h0
    rw [wI _ (by decide), d4 h0, put_pc hk hs ht]
  · show A' 25 j = _
    rw [h25, m_rk_put hk hs hj]
    by_cases e : j = k
    · subst e; rw [uw_at, uw_at]
    · rw [uw_ne e, uw_ne e]; exact (d5 j hj).1
  · rw [oA _ (by decide), (d5 j hj).2, po _ (by omega) (by omega) (by omega)]
  · rw [oA _ (by decide), d6 p hp, po _ (by omega) (by omega) (by omega)]
  · intro c hc hc2 i hi j hj
    rw [po 8 (by omega) (by omega) (by omega)] at hc
    rw [oA _ (by decide), d7 c hc hc2 i hi j hj, po _ (by omega) (by omega) (by omega)]
  · rw [wI _ (by decide), e1, po _ (by omega) (by omega) (by omega)]
  · rw [wI _ (by decide), e2, po _ (by omega) (by omega) (by omega)]
  · rw [wI _ (by decide), e3, po _ (by omega) (by omega) (by omega)]
  · rw [po _ (by omega) (by omega) (by omega)]; exact e4
  · rw [wI _ (by decide)]; exact e6
  · rw [po _ (by omega) (by omega) (by omega)]; exact e7
  · intro i hi
    rw [oA _ (by decide), e8 i hi, po _ (by omega) (by omega) (by omega)]
theorem c_writeOut {K : ab_F → ab_F → Prop} {I A : ab_F} {B k s : Nat} {w : Nat → Int32} (r : Rs 8 I A w) (x : Iv B w) (hk : k < 48) (ht : m_th w k = true) (hs : s < 48) (h : ∀ I' A', Rs 8 I' A' (m_put w k s) → Ek I A I' A' → K I' A') : wX8_writeOut K I A (nI k) (nI s) := by
  have e13 : A 13 k = w (32 + k) := (r.1.1.2.2 k hk).1
  have e24 : I 24 0 = w 4 := r.2.1.1.1
  have e25 : A 25 k = m_rk w k := (r.2.1.2.2.1 k hk).1
  have e12 : A 12 (k / 8) = nI (m_ds w (k / 8)) := (r.1.1.2.1 (k / 8) (by omega)).2.2
  have hds := ds_c (w := w) (w' := m_put w k s) (k := k) hk (by rw [put_176 hk hs hk, uw_at]) (fun j h48 hj => by rw [put_176 hk hs h48, uw_ne hj])
  refine rb_f (nI_m1 (by omega)) (ix0 hk (ix0 hs (ix0 hs (ix0 hs (ix0 hk ?_)))))
  unfold wX4_makeClean
  rw [pk_div (by omega) (by omega) (by omega), show nI k - nI (k / 8) * nI 8 = nI (k % 8) from by rw [← pk_div (by omega) (by omega) (by omega)]; exact pk_rem (by omega) (by omega) (by omega)]
  refine ix0 (by omega) (ix0 (by omega) (ix0 hk ?_))
  rw [e13, e24]
  have x12 : wr (wr (wr (wr A 21 s (w (32 + k))) 22 s (nI k)) 23 s (w 4)) 15 k (nI s) 12 (k / 8) = nI (m_ds w (k / 8)) := by
    rw [wr_ne (by decide), wr_ne (by decide), wr_ne (by decide), wr_ne (by decide)]; exact e12
  rw [x12, hds]
  have x25 : wr (wr (wr (wr (wr A 21 s (w (32 + k))) 22 s (nI k)) 23 s (w 4)) 15 k (nI s)) 12 (k / 8) (nI (m_ds (m_put w k s) (k / 8))) 25 = A 25 := by
    rw [wr_ne (by decide), wr_ne (by decide), wr_ne (by decide), wr_ne (by decide), wr_ne (by decide)]
  rw [x25, e25]
  by_cases h2 : m_rk w k = -2
  · refine rb_t h2 (ix0 hk (h _ _ (Rs_put r x hk ht hs ?_ ?_ ?_ ?_ ?_ ?_ ?_) ?_))
    · funext j; rw [wr_ne (by decide), wr_ne (by decide), wr_ne (by decide), wr_ne (by decide), wr_ne (by decide), wr_w, wrow_at]
    · funext j; rw [wr_ne (by decide), wr_ne (by decide), wr_ne (by decide), wr_ne (by decide), wr_w, wrow_at, wr_ne (by decide)]
    · funext j; rw [wr_ne (by decide), wr_ne (by decide), wr_ne (by decide), wr_w, wrow_at, wr_ne (by decide), wr_ne (by decide)]
    · funext j; rw [wr_ne (by decide), wr_ne (by decide), wr_w, wrow_at, wr_ne (by decide), wr_ne (by decide), wr_ne (by decide)]
    · funext j; rw [wr_ne (by decide), wr_w, wrow_at, wr_ne (by decide), wr_ne (by decide), wr_ne (by decide), wr_ne (by decide)]
    · funext j; rw [if_pos h2, wr_w, wrow_at, x25]
    · intro c q1 q2 q3 q4 q5 q6 q7; rw [wr_ne q6, wr_ne q5, wr_ne q4, wr_ne q3, wr_ne q2, wr_ne q1]
    · intro c hc; exact ⟨wr_ne (by omega), by rw [wr_ne (by omega), wr_ne (by omega), wr_ne (by omega), wr_ne (by omega), wr_ne (by omega), wr_ne (by omega)]⟩
  · refine rb_f h2 (h _ _ (Rs_put r x hk ht hs ?_ ?_ ?_ ?_ ?_ ?_ ?_) ?_)
    · funext j; rw [wr_ne (by decide), wr_ne (by decide), wr_ne (by decide), wr_ne (by decide), wr_w, wrow_at]
    · funext j; rw [wr_ne (by decide), wr_ne (by decide), wr_ne (by decide), wr_w, wrow_at, wr_ne (by decide)]
    · funext j; rw [wr_ne (by decide), wr_ne (by decide), wr_w, wrow_at, wr_ne (by decide), wr_ne (by decide)]
    · funext j; rw [wr_ne (by decide), wr_w, wrow_at, wr_ne (by decide), wr_ne (by decide), wr_ne (by decide)]
    · funext j; rw [wr_w, wrow_at, wr_ne (by decide), wr_ne (by decide), wr_ne (by decide), wr_ne (by decide)]
    · rw [if_neg h2, x25]; funext j
      by_cases e : j = k
      · subst e; rw [uw_at, e25]
      · rw [uw_ne e]
    · intro c q1 q2 q3 q4 q5 q6 q7; rw [wr_ne q5, wr_ne q4, wr_ne q3, wr_ne q2, wr_ne q1]
    · intro c hc; exact ⟨wr_ne (by omega), by rw [wr_ne (by omega), wr_ne (by omega), wr_ne (by omega), wr_ne (by omega), wr_ne (by omega)]⟩
