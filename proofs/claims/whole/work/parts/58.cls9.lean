/-! an access is counted, in the class -/
theorem rec_o {w : Nat → Int32} {k j : Nat} (h12 : j ≠ 12) (h : j < 512 ∨ 576 ≤ j) : m_rec w k j = w j := by
  unfold m_rec m_sh
  rw [uw_ne h12, uw_ne (by omega), if_neg (by omega)]
theorem rec_uw {w : Nat → Int32} {k i : Nat} {v : Int32} (h12 : i ≠ 12) (h : i < 511 ∨ 576 ≤ i) : m_rec (uw w i v) k = uw (m_rec w k) i v := by
  funext j
  unfold m_rec m_sh
  by_cases e12 : j = 12
  · subst e12
    rw [uw_at, uw_ne (w := w) (fun q => h12 q.symm), uw_ne (fun q => h12 q.symm), uw_at]
  · rw [uw_ne e12]
    by_cases e512 : j = 512
    · subst e512
      rw [uw_at, uw_ne (by omega), uw_ne (by omega), uw_at]
    · rw [uw_ne e512]
      by_cases ei : j = i
      · subst ei
        rw [if_neg (by omega), uw_at, uw_at]
      · have er : ∀ q : Nat → Int32, uw (uw (uw q 512 (nI k)) 12 (if nI 64 ≤ w 12 then w 12 else w 12 + nI 1)) i v j = q j := fun q => by rw [uw_ne ei, uw_ne e12, uw_ne e512]
        rw [er]
        by_cases hj : 512 + 0 < j ∧ j < 576
        · rw [if_pos hj, if_pos hj, uw_ne (by omega)]
        · rw [if_neg hj, if_neg hj, uw_ne ei]
/-- the row after an access was counted -/
def m_ad (w : Nat → Int32) (k : Nat) : Nat → Int32 := uw (m_rec w k) 5 (w 5 + nI 1)
theorem c_add {K : ab_F → ab_F → Prop} {I A : ab_F} {B k : Nat} {w : Nat → Int32} (r : Rs 8 I A w) (x : Iv B w) (hB : B + 1 < 2 ^ 30) (h : ∀ I' A', Rs 8 I' A' (m_ad w k) → Ek I A I' A' → K I' A') : wX0_add K I A (nI k) := by
  obtain ⟨-, ⟨a0, f0, -, ha0, ea0, -⟩, -⟩ := x.2.2.2.2.2.2.2.2.2.1
  obtain ⟨⟨⟨a1, a2, a3⟩, ⟨b1, b2, b3⟩, ⟨c1, c2, c3⟩⟩, ⟨⟨d1, d2, d3⟩, d4, d5, d6, d7⟩, e1, e2, e3, n, a, eb, e4, e5, e6, e7, e8⟩ := r
  have haa : a = a0 := (nI_eq (by omega) (by omega)).mp (e4.symm.trans ea0)
  subst haa
  have e6' : I 29 2 = nI n := e6
  have po : ∀ j, j ≠ 5 → j ≠ 12 → (j < 512 ∨ 576 ≤ j) → m_ad w k j = w j := fun j h5 h12 hj => by unfold m_ad; rw [uw_ne h5, rec_o h12 hj]
  have p5 : m_ad w k 5 = w 5 + nI 1 := uw_at _ _ _
  have p12 : m_ad w k 12 = nI (min (n + 1) 64) := by
    unfold m_ad m_rec
    rw [uw_ne (by omega), uw_at, e7]
    by_cases h8 : 64 ≤ n
    · rw [show min n 64 = 64 by omega, if_pos (by decide), show min (n + 1) 64 = 64 by omega]
    · rw [show min n 64 = n by omega, if_neg (nI_ge (by omega) (by omega)), show min (n + 1) 64 = n + 1 by omega]
      exact nI_add n 1
  have p512 : m_ad w k 512 = nI k := by unfold m_ad m_rec; rw [uw_ne (by omega), uw_ne (by omega), uw_at]
  have pr : ∀ i, i < 63 → m_ad w k (512 + (i + 1)) = w (512 + i) := fun i hi => by
    unfold m_ad m_rec m_sh
    rw [uw_ne (by omega), uw_ne (by omega), uw_ne (by omega), if_pos (by omega)]
    congr 1
  have sm : Sm w (m_ad w k) := ⟨po _ (by omega) (by omega) (by omega), po _ (by omega) (by omega) (by omega), po _ (by omega) (by omega) (by omega), fun p hp => po _ (by omega) (by omega) (by omega)⟩
  have epc : m_pc (m_ad w k) = m_pc w := by
    unfold m_pc
    refine cn_congr (fun j hj => ?_)
    unfold m_tp m_pd
    rw [sm.th hj, po 10 (by omega) (by omega) (by omega), po (224 + j) (by omega) (by omega) (by omega)]
  unfold wX0_add
  rw [e6', pk_rem (by omega) (by omega) (by omega)]
  refine ix0 (by omega) (h _ _ ?_ ?_)
  · have wI : ∀ c, c ≠ 29 → wr (wr I 29 0 (I 29 0 + nI 1)) 29 2 (nI n + nI 1) c = I c := fun c hc => by rw [wr_ne hc, wr_ne hc]
    have oA : ∀ c, c ≠ 30 → wr A 30 (n % 64) (nI k) c = A c := fun c hc => wr_ne hc
    refine ⟨⟨⟨?_, fun p hp => ⟨?_, ?_, ?_⟩, fun j hj => ⟨?_, ?_, ?_⟩⟩, ⟨?_, ?_, fun f hf => ⟨?_, ?_, ?_⟩⟩, ⟨?_, ?_, fun t ht => ⟨?_, ?_, ?_⟩⟩⟩, ⟨⟨?_, ?_, ?_⟩, ?_, fun j hj => ⟨?_, ?_⟩, fun p hp => ?_, ?_⟩, ?_, ?_, ?_, n + 1, a + 1, by omega, ?_, by omega, ?_, p12, ?_⟩
    · rw [wI _ (by decide), a1, po _ (by omega) (by omega) (by omega)]
    · rw [oA _ (by decide), (a2 p hp).1, po _ (by omega) (by omega) (by omega)]
    · rw [oA _ (by decide), (a2 p hp).2.1, po _ (by omega) (by omega) (by omega)]
    · rw [oA _ (by decide), (a2 p hp).2.2, ds_eq (w := w) (w' := m_ad w k) (fun i hi => po _ (by omega) (by omega) (by omega))]
    · rw [oA _ (by decide), (a3 j hj).1, po _ (by omega) (by omega) (by omega)]
    · rw [oA _ (by decide), (a3 j hj).2.1, po _ (by omega) (by omega) (by omega)]
    · rw [oA _ (by decide), (a3 j hj).2.2, po _ (by omega) (by omega) (by omega)]
    · rw [wI _ (by decide), b1, po _ (by omega) (by omega) (by omega)]
    · rw [wI _ (by decide), b2, po _ (by omega) (by omega) (by omega)]
    · rw [oA _ (by decide), (b3 f hf).1, po _ (by omega) (by omega) (by omega)]
    · rw [oA _ (by decide), (b3 f hf).2.1, po _ (by omega) (by omega) (by omega)]
    · rw [oA _ (by decide), (b3 f hf).2.2, po _ (by omega) (by omega) (by omega)]
    · rw [wI _ (by decide), c1, po _ (by omega) (by omega) (by omega)]
    · rw [wI _ (by decide), c2, po _ (by omega) (by omega) (by omega)]
    · rw [oA _ (by decide), (c3 t ht).1, po _ (by omega) (by omega) (by omega)]
    · rw [oA _ (by decide), (c3 t ht).2.1, po _ (by omega) (by omega) (by omega)]
    · rw [oA _ (by decide), (c3 t ht).2.2, po _ (by omega) (by omega) (by omega)]
    · rw [wI _ (by decide), d1, po _ (by omega) (by omega) (by omega)]
    · rw [wI _ (by decide), d2, po _ (by omega) (by omega) (by omega)]
    · rw [wI _ (by decide), d3, po _ (by omega) (by omega) (by omega)]
    · rw [po 10 (by omega) (by omega) (by omega), po 11 (by omega) (by omega) (by omega), epc, wI _ (by decide)]; exact d4
    · rw [oA _ (by decide), (d5 j hj).1]; unfold m_rk; rw [po 10 (by omega) (by omega) (by omega), po (224 + j) (by omega) (by omega) (by omega)]
    · rw [oA _ (by decide), (d5 j hj).2, po _ (by omega) (by omega) (by omega)]
    · rw [oA _ (by decide), d6 p hp, po _ (by omega) (by omega) (by omega)]
    · rw [po 8 (by omega) (by omega) (by omega)]
      intro c hc hc2 i hi j hj
      rw [oA _ (by decide), d7 c hc hc2 i hi j hj, po _ (by omega) (by omega) (by omega)]
    · show wr (wr I 29 0 (I 29 0 + nI 1)) 29 2 (nI n + nI 1) 29 0 = _
      rw [wr_nei (by decide), wr_ate, p5, show I 29 0 = w 5 from e1]
    · show wr (wr I 29 0 (I 29 0 + nI 1)) 29 2 (nI n + nI 1) 29 1 = _
      rw [wr_nei (by decide), wr_nei (by decide), po _ (by omega) (by omega) (by omega)]; exact e2
    · rw [wI _ (by decide), e3, po _ (by omega) (by omega) (by omega)]
    · rw [p5, e4]; exact nI_add a 1
    · show wr (wr I 29 0 (I 29 0 + nI 1)) 29 2 (nI n + nI 1) 29 2 = _
      rw [wr_ate]; exact nI_add n 1
    · intro i hi
      show wr A 30 (n % 64) (nI k) 30 ((n + 1 - 1 - i) % 64) = _
      cases i with
      | zero => rw [show (n + 1 - 1 - 0) % 64 = n % 64 by omega, wr_ate]; exact p512.symm
      | succ i =>
        rw [wr_nei (by omega), show (n + 1 - 1 - (i + 1)) % 64 = (n - 1 - i) % 64 by omega, pr i (by omega)]
        exact e8 i (by omega)
  · intro c hc; exact ⟨by rw [wr_ne (by omega), wr_ne (by omega)], wr_ne (by omega)⟩
