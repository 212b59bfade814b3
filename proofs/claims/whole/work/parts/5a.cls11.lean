/-! an access as a whole, in the class -/
theorem ad_ff {w : Nat → Int32} {k : Nat} {y : Int32} (z : Sz w) : m_ff (uw (m_ad w k) 6 y) = m_ff w ∧ Sz (uw (m_ad w k) 6 y) := by
  have po : ∀ j, j ≠ 5 → j ≠ 6 → j ≠ 12 → (j < 512 ∨ 576 ≤ j) → uw (m_ad w k) 6 y j = w j := fun j h5 h6 h12 hj => by unfold m_ad; rw [uw_ne h6, uw_ne h5, rec_o h12 hj]
  have sm : Sm w (uw (m_ad w k) 6 y) := ⟨po _ (by omega) (by omega) (by omega) (by omega), po _ (by omega) (by omega) (by omega) (by omega), po _ (by omega) (by omega) (by omega) (by omega), fun p hp => po _ (by omega) (by omega) (by omega) (by omega)⟩
  exact ⟨m_ff_eq z sm (fun f hf => po _ (by omega) (by omega) (by omega) (by omega)), sm.sz z⟩
/-- a resident page: the row -/
theorem acc_res {w : Nat → Int32} {k f : Nat} (hf : f < 16) (e : w (128 + k) = nI f) : m_acc w k = uw (m_ad w k) (336 + f) (m_ad w k 5) := by
  have hn : ¬ w (128 + k) = -1 := by rw [e]; exact nI_m1 (by omega)
  unfold m_acc m_a2
  rw [if_neg hn]
  unfold m_a3
  have e1 : m_a1 w (128 + k) = nI f := by unfold m_a1; rw [uw_ne (by omega)]; exact e
  have e5 : m_a1 w 5 = w 5 + nI 1 := by unfold m_a1; rw [uw_at]
  have e6 : m_ad w k 5 = w 5 + nI 1 := uw_at _ _ _
  rw [e1, nn_nI (by omega), e5, e6, rec_uw (by omega) (by omega)]
  unfold m_a1 m_ad
  rw [rec_uw (by omega) (by omega)]
/-- an absent page: the row, v being the row with room made -/
theorem acc_abs {B : Nat} {w : Nat → Int32} {k f : Nat} (x : Iv B w) (hn : w (128 + k) = -1) (hs : m_ff w = none → w (176 + nn (w (320 + (m_vf w).getD 0))) = nI 1 → ∃ s, m_nf w = some s) (hk : k < 48) (hf : m_ff (m_mk w) = some f) (hf8 : f < 16) : m_acc w k = uw (m_load (uw (m_ad (m_mk w) k) 6 (m_mk w 6 + nI 1)) k f) (336 + f) (m_mk w 5 + nI 1) := by
  have hm := Iv_mk x hs
  have e0 : m_a2 w k = m_load (m_a0 (m_mk w)) k f := by
    unfold m_a2
    rw [if_pos hn]
    show m_load (m_mk (m_a0 w)) k ((m_ff (m_mk (m_a0 w))).getD 0) = _
    rw [mk_a0 x hs, a0_ff hm.1.1, hf, Option.getD_some]
  unfold m_acc
  rw [e0]
  generalize m_mk w = v
  unfold m_a3
  have e1 : m_load (m_a0 v) k f (128 + k) = nI f := by unfold m_load; rw [uw_ne (by omega), uw_at]
  have e5 : m_load (m_a0 v) k f 5 = v 5 + nI 1 := by unfold m_load m_a0 m_a1; rw [uw_ne (by omega), uw_ne (by omega), uw_ne (by omega), uw_ne (by omega), uw_at]
  rw [e1, nn_nI (by omega), e5, rec_uw (by omega) (by omega)]
  congr 1
  unfold m_load
  rw [rec_uw (by omega) (by omega), rec_uw (by omega) (by omega), rec_uw (by omega) (by omega)]
  have e6 : m_a0 v 5 = v 5 + nI 1 := by unfold m_a0 m_a1; rw [uw_ne (by omega), uw_at]
  have e7 : uw (m_ad v k) 6 (v 6 + nI 1) 5 = v 5 + nI 1 := by unfold m_ad; rw [uw_ne (by omega), uw_at]
  rw [e6, e7]
  unfold m_a0 m_a1 m_ad
  rw [rec_uw (by omega) (by omega), rec_uw (by omega) (by omega)]
theorem c_access {K : ab_F → ab_F → Prop} {I A : ab_F} {B k : Nat} {w : Nat → Int32} (r : Rs 8 I A w) (x : Iv B w) (hB : B + 1 < 2 ^ 30) (hk : k < 48) (hs : m_stk w k false = false) (h : ∀ I' A', Rs 8 I' A' (m_acc w k) → Ek I A I' A' → K I' A') : wX8_makeRoom (fun I1 A1 => wX8_access K I1 A1 (nI k)) I A (nI k) := by
  have hF := x.1.1.2
  refine c_makeRoom r x hk hs (fun I1 A1 r1 ek1 => ?_)
  by_cases hn : w (128 + k) = -1
  · rw [if_pos hn] at r1
    have hst := stk_nf hn hs
    have hm := Iv_mk x hst
    obtain ⟨f, hf⟩ := hm.2.1
    have hf8 := m_ff_lt hm.1.1 f hf
    have hv := hm.2.2.2.1 k hk hn
    have ea := acc_abs x hn hst hk hf hf8
    refine c_add r1 hm.1 hB (fun I2 A2 r2 ek2 => ix0 hk ?_)
    have e14 : A2 14 k = -1 := ((r2.1.1.2.2 k hk).2.1).trans (by unfold m_ad; rw [uw_ne (by omega), rec_o (by omega) (by omega)]; exact hv)
    have e6 : I2 29 1 + nI 1 = m_mk w 6 + nI 1 := by
      rw [show I2 29 1 = m_ad (m_mk w) k 6 from r2.2.2.2.1]
      unfold m_ad; rw [uw_ne (by omega), rec_o (by omega) (by omega)]
    rw [e14]
    have hff := ad_ff (w := m_mk w) (k := k) (y := m_mk w 6 + nI 1) hm.1.1
    refine rb_t rfl (c_load (Rs_6 r2 e6) hff.2 hk (hff.1.trans hf) (fun A3 r3 ek3 => ?_))
    have e128 : m_load (uw (m_ad (m_mk w) k) 6 (m_mk w 6 + nI 1)) k f (128 + k) = nI f := by unfold m_load; rw [uw_ne (by omega), uw_at]
    refine c_a39 r3 hk hf8 e128 (fun A4 r4 ek4 => h _ _ ?_ ?_)
    · have e5 : m_load (uw (m_ad (m_mk w) k) 6 (m_mk w 6 + nI 1)) k f 5 = m_mk w 5 + nI 1 := by
        unfold m_load m_ad; rw [uw_ne (by omega), uw_ne (by omega), uw_ne (by omega), uw_ne (by omega), uw_at]
      rw [ea, ← e5]; exact r4
    · exact ((ek1.trans ek2).trans (fun c hc => ⟨wr_ne (by omega), rfl⟩)).trans (ek3.trans ek4)
  · rw [if_neg hn] at r1
    obtain ⟨f, a, b, c⟩ := Fr_get x.2.1 hk hn
    refine c_add r1 x hB (fun I2 A2 r2 ek2 => ix0 hk ?_)
    have e128 : m_ad w k (128 + k) = nI f := by unfold m_ad; rw [uw_ne (by omega), rec_o (by omega) (by omega)]; exact b
    have e14 : A2 14 k = nI f := ((r2.1.1.2.2 k hk).2.1).trans e128
    rw [e14]
    refine rb_f (nI_m1 (by omega)) (c_a39 r2 hk (by omega) e128 (fun A4 r4 ek4 => h _ _ ?_ ((ek1.trans ek2).trans ek4)))
    rw [acc_res (by omega) b]; exact r4
theorem c_read {K : Int32 → ab_F → ab_F → Prop} {I A : ab_F} {B k : Nat} {w : Nat → Int32} (r : Rs 8 I A w) (x : Iv B w) (hB : B + 1 < 2 ^ 30) (hk : k < 48) (hs : m_stk w k false = false) (h : ∀ I' A', Rs 8 I' A' (m_acc w k) → Ek I A I' A' → K (m_acc w k (32 + k)) I' A') : wX8_read K I A (nI k) := by
  refine c_access r x hB hk hs (fun I' A' r' ek => ix0 hk ?_)
  rw [show A' 13 k = m_acc w k (32 + k) from (r'.1.1.2.2 k hk).1]
  exact h _ _ r' ek
