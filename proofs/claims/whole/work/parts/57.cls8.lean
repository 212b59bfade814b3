/-! a page goes before the access is counted, or behind: the same row -/
def Ag (w w' : Nat → Int32) : Prop := ∀ j, j ≠ 5 → j ≠ 6 → w' j = w j
theorem Ag.sm {w w' : Nat → Int32} (h : Ag w w') : Sm w w' := ⟨h _ (by omega) (by omega), h _ (by omega) (by omega), h _ (by omega) (by omega), fun p hp => h _ (by omega) (by omega)⟩
theorem Ag.nf {w w' : Nat → Int32} (h : Ag w w') (z : Sz w) : m_nf w' = m_nf w := m_nf_eq z h.sm (fun k hk => h _ (by omega) (by omega)) (fun k hk => h _ (by omega) (by omega)) (fun k hk => h _ (by omega) (by omega)) (h _ (by omega) (by omega)) (fun k hk => h _ (by omega) (by omega)) (fun k hk => h _ (by omega) (by omega))
theorem Ag.ff {w w' : Nat → Int32} (h : Ag w w') (z : Sz w) : m_ff w' = m_ff w := m_ff_eq z h.sm (fun k hk => h _ (by omega) (by omega))
theorem Ag.vf {w w' : Nat → Int32} (h : Ag w w') (z : Sz w) : m_vf w' = m_vf w := m_vf_eq z h.sm (h _ (by omega) (by omega)) (fun k hk => h _ (by omega) (by omega)) (fun k hk => h _ (by omega) (by omega)) (fun f hf => by unfold m_od; rw [h (320 + f) (by omega) (by omega), h _ (by omega) (by omega)])
theorem Ag.put {w w' : Nat → Int32} (h : Ag w w') {k s : Nat} (hk : k < 48) (hs : s < 48) : Ag (m_put w k s) (m_put w' k s) := by
  have ep : m_pd w' k = m_pd w k := by unfold m_pd; rw [h 10 (by omega) (by omega), h (224 + k) (by omega) (by omega)]
  intro j h5 h6
  rw [m_put_eq hk hs, m_put_eq hk hs, ep, h (32 + k) (by omega) (by omega), h 4 (by omega) (by omega), h 7 (by omega) (by omega), h (224 + k) (by omega) (by omega), h 11 (by omega) (by omega)]
  unfold uw
  rw [h j h5 h6]
theorem Ag.lv {w w' : Nat → Int32} (h : Ag w w') {k : Nat} : Ag (m_lv w k) (m_lv w' k) := by
  intro j h5 h6
  unfold m_lv
  rw [h (128 + k) (by omega) (by omega)]
  unfold uw
  rw [h j h5 h6]
theorem Ag.ev {w w' : Nat → Int32} (h : Ag w w') (z : Sz w) {k : Nat} (hk : k < 48) : Ag (m_ev w k) (m_ev w' k) := by
  unfold m_ev
  rw [h (176 + k) (by omega) (by omega), h.nf z]
  by_cases h1 : w (176 + k) = nI 1
  · rw [if_pos h1, if_pos h1]
    cases hn : m_nf w with
    | none => exact h.lv
    | some s => exact (h.put hk (m_nf_lt z s hn)).lv
  · rw [if_neg h1, if_neg h1]; exact h.lv
theorem Ag.mk {w w' : Nat → Int32} (h : Ag w w') {B : Nat} (x : Iv B w) : Ag (m_mk w) (m_mk w') := by
  unfold m_mk
  rw [h.ff x.1, h.vf x.1]
  cases hf : m_ff w with
  | some f => exact h
  | none =>
    obtain ⟨g, hg, hg2⟩ := m_vf_some x.1
    obtain ⟨o, a, b, c, d⟩ := Fr_all x.1 x.2.1 hf g hg2
    have hF := x.1.1.2
    simp only [hg, Option.getD_some]
    rw [h (320 + g) (by omega) (by omega), b, nn_nI (by omega)]
    exact h.ev x.1 a
theorem a0_ag (w : Nat → Int32) : Ag w (m_a0 w) := fun j h5 h6 => m_a0_ne h5 h6
/-- to make room and to count commute -/
theorem mk_a0 {B : Nat} {w : Nat → Int32} (x : Iv B w) (hs : m_ff w = none → w (176 + nn (w (320 + (m_vf w).getD 0))) = nI 1 → ∃ s, m_nf w = some s) : m_mk (m_a0 w) = m_a0 (m_mk w) := by
  have h1 := Iv_mk x hs
  have h2 := Iv_mk (Iv_a0 x) (by
    rw [a0_ff x.1, a0_vf x.1, a0_nf x.1, m_a0_ne (by omega) (by omega), m_a0_ne (by omega) (by omega)]
    exact hs)
  have e5 : ∀ v : Nat → Int32, m_a0 v 5 = v 5 + nI 1 := fun v => by unfold m_a0 m_a1; rw [uw_ne (by omega), uw_at]
  have e6 : ∀ v : Nat → Int32, m_a0 v 6 = v 6 + nI 1 := fun v => by unfold m_a0; rw [uw_at]
  funext j
  by_cases h5 : j = 5
  · subst h5; rw [h2.2.2.2.2.1, e5, e5, h1.2.2.2.2.1]
  · by_cases h6 : j = 6
    · subst h6; rw [h2.2.2.2.2.2, e6, e6, h1.2.2.2.2.2]
    · rw [(a0_ag w).mk x j h5 h6, m_a0_ne h5 h6]
theorem c_makeRoom {K : ab_F → ab_F → Prop} {I A : ab_F} {B k : Nat} {w : Nat → Int32} (r : Rs 8 I A w) (x : Iv B w) (hk : k < 48) (hs : m_stk w k false = false) (h : ∀ I' A', Rs 8 I' A' (if w (128 + k) = -1 then m_mk w else w) → Ek I A I' A' → K I' A') : wX8_makeRoom K I A (nI k) := by
  have hF := x.1.1.2
  have e14 : A 14 k = w (128 + k) := (r.1.1.2.2 k hk).2.1
  have eo : ∀ f, f < 16 → A 17 f = w (320 + f) := fun f hf => (r.1.2.1.2.2 f hf).1
  refine ix0 hk ?_
  rw [e14]
  by_cases h1 : w (128 + k) = -1
  · rw [if_pos h1] at h
    refine rb_t h1 (c_nextVictim r x.1 x.2.1 (fun hn => ?_) (fun f hf => ?_))
    · obtain ⟨g, hg, hg2⟩ := m_vf_some x.1
      obtain ⟨o, a, b, c, d⟩ := Fr_all x.1 x.2.1 hn g hg2
      have hst := stk_nf h1 hs hn
      rw [hg, Option.getD_some, b, nn_nI (by omega)] at hst
      rw [hg]
      refine br_f (nI_m1 (by omega)) (ix0 (by omega) ?_)
      rw [eo g (by omega), b]
      refine c_evict r x a hg2 c hst (fun I' A' r' ek => h I' A' ?_ ek)
      have em : m_mk w = m_ev w o := by
        unfold m_mk; rw [hn]
        simp only [hg, Option.getD_some, b, nn_nI (show o < 2 ^ 31 by omega)]
      rw [em]; exact r'
    · refine br_t rfl (h I A ?_ (Ek.refl I A))
      unfold m_mk; rw [hf]; exact r
  · rw [if_neg h1] at h
    exact rb_f h1 (br_t rfl (h I A r (Ek.refl I A)))
