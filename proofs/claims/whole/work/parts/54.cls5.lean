/-! a page is written to a slot, in the class -/
theorem cn_f {p q : Nat → Bool} {i : Nat} (hq : q i = false) (he : ∀ j, j ≠ i → q j = p j) : ∀ n, i < n → cn p n = cn q n + if p i = true then 1 else 0
  | 0, h => by omega
  | n + 1, h => by
    rw [cn, cn]
    by_cases e : i = n
    · subst e
      rw [hq, cn_congr (p := q) (q := p) (fun j hj => he j (by omega))]
      simp
    · have ih := cn_f hq he n (by omega)
      rw [ih, he n (fun q => e q.symm)]
      omega
theorem uw_same (w : Nat → Int32) (i : Nat) : uw w i (w i) = w := by
  funext j
  by_cases h : j = i
  · subst h; rw [uw_at]
  · rw [uw_ne h]
theorem m_put_eq {w : Nat → Int32} {k s : Nat} (hk : k < 48) (hs : s < 48) : m_put w k s = uw (uw (uw (uw (uw (uw (uw (uw w (368 + s) (w (32 + k))) (416 + s) (nI k)) (464 + s) (w 4)) (80 + k) (nI s)) 7 (w 7 + nI 1)) (176 + k) (nI 0)) (224 + k) (if m_pd w k = true then nI s else w (224 + k))) 11 (if m_pd w k = true then w 11 + nI 1 else w 11) := by
  have e0 : uw (uw (uw (uw (uw (uw w (368 + s) (w (32 + k))) (416 + s) (nI k)) (464 + s) (w 4)) (80 + k) (nI s)) 7 (w 7 + nI 1)) (176 + k) (nI 0) = m_put0 w k s := rfl
  rw [e0]
  unfold m_put
  by_cases h : m_pd w k = true
  · rw [if_pos h, if_pos h, if_pos h]
  · rw [if_neg h, if_neg h, if_neg h]
    have e1 : m_put0 w k s (224 + k) = w (224 + k) := m_put0_ne (by omega) (by omega) (by omega) (by omega) (by omega) (by omega)
    have e2 : m_put0 w k s 11 = w 11 := m_put0_ne (by omega) (by omega) (by omega) (by omega) (by omega) (by omega)
    rw [← e1, uw_same, ← e2, uw_same]
theorem put_368 {w : Nat → Int32} {k s j : Nat} (hk : k < 48) (hs : s < 48) (hj : j < 48) : m_put w k s (368 + j) = uw (fun t => w (368 + t)) s (w (32 + k)) j := by
  rw [m_put_eq hk hs]
  by_cases e : j = s
  · subst e
    rw [uw_at, uw_ne (by omega), uw_ne (by omega), uw_ne (by omega), uw_ne (by omega), uw_ne (by omega), uw_ne (by omega), uw_ne (by omega), uw_at]
  · rw [uw_ne (w := fun t => w (368 + t)) e, uw_ne (by omega), uw_ne (by omega), uw_ne (by omega), uw_ne (by omega), uw_ne (by omega), uw_ne (by omega), uw_ne (by omega), uw_ne (by omega)]
theorem put_416 {w : Nat → Int32} {k s j : Nat} (hk : k < 48) (hs : s < 48) (hj : j < 48) : m_put w k s (416 + j) = uw (fun t => w (416 + t)) s (nI k) j := by
  rw [m_put_eq hk hs]
  by_cases e : j = s
  · subst e
    rw [uw_at, uw_ne (by omega), uw_ne (by omega), uw_ne (by omega), uw_ne (by omega), uw_ne (by omega), uw_ne (by omega), uw_at]
  · rw [uw_ne (w := fun t => w (416 + t)) e, uw_ne (by omega), uw_ne (by omega), uw_ne (by omega), uw_ne (by omega), uw_ne (by omega), uw_ne (by omega), uw_ne (by omega), uw_ne (by omega)]
theorem put_464 {w : Nat → Int32} {k s j : Nat} (hk : k < 48) (hs : s < 48) (hj : j < 48) : m_put w k s (464 + j) = uw (fun t => w (464 + t)) s (w 4) j := by
  rw [m_put_eq hk hs]
  by_cases e : j = s
  · subst e
    rw [uw_at, uw_ne (by omega), uw_ne (by omega), uw_ne (by omega), uw_ne (by omega), uw_ne (by omega), uw_at]
  · rw [uw_ne (w := fun t => w (464 + t)) e, uw_ne (by omega), uw_ne (by omega), uw_ne (by omega), uw_ne (by omega), uw_ne (by omega), uw_ne (by omega), uw_ne (by omega), uw_ne (by omega)]
theorem put_80 {w : Nat → Int32} {k s j : Nat} (hk : k < 48) (hs : s < 48) (hj : j < 48) : m_put w k s (80 + j) = uw (fun t => w (80 + t)) k (nI s) j := by
  rw [m_put_eq hk hs]
  by_cases e : j = k
  · subst e
    rw [uw_at, uw_ne (by omega), uw_ne (by omega), uw_ne (by omega), uw_ne (by omega), uw_at]
  · rw [uw_ne (w := fun t => w (80 + t)) e, uw_ne (by omega), uw_ne (by omega), uw_ne (by omega), uw_ne (by omega), uw_ne (by omega), uw_ne (by omega), uw_ne (by omega), uw_ne (by omega)]
theorem put_176 {w : Nat → Int32} {k s j : Nat} (hk : k < 48) (hs : s < 48) (hj : j < 48) : m_put w k s (176 + j) = uw (fun t => w (176 + t)) k (nI 0) j := by
  rw [m_put_eq hk hs]
  by_cases e : j = k
  · subst e
    rw [uw_at, uw_ne (by omega), uw_ne (by omega), uw_at]
  · rw [uw_ne (w := fun t => w (176 + t)) e, uw_ne (by omega), uw_ne (by omega), uw_ne (by omega), uw_ne (by omega), uw_ne (by omega), uw_ne (by omega), uw_ne (by omega), uw_ne (by omega)]
theorem put_224 {w : Nat → Int32} {k s j : Nat} (hk : k < 48) (hs : s < 48) (hj : j < 48) : m_put w k s (224 + j) = uw (fun t => w (224 + t)) k (if m_pd w k = true then nI s else w (224 + k)) j := by
  rw [m_put_eq hk hs]
  by_cases e : j = k
  · subst e
    rw [uw_at, uw_ne (by omega), uw_at]
  · rw [uw_ne (w := fun t => w (224 + t)) e, uw_ne (by omega), uw_ne (by omega), uw_ne (by omega), uw_ne (by omega), uw_ne (by omega), uw_ne (by omega), uw_ne (by omega), uw_ne (by omega)]
theorem put_7 {w : Nat → Int32} {k s : Nat} (hk : k < 48) (hs : s < 48) : m_put w k s 7 = w 7 + nI 1 := by
  rw [m_put_eq hk hs, uw_ne (by omega), uw_ne (by omega), uw_ne (by omega), uw_at]
theorem put_11 {w : Nat → Int32} {k s : Nat} (hk : k < 48) (hs : s < 48) : m_put w k s 11 = (if m_pd w k = true then w 11 + nI 1 else w 11) := by
  rw [m_put_eq hk hs, uw_at]
theorem put_o {w : Nat → Int32} {k s j : Nat} (hk : k < 48) (hs : s < 48) (h : j < 80 ∨ (128 ≤ j ∧ j < 176) ∨ (272 ≤ j ∧ j < 368) ∨ 512 ≤ j) (h7 : j ≠ 7) (h11 : j ≠ 11) : m_put w k s j = w j :=
  m_put_ne (by omega) (by omega) (by omega) (by omega) h7 (by omega) (by omega) h11
theorem put_pc {w : Nat → Int32} {k s : Nat} (hk : k < 48) (hs : s < 48) (ht : m_th w k = true) : m_put w k s 11 + nI (m_pc (m_put w k s)) = w 11 + nI (m_pc w) := by
  have e10 : m_put w k s 10 = w 10 := put_o hk hs (by omega) (by omega) (by omega)
  have sm : Sm w (m_put w k s) := Sm_put
  have hq : m_tp (m_put w k s) k = false := by
    unfold m_tp m_pd
    rw [e10, put_224 hk hs hk, uw_at]
    by_cases h : m_pd w k = true
    · rw [if_pos h, decide_eq_false (nI_m2 (by omega)), Bool.and_false, Bool.and_false]
    · rw [if_neg h]
      unfold m_pd at h
      have h2 : (m_has (w 10) (k / 8) && decide (w (224 + k) = -2)) = false := by
        cases q : (m_has (w 10) (k / 8) && decide (w (224 + k) = -2)) with
        | false => rfl
        | true => exact absurd q h
      rw [h2, Bool.and_false]
  have he : ∀ j, j < 48 → j ≠ k → m_tp (m_put w k s) j = m_tp w j := fun j hj hjk => by
    unfold m_tp m_pd
    rw [e10, put_224 hk hs hj, uw_ne hjk, sm.th hj]
  have hc : m_pc w = m_pc (m_put w k s) + if m_tp w k = true then 1 else 0 := by
    unfold m_pc
    have h1 := cn_f (p := m_tp w) (q := fun j => if j = k then false else m_tp w j) (i := k) (by simp) (fun j hj => by simp [hj]) 48 hk
    rw [h1]
    congr 1
    refine cn_congr (fun j hj => ?_)
    by_cases e : j = k
    · subst e; simp [hq]
    · simp [e, he j hj e]
  have etp : m_tp w k = m_pd w k := by unfold m_tp; rw [ht, Bool.true_and]
  rw [put_11 hk hs, hc, etp]
  by_cases h : m_pd w k = true
  · rw [if_pos h, if_pos h, Int32.add_assoc, nI_add, Nat.add_comm]
  · rw [if_neg h, if_neg h, Nat.add_zero]
