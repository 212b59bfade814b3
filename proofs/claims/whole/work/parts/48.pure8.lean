/-! commits, crashes -/
def m_c1 (w : Nat → Int32) (n : Nat) : Nat → Int32 := fun j => if (272 ≤ j ∧ j < 272 + n) ∧ m_has (w 10) ((j - 272) / 8) = true then w (j - 48) else w j
def m_c2 (w : Nat → Int32) (n : Nat) : Nat → Int32 := fun j => if (26 ≤ j ∧ j < 26 + n) ∧ m_has (w 10) (j - 26) = true then w 4 else w j
def m_c3 (w : Nat → Int32) (i : Nat) : Nat → Int32 := fun j => if 576 + i < j ∧ j < 608 then w (j - 4) else w j
def m_c4 (w : Nat → Int32) : Nat → Int32 := uw (uw (uw (uw w 576 (w 10)) 577 (w 4)) 578 (w 11)) 10 (nI 0)
def m_c5 (w : Nat → Int32) : Nat → Int32 := m_c4 (m_c3 (m_c2 (m_c1 w 48) (m_P w)) 3)
def m_fd (w w' : Nat → Int32) : Int32 := nI (m_free w') - nI (m_free w)
def m_c6 (w : Nat → Int32) (x : Int32) : Nat → Int32 := uw (uw (uw w 579 x) 13 (if nI 8 ≤ w 13 then w 13 else w 13 + nI 1)) 8 (w 8 + nI 1)
def m_com (w : Nat → Int32) : Nat → Int32 := m_c6 (m_c5 w) (m_fd w (m_c5 w))
theorem m_c1_st (w : Nat → Int32) (i : Nat) (hi : i < 48) (h : m_has (w 10) (i / 8) = true) : uw (m_c1 w i) (272 + i) (w (224 + i)) = m_c1 w (i + 1) := by
  funext j
  unfold uw m_c1
  by_cases h1 : j = 272 + i
  · subst h1
    rw [if_pos rfl, if_pos ⟨by omega, by rw [Nat.add_sub_cancel_left]; exact h⟩, show 272 + i - 48 = 224 + i by omega]
  · rw [if_neg h1]
    by_cases h2 : (272 ≤ j ∧ j < 272 + i) ∧ m_has (w 10) ((j - 272) / 8) = true
    · rw [if_pos h2, if_pos ⟨by omega, h2.2⟩]
    · rw [if_neg h2, if_neg (fun q => h2 ⟨by omega, q.2⟩)]
theorem m_c1_sk (w : Nat → Int32) (i : Nat) (h : m_has (w 10) (i / 8) = false) : m_c1 w i = m_c1 w (i + 1) := by
  funext j
  unfold m_c1
  by_cases h1 : j = 272 + i
  · subst h1
    rw [if_neg (by omega), if_neg (fun q => by have := q.2; rw [Nat.add_sub_cancel_left, h] at this; cases this)]
  · by_cases h2 : (272 ≤ j ∧ j < 272 + i) ∧ m_has (w 10) ((j - 272) / 8) = true
    · rw [if_pos h2, if_pos ⟨by omega, h2.2⟩]
    · rw [if_neg h2, if_neg (fun q => h2 ⟨by omega, q.2⟩)]
theorem m_c2_st (w : Nat → Int32) (i : Nat) (h : m_has (w 10) i = true) : uw (m_c2 w i) (26 + i) (w 4) = m_c2 w (i + 1) := by
  funext j
  unfold uw m_c2
  by_cases h1 : j = 26 + i
  · subst h1
    rw [if_pos rfl, if_pos ⟨by omega, by rw [Nat.add_sub_cancel_left]; exact h⟩]
  · rw [if_neg h1]
    by_cases h2 : (26 ≤ j ∧ j < 26 + i) ∧ m_has (w 10) (j - 26) = true
    · rw [if_pos h2, if_pos ⟨by omega, h2.2⟩]
    · rw [if_neg h2, if_neg (fun q => h2 ⟨by omega, q.2⟩)]
theorem m_c2_sk (w : Nat → Int32) (i : Nat) (h : m_has (w 10) i = false) : m_c2 w i = m_c2 w (i + 1) := by
  funext j
  unfold m_c2
  by_cases h1 : j = 26 + i
  · subst h1
    rw [if_neg (by omega), if_neg (fun q => by have := q.2; rw [Nat.add_sub_cancel_left, h] at this; cases this)]
  · by_cases h2 : (26 ≤ j ∧ j < 26 + i) ∧ m_has (w 10) (j - 26) = true
    · rw [if_pos h2, if_pos ⟨by omega, h2.2⟩]
    · rw [if_neg h2, if_neg (fun q => h2 ⟨by omega, q.2⟩)]
theorem m_c3_st (w : Nat → Int32) (i : Nat) (hi : i < 31) (h3 : 3 ≤ i) : uw (m_c3 w (i + 1)) (576 + (i + 1)) (m_c3 w (i + 1) (576 + (i + 1) - 4)) = m_c3 w i := by
  funext j
  unfold uw m_c3
  by_cases h : j = 576 + (i + 1)
  · subst h
    rw [if_pos rfl, if_neg (by omega), if_pos (by omega)]
  · rw [if_neg h]
    by_cases h2 : 576 + i < j ∧ j < 608
    · rw [if_pos h2, if_pos (by omega)]
    · rw [if_neg h2, if_neg (by omega)]
theorem m_c3_31 (w : Nat → Int32) : m_c3 w 31 = w := by funext j; unfold m_c3; rw [if_neg (by omega)]
theorem c1_lo {w : Nat → Int32} {n j : Nat} (h : j < 272 ∨ 320 ≤ j) (hn : n ≤ 48) : m_c1 w n j = w j := by unfold m_c1; rw [if_neg (by omega)]
theorem c2_hi {w : Nat → Int32} {n j : Nat} (h : j < 26 ∨ 32 ≤ j) (hn : n ≤ 6) : m_c2 w n j = w j := by unfold m_c2; rw [if_neg (by omega)]
theorem c3_lo {w : Nat → Int32} {i j : Nat} (h : j < 576) : m_c3 w i j = w j := by unfold m_c3; rw [if_neg (by omega)]
theorem c4_ne {w : Nat → Int32} {j : Nat} (h : j ≠ 10) (h2 : j < 576 ∨ 579 ≤ j) : m_c4 w j = w j := by unfold m_c4; rw [uw_ne h, uw_ne (by omega), uw_ne (by omega), uw_ne (by omega)]
theorem Sm_c5 {w : Nat → Int32} (z : Sz w) : Sm w (m_c5 w) := by
  have hP := z.2.2.1.2
  unfold m_c5
  refine ⟨?_, ?_, ?_, fun p hp => ?_⟩ <;> rw [c4_ne (by omega) (by omega), c3_lo (by omega), c2_hi (by omega) hP, c1_lo (by omega) (by omega)]
theorem q_commit {K : Int32 → ab_F → ab_F → Prop} {I A : ab_F} (z : Sz (A 1)) (h : K (m_fd (A 1) (m_c5 (A 1))) I (wrow A 1 (m_com (A 1)))) : wX12_commit K I A := by
  have hP := z.2.2.1.2
  refine q_freeCount z ?_
  generalize hv : A 1 = w at *
  have h3 : ∃ nf, wlX12_commit_106 K nf (nI (m_free w)) (nI 31) I (wrow A 1 (m_c2 (m_c1 w 48) (m_P w))) := by
    generalize hv2 : m_c2 (m_c1 w 48) (m_P w) = v2
    have hh := lpd (W := fun n i => 3 + i ≤ 31 → wlX12_commit_106 K n (nI (m_free w)) (nI (3 + i)) I (wrow A 1 (m_c3 v2 (3 + i)))) (fun n _ => ?_) (fun n i hw hi => ?_) 28
    · obtain ⟨n, hn⟩ := hh
      have h1 := hn (by omega)
      rw [m_c3_31] at h1
      exact ⟨n, h1⟩
    · refine br_t (by decide) ?_
      have eA : wr (wr (wr (wr (wrow A 1 (m_c3 v2 3)) 1 576 (wrow A 1 (m_c3 v2 3) 1 10)) 1 577 (wrow A 1 (m_c3 v2 3) 1 4)) 1 578 (wrow A 1 (m_c3 v2 3) 1 11)) 1 10 (nI 0) = wrow A 1 (m_c5 w) := by
        simp only [wr_w, wrow_wrow, wrow_at]
        unfold m_c5 m_c4
        rw [hv2]
      rw [show 3 + 0 = 3 from rfl, eA]
      have zc : Sz (m_c5 w) := (Sm_c5 z).sz z
      refine q_freeCount (by rw [wrow_at]; exact zc) ?_
      rw [wrow_at]
      unfold m_com m_c6 at h
      have e579 : ∀ (v : Nat → Int32) (x : Int32), uw v 579 x 13 = v 13 := fun v x => uw_ne (by omega)
      by_cases h8 : nI 8 ≤ m_c5 w 13
      · refine br_t h8 ?_
        show K _ _ _
        simp only [wr_w, wrow_wrow, wrow_at]
        rw [if_pos h8] at h
        have e13 : uw (uw (m_c5 w) 579 (m_fd w (m_c5 w))) 13 (m_c5 w 13) = uw (m_c5 w) 579 (m_fd w (m_c5 w)) := by
          funext j
          by_cases hj : j = 13
          · subst hj; rw [uw_at, uw_ne (by omega)]
          · rw [uw_ne hj]
        rw [e13] at h
        rw [uw_at, uw_ne (by omega)]
        exact h
      · refine br_f h8 ?_
        show K _ _ _
        simp only [wr_w, wrow_wrow, wrow_at]
        rw [if_neg h8] at h
        rw [uw_ne (by omega), uw_at, uw_ne (by omega), uw_ne (by omega)]
        exact h
    · refine br_f (nI_nlt (by omega) (by omega)) ?_
      refine ⟨576 + (3 + (i + 1)) - 4, ?_, by omega, ixa (by omega) ?_⟩
      · rw [nI_add, show 576 + (3 + (i + 1)) = (576 + i) + 4 by omega, Nat.add_sub_cancel, ← nI_add (576 + i) 4]
        exact Int32.add_sub_cancel (nI (576 + i)) (nI 4)
      · simp only [wr_w, wrow_wrow, wrow_at]
        rw [show 3 + (i + 1) = (3 + i) + 1 by omega, m_c3_st v2 (3 + i) (by omega) (by omega), show nI (3 + i + 1) + (-1) = nI (3 + i) from by rw [← nI_pred (3 + i)]; exact (Int32.sub_eq_add_neg ..).symm]
        exact hw (by omega)
  have h2 : ∃ nf, wlX12_commit_58 K nf (nI (m_free w)) (nI 0) I (wrow A 1 (m_c2 (m_c1 w 48) 0)) := by
    have z1 : Sz (m_c1 w 48) := Sz_eq z (c1_lo (by omega) (by omega)) (c1_lo (by omega) (by omega)) (c1_lo (by omega) (by omega)) (fun p hp => c1_lo (by omega) (by omega))
    have e3 : (m_c1 w 48) 3 = w 3 := c1_lo (by omega) (by omega)
    refine lp (W := fun n i => wlX12_commit_58 K n (nI (m_free w)) (nI i) I (wrow A 1 (m_c2 (m_c1 w 48) i))) (e := m_P w) (fun n => ?_) (fun n i hi hw => ?_)
    · refine br_t ?_ h3
      rw [wrow_at, c2_hi (by omega) hP, e3, z.2.2.1.1]
      exact nI_le (Nat.le_refl _) (by omega)
    · refine br_f (by rw [wrow_at, c2_hi (by omega) (by omega), e3, z.2.2.1.1]; exact nI_ge hi (by omega)) ?_
      have e10 : m_c2 (m_c1 w 48) i 10 = m_c1 w 48 10 := c2_hi (by omega) (by omega)
      rw [wrow_at, e10]
      refine q_has (bb (fun e => ?_) (fun e => ?_))
      · rw [nI_add i 1, m_c2_sk _ i e]; exact hw
      · refine ixa (by omega) ?_
        simp only [wr_w, wrow_wrow, wrow_at]
        rw [show m_c2 (m_c1 w 48) i 4 = m_c1 w 48 4 from c2_hi (by omega) (by omega), m_c2_st _ i e, nI_add i 1]
        exact hw
  have e20 : m_c2 (m_c1 w 48) 0 = m_c1 w 48 := by funext j; unfold m_c2; rw [if_neg (by omega)]
  have e10' : m_c1 w 0 = w := by funext j; unfold m_c1; rw [if_neg (by omega)]
  rw [e20] at h2
  have h1 : ∃ nf, wlX12_commit_7 K nf (nI (m_free w)) (nI 0) I (wrow A 1 (m_c1 w 0)) := by
    refine lp (W := fun n i => wlX12_commit_7 K n (nI (m_free w)) (nI i) I (wrow A 1 (m_c1 w i))) (e := 48) (fun n => ?_) (fun n i hi hw => ?_)
    · exact br_t (nI_le (Nat.le_refl _) (by omega)) h2
    · refine br_f (nI_ge hi (by omega)) ?_
      rw [wrow_at, show m_c1 w i 10 = w 10 from c1_lo (by omega) (by omega), pk_div (by omega) (by omega) (by omega)]
      refine q_has (bb (fun e => ?_) (fun e => ?_))
      · rw [nI_add i 1, m_c1_sk _ i e]; exact hw
      · refine ixa (by omega) (ixa (by omega) ?_)
        simp only [wr_w, wrow_wrow, wrow_at]
        rw [show m_c1 w i (224 + i) = w (224 + i) from c1_lo (by omega) (by omega), m_c1_st _ i hi e, nI_add i 1]
        exact hw
  rw [e10', ← hv, wrow_id] at h1
  rw [← hv]
  exact h1
def m_ab (w : Nat → Int32) : Nat → Int32 := uw w 10 (nI 0)
theorem q_abandon {K : Int32 → ab_F → ab_F → Prop} {I A : ab_F} (z : Sz (A 1)) (h : K (m_fd (A 1) (m_ab (A 1))) I (wrow A 1 (m_ab (A 1)))) : wX12_abandon K I A := by
  refine q_freeCount z ?_
  rw [wr_w]
  refine q_freeCount (by rw [wrow_at]; exact Sz_uw z (by omega)) ?_
  rw [wrow_at]
  exact h
/-- the value that a page would be restored to -/
def m_rsd (w : Nat → Int32) (k : Nat) : Int32 := if w (26 + k / 8) = -1 then nI 0 else if w (272 + k) = -1 then nI 0 else w (368 + nn (w (272 + k)))
theorem q_restored {K : Int32 → ab_F → ab_F → Prop} {I A : ab_F} {k : Nat} (z : Sz (A 1)) (c : Ck (A 1)) (hk : k < 48) (h : K (m_rsd (A 1) k) I A) : wX12_restored K I A (nI k) := by
  unfold wX12_restored
  rw [pk_div (by omega) (by omega) (by omega)]
  refine ixa (by omega) ?_
  unfold m_rsd at h
  by_cases h1 : A 1 (26 + k / 8) = -1
  · rw [if_pos h1] at h; exact br_t h1 h
  · rw [if_neg h1] at h
    refine br_f h1 (ixa (by omega) ?_)
    by_cases h2 : A 1 (272 + k) = -1
    · rw [if_pos h2] at h; exact rb_t h2 h
    · rw [if_neg h2] at h
      rcases c k hk with a | ⟨s, a, b, -⟩
      · exact absurd a h2
      · have hS := z.2.1.2
        rw [b, nn_nI (by omega)] at h
        refine rb_f h2 (ixa (by omega) (ixv b (by omega) h))
theorem q_isStuckOut {K : Int32 → ab_F → ab_F → Prop} {I A : ab_F} {k : Nat} (z : Sz (A 1)) (hk : k < 48) (h : K (bI (decide (A 1 (176 + k) = nI 1) && (m_nf (A 1)).isNone)) I A) : wX12_isStuckOut K I A (nI k) := by
  refine ixa (by omega) ?_
  by_cases h1 : A 1 (176 + k) = nI 1
  · rw [decide_eq_true h1, Bool.true_and] at h
    refine rb_t h1 (q_nextFree z (nfb (fun k hk => by have := m_nf_lt z k hk; omega) (fun e => ?_) (fun e => ?_)))
    · rw [e] at h; exact h
    · rw [e] at h; exact h
  · rw [decide_eq_false h1] at h
    exact rb_f h1 h
/-- one page is restored -/
def m_r0 (w : Nat → Int32) (k : Nat) : Nat → Int32 := uw (uw (uw w (176 + k) (nI 0)) (80 + k) (if w (26 + k / 8) = -1 then -1 else w (272 + k))) (32 + k) (m_rsd w k)
def m_r1 (w : Nat → Int32) (k : Nat) : Nat → Int32 := m_r0 (if w (128 + k) = -1 then w else m_lv w k) k
def m_rst (w : Nat → Int32) (p : Nat) : Nat → Int32 := up (fun i v => m_r1 v (8 * p + i)) w (m_C w p)
theorem or_bit : ∀ n, n < 8 → ∀ a, a < 2 ^ n → nI a ||| (nI 1 <<< (nI n &&& 31)) = nI (a + 2 ^ n) := by decide +kernel
theorem or_0 (x : Int32) : x ||| nI 0 = x := by
  apply Int32.toBitVec_inj.mp
  show x.toBitVec ||| (nI 0).toBitVec = x.toBitVec
  rw [show (nI 0).toBitVec = 0#32 from rfl, BitVec.or_zero]
theorem q_checkpointed {K : Int32 → ab_F → ab_F → Prop} {I A : ab_F} (z : Sz (A 1)) (h : K (nI (sb (fun p => !decide (A 1 (26 + p) = -1)) (m_P (A 1)))) I A) : wX12_checkpointed K I A := by
  have hP := z.2.2.1.2
  refine lp (W := fun n i => wlX12_checkpointed_4 K n (nI (sb (fun p => !decide (A 1 (26 + p) = -1)) i)) (nI i) I A) (e := m_P (A 1)) (fun n => ?_) (fun n i hi hw => ?_)
  · exact br_t (by rw [z.2.2.1.1]; exact nI_le (Nat.le_refl _) (by omega)) h
  · refine br_f (by rw [z.2.2.1.1]; exact nI_ge hi (by omega)) (ixa (by omega) ?_)
    rw [sb] at hw
    by_cases h1 : A 1 (26 + i) = -1
    · rw [decide_eq_true h1] at hw
      refine br_t h1 (nm_r (or_0 _) ?_)
      rw [nI_add i 1]; exact hw
    · rw [decide_eq_false h1] at hw
      refine br_f h1 (nm_r (or_bit i (by omega) _ (sb_lt i)) ?_)
      rw [nI_add i 1]; exact hw
/-- the pages that a process would lose -/
def m_los (w : Nat → Int32) (p : Nat) : Nat := sb (fun i => !decide (w (32 + (8 * p + i)) = m_rsd w (8 * p + i))) (m_C w p)
theorem nI_mul8 (p : Nat) : nI 8 * nI p = nI (8 * p) := (Int32.ofNat_mul 8 p).symm
theorem q_lostOf {K : Int32 → ab_F → ab_F → Prop} {I A : ab_F} {p : Nat} (z : Sz (A 1)) (c : Ck (A 1)) (hp : p < 6) (h : K (nI (m_los (A 1) p)) I A) : wX12_lostOf K I A (nI p) := by
  have hC := z.2.2.2 p hp
  unfold m_los at h
  refine lp (W := fun n i => wlX12_lostOf_4 K n (nI p) (nI (sb (fun i => !decide (A 1 (32 + (8 * p + i)) = m_rsd (A 1) (8 * p + i))) i)) (nI i) I A) (e := m_C (A 1) p) (fun n => ?_) (fun n i hi hw => ?_)
  · refine ixa (by omega) (br_t (by rw [hC.1]; exact nI_le (Nat.le_refl _) (by omega)) h)
  · refine ixa (by omega) (br_f (by rw [hC.1]; exact nI_ge hi (by omega)) ?_)
    refine ⟨32 + (8 * p + i), by rw [nI_mul8, nI_add, nI_add, Nat.add_assoc], by omega, ?_⟩
    rw [nI_mul8, nI_add (8 * p) i]
    refine q_restored z c (by omega) ?_
    rw [sb] at hw
    by_cases h1 : A 1 (32 + (8 * p + i)) = m_rsd (A 1) (8 * p + i)
    · rw [decide_eq_true h1] at hw
      refine br_t h1 (nm_r (or_0 _) ?_)
      rw [nI_add i 1]; exact hw
    · rw [decide_eq_false h1] at hw
      refine br_f h1 (nm_r (or_bit i (by omega) _ (sb_lt i)) ?_)
      rw [nI_add i 1]; exact hw
