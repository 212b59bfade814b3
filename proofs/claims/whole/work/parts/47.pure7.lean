/-! barriers of the reference -/
def m_tp (w : Nat → Int32) (k : Nat) : Bool := m_th w k && m_pd w k
def m_pc (w : Nat → Int32) : Nat := cn (m_tp w) 48
theorem q_pendingCount {K : Int32 → ab_F → ab_F → Prop} {I A : ab_F} (z : Sz (A 1)) (h : K (nI (m_pc (A 1))) I A) : wX12_pendingCount K I A := by
  refine lp (W := fun n i => wlX12_pendingCount_4 K n (nI (cn (m_tp (A 1)) i)) (nI i) I A) (e := 48) (fun n => ?_) (fun n i hi hw => ?_)
  · exact br_t (nI_le (Nat.le_refl _) (by omega)) h
  · refine br_f (nI_ge hi (by omega)) (q_isThere z hi ?_)
    rw [cn] at hw
    unfold m_tp at hw
    have h0 : ∀ c : Bool, c = false → wlX12_pendingCount_4 K n (nI (cn (fun k => m_th (A 1) k && m_pd (A 1) k) i + if c = true then 1 else 0)) (nI (i + 1)) I A → wjX12_pendingCount_31 K (wlX12_pendingCount_4 K n) (nI i) (nI (cn (m_tp (A 1)) i)) I A := by
      intro c hc hw
      rw [hc] at hw
      exact nm_r (nI_add _ 0) (by rw [nI_add i 1]; exact hw)
    refine bb (fun e => ?_) (fun e => ?_)
    · rw [e, Bool.false_and] at hw
      exact h0 _ rfl hw
    · rw [e, Bool.true_and] at hw
      refine q_isPending hi (bb (fun e => ?_) (fun e => ?_))
      · rw [e] at hw
        exact h0 _ rfl hw
      · rw [e] at hw
        exact nm_r (nI_add _ 1) (by rw [nI_add i 1]; exact hw)
/-- a barrier starts -/
def m_s0 (w : Nat → Int32) (x : Int32) : Nat → Int32 := uw (uw (uw w 4 (w 4 + nI 1)) 10 x) 11 (nI 0)
def m_s1 (w : Nat → Int32) (n : Nat) : Nat → Int32 := fun j => if 224 ≤ j ∧ j < 224 + n then (if w (j - 48) = nI 1 then -2 else w (j - 144)) else w j
def m_sta (w : Nat → Int32) (x : Int32) : Nat → Int32 := m_s1 (m_s0 w x) 48
theorem m_s1_0 (w : Nat → Int32) : m_s1 w 0 = w := by funext j; unfold m_s1; rw [if_neg (by omega)]
theorem m_s1_st (w : Nat → Int32) (i : Nat) (hi : i < 48) : uw (m_s1 w i) (224 + i) (if w (176 + i) = nI 1 then -2 else w (80 + i)) = m_s1 w (i + 1) := by
  funext j
  unfold uw m_s1
  by_cases h : j = 224 + i
  · subst h
    rw [if_pos rfl, if_pos (show 224 ≤ 224 + i ∧ 224 + i < 224 + (i + 1) by omega), show 224 + i - 48 = 176 + i by omega, show 224 + i - 144 = 80 + i by omega]
  · rw [if_neg h]
    by_cases h2 : 224 ≤ j ∧ j < 224 + i
    · rw [if_pos h2, if_pos (show 224 ≤ j ∧ j < 224 + (i + 1) by omega)]
    · rw [if_neg h2, if_neg (show ¬ (224 ≤ j ∧ j < 224 + (i + 1)) by omega)]
theorem q_startFor {K : ab_F → ab_F → Prop} {I A : ab_F} {x : Int32} (h : K I (wrow A 1 (m_sta (A 1) x))) : wX12_startFor K I A x := by
  have e0 : wr (wr (wr A 1 4 (A 1 4 + nI 1)) 1 10 x) 1 11 (nI 0) = wrow A 1 (m_s1 (m_s0 (A 1) x) 0) := by
    simp only [wr_w, wrow_wrow, wrow_at]; rw [m_s1_0]; rfl
  unfold wX12_startFor
  rw [e0]
  unfold m_sta at h
  generalize m_s0 (A 1) x = v at *
  refine lp (W := fun n i => wlX12_startFor_28 K n (nI i) I (wrow A 1 (m_s1 v i))) (e := 48) (fun n => ?_) (fun n i hi hw => ?_)
  · refine br_t (nI_le (Nat.le_refl _) (by omega)) ?_
    exact h
  · refine br_f (nI_ge hi (by omega)) (ixa (by omega) ?_)
    have e1 : m_s1 v i (176 + i) = v (176 + i) := by unfold m_s1; rw [if_neg (by omega)]
    have e2 : m_s1 v i (80 + i) = v (80 + i) := by unfold m_s1; rw [if_neg (by omega)]
    have hst : ∀ u : Int32, u = (if v (176 + i) = nI 1 then -2 else v (80 + i)) → wjX12_startFor_71 K (wlX12_startFor_28 K n) (nI i) u (nI 224 + nI i) I (wrow A 1 (m_s1 v i)) := by
      intro u hu
      refine ixa (by omega) ?_
      simp only [wr_w, wrow_wrow, wrow_at]
      rw [hu, m_s1_st v i hi, nI_add i 1]
      exact hw
    rw [wrow_at, e1]
    by_cases h1 : v (176 + i) = nI 1
    · exact rb_t h1 (hst _ (by rw [if_pos h1]))
    · refine rb_f h1 (ixa (by omega) ?_)
      rw [e2]
      exact hst _ (by rw [if_neg h1])
/-- pages are written to slots, in their order -/
def m_fl : Nat → Nat → Nat → (Nat → Int32) → Nat → Int32
  | 0, _, _, w => w
  | m + 1, k, left, w => if left = 0 then w else if m_tp w k = true then (match m_nf w with | none => w | some s => m_fl m (k + 1) (left - 1) (m_put w k s)) else m_fl m (k + 1) left w
theorem q_flush {K : ab_F → ab_F → Prop} {I : ab_F} : ∀ (m k left : Nat) (A : ab_F), k + m = 48 → left < 2 ^ 31 → Sz (A 1) → K I (wrow A 1 (m_fl m k left (A 1))) → wlX12_flush_4 K (m + 1) (nI left) (nI k) I A
  | 0, k, left, A, hk, hl, z, h => by
    have : k = 48 := by omega
    subst this
    refine br_t (nI_le (Nat.le_refl _) (by omega)) ?_
    rw [m_fl, wrow_id] at h
    exact h
  | m + 1, k, left, A, hk, hl, z, h => by
    refine br_f (nI_ge (by omega) (by omega)) ?_
    rw [m_fl] at h
    by_cases h0 : left = 0
    · subst h0
      rw [if_pos rfl, wrow_id] at h
      exact br_t (by decide) h
    · rw [if_neg h0] at h
      refine br_f (nI_nle (by omega) hl) (q_isThere z (by omega) ?_)
      unfold m_tp at h
      refine bb (fun e => ?_) (fun e => ?_)
      · rw [e, Bool.false_and, if_neg (by decide)] at h
        rw [nI_add k 1]
        exact q_flush m (k + 1) left A (by omega) hl z h
      · rw [e, Bool.true_and] at h
        refine q_isPending (by omega) (bb' (fun e => ?_) (fun e => ?_))
        · rw [if_neg (by rw [e]; decide)] at h
          rw [nI_add k 1]
          exact q_flush m (k + 1) left A (by omega) hl z h
        · rw [if_pos e] at h
          refine q_nextFree z ?_
          cases hn : m_nf (A 1) with
          | none =>
            rw [hn, wrow_id] at h
            exact rb_t rfl h
          | some s =>
            rw [hn] at h
            refine rb_f (nI_m1 (by have := m_nf_lt z s hn; omega)) (q_take z (by omega) hn ?_)
            have e3 : nI left + (-1) = nI (left - 1) := by
              obtain ⟨l, rfl⟩ : ∃ l, left = l + 1 := ⟨left - 1, by omega⟩
              rw [Nat.add_sub_cancel, ← nI_pred l]; exact (Int32.sub_eq_add_neg ..).symm
            rw [e3, nI_add k 1]
            refine q_flush m (k + 1) (left - 1) _ (by omega) (by omega) (by rw [wrow_at]; exact Sz_put z) ?_
            rw [wrow_at, wrow_wrow]
            exact h
theorem q_flushW {K : ab_F → ab_F → Prop} {I A : ab_F} {left : Nat} (hl : left < 2 ^ 31) (z : Sz (A 1)) (h : K I (wrow A 1 (m_fl 48 0 left (A 1)))) : wX12_flush K I A (nI left) := ⟨49, q_flush 48 0 left A rfl hl z h⟩
