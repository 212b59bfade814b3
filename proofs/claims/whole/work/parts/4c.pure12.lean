/-! the reference's past -/
def m_cp (n : Nat) (a b : Nat → Int32) : Nat → Int32 := fun j => if j < n then a j else b j
def m_pp (P a : Nat → Int32) (d n : Nat) : Nat → Int32 := fun j => if 608 * d ≤ j ∧ j < 608 * d + n then a (j - 608 * d) else P j
def m_sf (P : Nat → Int32) (n : Nat) : Nat → Int32 := fun j => if j < n then P (j + 608) else P j
theorem m_cp_st (a b : Nat → Int32) (i : Nat) : uw (m_cp i a b) i (a i) = m_cp (i + 1) a b := by
  funext j
  unfold uw m_cp
  by_cases h : j = i
  · subst h; rw [if_pos rfl, if_pos (by omega)]
  · rw [if_neg h]
    by_cases h2 : j < i
    · rw [if_pos h2, if_pos (by omega)]
    · rw [if_neg h2, if_neg (by omega)]
theorem m_pp_st (P a : Nat → Int32) (d i : Nat) : uw (m_pp P a d i) (608 * d + i) (a i) = m_pp P a d (i + 1) := by
  funext j
  unfold uw m_pp
  by_cases h : j = 608 * d + i
  · subst h; rw [if_pos rfl, if_pos (by omega), Nat.add_sub_cancel_left]
  · rw [if_neg h]
    by_cases h2 : 608 * d ≤ j ∧ j < 608 * d + i
    · rw [if_pos h2, if_pos (by omega)]
    · rw [if_neg h2, if_neg (by omega)]
theorem m_sf_st (P : Nat → Int32) (i : Nat) : uw (m_sf P i) i (m_sf P i (608 + i)) = m_sf P (i + 1) := by
  funext j
  unfold uw m_sf
  by_cases h : j = i
  · subst h; rw [if_pos rfl, if_neg (by omega), if_pos (by omega), Nat.add_comm]
  · rw [if_neg h]
    by_cases h2 : j < i
    · rw [if_pos h2, if_pos (by omega)]
    · rw [if_neg h2, if_neg (by omega)]
theorem m_cp_0 (a b : Nat → Int32) : m_cp 0 a b = b := by funext j; unfold m_cp; rw [if_neg (by omega)]
theorem m_pp_0 (P a : Nat → Int32) (d : Nat) : m_pp P a d 0 = P := by funext j; unfold m_pp; rw [if_neg (by omega)]
theorem m_sf_0 (P : Nat → Int32) : m_sf P 0 = P := by funext j; unfold m_sf; rw [if_neg (by omega)]
theorem q_keepAside {K : ab_F → ab_F → Prop} {I A : ab_F} (h : K I (wrow A 2 (m_cp 608 (A 1) (A 2)))) : wX12_keepAside K I A := by
  have hh : ∃ n, wlX12_keepAside_2 K n (nI 0) I (wrow A 2 (m_cp 0 (A 1) (A 2))) := by
    refine lp (W := fun n i => wlX12_keepAside_2 K n (nI i) I (wrow A 2 (m_cp i (A 1) (A 2)))) (e := 608) (fun n => ?_) (fun n i hi hw => ?_)
    · exact br_t (nI_le (Nat.le_refl _) (by omega)) h
    · refine br_f (nI_ge hi (by omega)) (ix0 hi (ix0 hi ?_))
      simp only [wr_w, wrow_wrow, wrow_at]
      rw [wrow_ne (by decide), m_cp_st, nI_add i 1]
      exact hw
  rw [m_cp_0, wrow_id] at hh
  exact hh
theorem q_takeBack {K : ab_F → ab_F → Prop} {I A : ab_F} (h : K I (wrow A 1 (m_cp 608 (A 2) (A 1)))) : wX12_takeBack K I A := by
  have hh : ∃ n, wlX12_takeBack_2 K n (nI 0) I (wrow A 1 (m_cp 0 (A 2) (A 1))) := by
    refine lp (W := fun n i => wlX12_takeBack_2 K n (nI i) I (wrow A 1 (m_cp i (A 2) (A 1)))) (e := 608) (fun n => ?_) (fun n i hi hw => ?_)
    · exact br_t (nI_le (Nat.le_refl _) (by omega)) h
    · refine br_f (nI_ge hi (by omega)) (ix0 hi (ix0 hi ?_))
      simp only [wr_w, wrow_wrow, wrow_at]
      rw [wrow_ne (by decide), m_cp_st, nI_add i 1]
      exact hw
  rw [m_cp_0, wrow_id] at hh
  exact hh
/-- the past with one more -/
def m_psh (P a : Nat → Int32) (d : Nat) : Nat → Int32 := if d = 10 then m_pp (m_sf P 5472) a 9 608 else m_pp P a d 608
def m_dp (d : Nat) : Nat := if d = 10 then 10 else d + 1
theorem nI_mul608 (p : Nat) : nI 608 * nI p = nI (608 * p) := (Int32.ofNat_mul 608 p).symm
theorem q_push54 {K : ab_F → ab_F → Prop} {I A : ab_F} {d : Nat} (hd : d < 10) (e : I 0 4 = nI d) (h : K (wr I 0 4 (nI (d + 1))) (wrow A 4 (m_pp (A 4) (A 2) d 608))) : ∃ n, wlX12_push_54 K n (nI 0) I A := by
  have hh : ∃ n, wlX12_push_54 K n (nI 0) I (wrow A 4 (m_pp (A 4) (A 2) d 0)) := by
    refine lp (W := fun n i => wlX12_push_54 K n (nI i) I (wrow A 4 (m_pp (A 4) (A 2) d i))) (e := 608) (fun n => ?_) (fun n i hi hw => ?_)
    · refine br_t (nI_le (Nat.le_refl _) (by omega)) ?_
      rw [e, nI_add]; exact h
    · refine br_f (nI_ge hi (by omega)) (ix0 hi ⟨608 * d + i, by rw [e, nI_mul608, nI_add], by omega, ?_⟩)
      simp only [wr_w, wrow_wrow, wrow_at]
      rw [wrow_ne (by decide), m_pp_st, nI_add i 1]
      exact hw
  rw [m_pp_0, wrow_id] at hh
  exact hh
theorem q_push {K : ab_F → ab_F → Prop} {I A : ab_F} {d : Nat} (hd : d ≤ 10) (e : I 0 4 = nI d) (h : K (wr I 0 4 (nI (m_dp d))) (wrow A 4 (m_psh (A 4) (A 2) d))) : wX12_push K I A := by
  unfold m_dp m_psh at h
  unfold wX12_push
  rw [e]
  by_cases h1 : d = 10
  · subst h1
    rw [if_pos rfl, if_pos rfl] at h
    refine rb_t rfl ?_
    have hh : ∃ n, wlX12_push_13 K n (nI (608 + 0)) I (wrow A 4 (m_sf (A 4) 0)) := by
      refine lp (W := fun n i => wlX12_push_13 K n (nI (608 + i)) I (wrow A 4 (m_sf (A 4) i))) (e := 5472) (fun n => ?_) (fun n i hi hw => ?_)
      · refine br_t (nI_le (by omega) (by omega)) ?_
        rw [e]
        refine q_push54 (d := 9) (by omega) (by rw [wr_ate]; decide) ?_
        rw [wrow_at, wrow_wrow, wrow_ne (by decide), wr_w, wr_w, wrow_wrow, wrow_at]
        rw [wr_w] at h
        have e2 : uw (uw (I 0) 4 (nI 10 - nI 1)) 4 (nI (9 + 1)) = uw (I 0) 4 (nI 10) := by
          funext j
          by_cases hj : j = 4
          · subst hj; rw [uw_at, uw_at]
          · rw [uw_ne hj, uw_ne hj, uw_ne hj]
        rw [e2]
        exact h
      · refine br_f (nI_ge (by omega) (by omega)) (ix0 (by omega) ⟨i, ?_, by omega, ?_⟩)
        · rw [← nI_add 608 i, Int32.add_comm]; exact Int32.add_sub_cancel (nI i) (nI 608)
        · simp only [wr_w, wrow_wrow, wrow_at]
          rw [m_sf_st, nI_add (608 + i) 1, Nat.add_assoc]
          exact hw
    rw [m_sf_0, wrow_id] at hh
    exact hh
  · rw [if_neg h1, if_neg h1] at h
    exact rb_f (fun q => h1 ((nI_eq (by omega) (by omega)).mp q)) (q_push54 (by omega) e h)
/-- the arrays after a state was remembered -/
def m_rem (A : ab_F) (d : Nat) : ab_F := wrow (wrow A 2 (m_cp 608 (A 1) (A 2))) 4 (m_psh (A 4) (m_cp 608 (A 1) (A 2)) d)
theorem m_rem_1 (A : ab_F) (d : Nat) : m_rem A d 1 = A 1 := by unfold m_rem; rw [wrow_ne (by decide), wrow_ne (by decide)]
theorem q_remember {K : ab_F → ab_F → Prop} {I A : ab_F} {d : Nat} (hd : d ≤ 10) (e : I 0 4 = nI d) (h : K (wr I 0 4 (nI (m_dp d))) (m_rem A d)) : wX12_remember K I A := by
  refine q_keepAside (q_push hd e ?_)
  rw [wrow_at, wrow_ne (by decide)]
  exact h
theorem q_undo {K : Int32 → ab_F → ab_F → Prop} {I A : ab_F} {d : Nat} (hd : d ≤ 10) (e : I 0 4 = nI d) (h0 : d = 0 → K (nI 0) (wr I 0 5 (nI 1)) A) (h : 0 < d → K (nI (d - 1)) (wr (wr I 0 5 (nI 0)) 0 4 (nI (d - 1))) (wrow A 1 (m_cp 608 (fun k => A 4 (608 * (d - 1) + k)) (A 1)))) : wX12_undo K I A := by
  unfold wX12_undo
  rw [e]
  by_cases h1 : d = 0
  · subst h1
    exact rb_t rfl (h0 rfl)
  · refine rb_f (nI_ne0 (by omega) (by omega)) ?_
    obtain ⟨c, rfl⟩ : ∃ c, d = c + 1 := ⟨d - 1, by omega⟩
    have h := h (by omega)
    rw [Nat.add_sub_cancel] at h
    rw [show nI (c + 1) - nI 1 = nI c from nI_pred c]
    generalize hI : wr (wr I 0 5 (nI 0)) 0 4 (nI c) = J at *
    have eJ : J 0 4 = nI c := by rw [← hI, wr_ate]
    have hh : ∃ n, wlX12_undo_30 K n (nI 0) J (wrow A 1 (m_cp 0 (fun k => A 4 (608 * c + k)) (A 1))) := by
      refine lp (W := fun n i => wlX12_undo_30 K n (nI i) J (wrow A 1 (m_cp i (fun k => A 4 (608 * c + k)) (A 1)))) (e := 608) (fun n => ?_) (fun n i hi hw => ?_)
      · refine br_t (nI_le (Nat.le_refl _) (by omega)) ?_
        rw [eJ]; exact h
      · refine br_f (nI_ge hi (by omega)) ⟨608 * c + i, by rw [eJ, nI_mul608, nI_add], by omega, ix0 hi ?_⟩
        simp only [wr_w, wrow_wrow, wrow_at]
        rw [wrow_ne (by decide), m_cp_st (fun k => A 4 (608 * c + k)), nI_add i 1]
        exact hw
    rw [m_cp_0, wrow_id] at hh
    exact hh
