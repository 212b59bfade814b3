/-! the reference's steps -/
theorem lpd {W : Nat → Nat → Prop} (hx : ∀ n, W (n + 1) 0) (hs : ∀ n i, W n i → W (n + 1) (i + 1)) : ∀ e, ∃ n, W n e
  | 0 => ⟨1, hx 0⟩
  | e + 1 => by obtain ⟨n, h⟩ := lpd hx hs e; exact ⟨n + 1, hs n e h⟩
theorem Sz_eq {w w' : Nat → Int32} (z : Sz w) (h0 : w' 0 = w 0) (h1 : w' 1 = w 1) (h3 : w' 3 = w 3) (h20 : ∀ p, p < 6 → w' (20 + p) = w (20 + p)) : Sz w' := by
  unfold Sz m_F m_S m_P m_C at *
  rw [h0, h1, h3]
  refine ⟨z.1, z.2.1, z.2.2.1, fun p hp => ?_⟩
  rw [h20 p hp]
  exact z.2.2.2 p hp
theorem Sz_uw {w : Nat → Int32} {i : Nat} {v : Int32} (z : Sz w) (h : 26 ≤ i ∨ i = 2 ∨ (4 ≤ i ∧ i < 20)) : Sz (uw w i v) :=
  Sz_eq z (uw_ne (by omega)) (uw_ne (by omega)) (uw_ne (by omega)) (fun p hp => uw_ne (by omega))
/-- a page's value goes to a slot -/
def m_put0 (w : Nat → Int32) (k s : Nat) : Nat → Int32 := uw (uw (uw (uw (uw (uw w (368 + s) (w (32 + k))) (416 + s) (nI k)) (464 + s) (w 4)) (80 + k) (nI s)) 7 (w 7 + nI 1)) (176 + k) (nI 0)
def m_put (w : Nat → Int32) (k s : Nat) : Nat → Int32 := if m_pd w k = true then uw (uw (m_put0 w k s) (224 + k) (nI s)) 11 (w 11 + nI 1) else m_put0 w k s
theorem m_put0_ne {w : Nat → Int32} {k s j : Nat} (h1 : j ≠ 368 + s) (h2 : j ≠ 416 + s) (h3 : j ≠ 464 + s) (h4 : j ≠ 80 + k) (h5 : j ≠ 7) (h6 : j ≠ 176 + k) : m_put0 w k s j = w j := by
  unfold m_put0
  rw [uw_ne h6, uw_ne h5, uw_ne h4, uw_ne h3, uw_ne h2, uw_ne h1]
theorem q_take {K : ab_F → ab_F → Prop} {I A : ab_F} {k s : Nat} (z : Sz (A 1)) (hk : k < 48) (hs : m_nf (A 1) = some s) (h : K I (wrow A 1 (m_put (A 1) k s))) : wX12_take K I A (nI k) := by
  have hS := z.2.1.2
  have hs8 : s < 48 := by have := (ls_lt hs).1; omega
  refine q_nextFree z ?_
  rw [hs]
  refine ixa (by omega) (ixa (by omega) (ixa (by omega) (ixa (by omega) (ixa (by omega) (ixa (by omega) ?_)))))
  simp only [oI, wr_w, wrow_wrow, wrow_at]
  have e4 : uw (uw (A 1) (368 + s) (A 1 (32 + k))) (416 + s) (nI k) 4 = A 1 4 := by rw [uw_ne (by omega), uw_ne (by omega)]
  have e7 : uw (uw (uw (uw (A 1) (368 + s) (A 1 (32 + k))) (416 + s) (nI k)) (464 + s) (A 1 4)) (80 + k) (nI s) 7 = A 1 7 := by rw [uw_ne (by omega), uw_ne (by omega), uw_ne (by omega), uw_ne (by omega)]
  rw [e4, e7]
  have e0 : uw (uw (uw (uw (uw (uw (A 1) (368 + s) (A 1 (32 + k))) (416 + s) (nI k)) (464 + s) (A 1 4)) (80 + k) (nI s)) 7 (A 1 7 + nI 1)) (176 + k) (nI 0) = m_put0 (A 1) k s := rfl
  rw [e0]
  refine q_isPending hk ?_
  rw [wrow_at]
  have ep : m_pd (m_put0 (A 1) k s) k = m_pd (A 1) k := by
    unfold m_pd
    rw [m_put0_ne (j := 10) (by omega) (by omega) (by omega) (by omega) (by omega) (by omega), m_put0_ne (j := 224 + k) (by omega) (by omega) (by omega) (by omega) (by omega) (by omega)]
  rw [ep]
  unfold m_put at h
  refine bb' (fun e => ?_) (fun e => ?_)
  · rw [e] at h; exact h
  · rw [e] at h
    refine ixa (by omega) ?_
    rw [if_pos rfl] at h
    have e11 : uw (m_put0 (A 1) k s) (224 + k) (nI s) 11 = A 1 11 := by rw [uw_ne (by omega)]; exact m_put0_ne (by omega) (by omega) (by omega) (by omega) (by omega) (by omega)
    simp only [wrow_wrow, wrow_at]
    rw [e11]
    exact h
theorem m_put_ne {w : Nat → Int32} {k s j : Nat} (h1 : j ≠ 368 + s) (h2 : j ≠ 416 + s) (h3 : j ≠ 464 + s) (h4 : j ≠ 80 + k) (h5 : j ≠ 7) (h6 : j ≠ 176 + k) (h7 : j ≠ 224 + k) (h8 : j ≠ 11) : m_put w k s j = w j := by
  unfold m_put
  split
  · rw [uw_ne h8, uw_ne h7]; exact m_put0_ne h1 h2 h3 h4 h5 h6
  · exact m_put0_ne h1 h2 h3 h4 h5 h6
theorem Sz_put {w : Nat → Int32} {k s : Nat} (z : Sz w) : Sz (m_put w k s) :=
  Sz_eq z (m_put_ne (by omega) (by omega) (by omega) (by omega) (by omega) (by omega) (by omega) (by omega)) (m_put_ne (by omega) (by omega) (by omega) (by omega) (by omega) (by omega) (by omega) (by omega)) (m_put_ne (by omega) (by omega) (by omega) (by omega) (by omega) (by omega) (by omega) (by omega)) (fun p hp => m_put_ne (by omega) (by omega) (by omega) (by omega) (by omega) (by omega) (by omega) (by omega))
/-- a page leaves its frame -/
def m_lv (w : Nat → Int32) (k : Nat) : Nat → Int32 := uw (uw w (320 + nn (w (128 + k))) (-1)) (128 + k) (-1)
theorem q_leave {K : ab_F → ab_F → Prop} {I A : ab_F} {k f : Nat} (hk : k < 48) (hf : f < 16) (e : A 1 (128 + k) = nI f) (h : K I (wrow A 1 (m_lv (A 1) k))) : wX12_leave K I A (nI k) := by
  refine ixa (by omega) (ixv e (by omega) (ixa (by omega) ?_))
  simp only [wr_w, wrow_wrow, wrow_at]
  unfold m_lv at h
  rw [e, nn_nI (by omega)] at h
  exact h
def m_ev (w : Nat → Int32) (k : Nat) : Nat → Int32 := m_lv (if w (176 + k) = nI 1 then (match m_nf w with | some s => m_put w k s | none => w) else w) k
theorem q_evict {K : ab_F → ab_F → Prop} {I A : ab_F} {k f : Nat} (z : Sz (A 1)) (hk : k < 48) (hf : f < 16) (e : A 1 (128 + k) = nI f) (hn : A 1 (176 + k) = nI 1 → ∃ s, m_nf (A 1) = some s) (h : K I (wrow A 1 (m_ev (A 1) k))) : wX12_evict K I A (nI k) := by
  refine ixa (by omega) ?_
  unfold m_ev at h
  by_cases h1 : A 1 (176 + k) = nI 1
  · rw [if_pos h1] at h
    obtain ⟨s, hs⟩ := hn h1
    rw [hs] at h
    have hS := z.2.1.2
    have hs8 : s < 48 := by have := (ls_lt hs).1; omega
    refine rb_t h1 (q_take z hk hs (q_leave (f := f) hk hf ?_ ?_))
    · rw [wrow_at, m_put_ne (by omega) (by omega) (by omega) (by omega) (by omega) (by omega) (by omega) (by omega)]; exact e
    · rw [wrow_at, wrow_wrow]; exact h
  · rw [if_neg h1] at h
    exact rb_f h1 (q_leave hk hf e h)
/-- an access that would need a slot, and none is free -/
def m_stk (w : Nat → Int32) (k : Nat) (b : Bool) : Bool :=
  if w (128 + k) = -1 then ((m_ff w).isNone && (decide (w (176 + nn (w (320 + (m_vf w).getD 0))) = nI 1) && (m_nf w).isNone))
  else (b && (m_pd w k && (m_nf w).isNone))
theorem nfb {o : Option Nat} {A B : Prop} (h : ∀ k, o = some k → k < 2 ^ 31) (hA : o.isNone = true → A) (hB : o.isNone = false → B) : (¬ oI o = -1 → B) ∧ (oI o = -1 → A) := by
  cases o with
  | none => exact rb_t rfl (hA rfl)
  | some k => exact rb_f (nI_m1 (h k rfl)) (hB rfl)
theorem m_nf_lt {w : Nat → Int32} (z : Sz w) : ∀ s, m_nf w = some s → s < 48 := fun s h => by have := (ls_lt h).1; have := z.2.1.2; omega
theorem m_ff_lt {w : Nat → Int32} (z : Sz w) : ∀ f, m_ff w = some f → f < 16 := fun s h => by have := (fi_spec h).1; have := z.1.2; omega
theorem m_lb_lt {w : Nat → Int32} {t : Nat} {c : Bool} : ∀ f, m_lb w t c = some f → f < m_F w := fun s h => (ls_lt h).1
theorem m_lb_some {w : Nat → Int32} {t : Nat} (z : Sz w) : ∃ f, m_lb w t false = some f := by
  cases h : m_lb w t false with
  | some f => exact ⟨f, rfl⟩
  | none =>
    have h1 := ls_none.mp h 0 (by have := z.1.2; omega)
    simp at h1
theorem m_vf_some {w : Nat → Int32} (z : Sz w) : ∃ f, m_vf w = some f ∧ f < m_F w := by
  unfold m_vf
  split
  · obtain ⟨f, h⟩ := m_lb_some (t := 352) z; exact ⟨f, h, m_lb_lt f h⟩
  · split
    · cases h1 : m_lb w 336 true with
      | some f => exact ⟨f, rfl, m_lb_lt f h1⟩
      | none => obtain ⟨f, h⟩ := m_lb_some (t := 336) z; exact ⟨f, h, m_lb_lt f h⟩
    · obtain ⟨f, h⟩ := m_lb_some (t := 336) z; exact ⟨f, h, m_lb_lt f h⟩
theorem q_isStuck {K : Int32 → ab_F → ab_F → Prop} {I A : ab_F} {k : Nat} {b : Bool} (z : Sz (A 1)) (hk : k < 48) (ho : m_ff (A 1) = none → ∀ f, f < m_F (A 1) → ∃ k, k < 48 ∧ A 1 (320 + f) = nI k) (h : K (bI (m_stk (A 1) k b)) I A) : wX12_isStuck K I A (nI k) (bI b) := by
  have hF := z.1.2
  refine ixa (by omega) ?_
  unfold m_stk at h
  by_cases h1 : A 1 (128 + k) = -1
  · rw [if_pos h1] at h
    refine br_t h1 (q_freeFrame z (nfb (fun k hk => by have := m_ff_lt z k hk; omega) (fun e => ?_) (fun e => ?_)))
    · rw [e, Bool.true_and] at h
      have hn : m_ff (A 1) = none := Option.isNone_iff_eq_none.mp e
      refine q_victimFrame z (ho hn) ?_
      obtain ⟨f, hf, hf2⟩ := m_vf_some z
      obtain ⟨o, ho1, ho2⟩ := ho hn f hf2
      rw [hf] at h ⊢
      rw [Option.getD_some, ho2, nn_nI (by omega)] at h
      refine ixa (by omega) (ixv ho2 (by omega) ?_)
      by_cases h2 : A 1 (176 + o) = nI 1
      · rw [decide_eq_true h2, Bool.true_and] at h
        refine rb_t h2 (q_nextFree z (nfb (fun k hk => by have := m_nf_lt z k hk; omega) (fun e => ?_) (fun e => ?_)))
        · rw [e] at h; exact h
        · rw [e] at h; exact h
      · rw [decide_eq_false h2] at h
        exact rb_f h2 h
    · rw [e] at h; exact h
  · rw [if_neg h1] at h
    refine br_f h1 (bb (fun e => ?_) (fun e => ?_))
    · rw [e] at h; exact h
    · rw [e, Bool.true_and] at h
      refine q_isPending hk (bb (fun e => ?_) (fun e => ?_))
      · rw [e] at h; exact h
      · rw [e, Bool.true_and] at h
        refine q_nextFree z (nfb (fun k hk => by have := m_nf_lt z k hk; omega) (fun e => ?_) (fun e => ?_))
        · rw [e] at h; exact h
        · rw [e] at h; exact h
/-- the recent accesses move on -/
def m_sh (w : Nat → Int32) (i : Nat) : Nat → Int32 := fun j => if 512 + i < j ∧ j < 576 then w (j - 1) else w j
def m_rec (w : Nat → Int32) (k : Nat) : Nat → Int32 := uw (uw (m_sh w 0) 512 (nI k)) 12 (if nI 64 ≤ w 12 then w 12 else w 12 + nI 1)
theorem m_sh_63 (w : Nat → Int32) : m_sh w 63 = w := by
  funext j
  unfold m_sh
  rw [if_neg (by omega)]
theorem m_sh_st (w : Nat → Int32) (i : Nat) (hi : i < 63) : uw (m_sh w (i + 1)) (512 + (i + 1)) (m_sh w (i + 1) (512 + i)) = m_sh w i := by
  funext j
  unfold uw m_sh
  by_cases h : j = 512 + (i + 1)
  · subst h
    rw [if_pos rfl, if_neg (by omega), if_pos (by omega)]
    congr 1
  · rw [if_neg h]
    by_cases h2 : 512 + i < j ∧ j < 576
    · rw [if_pos h2, if_pos (by omega)]
    · rw [if_neg h2, if_neg (by omega)]
theorem q_shift {K : ab_F → ab_F → Prop} {I A : ab_F} {k : Nat} (h : K I (wrow A 1 (m_rec (A 1) k))) : ∃ nf, wlX12_access_131 K nf (nI k) (nI 63) I A := by
  have hh := lpd (W := fun n i => i ≤ 63 → wlX12_access_131 K n (nI k) (nI i) I (wrow A 1 (m_sh (A 1) i))) (fun n _ => ?_) (fun n i hw hi => ?_) 63
  · obtain ⟨n, hn⟩ := hh
    have h1 := hn (Nat.le_refl _)
    rw [m_sh_63, wrow_id] at h1
    exact ⟨n, h1⟩
  · refine br_t (by decide) ?_
    unfold m_rec at h
    have e12 : m_sh (A 1) 0 12 = A 1 12 := rfl
    by_cases h2 : nI 64 ≤ A 1 12
    · rw [if_pos h2] at h
      refine br_t (by rw [wrow_at, e12]; exact h2) ?_
      simp only [wr_w, wrow_wrow, wrow_at]
      have e : uw (uw (m_sh (A 1) 0) 512 (nI k)) 12 (A 1 12) = uw (m_sh (A 1) 0) 512 (nI k) := by
        funext j
        unfold uw
        by_cases hj : j = 12
        · subst hj; rfl
        · rw [if_neg hj]
      rw [e] at h
      exact h
    · rw [if_neg h2] at h
      refine br_f (by rw [wrow_at, e12]; exact h2) ?_
      simp only [wr_w, wrow_wrow, wrow_at]
      rw [e12]
      exact h
  · refine br_f (by rw [show (0 : Int32) = nI 0 from rfl]; exact nI_ge (by omega) (by omega)) ?_
    refine ⟨512 + i, ?_, by omega, ?_⟩
    · rw [nI_add, show 512 + (i + 1) = (512 + i) + 1 by omega]; exact nI_pred (512 + i)
    · refine ixa (by omega) ?_
      simp only [wr_w, wrow_wrow, wrow_at]
      rw [m_sh_st (A 1) i (by omega), show nI (i + 1) + (-1) = nI i from by rw [← nI_pred i]; exact (Int32.sub_eq_add_neg ..).symm]
      exact hw (by omega)
def m_load (w : Nat → Int32) (k f : Nat) : Nat → Int32 := uw (uw (uw w (320 + f) (nI k)) (128 + k) (nI f)) (352 + f) (w 5)
/-- a frame is made free, if none is -/
def m_mk (w : Nat → Int32) : Nat → Int32 := match m_ff w with
  | some _ => w
  | none => m_ev w (nn (w (320 + (m_vf w).getD 0)))
def m_a1 (w : Nat → Int32) : Nat → Int32 := uw w 5 (w 5 + nI 1)
def m_a2 (w : Nat → Int32) (k : Nat) : Nat → Int32 := if w (128 + k) = -1 then (let a := m_mk (uw (m_a1 w) 6 (w 6 + nI 1)); m_load a k ((m_ff a).getD 0)) else m_a1 w
def m_a3 (w : Nat → Int32) (k : Nat) : Nat → Int32 := m_rec (uw w (336 + nn (w (128 + k))) (w 5)) k
def m_acc (w : Nat → Int32) (k : Nat) : Nat → Int32 := m_a3 (m_a2 w k) k
theorem q_a3 {K : ab_F → ab_F → Prop} {I A : ab_F} {k f : Nat} (hk : k < 48) (hf : f < 16) (e : A 1 (128 + k) = nI f) (h : K I (wrow A 1 (m_a3 (A 1) k))) : wjX12_access_103 K (nI k) I A := by
  refine ixa (by omega) (ixv e (by omega) ?_)
  refine q_shift ?_
  unfold m_a3 at h
  rw [e, nn_nI (by omega)] at h
  simp only [wr_w, wrow_wrow, wrow_at]
  exact h
theorem q_load {K : ab_F → ab_F → Prop} {I A : ab_F} {k f : Nat} (z : Sz (A 1)) (hk : k < 48) (hf : m_ff (A 1) = some f) (h : K I (wrow A 1 (m_a3 (m_load (A 1) k f) k))) : wjX12_access_60 K (nI k) I A := by
  have hf8 := m_ff_lt z f hf
  refine q_freeFrame z ?_
  rw [hf]
  refine ixa (by omega) (ixa (by omega) (ixa (by omega) ?_))
  simp only [oI, wr_w, wrow_wrow, wrow_at]
  have e5 : uw (uw (A 1) (320 + f) (nI k)) (128 + k) (nI f) 5 = A 1 5 := by rw [uw_ne (by omega), uw_ne (by omega)]
  rw [e5]
  refine q_a3 (f := f) hk hf8 ?_ ?_
  · rw [wrow_at, uw_ne (by omega), uw_at]
  · rw [wrow_at, wrow_wrow]; exact h
