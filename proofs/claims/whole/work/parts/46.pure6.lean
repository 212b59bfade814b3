theorem Iv_mk {B : Nat} {w : Nat → Int32} (x : Iv B w) (hs : m_ff w = none → w (176 + nn (w (320 + (m_vf w).getD 0))) = nI 1 → ∃ s, m_nf w = some s) : Iv B (m_mk w) ∧ (∃ f, m_ff (m_mk w) = some f) ∧ Sm w (m_mk w) ∧ (∀ j, j < 48 → w (128 + j) = -1 → m_mk w (128 + j) = -1) ∧ m_mk w 5 = w 5 ∧ m_mk w 6 = w 6 := by
  unfold m_mk
  cases h : m_ff w with
  | some f => exact ⟨x, ⟨f, h⟩, ⟨rfl, rfl, rfl, fun _ _ => rfl⟩, fun j _ e => e, rfl, rfl⟩
  | none =>
    obtain ⟨g, hg, hg2⟩ := m_vf_some x.1
    obtain ⟨o, a, b, c, d⟩ := Fr_all x.1 x.2.1 h g hg2
    have hF := x.1.1.2
    have eo : nn (w (320 + (m_vf w).getD 0)) = o := by rw [hg, Option.getD_some, b, nn_nI (by omega)]
    have hs2 := hs h
    rw [eo] at hs2
    simp only [eo]
    have he := Iv_ev x a hg2 c hs2
    refine ⟨he.1, ?_, he.2.2.1, fun j hj e => ?_, he.2.2.2.2.1, he.2.2.2.2.2⟩
    · cases h2 : m_ff (m_ev w o) with
      | some f => exact ⟨f, rfl⟩
      | none =>
        have h3 := fi_none.mp h2 g (by rw [he.2.2.1.F]; exact hg2)
        exact absurd he.2.1 (of_decide_eq_false h3)
    · by_cases hjo : j = o
      · subst hjo; rw [c] at e; exact absurd e (nI_m1 (by omega))
      · rw [he.2.2.2.1 j hj hjo]; exact e
/-- the two counters of an access with a fault -/
def m_a0 (w : Nat → Int32) : Nat → Int32 := uw (m_a1 w) 6 (w 6 + nI 1)
theorem m_a0_ne {w : Nat → Int32} {i : Nat} (h5 : i ≠ 5) (h6 : i ≠ 6) : m_a0 w i = w i := by unfold m_a0 m_a1; rw [uw_ne h6, uw_ne h5]
theorem Iv_a0 {B : Nat} {w : Nat → Int32} (x : Iv B w) : Iv (B + 1) (m_a0 w) := by
  refine Iv_c x (by omega) (fun i h5 h6 _ _ _ => m_a0_ne h5 h6) ?_
  obtain ⟨⟨e, a, b⟩, ⟨a1, f, c1, c2, c3, c4⟩, ⟨c, d1, d2, d3⟩⟩ := x.2.2.2.2.2.2.2.2.2.1
  refine ⟨⟨e, by omega, by rw [m_a0_ne (by omega) (by omega)]; exact b⟩, ⟨a1 + 1, f + 1, by omega, by omega, ?_, ?_⟩, ⟨c, by omega, by rw [m_a0_ne (by omega) (by omega)]; exact d2, by rw [m_a0_ne (by omega) (by omega)]; exact d3⟩⟩
  · unfold m_a0 m_a1; rw [uw_ne (by omega), uw_at, c3]; exact nI_add a1 1
  · unfold m_a0 m_a1; rw [uw_at, c4]; exact nI_add f 1
theorem Iv_a1 {B : Nat} {w : Nat → Int32} (x : Iv B w) : Iv (B + 1) (m_a1 w) := by
  have ne : ∀ i, i ≠ 5 → m_a1 w i = w i := fun i h => by unfold m_a1; rw [uw_ne h]
  refine Iv_c x (by omega) (fun i h5 h6 _ _ _ => ne i h5) ?_
  obtain ⟨⟨e, a, b⟩, ⟨a1, f, c1, c2, c3, c4⟩, ⟨c, d1, d2, d3⟩⟩ := x.2.2.2.2.2.2.2.2.2.1
  refine ⟨⟨e, by omega, by rw [ne _ (by omega)]; exact b⟩, ⟨a1 + 1, f, by omega, by omega, ?_, by rw [ne _ (by omega)]; exact c4⟩, ⟨c, by omega, by rw [ne _ (by omega)]; exact d2, by rw [ne _ (by omega)]; exact d3⟩⟩
  unfold m_a1; rw [uw_at, c3]; exact nI_add a1 1
theorem a0_ff {w : Nat → Int32} (z : Sz w) : m_ff (m_a0 w) = m_ff w := m_ff_eq z ⟨m_a0_ne (by omega) (by omega), m_a0_ne (by omega) (by omega), m_a0_ne (by omega) (by omega), fun p hp => m_a0_ne (by omega) (by omega)⟩ (fun f hf => m_a0_ne (by omega) (by omega))
theorem a0_nf {w : Nat → Int32} (z : Sz w) : m_nf (m_a0 w) = m_nf w := m_nf_eq z ⟨m_a0_ne (by omega) (by omega), m_a0_ne (by omega) (by omega), m_a0_ne (by omega) (by omega), fun p hp => m_a0_ne (by omega) (by omega)⟩ (fun f hf => m_a0_ne (by omega) (by omega)) (fun f hf => m_a0_ne (by omega) (by omega)) (fun f hf => m_a0_ne (by omega) (by omega)) (m_a0_ne (by omega) (by omega)) (fun f hf => m_a0_ne (by omega) (by omega)) (fun f hf => m_a0_ne (by omega) (by omega))
theorem a0_vf {w : Nat → Int32} (z : Sz w) : m_vf (m_a0 w) = m_vf w := m_vf_eq z ⟨m_a0_ne (by omega) (by omega), m_a0_ne (by omega) (by omega), m_a0_ne (by omega) (by omega), fun p hp => m_a0_ne (by omega) (by omega)⟩ (m_a0_ne (by omega) (by omega)) (fun f hf => m_a0_ne (by omega) (by omega)) (fun f hf => m_a0_ne (by omega) (by omega)) (fun f hf => by unfold m_od; rw [m_a0_ne (by omega) (by omega), m_a0_ne (by omega) (by omega)])
theorem stk_nf {w : Nat → Int32} {k : Nat} {b : Bool} (hn : w (128 + k) = -1) (h : m_stk w k b = false) : m_ff w = none → w (176 + nn (w (320 + (m_vf w).getD 0))) = nI 1 → ∃ s, m_nf w = some s := by
  intro h1 h2
  unfold m_stk at h
  rw [if_pos hn, h1, decide_eq_true h2] at h
  cases h3 : m_nf w with
  | some s => exact ⟨s, rfl⟩
  | none => rw [h3] at h; cases h
/-- what an access needs and what it gives -/
theorem Iv_a2 {B : Nat} {w : Nat → Int32} {k : Nat} {b : Bool} (x : Iv B w) (hk : k < 48) (ht : m_th w k = true) (h : m_stk w k b = false) : ∃ f, f < 16 ∧ Iv (B + 1) (m_a2 w k) ∧ m_a2 w k (128 + k) = nI f := by
  unfold m_a2
  by_cases hn : w (128 + k) = -1
  · rw [if_pos hn]
    have sm0 : Sm w (m_a0 w) := ⟨m_a0_ne (by omega) (by omega), m_a0_ne (by omega) (by omega), m_a0_ne (by omega) (by omega), fun p hp => m_a0_ne (by omega) (by omega)⟩
    have hm := Iv_mk (Iv_a0 x) (by
      rw [a0_ff x.1, a0_vf x.1, a0_nf x.1, m_a0_ne (by omega) (by omega), m_a0_ne (by omega) (by omega)]
      exact stk_nf hn h)
    obtain ⟨f, hf⟩ := hm.2.1
    have hl := Iv_load hm.1 hk (by rw [hm.2.2.1.th hk, sm0.th hk]; exact ht) (hm.2.2.2.1 k hk (by rw [m_a0_ne (by omega) (by omega)]; exact hn)) hf
    have hf8 := m_ff_lt hm.1.1 f hf
    refine ⟨f, hf8, ?_⟩
    show Iv (B + 1) (m_load (m_mk (m_a0 w)) k ((m_ff (m_mk (m_a0 w))).getD 0)) ∧ m_load (m_mk (m_a0 w)) k ((m_ff (m_mk (m_a0 w))).getD 0) (128 + k) = nI f
    rw [hf, Option.getD_some]
    exact hl
  · rw [if_neg hn]
    obtain ⟨f, a, b, c⟩ := Fr_get x.2.1 hk hn
    have hF := x.1.1.2
    refine ⟨f, by omega, Iv_a1 x, ?_⟩
    unfold m_a1; rw [uw_ne (by omega)]; exact b
theorem Iv_acc {B : Nat} {w : Nat → Int32} {k : Nat} {b : Bool} (x : Iv B w) (hk : k < 48) (ht : m_th w k = true) (h : m_stk w k b = false) : ∃ f, f < 16 ∧ Iv (B + 1) (m_acc w k) ∧ m_acc w k (128 + k) = nI f := by
  obtain ⟨f, hf, h1, h2⟩ := Iv_a2 x hk ht h
  have := Iv_a3 h1 hk h2 hf
  exact ⟨f, hf, this.1, this.2⟩
theorem q_access {K : ab_F → ab_F → Prop} {I A : ab_F} {B k : Nat} {b : Bool} (x : Iv B (A 1)) (hk : k < 48) (ht : m_th (A 1) k = true) (hs : m_stk (A 1) k b = false) (h : K I (wrow A 1 (m_acc (A 1) k))) : wX12_access K I A (nI k) := by
  refine ixa (by omega) ?_
  have e1 : wr A 1 5 (A 1 5 + nI 1) 1 (128 + k) = A 1 (128 + k) := wr_nei (by omega)
  rw [e1]
  unfold m_acc at h
  by_cases hn : A 1 (128 + k) = -1
  · refine rb_t hn ?_
    have eA : wr (wr A 1 5 (A 1 5 + nI 1)) 1 6 (A 1 6 + nI 1) = wrow A 1 (m_a0 (A 1)) := by
      simp only [wr_w, wrow_wrow, wrow_at]; rfl
    rw [eA]
    have x0 := Iv_a0 x
    have hs2 := stk_nf hn hs
    have hm := Iv_mk x0 (by
      rw [a0_ff x.1, a0_vf x.1, a0_nf x.1, m_a0_ne (by omega) (by omega), m_a0_ne (by omega) (by omega)]
      exact hs2)
    have hfin : ∀ (A' : ab_F), A' = wrow A 1 (m_mk (m_a0 (A 1))) → wjX12_access_60 K (nI k) I A' := by
      intro A' eA'
      obtain ⟨f, hf⟩ := hm.2.1
      subst eA'
      refine q_load (f := f) (by rw [wrow_at]; exact hm.1.1) hk (by rw [wrow_at]; exact hf) ?_
      rw [wrow_at, wrow_wrow]
      have e2 : m_a2 (A 1) k = m_load (m_mk (m_a0 (A 1))) k f := by
        unfold m_a2
        rw [if_pos hn]
        show m_load (m_mk (m_a0 (A 1))) k ((m_ff (m_mk (m_a0 (A 1)))).getD 0) = _
        rw [hf, Option.getD_some]
      rw [e2] at h
      exact h
    refine q_freeFrame (by rw [wrow_at]; exact x0.1) ?_
    rw [wrow_at]
    cases hff : m_ff (m_a0 (A 1)) with
    | some f =>
      refine rb_f (nI_m1 (by have := m_ff_lt x0.1 f hff; omega)) (hfin _ ?_)
      unfold m_mk; rw [hff]
    | none =>
      refine rb_t rfl ?_
      have hF := x0.1.1.2
      refine q_victimFrame (by rw [wrow_at]; exact x0.1) (by
        rw [wrow_at]
        intro f hf
        obtain ⟨o, a, b, -⟩ := Fr_all x0.1 x0.2.1 hff f hf
        exact ⟨o, a, b⟩) ?_
      rw [wrow_at]
      obtain ⟨g, hg, hg2⟩ := m_vf_some x0.1
      obtain ⟨o, a, b, c, d⟩ := Fr_all x0.1 x0.2.1 hff g hg2
      rw [hg]
      refine ixa (by omega) ?_
      rw [b]
      have hs3 : m_a0 (A 1) (176 + o) = nI 1 → ∃ s, m_nf (m_a0 (A 1)) = some s := by
        intro h3
        rw [a0_nf x.1]
        refine hs2 (by rw [← a0_ff x.1]; exact hff) ?_
        rw [← a0_vf x.1, hg, Option.getD_some, ← m_a0_ne (w := A 1) (i := 320 + g) (by omega) (by omega), b, nn_nI (by omega), ← m_a0_ne (w := A 1) (i := 176 + o) (by omega) (by omega)]
        exact h3
      refine q_evict (f := g) (by rw [wrow_at]; exact x0.1) a (by omega) (by rw [wrow_at]; exact c) (by rw [wrow_at]; exact hs3) ?_
      rw [wrow_at, wrow_wrow]
      refine hfin _ ?_
      unfold m_mk
      rw [hff]
      simp only [hg, Option.getD_some, b, nn_nI (show o < 2 ^ 31 by omega)]
  · refine rb_f hn ?_
    obtain ⟨f, a, b, c⟩ := Fr_get x.2.1 hk hn
    have hF := x.1.1.2
    have eA : wr A 1 5 (A 1 5 + nI 1) = wrow A 1 (m_a1 (A 1)) := wr_w A 1 5 _
    rw [eA]
    refine q_a3 (f := f) hk (by omega) (by rw [wrow_at]; unfold m_a1; rw [uw_ne (by omega)]; exact b) ?_
    rw [wrow_at, wrow_wrow]
    unfold m_a2 at h
    rw [if_neg hn] at h
    exact h
/-- NaN's bits -/
def m_nan (v : Int32) : Bool := decide ((v >>> (nI 23 &&& 31)) &&& nI 255 = nI 255) && !decide (v &&& nI 8388607 = 0)
theorem q_isNan {K : Int32 → ab_F → ab_F → Prop} {I A : ab_F} {v : Int32} (h : K (bI (m_nan v)) I A) : wX12_isNan K I A v := by
  unfold wX12_isNan
  unfold m_nan at h
  by_cases h1 : (v >>> (nI 23 &&& 31)) &&& nI 255 = nI 255
  · rw [decide_eq_true h1, Bool.true_and] at h
    refine rb_t h1 ?_
    by_cases h2 : v &&& nI 8388607 = 0
    · rw [decide_eq_true h2] at h; exact br_t h2 h
    · rw [decide_eq_false h2] at h; exact br_f h2 h
  · rw [decide_eq_false h1, Bool.false_and] at h
    exact rb_f h1 h
def m_val (w : Nat → Int32) (k : Nat) (v : Int32) : Int32 := if w (14 + k / 8) = nI 1 ∧ m_nan v = true then nI 2143289344 else v
def m_st (w : Nat → Int32) (k : Nat) (v : Int32) : Nat → Int32 := uw (uw (uw w (32 + k) (m_val w k v)) (80 + k) (-1)) (176 + k) (nI 1)
def m_w0 (w : Nat → Int32) (k : Nat) : Nat → Int32 := if m_pd w k = true then (match m_nf w with | some s => m_put w k s | none => w) else w
def m_wri (w : Nat → Int32) (k : Nat) (v : Int32) : Nat → Int32 := m_st (m_acc (m_w0 w k) k) k v
/-- after a page that was to be written got its slot, its access needs none -/
theorem w0_ok {B : Nat} {w : Nat → Int32} {k : Nat} (x : Iv B w) (hk : k < 48) (ht : m_th w k = true) (h : m_stk w k true = false) : Iv B (m_w0 w k) ∧ m_th (m_w0 w k) k = true ∧ m_stk (m_w0 w k) k false = false ∧ (m_pd w k = true → ∃ s, m_nf w = some s) := by
  unfold m_w0
  by_cases hp : m_pd w k = true
  · rw [if_pos hp]
    have hb : m_has (w 10) (k / 8) = true ∧ w (224 + k) = -2 := by
      unfold m_pd at hp
      have := Bool.and_eq_true_iff.mp hp
      exact ⟨this.1, of_decide_eq_true this.2⟩
    have hd : w (176 + k) = nI 1 := by
      rcases x.2.2.2.2.2.1 k hk hb.1 with a | ⟨a, b⟩ | ⟨s, a, b, c⟩
      · rw [hb.2] at a; exact absurd a (by decide)
      · exact b
      · rw [hb.2] at b; have := x.1.2.1.2; exact absurd b.symm (nI_m2 (by omega))
    have hr : w (128 + k) ≠ -1 := by
      rcases x.2.2.1 k hk with a | ⟨a, b, c⟩
      · rw [hd] at a; exact absurd a (by decide)
      · exact b
    have hs : ∃ s, m_nf w = some s := by
      unfold m_stk at h
      rw [if_neg hr, hp] at h
      cases h3 : m_nf w with
      | some s => exact ⟨s, rfl⟩
      | none => rw [h3] at h; cases h
    obtain ⟨s, hs⟩ := hs
    have hs8 := m_nf_lt x.1 s hs
    rw [hs]
    refine ⟨Iv_put x hk ht (ls_lt hs).1, by rw [Sm_put.th hk]; exact ht, ?_, fun _ => ⟨s, rfl⟩⟩
    unfold m_stk
    simp only
    rw [if_neg (by rw [m_put_ne (by omega) (by omega) (by omega) (by omega) (by omega) (by omega) (by omega) (by omega)]; exact hr)]
    rfl
  · rw [if_neg hp]
    refine ⟨x, ht, ?_, fun e => absurd e hp⟩
    unfold m_stk at h ⊢
    split
    · rename_i h1; rw [if_pos h1] at h; exact h
    · rfl
theorem q_st {K : ab_F → ab_F → Prop} {I A : ab_F} {k : Nat} {v : Int32} (hk : k < 48) (h : K I (wrow A 1 (m_st (A 1) k v))) : (∃ j : Nat, nI 14 + nI k / nI 8 = nI j ∧ j < 608 ∧ ((¬ (A 1 j) = (nI 1) → wjX12_write_54 K (nI k) v (nI 32 + nI k) I A) ∧ ((A 1 j) = (nI 1) → wX12_isNan (fun r I1 A1 => ((r = 0 → wjX12_write_54 K (nI k) v (nI 32 + nI k) I1 A1) ∧ (¬ r = 0 → wjX12_write_55 K (nI k) (nI 2143289344) (nI 32 + nI k) I1 A1))) I A v))) := by
  rw [pk_div (by omega) (by omega) (by omega)]
  refine ixa (by omega) ?_
  have hst : ∀ u : Int32, u = m_val (A 1) k v → wjX12_write_55 K (nI k) u (nI 32 + nI k) I A := by
    intro u hu
    refine ixa (by omega) (ixa (by omega) (ixa (by omega) ?_))
    simp only [wr_w, wrow_wrow, wrow_at]
    rw [hu]; exact h
  by_cases h1 : A 1 (14 + k / 8) = nI 1
  · refine rb_t h1 (q_isNan (bb (fun e => hst _ ?_) (fun e => hst _ ?_)))
    · unfold m_val; rw [if_neg (by rw [e]; exact fun q => nomatch q.2)]
    · unfold m_val; rw [if_pos ⟨h1, e⟩]
  · refine rb_f h1 (hst _ ?_)
    unfold m_val; rw [if_neg (fun q => h1 q.1)]
theorem q_write {K : ab_F → ab_F → Prop} {I A : ab_F} {B k : Nat} {v : Int32} (x : Iv B (A 1)) (hk : k < 48) (ht : m_th (A 1) k = true) (hs : m_stk (A 1) k true = false) (h : K I (wrow A 1 (m_wri (A 1) k v))) : wX12_write K I A (nI k) v := by
  have h0 := w0_ok x hk ht hs
  have hfin : ∀ A' : ab_F, A' = wrow A 1 (m_w0 (A 1) k) → wjX12_write_13 K (nI k) v I A' := by
    intro A' eA'
    subst eA'
    refine q_access (B := B) (b := false) (by rw [wrow_at]; exact h0.1) hk (by rw [wrow_at]; exact h0.2.1) (by rw [wrow_at]; exact h0.2.2.1) ?_
    refine q_st hk ?_
    simp only [wrow_at, wrow_wrow]
    exact h
  refine q_isPending hk (bb (fun e => hfin _ ?_) (fun e => ?_))
  · unfold m_w0; rw [if_neg (by rw [e]; decide), wrow_id]
  · obtain ⟨s, hs⟩ := h0.2.2.2 e
    refine q_take x.1 hk hs (hfin _ ?_)
    unfold m_w0; rw [if_pos e, hs]
