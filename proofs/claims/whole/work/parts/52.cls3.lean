/-! the class's victims and refusals -/
theorem c_earl {K : Int32 → ab_F → ab_F → Prop} {I A : ab_F} {w : Nat → Int32} {c : Bool} (r : Rs 8 I A w) (z : Sz w) (ho : c = true → ∀ f, f < m_F w → ∃ k, k < 48 ∧ w (320 + f) = nI k) (h : K (oI (m_lb w 336 c)) I A) : wjX8_earliest_28 K (bI c) I A := by
  have hF := z.1.2
  have e0 : I 16 0 = nI (m_F w) := r.1.2.1.1.trans z.1.1
  have eo : ∀ f, f < 16 → A 17 f = w (320 + f) := fun f hf => (r.1.2.1.2.2 f hf).1
  have et : ∀ f, f < 16 → A 18 f = w (336 + f) := fun f hf => (r.1.2.1.2.2 f hf).2.1
  unfold m_lb at h
  generalize hlt : (fun f b => decide (w (336 + f) < w (336 + b))) = lt at h
  generalize hp : (fun f => !(c && m_od w f)) = p at h
  refine lp (W := fun n i => wlX8_earliest_34 K n (bI c) (oI (ls lt p i)) (nI i) I A) (e := m_F w) (fun n => ?_) (fun n i hi hw => ?_)
  · exact br_t (by rw [e0]; exact nI_le (Nat.le_refl _) (by omega)) h
  · refine br_f (by rw [e0]; exact nI_ge hi (by omega)) ?_
    rw [ls] at hw
    have hy : p i = true → wjX8_earliest_70 K (wlX8_earliest_34 K n) (bI c) (oI (ls lt p i)) (nI i) I A := by
      intro e
      rw [e] at hw
      refine br_f (by decide) ?_
      rw [nI_add i 1]
      cases ho : ls lt p i with
      | none => rw [ho] at hw; exact br_t rfl hw
      | some b =>
        rw [ho] at hw
        have hb := (ls_lt ho).1
        refine br_f (nI_m1 (by omega)) (ix0 (by omega) (ix0 (by omega) ?_))
        rw [et i (by omega), et b (by omega)]
        have e3 : lt i b = decide (w (336 + i) < w (336 + b)) := by rw [← hlt]
        by_cases h3 : w (336 + b) ≤ w (336 + i)
        · refine br_t h3 ?_
          rw [decide_eq_false (fun q => by rw [Int32.lt_iff_toInt_lt] at q; rw [Int32.le_iff_toInt_le] at h3; omega)] at e3
          simp only [e3, Bool.false_eq_true, and_false, if_false] at hw
          exact hw
        · refine br_f h3 ?_
          rw [decide_eq_true (by rw [Int32.lt_iff_toInt_lt]; rw [Int32.le_iff_toInt_le] at h3; omega)] at e3
          simp only [e3, and_self, if_true] at hw
          exact hw
    have e4 : p i = !(c && m_od w i) := by rw [← hp]
    refine bb (fun e => ?_) (fun e => ?_)
    · rw [e] at e4
      exact hy (by rw [e4]; rfl)
    · obtain ⟨k, hk, ek⟩ := ho e i hi
      refine ix0 (by omega) ?_
      rw [eo i (by omega), ek]
      have e5 : m_od w i = decide (w (176 + k) = nI 1) := by unfold m_od; rw [ek, nn_nI (by omega)]
      rw [e, Bool.true_and, e5] at e4
      refine c_isDirty r hk (bb' (fun q => hy ?_) (fun q => ?_))
      · rw [q] at e4; exact e4
      · rw [q] at e4
        refine br_t (by decide) ?_
        rw [nI_add i 1]
        cases ho : ls lt p i with
        | none => rw [ho, e4] at hw; exact hw
        | some b => rw [ho, e4] at hw; simp only [Bool.not_true, Bool.false_eq_true, false_and, if_false] at hw; exact hw
theorem c_earl_2 {K : Int32 → ab_F → ab_F → Prop} {I A : ab_F} {w : Nat → Int32} {c : Bool} (r : Rs 8 I A w) (z : Sz w) (ho : c = true → ∀ f, f < m_F w → ∃ k, k < 48 ∧ w (320 + f) = nI k) (h : K (oI (m_lb w 352 c)) I A) : wjX8_earliest_28_2 K (bI c) I A := by
  have hF := z.1.2
  have e0 : I 16 0 = nI (m_F w) := r.1.2.1.1.trans z.1.1
  have eo : ∀ f, f < 16 → A 17 f = w (320 + f) := fun f hf => (r.1.2.1.2.2 f hf).1
  have et : ∀ f, f < 16 → A 19 f = w (352 + f) := fun f hf => (r.1.2.1.2.2 f hf).2.2
  unfold m_lb at h
  generalize hlt : (fun f b => decide (w (352 + f) < w (352 + b))) = lt at h
  generalize hp : (fun f => !(c && m_od w f)) = p at h
  refine lp (W := fun n i => wlX8_earliest_34_2 K n (bI c) (oI (ls lt p i)) (nI i) I A) (e := m_F w) (fun n => ?_) (fun n i hi hw => ?_)
  · exact br_t (by rw [e0]; exact nI_le (Nat.le_refl _) (by omega)) h
  · refine br_f (by rw [e0]; exact nI_ge hi (by omega)) ?_
    rw [ls] at hw
    have hy : p i = true → wjX8_earliest_70_2 K (wlX8_earliest_34_2 K n) (bI c) (oI (ls lt p i)) (nI i) I A := by
      intro e
      rw [e] at hw
      refine br_f (by decide) ?_
      rw [nI_add i 1]
      cases ho : ls lt p i with
      | none => rw [ho] at hw; exact br_t rfl hw
      | some b =>
        rw [ho] at hw
        have hb := (ls_lt ho).1
        refine br_f (nI_m1 (by omega)) (ix0 (by omega) (ix0 (by omega) ?_))
        rw [et i (by omega), et b (by omega)]
        have e3 : lt i b = decide (w (352 + i) < w (352 + b)) := by rw [← hlt]
        by_cases h3 : w (352 + b) ≤ w (352 + i)
        · refine br_t h3 ?_
          rw [decide_eq_false (fun q => by rw [Int32.lt_iff_toInt_lt] at q; rw [Int32.le_iff_toInt_le] at h3; omega)] at e3
          simp only [e3, Bool.false_eq_true, and_false, if_false] at hw
          exact hw
        · refine br_f h3 ?_
          rw [decide_eq_true (by rw [Int32.lt_iff_toInt_lt]; rw [Int32.le_iff_toInt_le] at h3; omega)] at e3
          simp only [e3, and_self, if_true] at hw
          exact hw
    have e4 : p i = !(c && m_od w i) := by rw [← hp]
    refine bb (fun e => ?_) (fun e => ?_)
    · rw [e] at e4
      exact hy (by rw [e4]; rfl)
    · obtain ⟨k, hk, ek⟩ := ho e i hi
      refine ix0 (by omega) ?_
      rw [eo i (by omega), ek]
      have e5 : m_od w i = decide (w (176 + k) = nI 1) := by unfold m_od; rw [ek, nn_nI (by omega)]
      rw [e, Bool.true_and, e5] at e4
      refine c_isDirty r hk (bb' (fun q => hy ?_) (fun q => ?_))
      · rw [q] at e4; exact e4
      · rw [q] at e4
        refine br_t (by decide) ?_
        rw [nI_add i 1]
        cases ho : ls lt p i with
        | none => rw [ho, e4] at hw; exact hw
        | some b => rw [ho, e4] at hw; simp only [Bool.not_true, Bool.false_eq_true, false_and, if_false] at hw; exact hw
theorem c_nextVictim {K : Int32 → ab_F → ab_F → Prop} {I A : ab_F} {w : Nat → Int32} (r : Rs 8 I A w) (z : Sz w) (fr : Fr w) (h0 : m_ff w = none → K (oI (m_vf w)) I A) (h1 : ∀ f, m_ff w = some f → K (-1) I A) : wX8_nextVictim K I A := by
  have hF := z.1.2
  have e1 : I 16 1 = w 2 := r.1.2.1.2.1
  refine c_firstFree r z ?_
  cases hff : m_ff w with
  | some f => exact br_f (nI_m1 (by have := m_ff_lt z f hff; omega)) (h1 f hff)
  | none =>
    have h := h0 hff
    have ho : ∀ f, f < m_F w → ∃ k, k < 48 ∧ w (320 + f) = nI k := fun f hf => by
      obtain ⟨k, a, b, -⟩ := Fr_all z fr hff f hf
      exact ⟨k, a, b⟩
    refine br_t rfl ?_
    rw [e1]
    unfold m_vf at h
    have hlast : ∀ t : Option Nat, (if w 2 = nI 1 then m_lb w 352 false else m_lb w 336 false) = t → K (oI t) I A → wX8_earliest (fun r_6 I_4 A_5 => K r_6 I_4 A_5) I A (nI 0) := by
      intro t ht hk
      unfold wX8_earliest
      rw [e1]
      by_cases h2 : w 2 = nI 1
      · rw [if_pos h2] at ht
        exact rb_t h2 (c_earl_2 (c := false) r z (fun e => nomatch e) (by rw [ht]; exact hk))
      · rw [if_neg h2] at ht
        exact rb_f h2 (c_earl (c := false) r z (fun e => nomatch e) (by rw [ht]; exact hk))
    by_cases h2 : w 2 = nI 2
    · have h21 : ¬ w 2 = nI 1 := by rw [h2]; decide
      rw [if_neg h21, if_pos h2] at h
      refine rb_t h2 ?_
      unfold wX8_earliest
      rw [e1]
      refine rb_f h21 (c_earl (c := true) r z (fun _ => ho) ?_)
      cases e : m_lb w 336 true with
      | some f =>
        rw [e] at h
        exact rb_f (nI_m1 (by have := m_lb_lt f e; omega)) h
      | none =>
        rw [e] at h
        exact rb_t rfl (hlast _ (by rw [if_neg h21]) h)
    · refine rb_f h2 (rb_t rfl ?_)
      by_cases h3 : w 2 = nI 1
      · rw [if_pos h3] at h; exact hlast _ (by rw [if_pos h3]) h
      · rw [if_neg h3, if_neg h2] at h; exact hlast _ (by rw [if_neg h3]) h
theorem k31 {K : ab_F → Prop} {A : ab_F} (h : ∀ u, K (wrow A 31 u)) : K A := by have := h (A 31); rw [wrow_id] at this; exact this
/-- an access to an absent page that needs a slot -/
def m_lk (w : Nat → Int32) (k : Nat) : Bool := decide (w (128 + k) = -1) && ((m_ff w).isNone && (decide (w (176 + nn (w (320 + (m_vf w).getD 0))) = nI 1) && (m_nf w).isNone))
theorem c_lacksSlot {K : Int32 → ab_F → ab_F → Prop} {I A : ab_F} {B : Nat} {w : Nat → Int32} {k : Nat} (r : Rs 8 I A w) (x : Iv B w) (hk : k < 48) (h : ∀ u, K (bI (m_lk w k)) I (wrow A 31 u)) : wX8_lacksSlot K I A (nI k) := by
  have hF := x.1.1.2
  have e14 : A 14 k = w (128 + k) := (r.1.1.2.2 k hk).2.1
  have eo : ∀ f, f < 16 → A 17 f = w (320 + f) := fun f hf => (r.1.2.1.2.2 f hf).1
  refine ix0 hk ?_
  rw [e14]
  unfold m_lk at h
  by_cases h1 : w (128 + k) = -1
  · rw [decide_eq_true h1, Bool.true_and] at h
    refine rb_t h1 (c_nextVictim r x.1 x.2.1 (fun hn => ?_) (fun f hf => ?_))
    · rw [hn, show (none : Option Nat).isNone = true from rfl, Bool.true_and] at h
      obtain ⟨f, hf, hf2⟩ := m_vf_some x.1
      obtain ⟨o, a, b, -⟩ := Fr_all x.1 x.2.1 hn f hf2
      rw [hf] at h ⊢
      rw [Option.getD_some, b, nn_nI (by omega)] at h
      refine br_f (nI_m1 (by omega)) (ix0 (by omega) ?_)
      rw [eo f (by omega), b]
      refine c_isDirty r a (bb (fun e => ?_) (fun e => ?_))
      · rw [e, Bool.false_and] at h; exact k31 h
      · rw [e, Bool.true_and] at h
        refine c_nextFree r x (nfb (fun k hk => by have := m_nf_lt x.1 k hk; omega) (fun e => ?_) (fun e => ?_))
        · rw [e] at h; exact h _
        · rw [e] at h; exact h _
    · rw [hf] at h; exact br_t rfl (k31 h)
  · rw [decide_eq_false h1, Bool.false_and] at h
    exact rb_f h1 (br_t rfl (k31 h))
theorem lk_stk {w : Nat → Int32} {k : Nat} : m_lk w k = m_stk w k false := by
  unfold m_lk m_stk
  by_cases h1 : w (128 + k) = -1
  · rw [decide_eq_true h1, if_pos h1, Bool.true_and]
  · rw [decide_eq_false h1, if_neg h1]; rfl
