/-! uses of slots, free ones, frames -/
def m_u1 (w : Nat → Int32) (s : Int32) (k : Nat) : Bool := m_th w k && decide (w (80 + k) = s)
def m_u2 (w : Nat → Int32) (s : Int32) (k : Nat) : Bool := m_th w k && (!decide (w (26 + k / 8) = -1) && decide (w (272 + k) = s))
def m_u4 (w : Nat → Int32) (s : Int32) (k : Nat) : Bool := m_th w k && (m_has (w 10) (k / 8) && decide (w (224 + k) = s))
def b3 (a b c : Bool) : Nat := (if a = true then 1 else 0) + (if b = true then 2 else 0) + (if c = true then 4 else 0)
theorem b3_1 (a b c : Bool) : (nI (b3 a b c)) ||| nI 1 = nI (b3 true b c) := by cases a <;> cases b <;> cases c <;> decide
theorem b3_2 (a b c : Bool) : (nI (b3 a b c)) ||| nI 2 = nI (b3 a true c) := by cases a <;> cases b <;> cases c <;> decide
theorem b3_4 (a b c : Bool) : (nI (b3 a b c)) ||| nI 4 = nI (b3 a b true) := by cases a <;> cases b <;> cases c <;> decide
theorem b3_lt (a b c : Bool) : b3 a b c < 8 := by cases a <;> cases b <;> cases c <;> decide
/-- the use of a slot -/
def m_use (w : Nat → Int32) (s : Int32) : Nat := b3 (ex (m_u1 w s) 48) (ex (m_u2 w s) 48) (ex (m_u4 w s) 48)
theorem m_use_lt (w : Nat → Int32) (s : Int32) : m_use w s < 8 := b3_lt _ _ _
theorem q_useOf {K : Int32 → ab_F → ab_F → Prop} {I A : ab_F} {s : Int32} (z : Sz (A 1)) (h : K (nI (m_use (A 1) s)) I A) : wX12_useOf K I A s := by
  refine lp (W := fun n i => wlX12_useOf_4 K n s (nI (b3 (ex (m_u1 (A 1) s) i) (ex (m_u2 (A 1) s) i) (ex (m_u4 (A 1) s) i))) (nI i) I A) (e := 48) (fun n => ?_) (fun n i hi hw => ?_)
  · exact br_t (nI_le (Nat.le_refl _) (by omega)) h
  · refine br_f (nI_ge hi (by omega)) (q_isThere z hi ?_)
    rw [ex, ex, ex] at hw
    generalize ex (m_u1 (A 1) s) i = a at hw ⊢
    generalize ex (m_u2 (A 1) s) i = b at hw ⊢
    generalize ex (m_u4 (A 1) s) i = c at hw ⊢
    refine bb' (fun e => ?_) (fun e => ?_)
    · unfold m_u1 m_u2 m_u4 at hw
      rw [e] at hw
      simp only [Bool.false_and, Bool.or_false] at hw
      rw [nI_add i 1]; exact hw
    · refine nm_r (pk_div (by omega) (by omega) (by omega)) (ixa (by omega) ?_)
      unfold m_u1 m_u2 m_u4 at hw
      rw [e] at hw
      simp only [Bool.true_and] at hw
      have s4 : ∀ a' b' : Bool, wlX12_useOf_4 K n s (nI (b3 a' b' (c || (m_has (A 1 10) (i / 8) && decide (A 1 (224 + i) = s))))) (nI (i + 1)) I A → wjX12_useOf_76 K (wlX12_useOf_4 K n) s (nI (b3 a' b' c)) (nI i) (nI (i / 8)) I A := by
        intro a' b' hw
        refine q_has (bb (fun e => ?_) (fun e => ?_))
        · rw [e, Bool.false_and, Bool.or_false] at hw
          rw [nI_add i 1]; exact hw
        · rw [e, Bool.true_and] at hw
          refine ixa (by omega) ?_
          by_cases h1 : A 1 (224 + i) = s
          · rw [decide_eq_true h1, Bool.or_true] at hw
            exact rb_t h1 (nm_r (b3_4 a' b' c) (by rw [nI_add i 1]; exact hw))
          · rw [decide_eq_false h1, Bool.or_false] at hw
            exact rb_f h1 (by rw [nI_add i 1]; exact hw)
      have s2 : ∀ a' : Bool, wlX12_useOf_4 K n s (nI (b3 a' (b || (!decide (A 1 (26 + i / 8) = -1) && decide (A 1 (272 + i) = s))) (c || (m_has (A 1 10) (i / 8) && decide (A 1 (224 + i) = s))))) (nI (i + 1)) I A → wjX12_useOf_44 K (wlX12_useOf_4 K n) s (nI (b3 a' b c)) (nI i) (nI (i / 8)) I A := by
        intro a' hw
        refine ixa (by omega) ?_
        by_cases h1 : A 1 (26 + i / 8) = -1
        · rw [decide_eq_true h1, Bool.not_true, Bool.false_and, Bool.or_false] at hw
          exact br_t h1 (s4 _ _ hw)
        · rw [decide_eq_false h1, Bool.not_false, Bool.true_and] at hw
          refine br_f h1 (ixa (by omega) ?_)
          by_cases h2 : A 1 (272 + i) = s
          · rw [decide_eq_true h2, Bool.or_true] at hw
            exact rb_t h2 (nm_r (b3_2 a' b c) (s4 _ _ hw))
          · rw [decide_eq_false h2, Bool.or_false] at hw
            exact rb_f h2 (s4 _ _ hw)
      by_cases h1 : A 1 (80 + i) = s
      · rw [decide_eq_true h1, Bool.or_true] at hw
        exact rb_t h1 (nm_r (b3_1 a b c) (s2 _ hw))
      · rw [decide_eq_false h1, Bool.or_false] at hw
        exact rb_f h1 (s2 _ hw)
/-- slot s is free -/
def m_fr (w : Nat → Int32) (s : Nat) : Bool := decide (m_use w (nI s) = 0)
theorem fr0 {w : Nat → Int32} {s : Nat} {A B : Prop} (hA : m_fr w s = true → A) (hB : m_fr w s = false → B) : (¬ nI (m_use w (nI s)) = 0 → B) ∧ (nI (m_use w (nI s)) = 0 → A) := by
  have h8 := m_use_lt w (nI s)
  by_cases h : m_use w (nI s) = 0
  · rw [h]; exact rb_t rfl (hA (decide_eq_true h))
  · exact rb_f (nI_ne0 (by omega) (by omega)) (hB (decide_eq_false h))
def m_free (w : Nat → Int32) : Nat := cn (m_fr w) (m_S w)
theorem q_freeCount {K : Int32 → ab_F → ab_F → Prop} {I A : ab_F} (z : Sz (A 1)) (h : K (nI (m_free (A 1))) I A) : wX12_freeCount K I A := by
  have hS := z.2.1.2
  refine lp (W := fun n i => wlX12_freeCount_4 K n (nI (cn (m_fr (A 1)) i)) (nI i) I A) (e := m_S (A 1)) (fun n => ?_) (fun n i hi hw => ?_)
  · refine br_t ?_ h
    rw [z.2.1.1]; exact nI_le (Nat.le_refl _) (by omega)
  · refine br_f (by rw [z.2.1.1]; exact nI_ge hi (by omega)) (q_useOf z ?_)
    rw [cn] at hw
    refine fr0 (fun e => ?_) (fun e => ?_)
    · rw [e] at hw
      exact nm_r (nI_add _ 1) (by rw [nI_add i 1]; exact hw)
    · rw [e] at hw
      exact nm_r (nI_add _ 0) (by rw [nI_add i 1]; exact hw)
/-- s is taken ahead of t -/
def m_so (w : Nat → Int32) (s t : Nat) : Bool := decide (w (464 + s) < w (464 + t) ∨ (w (464 + s) = w (464 + t) ∧ s < t))
theorem q_isSooner {K : Int32 → ab_F → ab_F → Prop} {I A : ab_F} {s t : Nat} (hs : s < 48) (ht : t < 48) (h : K (bI (m_so (A 1) s t)) I A) : wX12_isSooner K I A (nI s) (nI t) := by
  refine ixa (by omega) (ixa (by omega) ?_)
  by_cases h1 : A 1 (464 + s) < A 1 (464 + t)
  · refine br_t h1 ?_
    rw [show m_so (A 1) s t = true from decide_eq_true (Or.inl h1)] at h; exact h
  · refine br_f h1 (ixa (by omega) (ixa (by omega) ?_))
    by_cases h2 : A 1 (464 + s) = A 1 (464 + t)
    · refine rb_t h2 ?_
      by_cases h3 : t ≤ s
      · refine br_t (nI_le h3 (by omega)) ?_
        rw [show m_so (A 1) s t = false from decide_eq_false (fun q => q.elim h1 (fun q => by omega))] at h; exact h
      · refine br_f (nI_ge (by omega) (by omega)) ?_
        rw [show m_so (A 1) s t = true from decide_eq_true (Or.inr ⟨h2, by omega⟩)] at h; exact h
    · refine rb_f h2 ?_
      rw [show m_so (A 1) s t = false from decide_eq_false (fun q => q.elim h1 (fun q => h2 q.1))] at h; exact h
/-- the next free slot -/
def m_nf (w : Nat → Int32) : Option Nat := ls (m_so w) (m_fr w) (m_S w)
theorem q_nextFree {K : Int32 → ab_F → ab_F → Prop} {I A : ab_F} (z : Sz (A 1)) (h : K (oI (m_nf (A 1))) I A) : wX12_nextFree K I A := by
  have hS := z.2.1.2
  refine lp (W := fun n i => wlX12_nextFree_4 K n (oI (ls (m_so (A 1)) (m_fr (A 1)) i)) (nI i) I A) (e := m_S (A 1)) (fun n => ?_) (fun n i hi hw => ?_)
  · refine br_t ?_ h
    rw [z.2.1.1]; exact nI_le (Nat.le_refl _) (by omega)
  · refine br_f (by rw [z.2.1.1]; exact nI_ge hi (by omega)) (q_useOf z ?_)
    rw [ls] at hw
    refine fr0 (fun e => ?_) (fun e => ?_)
    · rw [e] at hw
      cases ho : ls (m_so (A 1)) (m_fr (A 1)) i with
      | none =>
        rw [ho] at hw
        exact br_t rfl (by rw [nI_add i 1]; exact hw)
      | some b =>
        rw [ho] at hw
        have hb := (ls_lt ho).1
        refine br_f (nI_m1 (by omega)) (q_isSooner (by omega) (by omega) (bb (fun e2 => ?_) (fun e2 => ?_)))
        · simp only [e2] at hw
          rw [nI_add i 1]; exact hw
        · simp only [e2] at hw
          rw [nI_add i 1]; exact hw
    · rw [e] at hw
      rw [nI_add i 1]
      cases ho : ls (m_so (A 1)) (m_fr (A 1)) i with
      | none => rw [ho] at hw; exact hw
      | some b => rw [ho] at hw; simp only [Bool.false_eq_true, false_and, if_false] at hw; exact hw
/-- the page is still to be written -/
def m_pd (w : Nat → Int32) (k : Nat) : Bool := m_has (w 10) (k / 8) && decide (w (224 + k) = -2)
theorem q_isPending {K : Int32 → ab_F → ab_F → Prop} {I A : ab_F} {k : Nat} (hk : k < 48) (h : K (bI (m_pd (A 1) k)) I A) : wX12_isPending K I A (nI k) := by
  unfold wX12_isPending
  rw [pk_div (by omega) (by omega) (by omega)]
  unfold m_pd at h
  refine q_has (bb (fun e => ?_) (fun e => ?_))
  · rw [e] at h; exact h
  · rw [e, Bool.true_and] at h
    refine ixa (by omega) ?_
    by_cases h1 : A 1 (224 + k) = -2
    · rw [decide_eq_true h1] at h; exact rb_t h1 h
    · rw [decide_eq_false h1] at h; exact rb_f h1 h
/-- the first free frame -/
def m_ff (w : Nat → Int32) : Option Nat := fi (fun f => decide (w (320 + f) = -1)) (m_F w)
theorem q_freeFrame {K : Int32 → ab_F → ab_F → Prop} {I A : ab_F} (z : Sz (A 1)) (h : K (oI (m_ff (A 1))) I A) : wX12_freeFrame K I A := by
  have hF := z.1.2
  refine lp_fi (W := fun n i => wlX12_freeFrame_2 K n (nI i) I A) (p := fun f => decide (A 1 (320 + f) = -1)) (e := m_F (A 1)) (fun n hn => ?_) (fun n i hi hp hn => ?_) (fun n i hi hp hw => ?_)
  · refine br_t (by rw [z.1.1]; exact nI_le (Nat.le_refl _) (by omega)) ?_
    unfold m_ff at h; rw [fi_none.mpr hn] at h; exact h
  · refine br_f (by rw [z.1.1]; exact nI_ge hi (by omega)) (ixa (by omega) (rb_t (of_decide_eq_true hp) ?_))
    unfold m_ff at h; rw [fi_some hi hp hn] at h; exact h
  · refine br_f (by rw [z.1.1]; exact nI_ge hi (by omega)) (ixa (by omega) (rb_f (of_decide_eq_false hp) ?_))
    rw [nI_add i 1]; exact hw
/-- the frame's page is dirty -/
def m_od (w : Nat → Int32) (f : Nat) : Bool := decide (w (176 + nn (w (320 + f))) = nI 1)
def m_lb (w : Nat → Int32) (t : Nat) (c : Bool) : Option Nat := ls (fun f b => decide (w (t + f) < w (t + b))) (fun f => !(c && m_od w f)) (m_F w)
theorem q_leastBy {K : Int32 → ab_F → ab_F → Prop} {I A : ab_F} {t : Nat} {c : Bool} (z : Sz (A 1)) (ht : t + 16 ≤ 608) (ho : c = true → ∀ f, f < m_F (A 1) → ∃ k, k < 48 ∧ A 1 (320 + f) = nI k) (h : K (oI (m_lb (A 1) t c)) I A) : wX12_leastBy K I A (nI t) (bI c) := by
  have hF := z.1.2
  unfold m_lb at h
  generalize hlt : (fun f b => decide (A 1 (t + f) < A 1 (t + b))) = lt at h
  generalize hp : (fun f => !(c && m_od (A 1) f)) = p at h
  refine lp (W := fun n i => wlX12_leastBy_5 K n (nI t) (bI c) (oI (ls lt p i)) (nI i) I A) (e := m_F (A 1)) (fun n => ?_) (fun n i hi hw => ?_)
  · refine br_t ?_ h
    rw [z.1.1]; exact nI_le (Nat.le_refl _) (by omega)
  · refine br_f (by rw [z.1.1]; exact nI_ge hi (by omega)) ?_
    rw [ls] at hw
    have hy : p i = true → wjX12_leastBy_47 K (wlX12_leastBy_5 K n) (nI t) (bI c) (oI (ls lt p i)) (nI i) I A := by
      intro e
      rw [e] at hw
      cases ho : ls lt p i with
      | none =>
        rw [ho] at hw
        exact br_t rfl (by rw [nI_add i 1]; exact hw)
      | some b =>
        rw [ho] at hw
        have hb := (ls_lt ho).1
        refine br_f (nI_m1 (by omega)) (ixa (by omega) (ixa (by omega) ?_))
        have e3 : lt i b = decide (A 1 (t + i) < A 1 (t + b)) := by rw [← hlt]
        by_cases h3 : A 1 (t + b) ≤ A 1 (t + i)
        · refine br_t h3 ?_
          rw [decide_eq_false (fun q => by rw [Int32.lt_iff_toInt_lt] at q; rw [Int32.le_iff_toInt_le] at h3; omega)] at e3
          simp only [e3, Bool.false_eq_true, and_false, if_false] at hw
          rw [nI_add i 1]; exact hw
        · refine br_f h3 ?_
          rw [decide_eq_true (by rw [Int32.lt_iff_toInt_lt]; rw [Int32.le_iff_toInt_le] at h3; omega)] at e3
          simp only [e3, and_self, if_true] at hw
          rw [nI_add i 1]; exact hw
    have e4 : p i = !(c && m_od (A 1) i) := by rw [← hp]
    refine bb (fun e => ?_) (fun e => ?_)
    · rw [e] at e4
      exact hy (by rw [e4]; rfl)
    · obtain ⟨k, hk, ek⟩ := ho e i hi
      refine ixa (by omega) (ixv ek (by omega) ?_)
      have e5 : m_od (A 1) i = decide (A 1 (176 + k) = nI 1) := by unfold m_od; rw [ek, nn_nI (by omega)]
      rw [e, Bool.true_and, e5] at e4
      by_cases h1 : A 1 (176 + k) = nI 1
      · refine rb_t h1 ?_
        rw [decide_eq_true h1] at e4
        rw [nI_add i 1]
        cases ho : ls lt p i with
        | none => rw [ho, e4] at hw; exact hw
        | some b => rw [ho, e4] at hw; simp only [Bool.not_true, Bool.false_eq_true, false_and, if_false] at hw; exact hw
      · refine rb_f h1 (hy ?_)
        rw [decide_eq_false h1] at e4
        exact e4
/-- the victim's frame, if all are in use -/
def m_vf (w : Nat → Int32) : Option Nat :=
  if w 2 = nI 1 then m_lb w 352 false else if w 2 = nI 2 then (match m_lb w 336 true with | some f => some f | none => m_lb w 336 false) else m_lb w 336 false
theorem q_victimFrame {K : Int32 → ab_F → ab_F → Prop} {I A : ab_F} (z : Sz (A 1)) (ho : ∀ f, f < m_F (A 1) → ∃ k, k < 48 ∧ A 1 (320 + f) = nI k) (h : K (oI (m_vf (A 1))) I A) : wX12_victimFrame K I A := by
  have hF := z.1.2
  unfold m_vf at h
  by_cases h1 : A 1 2 = nI 1
  · rw [if_pos h1] at h
    exact rb_t h1 (q_leastBy (c := false) z (by omega) (fun e => nomatch e) h)
  · rw [if_neg h1] at h
    refine rb_f h1 ?_
    by_cases h2 : A 1 2 = nI 2
    · rw [if_pos h2] at h
      refine rb_t h2 (q_leastBy (c := true) z (by omega) (fun _ => ho) ?_)
      cases e : m_lb (A 1) 336 true with
      | some f =>
        rw [e] at h
        exact rb_f (nI_m1 (by have := (ls_lt e).1; omega)) h
      | none =>
        rw [e] at h
        exact rb_t rfl (q_leastBy (c := false) z (by omega) (fun e => nomatch e) h)
    · rw [if_neg h2] at h
      exact rb_f h2 (rb_t rfl (q_leastBy (c := false) z (by omega) (fun e => nomatch e) h))
