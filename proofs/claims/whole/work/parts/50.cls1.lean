/-! THE CLASS: its system (cells from b on) stands for the row w -/
def m_rk (w : Nat → Int32) (k : Nat) : Int32 := if m_has (w 10) (k / 8) = true then w (224 + k) else -1
def m_ds (w : Nat → Int32) (p : Nat) : Nat := sb (fun i => decide (w (176 + (8 * p + i)) = nI 1)) 8
/-- sizes, pages, frames, slots -/
def Ra (b : Nat) (I A : ab_F) (w : Nat → Int32) : Prop := (I (b + 1) 0 = w 3 ∧ (∀ p, p < 6 → A (b + 2) p = w (20 + p) ∧ A (b + 3) p = w (14 + p) ∧ A (b + 4) p = nI (m_ds w p)) ∧ (∀ k, k < 48 → A (b + 5) k = w (32 + k) ∧ A (b + 6) k = w (128 + k) ∧ A (b + 7) k = w (80 + k))) ∧ (I (b + 8) 0 = w 0 ∧ I (b + 8) 1 = w 2 ∧ ∀ f, f < 16 → A (b + 9) f = w (320 + f) ∧ A (b + 10) f = w (336 + f) ∧ A (b + 11) f = w (352 + f)) ∧ (I (b + 12) 0 = w 1 ∧ I (b + 12) 1 = w 7 ∧ ∀ s, s < 48 → A (b + 13) s = w (368 + s) ∧ A (b + 14) s = w (416 + s) ∧ A (b + 15) s = w (464 + s))
/-- barriers and their log -/
def Rb (b : Nat) (I A : ab_F) (w : Nat → Int32) : Prop := (I (b + 16) 0 = w 4 ∧ I (b + 16) 1 = w 10 ∧ I (b + 16) 3 = w 8) ∧ (w 10 ≠ 0 → I (b + 16) 2 = w 11 + nI (m_pc w)) ∧ (∀ k, k < 48 → A (b + 17) k = m_rk w k ∧ A (b + 19) k = w (272 + k)) ∧ (∀ p, p < 6 → A (b + 18) p = w (26 + p)) ∧ (∀ c, w 8 = nI c → c < 2 ^ 30 → ∀ i, i < min c 8 → ∀ j, j < 4 → A (b + 20) (((c - 1 - i) % 8) * 4 + j) = w (576 + (4 * i + j)))
/-- accesses -/
def Rc2 (b : Nat) (I A : ab_F) (w : Nat → Int32) : Prop := I (b + 21) 0 = w 5 ∧ I (b + 21) 1 = w 6 ∧ I b 5 = w 9 ∧ ∃ n a, a < 2 ^ 30 ∧ w 5 = nI a ∧ n ≤ a ∧ I (b + 21) 2 = nI n ∧ w 12 = nI (min n 64) ∧ ∀ i, i < min n 64 → A (b + 22) ((n - 1 - i) % 64) = w (512 + i)
def Rs (b : Nat) (I A : ab_F) (w : Nat → Int32) : Prop := Ra b I A w ∧ Rb b I A w ∧ Rc2 b I A w
/-- the uses' array is no part -/
theorem Rs_31 {I A : ab_F} {w u : Nat → Int32} (h : Rs 8 I A w) : Rs 8 I (wrow A 31 u) w := by
  have e : ∀ c, c ≠ 31 → wrow A 31 u c = A c := fun c hc => wrow_ne hc
  unfold Rs Ra Rb Rc2 at *
  simp only [e (8 + 2) (by decide), e (8 + 3) (by decide), e (8 + 4) (by decide), e (8 + 5) (by decide), e (8 + 6) (by decide), e (8 + 7) (by decide), e (8 + 9) (by decide), e (8 + 10) (by decide), e (8 + 11) (by decide), e (8 + 13) (by decide), e (8 + 14) (by decide), e (8 + 15) (by decide), e (8 + 17) (by decide), e (8 + 18) (by decide), e (8 + 19) (by decide), e (8 + 20) (by decide), e (8 + 22) (by decide)]
  exact h
theorem lt0 {x : Int32} {n : Nat} (hn : n < 2 ^ 31) {y : Int32} (hy : y = nI n) {X Y : Prop} (hX : m_lt x n = false → X) (hY : m_lt x n = true → Y) : (x < 0 → X) ∧ (¬ x < 0 → ((y ≤ x → X) ∧ (¬ y ≤ x → Y))) := by
  subst hy
  have e0 : (0 : Int32).toInt = 0 := rfl
  have en : (nI n).toInt = n := nI_toInt hn
  by_cases h1 : x < 0
  · refine br_t h1 (hX (decide_eq_false (fun q => ?_)))
    rw [Int32.lt_iff_toInt_lt] at h1; omega
  · refine br_f h1 ?_
    rw [Int32.lt_iff_toInt_lt] at h1
    by_cases h2 : nI n ≤ x
    · refine br_t h2 (hX (decide_eq_false (fun q => ?_)))
      rw [Int32.le_iff_toInt_le] at h2; omega
    · refine br_f h2 (hY (decide_eq_true ?_))
      rw [Int32.le_iff_toInt_le] at h2; omega
theorem c_hasProcess {K : Int32 → ab_F → ab_F → Prop} {I A : ab_F} {w : Nat → Int32} {x : Int32} (r : Rs 8 I A w) (z : Sz w) (h : K (bI (m_lt x (m_P w))) I A) : wX4_hasProcess K I A x := by
  have hP := z.2.2.1.2
  have e : I 9 0 = nI (m_P w) := r.1.1.1.trans z.2.2.1.1
  exact lt0 (by omega) e (fun q => by rw [q] at h; exact h) (fun q => by rw [q] at h; exact h)
theorem c_hasPage {K : Int32 → ab_F → ab_F → Prop} {I A : ab_F} {w : Nat → Int32} {x y : Int32} (r : Rs 8 I A w) (z : Sz w) (h : K (bI (m_pg w x y)) I A) : wX4_hasPage K I A x y := by
  have hP := z.2.2.1.2
  refine c_hasProcess r z (bb (fun e => ?_) (fun e => ?_))
  · unfold m_pg at h; rw [e] at h; exact h
  · obtain ⟨p, hp, ex⟩ := m_lt_of e
    have hn : nn x = p := by rw [ex]; exact nn_nI (by omega)
    unfold m_pg at h
    rw [e, Bool.true_and, hn] at h
    have hc := z.2.2.2 p (by omega)
    have ec : A 10 p = nI (m_C w p) := (r.1.1.2.1 p (by omega)).1.trans hc.1
    have h2 := lt0 (x := y) (n := m_C w p) (by omega) ec (X := K (nI 0) I A) (Y := K (nI 1) I A) (fun q => by rw [q] at h; exact h) (fun q => by rw [q] at h; exact h)
    refine ⟨h2.1, fun q => ?_⟩
    rw [ex]
    exact ix0 (by omega) (h2.2 q)
theorem c_hasFrame {K : Int32 → ab_F → ab_F → Prop} {I A : ab_F} {w : Nat → Int32} {x : Int32} (r : Rs 8 I A w) (z : Sz w) (h : K (bI (m_lt x (m_F w))) I A) : wX2_hasFrame K I A x := by
  have hF := z.1.2
  have e : I 16 0 = nI (m_F w) := r.1.2.1.1.trans z.1.1
  exact lt0 (by omega) e (fun q => by rw [q] at h; exact h) (fun q => by rw [q] at h; exact h)
theorem c_hasSlot {K : Int32 → ab_F → ab_F → Prop} {I A : ab_F} {w : Nat → Int32} {x : Int32} (r : Rs 8 I A w) (z : Sz w) (h : K (bI (m_lt x (m_S w))) I A) : wX7_hasSlot K I A x := by
  have hS := z.2.1.2
  have e : I 20 0 = nI (m_S w) := r.1.2.2.1.trans z.2.1.1
  exact lt0 (by omega) e (fun q => by rw [q] at h; exact h) (fun q => by rw [q] at h; exact h)
theorem c_firstFree {K : Int32 → ab_F → ab_F → Prop} {I A : ab_F} {w : Nat → Int32} (r : Rs 8 I A w) (z : Sz w) (h : K (oI (m_ff w)) I A) : wX2_firstFree K I A := by
  have hF := z.1.2
  have e : I 16 0 = nI (m_F w) := r.1.2.1.1.trans z.1.1
  have eo : ∀ f, f < 16 → A 17 f = w (320 + f) := fun f hf => (r.1.2.1.2.2 f hf).1
  refine lp_fi (W := fun n i => wlX2_firstFree_2 K n (nI i) I A) (p := fun f => decide (w (320 + f) = -1)) (e := m_F w) (fun n hn => ?_) (fun n i hi hp hn => ?_) (fun n i hi hp hw => ?_)
  · refine br_t (by rw [e]; exact nI_le (Nat.le_refl _) (by omega)) ?_
    unfold m_ff at h; rw [fi_none.mpr hn] at h; exact h
  · refine br_f (by rw [e]; exact nI_ge hi (by omega)) (ix0 (by omega) (rb_t (by rw [eo i (by omega)]; exact of_decide_eq_true hp) ?_))
    unfold m_ff at h; rw [fi_some hi hp hn] at h; exact h
  · refine br_f (by rw [e]; exact nI_ge hi (by omega)) (ix0 (by omega) (rb_f (by rw [eo i (by omega)]; exact of_decide_eq_false hp) ?_))
    rw [nI_add i 1]; exact hw
/-- sets of processes: bits in both ways -/
theorem has_cv : ∀ b, b < 64 → ∀ p, p < 6 → (nI b &&& (nI 1 <<< (nI p &&& 31)) = 0 ↔ m_has (nI b) p = false) := by decide +kernel
theorem c_covers {K : Int32 → ab_F → ab_F → Prop} {I A : ab_F} {w : Nat → Int32} {p : Nat} (r : Rs 8 I A w) (z : Sz w) (b : Ba w) (hp : p < 6) (h : K (bI (m_has (w 10) p)) I A) : wX1_covers K I A (nI p) := by
  have hP := z.2.2.1.2
  obtain ⟨n, hn, e⟩ := b
  have h64 : n < 64 := Nat.lt_of_lt_of_le hn (Nat.pow_le_pow_right (by omega) hP)
  have e1 : I 24 1 = w 10 := r.2.1.1.2.1
  unfold wX1_covers
  rw [e1, e, has_cv n h64 p hp]
  rw [e] at h
  cases hb : m_has (nI n) p with
  | false => rw [hb] at h; exact br_t rfl h
  | true => rw [hb] at h; exact br_f (fun q => nomatch q) h
theorem ds_cv : ∀ b, b < 256 → ∀ i, i < 8 → (nI b &&& (nI 1 <<< (nI i &&& 31)) = 0 ↔ b.testBit i = false) := by decide +kernel
theorem c_isDirty {K : Int32 → ab_F → ab_F → Prop} {I A : ab_F} {w : Nat → Int32} {k : Nat} (r : Rs 8 I A w) (hk : k < 48) (h : K (bI (decide (w (176 + k) = nI 1))) I A) : wX4_isDirty K I A (nI k) := by
  unfold wX4_isDirty
  rw [pk_div (by omega) (by omega) (by omega), show nI k - nI (k / 8) * nI 8 = nI (k % 8) from by rw [← pk_div (by omega) (by omega) (by omega)]; exact pk_rem (by omega) (by omega) (by omega)]
  refine ix0 (by omega) ?_
  have e : A 12 (k / 8) = nI (m_ds w (k / 8)) := (r.1.1.2.1 (k / 8) (by omega)).2.2
  have hl : m_ds w (k / 8) < 256 := sb_lt 8
  rw [e, ds_cv _ hl (k % 8) (by omega)]
  have eb : (m_ds w (k / 8)).testBit (k % 8) = decide (w (176 + k) = nI 1) := by
    unfold m_ds
    rw [sb_bit]
    simp only [show k % 8 < 8 by omega, decide_true, Bool.true_and, show 8 * (k / 8) + k % 8 = k by omega]
  rw [eb]
  cases hb : decide (w (176 + k) = nI 1) with
  | false => rw [hb] at h; exact br_t rfl h
  | true => rw [hb] at h; exact br_f (fun q => nomatch q) h
