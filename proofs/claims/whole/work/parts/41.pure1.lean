/-! the reference's questions -/
theorem lp {W : Nat → Nat → Prop} {e : Nat} (hx : ∀ n, W (n + 1) e) (hs : ∀ n i, i < e → W n (i + 1) → W (n + 1) i) : ∃ n, W n 0 := by
  have h : ∀ m i, i + m = e → W (m + 1) i := by
    intro m
    induction m with
    | zero => intro i hi; rw [show i = e by omega]; exact hx 0
    | succ m ih => intro i hi; exact hs _ i (by omega) (ih (i + 1) (by omega))
  exact ⟨e + 1, h e 0 (by omega)⟩
theorem rb_f {c A B : Prop} (h : ¬ c) (a : A) : (¬ c → A) ∧ (c → B) := ⟨fun _ => a, fun z => absurd z h⟩
theorem rb_t {c A B : Prop} (h : c) (b : B) : (¬ c → A) ∧ (c → B) := ⟨fun z => absurd h z, fun _ => b⟩
theorem bb {b : Bool} {A B : Prop} (hA : b = false → A) (hB : b = true → B) : (bI b = 0 → A) ∧ (¬ bI b = 0 → B) := by
  cases b
  · exact br_t (by decide) (hA rfl)
  · exact br_f (by decide) (hB rfl)
theorem bb' {b : Bool} {A B : Prop} (hA : b = false → A) (hB : b = true → B) : (¬ bI b = 0 → B) ∧ (bI b = 0 → A) := by
  cases b
  · exact rb_t (by decide) (hA rfl)
  · exact rb_f (by decide) (hB rfl)
theorem ixa {a i N : Nat} {X : Nat → Prop} (h : a + i < N) (x : X (a + i)) : ∃ j, nI a + nI i = nI j ∧ j < N ∧ X j := ⟨a + i, nI_add a i, h, x⟩
theorem ixv {a i N : Nat} {v : Int32} {X : Nat → Prop} (hv : v = nI i) (h : a + i < N) (x : X (a + i)) : ∃ j, nI a + v = nI j ∧ j < N ∧ X j := ⟨a + i, by rw [hv]; exact nI_add a i, h, x⟩
theorem ix0 {i N : Nat} {X : Nat → Prop} (h : i < N) (x : X i) : ∃ j, nI i = nI j ∧ j < N ∧ X j := ⟨i, rfl, h, x⟩
/-- the number lies in 0 .. n - 1 -/
def m_lt (x : Int32) (n : Nat) : Bool := decide (0 ≤ x.toInt ∧ x.toInt < n)
theorem m_lt_of {x : Int32} {n : Nat} (h : m_lt x n = true) : ∃ j, j < n ∧ x = nI j := by
  have h1 : 0 ≤ x.toInt ∧ x.toInt < n := of_decide_eq_true h
  obtain ⟨j, hj, e⟩ := nI_of (x := x) (fun h2 => by rw [Int32.lt_iff_toInt_lt] at h2; have : (0 : Int32).toInt = 0 := rfl; omega)
  refine ⟨j, ?_, e⟩
  have h3 := h1.2
  rw [e, nI_toInt hj] at h3
  omega
theorem m_lt_nI {j n : Nat} (hj : j < 2 ^ 31) : m_lt (nI j) n = decide (j < n) := by
  unfold m_lt
  rw [nI_toInt hj]
  simp
theorem q_in {K : Int32 → ab_F → ab_F → Prop} {I A : ab_F} {a b c : Int64} (h : K (bI (decide (b.toInt ≤ a.toInt ∧ a.toInt ≤ c.toInt))) I A) : wX12_in K I A a b c := by
  unfold wX12_in
  rw [lg_cmp_lt, lg_cmp_gt, Int64.lt_iff_toInt_lt, Int64.lt_iff_toInt_lt]
  by_cases h1 : a.toInt < b.toInt
  · refine br_t h1 ?_
    rw [decide_eq_false (by omega)] at h; exact h
  · refine br_f h1 ?_
    by_cases h2 : c.toInt < a.toInt
    · refine br_t h2 ?_
      rw [decide_eq_false (by omega)] at h; exact h
    · refine br_f h2 ?_
      rw [decide_eq_true (by omega)] at h; exact h
theorem q_in0 {K : Int32 → ab_F → ab_F → Prop} {I A : ab_F} {x y : Int32} {n : Nat} (hy : y = nI n) (hn : n < 2 ^ 31) (h : K (bI (m_lt x n)) I A) : wX12_in K I A x.toInt64 (0 : Int64) (y - nI 1).toInt64 := by
  refine q_in ?_
  rw [Int32.toInt_toInt64, Int32.toInt_toInt64]
  have h0 : (0 : Int64).toInt = 0 := rfl
  have h1 : (y - nI 1).toInt = (n : Int) - 1 := by
    subst hy
    cases n with
    | zero => rfl
    | succ n => rw [show nI (n + 1) - nI 1 = nI n from nI_pred n, nI_toInt (by omega)]; omega
  rw [h0, h1, show decide (0 ≤ x.toInt ∧ x.toInt ≤ (n : Int) - 1) = m_lt x n from by unfold m_lt; congr 1; apply propext; omega]
  exact h
theorem q_no {K : Int32 → ab_F → ab_F → Prop} {I A : ab_F} {x : Int32} (h : K (nI 0) (wr I 0 5 x) A) : wX12_no K I A x := h
theorem q_fails {K : Int32 → ab_F → ab_F → Prop} {I A : ab_F} {b : Bool} {x : Int32} (h : K (bI b) (wr I 0 5 (if b = true then x else nI 0)) A) : wX12_fails K I A (bI b) x := by
  unfold wX12_fails
  cases b
  · exact br_t (by decide) ⟨rfl, h⟩
  · exact br_f (by decide) ⟨rfl, h⟩
/-! sizes -/
def nn (x : Int32) : Nat := x.toNatClampNeg
theorem nn_nI {n : Nat} (h : n < 2 ^ 31) : nn (nI n) = n := nI_clamp h
abbrev m_F (w : Nat → Int32) : Nat := nn (w 0)
abbrev m_S (w : Nat → Int32) : Nat := nn (w 1)
abbrev m_P (w : Nat → Int32) : Nat := nn (w 3)
abbrev m_C (w : Nat → Int32) (p : Nat) : Nat := nn (w (20 + p))
/-- the sizes of a system -/
def Sz (w : Nat → Int32) : Prop := (w 0 = nI (m_F w) ∧ 1 ≤ m_F w ∧ m_F w ≤ 16) ∧ (w 1 = nI (m_S w) ∧ 1 ≤ m_S w ∧ m_S w ≤ 48) ∧ (w 3 = nI (m_P w) ∧ m_P w ≤ 6) ∧ ∀ p, p < 6 → w (20 + p) = nI (m_C w p) ∧ m_C w p ≤ 8 ∧ (m_P w ≤ p → m_C w p = 0)
theorem q_isProcess {K : Int32 → ab_F → ab_F → Prop} {I A : ab_F} {x : Int32} (z : Sz (A 1)) (h : K (bI (m_lt x (m_P (A 1)))) I A) : wX12_isProcess K I A x :=
  q_in0 z.2.2.1.1 (by have := z.2.2.1.2; omega) ⟨bI_n _, h⟩
/-- page y of process x is there -/
def m_pg (w : Nat → Int32) (x y : Int32) : Bool := m_lt x (m_P w) && m_lt y (m_C w (nn x))
theorem m_pg_of {w : Nat → Int32} {x y : Int32} (z : Sz w) (h : m_pg w x y = true) : ∃ p i, p < m_P w ∧ i < m_C w p ∧ x = nI p ∧ y = nI i ∧ p < 6 ∧ i < 8 := by
  have h1 := Bool.and_eq_true_iff.mp h
  obtain ⟨p, hp, e⟩ := m_lt_of h1.1
  obtain ⟨i, hi, e2⟩ := m_lt_of h1.2
  have hz := z.2.2.1.2
  have hn : nn x = p := by rw [e]; exact nn_nI (by omega)
  rw [hn] at hi
  have hc := (z.2.2.2 p (by omega)).2.1
  exact ⟨p, i, hp, hi, e, e2, by omega, by omega⟩
theorem q_isPage {K : Int32 → ab_F → ab_F → Prop} {I A : ab_F} {x y : Int32} (z : Sz (A 1)) (h : K (bI (m_pg (A 1) x y)) I A) : wX12_isPage K I A x y := by
  refine q_isProcess z (bb (fun e => ?_) (fun e => ?_))
  · unfold m_pg at h
    rw [e, Bool.false_and] at h
    exact h
  · obtain ⟨p, hp, ex⟩ := m_lt_of e
    have hz := z.2.2.1.2
    have hn : nn x = p := by rw [ex]; exact nn_nI (by omega)
    refine ixv ex (by omega) ?_
    have hc := z.2.2.2 p (by omega)
    refine q_in0 hc.1 (by omega) ?_
    unfold m_pg at h
    rw [e, Bool.true_and, hn] at h
    exact bb (fun e2 => by rw [e2] at h; exact h) (fun e2 => by rw [e2] at h; exact h)
theorem q_isNoProcess {K : Int32 → ab_F → ab_F → Prop} {I A : ab_F} {x : Int32} (z : Sz (A 1)) (h : K (bI (!m_lt x (m_P (A 1)))) (wr I 0 5 (bI (!m_lt x (m_P (A 1))))) A) : wX12_isNoProcess K I A x := by
  refine q_isProcess z (bb' (fun e => ?_) (fun e => ?_))
  · rw [e] at h
    exact q_fails (b := true) ⟨bI_n _, h⟩
  · rw [e] at h
    exact q_fails (b := false) ⟨bI_n _, h⟩
theorem q_isNoPage {K : Int32 → ab_F → ab_F → Prop} {I A : ab_F} {x y : Int32} (z : Sz (A 1)) (h : K (bI (!m_pg (A 1) x y)) (wr I 0 5 (bI (!m_pg (A 1) x y))) A) : wX12_isNoPage K I A x y := by
  refine q_isPage z (bb' (fun e => ?_) (fun e => ?_))
  · rw [e] at h
    exact q_fails (b := true) ⟨bI_n _, h⟩
  · rw [e] at h
    exact q_fails (b := false) ⟨bI_n _, h⟩
theorem q_isNoSlot {K : Int32 → ab_F → ab_F → Prop} {I A : ab_F} {x : Int32} (z : Sz (A 1)) (h : K (bI (!m_lt x (m_S (A 1)))) (wr I 0 5 (bI (!m_lt x (m_S (A 1))))) A) : wX12_isNoSlot K I A x := by
  refine q_in0 z.2.1.1 (by have := z.2.1.2; omega) (bb' (fun e => ?_) (fun e => ?_))
  · rw [e] at h
    exact q_fails (b := true) ⟨bI_n _, h⟩
  · rw [e] at h
    exact q_fails (b := false) ⟨bI_n _, h⟩
theorem q_isNoFrame {K : Int32 → ab_F → ab_F → Prop} {I A : ab_F} {x : Int32} (z : Sz (A 1)) (h : K (bI (!m_lt x (m_F (A 1)))) (wr I 0 5 (bI (!m_lt x (m_F (A 1))))) A) : wX12_isNoFrame K I A x := by
  refine q_in0 z.1.1 (by have := z.1.2; omega) (bb' (fun e => ?_) (fun e => ?_))
  · rw [e] at h
    exact q_fails (b := true) ⟨bI_n _, h⟩
  · rw [e] at h
    exact q_fails (b := false) ⟨bI_n _, h⟩
/-- bit p of a set -/
def m_has (s : Int32) (p : Nat) : Bool := decide (((s >>> (nI p &&& 31)) &&& nI 1) = nI 1)
theorem q_has {K : Int32 → ab_F → ab_F → Prop} {I A : ab_F} {x : Int32} {p : Nat} (h : K (bI (m_has x p)) I A) : wX12_has K I A x (nI p) := by
  unfold wX12_has
  by_cases e : ((x >>> (nI p &&& 31)) &&& nI 1) = nI 1
  · refine rb_t e ?_
    unfold m_has at h; rw [decide_eq_true e] at h; exact h
  · refine rb_f e ?_
    unfold m_has at h; rw [decide_eq_false e] at h; exact h
theorem q_size {K : Int32 → ab_F → ab_F → Prop} {I A : ab_F} {x : Int32} (h : K (nI (cn (m_has x) 8)) I A) : wX12_size K I A x := by
  refine lp (W := fun n i => wlX12_size_4 K n x (nI (cn (m_has x) i)) (nI i) I A) (e := 8) (fun n => ?_) (fun n i hi hw => ?_)
  · exact br_t (nI_le (Nat.le_refl _) (by omega)) h
  · refine br_f (nI_ge hi (by omega)) (q_has ?_)
    rw [cn] at hw
    refine bb (fun e => ?_) (fun e => ?_)
    · rw [e] at hw
      exact nm_r (nI_add _ 0) (by rw [nI_add i 1]; exact hw)
    · rw [e] at hw
      exact nm_r (nI_add _ 1) (by rw [nI_add i 1]; exact hw)
/-- page k (of 48) is there -/
def m_th (w : Nat → Int32) (k : Nat) : Bool := decide (k % 8 < m_C w (k / 8))
theorem m_th_P {w : Nat → Int32} {k : Nat} (z : Sz w) (hk : k < 48) (h : m_th w k = true) : k / 8 < m_P w := by
  have h1 : k % 8 < m_C w (k / 8) := of_decide_eq_true h
  have h2 := (z.2.2.2 (k / 8) (by omega)).2.2
  by_cases h3 : m_P w ≤ k / 8
  · have := h2 h3; omega
  · omega
theorem q_isThere {K : Int32 → ab_F → ab_F → Prop} {I A : ab_F} {k : Nat} (z : Sz (A 1)) (hk : k < 48) (h : K (bI (m_th (A 1) k)) I A) : wX12_isThere K I A (nI k) := by
  unfold wX12_isThere
  rw [pk_div (by omega) (by omega) (by omega), show nI k - nI (k / 8) * nI 8 = nI (k % 8) from by rw [← pk_div (by omega) (by omega) (by omega)]; exact pk_rem (by omega) (by omega) (by omega)]
  refine ixa (by omega) ?_
  have hc := z.2.2.2 (k / 8) (by omega)
  rw [hc.1, nI_leI (by omega) (by omega), z.2.2.1.1, nI_leI (by have := z.2.2.1.2; omega) (by omega)]
  by_cases h1 : m_C (A 1) (k / 8) ≤ k % 8
  · refine br_t h1 ?_
    rw [show m_th (A 1) k = false from decide_eq_false (by omega)] at h; exact h
  · have h2 : m_th (A 1) k = true := decide_eq_true (by omega)
    have h3 := m_th_P z hk h2
    refine br_f h1 (br_f (by omega) ?_)
    rw [h2] at h; exact h
