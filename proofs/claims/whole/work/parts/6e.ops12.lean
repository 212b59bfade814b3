/-! the class's rerun as a whole -/
def m_rk2 (w : Nat → Int32) (pol t : Nat) (S : sm_S) (f : Nat) : Int32 := if pol = 0 then nI (S.2.2.1 f) else if pol = 1 then nI (S.2.2.2.1 f) else -(nI (m_nx w (S.2.1 f) t))
def CR (w : Nat → Int32) (pol t : Nat) (S : sm_S) (I A : ab_F) : Prop := I 34 6 = nI S.1 ∧ ∀ f, f < S.1 → A 35 f = nI (S.2.1 f) ∧ A 36 f = m_rk2 w pol t S f
def CS (w : Nat → Int32) (I A : ab_F) : Prop := I 34 5 = nI (m_rn w) ∧ ∀ t, t < m_rn w → A 37 t = nI (m_pgt w t) ∧ A 38 t = nI (m_nx w (m_pgt w t) (t + 1))
theorem ng_lt : ∀ a, a < 65 → ∀ b, b < 65 → (-(nI a) < -(nI b) ↔ b < a) := by decide +kernel
theorem ng_eq : ∀ a, a < 65 → ∀ b, b < 65 → (-(nI a) = -(nI b) ↔ a = b) := by decide +kernel
theorem c_frameWith {K : Int32 → ab_F → ab_F → Prop} {w : Nat → Int32} {pol t fr : Nat} {S : sm_S} {I A : ab_F} (cr : CR w pol t S I A) (si : SI w fr t S) (hfr : fr ≤ 16) (hp : m_pgt w t < 48) (h : K (oI (m_fw w t S)) I A) : wX5_frameWith K I A (nI (m_pgt w t)) := by
  have hS := si.1
  refine lp_fi (W := fun n f => wlX5_frameWith_2 K n (nI (m_pgt w t)) (nI f) I A) (p := fun f => decide (S.2.1 f = m_pgt w t)) (e := S.1) (fun n hn => ?_) (fun n f hf hq hn => ?_) (fun n f hf hq hw => ?_)
  · refine br_t (by rw [cr.1]; exact nI_le (Nat.le_refl _) (by omega)) ?_
    rw [show m_fw w t S = none from fi_none.mpr hn] at h; exact h
  · refine br_f (by rw [cr.1]; exact nI_ge hf (by omega)) (ix0 (by omega) ?_)
    rw [(cr.2 f hf).1]
    refine rb_t (by rw [of_decide_eq_true hq]) ?_
    rw [show m_fw w t S = some f from fi_some hf hq hn] at h; exact h
  · have bf := (si.2.1 f hf).1
    refine br_f (by rw [cr.1]; exact nI_ge hf (by omega)) (ix0 (by omega) ?_)
    rw [(cr.2 f hf).1]
    refine rb_f (fun z => of_decide_eq_false hq ((nI_eq (by omega) (by omega)).mp z)) ?_
    rw [nI_add f 1]; exact hw
theorem c_leastRanked {K : Int32 → ab_F → ab_F → Prop} {B : Nat} {w : Nat → Int32} {pol t fr : Nat} {S : sm_S} {I A : ab_F} (iv : Iv B w) (cr : CR w pol t S I A) (si : SI w fr t S) (hfr : fr ≤ 16) (hpol : pol < 3) (ht : t ≤ 64) (h0 : 1 ≤ S.1) (h : K (nI (m_vic (m_bt w pol t S) (S.1 - 1))) I A) : wX5_leastRanked K I A := by
  have hS := si.1
  have hr := (rn_of iv).2.1
  refine lp (W := fun n i => wlX5_leastRanked_4 K n (nI (m_vic (m_bt w pol t S) i)) (nI (i + 1)) I A) (e := S.1 - 1) (fun n => ?_) (fun n i hi hw => ?_)
  · exact br_t (by rw [cr.1]; exact nI_le (by omega) (by omega)) h
  · have hv := vic_le (m_bt w pol t S) i
    have c1 := cr.2 (i + 1) (by omega)
    have c2 := cr.2 (m_vic (m_bt w pol t S) i) (by omega)
    have b1 := si.2.1 (i + 1) (by omega)
    have b2 := si.2.1 (m_vic (m_bt w pol t S) i) (by omega)
    have dd := si.2.2.1 (i + 1) (m_vic (m_bt w pol t S) i) (by omega) (by omega) (by omega)
    rw [m_vic] at hw
    generalize m_vic (m_bt w pol t S) i = g at *
    refine br_f (by rw [cr.1]; exact nI_ge (by omega) (by omega)) (ix0 (by omega) (ix0 (by omega) ?_))
    rw [c1.2, c2.2]
    have yes : m_bt w pol t S (i + 1) g = true → wlX5_leastRanked_4 K n (nI (i + 1)) (nI (i + 1) + nI 1) I A := fun q => by
      rw [if_pos q] at hw
      rw [nI_add (i + 1) 1]; exact hw
    have no : m_bt w pol t S (i + 1) g = false → wlX5_leastRanked_4 K n (nI g) (nI (i + 1) + nI 1) I A := fun q => by
      rw [if_neg (by rw [q]; decide)] at hw
      rw [nI_add (i + 1) 1]; exact hw
    have j47 : ∀ (b : Bool) (v : Int32), v = bI b → (m_rk2 w pol t S (i + 1) < m_rk2 w pol t S g → m_bt w pol t S (i + 1) g = true) → (¬ m_rk2 w pol t S (i + 1) < m_rk2 w pol t S g → m_bt w pol t S (i + 1) g = b) → wjX5_leastRanked_47 K (wlX5_leastRanked_4 K n) (nI g) (nI (i + 1)) v I A := by
      intro b v hv h1 h2
      subst hv
      refine ix0 (by omega) (ix0 (by omega) ?_)
      rw [c1.2, c2.2]
      by_cases q : m_rk2 w pol t S (i + 1) < m_rk2 w pol t S g
      · exact br_t q (yes (h1 q))
      · have e := h2 q
        refine br_f q (bb (fun q2 => no (by rw [e, q2])) (fun q2 => yes (by rw [e, q2])))
    by_cases hp2 : pol = 2
    · subst hp2
      have er : ∀ f, m_rk2 w 2 t S f = -(nI (m_nx w (S.2.1 f) t)) := fun f => by unfold m_rk2; rw [if_neg (by omega), if_neg (by omega)]
      have eb : m_bt w 2 t S (i + 1) g = decide (m_nx w (S.2.1 g) t < m_nx w (S.2.1 (i + 1)) t ∨ (m_nx w (S.2.1 (i + 1)) t = m_nx w (S.2.1 g) t ∧ S.2.1 (i + 1) < S.2.1 g)) := by unfold m_bt; rw [if_neg (by omega), if_neg (by omega)]
      rw [er, er, eb] at j47
      have n1 := nx_le (p := S.2.1 (i + 1)) (t := t) hr
      have n2 := nx_le (p := S.2.1 g) (t := t) hr
      rw [ng_lt _ (by omega) _ (by omega)] at j47
      rw [er, er, ng_eq _ (by omega) _ (by omega)]
      generalize m_nx w (S.2.1 (i + 1)) t = a at *
      generalize m_nx w (S.2.1 g) t = b at *
      by_cases q : a = b
      · refine rb_t q (ix0 (by omega) (ix0 (by omega) ?_))
        rw [c1.1, c2.1, nI_leI (by omega) (by omega)]
        by_cases q2 : S.2.1 g ≤ S.2.1 (i + 1)
        · exact br_t q2 (j47 false _ rfl (fun z => decide_eq_true (Or.inl z)) (fun z => decide_eq_false (by omega)))
        · exact br_f q2 (j47 true _ rfl (fun z => decide_eq_true (Or.inl z)) (fun z => decide_eq_true (by omega)))
      · exact rb_f q (j47 false _ rfl (fun z => decide_eq_true (Or.inl z)) (fun z => decide_eq_false (by omega)))
    · have er : ∃ u v, u < 100 ∧ v < 100 ∧ u ≠ v ∧ m_rk2 w pol t S (i + 1) = nI u ∧ m_rk2 w pol t S g = nI v ∧ m_bt w pol t S (i + 1) g = decide (u < v) := by
        by_cases hp0 : pol = 0
        · exact ⟨S.2.2.1 (i + 1), S.2.2.1 g, by omega, by omega, dd.2.1, by unfold m_rk2; rw [if_pos hp0], by unfold m_rk2; rw [if_pos hp0], by unfold m_bt; rw [if_pos hp0]⟩
        · have hp1 : pol = 1 := by omega
          exact ⟨S.2.2.2.1 (i + 1), S.2.2.2.1 g, by omega, by omega, dd.2.2, by unfold m_rk2; rw [if_neg hp0, if_pos hp1], by unfold m_rk2; rw [if_neg hp0, if_pos hp1], by unfold m_bt; rw [if_neg hp0, if_pos hp1]⟩
      obtain ⟨u, v, hu, hv2, hne, e1, e2, e3⟩ := er
      rw [e1, e2, e3, nI_ltI (by omega) (by omega)] at j47
      rw [e1, e2]
      refine rb_f (fun z => hne ((nI_eq (by omega) (by omega)).mp z)) (j47 false _ rfl (fun z => decide_eq_true z) (fun z => decide_eq_false z))
theorem c_fb {K : Int32 → ab_F → ab_F → Prop} {B fr pol : Nat} {w : Nat → Int32} (iv : Iv B w) (h1 : 1 ≤ fr) (hfr : fr ≤ 16) (hpol : pol < 3) : ∀ (m t : Nat) (I A : ab_F), t + m = m_rn w → CS w I A → CR w pol t (m_sim w fr pol t) I A → (∀ I' A', (∀ c, c ≠ 34 → I' c = I c) → (∀ c, c ≠ 35 → c ≠ 36 → A' c = A c) → K (nI (m_flt w fr pol)) I' A') → wlX5_countFaults_16 K (m + 1) (nI fr) (nI pol) (nI (m_sim w fr pol t).2.2.2.2) (nI t) I A
  | 0, t, I, A, ht, cs, cr, h => by
    have hr := (rn_of iv).2.1
    refine br_t (by rw [cs.1]; exact nI_le (by omega) (by omega)) ?_
    have g := h I A (fun _ _ => rfl) (fun _ _ _ => rfl)
    unfold m_flt at g
    rw [← ht] at g
    exact g
  | m + 1, t, I, A, ht, cs, cr, h => by
    have hr := (rn_of iv).2.1
    have si := SI_sim (pol := pol) iv h1 t (by omega)
    have pt := pgt_of iv (t := t) (by omega)
    have ct := cs.2 t (by omega)
    have nxt : ∀ I' A', CS w I' A' → CR w pol (t + 1) (m_sim w fr pol (t + 1)) I' A' → (∀ c, c ≠ 34 → I' c = I c) → (∀ c, c ≠ 35 → c ≠ 36 → A' c = A c) → wlX5_countFaults_16 K (m + 1) (nI fr) (nI pol) (nI (m_sim w fr pol (t + 1)).2.2.2.2) (nI (t + 1)) I' A' := fun I' A' a b c d => c_fb iv h1 hfr hpol m (t + 1) I' A' (by omega) a b (fun I2 A2 e f => h I2 A2 (fun k hk => (e k hk).trans (c k hk)) (fun k hk hk2 => (f k hk hk2).trans (d k hk hk2)))
    rw [m_sim] at nxt
    generalize m_sim w fr pol t = S at *
    have hS := si.1
    refine br_f (by rw [cs.1]; exact nI_ge (by omega) (by omega)) (ix0 (by omega) ?_)
    rw [ct.1]
    refine c_frameWith cr si hfr pt.2 ?_
    cases hf : m_fw w t S with
    | some f =>
      obtain ⟨hf1, hf2, -⟩ := fi_spec hf
      have own := of_decide_eq_true hf2
      rw [hf] at nxt
      refine rb_f (nI_m1 (by omega)) (br_t rfl (rb_t rfl ?_))
      by_cases hp1 : pol = 1
      · refine br_t (by rw [hp1]) ?_
        rw [nI_add t 1]
        refine nxt I A cs ⟨cr.1, fun g hg => ⟨(cr.2 g hg).1, ((cr.2 g hg).2).trans ?_⟩⟩ (fun _ _ => rfl) (fun _ _ _ => rfl)
        unfold m_rk2
        have hp0 : ¬ pol = 0 := by omega
        rw [if_neg hp0, if_pos hp1, if_neg hp0, if_pos hp1]
        rfl
      · refine br_f (fun z => hp1 ((nI_eq (by omega) (by omega)).mp z)) ?_
        have fin : ∀ v, v = m_rk2 w pol (t + 1) (m_stp w fr pol t S (some f)) f → wjX5_countFaults_143 K (wlX5_countFaults_16 K (m + 1)) (nI fr) (nI pol) (nI S.2.2.2.2) (nI t) v (nI f) I A := by
          intro v hv
          refine ix0 (by omega) ?_
          rw [nI_add t 1]
          refine nxt I _ ⟨cs.1, fun u hu => by rw [wr_ne (by decide), wr_ne (by decide)]; exact cs.2 u hu⟩ ⟨cr.1, fun g hg => ⟨by rw [wr_ne (by decide)]; exact (cr.2 g hg).1, ?_⟩⟩ (fun _ _ => rfl) (fun c _ q => wr_ne q)
          by_cases e : g = f
          · subst e; rw [wr_ate, hv]
          · rw [wr_nei e, (cr.2 g hg).2]
            unfold m_rk2
            by_cases hp0 : pol = 0
            · rw [if_pos hp0, if_pos hp0]
              show nI (S.2.2.1 g) = nI (ud S.2.2.1 f t g)
              rw [ud_ne e]
            · rw [if_neg hp0, if_neg hp1, if_neg hp0, if_neg hp1]
              show -(nI (m_nx w (S.2.1 g) t)) = -(nI (m_nx w (S.2.1 g) (t + 1)))
              rw [nx_miss (t := t) (Or.inr (fun z => (si.2.2.1 g f hg hf1 e).1 (by rw [own, z])))]
        by_cases hp2 : pol = 2
        · refine rb_t (by rw [hp2]) (ix0 (by omega) (fin _ ?_))
          rw [ct.2]
          unfold m_rk2
          rw [if_neg (by omega), if_neg hp1]
          show -(nI (m_nx w (m_pgt w t) (t + 1))) = -(nI (m_nx w (S.2.1 f) (t + 1)))
          rw [own]
        · refine rb_f (fun z => hp2 ((nI_eq (by omega) (by omega)).mp z)) (fin _ ?_)
          unfold m_rk2
          rw [if_pos (by omega)]
          show nI t = nI (ud S.2.2.1 f t f)
          rw [ud_at]
    | none =>
      have hn := fi_none.mp hf
      rw [hf] at nxt
      have hv := nf2_lt (w := w) (pol := pol) (t := t) (S := S) h1 hS
      have j78 : ∀ v, v = m_nf2 w fr pol t S → wjX5_countFaults_78 K (wlX5_countFaults_16 K (m + 1)) (nI fr) (nI pol) (nI S.2.2.2.2 + nI 1) (nI t) (nI 1) (nI v) I A := by
        intro v ev
        rw [← ev] at hv
        have es : m_stp w fr pol t S none = (max S.1 (v + 1), ud S.2.1 v (m_pgt w t), ud S.2.2.1 v t, ud S.2.2.2.1 v t, S.2.2.2.2 + 1) := by rw [ev]; rfl
        rw [es] at nxt
        refine ix0 (by omega) (ix0 (by omega) (rb_f (by decide) ?_))
        rw [ct.1, cr.1, nI_add v 1, mx_n (by omega) (by omega), nI_add _ 1]
        have hm : ∀ g, g < max S.1 (v + 1) → g ≠ v → g < S.1 := fun g hg hne => by omega
        have fin : ∀ u, u = m_rk2 w pol (t + 1) (max S.1 (v + 1), ud S.2.1 v (m_pgt w t), ud S.2.2.1 v t, ud S.2.2.2.1 v t, S.2.2.2.2 + 1) v → wjX5_countFaults_143 K (wlX5_countFaults_16 K (m + 1)) (nI fr) (nI pol) (nI (S.2.2.2.2 + 1)) (nI t) u (nI v) (wr I 34 6 (nI (max S.1 (v + 1)))) (wr A 35 v (nI (m_pgt w t))) := by
          intro u hu
          refine ix0 (by omega) ?_
          rw [nI_add t 1]
          refine nxt _ _ ⟨by rw [wr_nei (by decide)]; exact cs.1, fun u hu => by rw [wr_ne (by decide), wr_ne (by decide), wr_ne (by decide), wr_ne (by decide)]; exact cs.2 u hu⟩ ⟨wr_ate _ _ _ _, fun g hg => ?_⟩ (fun c q => wr_ne q) (fun c q q2 => by rw [wr_ne q2, wr_ne q])
          show wr (wr A 35 v (nI (m_pgt w t))) 36 v u 35 g = nI (ud S.2.1 v (m_pgt w t) g) ∧ wr (wr A 35 v (nI (m_pgt w t))) 36 v u 36 g = _
          by_cases e : g = v
          · subst e
            exact ⟨by rw [wr_ne (by decide), wr_ate, ud_at], by rw [wr_ate, hu]⟩
          · have hg2 := hm g hg e
            have c := cr.2 g hg2
            have ne := of_decide_eq_false (hn g hg2)
            refine ⟨by rw [wr_ne (by decide), wr_nei e, ud_ne e]; exact c.1, ?_⟩
            rw [wr_nei e, wr_ne (by decide), c.2]
            unfold m_rk2
            by_cases hp0 : pol = 0
            · rw [if_pos hp0, if_pos hp0]
              show nI (S.2.2.1 g) = nI (ud S.2.2.1 v t g)
              rw [ud_ne e]
            · by_cases hp1 : pol = 1
              · rw [if_neg hp0, if_pos hp1, if_neg hp0, if_pos hp1]
                show nI (S.2.2.2.1 g) = nI (ud S.2.2.2.1 v t g)
                rw [ud_ne e]
              · rw [if_neg hp0, if_neg hp1, if_neg hp0, if_neg hp1]
                show -(nI (m_nx w (S.2.1 g) t)) = -(nI (m_nx w (ud S.2.1 v (m_pgt w t) g) (t + 1)))
                rw [ud_ne e, nx_miss (t := t) (Or.inr (fun z => ne z.symm))]
        by_cases hp2 : pol = 2
        · refine rb_t (by rw [hp2]) (ix0 (by omega) (fin _ ?_))
          rw [wr_ne (by decide), ct.2]
          unfold m_rk2
          rw [if_neg (by omega), if_neg (by omega)]
          show -(nI (m_nx w (m_pgt w t) (t + 1))) = -(nI (m_nx w (ud S.2.1 v (m_pgt w t) v) (t + 1)))
          rw [ud_at]
        · refine rb_f (fun z => hp2 ((nI_eq (by omega) (by omega)).mp z)) (fin _ ?_)
          unfold m_rk2
          by_cases hp0 : pol = 0
          · rw [if_pos hp0]
            show nI t = nI (ud S.2.2.1 v t v)
            rw [ud_at]
          · rw [if_neg hp0, if_pos (by omega)]
            show nI t = nI (ud S.2.2.2.1 v t v)
            rw [ud_at]
      refine rb_t rfl (br_f (by decide) ?_)
      rw [cr.1, nI_leI (by omega) (by omega)]
      by_cases q : fr ≤ S.1
      · refine br_t q (c_leastRanked iv cr si hfr hpol (by omega) (by omega) (j78 _ ?_))
        unfold m_nf2; rw [if_neg (by omega)]
      · refine br_f q (j78 _ ?_)
        unfold m_nf2; rw [if_pos (by omega)]
theorem c_countFaults {K : Int32 → ab_F → ab_F → Prop} {B fr pol : Nat} {I A : ab_F} {w : Nat → Int32} (r : Rs 8 I A w) (iv : Iv B w) (h1 : 1 ≤ fr) (hfr : fr ≤ 16) (hpol : pol < 3) (h : ∀ I' A', Kc I A I' A' → K (nI (m_flt w fr pol)) I' A') : wX5_countFaults K I A (nI fr) (nI pol) := by
  refine c_lookUp r iv (fun A1 ha ho => ⟨m_rn w + 1, ?_⟩)
  refine c_fb iv h1 hfr hpol (m_rn w) 0 _ A1 (by omega) ⟨by rw [wr_nei (by decide), wr_ate], ha⟩ ⟨wr_ate _ _ _ _, fun f hf => by have : f < 0 := hf; omega⟩ (fun I' A' hi hA => h I' A' (fun c q1 q2 => ⟨by rw [hi c (by omega), wr_ne (by omega), wr_ne (by omega)], by rw [hA c (by omega) (by omega), ho c (by omega) (by omega) (by omega)]⟩))
/-! the calls -/
/-- the number lies in 1 .. n -/
def m_1n (x : Int32) (n : Nat) : Bool := decide (1 ≤ x.toInt ∧ x.toInt ≤ n)
theorem m_1n_of {x : Int32} {n : Nat} (h : m_1n x n = true) : ∃ j, 1 ≤ j ∧ j ≤ n ∧ x = nI j ∧ nn x = j := by
  have h1 : 1 ≤ x.toInt ∧ x.toInt ≤ n := of_decide_eq_true h
  obtain ⟨j, hj, e⟩ := nI_of (x := x) (fun h2 => by rw [Int32.lt_iff_toInt_lt] at h2; have : (0 : Int32).toInt = 0 := rfl; omega)
  rw [e, nI_toInt hj] at h1
  exact ⟨j, by omega, by omega, e, by rw [e]; exact nn_nI hj⟩
theorem lt2 {x : Int32} {n : Nat} (hn : n < 2 ^ 31) {y : Int32} (hy : y = nI n) {X Y : Prop} (hX : m_1n x n = false → X) (hY : m_1n x n = true → Y) : (x < nI 1 → X) ∧ (¬ x < nI 1 → ((y < x → X) ∧ (¬ y < x → Y))) := by
  subst hy
  rw [Int32.lt_iff_toInt_lt, Int32.lt_iff_toInt_lt, nI_toInt hn, show (nI 1).toInt = 1 from rfl]
  unfold m_1n at hX hY
  by_cases h1 : x.toInt < 1
  · exact br_t h1 (hX (decide_eq_false (by omega)))
  · refine br_f h1 ?_
    by_cases h2 : (n : Int) < x.toInt
    · exact br_t h2 (hX (decide_eq_false (by omega)))
    · exact br_f h2 (hY (decide_eq_true (by omega)))
def s_flt (s : st_S) (x y : Int32) : st_O := if m_1n x 16 = false then (1, 0, s) else if m_lt y 3 = false then (1, 0, s) else (0, nI (m_flt s.1 (nn x) (nn y)), s)
theorem f_flt {B : Nat} {s : st_S} {x y : Int32} {K : Int32 → ab_Z → ab_F → ab_F → Prop} {KX : String → ab_Z → ab_F → ab_F → Prop} {Z : ab_Z} {I A : ab_F} (r : RCs B s Z I A) (o : oC [xAr] B (s_flt s x y) K KX) : wX11_faultsWith (fun v I A => K v Z I A) (fun E I A => KX E Z I A) I A x y := by
  refine lt2 (n := 16) (by omega) rfl (fun e => ?_) (fun e => ?_)
  · exact dmA (b := false) (fun _ => o.x (c := 0) (by unfold s_flt; rw [if_pos e]) rfl (Nat.le_refl _) r) (fun q => nomatch q)
  · refine dmA (b := true) (fun q => nomatch q) (fun _ => ?_)
    have h1 : ¬ m_1n x 16 = false := by rw [e]; decide
    obtain ⟨f, f1, f2, ef, en⟩ := m_1n_of e
    refine lt1 (n := 2) (by omega) rfl (fun e2 => ?_) (fun e2 => ?_)
    · exact dmA (b := false) (fun _ => o.x (c := 0) (by unfold s_flt; rw [if_neg h1, if_pos e2]) rfl (Nat.le_refl _) r) (fun q => nomatch q)
    · refine dmA (b := true) (fun q => nomatch q) (fun _ => ?_)
      obtain ⟨p, hp, ep⟩ := m_lt_of e2
      have en2 : nn y = p := by rw [ep]; exact nn_nI (by omega)
      rw [ef, ep]
      exact c_countFaults r.1.1 r.1.2 f1 f2 (by omega) (fun I' A' kc => o.k (by unfold s_flt; rw [if_neg h1, if_neg (by rw [e2]; decide), en, en2]) (Nat.le_refl _) (RC_k r kc))
theorem RM_7 {B : Nat} {s : st_S} {I A A' : ab_F} (x : RMs B s I A) (h : ∀ c, c ≠ 7 → c ≠ 8 → c ≠ 9 → A' c = A c) : RMs B s I A' := RM_k x (fun _ _ _ _ _ => rfl) (fun c hc => h c (by omega) (by omega) (by omega))
theorem r_flt {B : Nat} {s : st_S} {x y : Int32} {K : Int32 → ab_F → ab_F → Prop} {I A : ab_F} (r : RMs B s I A) (o : oM B (s_flt s x y) K) : wX12_faultsWith K I A x y := by
  have e1 : A 1 = s.1 := r.1.1
  have iv : Iv B s.1 := r.1.2
  have bad : m_1n x 16 = false ∨ m_lt y 3 = false → wjX12_faultsWith_25 K x y I A := by
    intro hb
    refine q_fails (b := true) (bb (fun q2 => nomatch q2) (fun _ => o.x (c := 0) (s := s) (v := 0) ?_ (Nat.le_refl _) (RM_5 r) w5))
    unfold s_flt
    by_cases h1 : m_1n x 16 = false
    · rw [if_pos h1]
    · rw [if_neg h1]
      rcases hb with q | q
      · exact absurd q h1
      · rw [if_pos q]
  refine q_in ?_
  rw [Int32.toInt_toInt64, show (1 : Int64).toInt = 1 from rfl, show (16 : Int64).toInt = 16 from rfl]
  show (_ ∧ _)
  have e : decide (1 ≤ x.toInt ∧ x.toInt ≤ 16) = m_1n x 16 := rfl
  rw [e]
  refine bb (fun q => bad (Or.inl q)) (fun q => q_inN (n := 2) rfl (bb' (fun q2 => bad (Or.inr q2)) (fun q2 => ?_)))
  refine q_fails (b := false) (bb (fun _ => ?_) (fun q3 => nomatch q3))
  obtain ⟨f, f1, f2, ef, en⟩ := m_1n_of q
  obtain ⟨p, hp, ep⟩ := m_lt_of q2
  have en2 : nn y = p := by rw [ep]; exact nn_nI (by omega)
  have eo : s_flt s x y = (0, nI (m_flt s.1 f p), s) := by unfold s_flt; rw [if_neg (by rw [q]; decide), if_neg (by rw [q2]; decide), en, en2]
  rw [ef, ep]
  exact q_faultsBy e1 iv f1 f2 (by omega) (fun A' hA => o.k eo (Nat.le_refl _) (RM_7 (RM_5 r) hA) w5 rfl)
def m_lf (w : Nat → Int32) (x : Nat) : Option Nat := fi (fun f => decide (m_flt w (f + 1) 2 ≤ x)) 16
def s_lf (s : st_S) (x : Int32) : st_O := if m_lt x 65 = false then (1, 0, s) else if (m_lf s.1 (nn x)).isNone = true then (2, 0, s) else (0, nI ((m_lf s.1 (nn x)).getD 0 + 1), s)
theorem f_lf {B : Nat} {s : st_S} {x : Int32} {K : Int32 → ab_Z → ab_F → ab_F → Prop} {KX : String → ab_Z → ab_F → ab_F → Prop} {Z : ab_Z} {I A : ab_F} (r : RCs B s Z I A) (o : oC [xAr, xEl] B (s_lf s x) K KX) : wX11_leastFrames (fun v I A => K v Z I A) (fun E I A => KX E Z I A) I A x := by
  refine lt1 (n := 64) (by omega) rfl (fun e => ?_) (fun e => ?_)
  · exact dmA (b := false) (fun _ => o.x (c := 0) (by unfold s_lf; rw [if_pos e]) rfl (Nat.le_refl _) r) (fun q => nomatch q)
  · refine dmA (b := true) (fun q => nomatch q) (fun _ => ?_)
    have h1 : ¬ m_lt x 65 = false := by rw [e]; decide
    obtain ⟨j, hj, ej⟩ := m_lt_of e
    have en : nn x = j := by rw [ej]; exact nn_nI (by omega)
    rw [ej]
    have lp2 : ∀ m i I A, i + m = 16 → (∀ k, k < i → ¬ m_flt s.1 (k + 1) 2 ≤ j) → RCs B s Z I A → wlX5_fewestFrames_2 (fun r_5 I_3 A_4 => ((r_5 = (-1 : Int32) → wjX11_leastFrames_44 (fun v I A => K v Z I A) (fun E I A => KX E Z I A) r_5 (nI 0) I_3 A_4) ∧ (¬ r_5 = (-1 : Int32) → wjX11_leastFrames_44 (fun v I A => K v Z I A) (fun E I A => KX E Z I A) r_5 (nI 1) I_3 A_4))) (m + 1) (nI j) (nI (i + 1)) I A := by
      intro m
      induction m with
      | zero =>
        intro i I A hi hb r
        refine br_t ((nI_ltI (by omega) (by omega)).mpr (by omega)) (br_t rfl (dmE (b := false) (fun _ => ?_) (fun q => nomatch q)))
        have hn : m_lf s.1 j = none := fi_none.mpr (fun k hk => decide_eq_false (hb k (by omega)))
        exact o.x (c := 1) (by unfold s_lf; rw [if_neg h1, en, hn]; rfl) rfl (Nat.le_refl _) r
      | succ m ih =>
        intro i I A hi hb r
        refine br_f (fun z => absurd ((nI_ltI (by omega) (by omega)).mp z) (by omega)) (c_countFaults r.1.1 r.1.2 (by omega) (by omega) (by omega) (fun I' A' kc => ?_))
        have hl := flt_le (fr := i + 1) (pol := 2) r.1.2 (by omega)
        rw [nI_ltI (by omega) (by omega)]
        by_cases q : j < m_flt s.1 (i + 1) 2
        · refine br_t q ?_
          rw [nI_add (i + 1) 1]
          exact ih (i + 1) I' A' (by omega) (fun k hk => by
            by_cases z : k = i
            · subst z; omega
            · exact hb k (by omega)) (RC_k r kc)
        · refine br_f q (br_f (nI_m1 (by omega)) (dmE (b := true) (fun q => nomatch q) (fun _ => ?_)))
          have hs : m_lf s.1 j = some i := fi_some (by omega) (decide_eq_true (by omega)) (fun k hk => decide_eq_false (hb k hk))
          exact o.k (by unfold s_lf; rw [if_neg h1, en, hs]; rfl) (Nat.le_refl _) (RC_k r kc)
    exact ⟨17, lp2 16 0 I A rfl (fun k hk => by omega) r⟩
theorem r_lf {B : Nat} {s : st_S} {x : Int32} {K : Int32 → ab_F → ab_F → Prop} {I A : ab_F} (r : RMs B s I A) (o : oM B (s_lf s x) K) : wX12_leastFrames K I A x := by
  have iv : Iv B s.1 := r.1.2
  refine q_inN (n := 64) rfl (bb' (fun q => ?_) (fun q => ?_))
  · refine q_fails (b := true) (bb (fun q2 => nomatch q2) (fun _ => ?_))
    exact o.x (c := 0) (by unfold s_lf; rw [if_pos q]) (Nat.le_refl _) (RM_5 r) w5
  · refine q_fails (b := false) (bb (fun _ => ?_) (fun q2 => nomatch q2))
    have h1 : ¬ m_lt x 65 = false := by rw [q]; decide
    obtain ⟨j, hj, ej⟩ := m_lt_of q
    have en : nn x = j := by rw [ej]; exact nn_nI (by omega)
    rw [ej]
    have r5 : RMs B s (wr I 0 5 (if false = true then nI 1 else nI 0)) A := RM_5 r
    have w0 : wr I 0 5 (if false = true then nI 1 else nI 0) 0 5 = nI 0 := w5
    generalize wr I 0 5 (if false = true then nI 1 else nI 0) = J at r5 w0 ⊢
    have lp2 : ∀ m i A, i + m = 16 → (∀ k, k < i → ¬ m_flt s.1 (k + 1) 2 ≤ j) → RMs B s J A → wlX12_leastFrames_29 K (m + 1) (nI j) (nI (i + 1)) J A := by
      intro m
      induction m with
      | zero =>
        intro i A hi hb r
        refine br_t ((nI_ltI (by omega) (by omega)).mpr (by omega)) ?_
        have hn : m_lf s.1 j = none := fi_none.mpr (fun k hk => decide_eq_false (hb k (by omega)))
        exact o.x (c := 1) (by unfold s_lf; rw [if_neg h1, en, hn]; rfl) (Nat.le_refl _) (RM_5 r) w5
      | succ m ih =>
        intro i A hi hb r
        refine br_f (fun z => absurd ((nI_ltI (by omega) (by omega)).mp z) (by omega)) (q_faultsBy (pol := 2) r.1.1 iv (by omega) (by omega) (by omega) (fun A' hA => ?_))
        have hl := flt_le (fr := i + 1) (pol := 2) iv (by omega)
        rw [nI_ltI (by omega) (by omega)]
        by_cases q : j < m_flt s.1 (i + 1) 2
        · refine br_t q ?_
          rw [nI_add (i + 1) 1]
          exact ih (i + 1) A' (by omega) (fun k hk => by
            by_cases z : k = i
            · subst z; omega
            · exact hb k (by omega)) (RM_7 r hA)
        · refine br_f q ?_
          have hs : m_lf s.1 j = some i := fi_some (by omega) (decide_eq_true (by omega)) (fun k hk => decide_eq_false (hb k hk))
          exact o.k (by unfold s_lf; rw [if_neg h1, en, hs]; rfl) (Nat.le_refl _) (RM_7 r hA) w0 rfl
    exact ⟨17, lp2 16 0 A rfl (fun k hk => by omega) r5⟩
