/-! the reference's rerun as a whole -/
theorem q_betterW {K : Int32 → ab_F → ab_F → Prop} {B f g pol t fr : Nat} {I A : ab_F} {S : sm_S} {w : Nat → Int32} (e1 : A 1 = w) (iv : Iv B w) (x : SI w fr t S) (hfr : fr ≤ 16) (mr : MR w S A) (hf : f < S.1) (hg : g < S.1) (hpol : pol < 3) (ht : t < m_rn w) (hn : ∀ k, k < S.1 → S.2.1 k ≠ m_pgt w t) (h : K (bI (m_bt w pol t S f g)) I A) : wX12_isBetterOut K I A (nI f) (nI g) (nI pol) (nI (m_rn w - 1 - t)) := by
  subst e1
  exact q_better iv x hfr mr hf hg hpol ht hn h
theorem MR_some {w : Nat → Int32} {S : sm_S} {A : ab_F} {f t : Nat} (mr : MR w S A) : MR w (S.1, S.2.1, ud S.2.2.1 f t, S.2.2.2.1, S.2.2.2.2) (wr A 8 f (nI (t + (65 - m_rn w)))) := by
  intro g hg
  have q := mr g hg
  refine ⟨by rw [wr_ne (by decide)]; exact q.1, ?_, by rw [wr_ne (by decide)]; exact q.2.2⟩
  show wr A 8 f _ 8 g = nI (ud S.2.2.1 f t g + _)
  by_cases e : g = f
  · subst e; rw [wr_ate, ud_at]
  · rw [wr_nei e, ud_ne e]; exact q.2.1
theorem MR_none {w : Nat → Int32} {S : sm_S} {A : ab_F} {v t p m2 fa : Nat} (mr : MR w S A) (hm : ∀ g, g < m2 → g ≠ v → g < S.1) : MR w (m2, ud S.2.1 v p, ud S.2.2.1 v t, ud S.2.2.2.1 v t, fa) (wr (wr (wr A 7 v (nI p)) 9 v (nI (t + (65 - m_rn w)))) 8 v (nI (t + (65 - m_rn w)))) := by
  intro g hg
  show wr (wr (wr A 7 v (nI p)) 9 v _) 8 v _ 7 g = nI (ud S.2.1 v p g) ∧ wr (wr (wr A 7 v (nI p)) 9 v _) 8 v _ 8 g = nI (ud S.2.2.1 v t g + _) ∧ wr (wr (wr A 7 v (nI p)) 9 v _) 8 v _ 9 g = nI (ud S.2.2.2.1 v t g + _)
  by_cases e : g = v
  · subst e
    rw [ud_at, ud_at, ud_at]
    exact ⟨by rw [wr_ne (by decide), wr_ne (by decide), wr_ate], wr_ate _ _ _ _, by rw [wr_ne (by decide), wr_ate]⟩
  · have q := mr g (hm g hg e)
    rw [ud_ne e, ud_ne e, ud_ne e]
    exact ⟨by rw [wr_ne (by decide), wr_ne (by decide), wr_nei e]; exact q.1, by rw [wr_nei e, wr_ne (by decide), wr_ne (by decide)]; exact q.2.1, by rw [wr_ne (by decide), wr_nei e, wr_ne (by decide)]; exact q.2.2⟩
theorem q_fb {K : Int32 → ab_F → ab_F → Prop} {B fr pol : Nat} {I : ab_F} {w : Nat → Int32} (iv : Iv B w) (h1 : 1 ≤ fr) (hfr : fr ≤ 16) (hpol : pol < 3) : ∀ (m t : Nat) (A : ab_F), t + m = m_rn w → A 1 = w → MR w (m_sim w fr pol t) A → (∀ A', (∀ c, c ≠ 7 → c ≠ 8 → c ≠ 9 → A' c = A c) → K (nI (m_sim w fr pol (m_rn w)).2.2.2.2) I A') → wlX12_faultsBy_16 K (m + 1) (nI fr) (nI pol) (nI (m_sim w fr pol t).1) (nI (m_sim w fr pol t).2.2.2.2) (nI m + (-1)) I A
  | 0, t, A, ht, e1, mr, h => by
    refine br_t (by decide) ?_
    rw [show t = m_rn w by omega]
    exact h A (fun _ _ _ _ => rfl)
  | m + 1, t, A, ht, e1, mr, h => by
    have hr := (rn_of iv).2.1
    have si := SI_sim (pol := pol) iv h1 t (by omega)
    have pt := pgt_of iv (t := t) (by omega)
    rw [pred_1]
    have em : m_rn w - 1 - t = m := by omega
    rw [em] at pt
    have nxt : ∀ A', A' 1 = w → MR w (m_sim w fr pol (t + 1)) A' → (∀ c, c ≠ 7 → c ≠ 8 → c ≠ 9 → A' c = A c) → wlX12_faultsBy_16 K (m + 1) (nI fr) (nI pol) (nI (m_sim w fr pol (t + 1)).1) (nI (m_sim w fr pol (t + 1)).2.2.2.2) (nI m + (-1)) I A' := fun A' e2 mr2 ho => q_fb iv h1 hfr hpol m (t + 1) A' (by omega) e2 mr2 (fun A2 ho2 => h A2 (fun c a b d => (ho2 c a b d).trans (ho c a b d)))
    rw [m_sim] at nxt
    generalize m_sim w fr pol t = S at *
    have ht64 : nI 64 - nI m = nI (t + (65 - m_rn w)) := by rw [nI_sb (by omega)]; congr 1; omega
    have hS16 : S.1 ≤ 16 := by have := si.1; omega
    refine br_f (nI_pos (by omega)) ?_
    have j148 : ∀ f, m_fw w t S = some f → wjX12_faultsBy_148 K (wlX12_faultsBy_16 K (m + 1)) (nI fr) (nI pol) (nI S.1) (nI S.2.2.2.2) (nI m) (nI f) I A := by
      intro f hf
      have hf2 := (fi_spec hf).1
      refine ix0 (by omega) ?_
      rw [ht64]
      rw [hf] at nxt
      exact nxt _ (by rw [wr_ne (by decide)]; exact e1) (MR_some mr) (fun c a b d => wr_ne b)
    have j118 : ∀ v, m_fw w t S = none → v = m_nf2 w fr pol t S → ∀ x3, x3 = nI (max S.1 (v + 1)) → wjX12_faultsBy_118 K (wlX12_faultsBy_16 K (m + 1)) (nI fr) (nI pol) x3 (nI S.2.2.2.2 + nI 1) (nI m) (nI v) I A := by
      intro v hn hv x3 hx3
      have hv2 := nf2_lt (w := w) (pol := pol) (t := t) (S := S) h1 si.1
      rw [← hv] at hv2
      subst hx3
      refine ixa (by omega) (ix0 (by omega) (ix0 (by omega) (ix0 (by omega) ?_)))
      rw [ht64, e1, pt.1, nI_add _ 1]
      rw [hn] at nxt
      have e : m_stp w fr pol t S none = (max S.1 (v + 1), ud S.2.1 v (m_pgt w t), ud S.2.2.1 v t, ud S.2.2.2.1 v t, S.2.2.2.2 + 1) := by rw [hv]; rfl
      rw [e] at nxt
      exact nxt _ (by rw [wr_ne (by decide), wr_ne (by decide), wr_ne (by decide)]; exact e1) (MR_none mr (fun g hg hne => by omega)) (fun c a b d => by rw [wr_ne b, wr_ne d, wr_ne a])
    refine lp_fi (W := fun n f => wlX12_faultsBy_24 K (wlX12_faultsBy_16 K (m + 1)) n (nI fr) (nI pol) (nI S.1) (nI S.2.2.2.2) (nI m) (nI f) I A) (p := fun f => decide (S.2.1 f = m_pgt w t)) (e := S.1) (fun n hn => ?_) (fun n f hf hp hn => ?_) (fun n f hf hp hw => ?_)
    · have hno : m_fw w t S = none := fi_none.mpr hn
      have hne : ∀ k, k < S.1 → S.2.1 k ≠ m_pgt w t := fun k hk => of_decide_eq_false (hn k hk)
      refine br_t (nI_le (Nat.le_refl _) (by omega)) (rb_t rfl ?_)
      have hv2 := nf2_lt (w := w) (pol := pol) (t := t) (S := S) h1 si.1
      rw [nI_leI (by omega) (by omega)]
      by_cases q : fr ≤ S.1
      · refine br_t q ?_
        have ev : m_nf2 w fr pol t S = m_vic (m_bt w pol t S) (S.1 - 1) := by unfold m_nf2; rw [if_neg (by omega)]
        refine lp (W := fun n i => wlX12_faultsBy_83 K (wlX12_faultsBy_16 K (m + 1)) n (nI fr) (nI pol) (nI S.1) (nI S.2.2.2.2 + nI 1) (nI m) (nI (m_vic (m_bt w pol t S) i)) (nI (i + 1)) I A) (e := S.1 - 1) (fun n => ?_) (fun n i hi hw => ?_)
        · refine br_t (nI_le (by omega) (by omega)) (j118 _ hno ev.symm _ ?_)
          have := vic_le (m_bt w pol t S) (S.1 - 1)
          rw [show max S.1 (m_vic (m_bt w pol t S) (S.1 - 1) + 1) = S.1 by omega]
        · have := vic_le (m_bt w pol t S) i
          refine br_f (nI_ge (by omega) (by omega)) ?_
          have g := q_betterW (K := fun r_8 I_6 A_7 => ((r_8 = 0 → (wlX12_faultsBy_83 K (wlX12_faultsBy_16 K (m + 1)) n) (nI fr) (nI pol) (nI S.1) (nI S.2.2.2.2 + nI 1) (nI m) (nI (m_vic (m_bt w pol t S) i)) (nI (i + 1) + nI 1) I_6 A_7) ∧ (¬ r_8 = 0 → (wlX12_faultsBy_83 K (wlX12_faultsBy_16 K (m + 1)) n) (nI fr) (nI pol) (nI S.1) (nI S.2.2.2.2 + nI 1) (nI m) (nI (i + 1)) (nI (i + 1) + nI 1) I_6 A_7))) (f := i + 1) (g := m_vic (m_bt w pol t S) i) (I := I) e1 iv si hfr mr (by omega) (by omega) hpol (by omega) hne ?_
          · rw [em] at g; exact g
          · rw [m_vic] at hw
            rw [nI_add (i + 1) 1]
            refine bb (fun q2 => ?_) (fun q2 => ?_)
            · rw [if_neg (by rw [q2]; decide)] at hw; exact hw
            · rw [if_pos q2] at hw; exact hw
      · have ev : m_nf2 w fr pol t S = S.1 := by unfold m_nf2; rw [if_pos (by omega)]
        refine br_f q (j118 S.1 hno ev.symm _ ?_)
        rw [nI_add S.1 1, show max S.1 (S.1 + 1) = S.1 + 1 by omega]
    · have hso : m_fw w t S = some f := fi_some hf hp hn
      refine br_f (nI_ge hf (by omega)) (ix0 (by omega) (ixa (by omega) ?_))
      rw [(mr f hf).1, e1, pt.1]
      refine br_t (by rw [of_decide_eq_true hp]) (rb_f (fun z => ?_) (j148 f hso))
      have := (nI_eq (by omega) (by omega)).mp z
      omega
    · have bf := (si.2.1 f hf).1
      refine br_f (nI_ge hf (by omega)) (ix0 (by omega) (ixa (by omega) ?_))
      rw [(mr f hf).1, e1, pt.1]
      refine br_f (fun z => of_decide_eq_false hp ((nI_eq (by omega) (by omega)).mp z)) ?_
      rw [nI_add f 1]; exact hw
/-- the faults of a rerun -/
def m_flt (w : Nat → Int32) (fr pol : Nat) : Nat := (m_sim w fr pol (m_rn w)).2.2.2.2
theorem flt_le {B : Nat} {w : Nat → Int32} {fr pol : Nat} (iv : Iv B w) (h1 : 1 ≤ fr) : m_flt w fr pol ≤ 64 := by
  have := (SI_sim (pol := pol) iv h1 (m_rn w) (Nat.le_refl _)).2.2.2.1
  have := (rn_of iv).2.1
  unfold m_flt; omega
theorem q_faultsBy {K : Int32 → ab_F → ab_F → Prop} {B fr pol : Nat} {I A : ab_F} {w : Nat → Int32} (e1 : A 1 = w) (iv : Iv B w) (h1 : 1 ≤ fr) (hfr : fr ≤ 16) (hpol : pol < 3) (h : ∀ A', (∀ c, c ≠ 7 → c ≠ 8 → c ≠ 9 → A' c = A c) → K (nI (m_flt w fr pol)) I A') : wX12_faultsBy K I A (nI fr) (nI pol) := by
  refine nm_r (show A 1 12 - nI 1 = nI (m_rn w) + (-1) by rw [e1, (rn_of iv).1]; exact Int32.sub_eq_add_neg _ _) ⟨m_rn w + 1, ?_⟩
  exact q_fb iv h1 hfr hpol (m_rn w) 0 A (by omega) e1 (fun f hf => by have : f < 0 := hf; omega) h
/-! the class's rerun -/
theorem Rs_hi {I A I' A' : ab_F} {w : Nat → Int32} (r : Rs 8 I A w) (h : ∀ c, c < 32 → I' c = I c ∧ A' c = A c) : Rs 8 I' A' w := Rs_off (fun c _ q => h c (by omega)) r
theorem c_look37 {K : ab_F → ab_F → Prop} {B : Nat} {I : ab_F} {w : Nat → Int32} (iv : Iv B w) (e5 : I 34 5 = nI (m_rn w)) : ∀ (m : Nat) (A : ab_F), m ≤ m_rn w → Rs 8 I A w → (∀ t, m ≤ t → t < m_rn w → A 37 t = nI (m_pgt w t) ∧ A 38 t = nI (m_nx w (m_pgt w t) (t + 1))) → (∀ k, k < 48 → A 39 k = nI (m_nx w k m)) → (∀ A', (∀ t, t < m_rn w → A' 37 t = nI (m_pgt w t) ∧ A' 38 t = nI (m_nx w (m_pgt w t) (t + 1))) → (∀ c, c ≠ 37 → c ≠ 38 → c ≠ 39 → A' c = A c) → K I A') → wlX5_lookUp_37 K (m + 1) (nI m + (-1)) I A
  | 0, A, hm, r, ha, hb, h => br_t (by decide) (h A (fun t ht => ha t (by omega) ht) (fun _ _ _ _ => rfl))
  | m + 1, A, hm, r, ha, hb, h => by
    have hr := (rn_of iv).2.1
    have pt := pgt_of iv (t := m) (by omega)
    rw [pred_1]
    refine br_f (nI_pos (by omega)) ?_
    rw [e5, nI_sb (by omega), nI_sb (by omega)]
    refine c_recentAt r iv (by omega) ?_
    rw [pt.1]
    refine ix0 (by omega) (ix0 (by omega) ?_)
    rw [wr_ate]
    refine ix0 pt.2 (ix0 (by omega) (ix0 (by omega) ?_))
    rw [wr_ate]
    refine ix0 pt.2 ?_
    rw [hb _ pt.2]
    refine c_look37 iv e5 m _ (by omega) (Rs_hi r (fun c hc => ⟨rfl, by rw [wr_ne (by omega), wr_ne (by omega), wr_ne (by omega)]⟩)) (fun t h1 h2 => ?_) (fun k hk => ?_) (fun A' h1 h2 => h A' h1 (fun c q1 q2 q3 => by rw [h2 c q1 q2 q3, wr_ne q3, wr_ne q2, wr_ne q1]))
    · by_cases q : t = m
      · subst q
        exact ⟨by rw [wr_ne (by decide), wr_ne (by decide), wr_ate], by rw [wr_ne (by decide), wr_ate]⟩
      · have := ha t (by omega) h2
        exact ⟨by rw [wr_ne (by decide), wr_ne (by decide), wr_nei q]; exact this.1, by rw [wr_ne (by decide), wr_nei q, wr_ne (by decide)]; exact this.2⟩
    · by_cases q : k = m_pgt w m
      · rw [q, wr_ate, nx_hit (by omega) rfl]
      · rw [wr_nei q, wr_ne (by decide), wr_ne (by decide), hb k hk, nx_miss (t := m) (Or.inr (fun z => q z.symm))]
theorem c_lookUp {K : ab_F → ab_F → Prop} {B : Nat} {I A : ab_F} {w : Nat → Int32} (r : Rs 8 I A w) (iv : Iv B w) (h : ∀ A', (∀ t, t < m_rn w → A' 37 t = nI (m_pgt w t) ∧ A' 38 t = nI (m_nx w (m_pgt w t) (t + 1))) → (∀ c, c ≠ 37 → c ≠ 38 → c ≠ 39 → A' c = A c) → K (wr I 34 5 (nI (m_rn w))) A') : wX5_lookUp K I A := by
  refine c_countRecent r iv ?_
  have e5 : wr I 34 5 (nI (m_rn w)) 34 5 = nI (m_rn w) := wr_ate _ _ _ _
  have r2 : Rs 8 (wr I 34 5 (nI (m_rn w))) A w := Rs_hi r (fun c hc => ⟨wr_ne (by omega), rfl⟩)
  generalize wr I 34 5 (nI (m_rn w)) = J at *
  have g : ∃ n, wlX5_lookUp_10 K n (nI 0) J (wrow A 39 (m_cp 0 (fun _ => nI 64) (A 39))) := by
    refine lp (W := fun n i => wlX5_lookUp_10 K n (nI i) J (wrow A 39 (m_cp i (fun _ => nI 64) (A 39)))) (e := 48) (fun n => ?_) (fun n i hi hw => ?_)
    · refine br_t (nI_le (Nat.le_refl _) (by omega)) (nm_r (show J 34 5 - nI 1 = nI (m_rn w) + (-1) by rw [e5]; exact Int32.sub_eq_add_neg _ _) ⟨m_rn w + 1, ?_⟩)
      refine c_look37 iv e5 (m_rn w) _ (Nat.le_refl _) (Rs_hi r2 (fun c hc => ⟨rfl, wrow_ne (by omega)⟩)) (fun t h1 h2 => by omega) (fun k hk => ?_) (fun A' h1 h2 => h A' h1 (fun c q1 q2 q3 => by rw [h2 c q1 q2 q3, wrow_ne q3]))
      rw [wrow_at, cp_at hk, nx_end (Nat.le_refl _)]
    · refine br_f (nI_ge hi (by omega)) (ix0 hi ?_)
      simp only [wr_w, wrow_wrow, wrow_at]
      rw [m_cp_st (fun _ => nI 64), nI_add i 1]; exact hw
  rw [m_cp_0, wrow_id] at g
  exact g
