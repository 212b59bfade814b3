/-! the recent accesses run again, with other frames -/
/-- the page of the t-th of the recent accesses, the oldest first -/
def m_pgt (w : Nat → Int32) (t : Nat) : Nat := nn (w (512 + (m_rn w - 1 - t)))
theorem pgt_of {B : Nat} {w : Nat → Int32} (iv : Iv B w) {t : Nat} (h : t < m_rn w) : w (512 + (m_rn w - 1 - t)) = nI (m_pgt w t) ∧ m_pgt w t < 48 := by
  obtain ⟨k, hk, -, e⟩ := (rn_of iv).2.2 (m_rn w - 1 - t) (by omega)
  have : m_pgt w t = k := by unfold m_pgt; rw [e]; exact nn_nI (by omega)
  rw [this]
  exact ⟨e, hk⟩
/-- when page p comes, from time t on; 64: never -/
def m_nx (w : Nat → Int32) (p t : Nat) : Nat := (fi (fun v => decide (t ≤ v ∧ m_pgt w v = p)) (m_rn w)).getD 64
theorem nx_hit {w : Nat → Int32} {p t : Nat} (h : t < m_rn w) (e : m_pgt w t = p) : m_nx w p t = t := by
  unfold m_nx
  rw [fi_some h (decide_eq_true ⟨Nat.le_refl t, e⟩) (fun j hj => decide_eq_false (by omega))]
  rfl
theorem nx_miss {w : Nat → Int32} {p t : Nat} (h : m_rn w ≤ t ∨ m_pgt w t ≠ p) : m_nx w p t = m_nx w p (t + 1) := by
  have e : fi (fun v => decide (t ≤ v ∧ m_pgt w v = p)) (m_rn w) = fi (fun v => decide (t + 1 ≤ v ∧ m_pgt w v = p)) (m_rn w) := fi_congr (fun v hv => by
    show decide (t ≤ v ∧ m_pgt w v = p) = decide (t + 1 ≤ v ∧ m_pgt w v = p)
    by_cases q : v = t
    · subst q
      rw [decide_eq_false (show ¬ (v + 1 ≤ v ∧ m_pgt w v = p) by omega)]
      rcases h with h | h
      · omega
      · exact decide_eq_false (fun z => h z.2)
    · congr 1
      apply propext
      constructor
      · rintro ⟨a, b⟩; exact ⟨by omega, b⟩
      · rintro ⟨a, b⟩; exact ⟨by omega, b⟩)
  unfold m_nx
  rw [e]
theorem nx_end {w : Nat → Int32} {p t : Nat} (h : m_rn w ≤ t) : m_nx w p t = 64 := by
  unfold m_nx
  rw [fi_none.mpr (fun k hk => decide_eq_false (by omega))]
  rfl
theorem nx_of {w : Nat → Int32} {p t : Nat} (h : m_rn w ≤ 64) : m_nx w p t = 64 ∨ (t ≤ m_nx w p t ∧ m_nx w p t < m_rn w ∧ m_nx w p t < 64 ∧ m_pgt w (m_nx w p t) = p) := by
  unfold m_nx
  cases e : fi (fun v => decide (t ≤ v ∧ m_pgt w v = p)) (m_rn w) with
  | none => exact Or.inl rfl
  | some v =>
    obtain ⟨a, b, -⟩ := fi_spec e
    have b2 := of_decide_eq_true b
    exact Or.inr ⟨b2.1, a, by show v < 64; omega, b2.2⟩
theorem nx_le {w : Nat → Int32} {p t : Nat} (h : m_rn w ≤ 64) : m_nx w p t ≤ 64 := by
  rcases nx_of (p := p) (t := t) h with q | q <;> omega
def ud (f : Nat → Nat) (i v : Nat) : Nat → Nat := fun j => if j = i then v else f j
theorem ud_at (f : Nat → Nat) (i v : Nat) : ud f i v i = v := by simp [ud]
theorem ud_ne {f : Nat → Nat} {i j v : Nat} (h : j ≠ i) : ud f i v j = f j := by simp [ud, h]
abbrev sm_S : Type := Nat × (Nat → Nat) × (Nat → Nat) × (Nat → Nat) × Nat
/-- frame f goes rather than g -/
def m_bt (w : Nat → Int32) (pol t : Nat) (S : sm_S) (f g : Nat) : Bool :=
  if pol = 0 then decide (S.2.2.1 f < S.2.2.1 g) else if pol = 1 then decide (S.2.2.2.1 f < S.2.2.2.1 g) else decide (m_nx w (S.2.1 g) t < m_nx w (S.2.1 f) t ∨ (m_nx w (S.2.1 f) t = m_nx w (S.2.1 g) t ∧ S.2.1 f < S.2.1 g))
def m_vic (bt : Nat → Nat → Bool) : Nat → Nat
  | 0 => 0
  | n + 1 => if bt (n + 1) (m_vic bt n) = true then n + 1 else m_vic bt n
theorem vic_le (bt : Nat → Nat → Bool) : ∀ n, m_vic bt n ≤ n
  | 0 => Nat.le_refl 0
  | n + 1 => by have := vic_le bt n; rw [m_vic]; split <;> omega
def m_fw (w : Nat → Int32) (t : Nat) (S : sm_S) : Option Nat := fi (fun f => decide (S.2.1 f = m_pgt w t)) S.1
def m_nf2 (w : Nat → Int32) (fr pol t : Nat) (S : sm_S) : Nat := if S.1 < fr then S.1 else m_vic (m_bt w pol t S) (S.1 - 1)
def m_stp (w : Nat → Int32) (fr pol t : Nat) (S : sm_S) : Option Nat → sm_S
  | some f => (S.1, S.2.1, ud S.2.2.1 f t, S.2.2.2.1, S.2.2.2.2)
  | none => (max S.1 (m_nf2 w fr pol t S + 1), ud S.2.1 (m_nf2 w fr pol t S) (m_pgt w t), ud S.2.2.1 (m_nf2 w fr pol t S) t, ud S.2.2.2.1 (m_nf2 w fr pol t S) t, S.2.2.2.2 + 1)
def m_sim (w : Nat → Int32) (fr pol : Nat) : Nat → sm_S
  | 0 => (0, fun _ => 0, fun _ => 0, fun _ => 0, 0)
  | t + 1 => m_stp w fr pol t (m_sim w fr pol t) (m_fw w t (m_sim w fr pol t))
def SI (w : Nat → Int32) (fr t : Nat) (S : sm_S) : Prop := S.1 ≤ fr ∧ (∀ f, f < S.1 → S.2.1 f < 48 ∧ S.2.2.1 f < t ∧ S.2.2.2.1 f < t) ∧ (∀ f g, f < S.1 → g < S.1 → f ≠ g → S.2.1 f ≠ S.2.1 g ∧ S.2.2.1 f ≠ S.2.2.1 g ∧ S.2.2.2.1 f ≠ S.2.2.2.1 g) ∧ S.2.2.2.2 ≤ t ∧ (S.1 = 0 → t = 0)
theorem nf2_lt {w : Nat → Int32} {fr pol t : Nat} {S : sm_S} (h1 : 1 ≤ fr) (h : S.1 ≤ fr) : m_nf2 w fr pol t S < fr ∧ (m_nf2 w fr pol t S < S.1 ∨ (m_nf2 w fr pol t S = S.1 ∧ S.1 < fr)) := by
  unfold m_nf2
  by_cases q : S.1 < fr
  · rw [if_pos q]; exact ⟨q, Or.inr ⟨rfl, q⟩⟩
  · rw [if_neg q]
    have := vic_le (m_bt w pol t S) (S.1 - 1)
    exact ⟨by omega, Or.inl (by omega)⟩
theorem SI_stp {B : Nat} {w : Nat → Int32} {fr pol t : Nat} {S : sm_S} (iv : Iv B w) (h1 : 1 ≤ fr) (ht : t < m_rn w) (x : SI w fr t S) : SI w fr (t + 1) (m_stp w fr pol t S (m_fw w t S)) := by
  obtain ⟨a, b, c, d, e⟩ := x
  cases h : m_fw w t S with
  | some f =>
    obtain ⟨hf, -, -⟩ := fi_spec h
    refine ⟨a, fun g hg => ?_, fun g k hg hk hgk => ?_, by show S.2.2.2.2 ≤ t + 1; omega, fun q => by have q2 : S.1 = 0 := q; omega⟩
    · have := b g hg
      refine ⟨this.1, ?_, by show S.2.2.2.1 g < t + 1; omega⟩
      show ud S.2.2.1 f t g < t + 1
      by_cases q : g = f
      · subst q; rw [ud_at]; omega
      · rw [ud_ne q]; omega
    · have q1 := c g k hg hk hgk
      refine ⟨q1.1, ?_, q1.2.2⟩
      show ud S.2.2.1 f t g ≠ ud S.2.2.1 f t k
      have := (b g hg).2.1
      have := (b k hk).2.1
      by_cases q : g = f
      · subst q; rw [ud_at, ud_ne (fun z => hgk z.symm)]; omega
      · rw [ud_ne q]
        by_cases q2 : k = f
        · subst q2; rw [ud_at]; omega
        · rw [ud_ne q2]; exact q1.2.1
  | none =>
    have hn := fi_none.mp h
    have hv := nf2_lt (w := w) (pol := pol) (t := t) (S := S) h1 a
    have hp := (pgt_of iv ht).2
    generalize hvv : m_nf2 w fr pol t S = v at hv
    have e1 : m_stp w fr pol t S none = (max S.1 (v + 1), ud S.2.1 v (m_pgt w t), ud S.2.2.1 v t, ud S.2.2.2.1 v t, S.2.2.2.2 + 1) := by rw [← hvv]; rfl
    rw [e1]
    have hm : ∀ g, g < max S.1 (v + 1) → g ≠ v → g < S.1 := fun g hg hne => by omega
    refine ⟨by show max S.1 (v + 1) ≤ fr; omega, fun g hg => ?_, fun g k hg hk hgk => ?_, by show S.2.2.2.2 + 1 ≤ t + 1; omega, fun q => by have q2 : max S.1 (v + 1) = 0 := q; omega⟩
    · by_cases q : g = v
      · subst q
        show ud S.2.1 g _ g < 48 ∧ ud S.2.2.1 g t g < t + 1 ∧ ud S.2.2.2.1 g t g < t + 1
        rw [ud_at, ud_at, ud_at]; exact ⟨hp, by omega, by omega⟩
      · have := b g (hm g hg q)
        show ud S.2.1 v _ g < 48 ∧ ud S.2.2.1 v t g < t + 1 ∧ ud S.2.2.2.1 v t g < t + 1
        rw [ud_ne q, ud_ne q, ud_ne q]; exact ⟨this.1, by omega, by omega⟩
    · show ud S.2.1 v _ g ≠ ud S.2.1 v _ k ∧ ud S.2.2.1 v t g ≠ ud S.2.2.1 v t k ∧ ud S.2.2.2.1 v t g ≠ ud S.2.2.2.1 v t k
      by_cases q : g = v
      · subst q
        have hk2 := hm k hk (fun z => hgk z.symm)
        have b2 := b k hk2
        have n2 := of_decide_eq_false (hn k hk2)
        rw [ud_at, ud_at, ud_at, ud_ne (fun z => hgk z.symm), ud_ne (fun z => hgk z.symm), ud_ne (fun z => hgk z.symm)]
        exact ⟨fun z => n2 z.symm, by omega, by omega⟩
      · have hg2 := hm g hg q
        rw [ud_ne q, ud_ne q, ud_ne q]
        by_cases q2 : k = v
        · subst q2
          have b2 := b g hg2
          have n2 := of_decide_eq_false (hn g hg2)
          rw [ud_at, ud_at, ud_at]
          exact ⟨n2, by omega, by omega⟩
        · rw [ud_ne q2, ud_ne q2, ud_ne q2]
          exact c g k hg2 (hm k hk q2) hgk
theorem SI_sim {B : Nat} {w : Nat → Int32} {fr pol : Nat} (iv : Iv B w) (h1 : 1 ≤ fr) : ∀ t, t ≤ m_rn w → SI w fr t (m_sim w fr pol t)
  | 0, _ => ⟨Nat.zero_le _, fun f hf => by have : f < 0 := hf; omega, fun f g hf => by have : f < 0 := hf; omega, Nat.le_refl 0, fun _ => rfl⟩
  | t + 1, h => SI_stp iv h1 (by omega) (SI_sim iv h1 t (by omega))
/-! the reference's rerun -/
/-- the reference's arrays stand for the state of a rerun -/
def MR (w : Nat → Int32) (S : sm_S) (A : ab_F) : Prop := ∀ f, f < S.1 → A 7 f = nI (S.2.1 f) ∧ A 8 f = nI (S.2.2.1 f + (65 - m_rn w)) ∧ A 9 f = nI (S.2.2.2.1 f + (65 - m_rn w))
theorem pred_1 (m : Nat) : nI (m + 1) + (-1 : Int32) = nI m := by rw [← nI_add m 1, Int32.add_assoc, show nI 1 + (-1 : Int32) = 0 from rfl, Int32.add_zero]
theorem q_nextOf4 {K : Int32 → ab_F → ab_F → Prop} {B p t at0 : Nat} {I A : ab_F} (iv : Iv B (A 1)) (hp : p < 48) (hat : at0 = m_rn (A 1) - 1 - t) (ht : t < m_rn (A 1)) : ∀ m v, v + m = m_rn (A 1) → t < v → K (if m_nx (A 1) p v = 64 then nI 1000 else nI (m_nx (A 1) p v - t)) I A → wlX12_nextOf_4 K (m + 1) (nI p) (nI at0) (nI m + (-1)) I A
  | 0, v, hv, htv, h => by
    refine br_t (by decide) ?_
    rw [if_pos (nx_end (by omega))] at h; exact h
  | m + 1, v, hv, htv, h => by
    have hr := (rn_of iv).2.1
    have pv := pgt_of iv (t := v) (by omega)
    rw [show m_rn (A 1) - 1 - v = m by omega] at pv
    rw [pred_1]
    refine br_f (nI_pos (by omega)) (ixa (by omega) ?_)
    rw [pv.1]
    by_cases q : m_pgt (A 1) v = p
    · rw [nx_hit (by omega) q, if_neg (by omega)] at h
      refine rb_t (by rw [q]) ?_
      rw [nI_sb (by omega), show at0 - m = v - t by omega]; exact h
    · rw [nx_miss (Or.inr q)] at h
      refine rb_f (fun z => q ((nI_eq (by omega) (by omega)).mp z)) ?_
      exact q_nextOf4 iv hp hat ht m (v + 1) (by omega) (by omega) h
theorem q_nextOf {K : Int32 → ab_F → ab_F → Prop} {B p t : Nat} {I A : ab_F} (iv : Iv B (A 1)) (hp : p < 48) (ht : t < m_rn (A 1)) (hn : m_pgt (A 1) t ≠ p) (h : K (if m_nx (A 1) p t = 64 then nI 1000 else nI (m_nx (A 1) p t - t)) I A) : wX12_nextOf K I A (nI p) (nI (m_rn (A 1) - 1 - t)) := by
  rw [nx_miss (Or.inr hn)] at h
  refine nm_r (show nI (m_rn (A 1) - 1 - t) - nI 1 = nI (m_rn (A 1) - 1 - t) + (-1) from Int32.sub_eq_add_neg _ _) ⟨m_rn (A 1) - 1 - t + 1, ?_⟩
  exact q_nextOf4 iv hp rfl ht (m_rn (A 1) - 1 - t) (t + 1) (by omega) (by omega) h
theorem q_better {K : Int32 → ab_F → ab_F → Prop} {B f g pol t fr : Nat} {I A : ab_F} {S : sm_S} (iv : Iv B (A 1)) (x : SI (A 1) fr t S) (hfr : fr ≤ 16) (mr : MR (A 1) S A) (hf : f < S.1) (hg : g < S.1) (hpol : pol < 3) (ht : t < m_rn (A 1)) (hn : ∀ k, k < S.1 → S.2.1 k ≠ m_pgt (A 1) t) (h : K (bI (m_bt (A 1) pol t S f g)) I A) : wX12_isBetterOut K I A (nI f) (nI g) (nI pol) (nI (m_rn (A 1) - 1 - t)) := by
  obtain ⟨a, b, c, d, -⟩ := x
  have hr := (rn_of iv).2.1
  have bf := b f hf
  have bg := b g hg
  have mf := mr f hf
  have mg := mr g hg
  have fin : ∀ (u v : Nat), u < 200 → v < 200 → m_bt (A 1) pol t S f g = decide (u < v) → (nI v ≤ nI u → K (nI 0) I A) ∧ (¬ nI v ≤ nI u → K (nI 1) I A) := by
    intro u v hu hv e
    rw [e] at h
    rw [nI_leI (by omega) (by omega)]
    by_cases q : v ≤ u
    · rw [decide_eq_false (by omega)] at h; exact br_t q h
    · rw [decide_eq_true (by omega)] at h; exact br_f q h
  unfold wX12_isBetterOut
  have hp : pol = 0 ∨ pol = 1 ∨ pol = 2 := by omega
  rcases hp with e | e | e <;> subst e
  · refine rb_t rfl (ix0 (by omega) (ix0 (by omega) ?_))
    rw [mf.2.1, mg.2.1]
    exact fin _ _ (by omega) (by omega) (by unfold m_bt; rw [if_pos rfl]; congr 1; apply propext; omega)
  · refine rb_f (by decide) (rb_t rfl (ix0 (by omega) (ix0 (by omega) ?_)))
    rw [mf.2.2, mg.2.2]
    exact fin _ _ (by omega) (by omega) (by unfold m_bt; rw [if_neg (by omega), if_pos rfl]; congr 1; apply propext; omega)
  · refine rb_f (by decide) (rb_f (by decide) (ix0 (by omega) ?_))
    rw [mf.1]
    refine q_nextOf iv bf.1 ht (fun z => hn f hf z.symm) (ix0 (by omega) ?_)
    rw [mg.1]
    refine q_nextOf iv bg.1 ht (fun z => hn g hg z.symm) ?_
    have hbt : m_bt (A 1) 2 t S f g = decide (m_nx (A 1) (S.2.1 g) t < m_nx (A 1) (S.2.1 f) t ∨ (m_nx (A 1) (S.2.1 f) t = m_nx (A 1) (S.2.1 g) t ∧ S.2.1 f < S.2.1 g)) := by unfold m_bt; rw [if_neg (by omega), if_neg (by omega)]
    rw [hbt] at h
    have nf := nx_of (p := S.2.1 f) (t := t) hr
    have ng := nx_of (p := S.2.1 g) (t := t) hr
    generalize m_nx (A 1) (S.2.1 f) t = nf0 at *
    generalize m_nx (A 1) (S.2.1 g) t = ng0 at *
    have cv : ∀ n, n ≤ 64 → (if n = 64 then nI 1000 else nI (n - t)) = nI (if n = 64 then 1000 else n - t) := fun n _ => by split <;> rfl
    rw [cv nf0 (by omega), cv ng0 (by omega)]
    have hb1 : (if nf0 = 64 then 1000 else nf0 - t) < 2000 := by split <;> omega
    have hb2 : (if ng0 = 64 then 1000 else ng0 - t) < 2000 := by split <;> omega
    rw [nI_ltI (by omega) (by omega), nI_eq (by omega) (by omega)]
    have e1 : (if ng0 = 64 then 1000 else ng0 - t) < (if nf0 = 64 then 1000 else nf0 - t) ↔ ng0 < nf0 := by split <;> split <;> omega
    have e2 : (if nf0 = 64 then 1000 else nf0 - t) = (if ng0 = 64 then 1000 else ng0 - t) ↔ nf0 = ng0 := by split <;> split <;> omega
    rw [e1, e2]
    by_cases q1 : ng0 < nf0
    · rw [decide_eq_true (Or.inl q1)] at h; exact br_t q1 h
    · refine br_f q1 ?_
      by_cases q2 : nf0 = ng0
      · refine rb_t q2 (ix0 (by omega) (ix0 (by omega) ?_))
        rw [mf.1, mg.1, nI_leI (by omega) (by omega)]
        by_cases q3 : S.2.1 g ≤ S.2.1 f
        · rw [decide_eq_false (by omega)] at h; exact br_t q3 h
        · rw [decide_eq_true (by omega)] at h; exact br_f q3 h
      · rw [decide_eq_false (by omega)] at h; exact rb_f q2 h
