/-! free slots in the order in which they are taken -/
theorem so_iff {w : Nat → Int32} {s t : Nat} : m_so w s t = true ↔ (w (464 + s)).toInt < (w (464 + t)).toInt ∨ ((w (464 + s)).toInt = (w (464 + t)).toInt ∧ s < t) := by
  unfold m_so
  rw [decide_eq_true_iff, Int32.lt_iff_toInt_lt, ← Int32.toInt_inj]
theorem so_f {w : Nat → Int32} {s t : Nat} (h : m_so w s t = false) : ¬ ((w (464 + s)).toInt < (w (464 + t)).toInt ∨ ((w (464 + s)).toInt = (w (464 + t)).toInt ∧ s < t)) := fun q => by
  rw [so_iff.mpr q] at h; exact nomatch h
theorem so_f' {w : Nat → Int32} {s t : Nat} (h : ¬ ((w (464 + s)).toInt < (w (464 + t)).toInt ∨ ((w (464 + s)).toInt = (w (464 + t)).toInt ∧ s < t))) : m_so w s t = false := b_f (fun q => h (so_iff.mp q))
theorem ls_min {w : Nat → Int32} {p : Nat → Bool} : ∀ {n b : Nat}, ls (m_so w) p n = some b → ∀ k, k < n → p k = true → m_so w k b = false
  | 0, b, h, k, hk, hp => by omega
  | n + 1, b, h, k, hk, hp => by
    rw [ls] at h
    cases e : ls (m_so w) p n with
    | none =>
      rw [e] at h
      simp only at h
      have hn := ls_none.mp e
      split at h
      · cases h
        by_cases q : k = n
        · subst q; exact so_f' (by omega)
        · rw [hn k (by omega)] at hp; exact nomatch hp
      · cases h
    | some c =>
      rw [e] at h
      simp only at h
      have ih := ls_min e
      split at h
      · rename_i hc
        cases h
        by_cases q : k = n
        · subst q; exact so_f' (by omega)
        · have h1 := so_f (ih k (by omega) hp)
          have h2 := so_iff.mp hc.2
          exact so_f' (by omega)
      · rename_i hc
        cases h
        by_cases q : k = n
        · subst q
          exact b_f (fun q2 => hc ⟨hp, q2⟩)
        · exact ih k (by omega) hp
/-- how many free slots are taken ahead of s -/
def m_rank (w : Nat → Int32) (s : Nat) : Nat := cn (fun o => m_fr w o && m_so w o s) (m_S w)
theorem cn_lt {p q : Nat → Bool} {k : Nat} (hpq : ∀ i, p i = true → q i = true) (hk : p k = false) (hq : q k = true) : ∀ {n : Nat}, k < n → cn p n < cn q n
  | 0, h => by omega
  | n + 1, h => by
    have le : ∀ m, cn p m ≤ cn q m := by
      intro m
      induction m with
      | zero => exact Nat.le_refl _
      | succ m ih =>
        rw [cn, cn]
        cases e : p m with
        | true => rw [hpq m e]; omega
        | false => rw [if_neg (by decide)]; omega
    rw [cn, cn]
    by_cases e : k = n
    · subst e; rw [hk, hq]; have := le k; simp; omega
    · have ih := cn_lt hpq hk hq (n := n) (by omega)
      cases e2 : p n with
      | true => rw [hpq n e2]; omega
      | false => rw [if_neg (by decide)]; omega
theorem rank_lt {w : Nat → Int32} {a b : Nat} (ha : a < m_S w) (hf : m_fr w a = true) (h : m_so w a b = true) : m_rank w a < m_rank w b := by
  unfold m_rank
  refine cn_lt (k := a) (fun i hi => ?_) ?_ ?_ ha
  · have h1 := Bool.and_eq_true_iff.mp hi
    have h2 := so_iff.mp h1.2
    have h3 := so_iff.mp h
    rw [h1.1, so_iff.mpr (by omega)]; rfl
  · rw [so_f' (by omega), Bool.and_false]
  · rw [hf, h]; rfl
theorem rank_inj {w : Nat → Int32} {a b : Nat} (ha : a < m_S w) (hb : b < m_S w) (fa : m_fr w a = true) (fb : m_fr w b = true) (h : m_rank w a = m_rank w b) : a = b := by
  by_cases h1 : m_so w a b = true
  · have := rank_lt ha fa h1; omega
  · by_cases h2 : m_so w b a = true
    · have := rank_lt hb fb h2; omega
    · have h3 := so_f (b_f h1)
      have h4 := so_f (b_f h2)
      omega
theorem rank_free {w : Nat → Int32} {a : Nat} (ha : a < m_S w) (fa : m_fr w a = true) : m_rank w a < m_free w := by
  unfold m_rank m_free
  refine cn_lt (k := a) (fun i hi => (Bool.and_eq_true_iff.mp hi).1) ?_ fa ha
  rw [so_f' (by omega), Bool.and_false]
/-- the i-th free slot -/
def m_fsl (w : Nat → Int32) (i : Nat) : Option Nat := fi (fun s => m_fr w s && decide (m_rank w s = i)) (m_S w)
theorem c_leastG {K : Int32 → ab_F → ab_F → Prop} {I A : ab_F} {w : Nat → Int32} {f : Nat → Bool} (r : Rs 8 I A w) (z : Sz w) (hu : ∀ s, s < 48 → (A 31 s = 0 ↔ f s = true)) (h : K (oI (ls (m_so w) f (m_S w))) I A) : wX8_leastStampedUnused K I A := by
  have hS := z.2.1.2
  have e0 : I 20 0 = nI (m_S w) := r.1.2.2.1.trans z.2.1.1
  have e23 : ∀ s, s < 48 → A 23 s = w (464 + s) := fun s hs => (r.1.2.2.2.2 s hs).2.2
  refine lp (W := fun n i => wlX8_leastStampedUnused_4 K n (oI (ls (m_so w) f i)) (nI i) I A) (e := m_S w) (fun n => ?_) (fun n i hi hw => ?_)
  · exact br_t (by rw [e0]; exact nI_le (Nat.le_refl _) (by omega)) h
  · refine br_f (by rw [e0]; exact nI_ge hi (by omega)) (ix0 (by omega) ?_)
    rw [ls] at hw
    by_cases q : A 31 i = 0
    · have e := (hu i (by omega)).mp q
      refine rb_t q ?_
      rw [e] at hw
      refine br_f (by decide) ?_
      rw [nI_add i 1]
      cases ho : ls (m_so w) f i with
      | none => rw [ho] at hw; exact br_t rfl hw
      | some b =>
        rw [ho] at hw
        have hb := (ls_lt ho).1
        refine br_f (nI_m1 (by omega)) (ix0 (by omega) (ix0 (by omega) ?_))
        rw [e23 i (by omega), e23 b (by omega)]
        by_cases h3 : w (464 + b) ≤ w (464 + i)
        · refine br_t h3 ?_
          have e3 : m_so w i b = false := decide_eq_false (fun q => by
            rcases q with q | q
            · rw [Int32.lt_iff_toInt_lt] at q; rw [Int32.le_iff_toInt_le] at h3; omega
            · omega)
          simp only [e3, Bool.false_eq_true, and_false, if_false] at hw
          exact hw
        · refine br_f h3 ?_
          have e3 : m_so w i b = true := decide_eq_true (Or.inl (by rw [Int32.lt_iff_toInt_lt]; rw [Int32.le_iff_toInt_le] at h3; omega))
          simp only [e3, and_self, if_true] at hw
          exact hw
    · have e : f i = false := b_f (fun q2 => q ((hu i (by omega)).mpr q2))
      refine rb_f q ?_
      rw [e] at hw
      refine br_t (by decide) ?_
      rw [nI_add i 1]
      cases ho : ls (m_so w) f i with
      | none => rw [ho] at hw; exact hw
      | some b => rw [ho] at hw; simp only [Bool.false_eq_true, false_and, if_false] at hw; exact hw
/-- what was taken: free slots, closed downwards, i of them -/
def Tk (w : Nat → Int32) (M : Nat → Bool) (i : Nat) : Prop := (∀ o, M o = true → m_fr w o = true ∧ o < m_S w) ∧ (∀ o o', M o = true → o' < m_S w → m_fr w o' = true → m_so w o' o = true → M o' = true) ∧ cn M (m_S w) = i
theorem tk_next {w : Nat → Int32} {M : Nat → Bool} {i m : Nat} (t : Tk w M i) (h : ls (m_so w) (fun s => m_fr w s && !M s) (m_S w) = some m) : m < m_S w ∧ m_fr w m = true ∧ M m = false ∧ m_rank w m = i ∧ Tk w (fun s => M s || decide (s = m)) (i + 1) := by
  obtain ⟨h1, h2⟩ := ls_lt h
  have h3 := Bool.and_eq_true_iff.mp h2
  have hM : M m = false := nb_t h3.2
  have hmin := ls_min h
  have hr : ∀ o, o < m_S w → (m_fr w o && m_so w o m) = M o := by
    intro o ho
    cases e : M o with
    | true =>
      have q := t.1 o e
      have hs : m_so w o m = true := by
        cases e2 : m_so w o m with
        | true => rfl
        | false =>
          have hn : o ≠ m := fun z => by rw [z, hM] at e; exact nomatch e
          have h4 := so_f e2
          have h5 : m_so w m o = true := so_iff.mpr (by omega)
          rw [t.2.1 o m e h1 h3.1 h5] at hM; exact nomatch hM
      rw [q.1, hs]; rfl
    | false =>
      cases e2 : m_fr w o with
      | false => rfl
      | true => rw [hmin o ho (by show (m_fr w o && !M o) = true; rw [e2, e]; rfl)]; rfl
  refine ⟨h1, h3.1, hM, ?_, ?_, ?_, ?_⟩
  · unfold m_rank
    rw [cn_congr hr]; exact t.2.2
  · intro o ho
    replace ho : (M o || decide (o = m)) = true := ho
    by_cases e : o = m
    · subst e; exact ⟨h3.1, h1⟩
    · rw [decide_eq_false e, Bool.or_false] at ho
      exact t.1 o ho
  · intro o o' ho ho' fo' so'
    replace ho : (M o || decide (o = m)) = true := ho
    show (M o' || decide (o' = m)) = true
    by_cases e : o = m
    · subst e
      have q := hr o' ho'
      rw [fo', so'] at q
      rw [← q]; rfl
    · rw [decide_eq_false e, Bool.or_false] at ho
      rw [t.2.1 o o' ho ho' fo' so']; rfl
  · have e := cn_and (p := fun s => M s || decide (s = m)) (t := m) (by show (M m || decide (m = m)) = true; rw [decide_eq_true rfl, Bool.or_true]) (m_S w)
    rw [e, if_pos h1]
    congr 1
    rw [← t.2.2]
    refine cn_congr (fun o ho => ?_)
    show ((M o || decide (o = m)) && !decide (o = m)) = M o
    by_cases q : o = m
    · subst q; rw [hM, decide_eq_true rfl]; rfl
    · rw [decide_eq_false q, Bool.or_false, Bool.not_false, Bool.and_true]
theorem tk_ex {w : Nat → Int32} {M : Nat → Bool} {i : Nat} (t : Tk w M i) (hi : i < m_free w) : ∃ m, ls (m_so w) (fun s => m_fr w s && !M s) (m_S w) = some m := by
  cases e : ls (m_so w) (fun s => m_fr w s && !M s) (m_S w) with
  | some m => exact ⟨m, rfl⟩
  | none =>
    exfalso
    have hn := ls_none.mp e
    have : m_free w = cn M (m_S w) := cn_congr (fun o ho => by
      have q : (m_fr w o && !M o) = false := hn o ho
      cases e1 : M o with
      | true => exact (t.1 o e1).1
      | false => rw [e1] at q; simpa using q)
    have := t.2.2
    omega
theorem c_freeAt {K : Int32 → ab_F → ab_F → Prop} {B x : Nat} {w : Nat → Int32} (iv : Iv B w) (hx : x < m_free w) : ∀ (l i m : Nat) (M : Nat → Bool) (I A : ab_F), i + l = x → Rs 8 I A w → Tk w M i → ls (m_so w) (fun s => m_fr w s && !M s) (m_S w) = some m → (∀ s, s < 48 → (A 31 s = 0 ↔ (m_fr w s && !M s) = true)) → (∀ u, K (oI (m_fsl w x)) I (wrow A 31 u)) → wlX8_freeAt_12 K (l + 1) (nI x) (nI m) (nI i) I A
  | 0, i, m, M, I, A, hi, r, t, hm, hu, h => by
    have hS := iv.1.2.1.2
    obtain ⟨h1, h2, h3, h4, -⟩ := tk_next t hm
    refine br_t (nI_le (by omega) (by unfold m_free at hx; have := cn_le (p := m_fr w) (m_S w); omega)) ?_
    have e : m_fsl w x = some m := fi_some h1 (by show (m_fr w m && decide (m_rank w m = x)) = true; rw [h2, decide_eq_true (by omega)]; rfl) (fun j hj => b_f (fun q => by
      have q1 := Bool.and_eq_true_iff.mp q
      have q2 := of_decide_eq_true q1.2
      have := rank_inj (by omega) h1 q1.1 h2 (by omega)
      omega))
    have g := h (A 31)
    rw [wrow_id, e] at g
    exact g
  | l + 1, i, m, M, I, A, hi, r, t, hm, hu, h => by
    have hS := iv.1.2.1.2
    have hfl : m_free w ≤ m_S w := cn_le (m_S w)
    obtain ⟨h1, h2, h3, h4, t2⟩ := tk_next t hm
    refine br_f (nI_ge (by omega) (by omega)) (br_f (nI_m1 (by omega)) (ix0 (by omega) ?_))
    rw [wr_w]
    obtain ⟨m2, hm2⟩ := tk_ex t2 (by omega)
    have hu2 : ∀ s, s < 48 → (wrow A 31 (uw (A 31) m (nI 1)) 31 s = 0 ↔ (m_fr w s && !(M s || decide (s = m))) = true) := by
      intro s hs
      rw [wrow_at]
      by_cases q : s = m
      · subst q
        rw [uw_at, decide_eq_true rfl, Bool.or_true]
        exact ⟨fun z => absurd z (by decide), fun z => by simp at z⟩
      · rw [uw_ne q, decide_eq_false q, Bool.or_false]
        exact hu s hs
    refine c_leastG (Rs_31 r) iv.1 hu2 ?_
    rw [hm2, nI_add i 1]
    refine c_freeAt iv hx l (i + 1) m2 _ I _ (by omega) (Rs_31 r) t2 hm2 hu2 (fun u => ?_)
    rw [wrow_wrow]; exact h u
def s_fsl (s : st_S) (x : Int32) : st_O := if m_lt x (m_free s.1) = false then (1, 0, s) else (0, oI (m_fsl s.1 (nn x)), s)
theorem f_fsl {B : Nat} {s : st_S} {x : Int32} {K : Int32 → ab_Z → ab_F → ab_F → Prop} {KX : String → ab_Z → ab_F → ab_F → Prop} {Z : ab_Z} {I A : ab_F} (r : RCs B s Z I A) (o : oC [xIx] B (s_fsl s x) K KX) : wX11_freeSlot (fun v I A => K v Z I A) (fun E I A => KX E Z I A) I A x := by
  have iv := r.1.2
  have hS := iv.1.2.1.2
  have hl : m_free s.1 ≤ m_S s.1 := cn_le (m_S s.1)
  have r2 := f_useX r
  have g : ∀ A', RCs B s Z I A' → (m_lt x (m_free s.1) = false → wjX11_freeSlot_19 (fun v I A => K v Z I A) (fun E I A => KX E Z I A) x I A') := fun A' rA e => dmI (b := false) (fun _ => o.x (c := 0) (by unfold s_fsl; rw [if_pos e]) rfl (Nat.le_refl _) rA) (fun q => nomatch q)
  have g2 := lt0 (x := x) (n := m_free s.1) (by omega) rfl (X := wjX11_freeSlot_19 (fun v I A => K v Z I A) (fun E I A => KX E Z I A) x I (um A s.1)) (Y := wjX11_freeSlot_20 (fun v I A => K v Z I A) (fun E I A => KX E Z I A) x (nI 1) I (um A s.1)) (g _ r2) (fun e => ?_)
  · refine ⟨fun h0 => g A r ?_, fun h0 => c_countFree r.1.1 iv (g2.2 h0)⟩
    refine decide_eq_false (fun q => ?_)
    rw [Int32.lt_iff_toInt_lt, show (0 : Int32).toInt = 0 from rfl] at h0
    omega
  · refine dmI (b := true) (fun q => nomatch q) (fun _ => ?_)
    obtain ⟨i, hi, ei⟩ := m_lt_of e
    have en : nn x = i := by rw [ei]; exact nn_nI (by omega)
    have t0 : Tk s.1 (fun _ => false) 0 := ⟨fun o q => (nomatch q), fun o o' q => (nomatch q), by
      have : ∀ n, cn (fun _ => false) n = 0 := by
        intro n
        induction n with
        | zero => rfl
        | succ n ih => rw [cn, ih]; rfl
      exact this _⟩
    obtain ⟨m, hm⟩ := tk_ex t0 (by omega)
    have hu : ∀ t, t < 48 → (um (um A s.1) s.1 31 t = 0 ↔ (m_fr s.1 t && !(fun _ => false) t) = true) := by
      intro t ht
      rw [show um (um A s.1) s.1 31 t = nI (m_use s.1 (nI t)) from ur_31 ht]
      show _ ↔ (m_fr s.1 t && true) = true
      rw [Bool.and_true]
      unfold m_fr
      rw [decide_eq_true_iff]
      have := m_use_lt s.1 (nI t)
      exact nI_eq (b := 0) (by omega) (by omega)
    rw [ei]
    have r3 := f_useX r2
    refine c_markUses r2.1.1 iv (c_leastG r3.1.1 iv.1 hu ?_)
    rw [hm]
    refine ⟨i + 1, c_freeAt iv hi i 0 m _ I _ (by omega) r3.1.1 t0 hm hu (fun u => ?_)⟩
    exact o.k (by unfold s_fsl; rw [if_neg (by rw [e]; decide), en]) (Nat.le_refl _) (RC_k r3 (Kc_u u))
theorem r_fsl {B : Nat} {s : st_S} {x : Int32} {K : Int32 → ab_F → ab_F → Prop} {I A : ab_F} (r : RMs B s I A) (o : oM B (s_fsl s x) K) : wX12_freeSlot K I A x := by
  have e1 : A 1 = s.1 := r.1.1
  have iv : Iv B s.1 := r.1.2
  have hS := iv.1.2.1.2
  have hl : m_free s.1 ≤ m_S s.1 := cn_le (m_S s.1)
  have eS : A 1 1 = nI (m_S s.1) := by rw [e1]; exact iv.1.2.1.1
  have inner : ∀ (L : Int32 → Int32 → ab_F → ab_F → Prop) (J : ab_F) (t : Nat), t < m_S s.1 → (¬ nI (m_rank s.1 t) = x → L x (nI (t + 1)) J A) → (nI (m_rank s.1 t) = x → K (nI t) J A) → ∃ n, wlX12_freeSlot_33 K L n x (nI t) (nI 0) (nI 0) J A := by
    intro L J t ht h1 h2
    refine lp (W := fun n i => wlX12_freeSlot_33 K L n x (nI t) (nI (cn (fun o => m_fr s.1 o && m_so s.1 o t) i)) (nI i) J A) (e := m_S s.1) (fun n => ?_) (fun n i hi hw => ?_)
    · refine br_t (by rw [eS]; exact nI_le (Nat.le_refl _) (by omega)) ⟨fun q => ?_, fun q => h2 q⟩
      rw [nI_add t 1]; exact h1 q
    · refine br_f (by rw [eS]; exact nI_ge hi (by omega)) (q_useOf (by rw [e1]; exact iv.1) ?_)
      rw [e1]
      rw [cn] at hw
      have no : (m_fr s.1 i && m_so s.1 i t) = false → wjX12_freeSlot_68 K L (wlX12_freeSlot_33 K L n) x (nI t) (nI i) (nI (cn (fun o => m_fr s.1 o && m_so s.1 o t) i)) J A := by
        intro hf
        rw [hf] at hw
        refine nm_r (nI_add _ 0) ?_
        rw [nI_add i 1]; exact hw
      refine fr0 (fun e => q_isSooner (by omega) (by omega) ?_) (fun e => no (by rw [e, Bool.false_and]))
      rw [e1]
      refine bb (fun q => no (by rw [q, Bool.and_false])) (fun q => nm_r (nI_add _ 1) ?_)
      rw [e, q] at hw
      rw [nI_add i 1]; exact hw
  by_cases e : m_lt x (m_free s.1) = true
  · obtain ⟨i, hi, ei⟩ := m_lt_of e
    have en : nn x = i := by rw [ei]; exact nn_nI (by omega)
    have g : ∀ u, u = oI (m_fsl s.1 i) → K u (wr I 0 5 (nI 0)) A := fun u hu => o.k (by unfold s_fsl; rw [if_neg (by rw [e]; decide), en]) (Nat.le_refl _) (RM_5 r) w5 hu
    have t0 : Tk s.1 (fun _ => false) 0 := ⟨fun o q => (nomatch q), fun o o' q => (nomatch q), by
      have : ∀ n, cn (fun _ => false) n = 0 := by
        intro n
        induction n with
        | zero => rfl
        | succ n ih => rw [cn, ih]; rfl
      exact this _⟩
    have ex : ∀ j, j ≤ i → ∃ M m, Tk s.1 M j ∧ ls (m_so s.1) (fun t => m_fr s.1 t && !M t) (m_S s.1) = some m := by
      intro j
      induction j with
      | zero => intro _; obtain ⟨m, hm⟩ := tk_ex t0 (by omega); exact ⟨_, m, t0, hm⟩
      | succ j ih =>
        intro hj
        obtain ⟨M, m, t, hm⟩ := ih (by omega)
        have t2 := (tk_next t hm).2.2.2.2
        obtain ⟨m2, hm2⟩ := tk_ex t2 (by omega)
        exact ⟨_, m2, t2, hm2⟩
    obtain ⟨M, m, t, hm⟩ := ex i (Nat.le_refl i)
    obtain ⟨m1, m2, -, m4, -⟩ := tk_next t hm
    refine lp_fi (W := fun n k => wlX12_freeSlot_7 K n x (nI k) (wr I 0 5 (nI 0)) A) (p := fun k => m_fr s.1 k && decide (m_rank s.1 k = i)) (e := m_S s.1) (fun n hn => ?_) (fun n k hk hp hn => ?_) (fun n k hk hp hw => ?_)
    · have := hn m m1
      rw [m2, decide_eq_true m4] at this; exact nomatch this
    · have hp2 := Bool.and_eq_true_iff.mp hp
      have hc := of_decide_eq_true hp2.2
      refine br_f (by rw [eS]; exact nI_ge hk (by omega)) (q_useOf (by rw [e1]; exact iv.1) ?_)
      rw [e1]
      have hx : ∀ X Y : Prop, (m_fr s.1 k = true → X) → (m_fr s.1 k = false → Y) → (nI (m_use s.1 (nI k)) = 0 → X) ∧ (¬ nI (m_use s.1 (nI k)) = 0 → Y) := fun X Y a b => ⟨(fr0 a b).2, (fr0 a b).1⟩
      refine hx _ _ (fun _ => inner _ _ k hk (fun q => absurd (by rw [hc, ei]) q) (fun _ => g _ ?_)) (fun q => by rw [hp2.1] at q; exact nomatch q)
      unfold m_fsl
      rw [fi_some hk hp hn]; rfl
    · refine br_f (by rw [eS]; exact nI_ge hk (by omega)) (q_useOf (by rw [e1]; exact iv.1) ?_)
      rw [e1]
      have hx : ∀ X Y : Prop, (m_fr s.1 k = true → X) → (m_fr s.1 k = false → Y) → (nI (m_use s.1 (nI k)) = 0 → X) ∧ (¬ nI (m_use s.1 (nI k)) = 0 → Y) := fun X Y a b => ⟨(fr0 a b).2, (fr0 a b).1⟩
      refine hx _ _ (fun q => inner _ _ k hk (fun _ => hw) (fun q2 => ?_)) (fun q => by rw [nI_add k 1]; exact hw)
      exfalso
      have hp2 : (m_fr s.1 k && decide (m_rank s.1 k = i)) = false := hp
      rw [q, Bool.true_and] at hp2
      have := rank_free hk q
      rw [ei] at q2
      exact of_decide_eq_false hp2 ((nI_eq (by omega) (by omega)).mp q2)
  · have ef := b_f e
    have g : ∀ u, K u (wr (wr I 0 5 (nI 0)) 0 5 (nI 1)) A := fun u => o.x (c := 0) (by unfold s_fsl; rw [if_pos ef]) (Nat.le_refl _) (RM_5 (RM_5 r)) w5
    refine lp (W := fun n k => wlX12_freeSlot_7 K n x (nI k) (wr I 0 5 (nI 0)) A) (e := m_S s.1) (fun n => ?_) (fun n k hk hw => ?_)
    · exact br_t (by rw [eS]; exact nI_le (Nat.le_refl _) (by omega)) (g _)
    · refine br_f (by rw [eS]; exact nI_ge hk (by omega)) (q_useOf (by rw [e1]; exact iv.1) ?_)
      rw [e1]
      have hx : ∀ X Y : Prop, (m_fr s.1 k = true → X) → (m_fr s.1 k = false → Y) → (nI (m_use s.1 (nI k)) = 0 → X) ∧ (¬ nI (m_use s.1 (nI k)) = 0 → Y) := fun X Y a b => ⟨(fr0 a b).2, (fr0 a b).1⟩
      refine hx _ _ (fun q => inner _ _ k hk (fun _ => hw) (fun q2 => ?_)) (fun q => by rw [nI_add k 1]; exact hw)
      exfalso
      have := rank_free hk q
      rw [← q2, m_lt_nI (by omega)] at ef
      exact of_decide_eq_false ef this
