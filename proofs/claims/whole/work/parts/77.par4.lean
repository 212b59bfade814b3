/-! the row of a fresh system -/
def lw (a b c d : Nat) (k : Nat) : Int32 := if k = 0 ∨ k = 1 then nI 1 else if (26 ≤ k ∧ k < 26 + a) ∨ (80 ≤ k ∧ k < 80 + b) ∨ (128 ≤ k ∧ k < 128 + b) ∨ (224 ≤ k ∧ k < 224 + b) ∨ (272 ≤ k ∧ k < 272 + b) ∨ (320 ≤ k ∧ k < 320 + c) ∨ (416 ≤ k ∧ k < 416 + d) ∨ (464 ≤ k ∧ k < 464 + d) then -1 else 0
theorem lw_n {a b c d k : Nat} (h0 : 1 < k) (h : (26 ≤ k ∧ k < 26 + a) ∨ (80 ≤ k ∧ k < 80 + b) ∨ (128 ≤ k ∧ k < 128 + b) ∨ (224 ≤ k ∧ k < 224 + b) ∨ (272 ≤ k ∧ k < 272 + b) ∨ (320 ≤ k ∧ k < 320 + c) ∨ (416 ≤ k ∧ k < 416 + d) ∨ (464 ≤ k ∧ k < 464 + d)) : lw a b c d k = -1 := by unfold lw; rw [if_neg (by omega), if_pos h]
theorem lw_0 {a b c d k : Nat} (h0 : 1 < k) (h : ¬ ((26 ≤ k ∧ k < 26 + a) ∨ (80 ≤ k ∧ k < 80 + b) ∨ (128 ≤ k ∧ k < 128 + b) ∨ (224 ≤ k ∧ k < 224 + b) ∨ (272 ≤ k ∧ k < 272 + b) ∨ (320 ≤ k ∧ k < 320 + c) ∨ (416 ≤ k ∧ k < 416 + d) ∨ (464 ≤ k ∧ k < 464 + d))) : lw a b c d k = 0 := by unfold lw; rw [if_neg (by omega), if_neg h]
theorem lw_1 {a b c d k : Nat} (h : k = 0 ∨ k = 1) : lw a b c d k = nI 1 := if_pos h
/-- the places that a step of the laying writes -/
theorem lw_st {a b c d a' b' c' d' k : Nat} (h1 : a ≤ a' ∧ b ≤ b' ∧ c ≤ c' ∧ d ≤ d') (h2 : a' ≤ 6 ∧ b' ≤ 48 ∧ c' ≤ 16 ∧ d' ≤ 48) (n : ¬ ((26 + a ≤ k ∧ k < 26 + a') ∨ (80 + b ≤ k ∧ k < 80 + b') ∨ (128 + b ≤ k ∧ k < 128 + b') ∨ (224 + b ≤ k ∧ k < 224 + b') ∨ (272 + b ≤ k ∧ k < 272 + b') ∨ (320 + c ≤ k ∧ k < 320 + c') ∨ (416 + d ≤ k ∧ k < 416 + d') ∨ (464 + d ≤ k ∧ k < 464 + d'))) : lw a' b' c' d' k = lw a b c d k := by
  by_cases h0 : k = 0 ∨ k = 1
  · rw [lw_1 h0, lw_1 h0]
  · by_cases q : (26 ≤ k ∧ k < 26 + a) ∨ (80 ≤ k ∧ k < 80 + b) ∨ (128 ≤ k ∧ k < 128 + b) ∨ (224 ≤ k ∧ k < 224 + b) ∨ (272 ≤ k ∧ k < 272 + b) ∨ (320 ≤ k ∧ k < 320 + c) ∨ (416 ≤ k ∧ k < 416 + d) ∨ (464 ≤ k ∧ k < 464 + d)
    · rw [lw_n (by omega) q, lw_n (by omega) (by omega)]
    · rw [lw_0 (by omega) q, lw_0 (by omega) (by omega)]
abbrev wl0 : Nat → Int32 := lw 6 48 16 48
theorem q_lay {K : ab_F → ab_F → Prop} {I A : ab_F} (h : ∀ A', A3 A A' → Ew wl0 (A' 3) → K I A') : wX12_lay_3 K I A := by
  have g117 : ∀ m i A', i + m = 48 → A3 A A' → Ew (lw 6 48 16 i) (A' 3) → wlX12_lay_3_117 K (m + 1) (nI i) I A' := by
    intro m
    induction m with
    | zero =>
      intro i A' hi a e
      rw [show i = 48 by omega] at e ⊢
      exact br_t (by decide) (h A' a e)
    | succ m ih =>
      intro i A' hi a e
      refine br_f (nI_ge (by omega) (by omega)) (ixa (by omega) (ixa (by omega) ?_))
      rw [nI_add i 1]
      refine ih (i + 1) _ (by omega) a.w.w (fun k hk => ?_)
      by_cases c1 : k = 464 + i
      · rw [c1, wr_ate, lw_n (by omega) (by omega)]
      · rw [wr_nei c1]
        by_cases c2 : k = 416 + i
        · rw [c2, wr_ate, lw_n (by omega) (by omega)]
        · rw [wr_nei c2, e k hk]; exact (lw_st (by omega) (by omega) (by omega)).symm
  have g95 : ∀ m i A', i + m = 16 → A3 A A' → Ew (lw 6 48 i 0) (A' 3) → wlX12_lay_3_95 K (m + 1) (nI i) I A' := by
    intro m
    induction m with
    | zero =>
      intro i A' hi a e
      rw [show i = 16 by omega] at e ⊢
      exact br_t (by decide) ⟨_, g117 48 0 A' (by omega) a e⟩
    | succ m ih =>
      intro i A' hi a e
      refine br_f (nI_ge (by omega) (by omega)) (ixa (by omega) ?_)
      rw [nI_add i 1]
      refine ih (i + 1) _ (by omega) a.w (fun k hk => ?_)
      by_cases c1 : k = 320 + i
      · rw [c1, wr_ate, lw_n (by omega) (by omega)]
      · rw [wr_nei c1, e k hk]; exact (lw_st (by omega) (by omega) (by omega)).symm
  have g50 : ∀ m i A', i + m = 48 → A3 A A' → Ew (lw 6 i 0 0) (A' 3) → wlX12_lay_3_50 K (m + 1) (nI i) I A' := by
    intro m
    induction m with
    | zero =>
      intro i A' hi a e
      rw [show i = 48 by omega] at e ⊢
      exact br_t (by decide) ⟨_, g95 16 0 A' (by omega) a e⟩
    | succ m ih =>
      intro i A' hi a e
      refine br_f (nI_ge (by omega) (by omega)) (ixa (by omega) (ixa (by omega) (ixa (by omega) (ixa (by omega) ?_))))
      rw [nI_add i 1]
      refine ih (i + 1) _ (by omega) a.w.w.w.w (fun k hk => ?_)
      by_cases c1 : k = 272 + i
      · rw [c1, wr_ate, lw_n (by omega) (by omega)]
      · rw [wr_nei c1]
        by_cases c2 : k = 224 + i
        · rw [c2, wr_ate, lw_n (by omega) (by omega)]
        · rw [wr_nei c2]
          by_cases c3 : k = 128 + i
          · rw [c3, wr_ate, lw_n (by omega) (by omega)]
          · rw [wr_nei c3]
            by_cases c4 : k = 80 + i
            · rw [c4, wr_ate, lw_n (by omega) (by omega)]
            · rw [wr_nei c4, e k hk]; exact (lw_st (by omega) (by omega) (by omega)).symm
  have g29 : ∀ m i A', i + m = 6 → A3 A A' → Ew (lw i 0 0 0) (A' 3) → wlX12_lay_3_29 K (m + 1) (nI i) I A' := by
    intro m
    induction m with
    | zero =>
      intro i A' hi a e
      rw [show i = 6 by omega] at e ⊢
      exact br_t (by decide) ⟨_, g50 48 0 A' (by omega) a e⟩
    | succ m ih =>
      intro i A' hi a e
      refine br_f (nI_ge (by omega) (by omega)) (ixa (by omega) ?_)
      rw [nI_add i 1]
      refine ih (i + 1) _ (by omega) a.w (fun k hk => ?_)
      by_cases c1 : k = 26 + i
      · rw [c1, wr_ate, lw_n (by omega) (by omega)]
      · rw [wr_nei c1, e k hk]; exact (lw_st (by omega) (by omega) (by omega)).symm
  have g2 : ∀ m i A', i + m = 608 → A3 A A' → (∀ k, k < i → A' 3 k = 0) → wlX12_lay_3_2 K (m + 1) (nI i) I A' := by
    intro m
    induction m with
    | zero =>
      intro i A' hi a e
      rw [show i = 608 by omega] at e ⊢
      refine br_t (by decide) ⟨_, g29 6 0 _ (by omega) a.w.w (fun k hk => ?_)⟩
      by_cases c1 : k = 1
      · rw [c1, wr_ate, lw_1 (by omega)]
      · rw [wr_nei c1]
        by_cases c2 : k = 0
        · rw [c2, wr_ate, lw_1 (by omega)]
        · rw [wr_nei c2, e k hk, lw_0 (by omega) (by omega)]
    | succ m ih =>
      intro i A' hi a e
      refine br_f (nI_ge (by omega) (by omega)) (ix0 (by omega) ?_)
      rw [nI_add i 1]
      refine ih (i + 1) _ (by omega) a.w (fun k hk => ?_)
      by_cases c1 : k = i
      · rw [c1, wr_ate]; rfl
      · rw [wr_nei c1]; exact e k (by omega)
  exact ⟨_, g2 608 0 A (by omega) (A3.refl A) (fun k hk => by omega)⟩
/-- the row matters only below 608 -/
theorem rw_ew {w w' : Nat → Int32} (h : Ew w w') (n : Nat) (k c : Int32) : Ew (p_rw w n k c) (p_rw w' n k c) := fun j hj => by
  unfold p_rw uw
  rw [h j hj]
theorem lp_ew (t : st_T) : ∀ f n w w' T, Ew w w' → (p_lp t f n w' T).1 = (p_lp t f n w T).1 ∧ (p_lp t f n w' T).2.1 = (p_lp t f n w T).2.1 ∧ Ew (p_lp t f n w T).2.2 (p_lp t f n w' T).2.2 := by
  intro f
  induction f with
  | zero => intro n w w' T h; exact ⟨rfl, rfl, h⟩
  | succ f ih =>
    intro n w w' T h
    have q := ih (n + 1) _ _ (n4 t T) (rw_ew h n (nI (p_kd t (n1 t T))) (tv t (n2 t T)))
    have e1 : ∀ v, p_lp t (f + 1) n v T = if (p_pr t T n).1 ≠ 0 then (p_pr t T n, n, v) else if (n4 t T).2.2 = 0 then ((0, 0), n + 1, p_rw v n (nI (p_kd t (n1 t T))) (tv t (n2 t T))) else p_lp t f (n + 1) (p_rw v n (nI (p_kd t (n1 t T))) (tv t (n2 t T))) (n4 t T) := fun _ => rfl
    rw [e1 w, e1 w']
    by_cases c1 : (p_pr t T n).1 ≠ 0
    · rw [if_pos c1, if_pos c1]; exact ⟨rfl, rfl, h⟩
    · rw [if_neg c1, if_neg c1]
      by_cases c2 : (n4 t T).2.2 = 0
      · rw [if_pos c2, if_pos c2]; exact ⟨rfl, rfl, rw_ew h _ _ _⟩
      · rw [if_neg c2, if_neg c2]; exact q
theorem sys_ew (t : st_T) {w w' : Nat → Int32} (h : Ew w w') : (p_sys t w').1 = (p_sys t w).1 ∧ (p_sys t w').2.1 = (p_sys t w).2.1 ∧ Ew (p_sys t w).2.2 (p_sys t w').2.2 := by
  unfold p_sys
  by_cases c1 : (p_hd t (nt t 0)).1 ≠ 0
  · rw [if_pos c1, if_pos c1]; exact ⟨rfl, rfl, h⟩
  · rw [if_neg c1, if_neg c1]
    refine lp_ew t 7 0 _ _ _ (fun j hj => ?_)
    unfold uw
    rw [h j hj]
/-- a fresh row of n processes -/
def Gw (n : Nat) (w : Nat → Int32) : Prop := n ≤ 6 ∧ (∃ f, 1 ≤ f ∧ f ≤ 16 ∧ w 0 = nI f) ∧ (∃ s, 1 ≤ s ∧ s ≤ 48 ∧ w 1 = nI s) ∧ (w 2 = nI 0 ∨ w 2 = nI 1 ∨ w 2 = nI 2) ∧ w 3 = nI n ∧ (∀ p, p < 6 → (w (14 + p) = nI 0 ∨ w (14 + p) = nI 1) ∧ ∃ c, c ≤ 8 ∧ w (20 + p) = nI c ∧ (n ≤ p → c = 0 ∧ w (14 + p) = nI 0) ∧ (p < n → 1 ≤ c)) ∧ ∀ k, k < 608 → (4 ≤ k ∧ k < 14) ∨ 26 ≤ k → w k = wl0 k
theorem Gw_rw {n : Nat} {w : Nat → Int32} {k c : Nat} (g : Gw n w) (hn : n < 6) (hk : k < 2) (h1 : 1 ≤ c) (h8 : c ≤ 8) : Gw (n + 1) (p_rw w n (nI k) (nI c)) := by
  have a := rw_at w (nI k) (nI c) hn
  obtain ⟨_, ⟨f, f1, f2, f3⟩, ⟨s, s1, s2, s3⟩, hp, _, hq, hr⟩ := g
  refine ⟨by omega, ⟨f, f1, f2, by rw [rw_ne w _ _ (by omega) (by omega) (by omega)]; exact f3⟩, ⟨s, s1, s2, by rw [rw_ne w _ _ (by omega) (by omega) (by omega)]; exact s3⟩, by rw [rw_ne w _ _ (by omega) (by omega) (by omega)]; exact hp, a.1, fun p hp6 => ?_, fun j hj q => by rw [rw_ne w _ _ (by omega) (by omega) (by omega)]; exact hr j hj q⟩
  by_cases e : p = n
  · subst e
    rw [a.2.1, a.2.2]
    refine ⟨?_, c, h8, rfl, fun q => by omega, fun _ => h1⟩
    have : k = 0 ∨ k = 1 := by omega
    rcases this with q | q <;> subst q
    · exact Or.inl rfl
    · exact Or.inr rfl
  · rw [rw_ne w _ _ (j := 14 + p) (by omega) (by omega) (by omega), rw_ne w _ _ (j := 20 + p) (by omega) (by omega) (by omega)]
    obtain ⟨x1, c', x2, x3, x4, x5⟩ := hq p hp6
    exact ⟨x1, c', x2, x3, fun q => x4 (by omega), fun q => x5 (by omega)⟩
theorem pr_0 {t : st_T} {T : tok} {n : Nat} (h : (p_pr t T n).1 = 0) : n ≠ 6 ∧ p_kd t (n1 t T) ≠ 3 ∧ p_num t (n2 t T) 1 8 = 0 := by
  unfold p_pr at h
  by_cases c1 : tw1 t T (ab_st 4).2.2.2 = false
  · rw [if_pos c1] at h; exact absurd h o1
  · rw [if_neg c1] at h
    by_cases c2 : n = 6
    · rw [if_pos c2] at h; exact absurd h o3
    · rw [if_neg c2] at h
      by_cases c3 : p_kd t (n1 t T) = 3
      · rw [if_pos c3] at h; exact absurd h o1
      · rw [if_neg c3] at h
        by_cases c4 : p_num t (n2 t T) 1 8 ≠ 0
        · rw [if_pos c4] at h; exact absurd h c4
        · exact ⟨c2, c3, by omega⟩
theorem hd_0 {t : st_T} {T : tok} (h : (p_hd t T).1 = 0) : p_num t (n1 t T) 1 16 = 0 ∧ p_num t (n2 t T) 1 48 = 0 ∧ p_pol t (n3 t T) ≠ 3 := by
  unfold p_hd at h
  by_cases c1 : tw1 t T (ab_st 0).2.2.2 = false
  · rw [if_pos c1] at h; exact absurd h o1
  · rw [if_neg c1] at h
    by_cases c2 : p_num t (n1 t T) 1 16 ≠ 0
    · rw [if_pos c2] at h; exact absurd h c2
    · rw [if_neg c2] at h
      by_cases c3 : p_num t (n2 t T) 1 48 ≠ 0
      · rw [if_pos c3] at h; exact absurd h c3
      · rw [if_neg c3] at h
        by_cases c4 : p_pol t (n3 t T) = 3
        · rw [if_pos c4] at h; exact absurd h o1
        · exact ⟨by omega, by omega, c4⟩
theorem Gw_lp (t : st_T) : ∀ f n w T, f + n = 7 → Gw n w → To t T → (p_lp t f n w T).1.1 = 0 → Gw (p_lp t f n w T).2.1 (p_lp t f n w T).2.2 := by
  intro f
  induction f with
  | zero => intro n w T hf g z h; exact absurd h o1
  | succ f ih =>
    intro n w T hf g z h
    have e1 : p_lp t (f + 1) n w T = if (p_pr t T n).1 ≠ 0 then (p_pr t T n, n, w) else if (n4 t T).2.2 = 0 then ((0, 0), n + 1, p_rw w n (nI (p_kd t (n1 t T))) (tv t (n2 t T))) else p_lp t f (n + 1) (p_rw w n (nI (p_kd t (n1 t T))) (tv t (n2 t T))) (n4 t T) := rfl
    rw [e1] at h ⊢
    by_cases c1 : (p_pr t T n).1 ≠ 0
    · rw [if_pos c1] at h; exact absurd h c1
    · rw [if_neg c1] at h ⊢
      have q := pr_0 (t := t) (T := T) (n := n) (by omega)
      obtain ⟨c, hc1, hc8, ec⟩ := tv_in (by omega) q.2.2
      have hk : p_kd t (n1 t T) < 2 := by
        have a := p_kd_2 (n1_To z)
        have b : p_kd t (n1 t T) ≤ 3 := p_w_le _ _ _ _ _
        omega
      have hn := g.1
      have g' : Gw (n + 1) (p_rw w n (nI (p_kd t (n1 t T))) (tv t (n2 t T))) := by rw [ec]; exact Gw_rw g (by omega) hk hc1 hc8
      by_cases c2 : (n4 t T).2.2 = 0
      · rw [if_pos c2]; exact g'
      · rw [if_neg c2] at h ⊢
        exact ih (n + 1) _ _ (by omega) g' (n1_To (n1_To (n1_To (n1_To z)))) h
theorem Gw_sys (t : st_T) (h : (p_sys t wl0).1.1 = 0) : Gw (p_sys t wl0).2.1 (p_sys t wl0).2.2 := by
  unfold p_sys at h ⊢
  have z := nt_To t (b := 0) (by omega)
  by_cases c1 : (p_hd t (nt t 0)).1 ≠ 0
  · rw [if_pos c1] at h; exact absurd h c1
  · rw [if_neg c1] at h ⊢
    have q := hd_0 (t := t) (T := nt t 0) (by omega)
    obtain ⟨f, f1, f2, ef⟩ := tv_in (by omega) q.1
    obtain ⟨s, s1, s2, es⟩ := tv_in (by omega) q.2.1
    have hp : p_pol t (n3 t (nt t 0)) ≤ 3 := p_w_le _ _ _ _ _
    refine Gw_lp t 7 0 _ _ rfl ⟨by omega, ⟨f, f1, f2, ?_⟩, ⟨s, s1, s2, ?_⟩, ?_, ?_, fun p hp => ?_, fun k hk q => ?_⟩ (n1_To (n1_To (n1_To (n1_To (n1_To z))))) h
    · rw [uw_ne (by omega), uw_ne (by omega), uw_at]; exact ef
    · rw [uw_ne (by omega), uw_at]; exact es
    · rw [uw_at]
      have : p_pol t (n3 t (nt t 0)) = 0 ∨ p_pol t (n3 t (nt t 0)) = 1 ∨ p_pol t (n3 t (nt t 0)) = 2 := by
        have := q.2.2
        omega
      rcases this with e | e | e <;> rw [e] <;> simp
    · rw [uw_ne (by omega), uw_ne (by omega), uw_ne (by omega)]; rfl
    · rw [uw_ne (by omega), uw_ne (by omega), uw_ne (by omega), uw_ne (by omega), uw_ne (by omega), uw_ne (by omega), show wl0 (14 + p) = 0 from lw_0 (by omega) (by omega), show wl0 (20 + p) = 0 from lw_0 (by omega) (by omega)]
      exact ⟨Or.inl rfl, 0, by omega, rfl, fun _ => ⟨rfl, rfl⟩, fun q => by omega⟩
    · rw [uw_ne (by omega), uw_ne (by omega), uw_ne (by omega)]
