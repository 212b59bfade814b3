/-! the fresh system, installed -/
theorem Gw_at {n : Nat} {w : Nat → Int32} (g : Gw n w) {k : Nat} (hk : k < 608) (h : (4 ≤ k ∧ k < 14) ∨ 26 ≤ k) : w k = wl0 k := g.2.2.2.2.2.2 k hk h
theorem Gw_0 {n : Nat} {w : Nat → Int32} (g : Gw n w) {k : Nat} (hk : k < 608) (h : (4 ≤ k ∧ k < 14) ∨ (32 ≤ k ∧ k < 80) ∨ (176 ≤ k ∧ k < 224) ∨ (336 ≤ k ∧ k < 416) ∨ 512 ≤ k) : w k = 0 := (Gw_at g hk (by omega)).trans (lw_0 (by omega) (by omega))
theorem Gw_m {n : Nat} {w : Nat → Int32} (g : Gw n w) {k : Nat} (hk : k < 608) (h : (26 ≤ k ∧ k < 32) ∨ (80 ≤ k ∧ k < 176) ∨ (224 ≤ k ∧ k < 336) ∨ (416 ≤ k ∧ k < 512)) : w k = -1 := (Gw_at g hk (by omega)).trans (lw_n (by omega) (by omega))
theorem Iv_G {n : Nat} {w : Nat → Int32} (B : Nat) (g : Gw n w) : Iv B w := by
  have g0 := g
  obtain ⟨hn, ⟨f, f1, f2, ef⟩, ⟨s, s1, s2, es⟩, hp, e3, hq, hr⟩ := g
  have mF : m_F w = f := by show nn (w 0) = f; rw [ef]; exact nn_nI (by omega)
  have mS : m_S w = s := by show nn (w 1) = s; rw [es]; exact nn_nI (by omega)
  have mP : m_P w = n := by show nn (w 3) = n; rw [e3]; exact nn_nI (by omega)
  have z0 : nI 0 = 0 := rfl
  have e10 : w 10 = 0 := Gw_0 g0 (by omega) (by omega)
  refine ⟨⟨⟨by rw [mF]; exact ef, by omega, by omega⟩, ⟨by rw [mS]; exact es, by omega, by omega⟩, ⟨by rw [mP]; exact e3, by omega⟩, fun p hp => ?_⟩, ⟨fun f hf => Or.inl (Gw_m g0 (by omega) (by omega)), fun k hk => Or.inl (Gw_m g0 (by omega) (by omega))⟩, fun k hk => Or.inl (Gw_0 g0 (by omega) (by omega)), fun k hk => Or.inl (Gw_m g0 (by omega) (by omega)), fun k hk => Or.inl (Gw_m g0 (by omega) (by omega)), fun k hk _ => Or.inl (Gw_m g0 (by omega) (by omega)), ⟨0, Nat.two_pow_pos _, e10⟩, fun p hp => Or.inl (Gw_m g0 (by omega) (by omega)), ⟨hp, fun p hp => (hq p hp).1⟩, ⟨⟨0, by omega, Gw_0 g0 (by omega) (by omega)⟩, ⟨0, 0, by omega, by omega, Gw_0 g0 (by omega) (by omega), Gw_0 g0 (by omega) (by omega)⟩, ⟨0, by omega, Gw_0 g0 (by omega) (by omega), Gw_0 g0 (by omega) (by omega)⟩⟩, ⟨0, by omega, Gw_0 g0 (by omega) (by omega), fun i hi => by omega⟩⟩
  obtain ⟨_, c, c1, c2, c3, c4⟩ := hq p hp
  have mC : m_C w p = c := by show nn (w (20 + p)) = c; rw [c2]; exact nn_nI (by omega)
  rw [mC, mP]
  exact ⟨c2, c1, fun q => (c3 q).1⟩
theorem c_i4 {K : ab_F → ab_F → Prop} {I A : ab_F} {n : Nat} {w : Nat → Int32} (g : Gw n w) (s : Sx I A n w) (h : ∀ A', (∀ c, (c < 10 ∨ 15 < c) → A' c = A c) → (∀ p, p < 6 → A' 10 p = w (20 + p) ∧ A' 11 p = w (14 + p) ∧ A' 12 p = 0) → (∀ k, k < 48 → A' 13 k = 0 ∧ A' 14 k = -1 ∧ A' 15 k = -1) → K (wr I 9 0 (nI n)) A') : wX4_install K I A := by
  unfold wX4_install
  rw [s.2.2.2.1]
  have hn := g.1
  have g85 : ∀ m i A', i + m = 48 → (∀ c, (c < 10 ∨ 15 < c) → A' c = A c) → (∀ p, p < 6 → A' 10 p = w (20 + p) ∧ A' 11 p = w (14 + p) ∧ A' 12 p = 0) → (∀ k, k < i → A' 13 k = 0 ∧ A' 14 k = -1 ∧ A' 15 k = -1) → wlX4_install_85 K (m + 1) (nI i) (wr I 9 0 (nI n)) A' := by
    intro m
    induction m with
    | zero =>
      intro i A' hi a b c
      rw [show i = 48 by omega] at c ⊢
      exact br_t (by decide) (h A' a b c)
    | succ m ih =>
      intro i A' hi a b c
      refine br_f (nI_ge (by omega) (by omega)) (ix0 (by omega) (ix0 (by omega) (ix0 (by omega) ?_)))
      rw [nI_add i 1]
      refine ih (i + 1) _ (by omega) (fun c q => ?_) (fun p hp => ?_) (fun k hk => ?_)
      · rw [wr_ne (by omega), wr_ne (by omega), wr_ne (by omega)]; exact a c q
      · rw [wr_ne (c' := 10) (by omega), wr_ne (c' := 10) (by omega), wr_ne (c' := 10) (by omega), wr_ne (c' := 11) (by omega), wr_ne (c' := 11) (by omega), wr_ne (c' := 11) (by omega), wr_ne (c' := 12) (by omega), wr_ne (c' := 12) (by omega), wr_ne (c' := 12) (by omega)]
        exact b p hp
      · rw [wr_ne (c' := 13) (c := 15) (by omega), wr_ne (c' := 13) (c := 14) (by omega), wr_ne (c' := 14) (c := 15) (by omega)]
        by_cases e : k = i
        · rw [e, wr_ate, wr_ate, wr_ate]; exact ⟨rfl, rfl, rfl⟩
        · rw [wr_nei e, wr_nei e, wr_nei e, wr_ne (c' := 15) (c := 14) (by omega), wr_ne (c' := 15) (c := 13) (by omega), wr_ne (c' := 14) (c := 13) (by omega)]
          exact c k (by omega)
  have g10 : ∀ m i A', i + m = 6 → (∀ c, (c < 10 ∨ 15 < c) → A' c = A c) → (∀ p, p < i → A' 10 p = w (20 + p) ∧ A' 11 p = w (14 + p) ∧ A' 12 p = 0) → wlX4_install_10 K (m + 1) (nI i) (wr I 9 0 (nI n)) A' := by
    intro m
    induction m with
    | zero =>
      intro i A' hi a b
      rw [show i = 6 by omega] at b ⊢
      exact br_t (by decide) ⟨_, g85 48 0 A' (by omega) a b (fun k hk => by omega)⟩
    | succ m ih =>
      intro i A' hi a b
      have stp : ∀ u v, u = w (20 + i) → v = w (14 + i) → wlX4_install_10 K (m + 1) (nI i + nI 1) (wr I 9 0 (nI n)) (wr (wr (wr A' 10 i u) 11 i v) 12 i (nI 0)) := fun u v eu ev => by
        rw [nI_add i 1]
        refine ih (i + 1) _ (by omega) (fun c q => ?_) (fun p hp => ?_)
        · rw [wr_ne (by omega), wr_ne (by omega), wr_ne (by omega)]; exact a c q
        · rw [wr_ne (c' := 10) (c := 12) (by omega), wr_ne (c' := 10) (c := 11) (by omega), wr_ne (c' := 11) (c := 12) (by omega)]
          by_cases e : p = i
          · rw [e, wr_ate, wr_ate, wr_ate]; exact ⟨eu, ev, rfl⟩
          · rw [wr_nei e, wr_nei e, wr_nei e, wr_ne (c' := 12) (c := 11) (by omega), wr_ne (c' := 12) (c := 10) (by omega), wr_ne (c' := 11) (c := 10) (by omega)]
            exact b p (by omega)
      obtain ⟨q1, c, q2, q3, q4, q5⟩ := g.2.2.2.2.2.1 i (by omega)
      refine br_f (nI_ge (by omega) (by omega)) ?_
      rw [wr_ate]
      by_cases hin : n ≤ i
      · refine br_t (nI_le hin (by omega)) (br_t rfl (ix0 (by omega) (br_t rfl (ix0 (by omega) (ix0 (by omega) (stp _ _ ?_ ?_))))))
        · rw [q3, (q4 hin).1]
        · rw [(q4 hin).2]
      · have sx := s.2.2.2.2 i (by omega)
        refine br_f (nI_ge (by omega) (by omega)) (br_f (by decide) (ix0 (by omega) (ix0 (by omega) (br_f (by decide) (ix0 (by omega) (ix0 (by omega) (ix0 (by omega) (stp _ _ ?_ ?_))))))))
        · rw [a 5 (by omega)]; exact sx.2
        · rw [a 4 (by omega)]; exact sx.1
  exact ⟨_, g10 6 0 A (by omega) (fun _ _ => rfl) (fun p hp => by omega)⟩
theorem c_i2 {K : ab_F → ab_F → Prop} {I A : ab_F} (h : ∀ A', (∀ c, (c < 17 ∨ 19 < c) → A' c = A c) → (∀ k, k < 16 → A' 17 k = -1 ∧ A' 18 k = 0 ∧ A' 19 k = 0) → K (wr (wr I 16 0 (I 3 3)) 16 1 (I 3 5)) A') : wX2_install K I A := by
  have g : ∀ m i A', i + m = 16 → (∀ c, (c < 17 ∨ 19 < c) → A' c = A c) → (∀ k, k < i → A' 17 k = -1 ∧ A' 18 k = 0 ∧ A' 19 k = 0) → wlX2_install_18 K (m + 1) (nI i) (wr (wr I 16 0 (I 3 3)) 16 1 (I 3 5)) A' := by
    intro m
    induction m with
    | zero =>
      intro i A' hi a c
      rw [show i = 16 by omega] at c ⊢
      exact br_t (by decide) (h A' a c)
    | succ m ih =>
      intro i A' hi a c
      refine br_f (nI_ge (by omega) (by omega)) (ix0 (by omega) (ix0 (by omega) (ix0 (by omega) ?_)))
      rw [nI_add i 1]
      refine ih (i + 1) _ (by omega) (fun c q => ?_) (fun k hk => ?_)
      · rw [wr_ne (by omega), wr_ne (by omega), wr_ne (by omega)]; exact a c q
      · rw [wr_ne (c' := 17) (c := 19) (by omega), wr_ne (c' := 17) (c := 18) (by omega), wr_ne (c' := 18) (c := 19) (by omega)]
        by_cases e : k = i
        · rw [e, wr_ate, wr_ate, wr_ate]; exact ⟨rfl, rfl, rfl⟩
        · rw [wr_nei e, wr_nei e, wr_nei e, wr_ne (c' := 19) (c := 18) (by omega), wr_ne (c' := 19) (c := 17) (by omega), wr_ne (c' := 18) (c := 17) (by omega)]
          exact c k (by omega)
  exact ⟨_, g 16 0 A (by omega) (fun _ _ => rfl) (fun k hk => by omega)⟩
theorem c_i7 {K : ab_F → ab_F → Prop} {I A : ab_F} (h : ∀ A', (∀ c, (c < 21 ∨ 23 < c) → A' c = A c) → (∀ k, k < 48 → A' 21 k = 0 ∧ A' 22 k = -1 ∧ A' 23 k = -1) → K (wr (wr I 20 0 (I 3 4)) 20 1 (nI 0)) A') : wX7_install K I A := by
  have g : ∀ m i A', i + m = 48 → (∀ c, (c < 21 ∨ 23 < c) → A' c = A c) → (∀ k, k < i → A' 21 k = 0 ∧ A' 22 k = -1 ∧ A' 23 k = -1) → wlX7_install_15 K (m + 1) (nI i) (wr (wr I 20 0 (I 3 4)) 20 1 (nI 0)) A' := by
    intro m
    induction m with
    | zero =>
      intro i A' hi a c
      rw [show i = 48 by omega] at c ⊢
      exact br_t (by decide) (h A' a c)
    | succ m ih =>
      intro i A' hi a c
      refine br_f (nI_ge (by omega) (by omega)) (ix0 (by omega) (ix0 (by omega) (ix0 (by omega) ?_)))
      rw [nI_add i 1]
      refine ih (i + 1) _ (by omega) (fun c q => ?_) (fun k hk => ?_)
      · rw [wr_ne (by omega), wr_ne (by omega), wr_ne (by omega)]; exact a c q
      · rw [wr_ne (c' := 21) (c := 23) (by omega), wr_ne (c' := 21) (c := 22) (by omega), wr_ne (c' := 22) (c := 23) (by omega)]
        by_cases e : k = i
        · rw [e, wr_ate, wr_ate, wr_ate]; exact ⟨rfl, rfl, rfl⟩
        · rw [wr_nei e, wr_nei e, wr_nei e, wr_ne (c' := 23) (c := 22) (by omega), wr_ne (c' := 23) (c := 21) (by omega), wr_ne (c' := 22) (c := 21) (by omega)]
          exact c k (by omega)
  exact ⟨_, g 48 0 A (by omega) (fun _ _ => rfl) (fun k hk => by omega)⟩
theorem c_i1 {K : ab_F → ab_F → Prop} {I A : ab_F} (h : ∀ A', (∀ c, (c < 25 ∨ 27 < c) → A' c = A c) → (∀ k, k < 48 → A' 25 k = -1 ∧ A' 27 k = -1) → (∀ p, p < 6 → A' 26 p = -1) → K (wr (wr (wr (wr I 24 0 (nI 0)) 24 3 (nI 0)) 24 1 (nI 0)) 24 2 (nI 0)) A') : wX1_install K I A := by
  refine c_clear ?_
  generalize hA1 : wrow A 25 (m_cp 48 (fun _ => -1) (A 25)) = A1
  have a1 : ∀ c, c ≠ 25 → A1 c = A c := fun c q => by subst hA1; exact wrow_ne q
  have a25 : ∀ k, k < 48 → A1 25 k = -1 := fun k hk => by subst hA1; rw [wrow_at]; exact if_pos hk
  generalize wr (wr (wr (wr I 24 0 (nI 0)) 24 3 (nI 0)) 24 1 (nI 0)) 24 2 (nI 0) = J at *
  have g37 : ∀ m i A', i + m = 48 → (∀ c, c ≠ 27 → c ≠ 26 → A' c = A1 c) → (∀ p, p < 6 → A' 26 p = -1) → (∀ k, k < i → A' 27 k = -1) → wlX1_install_37 K (m + 1) (nI i) J A' := by
    intro m
    induction m with
    | zero =>
      intro i A' hi a b c
      rw [show i = 48 by omega] at c ⊢
      exact br_t (by decide) (h A' (fun c q => (a c (by omega) (by omega)).trans (a1 c (by omega))) (fun k hk => ⟨by rw [a 25 (by omega) (by omega)]; exact a25 k hk, c k hk⟩) b)
    | succ m ih =>
      intro i A' hi a b c
      refine br_f (nI_ge (by omega) (by omega)) (ix0 (by omega) ?_)
      rw [nI_add i 1]
      refine ih (i + 1) _ (by omega) (fun c q1 q2 => by rw [wr_ne q1]; exact a c q1 q2) (fun p hp => by rw [wr_ne (by omega)]; exact b p hp) (fun k hk => ?_)
      by_cases e : k = i
      · rw [e, wr_ate]
      · rw [wr_nei e]; exact c k (by omega)
  have g16 : ∀ m i A', i + m = 6 → (∀ c, c ≠ 27 → c ≠ 26 → A' c = A1 c) → (∀ p, p < i → A' 26 p = -1) → wlX1_install_16 K (m + 1) (nI i) J A' := by
    intro m
    induction m with
    | zero =>
      intro i A' hi a b
      rw [show i = 6 by omega] at b ⊢
      exact br_t (by decide) ⟨_, g37 48 0 A' (by omega) a b (fun k hk => by omega)⟩
    | succ m ih =>
      intro i A' hi a b
      refine br_f (nI_ge (by omega) (by omega)) (ix0 (by omega) ?_)
      rw [nI_add i 1]
      refine ih (i + 1) _ (by omega) (fun c q1 q2 => by rw [wr_ne q2]; exact a c q1 q2) (fun p hp => ?_)
      by_cases e : p = i
      · rw [e, wr_ate]
      · rw [wr_nei e]; exact b p (by omega)
  exact ⟨_, g16 6 0 A1 (by omega) (fun _ _ _ => rfl) (fun p hp => by omega)⟩
