/-! no other NaN: barriers, restoring, scripts, the past -/
theorem Nv_sta {w : Nat → Int32} {x : Int32} (n : Nv w) : Nv (m_sta w x) := by
  have e : ∀ j, (j < 224 ∨ 272 ≤ j) → j ≠ 4 → j ≠ 10 → j ≠ 11 → m_sta w x j = w j := fun j a b c d => by
    unfold m_sta m_s1
    rw [if_neg (by omega)]
    unfold m_s0
    rw [uw_ne d, uw_ne c, uw_ne b]
  have e2 : ∀ k, k < 48 → m_sta w x (224 + k) = if w (176 + k) = nI 1 then -2 else w (80 + k) := fun k hk => by
    unfold m_sta m_s1
    rw [if_pos (by omega), show 224 + k - 48 = 176 + k by omega, show 224 + k - 144 = 80 + k by omega]
    unfold m_s0
    rw [uw_ne (by omega), uw_ne (by omega), uw_ne (by omega), uw_ne (by omega), uw_ne (by omega), uw_ne (by omega)]
  intro k hk kd
  rw [e _ (by omega) (by omega) (by omega) (by omega)] at kd
  have q := n k hk kd
  refine ⟨by rw [e _ (by omega) (by omega) (by omega) (by omega)]; exact q.1, fun s hs h => ?_⟩
  rw [e (368 + s) (by omega) (by omega) (by omega) (by omega)]
  rw [e (80 + k) (by omega) (by omega) (by omega) (by omega), e (272 + k) (by omega) (by omega) (by omega) (by omega), e2 k hk] at h
  refine q.2 s hs ?_
  rcases h with h | h | ⟨_, h⟩
  · exact Or.inl h
  · exact Or.inr (Or.inl h)
  · by_cases c : w (176 + k) = nI 1
    · rw [if_pos c] at h; exact absurd h.symm (nI_m2 (by omega))
    · rw [if_neg c] at h; exact Or.inl h
theorem Nv_fl {B : Nat} : ∀ (m k left : Nat) (w : Nat → Int32), k + m = 48 → Iv B w → Nv w → Nv (m_fl m k left w)
  | 0, k, left, w, hk, x, n => by rw [m_fl]; exact n
  | m + 1, k, left, w, hk, x, n => by
    rw [m_fl]
    split
    · exact n
    · split
      · rename_i h
        cases hn : m_nf w with
        | none => exact n
        | some s => exact Nv_fl m (k + 1) (left - 1) _ (by omega) (Iv_put x (by omega) (tp_th h) (ls_lt hn).1) (Nv_put x n (by omega) (ls_lt hn).1 (ls_lt hn).2)
      · exact Nv_fl m (k + 1) left w (by omega) x n
theorem Nv_10 {w : Nat → Int32} (n : Nv w) : Nv (uw w 10 (nI 0)) := by
  intro k hk kd
  rw [uw_ne (by omega)] at kd
  have q := n k hk kd
  refine ⟨by rw [uw_ne (by omega)]; exact q.1, fun s hs h => ?_⟩
  rw [uw_ne (by omega)]
  rw [uw_ne (by omega), uw_ne (by omega), uw_at, has_0] at h
  rcases h with h | h | ⟨h, _⟩
  · exact q.2 s hs (Or.inl h)
  · exact q.2 s hs (Or.inr (Or.inl h))
  · exact nomatch h
theorem Nv_com {B : Nat} {w : Nat → Int32} (x : Iv B w) (n : Nv w) : Nv (m_com w) := by
  have hP := x.1.2.2.1.2
  have n1 : Nv (m_c1 w 48) := by
    have e : ∀ j, (j < 272 ∨ 320 ≤ j) → m_c1 w 48 j = w j := fun j h => by unfold m_c1; rw [if_neg (by omega)]
    intro k hk kd
    rw [e _ (by omega)] at kd
    have q := n k hk kd
    refine ⟨by rw [e _ (by omega)]; exact q.1, fun s hs h => ?_⟩
    rw [e (368 + s) (by omega)]
    rw [e (80 + k) (by omega), e 10 (by omega), e (224 + k) (by omega)] at h
    refine q.2 s hs ?_
    rcases h with h | h | h
    · exact Or.inl h
    · unfold m_c1 at h
      by_cases c : (272 ≤ 272 + k ∧ 272 + k < 272 + 48) ∧ m_has (w 10) ((272 + k - 272) / 8) = true
      · rw [if_pos c, show 272 + k - 48 = 224 + k by omega] at h
        have c2 := c.2
        rw [show 272 + k - 272 = k by omega] at c2
        exact Or.inr (Or.inr ⟨c2, h⟩)
      · rw [if_neg c] at h; exact Or.inr (Or.inl h)
    · exact Or.inr (Or.inr h)
  have n2 : Nv (m_c3 (m_c2 (m_c1 w 48) (m_P w)) 3) := Nv_fr (fun j hj => by unfold Fj at hj; unfold m_c3; rw [if_neg (by omega)]; unfold m_c2; rw [if_neg (by omega)]) n1
  have n3 : Nv (m_c5 w) := by
    unfold m_c5 m_c4
    exact Nv_10 (Nv_fr (fun j hj => by unfold Fj at hj; rw [uw_ne (by omega), uw_ne (by omega), uw_ne (by omega)]) n2)
  unfold m_com m_c6
  exact Nv_fr (fun j hj => by unfold Fj at hj; rw [uw_ne (by omega), uw_ne (by omega), uw_ne (by omega)]) n3
theorem Nv_r1 {B : Nat} {w : Nat → Int32} {k : Nat} (x : Iv B w) (n : Nv w) (hk : k < 48) : Nv (m_r1 w k) := by
  have hF := x.1.1.2.2
  have hS := x.1.2.1.2.2
  have n0 : ∀ v, Nv v → (∀ j, Fj j → v j = w j) → v (26 + k / 8) = w (26 + k / 8) → Nv (m_r0 v k) := by
    intro v nv ev e26
    have ne : ∀ j, j ≠ 32 + k → j ≠ 80 + k → j ≠ 176 + k → m_r0 v k j = v j := fun j a b c => by unfold m_r0; rw [uw_ne a, uw_ne b, uw_ne c]
    have e80 : m_r0 v k (80 + k) = if v (26 + k / 8) = -1 then -1 else v (272 + k) := by unfold m_r0; rw [uw_ne (by omega), uw_at]
    have e32 : m_r0 v k (32 + k) = m_rsd v k := by unfold m_r0; rw [uw_at]
    intro k' hk' kd
    rw [ne _ (by omega) (by omega) (by omega)] at kd
    have q := nv k' hk' kd
    refine ⟨?_, fun s hs h => ?_⟩
    · by_cases ek : k' = k
      · subst ek
        rw [e32]
        unfold m_rsd
        by_cases c1 : v (26 + k' / 8) = -1
        · rw [if_pos c1]; exact fun h => absurd h (by decide)
        · rw [if_neg c1]
          by_cases c2 : v (272 + k') = -1
          · rw [if_pos c2]; exact fun h => absurd h (by decide)
          · rw [if_neg c2]
            have c3 := ev (272 + k') (by unfold Fj; omega)
            rcases x.2.2.2.2.1 k' hk' with a | ⟨s, a, b, _⟩
            · rw [c3] at c2; exact absurd a c2
            · rw [c3, b, nn_nI (by omega)]
              exact q.2 s (by omega) (Or.inr (Or.inl (by rw [c3]; exact b)))
      · rw [ne _ (by omega) (by omega) (by omega)]; exact q.1
    · rw [ne (368 + s) (by omega) (by omega) (by omega)]
      rw [ne (272 + k') (by omega) (by omega) (by omega), ne 10 (by omega) (by omega) (by omega), ne (224 + k') (by omega) (by omega) (by omega)] at h
      refine q.2 s hs ?_
      rcases h with h | h
      · by_cases ek : k' = k
        · subst ek
          rw [e80] at h
          by_cases c1 : v (26 + k' / 8) = -1
          · rw [if_pos c1] at h; exact absurd h.symm (nI_m1 (by omega))
          · rw [if_neg c1] at h; exact Or.inr (Or.inl h)
        · rw [ne _ (by omega) (by omega) (by omega)] at h; exact Or.inl h
      · exact Or.inr h
  unfold m_r1
  by_cases c : w (128 + k) = -1
  · rw [if_pos c]; exact n0 w n (fun _ _ => rfl) rfl
  · rw [if_neg c]
    obtain ⟨f, hf, ef, -⟩ := Fr_get x.2.1 hk c
    refine n0 _ (Nv_lv n hk (show f < 16 by omega) ef) (fun j hj => ?_) ?_
    · unfold Fj at hj
      unfold m_lv
      rw [ef, nn_nI (by omega), uw_ne (by omega), uw_ne (by omega)]
    · unfold m_lv
      rw [ef, nn_nI (by omega), uw_ne (by omega), uw_ne (by omega)]
theorem Nv_rs {B : Nat} {w : Nat → Int32} {p : Nat} (x : Iv B w) (n : Nv w) (hp : p < 6) (hb : m_has (w 10) p = false) : Nv (m_rst w p) := by
  have h : ∀ i, i ≤ 8 → Nv (up (fun i v => m_r1 v (8 * p + i)) w i) := by
    intro i
    induction i with
    | zero => intro _; exact n
    | succ i ih =>
      intro hi
      exact Nv_r1 (Iv_rst x hp hb i (by omega)).1 (ih (by omega)) (by omega)
  exact h _ (x.1.2.2.2 p hp).2.1
theorem Nv_crs {B : Nat} {w : Nat → Int32} (x : Iv B w) (n : Nv w) : Nv (m_crs w) := by
  have hP := x.1.2.2.1.2
  have h : ∀ i, i ≤ 6 → Nv (m_crl w i) := by
    intro i
    induction i with
    | zero => intro _; exact Nv_10 n
    | succ i ih =>
      intro hi
      have c := Iv_crl x i (by omega)
      refine Nv_rs c.1 (ih (by omega)) (by omega) ?_
      show m_has (m_crl w i 10) i = false
      rw [c.2.2.1, uw_at]; exact has_0 i
  unfold m_crs
  exact Nv_fr (fun j hj => by unfold Fj at hj; rw [uw_ne (by omega), uw_ne (by omega)]) (h _ hP)
theorem Nv_G {n : Nat} {w : Nat → Int32} (g : Gw n w) : Nv w := by
  intro k hk kd
  refine ⟨by rw [Gw_0 g (by omega) (by omega)]; exact fun h => absurd h (by decide), fun s hs h => ?_⟩
  rw [Gw_0 g (k := 368 + s) (by omega) (by omega)]
  exact fun h => absurd h (by decide)
theorem Nv_ew {w w' : Nat → Int32} (e : Ew w w') (n : Nv w) : Nv w' := Nv_fr (fun j hj => e j (by unfold Fj at hj; omega)) n
theorem Nv_xop {B c : Nat} {w w' : Nat → Int32} {x y v : Int32} (hc : c < 9) (iv : Iv B w) (n : Nv w) (h : x_op w c x y v = some w') : Nv w' := by
  rcases c9 hc with e | e | e | e | e | e | e | e | e <;> subst e
  · have h' : x_rd w x y = some w' := h
    unfold x_rd at h'
    by_cases c1 : m_pg w x y = false
    · rw [if_pos c1] at h'; exact nomatch h'
    · rw [if_neg c1] at h'
      by_cases c2 : m_stk w (m_id x y) false = true
      · rw [if_pos c2] at h'; exact nomatch h'
      · rw [if_neg c2] at h'
        obtain ⟨k, hk, ht, ek, ex⟩ := pg_k iv.1 (x := x) (y := y) (by cases q : m_pg w x y with
          | true => rfl
          | false => exact absurd q c1)
        rw [m_id_k ek hk] at h' c2
        cases h'; exact Nv_acc iv n hk ht (b_f c2)
  · have h' : x_wr w x y v = some w' := h
    unfold x_wr at h'
    by_cases c1 : m_pg w x y = false
    · rw [if_pos c1] at h'; exact nomatch h'
    · rw [if_neg c1] at h'
      by_cases c2 : m_stk w (m_id x y) true = true
      · rw [if_pos c2] at h'; exact nomatch h'
      · rw [if_neg c2] at h'
        obtain ⟨k, hk, ht, ek, ex⟩ := pg_k iv.1 (x := x) (y := y) (by cases q : m_pg w x y with
          | true => rfl
          | false => exact absurd q c1)
        rw [m_id_k ek hk] at h' c2
        cases h'; exact Nv_wri iv n hk ht (b_f c2)
  · have h' : x_st w x = some w' := h
    unfold x_st at h'
    by_cases c1 : m_set w x = false
    · rw [if_pos c1] at h'; exact nomatch h'
    · rw [if_neg c1] at h'
      by_cases c2 : w 10 = 0
      · rw [if_pos c2] at h'
        cases h'; exact Nv_sta n
      · rw [if_neg c2] at h'; exact nomatch h'
  · have h' : x_fl w x = some w' := h
    unfold x_fl at h'
    by_cases c1 : m_148 x = false
    · rw [if_pos c1] at h'; exact nomatch h'
    · rw [if_neg c1] at h'
      by_cases c2 : w 10 = 0
      · rw [if_pos c2] at h'; exact nomatch h'
      · rw [if_neg c2] at h'
        cases h'; exact Nv_fl 48 0 (nn x) w rfl iv n
  · have h' : x_cm w = some w' := h
    unfold x_cm at h'
    by_cases c1 : w 10 = 0
    · rw [if_pos c1] at h'; exact nomatch h'
    · rw [if_neg c1] at h'
      by_cases c2 : m_pc w = 0
      · rw [if_pos c2] at h'
        cases h'; exact Nv_com iv n
      · rw [if_neg c2] at h'; exact nomatch h'
  · have h' : x_ab w = some w' := h
    unfold x_ab at h'
    by_cases c1 : w 10 = 0
    · rw [if_pos c1] at h'; exact nomatch h'
    · rw [if_neg c1] at h'
      cases h'; exact Nv_10 n
  · have h' : some (m_crs w) = some w' := h
    cases h'; exact Nv_crs iv n
  · have h' : x_rb w x = some w' := h
    unfold x_rb at h'
    by_cases c1 : m_lt x (m_P w) = false
    · rw [if_pos c1] at h'; exact nomatch h'
    · rw [if_neg c1] at h'
      by_cases c2 : w (26 + nn x) = -1
      · rw [if_pos c2] at h'; exact nomatch h'
      · rw [if_neg c2] at h'
        by_cases c3 : m_has (w 10) (nn x) = true
        · rw [if_pos c3] at h'; exact nomatch h'
        · rw [if_neg c3] at h'
          have hP := iv.1.2.2.1.2
          obtain ⟨p, hp, ep⟩ := m_lt_of (x := x) (n := m_P w) (by cases q : m_lt x (m_P w) with
            | true => rfl
            | false => exact absurd q c1)
          have en : nn x = p := by rw [ep]; exact nn_nI (by omega)
          rw [en] at h' c3
          cases h'; exact Nv_rs iv n (by omega) (b_f c3)
  · have h' : x_ev w x y = some w' := h
    unfold x_ev at h'
    by_cases c1 : m_pg w x y = false
    · rw [if_pos c1] at h'; exact nomatch h'
    · rw [if_neg c1] at h'
      obtain ⟨k, hk, ht, ek, ex⟩ := pg_k iv.1 (x := x) (y := y) (by cases q : m_pg w x y with
        | true => rfl
        | false => exact absurd q c1)
      rw [m_id_k ek hk] at h'
      by_cases c2 : w (128 + k) = -1
      · rw [if_pos c2] at h'; exact nomatch h'
      · rw [if_neg c2] at h'
        by_cases c3 : (decide (w (176 + k) = nI 1) && (m_nf w).isNone) = true
        · rw [if_pos c3] at h'; exact nomatch h'
        · rw [if_neg c3] at h'
          obtain ⟨f, hf, ef, -⟩ := Fr_get iv.2.1 hk c2
          cases h'; exact Nv_ev iv n hk hf ef
theorem Nv_sc {t : st_T} {B : Nat} (ht : t.2 ≤ 400) (hB : B + 401 < 2 ^ 29) : ∀ f k w T, To t T → k ≤ T.1 → Iv (B + k) w → Nv w → Nv (sc t f k w T).2.2 := by
  intro f
  induction f with
  | zero => intro k w T z hk iv n; exact n
  | succ f ih =>
    intro k w T z hk iv n
    have hz1 := z.1
    have hz2 := z.2.1
    by_cases c0 : T.2.2 = 0
    · rw [sc_0 c0]; exact n
    · by_cases c9 : o_c t T = 9
      · rw [sc_9 c0 c9]; exact n
      · have hc := o_c_le t T
        cases e : o_e t (o_n (o_c t T)) (n1 t T) with
        | some p => rw [sc_e c0 c9 e]; exact n
        | none =>
          cases q : x_op w (o_c t T) (av t (o_n (o_c t T)) 0 (n1 t T)) (av t (o_n (o_c t T)) 1 (n1 t T)) (av t (o_n (o_c t T)) 2 (n1 t T)) with
          | none => rw [sc_n c0 c9 e q]; exact n
          | some w2 =>
            rw [sc_s c0 c9 e q]
            exact ih _ _ _ (nx_tok z c0 _).1 (by have := (nx_tok z c0 (o_n (o_c t T))).2; omega) (Iv_xop (B := B + k) (by omega) (by omega) iv q) (Nv_xop (by omega) iv n q)
