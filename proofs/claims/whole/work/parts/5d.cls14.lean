/-! commits and abandoned barriers, in the class -/
theorem um_ne {A : ab_F} {w : Nat → Int32} {c : Nat} (h : c ≠ 31) : um A w c = A c := wrow_ne h
theorem c_markU {K : ab_F → ab_F → Prop} {I A : ab_F} {B : Nat} {w : Nat → Int32} (e15 : ∀ k, k < 48 → A 15 k = w (80 + k)) (e27 : ∀ k, k < 48 → A 27 k = w (272 + k)) (e25 : ∀ k, k < 48 → A 25 k = m_rk w k) (x : Iv B w) (h : K I (um A w)) : wX8_markUses K I A := by
  obtain ⟨z, fr, dy, sw, ck, re, -⟩ := x
  have hS := z.2.1.2
  refine c_mark (fun k hk => by rw [e15 k hk]; exact sn_sw z sw hk) (fun k hk => by rw [e27 k hk]; exact sn_ck z ck hk) (fun k hk => by rw [e25 k hk]; exact sn_rk z re hk) ?_
  have e : m_r3 (A 31) (fun s => ex (fun k => decide (A 15 k = nI s)) 48) (fun s => ex (fun k => decide (A 27 k = nI s)) 48) (fun s => ex (fun k => decide (A 25 k = nI s)) 48) = m_ur (A 31) w := by
    funext s
    unfold m_r3 m_ur
    split
    · rename_i hs
      unfold m_use
      have p1 : ex (fun k => decide (A 15 k = nI s)) 48 = ex (m_u1 w (nI s)) 48 := ex_congr (fun k hk => by
        unfold m_u1
        rw [e15 k hk]
        rcases sw k hk with a | ⟨t, a, b, c⟩
        · rw [a, decide_eq_false (fun q => nI_m1 (by omega) q.symm), Bool.and_false]
        · rw [c, Bool.true_and])
      have p2 : ex (fun k => decide (A 27 k = nI s)) 48 = ex (m_u2 w (nI s)) 48 := ex_congr (fun k hk => by
        unfold m_u2
        rw [e27 k hk]
        rcases ck k hk with a | ⟨t, a, b, c, d⟩
        · rw [a, decide_eq_false (fun q => nI_m1 (by omega) q.symm), Bool.and_false, Bool.and_false]
        · rw [c, decide_eq_false d, Bool.true_and, Bool.not_false, Bool.true_and])
      have p4 : ex (fun k => decide (A 25 k = nI s)) 48 = ex (m_u4 w (nI s)) 48 := ex_congr (fun k hk => by
        unfold m_u4
        rw [e25 k hk]
        unfold m_rk
        by_cases hb : m_has (w 10) (k / 8) = true
        · rw [if_pos hb, hb, Bool.true_and]
          rcases re k hk hb with a | ⟨a, -⟩ | ⟨t, a, b, c⟩
          · rw [a, decide_eq_false (fun q => nI_m1 (by omega) q.symm), Bool.and_false]
          · rw [a, decide_eq_false (fun q => nI_m2 (by omega) q.symm), Bool.and_false]
          · rw [c, Bool.true_and]
        · rw [if_neg hb, decide_eq_false (fun q => nI_m1 (by omega) q.symm)]
          have hb2 : m_has (w 10) (k / 8) = false := by cases q : m_has (w 10) (k / 8) with
            | false => rfl
            | true => exact absurd q hb
          rw [hb2, Bool.false_and, Bool.and_false])
      show nI (b3 (ex (fun k => decide (A 15 k = nI s)) 48) (ex (fun k => decide (A 27 k = nI s)) 48) (ex (fun k => decide (A 25 k = nI s)) 48)) = _
      rw [p1, p2, p4]
    · rfl
  rw [e]
  exact h
theorem c_cfree {K : Int32 → ab_F → ab_F → Prop} {I A : ab_F} {B : Nat} {w : Nat → Int32} (e15 : ∀ k, k < 48 → A 15 k = w (80 + k)) (e27 : ∀ k, k < 48 → A 27 k = w (272 + k)) (e25 : ∀ k, k < 48 → A 25 k = m_rk w k) (e0 : I 20 0 = w 1) (x : Iv B w) (h : K (nI (m_free w)) I (um A w)) : wX8_countFree K I A := by
  refine c_markU e15 e27 e25 x ?_
  have z := x.1
  have hS := z.2.1.2
  rw [z.2.1.1] at e0
  refine lp (W := fun n i => wlX8_countFree_9 K n (nI (cn (m_fr w) i)) (nI i) I (um A w)) (e := m_S w) (fun n => ?_) (fun n i hi hw => ?_)
  · exact br_t (by rw [e0]; exact nI_le (Nat.le_refl _) (by omega)) h
  · refine br_f (by rw [e0]; exact nI_ge hi (by omega)) (ix0 (by omega) ?_)
    rw [show um A w 31 i = nI (m_use w (nI i)) from ur_31 (by omega)]
    rw [cn] at hw
    refine fr0 (fun e => ?_) (fun e => ?_)
    · rw [e] at hw
      rw [nI_add _ 1, nI_add i 1]; exact hw
    · rw [e] at hw
      rw [nI_add i 1]; exact hw
theorem c_clear {K : ab_F → ab_F → Prop} {I A : ab_F} (h : K (wr (wr I 24 1 (nI 0)) 24 2 (nI 0)) (wrow A 25 (m_cp 48 (fun _ => -1) (A 25)))) : wX1_clearRecords K I A := by
  have g : ∃ n, wlX1_clearRecords_12 K n (nI 0) (wr (wr I 24 1 (nI 0)) 24 2 (nI 0)) (wrow A 25 (m_cp 0 (fun _ => -1) (A 25))) := by
    refine lp (W := fun n i => wlX1_clearRecords_12 K n (nI i) (wr (wr I 24 1 (nI 0)) 24 2 (nI 0)) (wrow A 25 (m_cp i (fun _ => -1) (A 25)))) (e := 48) (fun n => ?_) (fun n i hi hw => ?_)
    · exact br_t (nI_le (Nat.le_refl _) (by omega)) h
    · refine br_f (nI_ge hi (by omega)) (ix0 hi ?_)
      simp only [wr_w, wrow_wrow, wrow_at] at hw ⊢
      rw [m_cp_st (fun _ => -1), nI_add i 1]; exact hw
  rw [m_cp_0, wrow_id] at g
  exact g
theorem cp_at {n : Nat} {a b : Nat → Int32} {k : Nat} (h : k < n) : m_cp n a b k = a k := by unfold m_cp; rw [if_pos h]
theorem c_clr {K : ab_F → ab_F → Prop} {I A : ab_F} {w : Nat → Int32} (r : Rs 8 I A w) (h : ∀ I' A', Rs 8 I' A' (uw w 10 (nI 0)) → Ek I A I' A' → K I' A') : wX1_clearRecords K I A := by
  refine c_clear (h _ _ ?_ ?_)
  · refine Rs_ba r (fun j hj h4 => uw_ne (by omega)) (fun c hc => by rw [wr_ne hc, wr_ne hc]) (fun c q1 q2 q3 q4 q5 => wrow_ne q1) ⟨⟨?_, ?_, ?_⟩, fun q => absurd (uw_at w 10 (nI 0)) q, fun k hk => ⟨?_, ?_⟩, fun p hp => ?_, ?_⟩
    · show wr (wr I 24 1 (nI 0)) 24 2 (nI 0) 24 0 = _
      rw [wr_nei (by decide), wr_nei (by decide), uw_ne (by omega)]; exact r.2.1.1.1
    · show wr (wr I 24 1 (nI 0)) 24 2 (nI 0) 24 1 = _
      rw [wr_nei (by decide), wr_ate, uw_at]
    · show wr (wr I 24 1 (nI 0)) 24 2 (nI 0) 24 3 = _
      rw [wr_nei (by decide), wr_nei (by decide), uw_ne (by omega)]; exact r.2.1.1.2.2
    · show wrow A 25 _ 25 k = _
      rw [wrow_at, cp_at hk]
      unfold m_rk
      rw [uw_at, has_0, if_neg (by decide)]
    · rw [wrow_ne (by decide), (r.2.1.2.2.1 k hk).2, uw_ne (by omega)]
    · rw [wrow_ne (by decide), r.2.1.2.2.2.1 p hp, uw_ne (by omega)]
    · rw [uw_ne (by omega)]
      intro c hc hc2 i hi j hj
      rw [wrow_ne (by decide), r.2.1.2.2.2.2 c hc hc2 i hi j hj, uw_ne (by omega)]
  · intro c hc; exact ⟨by rw [wr_ne (by omega), wr_ne (by omega)], wrow_ne (by omega)⟩
theorem c_abandon {K : Int32 → ab_F → ab_F → Prop} {I A : ab_F} {B : Nat} {w : Nat → Int32} (r : Rs 8 I A w) (x : Iv B w) (h : ∀ I' A', Rs 8 I' A' (m_ab w) → Ek I A I' A' → K (m_fd w (m_ab w)) I' A') : wX8_abandon K I A := by
  refine c_countFree r x (c_clr (Rs_31 r) (fun I1 A1 r1 ek1 => c_countFree r1 (Iv_b0 x) (h _ _ (Rs_31 r1) (((Ek_u _).trans ek1).trans (Ek_u _)))))
/-! a commit -/
def m_27 (a b : Nat → Int32) (s : Int32) (i : Nat) : Nat → Int32 := fun k => if k < i ∧ m_has s (k / 8) = true then a k else b k
def m_26 (b : Nat → Int32) (s e : Int32) (i : Nat) : Nat → Int32 := fun p => if 8 * p < i ∧ m_has s p = true then e else b p
theorem m_27_st {a b : Nat → Int32} {s : Int32} {i : Nat} (h : m_has s (i / 8) = true) : uw (m_27 a b s i) i (a i) = m_27 a b s (i + 1) := by
  funext k
  unfold m_27
  by_cases e : k = i
  · subst e; rw [uw_at, if_pos ⟨by omega, h⟩]
  · rw [uw_ne e]
    by_cases hc : k < i ∧ m_has s (k / 8) = true
    · rw [if_pos hc, if_pos ⟨by omega, hc.2⟩]
    · rw [if_neg hc, if_neg (fun q => hc ⟨by omega, q.2⟩)]
theorem m_27_sk {a b : Nat → Int32} {s : Int32} {i : Nat} (h : m_has s (i / 8) = false) : m_27 a b s i = m_27 a b s (i + 1) := by
  funext k
  unfold m_27
  by_cases hc : k < i ∧ m_has s (k / 8) = true
  · rw [if_pos hc, if_pos ⟨by omega, hc.2⟩]
  · rw [if_neg hc, if_neg (fun q => hc ⟨by
      have : k ≠ i := fun e => by rw [e, h] at q; exact nomatch q.2
      omega, q.2⟩)]
theorem m_26_st {b : Nat → Int32} {s e : Int32} {i : Nat} (h : m_has s (i / 8) = true) : uw (m_26 b s e i) (i / 8) e = m_26 b s e (i + 1) := by
  funext p
  unfold m_26
  by_cases ep : p = i / 8
  · subst ep; rw [uw_at, if_pos ⟨by omega, h⟩]
  · rw [uw_ne ep]
    by_cases hc : 8 * p < i ∧ m_has s p = true
    · rw [if_pos hc, if_pos ⟨by omega, hc.2⟩]
    · rw [if_neg hc, if_neg (fun q => hc ⟨by omega, q.2⟩)]
theorem m_26_sk {b : Nat → Int32} {s e : Int32} {i : Nat} (h : m_has s (i / 8) = false) : m_26 b s e i = m_26 b s e (i + 1) := by
  funext p
  unfold m_26
  by_cases hc : 8 * p < i ∧ m_has s p = true
  · rw [if_pos hc, if_pos ⟨by omega, hc.2⟩]
  · rw [if_neg hc, if_neg (fun q => hc ⟨by
      have : p ≠ i / 8 := fun e => by rw [e, h] at q; exact nomatch q.2
      omega, q.2⟩)]
theorem m_27_0 {a b : Nat → Int32} {s : Int32} : m_27 a b s 0 = b := by funext k; unfold m_27; rw [if_neg (by omega)]
theorem m_26_0 {b : Nat → Int32} {s e : Int32} : m_26 b s e 0 = b := by funext k; unfold m_26; rw [if_neg (by omega)]
theorem wr_2726 {A : ab_F} {X Y : Nat → Int32} {i j : Nat} {u v : Int32} : wr (wr (wrow (wrow A 27 X) 26 Y) 27 i u) 26 j v = wrow (wrow A 27 (uw X i u)) 26 (uw Y j v) := by
  funext c
  by_cases h26 : c = 26
  · subst h26; rw [wrow_at, wr_w, wrow_at, wr_ne (by decide), wrow_at]
  · rw [wrow_ne h26, wr_ne h26]
    by_cases h27 : c = 27
    · subst h27; rw [wrow_at, wr_w, wrow_at, wrow_ne (by decide), wrow_at]
    · rw [wr_ne h27, wrow_ne h26, wrow_ne h27, wrow_ne h27]
theorem c_recs {K : ab_F → ab_F → Prop} {I A : ab_F} {b : Nat} (hb : b < 64) (e : I 24 1 = nI b) (h : K I (wrow (wrow A 27 (m_27 (A 25) (A 27) (nI b) 48)) 26 (m_26 (A 26) (nI b) (I 24 0) 48))) : wX1_recordsBecomeCheckpoints K I A := by
  have g : ∃ n, wlX1_recordsBecomeCheckpoints_2 K n (nI 0) I (wrow (wrow A 27 (m_27 (A 25) (A 27) (nI b) 0)) 26 (m_26 (A 26) (nI b) (I 24 0) 0)) := by
    refine lp (W := fun n i => wlX1_recordsBecomeCheckpoints_2 K n (nI i) I (wrow (wrow A 27 (m_27 (A 25) (A 27) (nI b) i)) 26 (m_26 (A 26) (nI b) (I 24 0) i))) (e := 48) (fun n => ?_) (fun n i hi hw => ?_)
    · exact br_t (nI_le (Nat.le_refl _) (by omega)) h
    · refine br_f (nI_ge hi (by omega)) (nm_r (pk_div (by omega) (by omega) (by omega)) (c_cov hb (by omega) e (bb (fun q => ?_) (fun q => ?_))))
      · rw [m_27_sk q, m_26_sk q, nI_add i 1]; exact hw
      · refine ix0 hi (ix0 hi (ix0 (by omega) ?_))
        have e25 : wrow (wrow A 27 (m_27 (A 25) (A 27) (nI b) i)) 26 (m_26 (A 26) (nI b) (I 24 0) i) 25 i = A 25 i := by rw [wrow_ne (by decide), wrow_ne (by decide)]
        rw [e25, wr_2726, m_27_st q, m_26_st q, nI_add i 1]; exact hw
  rw [m_27_0, m_26_0, wrow_id, wrow_id] at g
  exact g
theorem free_eq {w w' : Nat → Int32} (h : Sm w w') (h80 : ∀ k, k < 48 → w' (80 + k) = w (80 + k)) (h26 : ∀ p, p < 6 → w' (26 + p) = w (26 + p)) (h272 : ∀ k, k < 48 → w' (272 + k) = w (272 + k)) (h10 : w' 10 = w 10) (h224 : ∀ k, k < 48 → w' (224 + k) = w (224 + k)) : m_free w' = m_free w := by
  unfold m_free
  rw [h.S]
  exact cn_congr (fun s hs => by unfold m_fr; rw [m_use_eq h h80 h26 h272 h10 h224])
theorem com_free {w : Nat → Int32} : m_free (m_com w) = m_free (m_c5 w) := by
  have ne : ∀ j, j ≠ 579 → j ≠ 13 → j ≠ 8 → m_com w j = m_c5 w j := fun j a b c => by unfold m_com m_c6; rw [uw_ne c, uw_ne b, uw_ne a]
  exact free_eq ⟨ne _ (by omega) (by omega) (by omega), ne _ (by omega) (by omega) (by omega), ne _ (by omega) (by omega) (by omega), fun p hp => ne _ (by omega) (by omega) (by omega)⟩ (fun k hk => ne _ (by omega) (by omega) (by omega)) (fun k hk => ne _ (by omega) (by omega) (by omega)) (fun k hk => ne _ (by omega) (by omega) (by omega)) (ne _ (by omega) (by omega) (by omega)) (fun k hk => ne _ (by omega) (by omega) (by omega))
theorem lg_row {o : Nat → Int32} {R : Nat} {a b c d : Int32} : ∀ m, uw (uw (uw (uw o R a) (R + 1) b) (R + 2) c) (R + 3) d m = if m = R + 3 then d else if m = R + 2 then c else if m = R + 1 then b else if m = R then a else o m := by
  intro m; unfold uw; rfl
theorem c_addToLog {K : ab_F → ab_F → Prop} {I A : ab_F} {c : Nat} {p q f : Int32} (hc : c < 2 ^ 30) (e : I 24 3 = nI c) (h : K (wr I 24 3 (nI (c + 1))) (wrow A 28 (uw (uw (uw (uw (A 28) (c % 8 * 4) p) (c % 8 * 4 + 1) (I 24 0)) (c % 8 * 4 + 2) q) (c % 8 * 4 + 3) f))) : wX1_addToLog K I A p q f := by
  have hr : nI c - nI c / nI 8 * nI 8 = nI (c % 8) := pk_rem (by omega) (by omega) (by omega)
  have hm : nI (c % 8) * nI 4 = nI (c % 8 * 4) := (Int32.ofNat_mul (c % 8) 4).symm
  refine nm_r (show (I 24 3 - I 24 3 / nI 8 * nI 8) * nI 4 = nI (c % 8 * 4) by rw [e, hr, hm]) ?_
  refine ix0 (by omega) (ixa (by omega) (ixa (by omega) (ixa (by omega) ?_)))
  simp only [wr_w, wrow_wrow, wrow_at, e, nI_add c 1]
  simp only [wr_w] at h
  exact h
theorem c_commit {K : Int32 → ab_F → ab_F → Prop} {I A : ab_F} {B : Nat} {w : Nat → Int32} (r : Rs 8 I A w) (x : Iv B w) (hB : B < 2 ^ 29) (hp : m_pc w = 0) (h0 : w 10 ≠ 0) (h : ∀ I' A', Rs 8 I' A' (m_com w) → Ek I A I' A' → K (m_fd w (m_c5 w)) I' A') : wX8_commit K I A := by
  have z := x.1
  have hP := z.2.2.1.2
  have x' := Iv_com (by omega) x hp
  obtain ⟨b, hb, e10⟩ := x.2.2.2.2.2.2.1
  have h64 : b < 64 := Nat.lt_of_lt_of_le hb (Nat.pow_le_pow_right (by omega) hP)
  obtain ⟨c, hc, e8, -⟩ := x.2.2.2.2.2.2.2.2.2.1.2.2
  have i1 : I 24 1 = w 10 := r.2.1.1.2.1
  have i0 : I 24 0 = w 4 := r.2.1.1.1
  have i3 : I 24 3 = w 8 := r.2.1.1.2.2
  have i2 : I 24 2 = w 11 := by rw [r.2.1.2.1 h0, hp]; exact Int32.add_zero _
  have d5 := r.2.1.2.2.1
  have d6 := r.2.1.2.2.2.1
  have cm := com_8 z
  refine c_countFree r x (nm_r i1 (nm_r i2 (c_recs h64 (i1.trans e10) (c_clear ?_))))
  generalize hA2 : wrow (wrow (wrow (um A w) 27 (m_27 (um A w 25) (um A w 27) (nI b) 48)) 26 (m_26 (um A w 26) (nI b) (I 24 0) 48)) 25 (m_cp 48 (fun _ => -1) (wrow (wrow (um A w) 27 (m_27 (um A w 25) (um A w 27) (nI b) 48)) 26 (m_26 (um A w 26) (nI b) (I 24 0) 48) 25)) = A2
  have u25 : um A w 25 = A 25 := wrow_ne (by decide)
  have u26 : um A w 26 = A 26 := wrow_ne (by decide)
  have u27 : um A w 27 = A 27 := wrow_ne (by decide)
  have t25 : ∀ k, k < 48 → A2 25 k = m_rk (m_com w) k := by
    intro k hk
    rw [← hA2, wrow_at, cp_at hk]
    unfold m_rk
    rw [cm.2.2, has_0, if_neg (by decide)]
  have t27 : ∀ k, k < 48 → A2 27 k = m_com w (272 + k) := by
    intro k hk
    rw [← hA2, wrow_ne (by decide), wrow_ne (by decide), wrow_at, com_ck z hk, u25, u27, ← e10]
    unfold m_27
    by_cases hh : m_has (w 10) (k / 8) = true
    · rw [if_pos ⟨hk, hh⟩, if_pos hh, (show A 25 k = m_rk w k from (d5 k hk).1)]
      unfold m_rk; rw [if_pos hh]
    · rw [if_neg (fun q => hh q.2), if_neg hh]; exact (d5 k hk).2
  have t26 : ∀ p, p < 6 → A2 26 p = m_com w (26 + p) := by
    intro p hp6
    rw [← hA2, wrow_ne (by decide), wrow_at, com_po z hp6, u26, ← e10, i0]
    unfold m_26
    by_cases hh : m_has (w 10) p = true
    · rw [if_pos ⟨by omega, hh⟩, if_pos ⟨Ba_P z x.2.2.2.2.2.2.1 hp6 hh, hh⟩]
    · rw [if_neg (fun q => hh q.2), if_neg (fun q => hh q.2)]; exact d6 p hp6
  have tO : ∀ c, c ≠ 25 → c ≠ 26 → c ≠ 27 → c ≠ 31 → A2 c = A c := fun c q1 q2 q3 q4 => by
    rw [← hA2, wrow_ne q1, wrow_ne q2, wrow_ne q3, um_ne q4]
  have t15 : ∀ k, k < 48 → A2 15 k = m_com w (80 + k) := by
    intro k hk
    rw [tO 15 (by decide) (by decide) (by decide) (by decide), com_lo z (by omega) (by omega) (by omega) (by omega) (by omega) (by omega)]
    exact (r.1.1.2.2 k hk).2.2
  have j0 : wr (wr I 24 1 (nI 0)) 24 2 (nI 0) 20 0 = m_com w 1 := by
    rw [wr_ne (by decide), wr_ne (by decide), com_lo z (by omega) (by omega) (by omega) (by omega) (by omega) (by omega)]
    exact r.1.2.2.1
  have j3 : wr (wr I 24 1 (nI 0)) 24 2 (nI 0) 24 3 = nI c := by rw [wr_nei (by decide), wr_nei (by decide), i3, e8]
  refine c_cfree t15 t27 t25 j0 x' (nm_r (show nI (m_free (m_com w)) - nI (m_free w) = m_fd w (m_c5 w) by rw [com_free]; rfl) (c_addToLog (c := c) (by omega) j3 (h _ _ ?_ ?_)))
  · have lg := com_lg z
    refine Rs_ba r (fun j hj h4 => com_lo z (by omega) (by omega) (by omega) (by omega) (by omega) (by omega)) (fun c hc => by rw [wr_ne hc, wr_ne hc, wr_ne hc]) (fun c q1 q2 q3 q4 q5 => by rw [wrow_ne q4, um_ne q5]; exact tO c q1 q2 q3 q5) ⟨⟨?_, ?_, ?_⟩, fun q => absurd cm.2.2 q, fun k hk => ⟨?_, ?_⟩, fun p hp => ?_, ?_⟩
    · show wr (wr (wr I 24 1 (nI 0)) 24 2 (nI 0)) 24 3 _ 24 0 = _
      rw [wr_nei (by decide), wr_nei (by decide), wr_nei (by decide), i0, com_lo z (by omega) (by omega) (by omega) (by omega) (by omega) (by omega)]
    · show wr (wr (wr I 24 1 (nI 0)) 24 2 (nI 0)) 24 3 _ 24 1 = _
      rw [wr_nei (by decide), wr_nei (by decide), wr_ate, cm.2.2]
    · show wr (wr (wr I 24 1 (nI 0)) 24 2 (nI 0)) 24 3 _ 24 3 = _
      rw [wr_ate, cm.1, e8, nI_add]
    · rw [wrow_ne (by decide), um_ne (by decide)]; exact t25 k hk
    · rw [wrow_ne (by decide), um_ne (by decide)]; exact t27 k hk
    · rw [wrow_ne (by decide), um_ne (by decide)]; exact t26 p hp
    · intro c' hc' hc2 i hi j hj
      have ec : c' = c + 1 := by
        rw [cm.1, e8, nI_add] at hc'
        exact ((nI_eq (by omega) (by omega)).mp hc').symm
      subst ec
      rw [wrow_at, lg_row]
      have a28 : um A2 (m_com w) 28 = A 28 := by rw [show um A2 (m_com w) 28 = A2 28 from wrow_ne (by decide)]; exact tO 28 (by decide) (by decide) (by decide) (by decide)
      rw [a28]
      have jj0 : wr (wr I 24 1 (nI 0)) 24 2 (nI 0) 24 0 = w 4 := by rw [wr_nei (by decide), wr_nei (by decide), i0]
      rw [jj0]
      by_cases hi0 : i = 0
      · subst hi0
        rw [show c + 1 - 1 - 0 = c by omega]
        have hj4 : j = 0 ∨ j = 1 ∨ j = 2 ∨ j = 3 := by omega
        rcases hj4 with e | e | e | e <;> subst e
        · rw [if_neg (by omega), if_neg (by omega), if_neg (by omega), if_pos (by omega)]; exact lg.1.symm
        · rw [if_neg (by omega), if_neg (by omega), if_pos (by omega)]; exact lg.2.1.symm
        · rw [if_neg (by omega), if_pos (by omega)]; exact lg.2.2.1.symm
        · rw [if_pos (by omega)]; exact lg.2.2.2.1.symm
      · have hne : (c + 1 - 1 - i) % 8 ≠ c % 8 := by omega
        rw [if_neg (by omega), if_neg (by omega), if_neg (by omega), if_neg (by omega)]
        have g := r.2.1.2.2.2.2 c e8 (by omega) (i - 1) (by omega) j hj
        rw [show c - 1 - (i - 1) = c + 1 - 1 - i by omega] at g
        rw [show A 28 ((c + 1 - 1 - i) % 8 * 4 + j) = w (576 + (4 * (i - 1) + j)) from g, show 576 + (4 * i + j) = 580 + (4 * (i - 1) + j) by omega, lg.2.2.2.2 (4 * (i - 1) + j) (by omega)]
  · intro c hc; exact ⟨by rw [wr_ne (by omega), wr_ne (by omega), wr_ne (by omega)], by rw [wrow_ne (by omega), um_ne (by omega)]; exact tO c (by omega) (by omega) (by omega) (by omega)⟩
