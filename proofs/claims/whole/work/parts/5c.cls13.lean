/-! barriers start and are written, in the class -/
theorem c_cov {K : Int32 → ab_F → ab_F → Prop} {I A : ab_F} {b p : Nat} (hb : b < 64) (hp : p < 6) (e : I 24 1 = nI b) (h : K (bI (m_has (nI b) p)) I A) : wX1_covers K I A (nI p) := by
  unfold wX1_covers
  rw [e, has_cv b hb p hp]
  cases hq : m_has (nI b) p with
  | false => rw [hq] at h; exact br_t rfl h
  | true => rw [hq] at h; exact br_f (fun q => nomatch q) h
theorem c_dirt {K : Int32 → ab_F → ab_F → Prop} {I A : ab_F} {w : Nat → Int32} {k : Nat} (hk : k < 48) (e : A 12 (k / 8) = nI (m_ds w (k / 8))) (h : K (bI (decide (w (176 + k) = nI 1))) I A) : wX4_isDirty K I A (nI k) := by
  unfold wX4_isDirty
  rw [pk_div (by omega) (by omega) (by omega), show nI k - nI (k / 8) * nI 8 = nI (k % 8) from by rw [← pk_div (by omega) (by omega) (by omega)]; exact pk_rem (by omega) (by omega) (by omega)]
  refine ix0 (by omega) ?_
  rw [e, ds_cv _ (ds_lt w _) (k % 8) (by omega)]
  have eb := ds_bit w (k / 8) (i := k % 8) (by omega)
  rw [show 8 * (k / 8) + k % 8 = k by omega] at eb
  rw [eb]
  cases hb : decide (w (176 + k) = nI 1) with
  | false => rw [hb] at h; exact br_t rfl h
  | true => rw [hb] at h; exact br_f (fun q => nomatch q) h
/-- what is pending in the class is pending in the row -/
theorem rk_tp {B : Nat} {w : Nat → Int32} {k : Nat} (x : Iv B w) (hk : k < 48) : decide (m_rk w k = -2) = m_tp w k := by
  unfold m_tp
  by_cases h2 : m_rk w k = -2
  · rw [decide_eq_true h2]
    have hp := rk_pd.mp h2
    have hb : m_has (w 10) (k / 8) = true ∧ w (224 + k) = -2 := by
      unfold m_pd at hp
      have := Bool.and_eq_true_iff.mp hp
      exact ⟨this.1, of_decide_eq_true this.2⟩
    have hd : w (176 + k) = nI 1 := by
      rcases x.2.2.2.2.2.1 k hk hb.1 with a | ⟨a, b⟩ | ⟨s, a, b, c⟩
      · rw [hb.2] at a; exact absurd a (by decide)
      · exact b
      · rw [hb.2] at b; have := x.1.2.1.2; exact absurd b.symm (nI_m2 (by omega))
    have hr : w (128 + k) ≠ -1 := by
      rcases x.2.2.1 k hk with a | ⟨a, b, c⟩
      · rw [hd] at a; exact absurd a (by decide)
      · exact b
    obtain ⟨f, a, b, c⟩ := Fr_get x.2.1 hk hr
    have hF := x.1.1.2
    rw [(Fr_th x.1 x.2.1 hk b (by omega)).1, hp]; rfl
  · rw [decide_eq_false h2]
    have hp : m_pd w k = false := by cases q : m_pd w k with
      | false => rfl
      | true => exact absurd (rk_pd.mpr q) h2
    rw [hp, Bool.and_false]
theorem c_cpend {K : Int32 → ab_F → ab_F → Prop} {I A : ab_F} {B : Nat} {w : Nat → Int32} (e25 : ∀ k, k < 48 → A 25 k = m_rk w k) (x : Iv B w) (h : K (nI (m_pc w)) I A) : wX1_countPending K I A := by
  refine lp (W := fun n i => wlX1_countPending_4 K n (nI (cn (m_tp w) i)) (nI i) I A) (e := 48) (fun n => ?_) (fun n i hi hw => ?_)
  · exact br_t (nI_le (Nat.le_refl _) (by omega)) h
  · refine br_f (nI_ge hi (by omega)) (ix0 hi ?_)
    rw [e25 i hi]
    rw [cn, ← rk_tp x hi] at hw
    by_cases h2 : m_rk w i = -2
    · rw [decide_eq_true h2] at hw
      refine rb_t h2 ?_
      rw [nI_add _ 1, nI_add i 1]; exact hw
    · rw [decide_eq_false h2] at hw
      refine rb_f h2 ?_
      rw [nI_add i 1]; exact hw
theorem sta_lo {w : Nat → Int32} {x : Int32} {j : Nat} (h : j < 224 ∨ 272 ≤ j) (h4 : j ≠ 4 ∧ j ≠ 10 ∧ j ≠ 11) : m_sta w x j = w j := by
  unfold m_sta m_s1
  rw [if_neg (by omega)]
  unfold m_s0
  rw [uw_ne h4.2.2, uw_ne h4.2.1, uw_ne h4.1]
theorem sta_4 {w : Nat → Int32} {x : Int32} : m_sta w x 4 = w 4 + nI 1 ∧ m_sta w x 10 = x ∧ m_sta w x 11 = nI 0 := by
  unfold m_sta m_s1
  refine ⟨?_, ?_, ?_⟩
  · rw [if_neg (by omega)]; unfold m_s0; rw [uw_ne (by omega), uw_ne (by omega), uw_at]
  · rw [if_neg (by omega)]; unfold m_s0; rw [uw_ne (by omega), uw_at]
  · rw [if_neg (by omega)]; unfold m_s0; rw [uw_at]
theorem sta_r {w : Nat → Int32} {x : Int32} {k : Nat} (hk : k < 48) : m_sta w x (224 + k) = if w (176 + k) = nI 1 then -2 else w (80 + k) := by
  unfold m_sta m_s1
  rw [if_pos (by omega), show 224 + k - 48 = 176 + k by omega, show 224 + k - 144 = 80 + k by omega]
  unfold m_s0
  rw [uw_ne (by omega), uw_ne (by omega), uw_ne (by omega), uw_ne (by omega), uw_ne (by omega), uw_ne (by omega)]
/-- the records' row while a barrier starts -/
def m_q (o w : Nat → Int32) (b i : Nat) : Nat → Int32 := fun k => if k < i ∧ m_has (nI b) (k / 8) = true then (if w (176 + k) = nI 1 then -2 else w (80 + k)) else o k
theorem m_q_st {o w : Nat → Int32} {b i : Nat} (h : m_has (nI b) (i / 8) = true) : uw (m_q o w b i) i (if w (176 + i) = nI 1 then -2 else w (80 + i)) = m_q o w b (i + 1) := by
  funext k
  unfold m_q
  by_cases e : k = i
  · subst e; rw [uw_at, if_pos (show k < k + 1 ∧ m_has (nI b) (k / 8) = true from ⟨by omega, h⟩)]
  · rw [uw_ne e]
    by_cases hc : k < i ∧ m_has (nI b) (k / 8) = true
    · rw [if_pos hc, if_pos (show k < i + 1 ∧ m_has (nI b) (k / 8) = true from ⟨by omega, hc.2⟩)]
    · rw [if_neg hc, if_neg (fun q => hc ⟨by omega, q.2⟩)]
theorem m_q_sk {o w : Nat → Int32} {b i : Nat} (h : m_has (nI b) (i / 8) = false) : m_q o w b i = m_q o w b (i + 1) := by
  funext k
  unfold m_q
  by_cases hc : k < i ∧ m_has (nI b) (k / 8) = true
  · rw [if_pos hc, if_pos (show k < i + 1 ∧ m_has (nI b) (k / 8) = true from ⟨by omega, hc.2⟩)]
  · rw [if_neg hc, if_neg (fun q => hc ⟨by
      have : k ≠ i := fun e => by rw [e, h] at q; exact nomatch q.2
      omega, q.2⟩)]
theorem m_q_0 {o w : Nat → Int32} {b : Nat} : m_q o w b 0 = o := by funext k; unfold m_q; rw [if_neg (by omega)]
theorem c_start {K : Int32 → ab_F → ab_F → Prop} {I A : ab_F} {B b : Nat} {w : Nat → Int32} (r : Rs 8 I A w) (x : Iv B w) (h0 : w 10 = nI 0) (hb : b < 2 ^ m_P w) (h : ∀ I' A', Rs 8 I' A' (m_sta w (nI b)) → Ek I A I' A' → K (nI (m_pc (m_sta w (nI b)))) I' A') : wX8_start K I A (nI b) := by
  have hP := x.1.2.2.1.2
  have h64 : b < 64 := Nat.lt_of_lt_of_le hb (Nat.pow_le_pow_right (by omega) hP)
  have e240 : I 24 0 = w 4 := r.2.1.1.1
  have e243 : I 24 3 = w 8 := r.2.1.1.2.2
  have e25 : ∀ k, k < 48 → A 25 k = -1 := fun k hk => ((r.2.1.2.2.1 k hk).1).trans (by unfold m_rk; rw [h0, has_0, if_neg (by decide)])
  have e15 : ∀ k, k < 48 → A 15 k = w (80 + k) := fun k hk => (r.1.1.2.2 k hk).2.2
  have e12 : ∀ p, p < 6 → A 12 p = nI (m_ds w p) := fun p hp => (r.1.1.2.1 p hp).2.2
  have x' := Iv_sta x hb
  have i1 : wr (wr I 24 0 (I 24 0 + nI 1)) 24 1 (nI b) 24 1 = nI b := wr_ate _ _ _ _
  have i0 : wr (wr I 24 0 (I 24 0 + nI 1)) 24 1 (nI b) 24 0 = w 4 + nI 1 := by rw [wr_nei (by decide), wr_ate, e240]
  have i3 : wr (wr I 24 0 (I 24 0 + nI 1)) 24 1 (nI b) 24 3 = w 8 := by rw [wr_nei (by decide), wr_nei (by decide), e243]
  have io : ∀ c, c ≠ 24 → wr (wr I 24 0 (I 24 0 + nI 1)) 24 1 (nI b) c = I c := fun c hc => by rw [wr_ne hc, wr_ne hc]
  have g : ∃ n, wlX8_start_23 K n (nI 0) (wr (wr I 24 0 (I 24 0 + nI 1)) 24 1 (nI b)) (wrow A 25 (m_q (A 25) w b 0)) := by
    generalize wr (wr I 24 0 (I 24 0 + nI 1)) 24 1 (nI b) = J at i1 i0 i3 io
    refine lp (W := fun n i => wlX8_start_23 K n (nI i) J (wrow A 25 (m_q (A 25) w b i))) (e := 48) (fun n => ?_) (fun n i hi hw => ?_)
    · have q25 : ∀ k, k < 48 → wrow A 25 (m_q (A 25) w b 48) 25 k = m_rk (m_sta w (nI b)) k := by
        intro k hk
        rw [wrow_at]
        unfold m_q m_rk
        rw [sta_4.2.1, sta_r hk]
        by_cases hc : m_has (nI b) (k / 8) = true
        · rw [if_pos ⟨hk, hc⟩, if_pos hc]
        · rw [if_neg (fun q => hc q.2), if_neg hc, e25 k hk]
      refine br_t (nI_le (Nat.le_refl _) (by omega)) (c_cpend q25 x' (h _ _ ?_ ?_))
      · refine Rs_ba r (fun j hj h4 => sta_lo (by omega) (by omega)) (fun c hc => by rw [wr_ne hc, io c hc]) (fun c q1 q2 q3 q4 q5 => wrow_ne q1) ⟨⟨?_, ?_, ?_⟩, fun _ => ?_, fun k hk => ⟨q25 k hk, ?_⟩, fun p hp => ?_, ?_⟩
        · show wr J 24 2 _ 24 0 = _
          rw [wr_nei (by decide), i0, sta_4.1]
        · show wr J 24 2 _ 24 1 = _
          rw [wr_nei (by decide), i1, sta_4.2.1]
        · show wr J 24 2 _ 24 3 = _
          rw [wr_nei (by decide), i3, sta_lo (by omega) (by omega)]
        · show wr J 24 2 _ 24 2 = _
          rw [wr_ate, sta_4.2.2, nI_add, Nat.zero_add]
        · rw [wrow_ne (by decide), (r.2.1.2.2.1 k hk).2, sta_lo (by omega) (by omega)]
        · rw [wrow_ne (by decide), r.2.1.2.2.2.1 p hp, sta_lo (by omega) (by omega)]
        · rw [sta_lo (by omega) (by omega)]
          intro c hc hc2 i hi j hj
          rw [wrow_ne (by decide), r.2.1.2.2.2.2 c hc hc2 i hi j hj, sta_lo (by omega) (by omega)]
      · intro c hc; exact ⟨by rw [wr_ne (by omega), io c (by omega)], wrow_ne (by omega)⟩
    · refine br_f (nI_ge hi (by omega)) ?_
      rw [pk_div (by omega) (by omega) (by omega)]
      refine c_cov h64 (by omega) i1 (bb (fun q => ?_) (fun q => ?_))
      · rw [m_q_sk q, nI_add i 1]; exact hw
      · have fin : ∀ u : Int32, u = (if w (176 + i) = nI 1 then -2 else w (80 + i)) → wjX8_start_76 K (wlX8_start_23 K n) (nI i) u (nI i) J (wrow A 25 (m_q (A 25) w b i)) := by
          intro u hu
          refine ix0 hi ?_
          rw [wr_w, wrow_wrow, wrow_at, hu, m_q_st q, nI_add i 1]; exact hw
        refine c_dirt (w := w) hi (by rw [wrow_ne (by decide)]; exact e12 _ (by omega)) (bb (fun q2 => ix0 hi (fin _ ?_)) (fun q2 => fin _ ?_))
        · rw [wrow_ne (by decide), e15 i hi, if_neg (of_decide_eq_false q2)]
        · rw [if_pos (of_decide_eq_true q2)]
  rw [m_q_0, wrow_id] at g
  exact g
/-! the pending pages in their order -/
def m_pa (w : Nat → Int32) (i : Nat) : Option Nat := fi (fun k => m_tp w k && decide (cn (m_tp w) k = i)) 48
theorem c_pendingAt {K : Int32 → ab_F → ab_F → Prop} {I A : ab_F} {B i : Nat} {w : Nat → Int32} (e25 : ∀ k, k < 48 → A 25 k = m_rk w k) (x : Iv B w) (hi : i < 2 ^ 31) (h : K (oI (m_pa w i)) I A) : wX1_pendingAt K I A (nI i) := by
  refine lp_fi (W := fun n k => wlX1_pendingAt_4 K n (nI i) (nI (cn (m_tp w) k)) (nI k) I A) (p := fun k => m_tp w k && decide (cn (m_tp w) k = i)) (e := 48) (fun n hn => ?_) (fun n k hk hp hn => ?_) (fun n k hk hp hw => ?_)
  · refine br_t (nI_le (Nat.le_refl _) (by omega)) ?_
    unfold m_pa at h
    rw [fi_none.mpr hn] at h; exact h
  · have hp2 := Bool.and_eq_true_iff.mp hp
    have hc := of_decide_eq_true hp2.2
    refine br_f (nI_ge hk (by omega)) (ix0 hk ?_)
    have h2 : m_rk w k = -2 := of_decide_eq_true ((rk_tp x hk).trans hp2.1)
    rw [e25 k hk]
    refine rb_t h2 (rb_t (by rw [hc]) ?_)
    unfold m_pa at h
    rw [fi_some hk hp hn] at h; exact h
  · refine br_f (nI_ge hk (by omega)) (ix0 hk ?_)
    rw [e25 k hk]
    rw [cn] at hw
    by_cases h2 : m_rk w k = -2
    · have ht : m_tp w k = true := (rk_tp x hk).symm.trans (decide_eq_true h2)
      have hc : ¬ cn (m_tp w) k = i := by
        rw [ht, Bool.true_and] at hp
        exact of_decide_eq_false hp
      have hl := cn_le (p := m_tp w) k
      refine rb_t h2 (rb_f (fun q => hc ((nI_eq (by omega) hi).mp q)) ?_)
      rw [ht] at hw
      rw [nI_add _ 1, nI_add k 1]; exact hw
    · have ht : m_tp w k = false := (rk_tp x hk).symm.trans (decide_eq_false h2)
      rw [ht] at hw
      refine rb_f h2 ?_
      rw [nI_add k 1]; exact hw
theorem fi_c0 {p : Nat → Bool} {n : Nat} : fi (fun k => p k && decide (cn p k = 0)) n = fi p n := by
  cases h : fi p n with
  | none =>
    have h1 := fi_none.mp h
    exact fi_none.mpr (fun k hk => by rw [h1 k hk]; rfl)
  | some k =>
    obtain ⟨h1, h2, h3⟩ := fi_spec h
    have hc : cn p k = 0 := by
      have : ∀ m, m ≤ k → cn p m = 0 := by
        intro m
        induction m with
        | zero => intro _; rfl
        | succ m ih => intro hm; rw [cn, ih (by omega), h3 m (by omega)]; rfl
      exact this k (Nat.le_refl k)
    exact fi_some h1 (by show (p k && decide (cn p k = 0)) = true; rw [h2, hc]; rfl) (fun j hj => by show (p j && decide (cn p j = 0)) = false; rw [h3 j hj]; rfl)
/-- the first pending page -/
def m_fp (w : Nat → Int32) : Option Nat := fi (m_tp w) 48
/-- pages are written, the first pending one each time -/
def m_fo (g : (Nat → Int32) → Nat → Int32) (w : Nat → Int32) : Option Nat → Option Nat → Nat → Int32
  | some k, some s => g (m_put w k s)
  | some _, none => w
  | none, _ => w
def m_fc : Nat → (Nat → Int32) → Nat → Int32
  | 0, w => w
  | l + 1, w => m_fo (m_fc l) w (m_fp w) (m_nf w)
theorem m_fc_s {l : Nat} {w : Nat → Int32} : m_fc (l + 1) w = m_fo (m_fc l) w (m_fp w) (m_nf w) := rfl
theorem m_fo_n {g : (Nat → Int32) → Nat → Int32} {w : Nat → Int32} {o : Option Nat} : m_fo g w none o = w := by cases o <;> rfl
theorem tp_put {w : Nat → Int32} {k s j : Nat} (hk : k < 48) (hs : s < 48) (hj : j < 48) : m_tp (m_put w k s) j = if j = k then false else m_tp w j := by
  have e10 : m_put w k s 10 = w 10 := put_o hk hs (by omega) (by omega) (by omega)
  have sm : Sm w (m_put w k s) := Sm_put
  unfold m_tp
  rw [sm.th hj]
  unfold m_pd
  rw [e10, put_224 hk hs hj]
  by_cases e : j = k
  · subst e
    rw [uw_at, if_pos rfl]
    by_cases h : m_pd w j = true
    · rw [if_pos h, decide_eq_false (nI_m2 (by omega)), Bool.and_false, Bool.and_false]
    · rw [if_neg h]
      have h2 : (m_has (w 10) (j / 8) && decide (w (224 + j) = -2)) = false := by
        cases q : (m_has (w 10) (j / 8) && decide (w (224 + j) = -2)) with
        | false => rfl
        | true => exact absurd q h
      rw [h2, Bool.and_false]
  · rw [uw_ne e, if_neg e]
theorem fl_fc : ∀ (m k left : Nat) (w : Nat → Int32), k + m = 48 → Sz w → (∀ j, j < k → m_tp w j = false) → m_fl m k left w = m_fc left w
  | 0, k, left, w, hk, z, hn => by
    rw [m_fl]
    cases left with
    | zero => rfl
    | succ l =>
      have e : m_fp w = none := fi_none.mpr (fun j hj => hn j (by omega))
      rw [m_fc_s, e, m_fo_n]
  | m + 1, k, left, w, hk, z, hn => by
    rw [m_fl]
    cases left with
    | zero => rfl
    | succ l =>
      rw [if_neg (by omega)]
      by_cases ht : m_tp w k = true
      · have e : m_fp w = some k := fi_some (by omega) ht hn
        rw [if_pos ht, m_fc_s, e]
        cases h : m_nf w with
        | none => rfl
        | some s =>
          have hs8 := m_nf_lt z s h
          show m_fl m (k + 1) (l + 1 - 1) (m_put w k s) = m_fc l (m_put w k s)
          rw [show l + 1 - 1 = l by omega]
          refine fl_fc m (k + 1) l _ (by omega) (Sz_put z) (fun j hj => ?_)
          rw [tp_put (by omega) hs8 (by omega)]
          by_cases ej : j = k
          · rw [if_pos ej]
          · rw [if_neg ej]; exact hn j (by omega)
      · rw [if_neg ht]
        refine fl_fc m (k + 1) (l + 1) w (by omega) z (fun j hj => ?_)
        by_cases ej : j = k
        · subst ej
          cases q : m_tp w j with
          | false => rfl
          | true => exact absurd q ht
        · exact hn j (by omega)
theorem Iv_fc {B : Nat} {w : Nat → Int32} (x : Iv B w) (l : Nat) : Iv B (m_fc l w) := by
  rw [← fl_fc 48 0 l w rfl x.1 (fun j hj => by omega)]
  exact Iv_fl 48 0 l w rfl x
theorem c_fl {K : Int32 → ab_F → ab_F → Prop} {B cnt : Nat} (hc : cnt < 2 ^ 31) : ∀ (l i : Nat) (I A : ab_F) (w : Nat → Int32), i + l = cnt → Rs 8 I A w → Iv B w → (∀ I' A', Rs 8 I' A' (m_fc l w) → Ek I A I' A' → K (nI (m_pc (m_fc l w))) I' A') → wlX8_flush_2 K (l + 1) (nI cnt) (nI i) I A
  | 0, i, I, A, w, hi, r, x, h => by
    refine br_t (nI_le (by omega) (by omega)) ?_
    exact c_countPending r x (h _ _ r (Ek.refl I A))
  | l + 1, i, I, A, w, hi, r, x, h => by
    refine br_f (nI_ge (by omega) (by omega)) (c_pendingAt (i := 0) (fun k hk => (r.2.1.2.2.1 k hk).1) x (by omega) (c_nextFree r x ?_))
    have e0 : m_pa w 0 = m_fp w := fi_c0
    rw [e0]
    have r2 : Rs 8 I (um A w) w := Rs_31 r
    rw [m_fc_s] at h
    cases hf : m_fp w with
    | none =>
      rw [hf, m_fo_n] at h
      exact br_t rfl (c_countPending r2 x (h _ _ r2 (Ek_u _)))
    | some k =>
      rw [hf] at h
      obtain ⟨hk, hp, -⟩ := fi_spec hf
      refine br_f (nI_m1 (by omega)) ?_
      cases hn : m_nf w with
      | none =>
        rw [hn] at h
        exact rb_t rfl (c_countPending r2 x (h _ _ r2 (Ek_u _)))
      | some s =>
        rw [hn] at h
        have hs8 := m_nf_lt x.1 s hn
        refine rb_f (nI_m1 (by omega)) (c_writeOut r2 x hk (tp_th hp) hs8 (fun I' A' r' ek => ?_))
        rw [nI_add i 1]
        exact c_fl hc l (i + 1) I' A' (m_put w k s) (by omega) r' (Iv_put x hk (tp_th hp) (ls_lt hn).1) (fun I2 A2 r3 ek2 => h _ _ r3 (((Ek_u _).trans ek).trans ek2))
theorem c_flush {K : Int32 → ab_F → ab_F → Prop} {I A : ab_F} {B cnt : Nat} {w : Nat → Int32} (r : Rs 8 I A w) (x : Iv B w) (hc : cnt < 2 ^ 31) (h : ∀ I' A', Rs 8 I' A' (m_fl 48 0 cnt w) → Ek I A I' A' → K (nI (m_pc (m_fl 48 0 cnt w))) I' A') : wX8_flush K I A (nI cnt) := by
  rw [fl_fc 48 0 cnt w rfl x.1 (fun j hj => by omega)] at h
  exact ⟨cnt + 1, c_fl hc cnt 0 I A w (by omega) r x h⟩
