/-! the reference's changes -/
theorem RM_ho {B : Nat} {w : Nat → Int32} (x : Iv B w) : m_ff w = none → ∀ f, f < m_F w → ∃ k, k < 48 ∧ w (320 + f) = nI k := by
  intro h f hf
  obtain ⟨k, a, b, -⟩ := Fr_all x.1 x.2.1 h f hf
  exact ⟨k, a, b⟩
theorem nb_t {b : Bool} (h : (!b) = true) : b = false := by cases b with
  | false => rfl
  | true => exact absurd h (by decide)
theorem nb_f {b : Bool} (h : (!b) = false) : b = true := by cases b with
  | true => rfl
  | false => exact absurd h (by decide)
theorem w5 {I : ab_F} {v : Int32} : wr I 0 5 v 0 5 = v := wr_ate _ _ _ _
theorem w45 {I : ab_F} {v u : Int32} : wr (wr I 0 5 v) 0 4 u 0 5 = v := by rw [wr_nei (by decide), wr_ate]
theorem r_read {B : Nat} {s : st_S} {x y : Int32} {K : Int32 → ab_F → ab_F → Prop} {I A : ab_F} (r : RMs B s I A) (o : oM (B + 1) (s_read s x y) K) : wX12_readPage K I A x y := by
  have e1 : A 1 = s.1 := r.1.1
  have iv : Iv B s.1 := r.1.2
  refine q_isNoPage (by rw [e1]; exact iv.1) ?_
  rw [e1]
  refine bb' (fun q => ?_) (fun q => ?_)
  · have hp := nb_f q
    obtain ⟨k, hk, ht, ek, ex⟩ := pg_k iv.1 hp
    have em := m_id_k ek hk
    have h1 : ¬ m_pg s.1 x y = false := by rw [hp]; decide
    unfold wX12_pageOf
    rw [ek]
    refine q_isStuck (b := false) (by rw [e1]; exact iv.1) hk (by rw [e1]; exact RM_ho iv) ?_
    try rw [e1]
    refine q_fails (bb (fun q2 => ?_) (fun q2 => ?_))
    · have hs : ¬ m_stk s.1 k false = true := by rw [q2]; decide
      rw [if_neg hs]
      refine r_remember (RM_5 (RM_5 r)) (fun A' x' => ?_)
      have e2 : A' 1 = s.1 := x'.1.1
      refine q_access (b := false) (by rw [e2]; exact iv) hk (by rw [e2]; exact ht) (by rw [e2]; exact q2) (ixa (by omega) ?_)
      rw [e2]
      obtain ⟨f, hf, iv2, -⟩ := Iv_acc iv hk ht q2
      exact o.k (by unfold s_read; rw [if_neg h1, em, if_neg hs]) (Nat.le_refl _) (RM_s (B := B) (B' := B + 1) x' (by omega) iv2) w45 (congrFun (wrow_at _ _ _) _)
    · rw [if_pos q2]
      exact o.x (c := 1) (by unfold s_read; rw [if_neg h1, em, if_pos q2]) (by omega) (RM_5 (RM_5 r)) w5
  · have hp := nb_t q
    exact o.x (c := 0) (by unfold s_read; rw [if_pos hp]) (by omega) (RM_5 r) (by rw [w5, q]; rfl)
theorem r_write {B : Nat} {s : st_S} {x y v : Int32} {K : Int32 → ab_F → ab_F → Prop} {I A : ab_F} (r : RMs B s I A) (o : oM (B + 1) (s_write s x y v) K) : wX12_writePage K I A x y v := by
  have e1 : A 1 = s.1 := r.1.1
  have iv : Iv B s.1 := r.1.2
  refine q_isNoPage (by rw [e1]; exact iv.1) ?_
  rw [e1]
  refine bb' (fun q => ?_) (fun q => ?_)
  · have hp := nb_f q
    obtain ⟨k, hk, ht, ek, ex⟩ := pg_k iv.1 hp
    have em := m_id_k ek hk
    have h1 : ¬ m_pg s.1 x y = false := by rw [hp]; decide
    unfold wX12_pageOf
    rw [ek]
    refine q_isStuck (b := true) (by rw [e1]; exact iv.1) hk (by rw [e1]; exact RM_ho iv) ?_
    try rw [e1]
    refine q_fails (bb (fun q2 => ?_) (fun q2 => ?_))
    · have hs : ¬ m_stk s.1 k true = true := by rw [q2]; decide
      rw [if_neg hs]
      refine r_remember (RM_5 (RM_5 r)) (fun A' x' => ?_)
      have e2 : A' 1 = s.1 := x'.1.1
      refine ixa (by omega) (nm_r rfl ?_)
      refine q_write (by rw [e2]; exact iv) hk (by rw [e2]; exact ht) (by rw [e2]; exact q2) ?_
      rw [e2]
      exact o.k (by unfold s_write; rw [if_neg h1, em, if_neg hs]) (Nat.le_refl _) (RM_s (B := B) (B' := B + 1) x' (by omega) (Iv_wri iv hk ht q2)) w45 rfl
    · rw [if_pos q2]
      exact o.x (c := 1) (by unfold s_write; rw [if_neg h1, em, if_pos q2]) (by omega) (RM_5 (RM_5 r)) w5
  · have hp := nb_t q
    exact o.x (c := 0) (by unfold s_write; rw [if_pos hp]) (by omega) (RM_5 r) (by rw [w5, q]; rfl)
/-- a number in 0 .. n, asked by the reference -/
theorem q_inN {K : Int32 → ab_F → ab_F → Prop} {I A : ab_F} {x : Int32} {n : Nat} {y : Int64} (hy : y.toInt = (n : Int)) (h : K (bI (m_lt x (n + 1))) I A) : wX12_in K I A x.toInt64 (0 : Int64) y := by
  refine q_in ?_
  rw [Int32.toInt_toInt64, hy, show (0 : Int64).toInt = 0 from rfl, show decide (0 ≤ x.toInt ∧ x.toInt ≤ (n : Int)) = m_lt x (n + 1) from by unfold m_lt; congr 1; apply propext; omega]
  exact h
theorem r_policy {B : Nat} {s : st_S} {x : Int32} {K : Int32 → ab_F → ab_F → Prop} {I A : ab_F} (r : RMs B s I A) (o : oM (B + 1) (s_policy s x) K) : wX12_setPolicy K I A x := by
  have iv : Iv B s.1 := r.1.2
  refine q_inN (n := 2) rfl (bb' (fun q => ?_) (fun q => ?_))
  · refine q_fails (b := true) (bb (fun q2 => nomatch q2) (fun q2 => ?_))
    exact o.x (c := 0) (by unfold s_policy; rw [if_pos q]) (by omega) (RM_5 r) w5
  · refine q_fails (b := false) (bb (fun q2 => ?_) (fun q2 => nomatch q2))
    refine r_remember (RM_5 r) (fun A' x' => ?_)
    have e2 : A' 1 = s.1 := x'.1.1
    refine nm_r (show A' 1 2 = s.1 2 by rw [e2]) ?_
    rw [wr_w A' 1 2, e2]
    exact o.k (by unfold s_policy; rw [if_neg (by rw [q]; decide)]) (Nat.le_refl _) (RM_s (B := B) (B' := B + 1) x' (by omega) ((Iv_pol iv (m_lt3 q)).mono (Nat.le_succ B))) w45 rfl
theorem q_isNoSet {K : Int32 → ab_F → ab_F → Prop} {I A : ab_F} {x : Int32} (z : Sz (A 1)) (h : K (bI (!m_set (A 1) x)) I A) : wX12_isNoSet K I A x := by
  have hP := z.2.2.1.2
  unfold wX12_isNoSet
  rw [z.2.2.1.1, ev_p _ hP]
  have h64 : 2 ^ m_P (A 1) ≤ 2 ^ 6 := Nat.pow_le_pow_right (by omega) hP
  have hpos : 1 ≤ 2 ^ m_P (A 1) := Nat.one_le_two_pow
  refine q_in ?_
  rw [Int32.toInt_toInt64, Int32.toInt_toInt64, nI_toInt (by omega), show (1 : Int64).toInt = 1 from rfl]
  have e : decide (1 ≤ x.toInt ∧ x.toInt ≤ ((2 ^ m_P (A 1) - 1 : Nat) : Int)) = m_set (A 1) x := by
    unfold m_set
    generalize 2 ^ m_P (A 1) = N at hpos
    congr 1; apply propext; omega
  rw [e]
  refine bb' (fun q => ?_) (fun q => ?_)
  · rw [q] at h; exact h
  · rw [q] at h; exact h
theorem r_start {B : Nat} {s : st_S} {x : Int32} {K : Int32 → ab_F → ab_F → Prop} {I A : ab_F} (r : RMs B s I A) (o : oM (B + 1) (s_start s x) K) : wX12_startBarrier K I A x := by
  have e1 : A 1 = s.1 := r.1.1
  have iv : Iv B s.1 := r.1.2
  refine q_isNoSet (by rw [e1]; exact iv.1) (q_fails ?_)
  rw [e1]
  refine bb' (fun q => ?_) (fun q => ?_)
  · have hp := nb_f q
    rw [q]
    by_cases q2 : s.1 10 = 0
    · refine br_t q2 (q_fails (b := false) (bb (fun _ => ?_) (fun q3 => nomatch q3)))
      refine r_remember (RM_5 (RM_5 r)) (fun A' x' => ?_)
      have e2 : A' 1 = s.1 := x'.1.1
      obtain ⟨b, hb, hb0, eb, -⟩ := m_set_of iv.1 hp
      refine q_startFor (q_pendingCount ?_ ?_)
      · rw [wrow_at, e2, eb]; exact (Iv_sta iv hb).1
      · rw [wrow_at, e2]
        exact o.k (by unfold s_start; rw [if_neg (by rw [hp]; decide), if_pos q2]) (Nat.le_refl _) (RM_s (B := B) (B' := B + 1) x' (by omega) (by rw [eb]; exact Iv_sta iv hb)) w45 rfl
    · refine br_f q2 (q_fails (b := true) (bb (fun q3 => nomatch q3) (fun _ => ?_)))
      exact o.x (c := 1) (by unfold s_start; rw [if_neg (by rw [hp]; decide), if_neg q2]) (by omega) (RM_5 (RM_5 r)) w5
  · have hp := nb_t q
    exact o.x (c := 0) (by unfold s_start; rw [if_pos hp]) (by omega) (RM_5 r) (by rw [w5, q]; rfl)
theorem r_flush {B : Nat} {s : st_S} {x : Int32} {K : Int32 → ab_F → ab_F → Prop} {I A : ab_F} (r : RMs B s I A) (o : oM (B + 1) (s_flush s x) K) : wX12_writeBarrier K I A x := by
  have e1 : A 1 = s.1 := r.1.1
  have iv : Iv B s.1 := r.1.2
  refine q_in ?_
  rw [Int32.toInt_toInt64, show (1 : Int64).toInt = 1 from rfl, show (48 : Int64).toInt = 48 from rfl]
  show (_ ∧ _)
  have e : decide (1 ≤ x.toInt ∧ x.toInt ≤ 48) = m_148 x := rfl
  rw [e]
  refine bb' (fun q => ?_) (fun q => ?_)
  · refine q_fails (b := true) (bb' (fun q2 => nomatch q2) (fun q2 => ?_))
    exact o.x (c := 0) (by unfold s_flush; rw [if_pos q]) (by omega) (RM_5 r) w5
  · have h1 : ¬ m_148 x = false := by rw [q]; decide
    refine q_fails (b := false) (bb' (fun _ => ?_) (fun q2 => nomatch q2))
    try rw [e1]
    by_cases q2 : s.1 10 = 0
    · refine rb_t q2 (q_fails (b := true) (bb (fun q3 => nomatch q3) (fun _ => ?_)))
      exact o.x (c := 1) (by unfold s_flush; rw [if_neg h1, if_pos q2]) (by omega) (RM_5 (RM_5 r)) w5
    · refine rb_f q2 (q_fails (b := false) (bb (fun _ => ?_) (fun q3 => nomatch q3)))
      refine r_remember (RM_5 (RM_5 r)) (fun A' x' => ?_)
      have e2 : A' 1 = s.1 := x'.1.1
      obtain ⟨n, n1, n2, ex, en⟩ := m_148_of q
      rw [ex]
      refine q_flushW (by omega) (by rw [e2]; exact iv.1) (q_pendingCount ?_ ?_)
      · rw [wrow_at, e2]; exact (Iv_fl 48 0 n s.1 rfl iv).1
      · rw [wrow_at, e2]
        exact o.k (by unfold s_flush; rw [if_neg h1, if_neg q2, en]) (Nat.le_refl _) (RM_s (B := B) (B' := B + 1) x' (by omega) ((Iv_fl 48 0 n s.1 rfl iv).mono (Nat.le_succ B))) w45 rfl
theorem r_commit {B : Nat} {s : st_S} {K : Int32 → ab_F → ab_F → Prop} {I A : ab_F} (r : RMs B s I A) (hB : B < 2 ^ 29) (o : oM (B + 1) (s_commit s) K) : wX12_commitBarrier K I A := by
  have e1 : A 1 = s.1 := r.1.1
  have iv : Iv B s.1 := r.1.2
  unfold wX12_commitBarrier
  rw [e1]
  by_cases q : s.1 10 = 0
  · refine rb_t q (q_fails (b := true) (bb' (fun q2 => nomatch q2) (fun _ => ?_)))
    exact o.x (c := 0) (by unfold s_commit; rw [if_pos q]) (by omega) (RM_5 r) w5
  · refine rb_f q (q_fails (b := false) (bb' (fun _ => ?_) (fun q2 => nomatch q2)))
    refine q_pendingCount (by rw [e1]; exact iv.1) ?_
    try rw [e1]
    have hl := cn_le (p := m_tp s.1) 48
    rw [Int32.le_iff_toInt_le, nI_toInt (show m_pc s.1 < 2 ^ 31 by unfold m_pc; omega), show (0 : Int32).toInt = 0 from rfl]
    by_cases hp : m_pc s.1 = 0
    · refine br_t (by omega) (q_fails (b := false) (bb (fun _ => ?_) (fun q2 => nomatch q2)))
      refine r_remember (RM_5 (RM_5 r)) (fun A' x' => ?_)
      have e2 : A' 1 = s.1 := x'.1.1
      refine q_commit (by rw [e2]; exact iv.1) ?_
      rw [e2]
      exact o.k (by unfold s_commit; rw [if_neg q, if_pos hp]) (Nat.le_refl _) (RM_s (B := B) (B' := B + 1) x' (by omega) (Iv_com (by omega) iv hp)) w45 rfl
    · refine br_f (by omega) (q_fails (b := true) (bb (fun q2 => nomatch q2) (fun _ => ?_)))
      exact o.x (c := 1) (by unfold s_commit; rw [if_neg q, if_neg hp]) (by omega) (RM_5 (RM_5 r)) w5
theorem r_abandon {B : Nat} {s : st_S} {K : Int32 → ab_F → ab_F → Prop} {I A : ab_F} (r : RMs B s I A) (o : oM (B + 1) (s_abandon s) K) : wX12_abandonBarrier K I A := by
  have e1 : A 1 = s.1 := r.1.1
  have iv : Iv B s.1 := r.1.2
  unfold wX12_abandonBarrier
  rw [e1]
  by_cases q : s.1 10 = 0
  · refine rb_t q (q_fails (b := true) (bb (fun q2 => nomatch q2) (fun _ => ?_)))
    exact o.x (c := 0) (by unfold s_abandon; rw [if_pos q]) (by omega) (RM_5 r) w5
  · refine rb_f q (q_fails (b := false) (bb (fun _ => ?_) (fun q2 => nomatch q2)))
    refine r_remember (RM_5 r) (fun A' x' => ?_)
    have e2 : A' 1 = s.1 := x'.1.1
    refine q_abandon (by rw [e2]; exact iv.1) ?_
    rw [e2]
    exact o.k (by unfold s_abandon; rw [if_neg q]) (Nat.le_refl _) (RM_s (B := B) (B' := B + 1) x' (by omega) ((Iv_b0 iv).mono (Nat.le_succ B))) w45 rfl
theorem r_crash {B : Nat} {s : st_S} {K : Int32 → ab_F → ab_F → Prop} {I A : ab_F} (r : RMs B s I A) (o : oM (B + 1) (s_crash s) K) : wX12_crash K I A := by
  have iv : Iv B s.1 := r.1.2
  refine r_remember (RM_5 r) (fun A' x' => ?_)
  have e2 : A' 1 = s.1 := x'.1.1
  have ic := Iv_crs iv
  refine q_crashes (by rw [e2]; exact iv) (q_checkpointed ?_ ?_)
  · rw [wrow_at, e2]; exact ic.1.1
  · rw [wrow_at, e2]
    refine o.k rfl (Nat.le_refl _) (RM_s (B := B) (B' := B + 1) x' (by omega) (ic.1.mono (Nat.le_succ B))) w45 ?_
    rw [ic.2.1]
    have hP := iv.1.2.2.1.2
    rw [sb_congr (fun p hp => by rw [ic.2.2 p (by omega)])]
theorem r_roll {B : Nat} {s : st_S} {x : Int32} {K : Int32 → ab_F → ab_F → Prop} {I A : ab_F} (r : RMs B s I A) (o : oM (B + 1) (s_roll s x) K) : wX12_rollback K I A x := by
  have e1 : A 1 = s.1 := r.1.1
  have iv : Iv B s.1 := r.1.2
  have hP := iv.1.2.2.1.2
  refine q_isNoProcess (by rw [e1]; exact iv.1) ?_
  rw [e1]
  refine bb' (fun q => ?_) (fun q => ?_)
  · have hl := nb_f q
    obtain ⟨p, hp, ep⟩ := m_lt_of hl
    have en : nn x = p := by rw [ep]; exact nn_nI (by omega)
    have h1 : ¬ m_lt x (m_P s.1) = false := by rw [hl]; decide
    rw [q]
    refine ixv ep (by omega) ?_
    try rw [e1]
    by_cases q2 : s.1 (26 + p) = -1
    · refine rb_t q2 (q_fails (b := true) (bb' (fun q3 => nomatch q3) (fun _ => ?_)))
      exact o.x (c := 1) (by unfold s_roll; rw [if_neg h1, en, if_pos q2]) (by omega) (RM_5 (RM_5 r)) w5
    · refine rb_f q2 (q_fails (b := false) (bb' (fun _ => ?_) (fun q3 => nomatch q3)))
      rw [ep, e1]
      refine q_has (q_fails (bb (fun q3 => ?_) (fun q3 => ?_)))
      · have h3 : ¬ m_has (s.1 10) p = true := by rw [q3]; decide
        rw [if_neg h3]
        refine r_remember (RM_5 (RM_5 (RM_5 r))) (fun A' x' => ?_)
        have e2 : A' 1 = s.1 := x'.1.1
        refine q_lostOf (by rw [e2]; exact iv.1) (by rw [e2]; exact iv.2.2.2.2.1) (by omega) (q_restore (B := B) (by rw [e2]; exact iv) (by omega) (by rw [e2]; exact q3) ?_)
        rw [e2]
        exact o.k (by unfold s_roll; rw [if_neg h1, en, if_neg q2, if_neg h3]) (Nat.le_refl _) (RM_s (B := B) (B' := B + 1) x' (by omega) ((Iv_rs iv (by omega) q3).1.mono (Nat.le_succ B))) w45 rfl
      · rw [if_pos q3]
        exact o.x (c := 2) (by unfold s_roll; rw [if_neg h1, en, if_neg q2, if_pos q3]) (by omega) (RM_5 (RM_5 (RM_5 r))) w5
  · have hl := nb_t q
    exact o.x (c := 0) (by unfold s_roll; rw [if_pos hl]) (by omega) (RM_5 r) (by rw [w5, q]; rfl)
theorem r_evict {B : Nat} {s : st_S} {x y : Int32} {K : Int32 → ab_F → ab_F → Prop} {I A : ab_F} (r : RMs B s I A) (o : oM (B + 1) (s_evict s x y) K) : wX12_evictPage K I A x y := by
  have e1 : A 1 = s.1 := r.1.1
  have iv : Iv B s.1 := r.1.2
  refine q_isNoPage (by rw [e1]; exact iv.1) ?_
  rw [e1]
  refine bb (fun q => ?_) (fun q => ?_)
  · have hp := nb_f q
    obtain ⟨k, hk, ht, ek, ex⟩ := pg_k iv.1 hp
    have em := m_id_k ek hk
    have h1 : ¬ m_pg s.1 x y = false := by rw [hp]; decide
    rw [q]
    unfold wX12_pageOf
    rw [ek]
    refine ixa (by omega) ?_
    try rw [e1]
    by_cases q2 : s.1 (128 + k) = -1
    · refine rb_t q2 (q_fails (b := true) (bb' (fun q3 => nomatch q3) (fun _ => ?_)))
      exact o.x (c := 1) (by unfold s_evict; rw [if_neg h1, em, if_pos q2]) (by omega) (RM_5 (RM_5 r)) w5
    · refine rb_f q2 (q_fails (b := false) (bb' (fun _ => ?_) (fun q3 => nomatch q3)))
      refine q_isStuckOut (by rw [e1]; exact iv.1) hk ?_
      try rw [e1]
      refine q_fails (bb (fun q3 => ?_) (fun q3 => ?_))
      · have h3 : ¬ (decide (s.1 (176 + k) = nI 1) && (m_nf s.1).isNone) = true := by rw [q3]; decide
        rw [if_neg h3]
        refine r_remember (RM_5 (RM_5 (RM_5 r))) (fun A' x' => ?_)
        have e2 : A' 1 = s.1 := x'.1.1
        obtain ⟨f, hf, ef, -⟩ := Fr_get iv.2.1 hk q2
        have hF := iv.1.1.2
        have hn : s.1 (176 + k) = nI 1 → ∃ t, m_nf s.1 = some t := by
          intro hd
          rw [decide_eq_true hd, Bool.true_and] at h3
          cases hh : m_nf s.1 with
          | some t => exact ⟨t, rfl⟩
          | none => rw [hh] at h3; exact absurd rfl h3
        refine q_evict (f := f) (by rw [e2]; exact iv.1) hk (by omega) (by rw [e2]; exact ef) (by rw [e2]; exact hn) (ixa (by omega) ?_)
        rw [e2]
        exact o.k (by unfold s_evict; rw [if_neg h1, em, if_neg q2, if_neg h3]) (Nat.le_refl _) (RM_s (B := B) (B' := B + 1) x' (by omega) ((Iv_ev iv hk hf ef hn).1.mono (Nat.le_succ B))) w45 (congrFun (wrow_at _ _ _) _)
      · rw [if_pos q3]
        exact o.x (c := 2) (by unfold s_evict; rw [if_neg h1, em, if_neg q2, if_pos q3]) (by omega) (RM_5 (RM_5 (RM_5 r))) w5
  · have hp := nb_t q
    exact o.x (c := 0) (by unfold s_evict; rw [if_pos hp]) (by omega) (RM_5 r) (by rw [w5, q]; rfl)
theorem r_undoS {B : Nat} {s : st_S} {K : Int32 → ab_F → ab_F → Prop} {I A : ab_F} (r : RMs B s I A) (o : oM (B + 1) (s_undo s) K) : wX12_undo K I A :=
  r_undo r (fun e => o.x (c := 0) (by unfold s_undo; rw [if_pos e]) (by omega) (RM_5 r) w5) (fun e I' A' x' e5 => o.k (s := (h_u s.2.1 s.1, (s.2.1.1, s.2.1.2 - 1), s.2.2)) (B0 := B) (by unfold s_undo; rw [if_neg (by omega)]) (by omega) x' e5 rfl)
