/-- the reference: an operation goes, or it doesn't -/
theorem q_does {K : Int32 → ab_F → ab_F → Prop} {I A : ab_F} {B c : Nat} {w : Nat → Int32} (hc : c < 9) (e1 : A 1 = w) (iv : Iv B w) (h1 : x_op w c (A 6 0) (A 6 1) (A 6 2) = none → K (nI 0) I A) (h2 : ∀ w', x_op w c (A 6 0) (A 6 1) (A 6 2) = some w' → K (nI 1) I (wrow A 1 w')) : wX12_does K I A (nI c) := by
  have hP := iv.1.2.2.1.2
  have g : ∀ s0 : Int32, (s0 = 0 ↔ w 10 = 0) → wjX12_does_22 K (nI c) (A 6 0) s0 I A := by
    intro s0 hs0
    rcases c9 hc with e | e | e | e | e | e | e | e | e <;> subst e
    · refine ⟨fun _ => ?_, fun h => absurd h (by decide), fun h => absurd h (by decide), fun h => absurd h (by decide), fun h => absurd h (by decide), fun h => absurd h (by decide), fun h => absurd h (by decide), fun h => absurd h (by decide), fun h => absurd h (by decide)⟩
      refine q_isPage (by rw [e1]; exact iv.1) ?_
      rw [e1]
      refine bb' (fun q => ⟨rfl, h1 (show x_rd w _ _ = none by unfold x_rd; rw [if_pos q])⟩) (fun q => ?_)
      obtain ⟨k, hk, ht, ek, ex⟩ := pg_k iv.1 q
      have em := m_id_k ek hk
      have n1 : ¬ m_pg w (A 6 0) (A 6 1) = false := by rw [q]; decide
      unfold wX12_pageOf
      rw [ek]
      refine q_isStuck (b := false) (by rw [e1]; exact iv.1) hk (by rw [e1]; exact RM_ho iv) ?_
      rw [e1]
      refine bb (fun q2 => ?_) (fun q2 => ⟨rfl, h1 (show x_rd w _ _ = none by unfold x_rd; rw [if_neg n1, em, if_pos q2])⟩)
      have hs : ¬ m_stk w k false = true := by rw [q2]; decide
      refine br_t rfl (q_access (b := false) (by rw [e1]; exact iv) hk (by rw [e1]; exact ht) (by rw [e1]; exact q2) ?_)
      rw [e1]
      exact ⟨rfl, h2 _ (show x_rd w _ _ = some _ by unfold x_rd; rw [if_neg n1, em, if_neg hs])⟩
    · refine ⟨fun h => absurd h (by decide), fun _ => ?_, fun h => absurd h (by decide), fun h => absurd h (by decide), fun h => absurd h (by decide), fun h => absurd h (by decide), fun h => absurd h (by decide), fun h => absurd h (by decide), fun h => absurd h (by decide)⟩
      refine q_isPage (by rw [e1]; exact iv.1) ?_
      rw [e1]
      refine bb' (fun q => ⟨rfl, h1 (show x_wr w _ _ _ = none by unfold x_wr; rw [if_pos q])⟩) (fun q => ?_)
      obtain ⟨k, hk, ht, ek, ex⟩ := pg_k iv.1 q
      have em := m_id_k ek hk
      have n1 : ¬ m_pg w (A 6 0) (A 6 1) = false := by rw [q]; decide
      unfold wX12_pageOf
      rw [ek]
      refine q_isStuck (b := true) (by rw [e1]; exact iv.1) hk (by rw [e1]; exact RM_ho iv) ?_
      rw [e1]
      refine bb (fun q2 => ?_) (fun q2 => ⟨rfl, h1 (show x_wr w _ _ _ = none by unfold x_wr; rw [if_neg n1, em, if_pos q2])⟩)
      have hs : ¬ m_stk w k true = true := by rw [q2]; decide
      refine br_f (by decide) (q_write (by rw [e1]; exact iv) hk (by rw [e1]; exact ht) (by rw [e1]; exact q2) ?_)
      rw [e1]
      exact ⟨rfl, h2 _ (show x_wr w _ _ _ = some _ by unfold x_wr; rw [if_neg n1, em, if_neg hs])⟩
    · refine ⟨fun h => absurd h (by decide), fun h => absurd h (by decide), fun _ => ?_, fun h => absurd h (by decide), fun h => absurd h (by decide), fun h => absurd h (by decide), fun h => absurd h (by decide), fun h => absurd h (by decide), fun h => absurd h (by decide)⟩
      refine q_isNoSet (by rw [e1]; exact iv.1) ?_
      rw [e1]
      refine bb' (fun q => ?_) (fun q => h1 (show x_st w _ = none by unfold x_st; rw [if_pos (nb_t q)]))
      have hp := nb_f q
      have n1 : ¬ m_set w (A 6 0) = false := by rw [hp]; decide
      rw [hs0]
      by_cases q2 : w 10 = 0
      · refine br_t q2 (q_startFor ?_)
        rw [e1]
        exact h2 _ (show x_st w _ = some _ by unfold x_st; rw [if_neg n1, if_pos q2])
      · exact br_f q2 (h1 (show x_st w _ = none by unfold x_st; rw [if_neg n1, if_neg q2]))
    · refine ⟨fun h => absurd h (by decide), fun h => absurd h (by decide), fun h => absurd h (by decide), fun _ => ?_, fun h => absurd h (by decide), fun h => absurd h (by decide), fun h => absurd h (by decide), fun h => absurd h (by decide), fun h => absurd h (by decide)⟩
      refine q_in ?_
      rw [Int32.toInt_toInt64, show (1 : Int64).toInt = 1 from rfl, show (48 : Int64).toInt = 48 from rfl]
      rw [show decide (1 ≤ (A 6 0).toInt ∧ (A 6 0).toInt ≤ 48) = m_148 (A 6 0) from rfl]
      refine bb (fun q => h1 (show x_fl w _ = none by unfold x_fl; rw [if_pos q])) (fun q => ?_)
      have n1 : ¬ m_148 (A 6 0) = false := by rw [q]; decide
      rw [hs0]
      by_cases q2 : w 10 = 0
      · exact rb_t q2 (h1 (show x_fl w _ = none by unfold x_fl; rw [if_neg n1, if_pos q2]))
      · obtain ⟨n, m1, m2, ex, en⟩ := m_148_of q
        have eo : x_op w 3 (A 6 0) (A 6 1) (A 6 2) = some (m_fl 48 0 n w) := by show x_fl w _ = _; unfold x_fl; rw [if_neg n1, if_neg q2, en]
        rw [ex]
        refine rb_f q2 (q_flushW (by omega) (by rw [e1]; exact iv.1) ?_)
        rw [e1]
        exact h2 _ eo
    · refine ⟨fun h => absurd h (by decide), fun h => absurd h (by decide), fun h => absurd h (by decide), fun h => absurd h (by decide), fun _ => ?_, fun h => absurd h (by decide), fun h => absurd h (by decide), fun h => absurd h (by decide), fun h => absurd h (by decide)⟩
      rw [hs0]
      by_cases q : w 10 = 0
      · exact br_t q (h1 (show x_cm w = none by unfold x_cm; rw [if_pos q]))
      · refine br_f q (q_pendingCount (by rw [e1]; exact iv.1) ?_)
        rw [e1]
        have hl := cn_le (p := m_tp w) 48
        show (¬ nI (m_pc w) = nI 0 → _) ∧ (nI (m_pc w) = nI 0 → _)
        rw [nI_eq (show m_pc w < 2 ^ 31 by unfold m_pc; omega) (by omega)]
        by_cases hp : m_pc w = 0
        · refine rb_t hp (q_commit (by rw [e1]; exact iv.1) ?_)
          rw [e1]
          exact br_f (c5_pos iv) (h2 _ (show x_cm w = some _ by unfold x_cm; rw [if_neg q, if_pos hp]))
        · exact rb_f hp (h1 (show x_cm w = none by unfold x_cm; rw [if_neg q, if_neg hp]))
    · refine ⟨fun h => absurd h (by decide), fun h => absurd h (by decide), fun h => absurd h (by decide), fun h => absurd h (by decide), fun h => absurd h (by decide), fun _ => ?_, fun h => absurd h (by decide), fun h => absurd h (by decide), fun h => absurd h (by decide)⟩
      rw [hs0]
      by_cases q : w 10 = 0
      · exact br_t q (h1 (show x_ab w = none by unfold x_ab; rw [if_pos q]))
      · refine br_f q (q_abandon (by rw [e1]; exact iv.1) ?_)
        rw [e1]
        exact br_f (ab_pos iv) (h2 _ (show x_ab w = some _ by unfold x_ab; rw [if_neg q]))
    · refine ⟨fun h => absurd h (by decide), fun h => absurd h (by decide), fun h => absurd h (by decide), fun h => absurd h (by decide), fun h => absurd h (by decide), fun h => absurd h (by decide), fun _ => ?_, fun h => absurd h (by decide), fun h => absurd h (by decide)⟩
      refine q_crashes (by rw [e1]; exact iv) ?_
      rw [e1]
      exact h2 _ rfl
    · refine ⟨fun h => absurd h (by decide), fun h => absurd h (by decide), fun h => absurd h (by decide), fun h => absurd h (by decide), fun h => absurd h (by decide), fun h => absurd h (by decide), fun h => absurd h (by decide), fun _ => ?_, fun h => absurd h (by decide)⟩
      refine q_isProcess (by rw [e1]; exact iv.1) ?_
      rw [e1]
      refine bb (fun q => h1 (show x_rb w _ = none by unfold x_rb; rw [if_pos q])) (fun q => ?_)
      obtain ⟨p, hp, ep⟩ := m_lt_of q
      have en : nn (A 6 0) = p := by rw [ep]; exact nn_nI (by omega)
      have n1 : ¬ m_lt (A 6 0) (m_P w) = false := by rw [q]; decide
      refine ixv ep (by omega) ?_
      try rw [e1]
      by_cases q2 : w (26 + p) = -1
      · exact br_t q2 (h1 (show x_rb w _ = none by unfold x_rb; rw [if_neg n1, en, if_pos q2]))
      · have ey : A 6 0 = nI p := ep
        have eo : ∀ v, x_rb w v = x_rb w v := fun _ => rfl
        refine br_f q2 ?_
        have g3 : m_has (w 10) p = true → K (nI 0) I A := fun q3 => h1 (show x_rb w _ = none by unfold x_rb; rw [if_neg n1, en, if_neg q2, if_pos q3])
        have g4 : ¬ m_has (w 10) p = true → K (nI 1) I (wrow A 1 (m_rst w p)) := fun q3 => h2 _ (show x_rb w _ = some _ by unfold x_rb; rw [if_neg n1, en, if_neg q2, if_neg q3])
        rw [ey]
        refine q_has (bb (fun q3 => ?_) (fun q3 => g3 q3))
        refine q_restore (B := B) (by rw [e1]; exact iv) (by omega) (by rw [e1]; exact q3) ?_
        rw [e1]
        exact g4 (by rw [q3]; decide)
    · refine ⟨fun h => absurd h (by decide), fun h => absurd h (by decide), fun h => absurd h (by decide), fun h => absurd h (by decide), fun h => absurd h (by decide), fun h => absurd h (by decide), fun h => absurd h (by decide), fun h => absurd h (by decide), fun _ => ?_⟩
      refine q_isPage (by rw [e1]; exact iv.1) ?_
      rw [e1]
      refine bb' (fun q => ⟨rfl, h1 (show x_ev w _ _ = none by unfold x_ev; rw [if_pos q])⟩) (fun q => ?_)
      obtain ⟨k, hk, ht, ek, ex⟩ := pg_k iv.1 q
      have em := m_id_k ek hk
      have n1 : ¬ m_pg w (A 6 0) (A 6 1) = false := by rw [q]; decide
      unfold wX12_pageOf
      rw [ek]
      refine ixa (by omega) ?_
      rw [e1]
      by_cases q2 : w (128 + k) = -1
      · exact br_t q2 ⟨rfl, h1 (show x_ev w _ _ = none by unfold x_ev; rw [if_neg n1, em, if_pos q2])⟩
      · refine br_f q2 (q_isStuckOut (by rw [e1]; exact iv.1) hk ?_)
        rw [e1]
        refine bb (fun q3 => ?_) (fun q3 => ⟨rfl, h1 (show x_ev w _ _ = none by unfold x_ev; rw [if_neg n1, em, if_neg q2, if_pos q3])⟩)
        have n3 : ¬ (decide (w (176 + k) = nI 1) && (m_nf w).isNone) = true := by rw [q3]; decide
        obtain ⟨f, hf, ef, -⟩ := Fr_get iv.2.1 hk q2
        have hF := iv.1.1.2.2
        refine q_evict (f := f) (by rw [e1]; exact iv.1) hk (by omega) (by rw [e1]; exact ef) (fun hd => ?_) ?_
        · rw [e1] at hd ⊢
          rw [decide_eq_true hd, Bool.true_and] at q3
          cases hh : m_nf w with
          | some t => exact ⟨t, rfl⟩
          | none => rw [hh] at q3; exact nomatch q3
        · rw [e1]
          exact ⟨rfl, h2 _ (show x_ev w _ _ = some _ by unfold x_ev; rw [if_neg n1, em, if_neg q2, if_neg n3])⟩
  intro v ev
  subst ev
  rw [e1]
  by_cases q : w 10 = 0
  · exact br_t q (g (nI 0) ⟨fun _ => q, fun _ => rfl⟩)
  · exact br_f q (g (nI 1) ⟨fun z => absurd z (by decide), fun z => absurd z q⟩)
theorem Iv_xop {B c : Nat} {w w' : Nat → Int32} {x y v : Int32} (hB : B + 1 < 2 ^ 29) (hc : c < 9) (iv : Iv B w) (h : x_op w c x y v = some w') : Iv (B + 1) w' := by
  rcases c9 hc with e | e | e | e | e | e | e | e | e <;> subst e
  · have h' : x_rd w x y = some w' := h
    unfold x_rd at h'
    by_cases c1 : m_pg w x y = false
    · rw [if_pos c1] at h'; exact nomatch h'
    · rw [if_neg c1] at h'
      by_cases c2 : m_stk w (m_id x y) false = true
      · rw [if_pos c2] at h'; exact nomatch h'
      · rw [if_neg c2] at h'
        obtain ⟨k, hk, ht, ek, ex⟩ := pg_k iv.1 (x := x) (y := y) (by cases q : m_pg w x y with
          | true => rfl
          | false => exact absurd q c1)
        rw [m_id_k ek hk] at h' c2
        obtain ⟨f, hf, iv2, -⟩ := Iv_acc iv hk ht (b_f c2)
        cases h'; exact iv2
  · have h' : x_wr w x y v = some w' := h
    unfold x_wr at h'
    by_cases c1 : m_pg w x y = false
    · rw [if_pos c1] at h'; exact nomatch h'
    · rw [if_neg c1] at h'
      by_cases c2 : m_stk w (m_id x y) true = true
      · rw [if_pos c2] at h'; exact nomatch h'
      · rw [if_neg c2] at h'
        obtain ⟨k, hk, ht, ek, ex⟩ := pg_k iv.1 (x := x) (y := y) (by cases q : m_pg w x y with
          | true => rfl
          | false => exact absurd q c1)
        rw [m_id_k ek hk] at h' c2
        cases h'; exact Iv_wri iv hk ht (b_f c2)
  · have h' : x_st w x = some w' := h
    unfold x_st at h'
    by_cases c1 : m_set w x = false
    · rw [if_pos c1] at h'; exact nomatch h'
    · rw [if_neg c1] at h'
      by_cases c2 : w 10 = 0
      · rw [if_pos c2] at h'
        obtain ⟨b, hb, hb0, eb, -⟩ := m_set_of iv.1 (x := x) (by cases q : m_set w x with
          | true => rfl
          | false => exact absurd q c1)
        rw [eb] at h'
        cases h'; exact Iv_sta iv hb
      · rw [if_neg c2] at h'; exact nomatch h'
  · have h' : x_fl w x = some w' := h
    unfold x_fl at h'
    by_cases c1 : m_148 x = false
    · rw [if_pos c1] at h'; exact nomatch h'
    · rw [if_neg c1] at h'
      by_cases c2 : w 10 = 0
      · rw [if_pos c2] at h'; exact nomatch h'
      · rw [if_neg c2] at h'
        cases h'; exact (Iv_fl 48 0 (nn x) w rfl iv).mono (Nat.le_succ B)
  · have h' : x_cm w = some w' := h
    unfold x_cm at h'
    by_cases c1 : w 10 = 0
    · rw [if_pos c1] at h'; exact nomatch h'
    · rw [if_neg c1] at h'
      by_cases c2 : m_pc w = 0
      · rw [if_pos c2] at h'
        cases h'; exact Iv_com (by omega) iv c2
      · rw [if_neg c2] at h'; exact nomatch h'
  · have h' : x_ab w = some w' := h
    unfold x_ab at h'
    by_cases c1 : w 10 = 0
    · rw [if_pos c1] at h'; exact nomatch h'
    · rw [if_neg c1] at h'
      cases h'; exact (Iv_b0 iv).mono (Nat.le_succ B)
  · have h' : some (m_crs w) = some w' := h
    cases h'; exact (Iv_crs iv).1.mono (Nat.le_succ B)
  · have h' : x_rb w x = some w' := h
    unfold x_rb at h'
    by_cases c1 : m_lt x (m_P w) = false
    · rw [if_pos c1] at h'; exact nomatch h'
    · rw [if_neg c1] at h'
      by_cases c2 : w (26 + nn x) = -1
      · rw [if_pos c2] at h'; exact nomatch h'
      · rw [if_neg c2] at h'
        by_cases c3 : m_has (w 10) (nn x) = true
        · rw [if_pos c3] at h'; exact nomatch h'
        · rw [if_neg c3] at h'
          have hP := iv.1.2.2.1.2
          obtain ⟨p, hp, ep⟩ := m_lt_of (x := x) (n := m_P w) (by cases q : m_lt x (m_P w) with
            | true => rfl
            | false => exact absurd q c1)
          have en : nn x = p := by rw [ep]; exact nn_nI (by omega)
          rw [en] at h' c3
          cases h'; exact (Iv_rs iv (by omega) (b_f c3)).1.mono (Nat.le_succ B)
  · have h' : x_ev w x y = some w' := h
    unfold x_ev at h'
    by_cases c1 : m_pg w x y = false
    · rw [if_pos c1] at h'; exact nomatch h'
    · rw [if_neg c1] at h'
      obtain ⟨k, hk, ht, ek, ex⟩ := pg_k iv.1 (x := x) (y := y) (by cases q : m_pg w x y with
        | true => rfl
        | false => exact absurd q c1)
      rw [m_id_k ek hk] at h'
      by_cases c2 : w (128 + k) = -1
      · rw [if_pos c2] at h'; exact nomatch h'
      · rw [if_neg c2] at h'
        by_cases c3 : (decide (w (176 + k) = nI 1) && (m_nf w).isNone) = true
        · rw [if_pos c3] at h'; exact nomatch h'
        · rw [if_neg c3] at h'
          obtain ⟨f, hf, ef, -⟩ := Fr_get iv.2.1 hk c2
          have hn : w (176 + k) = nI 1 → ∃ t, m_nf w = some t := by
            intro hd
            rw [decide_eq_true hd, Bool.true_and] at c3
            cases hh : m_nf w with
            | some t => exact ⟨t, rfl⟩
            | none => rw [hh] at c3; exact absurd rfl c3
          cases h'; exact (Iv_ev iv hk hf ef hn).1.mono (Nat.le_succ B)
