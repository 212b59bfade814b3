/-! the reference's report, read -/
def Pg (L : List Int32) (I A : ab_F) : Prop := I 0 18 = nI L.length ∧ ∀ j, j < L.length → A 10 j = L.getD j 0
def Qp (I A I' A' : ab_F) : Prop := (∀ c k, (c ≠ 0 ∨ k ≠ 18) → I' c k = I c k) ∧ (∀ c, c ≠ 10 → A' c = A c)
theorem Qp.refl (I A : ab_F) : Qp I A I A := ⟨fun _ _ _ => rfl, fun _ _ => rfl⟩
theorem Qp.trans {I A I' A' I'' A'' : ab_F} (h : Qp I A I' A') (g : Qp I' A' I'' A'') : Qp I A I'' A'' := ⟨fun c k q => (g.1 c k q).trans (h.1 c k q), fun c q => (g.2 c q).trans (h.2 c q)⟩
theorem Qp_wr {I A : ab_F} {v : Int32} {A' : ab_F} (h : ∀ c, c ≠ 10 → A' c = A c) : Qp I A (wr I 0 18 v) A' := by
  refine ⟨fun c k q => ?_, h⟩
  by_cases e : c = 0
  · subst e; exact wr_nei (by omega)
  · rw [wr_ne e]
theorem gd_l {L s : List Int32} {j : Nat} (h : j < L.length) : (L ++ s).getD j 0 = L.getD j 0 := by rw [List.getD_eq_getElem?_getD, List.getD_eq_getElem?_getD, List.getElem?_append_left h]
theorem gd_r {L s : List Int32} {j : Nat} : (L ++ s).getD (L.length + j) 0 = s.getD j 0 := by rw [List.getD_eq_getElem?_getD, List.getD_eq_getElem?_getD, List.getElem?_append_right (by omega), Nat.add_sub_cancel_left]
theorem Pg_add {L s : List Int32} {I A A' : ab_F} (h : Pg L I A) (b1 : ∀ j, j < L.length → A' 10 j = A 10 j) (b2 : ∀ i, i < s.length → A' 10 (L.length + i) = s.getD i 0) : Pg (L ++ s) (wr I 0 18 (nI (L.length + s.length))) A' := by
  refine ⟨by rw [wr_ate, List.length_append], fun j hj => ?_⟩
  rw [List.length_append] at hj
  by_cases q : j < L.length
  · rw [b1 j q, h.2 j q, gd_l q]
  · have h1 := b2 (j - L.length) (by omega)
    rw [show L.length + (j - L.length) = j by omega] at h1
    rw [h1]
    have h2 := gd_r (L := L) (s := s) (j := j - L.length)
    rw [show L.length + (j - L.length) = j by omega] at h2
    exact h2.symm
theorem q_pr {L : List Int32} {v : Int32} {K : ab_F → ab_F → Prop} {I A : ab_F} (hv : vp_nar .byte v.toInt8.toInt32 = v) (g : Pg L I A) (hl : L.length < 800) (h : ∀ I' A', Qp I A I' A' → Pg (L ++ [v]) I' A' → K I' A') : wX12_print K I A v := by
  refine ⟨L.length, g.1, hl, ?_⟩
  rw [hv, g.1, nI_add]
  refine h _ _ (Qp_wr (fun c hc => wr_ne hc)) (Pg_add (s := [v]) g (fun j hj => wr_nei (by omega)) (fun i hi => ?_))
  obtain rfl : i = 0 := by have : i < 1 := hi; omega
  exact wr_ate _ _ _ _
theorem s_kv : ∀ i, i < 66 → ∀ j, j < (ab_st i).2.2.2.length → vp_nar .byte ((ab_st i).2.2.2.getD j 0).toInt8.toInt32 = (ab_st i).2.2.2.getD j 0 := by decide +kernel
theorem tk_s {l : List Int32} {k : Nat} (h : k < l.length) : l.take k ++ [l.getD k 0] = l.take (k + 1) := by
  rw [List.take_succ, List.getD_eq_getElem?_getD, List.getElem?_eq_getElem h]
  rfl
theorem q_pwl {L : List Int32} {i : Nat} {K : ab_F → ab_F → Prop} (hi : i < 66) (hl : L.length + (kc i).length ≤ 800) : ∀ (m k : Nat) (I A : ab_F), k + m = (kc i).length → Pg (L ++ (kc i).take k) I A → (∀ I' A', Qp I A I' A' → Pg (L ++ kc i) I' A' → K I' A') → wlX12_printWord_2 K (m + 1) i (nI k) I A := by
  intro m
  have h64 := (ab_stlen i hi).1
  have hk9 : (ab_st i).2.2.2.length = (kc i).length := rfl
  induction m with
  | zero =>
    intro k I A hk g h
    rw [wlX12_printWord_2]
    refine ⟨hi, br_t ((nI_leI (by omega) (by omega)).mpr (by omega)) (h I A (Qp.refl I A) ?_)⟩
    rw [show k = (kc i).length by omega, List.take_length] at g
    exact g
  | succ m ih =>
    intro k I A hk g h
    rw [wlX12_printWord_2]
    refine ⟨hi, br_f (nI_ge (by omega) (by omega)) ⟨hi, k, rfl, by omega, ?_⟩⟩
    have hlen : (L ++ (kc i).take k).length = L.length + k := by rw [List.length_append, List.length_take, Nat.min_eq_left (by omega)]
    refine q_pr (s_kv i hi k (by omega)) g (by rw [hlen]; omega) (fun I1 A1 q1 g1 => ?_)
    rw [List.append_assoc, tk_s (by omega)] at g1
    rw [show nI k + nI 1 = nI (k + 1) from nI_add k 1]
    exact ih (k + 1) I1 A1 (by omega) g1 (fun I2 A2 q2 g2 => h I2 A2 (q1.trans q2) g2)
theorem q_pw {L : List Int32} {i : Nat} {K : ab_F → ab_F → Prop} {I A : ab_F} (hi : i < 66) (g : Pg L I A) (hl : L.length + (kc i).length ≤ 800) (h : ∀ I' A', Qp I A I' A' → Pg (L ++ kc i) I' A' → K I' A') : wX12_printWord K I A i :=
  ⟨(kc i).length + 1, q_pwl hi hl (kc i).length 0 I A (Nat.zero_add _) (by rw [List.take_zero, List.append_nil]; exact g) h⟩
theorem q_pn {L : List Int32} {x : Nat} {K : ab_F → ab_F → Prop} {I A : ab_F} (hx : x < 2 ^ 31) (g : Pg L I A) (hl : L.length + 10 ≤ 800) (h : ∀ I' A', Qp I A I' A' → Pg (L ++ dgL x) I' A' → K I' A') : wX12_printNumber K I A (nI x) := by
  have hd := (sb_dg_in x).2
  refine ⟨x, L.length, rfl, hx, g.1, by omega, fun A' b0 b1 b2 => h _ _ (Qp_wr b0) ?_⟩
  have := Pg_add (s := dgL x) g b1 (fun i hi => by rw [dgL_len] at hi; rw [b2 i hi, dgL_get x i hi])
  rw [dgL_len] at this
  exact this
theorem q_pg {L : List Int32} {p B : Nat} {w : Nat → Int32} {K : ab_F → ab_F → Prop} (x : Iv B w) (hp : p < 6) : ∀ (k i : Nat) (L : List Int32) (I A : ab_F), i + k = m_C w p → A 1 = w → Pg L I A → L.length + 2 * k + 11 ≤ 800 → (∀ I' A', Qp I A I' A' → Pg (L ++ (m_pgs w p i k ++ [[nI 10]]).flatten) I' A' → K I' A') → wlX12_printProcess_75 K (k + 1) (nI p) (nI i) I A := by
  have hC := (x.1.2.2.2 p hp).2.1
  have c1 : ∀ c, c = 10 ∨ c = 32 → vp_nar .byte (nI c).toInt8.toInt32 = nI c := by
    intro c hc
    rcases hc with e | e <;> subst e <;> decide
  intro k
  induction k with
  | zero =>
    intro i L I A hi e1 g hl h
    rw [wlX12_printProcess_75]
    refine ⟨20 + p, nI_add 20 p, by omega, ?_⟩
    rw [e1, (x.1.2.2.2 p hp).1]
    exact br_t ((nI_leI (by omega) (by omega)).mpr (by omega)) (q_pr (c1 10 (Or.inl rfl)) g (by omega) (fun I1 A1 q1 g1 => h I1 A1 q1 g1))
  | succ k ih =>
    intro i L I A hi e1 g hl h
    rw [wlX12_printProcess_75]
    refine ⟨20 + p, nI_add 20 p, by omega, ?_⟩
    rw [e1, (x.1.2.2.2 p hp).1]
    refine br_f (nI_ge (by omega) (by omega)) (q_pr (c1 32 (Or.inr rfl)) g (by omega) (fun I1 A1 q1 g1 => ?_))
    have e2 : A1 1 = w := (q1.2 1 (by decide)).trans e1
    have hs := m_stt_lt w (8 * p + i)
    rw [show nI 8 * nI p + nI i = nI (8 * p + i) by rw [nI_mul8, nI_add]]
    refine q_stateOf (B := B) (by rw [e2]; exact x) (by omega) ?_
    rw [e2]
    refine q_pn (by omega) g1 (by rw [List.length_append]; show L.length + 1 + 10 ≤ 800; omega) (fun I2 A2 q2 g2 => ?_)
    have e3 : A2 1 = w := (q2.2 1 (by decide)).trans e2
    rw [show nI i + nI 1 = nI (i + 1) from nI_add i 1]
    refine ih (i + 1) _ I2 A2 (by omega) e3 g2 ?_ (fun I3 A3 q3 g3 => h I3 A3 ((q1.trans q2).trans q3) ?_)
    · rw [List.length_append, List.length_append, dgL_len, dg_10 (by omega)]
      show L.length + 1 + 1 + 2 * k + 11 ≤ 800
      omega
    · have e9 : (m_pgs w p i (k + 1) ++ [[nI 10]]).flatten = [nI 32] ++ (dgL (m_stt w (8 * p + i)) ++ (m_pgs w p (i + 1) k ++ [[nI 10]]).flatten) := rfl
      rw [e9, ← List.append_assoc, ← List.append_assoc]
      exact g3
theorem q_pp {L : List Int32} {p B : Nat} {w : Nat → Int32} {K : ab_F → ab_F → Prop} {I A : ab_F} (hB : B < 2 ^ 30) (x : Iv B w) (hp : p < 6) (e1 : A 1 = w) (g : Pg L I A) (hl : L.length + 64 ≤ 800) (h : ∀ I' A', Qp I A I' A' → Pg (L ++ (m_line w p).flatten) I' A' → K I' A') : wX12_printProcess K I A (nI p) := by
  have hC := (x.1.2.2.2 p hp).2.1
  have k1 : kc 62 = kc 26 := by decide
  have k2 : (kc 26).length = 8 := by decide
  have hd := (sb_dg_in p).2
  refine q_pw (by decide) g (by rw [k1]; omega) (fun I1 A1 q1 g1 => ?_)
  rw [k1] at g1
  have l1 : (L ++ kc 26).length = L.length + 8 := by rw [List.length_append, k2]
  refine q_pn (by omega) g1 (by omega) (fun I2 A2 q2 g2 => ?_)
  have e2 : A2 1 = w := (q2.2 1 (by decide)).trans ((q1.2 1 (by decide)).trans e1)
  have l2 : (L ++ kc 26 ++ dgL p).length = L.length + 9 := by rw [List.length_append, l1, dgL_len, dg_10 (by omega)]
  have tail : ∀ i, i < 66 → (kc i).length ≤ 18 → kc i = kc (m_kd w p) ++ kc 29 → wjX12_printProcess_34 K (nI p) i I2 A2 := by
    intro i hi hil hk
    refine q_pw hi g2 (by omega) (fun I3 A3 q3 g3 => ?_)
    have e3 : A3 1 = w := (q3.2 1 (by decide)).trans e2
    have l3 : (L ++ kc 26 ++ dgL p ++ kc i).length ≤ L.length + 27 := by rw [List.length_append, l2]; omega
    refine ⟨26 + p, nI_add 26 p, by omega, ?_⟩
    rw [e3]
    have fin : ∀ I4 A4, Qp I3 A3 I4 A4 → (m_ck w p).length ≤ 10 → Pg (L ++ kc 26 ++ dgL p ++ kc i ++ m_ck w p) I4 A4 → wlX12_printProcess_75 K (m_C w p + 1) (nI p) (nI 0) I4 A4 := by
      intro I4 A4 q4 hc g4
      refine q_pg (L := L) x hp (m_C w p) 0 _ I4 A4 (Nat.zero_add _) ((q4.2 1 (by decide)).trans e3) g4 (by rw [List.length_append]; omega) (fun I5 A5 q5 g5 => h I5 A5 ((((q1.trans q2).trans q3).trans q4).trans q5) ?_)
      have e9 : L ++ (m_line w p).flatten = L ++ kc 26 ++ dgL p ++ kc i ++ m_ck w p ++ (m_pgs w p 0 (m_C w p) ++ [[nI 10]]).flatten := by
        rw [hk]
        simp only [m_line, List.flatten_cons, List.append_assoc]
      rw [e9]
      exact g5
    refine ⟨fun hc => ⟨26 + p, nI_add 26 p, by omega, ?_⟩, fun hc => ?_⟩
    · obtain ⟨e, he, ee⟩ := ck_e x hp hc
      have hm : m_ck w p = dgL e := by unfold m_ck; rw [if_neg hc, ee, nn_nI (by omega)]
      rw [ee]
      refine q_pn (by omega) g3 (by omega) (fun I4 A4 q4 g4 => ⟨_, fin I4 A4 q4 ?_ ?_⟩)
      · rw [hm, dgL_len]; exact (sb_dg_in e).2
      · rw [hm]; exact g4
    · have k3 : kc 65 = kc 30 := by decide
      have k4 : (kc 30).length = 4 := by decide
      have hm : m_ck w p = kc 30 := by unfold m_ck; rw [if_pos hc]
      refine q_pw (by decide) g3 (by rw [k3]; omega) (fun I4 A4 q4 g4 => ⟨_, fin I4 A4 q4 ?_ ?_⟩)
      · rw [hm]; omega
      · rw [hm, ← k3]; exact g4
  refine ⟨14 + p, nI_add 14 p, by omega, ?_⟩
  rw [e2]
  refine ⟨fun hc => tail 64 (by decide) (by decide) ?_, fun hc => tail 63 (by decide) (by decide) ?_⟩
  · have e : w (14 + p) = nI 1 := by
      rcases x.2.2.2.2.2.2.2.2.1.2 p hp with q | q
      · exact absurd q hc
      · exact q
    rw [show m_kd w p = 27 by unfold m_kd; rw [if_pos e]]
    decide
  · rw [show m_kd w p = 28 by unfold m_kd; rw [if_neg (by rw [hc]; decide)]]
    decide
theorem q_rl {B : Nat} {w : Nat → Int32} {K : Int32 → ab_F → ab_F → Prop} (hB : B < 2 ^ 30) (x : Iv B w) : ∀ (k p : Nat) (L : List Int32) (I A : ab_F), p + k = m_P w → A 1 = w → Pg L I A → L.length ≤ 60 + 64 * p → (∀ I' A', Qp I A I' A' → Pg (L ++ (m_lines w p k).flatten) I' A' → K (nI (L ++ (m_lines w p k).flatten).length) I' A') → wlX12_writeReport_67 K (k + 1) (nI p) I A := by
  have hP := x.1.2.2.1.2
  intro k
  induction k with
  | zero =>
    intro p L I A hp e1 g hl h
    rw [wlX12_writeReport_67, e1, x.1.2.2.1.1]
    refine br_t ((nI_leI (by omega) (by omega)).mpr (by omega)) ?_
    have e9 : L ++ (m_lines w p 0).flatten = L := List.append_nil L
    rw [g.1]
    have := h I A (Qp.refl I A) (by rw [e9]; exact g)
    rw [e9] at this
    exact this
  | succ k ih =>
    intro p L I A hp e1 g hl h
    rw [wlX12_writeReport_67, e1, x.1.2.2.1.1]
    refine br_f (nI_ge (by omega) (by omega)) (q_pp hB x (by omega) e1 g (by omega) (fun I1 A1 q1 g1 => ?_))
    rw [show nI p + nI 1 = nI (p + 1) from nI_add p 1]
    have e9 : L ++ (m_lines w p (k + 1)).flatten = L ++ (m_line w p).flatten ++ (m_lines w (p + 1) k).flatten := by
      show L ++ (m_line w p ++ m_lines w (p + 1) k).flatten = _
      rw [List.flatten_append, List.append_assoc]
    rw [e9] at h
    refine ih (p + 1) _ I1 A1 (by omega) ((q1.2 1 (by decide)).trans e1) g1 ?_ (fun I2 A2 q2 g2 => h I2 A2 (q1.trans q2) g2)
    have := line_len (w := w) (p := p) (by omega) (x.1.2.2.2 p (by omega)).2.1
    rw [List.length_append]
    omega
theorem q_rep {B : Nat} {w : Nat → Int32} {K : Int32 → ab_F → ab_F → Prop} {I A : ab_F} (hB : B < 2 ^ 30) (x : Iv B w) (e1 : A 1 = w) (h : ∀ I' A', Qp (wr (wr I 0 5 (nI 0)) 0 18 (nI 0)) A I' A' → Pg (m_rep w).flatten I' A' → K (nI (m_rep w).flatten.length) I' A') : wX12_writeReport K I A := by
  obtain ⟨c, hcB, c4⟩ := x.2.2.2.2.2.2.2.2.2.1.1
  obtain ⟨a, f, hfa, haB, c5, -⟩ := x.2.2.2.2.2.2.2.2.2.1.2.1
  have hfr : m_free w < 2 ^ 31 := by have := cn_le (p := m_fr w) (m_S w); have := x.1.2.1.2.2; unfold m_free; omega
  have k1 : kc 59 = kc 23 := by decide
  have k2 : kc 60 = kc 24 := by decide
  have k3 : kc 61 = kc 25 := by decide
  have a1 : (kc 23).length = 6 := by decide
  have a2 : (kc 24).length = 6 := by decide
  have a3 : (kc 25).length = 10 := by decide
  have b1 := (sb_dg_in c).2
  have b2 := (sb_dg_in (m_free w)).2
  have b3 := (sb_dg_in a).2
  have g0 : Pg [] (wr (wr I 0 5 (nI 0)) 0 18 (nI 0)) A := ⟨wr_ate _ _ _ _, fun j hj => absurd hj (Nat.not_lt_zero j)⟩
  refine q_pw (by decide) g0 (by rw [k1, a1]; decide) (fun I1 A1 q1 g1 => ?_)
  rw [k1] at g1
  have e2 : A1 1 = w := (q1.2 1 (by decide)).trans e1
  rw [e2, c4]
  refine q_pn (by omega) g1 (by simp only [List.length_append, List.length_nil, a1]; omega) (fun I2 A2 q2 g2 => ?_)
  refine q_pw (by decide) g2 (by simp only [List.length_append, List.length_nil, a1, dgL_len, k2, a2]; omega) (fun I3 A3 q3 g3 => ?_)
  rw [k2] at g3
  have e3 : A3 1 = w := (q3.2 1 (by decide)).trans ((q2.2 1 (by decide)).trans e2)
  refine q_freeCount (by rw [e3]; exact x.1) ?_
  rw [e3]
  refine q_pn hfr g3 (by simp only [List.length_append, List.length_nil, a1, dgL_len, a2]; omega) (fun I4 A4 q4 g4 => ?_)
  refine q_pw (by decide) g4 (by simp only [List.length_append, List.length_nil, a1, dgL_len, a2, k3, a3]; omega) (fun I5 A5 q5 g5 => ?_)
  rw [k3] at g5
  have e5 : A5 1 = w := (q5.2 1 (by decide)).trans ((q4.2 1 (by decide)).trans e3)
  rw [e5, c5]
  refine q_pn (by omega) g5 (by simp only [List.length_append, List.length_nil, a1, dgL_len, a2, a3]; omega) (fun I6 A6 q6 g6 => ?_)
  refine q_pr (v := nI 10) (by decide) g6 (by simp only [List.length_append, List.length_nil, a1, dgL_len, a2, a3]; omega) (fun I7 A7 q7 g7 => ?_)
  have e7 : A7 1 = w := (q7.2 1 (by decide)).trans ((q6.2 1 (by decide)).trans e5)
  have e9 : (m_rep w).flatten = [] ++ kc 23 ++ dgL c ++ kc 24 ++ dgL (m_free w) ++ kc 25 ++ dgL a ++ [nI 10] ++ (m_lines w 0 (m_P w)).flatten := by
    unfold m_rep m_head
    rw [c4, c5, nn_nI (by omega), nn_nI (by omega)]
    simp only [List.flatten_cons, List.append_assoc, List.cons_append, List.nil_append]
  rw [e9] at h
  exact ⟨_, q_rl hB x (m_P w) 0 _ I7 A7 (Nat.zero_add _) e7 g7 (by simp only [List.length_append, List.length_nil, List.length_cons, a1, dgL_len, a2, a3]; omega) (fun I8 A8 q8 g8 => h I8 A8 (((((((q1.trans q2).trans q3).trans q4).trans q5).trans q6).trans q7).trans q8) g8)⟩
