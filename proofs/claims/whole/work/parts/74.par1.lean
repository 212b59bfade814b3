/-! the system's text: a head and its processes -/
abbrev n2 (t : st_T) (T : tok) : tok := n1 t (n1 t T)
abbrev n3 (t : st_T) (T : tok) : tok := n1 t (n2 t T)
abbrev n4 (t : st_T) (T : tok) : tok := n1 t (n3 t T)
abbrev n5 (t : st_T) (T : tok) : tok := n1 t (n4 t T)
abbrev wd (i : Nat) : List Int32 := (ab_st i).2.2.2
/-- the policy's word, the kind's word -/
def p_pol (t : st_T) (T : tok) : Nat := p_w t T (ab_st 1).2.2.2 (ab_st 2).2.2.2 (ab_st 3).2.2.2
def p_kd (t : st_T) (T : tok) : Nat := p_w t T (ab_st 5).2.2.2 (ab_st 6).2.2.2 (ab_st 7).2.2.2
/-- the head: a code and where -/
def p_hd (t : st_T) (T : tok) : Nat × Nat := if tw1 t T (ab_st 0).2.2.2 = false then (1, T.1) else if p_num t (n1 t T) 1 16 ≠ 0 then (p_num t (n1 t T) 1 16, (n1 t T).1) else if p_num t (n2 t T) 1 48 ≠ 0 then (p_num t (n2 t T) 1 48, (n2 t T).1) else if p_pol t (n3 t T) = 3 then (1, (n3 t T).1) else if (n4 t T).2.2 ≠ 3 then (1, (n4 t T).1) else (0, 0)
/-- a process: a code and where -/
def p_pr (t : st_T) (T : tok) (n : Nat) : Nat × Nat := if tw1 t T (ab_st 4).2.2.2 = false then (1, T.1) else if n = 6 then (3, T.1) else if p_kd t (n1 t T) = 3 then (1, (n1 t T).1) else if p_num t (n2 t T) 1 8 ≠ 0 then (p_num t (n2 t T) 1 8, (n2 t T).1) else if (n3 t T).2.2 ≠ 3 then (1, (n3 t T).1) else (0, 0)
theorem tv_in {t : st_T} {T : tok} {hi : Nat} (hh : hi < 2 ^ 31) (h : p_num t T 1 hi = 0) : ∃ j, 1 ≤ j ∧ j ≤ hi ∧ tv t T = nI j := by
  have q : nI 1 ≤ tv t T ∧ tv t T ≤ nI hi := by
    unfold p_num at h
    by_cases c1 : T.2.2 = 2
    · rw [if_pos c1] at h
      by_cases c2 : T.2.1 - T.1 ≤ 9
      · rw [if_pos c2] at h
        by_cases c3 : nI 1 ≤ tv t T ∧ tv t T ≤ nI hi
        · exact c3
        · rw [if_neg c3] at h; omega
      · rw [if_neg c2] at h; omega
    · rw [if_neg c1] at h; omega
  rw [Int32.le_iff_toInt_le, Int32.le_iff_toInt_le, nI_toInt (by omega), nI_toInt hh] at q
  obtain ⟨j, hj, e⟩ := nI_of (x := tv t T) (fun h2 => by rw [Int32.lt_iff_toInt_lt] at h2; have : (0 : Int32).toInt = 0 := rfl; omega)
  rw [e, nI_toInt hj] at q
  exact ⟨j, by omega, by omega, e⟩
theorem tv_m1 {t : st_T} {T : tok} {hi : Nat} (hh : hi < 2 ^ 31) (h : p_num t T 1 hi = 0) : ¬ tv t T = -1 := by
  obtain ⟨j, h1, h2, e⟩ := tv_in hh h
  rw [e]; exact nI_m1 (by omega)
theorem p_w_le (t : st_T) (T : tok) (a b c : List Int32) : p_w t T a b c ≤ 3 := by unfold p_w; split <;> (try split) <;> (try split) <;> omega
theorem tw1_0 {t : st_T} {T : tok} (z : To t T) : tw1 t T [] = false := by
  unfold tw1
  by_cases c : T.2.2 = 1
  · rw [decide_eq_true c, Bool.true_and]
    refine iw_f (fun q => ?_)
    have := (z.2.2.2.2.1 (by omega)).1
    have h := q.1
    have : T.2.1 - T.1 = 0 := h
    omega
  · rw [decide_eq_false c, Bool.false_and]
theorem p_kd_2 {t : st_T} {T : tok} (z : To t T) : p_kd t T ≠ 2 := by
  unfold p_kd p_w
  rw [show (ab_st 7).2.2.2 = [] from rfl, tw1_0 z]
  split
  · omega
  · split
    · omega
    · rw [if_neg (by decide)]; omega
/-! the class -/
theorem o1 : (1 : Nat) ≠ 0 := by decide
theorem o3 : (3 : Nat) ≠ 0 := by decide
def Kp (I I' : ab_F) : Prop := ∀ c i, c ≠ 3 → (c = 1 → i ≠ 2 ∧ i ≠ 3 ∧ i ≠ 4) → I' c i = I c i
theorem Kp.refl (I : ab_F) : Kp I I := fun _ _ _ _ => rfl
theorem Kp.trans {I I' I'' : ab_F} (h : Kp I I') (g : Kp I' I'') : Kp I I'' := fun c i p q => (g c i p q).trans (h c i p q)
theorem Ko.p {I I' : ab_F} (h : Ko I I') : Kp I I' := fun c i _ q => h c i q
theorem Kp_w {I : ab_F} {i : Nat} {v : Int32} : Kp I (wr I 3 i v) := fun c j p _ => congrFun (wr_ne p) j
theorem Kp_wf3 {I : ab_F} {c p : Nat} : Kp I (wf3 I c p) := Kp_w.trans Kp_w
theorem ko3 {I I' : ab_F} (h : Ko I I') (i : Nat) : I' 3 i = I 3 i := h 3 i (fun q => by omega)
theorem TxC_kp {t : st_T} {I I' A : ab_F} (h : TxC t I A) (k : Kp I I') : TxC t I' A := ⟨h.1, (k 1 1 (by omega) (fun _ => by omega)).trans h.2.1, h.2.2⟩
theorem TcC_w {T : tok} {I : ab_F} {i : Nat} {v : Int32} (h : TcC T I) : TcC T (wr I 3 i v) := ⟨(congrFun (wr_ne (by omega)) _).trans h.1, (congrFun (wr_ne (by omega)) _).trans h.2.1, (congrFun (wr_ne (by omega)) _).trans h.2.2⟩
theorem wf3_1 (I : ab_F) (c p : Nat) : wf3 I c p 3 1 = nI c := (wr_nei (by omega)).trans (wr_ate _ _ _ _)
theorem wf3_2 (I : ab_F) (c p : Nat) : wf3 I c p 3 2 = nI p := wr_ate _ _ _ _
theorem c_head {K : Int32 → ab_F → ab_F → Prop} {I A : ab_F} {t : st_T} {T : tok} (x : TxC t I A) (y : TcC T I) (z : To t T) (h0 : (p_hd t T).1 = 0 → ∀ I', TcC (n5 t T) I' → Kp I I' → TxC t I' A → I' 3 1 = I 3 1 → I' 3 2 = I 3 2 → I' 3 6 = I 3 6 → I' 3 3 = tv t (n1 t T) → I' 3 4 = tv t (n2 t T) → I' 3 5 = nI (p_pol t (n3 t T)) → K (nI 1) I' A) (h1 : (p_hd t T).1 ≠ 0 → ∀ I', I' 3 1 = nI (p_hd t T).1 → I' 3 2 = nI (p_hd t T).2 → Kp I I' → K (nI 0) I' A) : wX9_readHead K I A := by
  have z1 := n1_To z
  have z2 := n1_To z1
  have z3 := n1_To z2
  have z4 := n1_To z3
  unfold p_hd at h0 h1
  refine c_isW (by omega) x y z (bb' (fun q => ?_) (fun q => ?_))
  · rw [if_pos q] at h1
    unfold wX9_fail
    rw [y.1]
    exact ⟨rfl, h1 o1 _ (wf3_1 I 1 T.1) (wf3_2 I 1 T.1) Kp_wf3⟩
  · rw [if_neg (by rw [q]; decide)] at h0 h1
    refine c_next x z.2.1 y.2.1 (fun I1 y1 k1 x1 => ?_)
    refine c_rnum x1 y1 z1 (fun e1 I2 y2 k2 x2 => ?_) (fun e1 => ?_)
    · rw [if_neg (fun w => w e1)] at h0 h1
      refine rb_f (tv_m1 (by omega) e1) ?_
      have k3 : Kp I2 (wr I2 3 3 (tv t (n1 t T))) := Kp_w
      refine c_rnum (TxC_kp x2 k3) (TcC_w y2) z2 (fun e2 I4 y4 k4 x4 => ?_) (fun e2 => ?_)
      · rw [if_neg (fun w => w e2)] at h0 h1
        refine rb_f (tv_m1 (by omega) e2) ?_
        have k5 : Kp I4 (wr I4 3 4 (tv t (n2 t T))) := Kp_w
        refine c_rw (by omega) (by omega) (by omega) (TxC_kp x4 k5) (TcC_w y4) z3 (fun e3 I6 y6 k6 x6 => ?_) (fun e3 => ?_)
        · have e3' : p_pol t (n3 t T) < 3 := e3
          rw [if_neg (fun w => by omega)] at h0 h1
          refine br_f (nI_m1 (by omega)) ?_
          have k7 : Kp I6 (wr I6 3 5 (nI (p_pol t (n3 t T)))) := Kp_w
          have kk : Kp I (wr I6 3 5 (nI (p_pol t (n3 t T)))) := ((((((k1.p.trans k2.p).trans k3).trans k4.p).trans k5).trans k6.p).trans k7)
          have u : ∀ i, i ≠ 3 → i ≠ 4 → i ≠ 5 → (wr I6 3 5 (nI (p_pol t (n3 t T)))) 3 i = I 3 i := fun i a b c => (wr_nei c).trans ((ko3 k6 i).trans ((wr_nei b).trans ((ko3 k4 i).trans ((wr_nei a).trans ((ko3 k2 i).trans (ko3 k1 i))))))
          refine c_semi (TxC_kp x6 k7) (TcC_w y6) z4 (fun e4 I8 y8 k8 x8 => ?_) (fun e4 => ?_)
          · rw [if_neg (fun w => w e4)] at h0
            refine br_f (by decide) (h0 rfl I8 y8 (kk.trans k8.p) x8 ((ko3 k8 1).trans (u 1 (by omega) (by omega) (by omega))) ((ko3 k8 2).trans (u 2 (by omega) (by omega) (by omega))) ((ko3 k8 6).trans (u 6 (by omega) (by omega) (by omega))) ?_ ?_ ?_)
            · exact (ko3 k8 3).trans ((wr_nei (by omega)).trans ((ko3 k6 3).trans ((wr_nei (by omega)).trans ((ko3 k4 3).trans (wr_ate _ _ _ _)))))
            · exact (ko3 k8 4).trans ((wr_nei (by omega)).trans ((ko3 k6 4).trans (wr_ate _ _ _ _)))
            · exact (ko3 k8 5).trans (wr_ate _ _ _ _)
          · rw [if_pos e4] at h1
            exact br_t (by decide) (h1 o1 _ (wf3_1 _ 1 _) (wf3_2 _ 1 _) (kk.trans Kp_wf3))
        · have e3' : p_pol t (n3 t T) = 3 := e3
          rw [if_pos e3'] at h1
          refine br_t rfl (h1 o1 _ ((wr_nei (by omega)).trans (wf3_1 _ 1 _)) ((wr_nei (by omega)).trans (wf3_2 _ 1 _)) ?_)
          exact (((((k1.p.trans k2.p).trans k3).trans k4.p).trans k5).trans Kp_wf3).trans Kp_w
      · rw [if_pos e2] at h1
        refine rb_t rfl (br_t rfl (h1 e2 _ ((wr_nei (by omega)).trans ((wr_nei (by omega)).trans (wf3_1 _ _ _))) ((wr_nei (by omega)).trans ((wr_nei (by omega)).trans (wf3_2 _ _ _))) ?_))
        exact ((((k1.p.trans k2.p).trans k3).trans Kp_wf3).trans Kp_w).trans Kp_w
    · rw [if_pos e1] at h1
      refine rb_t rfl (rb_t rfl (br_t rfl (h1 e1 _ ((wr_nei (by omega)).trans ((wr_nei (by omega)).trans ((wr_nei (by omega)).trans (wf3_1 _ _ _)))) ((wr_nei (by omega)).trans ((wr_nei (by omega)).trans ((wr_nei (by omega)).trans (wf3_2 _ _ _)))) ?_)))
      exact (((k1.p.trans Kp_wf3).trans Kp_w).trans Kp_w).trans Kp_w
theorem c_proc {K : Int32 → ab_F → ab_F → Prop} {I A : ab_F} {t : st_T} {T : tok} {n : Nat} (hn : n ≤ 6) (e6 : I 3 6 = nI n) (x : TxC t I A) (y : TcC T I) (z : To t T) (h0 : (p_pr t T n).1 = 0 → n < 6 → ∀ I', TcC (n4 t T) I' → Kp I I' → TxC t I' A → (∀ i, i ≠ 6 → I' 3 i = I 3 i) → I' 3 6 = nI (n + 1) → K (nI 1) I' (wr (wr A 4 n (nI (p_kd t (n1 t T)))) 5 n (tv t (n2 t T)))) (h1 : (p_pr t T n).1 ≠ 0 → ∀ I', I' 3 1 = nI (p_pr t T n).1 → I' 3 2 = nI (p_pr t T n).2 → Kp I I' → K (nI 0) I' A) : wX9_readProcess K I A := by
  have z1 := n1_To z
  have z2 := n1_To z1
  have z3 := n1_To z2
  unfold p_pr at h0 h1
  refine c_isW (by omega) x y z (bb' (fun q => ?_) (fun q => ?_))
  · rw [if_pos q] at h1
    unfold wX9_fail
    rw [y.1]
    exact ⟨rfl, h1 o1 _ (wf3_1 I 1 T.1) (wf3_2 I 1 T.1) Kp_wf3⟩
  · rw [if_neg (by rw [q]; decide)] at h0 h1
    rw [e6]
    by_cases c6 : n = 6
    · rw [if_pos c6] at h1
      refine br_f (fun w => absurd (nI_le (a := 6) (b := n) (by omega) (by omega)) (Int32.not_le.mpr w)) ?_
      unfold wX9_fail
      rw [y.1]
      exact ⟨rfl, h1 o3 _ (wf3_1 I 3 T.1) (wf3_2 I 3 T.1) Kp_wf3⟩
    · rw [if_neg c6] at h0 h1
      refine br_t (Int32.not_le.mp (nI_ge (by omega) (by omega))) ?_
      refine c_next x z.2.1 y.2.1 (fun I1 y1 k1 x1 => ?_)
      refine c_rw (by omega) (by omega) (by omega) x1 y1 z1 (fun e1 I2 y2 k2 x2 => ?_) (fun e1 => ?_)
      · have e1' : p_kd t (n1 t T) < 3 := e1
        rw [if_neg (fun w => by omega)] at h0 h1
        refine rb_f (nI_m1 (by omega)) ?_
        refine c_rnum x2 y2 z2 (fun e2 I4 y4 k4 x4 => ?_) (fun e2 => ?_)
        · rw [if_neg (fun w => w e2)] at h0 h1
          refine br_f (tv_m1 (by omega) e2) ?_
          refine c_semi x4 y4 z3 (fun e3 I5 y5 k5 x5 => ?_) (fun e3 => ?_)
          · rw [if_neg (fun w => w e3)] at h0
            have u : ∀ i, I5 3 i = I 3 i := fun i => (ko3 k5 i).trans ((ko3 k4 i).trans ((ko3 k2 i).trans (ko3 k1 i)))
            refine rb_f (by decide) ?_
            rw [u 6, e6]
            refine ix0 (by omega) (ix0 (by omega) ?_)
            rw [nI_add n 1]
            have k6 : Kp I5 (wr I5 3 6 (nI (n + 1))) := Kp_w
            exact h0 rfl (by omega) _ (TcC_w y5) ((((k1.p.trans k2.p).trans k4.p).trans k5.p).trans k6) (TxC_kp x5 k6) (fun i hi => (wr_nei hi).trans (u i)) (wr_ate _ _ _ _)
          · rw [if_pos e3] at h1
            exact rb_t rfl (h1 o1 _ (wf3_1 _ _ _) (wf3_2 _ _ _) (((k1.p.trans k2.p).trans k4.p).trans Kp_wf3))
        · rw [if_pos e2] at h1
          exact br_t rfl (h1 e2 _ (wf3_1 _ _ _) (wf3_2 _ _ _) ((k1.p.trans k2.p).trans Kp_wf3))
      · have e1' : p_kd t (n1 t T) = 3 := e1
        rw [if_pos e1'] at h1
        exact rb_t rfl (br_t rfl (h1 o1 _ (wf3_1 _ _ _) (wf3_2 _ _ _) (k1.p.trans Kp_wf3)))
