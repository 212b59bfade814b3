/-! the system's text, the reference -/
def Kr (I I' : ab_F) : Prop := ∀ c i, (c = 0 → i ≠ 8 ∧ i ≠ 9 ∧ i ≠ 11 ∧ i ≠ 12) → I' c i = I c i
theorem Kr.refl (I : ab_F) : Kr I I := fun _ _ _ => rfl
theorem Kr.trans {I I' I'' : ab_F} (h : Kr I I') (g : Kr I' I'') : Kr I I'' := fun c i q => (g c i q).trans (h c i q)
theorem Kq.r {I I' : ab_F} (h : Kq I I') : Kr I I' := fun c i q => h c i (fun e => ⟨(q e).1, (q e).2.1⟩)
theorem Kr_wf {I : ab_F} {c p : Nat} : Kr I (wf I c p) := fun d i q => by
  by_cases e : d = 0
  · subst e; exact wf_ne (q rfl).2.2.1 (q rfl).2.2.2
  · exact congrFun (wf_nc e) i
/-- only the row under way has changed -/
def A3 (A A' : ab_F) : Prop := ∀ c, c ≠ 3 → A' c = A c
theorem A3.refl (A : ab_F) : A3 A A := fun _ _ => rfl
theorem A3.w {A A' : ab_F} (h : A3 A A') {i : Nat} {v : Int32} : A3 A (wr A' 3 i v) := fun c q => (wr_ne q).trans (h c q)
theorem TxM_3 {t : st_T} {I A A' : ab_F} (x : TxM t I A) (h : A3 A A') : TxM t I A' := ⟨x.1, x.2.1, fun i hi => by rw [h 5 (by omega)]; exact x.2.2 i hi⟩
theorem kq11 {I I' : ab_F} (h : Kq I I') : I' 0 11 = I 0 11 := h 0 11 (fun _ => by omega)
theorem iw_c {t : st_T} {T : tok} (z : To t T) (i j : Nat) (e : (ab_st i).2.2.2 = (ab_st j).2.2.2) (h1 : 0 < (ab_st j).2.2.2.length) (h2 : tk ((ab_st j).2.2.2.getD 0 0) = 1) : iw t T.1 T.2.1 (ab_st i).2.2.2 = tw1 t T (ab_st j).2.2.2 := by rw [e]; exact iw_1 z h1 h2
theorem kd_eq {t : st_T} {T : tok} (z : To t T) : p_w t T (ab_st 48).2.2.2 (ab_st 49).2.2.2 (ab_st 49).2.2.2 = p_kd t T := by
  unfold p_kd p_w
  rw [show (ab_st 48).2.2.2 = (ab_st 5).2.2.2 from rfl, show (ab_st 49).2.2.2 = (ab_st 6).2.2.2 from rfl, show (ab_st 7).2.2.2 = [] from rfl, tw1_0 z]
  by_cases c1 : tw1 t T (ab_st 5).2.2.2 = true
  · rw [if_pos c1, if_pos c1]
  · rw [if_neg c1, if_neg c1]
    by_cases c2 : tw1 t T (ab_st 6).2.2.2 = true
    · rw [if_pos c2, if_pos c2]
    · rw [if_neg c2, if_neg c2, if_neg c2, if_neg (by decide)]
theorem q_rsys {K : ab_F → ab_F → Prop} {I A : ab_F} {t : st_T} {T : tok} (x : TxM t I A) (y : TcM T I) (z : To t T) (e : I 0 11 = 0) (h0 : (p_hd t T).1 = 0 → ∀ I', TcM (n5 t T) I' → Kq I I' → K I' (wr (wr (wr A 3 0 (tv t (n1 t T))) 3 1 (tv t (n2 t T))) 3 2 (nI (p_pol t (n3 t T))))) (h1 : (p_hd t T).1 ≠ 0 → ∀ I' A', I' 0 11 = nI (p_hd t T).1 → I' 0 12 = nI (p_hd t T).2 → Kr I I' → A3 A A' → (∃ T', TcM T' I' ∧ To t T') → K I' A') : wX12_readSystem K I A := by
  have z1 := n1_To z
  have z2 := n1_To z1
  have z3 := n1_To z2
  have z4 := n1_To z3
  unfold p_hd at h0 h1
  refine q_must (by omega) x y z e (fun q I1 y1 k1 x1 => ?_) (fun q => ?_)
  · rw [iw_c z 42 0 rfl (by decide) (by decide)] at q
    rw [if_neg (by rw [q]; decide)] at h0 h1
    have f1 := (kq11 k1).trans e
    refine q_num x1 y1 z1 f1 (fun e1 I2 y2 k2 x2 => ?_) (fun e1 v => ?_)
    · rw [if_neg (fun w => w e1)] at h0 h1
      have f2 := (kq11 k2).trans f1
      have a2 : A3 A (wr A 3 0 (tv t (n1 t T))) := (A3.refl A).w
      refine q_num (TxM_3 x2 a2) y2 z2 f2 (fun e2 I3 y3 k3 x3 => ?_) (fun e2 v => ?_)
      · rw [if_neg (fun w => w e2)] at h0 h1
        have f3 := (kq11 k3).trans f2
        have a3 : A3 A (wr (wr A 3 0 (tv t (n1 t T))) 3 1 (tv t (n2 t T))) := a2.w
        have x3' : TxM t I3 A := TxM_3 x3 (fun c q => (a2 c q).symm)
        refine q_wof (by omega) (by omega) (by omega) (iw_1 z3 (by decide) (by decide)) (iw_1 z3 (by decide) (by decide)) (iw_1 z3 (by decide) (by decide)) (TxM_3 x3' a3) y3 z3 f3 (fun e3 I4 y4 k4 x4 => ?_) (fun e3 v => ?_)
        · have e3' : p_pol t (n3 t T) < 3 := e3
          rw [if_neg (fun w => by omega)] at h0 h1
          have f4 := (kq11 k4).trans f3
          have kk := ((k1.trans k2).trans k3).trans k4
          have a4 : A3 A (wr (wr (wr A 3 0 (tv t (n1 t T))) 3 1 (tv t (n2 t T))) 3 2 (nI (p_pol t (n3 t T)))) := a3.w
          have x4' : TxM t I4 A := TxM_3 x4 (fun c q => (a3 c q).symm)
          refine q_must (by omega) (TxM_3 x4' a4) y4 z4 f4 (fun q5 I5 y5 k5 x5 => ?_) (fun q5 => ?_)
          · rw [show (ab_st 46).2.2.2 = [59] from rfl, iw_3 z4] at q5
            rw [if_neg (fun w => w (of_decide_eq_true q5))] at h0
            exact h0 rfl I5 y5 (kk.trans k5)
          · rw [show (ab_st 46).2.2.2 = [59] from rfl, iw_3 z4] at q5
            rw [if_pos (of_decide_eq_false q5)] at h1
            exact h1 o1 _ _ (wf_11 _ _ _) (wf_12 _ _ _) (kk.r.trans Kr_wf) a4 ⟨_, TcM_wf y4, z4⟩
        · have e3' : p_pol t (n3 t T) = 3 := e3
          rw [if_pos e3'] at h1
          exact q_mustF (by omega) (TxM_3 (TxM_wf x3') a3.w) (TcM_wf y3) z3 (wf_11 _ _ _) (by omega) (by omega) (h1 o1 _ _ (wf_11 _ _ _) (wf_12 _ _ _) (((k1.trans k2).trans k3).r.trans Kr_wf) a3.w ⟨_, TcM_wf y3, z3⟩)
      · rw [if_pos e2] at h1
        have hc := p_num_le t (n2 t T) 1 48
        have x2' : TxM t I2 A := x2
        refine q_wofF (wf_11 _ _ _) (Nat.pos_of_ne_zero e2) (Nat.lt_of_le_of_lt hc (by omega)) (fun v2 => q_mustF (by omega) (TxM_3 (TxM_wf x2') a2.w.w) (TcM_wf y2) z2 (wf_11 _ _ _) (Nat.pos_of_ne_zero e2) (Nat.lt_of_le_of_lt hc (by omega)) (h1 e2 _ _ (wf_11 _ _ _) (wf_12 _ _ _) ((k1.trans k2).r.trans Kr_wf) a2.w.w ⟨_, TcM_wf y2, z2⟩))
    · rw [if_pos e1] at h1
      have hc := p_num_le t (n1 t T) 1 16
      refine q_numF (wf_11 _ _ _) (by omega) (by omega) (fun v1 => q_wofF (wf_11 _ _ _) (by omega) (by omega) (fun v2 => q_mustF (by omega) (TxM_3 (TxM_wf x1) (A3.refl A).w.w.w) (TcM_wf y1) z1 (wf_11 _ _ _) (by omega) (by omega) (h1 e1 _ _ (wf_11 _ _ _) (wf_12 _ _ _) (k1.r.trans Kr_wf) (A3.refl A).w.w.w ⟨_, TcM_wf y1, z1⟩)))
  · rw [iw_c z 42 0 rfl (by decide) (by decide)] at q
    rw [if_pos q] at h1
    refine q_numF (wf_11 _ _ _) (by omega) (by omega) (fun v0 => q_numF (wf_11 _ _ _) (by omega) (by omega) (fun v1 => q_wofF (wf_11 _ _ _) (by omega) (by omega) (fun v2 => q_mustF (by omega) (TxM_3 (TxM_wf x) (A3.refl A).w.w.w) (TcM_wf y) z (wf_11 _ _ _) (by omega) (by omega) (h1 o1 _ _ (wf_11 _ _ _) (wf_12 _ _ _) Kr_wf (A3.refl A).w.w.w ⟨_, TcM_wf y, z⟩))))
theorem q_rp {K : ab_F → ab_F → Prop} {I A : ab_F} {t : st_T} {T : tok} {n : Nat} (hn : n ≤ 6) (e3 : A 3 3 = nI n) (x : TxM t I A) (y : TcM T I) (z : To t T) (e : I 0 11 = 0) (h0 : (p_pr t T n).1 = 0 → n < 6 → ∀ I', TcM (n4 t T) I' → Kq I I' → K I' (wrow A 3 (p_rw (A 3) n (nI (p_kd t (n1 t T))) (tv t (n2 t T))))) (h1 : (p_pr t T n).1 ≠ 0 → ∀ I', I' 0 11 = nI (p_pr t T n).1 → I' 0 12 = nI (p_pr t T n).2 → Kr I I' → K I' A) : wX12_readProcess K I A := by
  have z1 := n1_To z
  have z2 := n1_To z1
  have z3 := n1_To z2
  have tl : ∀ c T' J v1 v2 v3, 1 ≤ c → c < 16 → J 0 11 = nI c → TxM t J A → TcM T' J → To t T' → K J A → wX12_must (fun I_13 A_14 => (((I_13 0 11) ≤ 0 → (∃ j_15 : Nat, ((nI 14) + v1) = nI j_15 ∧ j_15 < 608 ∧ (∃ j_16 : Nat, ((nI 20) + v1) = nI j_16 ∧ j_16 < 608 ∧ K I_13 (wr (wr (wr A_14 3 j_15 v2) 3 j_16 v3) 3 3 (((wr (wr A_14 3 j_15 v2) 3 j_16 v3) 3 3) + (nI 1)))))) ∧ (¬ (I_13 0 11) ≤ 0 → K I_13 A_14))) J A 46 := fun c T' J v1 v2 v3 a b f xx yy zz k => q_mustF (by omega) xx yy zz f a b (br_f (ft1 f a b) k)
  have t32 : ∀ c T' J v1, 1 ≤ c → c < 16 → J 0 11 = nI c → TxM t J A → TcM T' J → To t T' → K J A → wjX12_readProcess_32 K v1 J A := fun c T' J v1 a b f xx yy zz k => q_passF f a b (q_wofF f a b (fun v2 => q_numF f a b (fun v3 => tl c T' J v1 v2 v3 a b f xx yy zz k)))
  unfold p_pr at h0 h1
  intro v ev
  rw [e3] at ev
  subst ev
  refine q_isW (by omega) x y z ?_
  rw [iw_c z 47 4 rfl (by decide) (by decide)]
  refine bb' (fun q => ?_) (fun q => ?_)
  · rw [if_pos q] at h1
    have k := h1 o1 (wf I 1 T.1) (wf_11 _ _ _) (wf_12 _ _ _) Kr_wf
    refine q_wrong (c := 1) e rfl y.1 ?_
    have g := t32 1 T (wf I 1 T.1) (nI n) (by omega) (by omega) (wf_11 _ _ _) (TxM_wf x) (TcM_wf y) z k
    by_cases c6 : nI n = nI 6
    · exact rb_t c6 (q_wrongF (wf_11 _ _ _) (by omega) (by omega) g)
    · exact rb_f c6 g
  · rw [if_neg (by rw [q]; decide)] at h0 h1
    unfold wjX12_readProcess_21
    rw [nI_eq (by omega) (by omega)]
    by_cases c6 : n = 6
    · rw [if_pos c6] at h1
      exact rb_t c6 (q_wrong (c := 3) e rfl y.1 (t32 3 T _ _ (by omega) (by omega) (wf_11 _ _ _) (TxM_wf x) (TcM_wf y) z (h1 o3 (wf I 3 T.1) (wf_11 _ _ _) (wf_12 _ _ _) Kr_wf)))
    · rw [if_neg c6] at h0 h1
      refine rb_f c6 (q_pass x y z e (fun I1 y1 k1 x1 => ?_))
      have f1 := (kq11 k1).trans e
      refine q_wof (by omega) (by omega) (by omega) (iw_1 z1 (by decide) (by decide)) (iw_1 z1 (by decide) (by decide)) (iw_1 z1 (by decide) (by decide)) x1 y1 z1 f1 (fun e1 I2 y2 k2 x2 => ?_) (fun e1 v => ?_)
      · rw [kd_eq z1] at e1 ⊢
        rw [if_neg (fun w => by omega)] at h0 h1
        have f2 := (kq11 k2).trans f1
        refine q_num x2 y2 z2 f2 (fun e2 I3 y3 k3 x3 => ?_) (fun e2 v => ?_)
        · rw [if_neg (fun w => w e2)] at h0 h1
          have f3 := (kq11 k3).trans f2
          have kk := (k1.trans k2).trans k3
          refine q_must (by omega) x3 y3 z3 f3 (fun q5 I4 y4 k4 x4 => ?_) (fun q5 => ?_)
          · rw [show (ab_st 46).2.2.2 = [59] from rfl, iw_3 z3] at q5
            rw [if_neg (fun w => w (of_decide_eq_true q5))] at h0
            refine br_t (f0_le ((kq11 k4).trans f3)) (ixa (by omega) (ixa (by omega) ?_))
            have g := h0 rfl (by omega) I4 y4 (kk.trans k4)
            rw [wr_w (wr (wr A 3 (14 + n) _) 3 (20 + n) _), wr_w (wr A 3 (14 + n) _), wr_w A, wrow_at, wrow_at, wrow_wrow, wrow_wrow, uw_ne (by omega), uw_ne (by omega), e3, nI_add n 1]
            exact g
          · rw [show (ab_st 46).2.2.2 = [59] from rfl, iw_3 z3] at q5
            rw [if_pos (of_decide_eq_false q5)] at h1
            exact br_f (ft1 (c := 1) (wf_11 _ _ _) (by omega) (by omega)) (h1 o1 _ (wf_11 _ _ _) (wf_12 _ _ _) (kk.r.trans Kr_wf))
        · rw [if_pos e2] at h1
          have hc := p_num_le t (n2 t T) 1 8
          exact tl _ _ _ _ _ _ (Nat.pos_of_ne_zero e2) (Nat.lt_of_le_of_lt hc (by omega)) (wf_11 _ _ _) (TxM_wf x2) (TcM_wf y2) z2 (h1 e2 _ (wf_11 _ _ _) (wf_12 _ _ _) ((k1.trans k2).r.trans Kr_wf))
      · rw [kd_eq z1] at e1
        rw [if_pos e1] at h1
        exact q_numF (wf_11 _ _ _) (by omega) (by omega) (fun v3 => tl _ _ _ _ _ _ (by omega) (by omega) (wf_11 _ _ _) (TxM_wf x1) (TcM_wf y1) z1 (h1 o1 _ (wf_11 _ _ _) (wf_12 _ _ _) (k1.r.trans Kr_wf)))
theorem q_rpF {K : ab_F → ab_F → Prop} {I A : ab_F} {t : st_T} {T : tok} {c : Nat} (x : TxM t I A) (y : TcM T I) (z : To t T) (e : I 0 11 = nI c) (h1 : 1 ≤ c) (hc : c < 16) (k : K I A) : wX12_readProcess K I A := by
  intro v ev
  have g : wjX12_readProcess_32 K v I A := q_passF e h1 hc (q_wofF e h1 hc (fun v2 => q_numF e h1 hc (fun v3 => q_mustF (by omega) x y z e h1 hc (br_f (ft1 e h1 hc) k))))
  have g21 : wjX12_readProcess_21 K v I A := by
    by_cases c6 : v = nI 6
    · exact rb_t c6 (q_wrongF e h1 hc g)
    · exact rb_f c6 g
  exact q_isW (by omega) x y z (bb' (fun q => q_wrongF e h1 hc g21) (fun q => g21))
theorem q_plp {K : Int32 → ab_F → ab_F → Prop} {t : st_T} : ∀ f n T I A, f + n = 7 → 1 ≤ f → A 3 3 = nI n → TxM t I A → TcM T I → To t T → I 0 11 = 0 → ((p_lp t f n (A 3) T).1.1 = 0 → ∀ I', Kq I I' → wjX12_parseSystem_47 K I' (wrow A 3 (p_lp t f n (A 3) T).2.2)) → ((p_lp t f n (A 3) T).1.1 ≠ 0 → ∀ I' A', I' 0 11 = nI (p_lp t f n (A 3) T).1.1 → I' 0 12 = nI (p_lp t f n (A 3) T).1.2 → (p_lp t f n (A 3) T).1.1 < 16 → Kr I I' → A3 A A' → wjX12_parseSystem_47 K I' A') → wlX12_parseSystem_25 K f I A := by
  intro f
  induction f with
  | zero => intro n T I A hf h1; omega
  | succ f ih =>
    intro n T I A hf hf1 e3 x y z e h0 h1
    refine q_rp (by omega) e3 x y z e (fun q hn I' y' k' => ?_) (fun q I' q1 q2 k' => ?_)
    · have f' := (kq11 k').trans e
      refine rb_t f' ?_
      have a' : A3 A (wrow A 3 (p_rw (A 3) n (nI (p_kd t (n1 t T))) (tv t (n2 t T)))) := fun c q => wrow_ne q
      have x' := TxM_3 (TxM_kq x k') a'
      have z4 : To t (n4 t T) := n1_To (n1_To (n1_To (n1_To z)))
      have hl := x.1
      rw [y'.1, x'.2.1]
      by_cases c0 : (n4 t T).2.2 = 0
      · have el : p_lp t (f + 1) n (A 3) T = ((0, 0), n + 1, p_rw (A 3) n (nI (p_kd t (n1 t T))) (tv t (n2 t T))) := by show (if _ then _ else _) = _; rw [if_neg (fun w => w q), if_pos c0]
        rw [el] at h0
        have := z4.2.2.2.1 c0
        refine br_f (fun w => absurd (nI_le (a := t.2) (b := (n4 t T).1) (by omega) (by omega)) (Int32.not_le.mpr w)) (h0 rfl I' k')
      · have el : p_lp t (f + 1) n (A 3) T = p_lp t f (n + 1) (p_rw (A 3) n (nI (p_kd t (n1 t T))) (tv t (n2 t T))) (n4 t T) := by show (if _ then _ else _) = _; rw [if_neg (fun w => w q), if_neg c0]
        rw [el] at h0 h1
        have hk := (z4.2.2.2.2.1 c0).1
        have hk2 := z4.2.1
        refine br_t (Int32.not_le.mp (nI_ge (by omega) (by omega))) (ih (n + 1) (n4 t T) I' _ (by omega) (by omega) ?_ x' y' z4 f' (fun e I2 k2 => ?_) (fun e I2 A2 p q r k2 a2 => ?_))
        · rw [wrow_at]; exact (rw_at _ _ _ hn).1
        · rw [wrow_wrow, wrow_at]
          rw [wrow_at] at e
          exact h0 e I2 (k'.trans k2)
        · rw [wrow_at] at e p q r
          exact h1 e I2 A2 p q r (k'.r.trans k2) (fun c q => (a2 c q).trans (a' c q))
    · have el : p_lp t (f + 1) n (A 3) T = (p_pr t T n, n, A 3) := if_pos q
      rw [el] at h1
      have hc : (p_pr t T n).1 < 16 := by
        have := p_num_le t (n2 t T) 1 8
        unfold p_pr
        split
        · show 1 < 16; omega
        · split
          · show 3 < 16; omega
          · split
            · show 1 < 16; omega
            · split
              · show p_num t (n2 t T) 1 8 < 16; omega
              · split
                · show 1 < 16; omega
                · show 0 < 16; omega
      exact rb_f (ft0 q1 (by omega) hc) (h1 q I' A q1 q2 hc k' (A3.refl A))
