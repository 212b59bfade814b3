/-! reading one piece of the text; a code, 0 when it is there -/
abbrev n1 (t : st_T) (T : tok) : tok := nt t T.2.1
theorem n1_To {t : st_T} {T : tok} (z : To t T) : To t (n1 t T) := nt_To t z.2.1
/-- a number between lo and hi -/
def p_num (t : st_T) (T : tok) (lo hi : Nat) : Nat := if T.2.2 = 2 then (if T.2.1 - T.1 ≤ 9 then (if nI lo ≤ tv t T ∧ tv t T ≤ nI hi then 0 else 2) else 2) else 1
theorem p_num_le (t : st_T) (T : tok) (lo hi : Nat) : p_num t T lo hi ≤ 2 := by unfold p_num; split <;> (try split) <;> (try split) <;> omega
/-- one of three words -/
def p_w (t : st_T) (T : tok) (a b c : List Int32) : Nat := if tw1 t T a = true then 0 else if tw1 t T b = true then 1 else if tw1 t T c = true then 2 else 3
/-! the class -/
def wf3 (I : ab_F) (c p : Nat) : ab_F := wr (wr I 3 1 (nI c)) 3 2 (nI p)
theorem c_rnum {K : Int32 → ab_F → ab_F → Prop} {I A : ab_F} {t : st_T} {T : tok} {hi : Nat} (x : TxC t I A) (y : TcC T I) (z : To t T) (h0 : p_num t T 1 hi = 0 → ∀ I', TcC (n1 t T) I' → Ko I I' → TxC t I' A → K (tv t T) I' A) (h1 : p_num t T 1 hi ≠ 0 → K (-1) (wf3 I (p_num t T 1 hi) T.1) A) : wX9_readNumber K I A (nI hi) := by
  unfold wX9_readNumber wjX9_readNumber_37 wX9_fail
  rw [y.2.2, nI_eq (by have := z.2.2.1; omega) (by omega)]
  unfold p_num at h0 h1
  by_cases c : T.2.2 = 2
  · rw [if_pos c] at h0 h1
    refine br_t c (c_num x y z (fun q => ?_) (fun q => ?_))
    · rw [if_pos q] at h0 h1
      by_cases c1 : tv t T < nI 1
      · rw [if_neg (fun w => absurd c1 (Int32.not_lt.mpr w.1))] at h1
        refine br_t c1 ?_
        rw [y.1]; exact h1 (by decide)
      · refine br_f c1 ?_
        by_cases c2 : tv t T ≤ nI hi
        · rw [if_pos ⟨Int32.not_lt.mp c1, c2⟩] at h0
          exact br_t c2 (c_next x z.2.1 y.2.1 (fun I' a b d => h0 rfl I' a b d))
        · rw [if_neg (fun w => c2 w.2)] at h1
          refine br_f c2 ?_
          rw [y.1]; exact h1 (by decide)
    · rw [if_neg q] at h1
      refine br_t (by decide) ?_
      rw [y.1]; exact h1 (by decide)
  · rw [if_neg c] at h1
    refine br_f c ?_
    rw [y.1]; exact h1 (by decide)
theorem c_rw {K : Int32 → ab_F → ab_F → Prop} {I A : ab_F} {t : st_T} {T : tok} {i j k : Nat} (hi : i < 66) (hj : j < 66) (hk : k < 66) (x : TxC t I A) (y : TcC T I) (z : To t T) (h0 : p_w t T (ab_st i).2.2.2 (ab_st j).2.2.2 (ab_st k).2.2.2 < 3 → ∀ I', TcC (n1 t T) I' → Ko I I' → TxC t I' A → K (nI (p_w t T (ab_st i).2.2.2 (ab_st j).2.2.2 (ab_st k).2.2.2)) I' A) (h1 : p_w t T (ab_st i).2.2.2 (ab_st j).2.2.2 (ab_st k).2.2.2 = 3 → K (-1) (wf3 I 1 T.1) A) : wX9_readWord K I A i j k := by
  unfold p_w at h0 h1
  have g : ∀ n, n < 3 → (∀ I', TcC (n1 t T) I' → Ko I I' → TxC t I' A → K (nI n) I' A) → wjX9_readWord_51 K (nI n) I A := fun n hn h => rb_f (nI_m1 (by omega)) (c_next x z.2.1 y.2.1 h)
  refine c_isW hi x y z (bb (fun q => ?_) (fun q => ?_))
  · rw [q, if_neg (by decide)] at h0 h1
    refine c_isW hj x y z (bb (fun q => ?_) (fun q => ?_))
    · rw [q, if_neg (by decide)] at h0 h1
      refine c_isW hk x y z (bb (fun q => ?_) (fun q => ?_))
      · rw [q, if_neg (by decide)] at h1
        refine rb_t rfl ?_
        unfold wX9_fail
        rw [y.1]; exact h1 rfl
      · rw [q, if_pos rfl] at h0
        exact g 2 (by omega) (h0 (by omega))
    · rw [q, if_pos rfl] at h0
      exact g 1 (by omega) (h0 (by omega))
  · rw [q, if_pos rfl] at h0
    exact g 0 (by omega) (h0 (by omega))
theorem c_semi {K : Int32 → ab_F → ab_F → Prop} {I A : ab_F} {t : st_T} {T : tok} (x : TxC t I A) (y : TcC T I) (z : To t T) (h0 : T.2.2 = 3 → ∀ I', TcC (n1 t T) I' → Ko I I' → TxC t I' A → K (nI 1) I' A) (h1 : T.2.2 ≠ 3 → K (nI 0) (wf3 I 1 T.1) A) : wX9_readSemicolon K I A := by
  unfold wX9_readSemicolon wX9_fail
  rw [y.2.2, nI_eq (by have := z.2.2.1; omega) (by omega)]
  by_cases c : T.2.2 = 3
  · exact br_t c (c_next x z.2.1 y.2.1 (h0 c))
  · refine br_f c ⟨rfl, ?_⟩
    rw [y.1]; exact h1 c
/-! the reference -/
def wf (I : ab_F) (c p : Nat) : ab_F := wr (wr I 0 11 (nI c)) 0 12 (nI p)
theorem wf_11 (I : ab_F) (c p : Nat) : wf I c p 0 11 = nI c := (wr_nei (by omega)).trans (wr_ate _ _ _ _)
theorem wf_12 (I : ab_F) (c p : Nat) : wf I c p 0 12 = nI p := wr_ate _ _ _ _
theorem wf_ne {I : ab_F} {c p i : Nat} (h1 : i ≠ 11) (h2 : i ≠ 12) : wf I c p 0 i = I 0 i := (wr_nei h2).trans (wr_nei h1)
theorem wf_nc {I : ab_F} {c p d : Nat} (h : d ≠ 0) : wf I c p d = I d := (wr_ne h).trans (wr_ne h)
theorem TxM_wf {t : st_T} {I A : ab_F} {c p : Nat} (x : TxM t I A) : TxM t (wf I c p) A := ⟨x.1, (wf_ne (by omega) (by omega)).trans x.2.1, x.2.2⟩
theorem TcM_wf {T : tok} {I : ab_F} {c p : Nat} (x : TcM T I) : TcM T (wf I c p) := ⟨(wf_ne (by omega) (by omega)).trans x.1, (wf_ne (by omega) (by omega)).trans x.2⟩
theorem ft0 {v : Int32} {c : Nat} (e : v = nI c) (h : 1 ≤ c) (hc : c < 16) : ¬ v = 0 := by
  subst e; exact fun q => absurd ((nI_eq (a := c) (b := 0) (by omega) (by omega)).mp q) (by omega)
theorem ft1 {v : Int32} {c : Nat} (e : v = nI c) (h : 1 ≤ c) (hc : c < 16) : ¬ v ≤ 0 := by
  subst e; exact nI_ge (a := 0) (by omega) (by omega)
theorem f0_le {v : Int32} (e : v = 0) : v ≤ 0 := by subst e; decide
theorem q_wrong {K : ab_F → ab_F → Prop} {I A : ab_F} {v : Int32} {c a : Nat} (e : I 0 11 = 0) (ev : v = nI c) (e8 : I 0 8 = nI a) (h : K (wf I c a) A) : wX12_wrong K I A v := by
  subst ev
  refine br_t (f0_le e) ?_
  rw [e8]; exact h
theorem q_wrongF {K : ab_F → ab_F → Prop} {I A : ab_F} {v : Int32} {c : Nat} (e : I 0 11 = nI c) (h1 : 1 ≤ c) (hc : c < 16) (h : K I A) : wX12_wrong K I A v := br_f (ft1 e h1 hc) h
theorem q_pass {K : ab_F → ab_F → Prop} {I A : ab_F} {t : st_T} {T : tok} (x : TxM t I A) (y : TcM T I) (z : To t T) (e : I 0 11 = 0) (h : ∀ I', TcM (n1 t T) I' → Kq I I' → TxM t I' A → K I' A) : wX12_pass K I A := rb_t e (q_next x z.2.1 y.2 h)
theorem q_passF {K : ab_F → ab_F → Prop} {I A : ab_F} {c : Nat} (e : I 0 11 = nI c) (h1 : 1 ≤ c) (hc : c < 16) (h : K I A) : wX12_pass K I A := rb_f (ft0 e h1 hc) h
theorem q_must {K : ab_F → ab_F → Prop} {I A : ab_F} {t : st_T} {T : tok} {i : Nat} (hi : i < 66) (x : TxM t I A) (y : TcM T I) (z : To t T) (e : I 0 11 = 0) (h0 : iw t T.1 T.2.1 (ab_st i).2.2.2 = true → ∀ I', TcM (n1 t T) I' → Kq I I' → TxM t I' A → K I' A) (h1 : iw t T.1 T.2.1 (ab_st i).2.2.2 = false → K (wf I 1 T.1) A) : wX12_must K I A i := by
  refine q_isW hi x y z (bb' (fun q => ?_) (fun q => ?_))
  · exact q_wrong (c := 1) e rfl y.1 (q_passF (wf_11 I 1 T.1) (by omega) (by omega) (h1 q))
  · exact q_pass x y z e (h0 q)
theorem q_mustF {K : ab_F → ab_F → Prop} {I A : ab_F} {t : st_T} {T : tok} {i c : Nat} (hi : i < 66) (x : TxM t I A) (y : TcM T I) (z : To t T) (e : I 0 11 = nI c) (hc1 : 1 ≤ c) (hc : c < 16) (h : K I A) : wX12_must K I A i := by
  refine q_isW hi x y z (bb' (fun q => ?_) (fun q => ?_))
  · exact q_wrongF e hc1 hc (q_passF e hc1 hc h)
  · exact q_passF e hc1 hc h
theorem q_wof {K : Int32 → ab_F → ab_F → Prop} {I A : ab_F} {t : st_T} {T : tok} {i j k : Nat} (hi : i < 66) (hj : j < 66) (hk : k < 66) (ei : iw t T.1 T.2.1 (ab_st i).2.2.2 = tw1 t T (ab_st i).2.2.2) (ej : iw t T.1 T.2.1 (ab_st j).2.2.2 = tw1 t T (ab_st j).2.2.2) (ek : iw t T.1 T.2.1 (ab_st k).2.2.2 = tw1 t T (ab_st k).2.2.2) (x : TxM t I A) (y : TcM T I) (z : To t T) (e : I 0 11 = 0) (h0 : p_w t T (ab_st i).2.2.2 (ab_st j).2.2.2 (ab_st k).2.2.2 < 3 → ∀ I', TcM (n1 t T) I' → Kq I I' → TxM t I' A → K (nI (p_w t T (ab_st i).2.2.2 (ab_st j).2.2.2 (ab_st k).2.2.2)) I' A) (h1 : p_w t T (ab_st i).2.2.2 (ab_st j).2.2.2 (ab_st k).2.2.2 = 3 → ∀ v, K v (wf I 1 T.1) A) : wX12_wordOf K I A i j k := by
  unfold p_w at h0 h1
  have g : ∀ n, n < 3 → (∀ I', TcM (n1 t T) I' → Kq I I' → TxM t I' A → K (nI n) I' A) → wjX12_wordOf_46 K (nI n) I A := fun n hn h => rb_f (nI_m1 (by omega)) (q_pass x y z e h)
  refine br_t (f0_le e) (q_isW hi x y z ?_)
  rw [ei]
  refine bb (fun q => ?_) (fun q => ?_)
  · rw [q, if_neg (by decide)] at h0 h1
    refine q_isW hj x y z ?_
    rw [ej]
    refine bb (fun q => ?_) (fun q => ?_)
    · rw [q, if_neg (by decide)] at h0 h1
      refine q_isW hk x y z ?_
      rw [ek]
      refine bb (fun q => ?_) (fun q => ?_)
      · rw [q, if_neg (by decide)] at h1
        exact rb_t rfl (q_wrong (c := 1) e rfl y.1 (q_passF (wf_11 I 1 T.1) (by omega) (by omega) (h1 rfl _)))
      · rw [q, if_pos rfl] at h0
        exact g 2 (by omega) (h0 (by omega))
    · rw [q, if_pos rfl] at h0
      exact g 1 (by omega) (h0 (by omega))
  · rw [q, if_pos rfl] at h0
    exact g 0 (by omega) (h0 (by omega))
theorem q_wofF {K : Int32 → ab_F → ab_F → Prop} {I A : ab_F} {i j k c : Nat} (e : I 0 11 = nI c) (hc1 : 1 ≤ c) (hc : c < 16) (h : ∀ v, K v I A) : wX12_wordOf K I A i j k := br_f (ft1 e hc1 hc) (h _)
theorem q_numF {K : Int32 → ab_F → ab_F → Prop} {I A : ab_F} {p q : Int32} {c : Nat} (e : I 0 11 = nI c) (hc1 : 1 ≤ c) (hc : c < 16) (h : ∀ v, K v I A) : wX12_number K I A p q := br_f (ft1 e hc1 hc) (h _)
theorem dig_k {t : st_T} {T : tok} (z : To t T) : decide (tk (bq t T.1) = 2) = decide (T.2.2 = 2) := by
  by_cases c : T.2.2 = 0
  · have := (z.2.2.2.1 c).1
    rw [bq_ge (by omega), c]; decide
  · have k := z.2.2.2.2.1 c
    rw [bq_lt (by have := z.2.1; omega), k.2]
theorem q_num {K : Int32 → ab_F → ab_F → Prop} {I A : ab_F} {t : st_T} {T : tok} {lo hi : Nat} (x : TxM t I A) (y : TcM T I) (z : To t T) (e : I 0 11 = 0) (h0 : p_num t T lo hi = 0 → ∀ I', TcM (n1 t T) I' → Kq I I' → TxM t I' A → K (tv t T) I' A) (h1 : p_num t T lo hi ≠ 0 → ∀ v, K v (wf I (p_num t T lo hi) T.1) A) : wX12_number K I A (nI lo) (nI hi) := by
  have hl := x.1
  have hz1 := z.1
  have hz2 := z.2.1
  have g112 : ∀ c v, 1 ≤ c → c < 16 → (∀ v, K v (wf I c T.1) A) → wjX12_number_112 K v (wf I c T.1) A := fun c v a b h => q_passF (wf_11 I c T.1) a b (h v)
  have g43 : ∀ c, 1 ≤ c → c < 16 → (∀ v, K v (wf I c T.1) A) → wjX12_number_43 K (nI lo) (nI hi) (wf I c T.1) A := fun c a b h v ev => by
    refine ⟨1, ?_⟩
    unfold wlX12_number_51
    have f := ft0 (wf_11 I c T.1) a b
    by_cases d : (wf I c T.1) 0 9 ≤ v
    · exact br_t d (rb_f f (g112 c _ a b h))
    · exact br_f d (rb_f f (rb_f f (g112 c _ a b h)))
  refine br_t (f0_le e) ?_
  unfold wX12_isDigit
  refine q_byte x y.1 (by omega) (q_dig ⟨bI_n _, ?_⟩)
  rw [dig_k z]
  unfold p_num at h0 h1
  refine bb' (fun q => ?_) (fun q => ?_)
  · rw [if_neg (of_decide_eq_false q)] at h1
    exact q_wrong (c := 1) e rfl y.1 (g43 1 (by omega) (by omega) (h1 (by decide)))
  · rw [if_pos (of_decide_eq_true q)] at h0 h1
    rw [y.1, y.2, nI_sb z.1]
    by_cases c : T.2.1 - T.1 ≤ 9
    · rw [if_pos c] at h0 h1
      refine br_t (nI_le c (by omega)) (fun v ev => ?_)
      rw [y.1] at ev
      subst ev
      refine ⟨_, q_num51 x y z e (T.2.1 - T.1) T.1 (nI 0) (by omega) (rb_t e (q_in ?_))⟩
      rw [Int32.toInt_toInt64, Int32.toInt_toInt64, Int32.toInt_toInt64, show decide ((nI lo).toInt ≤ (tv t T).toInt ∧ (tv t T).toInt ≤ (nI hi).toInt) = decide (nI lo ≤ tv t T ∧ tv t T ≤ nI hi) from decide_eq_decide.mpr (by rw [Int32.le_iff_toInt_le, Int32.le_iff_toInt_le])]
      refine bb' (fun q => ?_) (fun q => ?_)
      · rw [if_neg (of_decide_eq_false q)] at h1
        exact q_wrong (c := 2) e rfl y.1 (g112 2 _ (by omega) (by omega) (h1 (by decide)))
      · rw [if_pos (of_decide_eq_true q)] at h0
        exact q_pass x y z e (h0 rfl)
    · rw [if_neg c] at h1
      refine br_f (nI_ge (by omega) (by omega)) ?_
      exact q_wrong (c := 2) e rfl y.1 (g43 2 (by omega) (by omega) (h1 (by decide)))
