/-! the tokens, the reference -/
def TxM (t : st_T) (I A : ab_F) : Prop := t.2 ≤ 400 ∧ I 0 10 = nI t.2 ∧ ∀ i, i < t.2 → A 5 i &&& nI 255 = t.1 i
def TcM (T : tok) (I : ab_F) : Prop := I 0 8 = nI T.1 ∧ I 0 9 = nI T.2.1
def Kq (I I' : ab_F) : Prop := ∀ c i, (c = 0 → i ≠ 8 ∧ i ≠ 9) → I' c i = I c i
theorem Kq.refl (I : ab_F) : Kq I I := fun _ _ _ => rfl
theorem Kq.trans {I I' I'' : ab_F} (h : Kq I I') (g : Kq I' I'') : Kq I I'' := fun c i q => (g c i q).trans (h c i q)
theorem Kq_w {I : ab_F} {i : Nat} {v : Int32} (h : i = 8 ∨ i = 9) : Kq I (wr I 0 i v) := fun c j q => by
  by_cases e : c = 0
  · subst e; exact wr_nei (by have := q rfl; omega)
  · exact congrFun (wr_ne e) j
theorem TxM_kq {t : st_T} {I I' A : ab_F} (h : TxM t I A) (k : Kq I I') : TxM t I' A := ⟨h.1, (k 0 10 (fun _ => by omega)).trans h.2.1, h.2.2⟩
def bq (t : st_T) (i : Nat) : Int32 := if i < t.2 then t.1 i else -1
theorem bq_lt {t : st_T} {i : Nat} (h : i < t.2) : bq t i = t.1 i := if_pos h
theorem bq_ge {t : st_T} {i : Nat} (h : t.2 ≤ i) : bq t i = -1 := if_neg (by omega)
theorem q_byte {K : Int32 → ab_F → ab_F → Prop} {I A : ab_F} {t : st_T} {i : Nat} {v : Int32} (x : TxM t I A) (ev : v = nI i) (hi : i < 2 ^ 31) (h : K (bq t i) I A) : wX12_byteAt K I A v := by
  have hl := x.1
  subst ev
  unfold wX12_byteAt
  rw [x.2.1]
  by_cases c : i < t.2
  · refine br_f (nI_ge c (by omega)) (ix0 (by omega) ?_)
    rw [x.2.2 i c, ← bq_lt c]; exact h
  · rw [bq_ge (by omega)] at h
    exact br_t (nI_le (by omega) (by omega)) h
theorem tk_1 (x : Int32) : tk x = 1 ↔ (97 : Int) ≤ x.toInt ∧ x.toInt ≤ 122 := by
  have e : (nI 97 ≤ x ∧ x ≤ nI 122) ↔ (97 : Int) ≤ x.toInt ∧ x.toInt ≤ 122 := by
    rw [Int32.le_iff_toInt_le, Int32.le_iff_toInt_le]
    exact Iff.rfl
  rw [← e]
  unfold tk
  constructor
  · intro h
    by_cases c : nI 97 ≤ x ∧ x ≤ nI 122
    · exact c
    · rw [if_neg c] at h; revert h; split <;> (try split) <;> intro h <;> omega
  · intro h; rw [if_pos h]
theorem tk_2 (x : Int32) : tk x = 2 ↔ (48 : Int) ≤ x.toInt ∧ x.toInt ≤ 57 := by
  have e : (nI 48 ≤ x ∧ x ≤ nI 57) ↔ (48 : Int) ≤ x.toInt ∧ x.toInt ≤ 57 := by
    rw [Int32.le_iff_toInt_le, Int32.le_iff_toInt_le]
    exact Iff.rfl
  have e1 : (nI 97 ≤ x ∧ x ≤ nI 122) ↔ (97 : Int) ≤ x.toInt ∧ x.toInt ≤ 122 := by
    rw [Int32.le_iff_toInt_le, Int32.le_iff_toInt_le]
    exact Iff.rfl
  unfold tk
  constructor
  · intro h
    by_cases c1 : nI 97 ≤ x ∧ x ≤ nI 122
    · rw [if_pos c1] at h; omega
    · rw [if_neg c1] at h
      by_cases c : nI 48 ≤ x ∧ x ≤ nI 57
      · exact e.mp c
      · rw [if_neg c] at h; revert h; split <;> intro h <;> omega
  · intro h; rw [if_neg (fun q => by have := e1.mp q; omega), if_pos (e.mpr h)]
theorem q_let {K : Int32 → ab_F → ab_F → Prop} {I A : ab_F} {x : Int32} (h : K (bI (decide (tk x = 1))) I A) : wX12_in K I A x.toInt64 (97 : Int64) (122 : Int64) := by
  refine q_in ?_
  rw [Int32.toInt_toInt64, show (97 : Int64).toInt = 97 from rfl, show (122 : Int64).toInt = 122 from rfl]
  rw [show decide (tk x = 1) = decide ((97 : Int) ≤ x.toInt ∧ x.toInt ≤ 122) from decide_eq_decide.mpr (tk_1 x)] at h
  exact h
theorem q_dig {K : Int32 → ab_F → ab_F → Prop} {I A : ab_F} {x : Int32} (h : K (bI (decide (tk x = 2))) I A) : wX12_in K I A x.toInt64 (48 : Int64) (57 : Int64) := by
  refine q_in ?_
  rw [Int32.toInt_toInt64, show (48 : Int64).toInt = 48 from rfl, show (57 : Int64).toInt = 57 from rfl]
  rw [show decide (tk x = 2) = decide ((48 : Int) ≤ x.toInt ∧ x.toInt ≤ 57) from decide_eq_decide.mpr (tk_2 x)] at h
  exact h
theorem q_g1 {K : ab_F → ab_F → Prop} {A : ab_F} {t : st_T} : ∀ m j I, j + m = t.2 → TxM t I A → I 0 9 = nI j → (∀ I', I' 0 9 = nI (gw t 1 m j) → I' 0 8 = I 0 8 → Kq I I' → K I' A) → wlX12_next_76 K (m + 1) I A := by
  intro m
  induction m with
  | zero =>
    intro j I hj x e9 h
    have hl := x.1
    refine q_byte x e9 (by omega) (q_let ?_)
    rw [bq_ge (by omega)]
    exact br_t (by decide) (h I e9 rfl (Kq.refl I))
  | succ m ih =>
    intro j I hj x e9 h
    have hl := x.1
    refine q_byte x e9 (by omega) (q_let ?_)
    rw [bq_lt (by omega)]
    refine bb (fun q => h I ?_ rfl (Kq.refl I)) (fun q => ?_)
    · rw [e9]; exact congrArg nI (if_neg (of_decide_eq_false q)).symm
    · rw [e9, nI_add j 1]
      have ko : Kq I (wr I 0 9 (nI (j + 1))) := Kq_w (by omega)
      refine ih (j + 1) _ (by omega) (TxM_kq x ko) (wr_ate _ _ _ _) (fun I' a d g => h I' ?_ (d.trans (wr_nei (by omega))) (ko.trans g))
      rw [a]; exact congrArg nI (if_pos (of_decide_eq_true q)).symm
theorem q_g2 {K : ab_F → ab_F → Prop} {A : ab_F} {t : st_T} : ∀ m j I, j + m = t.2 → TxM t I A → I 0 9 = nI j → (∀ I', I' 0 9 = nI (gw t 2 m j) → I' 0 8 = I 0 8 → Kq I I' → K I' A) → wlX12_next_131 K (m + 1) I A := by
  intro m
  induction m with
  | zero =>
    intro j I hj x e9 h
    have hl := x.1
    refine q_byte x e9 (by omega) (q_dig ?_)
    rw [bq_ge (by omega)]
    exact br_t (by decide) (h I e9 rfl (Kq.refl I))
  | succ m ih =>
    intro j I hj x e9 h
    have hl := x.1
    refine q_byte x e9 (by omega) (q_dig ?_)
    rw [bq_lt (by omega)]
    refine bb (fun q => h I ?_ rfl (Kq.refl I)) (fun q => ?_)
    · rw [e9]; exact congrArg nI (if_neg (of_decide_eq_false q)).symm
    · rw [e9, nI_add j 1]
      have ko : Kq I (wr I 0 9 (nI (j + 1))) := Kq_w (by omega)
      refine ih (j + 1) _ (by omega) (TxM_kq x ko) (wr_ate _ _ _ _) (fun I' a d g => h I' ?_ (d.trans (wr_nei (by omega))) (ko.trans g))
      rw [a]; exact congrArg nI (if_pos (of_decide_eq_true q)).symm
theorem gw_1 {t : st_T} {k a : Nat} (h : tk (t.1 a) = k) (ha : a < t.2) : gw t k (t.2 - a) a = gw t k (t.2 - (a + 1)) (a + 1) := by
  rw [show t.2 - a = (t.2 - (a + 1)) + 1 by omega]; exact if_pos h
theorem q_next {K : ab_F → ab_F → Prop} {I A : ab_F} {t : st_T} {b : Nat} (x : TxM t I A) (hb : b ≤ t.2) (e9 : I 0 9 = nI b) (h : ∀ I', TcM (nt t b) I' → Kq I I' → TxM t I' A → K I' A) : wX12_next K I A := by
  have hl := x.1
  have g60 : ∀ a J (K1 : ab_F → ab_F → Prop), a ≤ t.2 → J 0 8 = nI a → Kq I J → (∀ I', TcM (if t.2 ≤ a then (a, a, 0) else (a, if tk (t.1 a) ≤ 2 then gw t (tk (t.1 a)) (t.2 - (a + 1)) (a + 1) else a + 1, tk (t.1 a))) I' → Kq J I' → K1 I' A) → wX12_byteAt (fun r_9 I_7 A_8 => wX12_in (fun r_12 I_10 A_11 => ((r_12 = 0 → wX12_byteAt (fun r_15 I_13 A_14 => wX12_in (fun r_18 I_16 A_17 => ((r_18 = 0 → (((I_16 0 10) ≤ (I_16 0 9) → K1 I_16 A_17) ∧ (¬ (I_16 0 10) ≤ (I_16 0 9) → K1 (wr I_16 0 9 ((I_16 0 9) + (nI 1))) A_17))) ∧ (¬ r_18 = 0 → (∃ nf : Nat, wlX12_next_131 K1 nf  I_16 A_17)))) I_13 A_14 ((r_15).toInt64) (48 : Int64) (57 : Int64)) I_10 A_11 (I_10 0 9)) ∧ (¬ r_12 = 0 → (∃ nf : Nat, wlX12_next_76 K1 nf  I_10 A_11)))) I_7 A_8 ((r_9).toInt64) (97 : Int64) (122 : Int64)) (wr J 0 9 (J 0 8)) A (J 0 8) := by
    intro a J K1 ha e8 ko h
    rw [e8]
    have kj : Kq J (wr J 0 9 (nI a)) := Kq_w (by omega)
    have x' := TxM_kq (TxM_kq x ko) kj
    have f8 : (wr J 0 9 (nI a)) 0 8 = nI a := (wr_nei (by omega)).trans e8
    have f9 : (wr J 0 9 (nI a)) 0 9 = nI a := wr_ate _ _ _ _
    refine q_byte x' rfl (by omega) (q_let (bb (fun q => ?_) (fun q => ?_)))
    · have q1 := of_decide_eq_false q
      refine q_byte x' f9 (by omega) (q_dig (bb (fun q => ?_) (fun q => ?_)))
      · have q2 := of_decide_eq_false q
        rw [x'.2.1, f9]
        by_cases c : t.2 ≤ a
        · refine br_t (nI_le c (by omega)) (h _ ?_ kj)
          rw [if_pos c]; exact ⟨f8, f9⟩
        · refine br_f (nI_ge (by omega) (by omega)) (h _ ?_ (kj.trans (Kq_w (by omega))))
          rw [bq_lt (by omega)] at q1 q2
          have hr := tk_r (t.1 a)
          rw [if_neg c, if_neg (by omega), nI_add a 1]
          exact ⟨(wr_nei (by omega)).trans f8, wr_ate _ _ _ _⟩
      · have q2 := of_decide_eq_true q
        have c : a < t.2 := by
          by_cases c : a < t.2
          · exact c
          · rw [bq_ge (by omega)] at q2; exact absurd q2 (by decide)
        rw [bq_lt c] at q2
        refine ⟨_, q_g2 (t.2 - a) a _ (by omega) x' f9 (fun I' p9 p8 g => h I' ?_ (kj.trans g))⟩
        rw [if_neg (by omega), if_pos (by omega), q2, ← gw_1 q2 c]
        exact ⟨p8.trans f8, p9⟩
    · have q1 := of_decide_eq_true q
      have c : a < t.2 := by
        by_cases c : a < t.2
        · exact c
        · rw [bq_ge (by omega)] at q1; exact absurd q1 (by decide)
      rw [bq_lt c] at q1
      refine ⟨_, q_g1 (t.2 - a) a _ (by omega) x' f9 (fun I' p9 p8 g => h I' ?_ (kj.trans g))⟩
      rw [if_neg (by omega), if_pos (by omega), q1, ← gw_1 q1 c]
      exact ⟨p8.trans f8, p9⟩
  have g8 : ∀ m i J, i + m = t.2 → J 0 8 = nI i → Kq I J → (∀ I', TcM (if t.2 ≤ sk t m i then (sk t m i, sk t m i, 0) else (sk t m i, if tk (t.1 (sk t m i)) ≤ 2 then gw t (tk (t.1 (sk t m i))) (t.2 - (sk t m i + 1)) (sk t m i + 1) else sk t m i + 1, tk (t.1 (sk t m i)))) I' → Kq I I' → K I' A) → wlX12_next_8 K (m + 1) J A := by
    intro m
    induction m with
    | zero =>
      intro i J hi e8 ko h
      have x' := TxM_kq x ko
      unfold wlX12_next_8
      refine q_byte x' e8 (by omega) ?_
      rw [bq_ge (by omega)]
      refine br_f (by decide) (q_byte x' e8 (by omega) ?_)
      rw [bq_ge (by omega)]
      refine rb_f (by decide) (g60 i J K (by omega) e8 ko (fun I' a g => h I' a (ko.trans g)))
    | succ m ih =>
      intro i J hi e8 ko h
      have x' := TxM_kq x ko
      unfold wlX12_next_8
      have go : bk (t.1 i) = true → wjX12_next_34 K (wlX12_next_8 K (m + 1)) J A := fun q => by
        unfold wjX12_next_34
        rw [e8, nI_add i 1]
        have ko1 : Kq J (wr J 0 8 (nI (i + 1))) := Kq_w (by omega)
        have es : sk t (m + 1) i = sk t m (i + 1) := if_pos q
        rw [es] at h
        exact ih (i + 1) _ (by omega) (wr_ate _ _ _ _) (ko.trans ko1) h
      refine q_byte x' e8 (by omega) ?_
      rw [bq_lt (by omega)]
      by_cases c1 : t.1 i = nI 32
      · exact br_t c1 (go (by unfold bk; rw [decide_eq_true c1]; rfl))
      · refine br_f c1 (q_byte x' e8 (by omega) ?_)
        rw [bq_lt (by omega)]
        by_cases c2 : t.1 i = nI 10
        · exact rb_t c2 (go (by unfold bk; rw [decide_eq_true c2, Bool.or_true]))
        · refine rb_f c2 (g60 i J K (by omega) e8 ko ?_)
          have es : sk t (m + 1) i = i := if_neg (by unfold bk; rw [decide_eq_false c1, decide_eq_false c2]; decide)
          rw [es] at h
          exact fun I' a g => h I' a (ko.trans g)
  refine ⟨_, g8 (t.2 - b) b _ (by omega) ?_ (Kq_w (by omega)) (fun I' a g => h I' a g (TxM_kq x g))⟩
  rw [wr_ate]; exact e9
