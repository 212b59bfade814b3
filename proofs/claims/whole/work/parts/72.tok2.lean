/-! words and numbers of the text -/
/-- the bytes from a to b are these -/
def iw (t : st_T) (a b : Nat) (s : List Int32) : Bool := decide (b - a = s.length ∧ ∀ i, i < s.length → t.1 (a + i) = s.getD i 0)
theorem iw_t {t : st_T} {a b : Nat} {s : List Int32} (h : iw t a b s = true) : b - a = s.length ∧ ∀ i, i < s.length → t.1 (a + i) = s.getD i 0 := of_decide_eq_true h
theorem iw_f {t : st_T} {a b : Nat} {s : List Int32} (h : ¬ (b - a = s.length ∧ ∀ i, i < s.length → t.1 (a + i) = s.getD i 0)) : iw t a b s = false := decide_eq_false h
theorem iw_m {t : st_T} {a b : Nat} {s : List Int32} (h : b - a = s.length ∧ ∀ i, i < s.length → t.1 (a + i) = s.getD i 0) : iw t a b s = true := decide_eq_true h
/-- the token is this word -/
def tw1 (t : st_T) (T : tok) (s : List Int32) : Bool := decide (T.2.2 = 1) && iw t T.1 T.2.1 s
theorem c_isW {K : Int32 → ab_F → ab_F → Prop} {I A : ab_F} {t : st_T} {T : tok} {i : Nat} (hi : i < 66) (x : TxC t I A) (y : TcC T I) (z : To t T) (h : K (bI (tw1 t T (ab_st i).2.2.2)) I A) : wX10_isWord K I A i := by
  have hl := x.1
  have hs := (ab_stlen i hi).1
  have hz1 := z.1
  have hz2 := z.2.1
  unfold wX10_isWord
  rw [y.2.2, y.1, y.2.1, nI_eq (by have := z.2.2.1; omega) (by omega)]
  unfold tw1 at h
  by_cases c : T.2.2 = 1
  · rw [decide_eq_true c, Bool.true_and] at h
    refine rb_t c ⟨hi, ?_⟩
    show ((nI T.2.1 - nI T.1) = nI (ab_st i).2.2.2.length → _) ∧ _
    rw [nI_sb z.1, nI_eq (by omega) (by omega)]
    by_cases c2 : T.2.1 - T.1 = (ab_st i).2.2.2.length
    · refine br_t c2 ?_
      have g : ∀ m j, j + m = (ab_st i).2.2.2.length → (∀ k, k < j → t.1 (T.1 + k) = (ab_st i).2.2.2.getD k 0) → wlX10_isWord_28 K (m + 1) i (nI j) I A := by
        intro m
        induction m with
        | zero =>
          intro j hj hh
          refine ⟨hi, br_t (nI_le (by omega) (by omega)) ?_⟩
          rw [iw_m ⟨c2, fun k hk => hh k (by omega)⟩] at h; exact h
        | succ m ih =>
          intro j hj hh
          refine ⟨hi, br_f (nI_ge (by omega) (by omega)) ?_⟩
          rw [y.1, nI_add T.1 j]
          refine ix0 (by omega) ⟨hi, ix0 (by omega) ?_⟩
          rw [x.2.2 (T.1 + j) (by omega)]
          by_cases c3 : t.1 (T.1 + j) = (ab_st i).2.2.2.getD j 0
          · refine br_t c3 ?_
            rw [nI_add j 1]
            refine ih (j + 1) (by omega) (fun k hk => ?_)
            by_cases e : k = j
            · rw [e]; exact c3
            · exact hh k (by omega)
          · refine br_f c3 ?_
            rw [iw_f (fun q => c3 (q.2 j (by omega)))] at h; exact h
      exact ⟨_, g (ab_st i).2.2.2.length 0 (by omega) (fun k hk => by omega)⟩
    · refine br_f c2 ?_
      rw [iw_f (fun q => c2 q.1)] at h; exact h
  · rw [decide_eq_false c, Bool.false_and] at h
    exact rb_f c h
theorem q_isW {K : Int32 → ab_F → ab_F → Prop} {I A : ab_F} {t : st_T} {T : tok} {i : Nat} (hi : i < 66) (x : TxM t I A) (y : TcM T I) (z : To t T) (h : K (bI (iw t T.1 T.2.1 (ab_st i).2.2.2)) I A) : wX12_isWord K I A i := by
  have hl := x.1
  have hs := (ab_stlen i hi).1
  have hz1 := z.1
  have hz2 := z.2.1
  refine ⟨hi, ?_⟩
  show (¬ (I 0 9 - I 0 8) = nI (ab_st i).2.2.2.length → _) ∧ _
  rw [y.1, y.2, nI_sb z.1, nI_eq (by omega) (by omega)]
  have gn : ∀ j, iw t T.1 T.2.1 (ab_st i).2.2.2 = false → wlX12_isWord_24 K 1 i (nI 0) (nI j) I A := fun j q => by
    rw [q] at h
    refine ⟨hi, ?_⟩
    by_cases c : nI (ab_st i).2.2.2.length ≤ nI j
    · exact br_t c ⟨rfl, h⟩
    · exact br_f c (br_t rfl ⟨rfl, h⟩)
  by_cases c2 : T.2.1 - T.1 = (ab_st i).2.2.2.length
  · refine rb_t c2 ?_
    have g : ∀ m j, j + m = (ab_st i).2.2.2.length → (∀ k, k < j → t.1 (T.1 + k) = (ab_st i).2.2.2.getD k 0) → wlX12_isWord_24 K (m + 1) i (nI 1) (nI j) I A := by
      intro m
      induction m with
      | zero =>
        intro j hj hh
        refine ⟨hi, br_t (nI_le (by omega) (by omega)) ⟨rfl, ?_⟩⟩
        rw [iw_m ⟨c2, fun k hk => hh k (by omega)⟩] at h; exact h
      | succ m ih =>
        intro j hj hh
        refine ⟨hi, br_f (nI_ge (by omega) (by omega)) (br_f (by decide) ?_)⟩
        rw [y.1, nI_add T.1 j]
        refine q_byte x rfl (by omega) ⟨hi, ix0 (by omega) ?_⟩
        rw [bq_lt (by omega)]
        by_cases c3 : t.1 (T.1 + j) = (ab_st i).2.2.2.getD j 0
        · refine rb_t c3 ?_
          rw [nI_add j 1]
          refine ih (j + 1) (by omega) (fun k hk => ?_)
          by_cases e : k = j
          · rw [e]; exact c3
          · exact hh k (by omega)
        · refine rb_f c3 ?_
          rw [nI_add j 1]
          have q := iw_f (t := t) (a := T.1) (b := T.2.1) (s := (ab_st i).2.2.2) (fun q => c3 (q.2 j (by omega)))
          have q1 := gn (j + 1) q
          cases m with
          | zero => exact q1
          | succ m =>
            rw [q] at h
            refine ⟨hi, ?_⟩
            by_cases c : nI (ab_st i).2.2.2.length ≤ nI (j + 1)
            · exact br_t c ⟨rfl, h⟩
            · exact br_f c (br_t rfl ⟨rfl, h⟩)
    exact ⟨_, g (ab_st i).2.2.2.length 0 (by omega) (fun k hk => by omega)⟩
  · exact rb_f c2 ⟨1, gn 0 (iw_f (fun q => c2 q.1))⟩
/-- a word of letters is a token of the kind 1 -/
theorem iw_1 {t : st_T} {T : tok} {s : List Int32} (z : To t T) (h1 : 0 < s.length) (h2 : tk (s.getD 0 0) = 1) : iw t T.1 T.2.1 s = tw1 t T s := by
  unfold tw1
  by_cases c : iw t T.1 T.2.1 s = true
  · have q := iw_t c
    have q0 := q.2 0 h1
    have k0 : T.2.2 ≠ 0 := fun e => by have := z.2.2.2.1 e; omega
    have k1 := (z.2.2.2.2.1 k0).2
    rw [Nat.add_zero] at q0
    rw [q0, h2] at k1
    rw [decide_eq_true k1.symm, Bool.true_and]
  · rw [Bool.not_eq_true] at c
    rw [c, Bool.and_false]
/-- a semicolon is the token of the kind 3 -/
theorem iw_3 {t : st_T} {T : tok} (z : To t T) : iw t T.1 T.2.1 [59] = decide (T.2.2 = 3) := by
  by_cases c : T.2.2 = 3
  · rw [decide_eq_true c]
    have q1 := z.2.2.2.2.2.2 (by omega)
    have q2 := (z.2.2.2.2.1 (by omega)).2
    refine iw_m ⟨by show T.2.1 - T.1 = 1; omega, fun i hi => ?_⟩
    have : i = 0 := by have : i < 1 := hi; omega
    subst this
    rw [Nat.add_zero]
    rw [c] at q2
    unfold tk at q2
    show t.1 T.1 = nI 59
    by_cases d : t.1 T.1 = nI 59
    · exact d
    · rw [if_neg d] at q2
      revert q2; split <;> (try split) <;> intro q2 <;> omega
  · rw [decide_eq_false c]
    refine iw_f (fun q => c ?_)
    have q0 := q.2 0 (by decide)
    rw [Nat.add_zero] at q0
    have hl : T.2.1 - T.1 = 1 := q.1
    have k0 : T.2.2 ≠ 0 := fun e => by have := z.2.2.2.1 e; omega
    have k1 := (z.2.2.2.2.1 k0).2
    rw [q0] at k1
    rw [← k1]; decide
/-- the number that the digits write -/
def nv (t : st_T) : Nat → Nat → Int32 → Int32
  | 0, _, v => v
  | m + 1, j, v => nv t m (j + 1) (((nI 10 * v) + t.1 j) - nI 48)
abbrev tv (t : st_T) (T : tok) : Int32 := nv t (T.2.1 - T.1) T.1 (nI 0)
theorem c_num {K : Int32 → ab_F → ab_F → Prop} {I A : ab_F} {t : st_T} {T : tok} (x : TxC t I A) (y : TcC T I) (z : To t T) (h1 : T.2.1 - T.1 ≤ 9 → K (tv t T) I A) (h2 : ¬ T.2.1 - T.1 ≤ 9 → K (-1) I A) : wX10_number K I A := by
  have hl := x.1
  have hz1 := z.1
  have hz2 := z.2.1
  unfold wX10_number
  rw [y.1, y.2.1, nI_sb z.1]
  by_cases c : T.2.1 - T.1 ≤ 9
  · refine br_t (nI_le c (by omega)) (fun v ev => ?_)
    subst ev
    have g : ∀ m j v, j + m = T.2.1 → (K (nv t m j v) I A) → wlX10_number_23 K (m + 1) v (nI j) I A := by
      intro m
      induction m with
      | zero =>
        intro j v hj h
        unfold wlX10_number_23
        rw [y.2.1]
        exact br_t (nI_le (by omega) (by omega)) h
      | succ m ih =>
        intro j v hj h
        unfold wlX10_number_23
        rw [y.2.1]
        refine br_f (nI_ge (by omega) (by omega)) (ix0 (by omega) (fun u eu => ?_))
        rw [x.2.2 j (by omega)] at eu
        subst eu
        rw [nI_add j 1]
        exact ih (j + 1) _ (by omega) h
    exact ⟨_, g (T.2.1 - T.1) T.1 (nI 0) (by omega) (h1 c)⟩
  · exact br_f (nI_ge (by omega) (by omega)) (h2 c)
theorem q_num51 {K : Int32 → ab_F → ab_F → Prop} {I A : ab_F} {t : st_T} {T : tok} {p q : Int32} (x : TxM t I A) (y : TcM T I) (z : To t T) (e : I 0 11 = 0) : ∀ m j v, j + m = T.2.1 → wjX12_number_88 K p q (nv t m j v) I A → wlX12_number_51 K (m + 1) p q v (nI j) I A := by
  have hl := x.1
  have hz2 := z.2.1
  intro m
  induction m with
  | zero =>
    intro j v hj h
    unfold wlX12_number_51
    rw [y.2]
    exact br_t (nI_le (by omega) (by omega)) h
  | succ m ih =>
    intro j v hj h
    unfold wlX12_number_51
    rw [y.2]
    refine br_f (nI_ge (by omega) (by omega)) (rb_t e (q_byte x rfl (by omega) (fun u eu => ?_)))
    rw [bq_lt (by omega)] at eu
    subst eu
    rw [nI_add j 1]
    exact ih (j + 1) _ (by omega) h
