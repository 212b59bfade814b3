/-! the text's tokens: where one begins, where it ends, its kind (0 the end, 1 a word, 2 a number, 3 a semicolon, 4 another) -/
def tk (x : Int32) : Nat := if nI 97 ≤ x ∧ x ≤ nI 122 then 1 else if nI 48 ≤ x ∧ x ≤ nI 57 then 2 else if x = nI 59 then 3 else 4
def bk (x : Int32) : Bool := decide (x = nI 32) || decide (x = nI 10)
def sk (t : st_T) : Nat → Nat → Nat
  | 0, i => i
  | n + 1, i => if bk (t.1 i) = true then sk t n (i + 1) else i
def gw (t : st_T) (k : Nat) : Nat → Nat → Nat
  | 0, i => i
  | n + 1, i => if tk (t.1 i) = k then gw t k n (i + 1) else i
abbrev tok : Type := Nat × Nat × Nat
def nt (t : st_T) (b : Nat) : tok := if t.2 ≤ sk t (t.2 - b) b then (sk t (t.2 - b) b, sk t (t.2 - b) b, 0) else (sk t (t.2 - b) b, if tk (t.1 (sk t (t.2 - b) b)) ≤ 2 then gw t (tk (t.1 (sk t (t.2 - b) b))) (t.2 - (sk t (t.2 - b) b + 1)) (sk t (t.2 - b) b + 1) else sk t (t.2 - b) b + 1, tk (t.1 (sk t (t.2 - b) b)))
theorem sk_le (t : st_T) : ∀ n i, i ≤ sk t n i ∧ sk t n i ≤ i + n := by
  intro n
  induction n with
  | zero => intro i; exact ⟨Nat.le_refl _, Nat.le_refl _⟩
  | succ n ih =>
    intro i
    show i ≤ (if bk (t.1 i) = true then sk t n (i + 1) else i) ∧ (if bk (t.1 i) = true then sk t n (i + 1) else i) ≤ _
    have := ih (i + 1)
    split <;> omega
theorem gw_le (t : st_T) (k : Nat) : ∀ n i, i ≤ gw t k n i ∧ gw t k n i ≤ i + n := by
  intro n
  induction n with
  | zero => intro i; exact ⟨Nat.le_refl _, Nat.le_refl _⟩
  | succ n ih =>
    intro i
    show i ≤ (if tk (t.1 i) = k then gw t k n (i + 1) else i) ∧ (if tk (t.1 i) = k then gw t k n (i + 1) else i) ≤ _
    have := ih (i + 1)
    split <;> omega
theorem gw_in (t : st_T) (k : Nat) : ∀ n i j, i ≤ j → j < gw t k n i → tk (t.1 j) = k := by
  intro n
  induction n with
  | zero => intro i j h1 h2; exact absurd h2 (by show ¬ j < i; omega)
  | succ n ih =>
    intro i j h1 h2
    by_cases c : tk (t.1 i) = k
    · by_cases e : j = i
      · rw [e]; exact c
      · refine ih (i + 1) j (by omega) ?_
        have e2 : gw t k (n + 1) i = gw t k n (i + 1) := if_pos c
        rw [e2] at h2; exact h2
    · have e2 : gw t k (n + 1) i = i := if_neg c
      rw [e2] at h2; omega
/-- a token of the text -/
def To (t : st_T) (T : tok) : Prop := T.1 ≤ T.2.1 ∧ T.2.1 ≤ t.2 ∧ T.2.2 ≤ 4 ∧ (T.2.2 = 0 → T.1 = t.2 ∧ T.2.1 = t.2) ∧ (T.2.2 ≠ 0 → T.1 < T.2.1 ∧ tk (t.1 T.1) = T.2.2) ∧ (T.2.2 = 2 → ∀ j, T.1 ≤ j → j < T.2.1 → tk (t.1 j) = 2) ∧ (3 ≤ T.2.2 → T.2.1 = T.1 + 1)
theorem tk_r (x : Int32) : 1 ≤ tk x ∧ tk x ≤ 4 := by unfold tk; split <;> (try split) <;> (try split) <;> omega
theorem nt_To (t : st_T) {b : Nat} (hb : b ≤ t.2) : To t (nt t b) := by
  have h := sk_le t (t.2 - b) b
  unfold nt
  generalize sk t (t.2 - b) b = a at *
  by_cases c : t.2 ≤ a
  · rw [if_pos c]
    exact ⟨Nat.le_refl _, by show a ≤ t.2; omega, by show 0 ≤ 4; omega, fun _ => by constructor <;> (show a = t.2; omega), fun q => absurd rfl q, fun q => absurd q (by show ¬ (0 : Nat) = 2; omega), fun q => absurd q (by show ¬ 3 ≤ 0; omega)⟩
  · rw [if_neg c]
    have hr := tk_r (t.1 a)
    have hg := gw_le t (tk (t.1 a)) (t.2 - (a + 1)) (a + 1)
    have hx : a + 1 ≤ (if tk (t.1 a) ≤ 2 then gw t (tk (t.1 a)) (t.2 - (a + 1)) (a + 1) else a + 1) ∧ (if tk (t.1 a) ≤ 2 then gw t (tk (t.1 a)) (t.2 - (a + 1)) (a + 1) else a + 1) ≤ t.2 := by split <;> omega
    refine ⟨Nat.le_trans (Nat.le_succ a) hx.1, hx.2, hr.2, fun q => absurd q (by show ¬ tk (t.1 a) = 0; omega), fun _ => ⟨hx.1, rfl⟩, fun q j h1 h2 => ?_, fun q => ?_⟩
    · have q' : tk (t.1 a) = 2 := q
      have h2' : j < (if tk (t.1 a) ≤ 2 then gw t (tk (t.1 a)) (t.2 - (a + 1)) (a + 1) else a + 1) := h2
      rw [if_pos (by omega), q'] at h2'
      have h1' : a ≤ j := h1
      by_cases e : j = a
      · rw [e]; exact q'
      · exact gw_in t 2 _ _ j (by omega) h2'
    · have q' : 3 ≤ tk (t.1 a) := q
      show (if tk (t.1 a) ≤ 2 then _ else _) = a + 1
      rw [if_neg (by omega)]
/-! the class -/
theorem c_tk {K : Int32 → ab_F → ab_F → Prop} {I A : ab_F} {x : Int32} (h : K (nI (tk x)) I A) : wX10_tokenKind K I A x := by
  unfold tk at h
  have g28 : (¬ (nI 97 ≤ x ∧ x ≤ nI 122)) → ¬ (nI 48 ≤ x ∧ x ≤ nI 57) → wjX10_tokenKind_28 K x I A := by
    intro q1 q2
    rw [if_neg q1, if_neg q2] at h
    by_cases c : x = nI 59
    · rw [if_pos c] at h; exact rb_t c h
    · rw [if_neg c] at h; exact rb_f c h
  have g14 : (¬ (nI 97 ≤ x ∧ x ≤ nI 122)) → wjX10_tokenKind_14 K x I A := by
    intro q1
    by_cases c : x < nI 48
    · exact br_t c (g28 q1 (fun q => absurd c (Int32.not_lt.mpr q.1)))
    · refine br_f c ?_
      by_cases c2 : nI 57 < x
      · exact br_t c2 (g28 q1 (fun q => absurd c2 (Int32.not_lt.mpr q.2)))
      · refine br_f c2 ?_
        rw [if_neg q1, if_pos ⟨Int32.not_lt.mp c, Int32.not_lt.mp c2⟩] at h; exact h
  by_cases c : x < nI 97
  · exact br_t c (g14 (fun q => absurd c (Int32.not_lt.mpr q.1)))
  · refine br_f c ?_
    by_cases c2 : nI 122 < x
    · exact br_t c2 (g14 (fun q => absurd c2 (Int32.not_lt.mpr q.2)))
    · refine br_f c2 ?_
      rw [if_pos ⟨Int32.not_lt.mp c, Int32.not_lt.mp c2⟩] at h; exact h
/-- only the token has changed -/
def Ko (I I' : ab_F) : Prop := ∀ c i, (c = 1 → i ≠ 2 ∧ i ≠ 3 ∧ i ≠ 4) → I' c i = I c i
theorem Ko.refl (I : ab_F) : Ko I I := fun _ _ _ => rfl
theorem Ko.trans {I I' I'' : ab_F} (h : Ko I I') (g : Ko I' I'') : Ko I I'' := fun c i q => (g c i q).trans (h c i q)
theorem Ko_w {I : ab_F} {i : Nat} {v : Int32} (h : i = 2 ∨ i = 3 ∨ i = 4) : Ko I (wr I 1 i v) := fun c j q => by
  by_cases e : c = 1
  · subst e; exact wr_nei (by have := q rfl; omega)
  · exact congrFun (wr_ne e) j
/-- the class's text -/
def TxC (t : st_T) (I A : ab_F) : Prop := t.2 ≤ 400 ∧ I 1 1 = nI t.2 ∧ ∀ i, i < t.2 → A 2 i = t.1 i
def TcC (T : tok) (I : ab_F) : Prop := I 1 2 = nI T.1 ∧ I 1 3 = nI T.2.1 ∧ I 1 4 = nI T.2.2
theorem TxC_ko {t : st_T} {I I' A : ab_F} (h : TxC t I A) (k : Ko I I') : TxC t I' A := ⟨h.1, (k 1 1 (fun _ => by omega)).trans h.2.1, h.2.2⟩
theorem c_grow {K : ab_F → ab_F → Prop} {A : ab_F} {t : st_T} {k : Nat} (hk : k ≤ 4) : ∀ m j I, j + m = t.2 → TxC t I A → I 1 3 = nI j → I 1 4 = nI k → (∀ I', I' 1 3 = nI (gw t k m j) → I' 1 4 = nI k → I' 1 2 = I 1 2 → Ko I I' → K I' A) → wlX10_nextToken_133 K (m + 1) (nI 1) I A := by
  intro m
  induction m with
  | zero =>
    intro j I hj x e3 e4 h
    refine br_f (by decide) ?_
    rw [x.2.1, e3]
    exact br_t (nI_le (by omega) (by have := x.1; omega)) (h I e3 e4 rfl (Ko.refl I))
  | succ m ih =>
    intro j I hj x e3 e4 h
    have hl := x.1
    refine br_f (by decide) ?_
    rw [x.2.1, e3]
    refine br_f (nI_ge (by omega) (by omega)) (ix0 (by omega) (c_tk ?_))
    rw [x.2.2 j (by omega), e4, nI_eq (by have := tk_r (t.1 j); omega) (by omega)]
    by_cases c : tk (t.1 j) = k
    · refine rb_t c ?_
      rw [e3, nI_add j 1]
      have ko : Ko I (wr I 1 3 (nI (j + 1))) := Ko_w (by omega)
      refine ih (j + 1) _ (by omega) (TxC_ko x ko) (wr_ate _ _ _ _) ((wr_nei (by omega)).trans e4) (fun I' a b d g => h I' ?_ b (d.trans (wr_nei (by omega))) (ko.trans g))
      rw [a]; exact congrArg nI (if_pos c).symm
    · refine rb_f c (h I ?_ e4 rfl (Ko.refl I))
      rw [e3]; exact congrArg nI (if_neg c).symm
theorem c_next {K : ab_F → ab_F → Prop} {I A : ab_F} {t : st_T} {b : Nat} (x : TxC t I A) (hb : b ≤ t.2) (e3 : I 1 3 = nI b) (h : ∀ I', TcC (nt t b) I' → Ko I I' → TxC t I' A → K I' A) : wX10_nextToken K I A := by
  have hl := x.1
  have g60 : ∀ a J, a ≤ t.2 → J 1 2 = nI a → Ko I J → (∀ I', TcC (if t.2 ≤ a then (a, a, 0) else (a, if tk (t.1 a) ≤ 2 then gw t (tk (t.1 a)) (t.2 - (a + 1)) (a + 1) else a + 1, tk (t.1 a))) I' → Ko J I' → K I' A) → wjX10_nextToken_60 K J A := by
    intro a J ha e2 ko h
    have x' := TxC_ko x ko
    unfold wjX10_nextToken_60
    rw [x'.2.1, e2]
    by_cases c : t.2 ≤ a
    · refine br_f (fun q => absurd (nI_le c (by omega)) (Int32.not_le.mpr q)) (h _ ?_ ((Ko_w (by omega)).trans (Ko_w (by omega))))
      rw [if_pos c]
      exact ⟨(wr_nei (by omega)).trans ((wr_nei (by omega)).trans e2), (wr_nei (by omega)).trans (wr_ate _ _ _ _), wr_ate _ _ _ _⟩
    · rw [if_neg c] at h
      refine br_t (Int32.not_le.mp (nI_ge (by omega) (by omega))) (ix0 (by omega) (c_tk ?_))
      rw [x'.2.2 a (by omega), wr_ate, nI_add a 1]
      have hr := tk_r (t.1 a)
      generalize hk : tk (t.1 a) = k at *
      have koJ : Ko J (wr (wr (wr J 1 3 (nI a)) 1 4 (nI k)) 1 3 (nI (a + 1))) := ((Ko_w (by omega)).trans (Ko_w (by omega))).trans (Ko_w (by omega))
      have f2 : (wr (wr (wr J 1 3 (nI a)) 1 4 (nI k)) 1 3 (nI (a + 1))) 1 2 = nI a := (wr_nei (by omega)).trans ((wr_nei (by omega)).trans ((wr_nei (by omega)).trans e2))
      have f4 : (wr (wr (wr J 1 3 (nI a)) 1 4 (nI k)) 1 3 (nI (a + 1))) 1 4 = nI k := (wr_nei (by omega)).trans (wr_ate _ _ _ _)
      have gg : k ≤ 2 → ∃ nf, wlX10_nextToken_133 K nf (nI 1) (wr (wr (wr J 1 3 (nI a)) 1 4 (nI k)) 1 3 (nI (a + 1))) A := fun q => by
        refine ⟨_, c_grow (k := k) (by omega) (t.2 - (a + 1)) (a + 1) _ (by omega) (TxC_ko x' koJ) (wr_ate _ _ _ _) f4 (fun I' p3 p4 p2 g => h I' ⟨p2.trans f2, ?_, p4⟩ (koJ.trans g))⟩
        rw [p3]; exact congrArg nI (if_pos q).symm
      have gs : ¬ k ≤ 2 → ∃ nf, wlX10_nextToken_133 K nf (nI 0) (wr (wr (wr J 1 3 (nI a)) 1 4 (nI k)) 1 3 (nI (a + 1))) A := fun q => by
        refine ⟨1, br_t rfl (h _ ⟨f2, ?_, f4⟩ koJ)⟩
        rw [wr_ate]; exact congrArg nI (if_neg q).symm
      rw [nI_eq (a := k) (b := 1) (by omega) (by omega), nI_eq (a := k) (b := 2) (by omega) (by omega)]
      by_cases c1 : k = 1
      · exact br_t c1 (gg (by omega))
      · refine br_f c1 ?_
        by_cases c2 : k = 2
        · exact rb_t c2 (gg (by omega))
        · exact rb_f c2 (gs (by omega))
  have g8 : ∀ m i J, i + m = t.2 → J 1 2 = nI i → Ko I J → (∀ I', TcC (if t.2 ≤ sk t m i then (sk t m i, sk t m i, 0) else (sk t m i, if tk (t.1 (sk t m i)) ≤ 2 then gw t (tk (t.1 (sk t m i))) (t.2 - (sk t m i + 1)) (sk t m i + 1) else sk t m i + 1, tk (t.1 (sk t m i)))) I' → Ko I I' → K I' A) → wlX10_nextToken_8 K (m + 1) J A := by
    intro m
    induction m with
    | zero =>
      intro i J hi e2 ko h
      have x' := TxC_ko x ko
      unfold wlX10_nextToken_8
      rw [x'.2.1, e2]
      exact br_t (nI_le (by omega) (by omega)) (g60 i J (by omega) e2 ko (fun I' a g => h I' a (ko.trans g)))
    | succ m ih =>
      intro i J hi e2 ko h
      have x' := TxC_ko x ko
      unfold wlX10_nextToken_8
      rw [x'.2.1, e2]
      refine br_f (nI_ge (by omega) (by omega)) (ix0 (by omega) ?_)
      have go : bk (t.1 i) = true → wjX10_nextToken_47 K (wlX10_nextToken_8 K (m + 1)) J A := fun q => by
        unfold wjX10_nextToken_47
        rw [e2, nI_add i 1]
        have ko1 : Ko J (wr J 1 2 (nI (i + 1))) := Ko_w (by omega)
        have es : sk t (m + 1) i = sk t m (i + 1) := if_pos q
        rw [es] at h
        exact ih (i + 1) _ (by omega) (wr_ate _ _ _ _) (ko.trans ko1) h
      have st : ¬ bk (t.1 i) = true → wjX10_nextToken_60 K J A := fun q => by
        have es : sk t (m + 1) i = i := if_neg q
        rw [es] at h
        exact g60 i J (by omega) e2 ko (fun I' a g => h I' a (ko.trans g))
      rw [x'.2.2 i (by omega)]
      by_cases c1 : t.1 i = nI 32
      · exact br_t c1 (go (by unfold bk; rw [decide_eq_true c1]; rfl))
      · refine br_f c1 (ix0 (by omega) ?_)
        rw [x'.2.2 i (by omega)]
        by_cases c2 : t.1 i = nI 10
        · exact rb_t c2 (go (by unfold bk; rw [decide_eq_true c2, Bool.or_true]))
        · exact rb_f c2 (st (by unfold bk; rw [decide_eq_false c1, decide_eq_false c2]; decide))
  refine ⟨_, g8 (t.2 - b) b _ (by omega) ?_ (Ko_w (by omega)) (fun I' a g => h I' a g (TxC_ko x g))⟩
  rw [wr_ate]; exact e3
