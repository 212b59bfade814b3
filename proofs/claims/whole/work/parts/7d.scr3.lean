/-! a script runs: the row behind it (none: it fails) and the answer -/
def av (t : st_T) (n i : Nat) (T : tok) : Int32 := if i < n then tv t (o_t t i T) else nI 0
abbrev sc_R : Type := Bool × Int32 × (Nat → Int32)
def sc1 (o : Option Nat) (w : Nat → Int32) (g : sc_R) : sc_R := match o with
  | some p => (false, -1 - nI p, w)
  | none => g
def sc2 (o : Option (Nat → Int32)) (p : Nat) (w : Nat → Int32) (g : (Nat → Int32) → sc_R) : sc_R := match o with
  | some w => g w
  | none => (false, -1 - nI p, w)
def sc (t : st_T) : Nat → Nat → (Nat → Int32) → tok → sc_R
  | 0, _, w, _ => (false, -1, w)
  | f + 1, k, w, T => if T.2.2 = 0 then (true, nI k, w) else if o_c t T = 9 then (false, -1 - nI T.1, w) else sc1 (o_e t (o_n (o_c t T)) (n1 t T)) w (sc2 (x_op w (o_c t T) (av t (o_n (o_c t T)) 0 (n1 t T)) (av t (o_n (o_c t T)) 1 (n1 t T)) (av t (o_n (o_c t T)) 2 (n1 t T))) T.1 w (fun w' => sc t f (k + 1) w' (n1 t (o_t t (o_n (o_c t T)) (n1 t T)))))
theorem x_arg {w : Nat → Int32} {c : Nat} {x y v x' y' v' : Int32} (hc : c < 9) (h0 : 0 < o_n c → x = x') (h1 : 1 < o_n c → y = y') (h2 : 2 < o_n c → v = v') : x_op w c x y v = x_op w c x' y' v' := by
  rcases c9 hc with e | e | e | e | e | e | e | e | e <;> subst e
  · show x_rd w x y = x_rd w x' y'
    rw [h0 (by decide), h1 (by decide)]
  · show x_wr w x y v = x_wr w x' y' v'
    rw [h0 (by decide), h1 (by decide), h2 (by decide)]
  · show x_st w x = x_st w x'
    rw [h0 (by decide)]
  · show x_fl w x = x_fl w x'
    rw [h0 (by decide)]
  · show x_cm w = x_cm w
    rfl
  · show x_ab w = x_ab w
    rfl
  · show some (m_crs w) = some (m_crs w)
    rfl
  · show x_rb w x = x_rb w x'
    rw [h0 (by decide)]
  · show x_ev w x y = x_ev w x' y'
    rw [h0 (by decide), h1 (by decide)]
/-- one step of it -/
theorem sc_0 {t : st_T} {f k : Nat} {w : Nat → Int32} {T : tok} (h : T.2.2 = 0) : sc t (f + 1) k w T = (true, nI k, w) := by
  show (if _ then _ else _) = _; rw [if_pos h]
theorem sc_9 {t : st_T} {f k : Nat} {w : Nat → Int32} {T : tok} (h : T.2.2 ≠ 0) (h9 : o_c t T = 9) : sc t (f + 1) k w T = (false, -1 - nI T.1, w) := by
  show (if _ then _ else _) = _; rw [if_neg h, if_pos h9]
theorem sc_e {t : st_T} {f k p : Nat} {w : Nat → Int32} {T : tok} (h : T.2.2 ≠ 0) (h9 : o_c t T ≠ 9) (e : o_e t (o_n (o_c t T)) (n1 t T) = some p) : sc t (f + 1) k w T = (false, -1 - nI p, w) := by
  show (if _ then _ else _) = _; rw [if_neg h, if_neg h9, e]; rfl
theorem sc_n {t : st_T} {f k : Nat} {w : Nat → Int32} {T : tok} (h : T.2.2 ≠ 0) (h9 : o_c t T ≠ 9) (e : o_e t (o_n (o_c t T)) (n1 t T) = none) (q : x_op w (o_c t T) (av t (o_n (o_c t T)) 0 (n1 t T)) (av t (o_n (o_c t T)) 1 (n1 t T)) (av t (o_n (o_c t T)) 2 (n1 t T)) = none) : sc t (f + 1) k w T = (false, -1 - nI T.1, w) := by
  show (if _ then _ else _) = _; rw [if_neg h, if_neg h9, e]; show sc2 _ _ _ _ = _; rw [q]; rfl
theorem sc_s {t : st_T} {f k : Nat} {w w' : Nat → Int32} {T : tok} (h : T.2.2 ≠ 0) (h9 : o_c t T ≠ 9) (e : o_e t (o_n (o_c t T)) (n1 t T) = none) (q : x_op w (o_c t T) (av t (o_n (o_c t T)) 0 (n1 t T)) (av t (o_n (o_c t T)) 1 (n1 t T)) (av t (o_n (o_c t T)) 2 (n1 t T)) = some w') : sc t (f + 1) k w T = sc t f (k + 1) w' (n1 t (o_t t (o_n (o_c t T)) (n1 t T))) := by
  show (if _ then _ else _) = _; rw [if_neg h, if_neg h9, e]; show sc2 _ _ _ _ = _; rw [q]; rfl
/-- the next operation's token lies behind -/
theorem nx_tok {t : st_T} {T : tok} (z : To t T) (h : T.2.2 ≠ 0) (n : Nat) : To t (n1 t (o_t t n (n1 t T))) ∧ T.1 + 1 ≤ (n1 t (o_t t n (n1 t T))).1 := by
  have z1 := n1_To z
  have z2 := o_t_To n _ z1
  refine ⟨n1_To z2, ?_⟩
  have a := (z.2.2.2.2.1 h).1
  have b := n1_ge t T
  have c := o_t_ge n _ z1
  have d := z2.1
  have e := n1_ge t (o_t t n (n1 t T))
  omega
theorem m1_neg {p : Nat} (h : p < 2 ^ 30) : (-1 : Int32) - nI p < 0 := by
  rw [Int32.lt_iff_toInt_lt, Int32.toInt_sub, nI_toInt (by omega), show (-1 : Int32).toInt = -1 from rfl, show (0 : Int32).toInt = 0 from rfl]
  show (if ((-1 - (p : Int)) % ((2 ^ 32 : Nat) : Int)) < (((2 ^ 32 : Nat) : Int) + 1) / 2 then _ else _) < 0
  rw [if_neg (by omega)]
  omega
theorem o_e_le {t : st_T} : ∀ m T p, To t T → o_e t m T = some p → p ≤ t.2
  | 0, T, p, z, h => by
    have e : (if T.2.2 = 3 then none else some T.1) = some p := h
    by_cases c : T.2.2 = 3
    · rw [if_pos c] at e; exact nomatch e
    · rw [if_neg c] at e
      cases e
      have := z.1
      have := z.2.1
      omega
  | m + 1, T, p, z, h => by
    have e : (if p_num t T 0 999999999 = 0 then o_e t m (n1 t T) else some T.1) = some p := h
    by_cases c : p_num t T 0 999999999 = 0
    · rw [if_pos c] at e; exact o_e_le m _ p (n1_To z) e
    · rw [if_neg c] at e
      cases e
      have := z.1
      have := z.2.1
      omega
theorem sc_neg {t : st_T} (ht : t.2 ≤ 400) : ∀ f k w T, To t T → (sc t f k w T).1 = false → (sc t f k w T).2.1 < 0 := by
  intro f
  induction f with
  | zero => intro k w T z h; show (-1 : Int32) < 0; decide
  | succ f ih =>
    intro k w T z h
    have hz1 := z.1
    have hz2 := z.2.1
    by_cases c0 : T.2.2 = 0
    · rw [sc_0 c0] at h; exact nomatch h
    · by_cases c9 : o_c t T = 9
      · rw [sc_9 c0 c9]; exact m1_neg (by omega)
      · cases e : o_e t (o_n (o_c t T)) (n1 t T) with
        | some p => rw [sc_e c0 c9 e]; exact m1_neg (by have := o_e_le _ _ _ (n1_To z) e; omega)
        | none =>
          cases q : x_op w (o_c t T) (av t (o_n (o_c t T)) 0 (n1 t T)) (av t (o_n (o_c t T)) 1 (n1 t T)) (av t (o_n (o_c t T)) 2 (n1 t T)) with
          | none => rw [sc_n c0 c9 e q]; exact m1_neg (by omega)
          | some w' => rw [sc_s c0 c9 e q] at h ⊢; exact ih _ _ _ (nx_tok z c0 _).1 h
theorem sc_pos {t : st_T} (ht : t.2 ≤ 400) : ∀ f k w T, To t T → k ≤ T.1 → (sc t f k w T).1 = true → ∃ n, n ≤ 400 ∧ (sc t f k w T).2.1 = nI n := by
  intro f
  induction f with
  | zero => intro k w T z hk h; exact nomatch h
  | succ f ih =>
    intro k w T z hk h
    have hz1 := z.1
    have hz2 := z.2.1
    by_cases c0 : T.2.2 = 0
    · rw [sc_0 c0]; exact ⟨k, by omega, rfl⟩
    · by_cases c9 : o_c t T = 9
      · rw [sc_9 c0 c9] at h; exact nomatch h
      · cases e : o_e t (o_n (o_c t T)) (n1 t T) with
        | some p => rw [sc_e c0 c9 e] at h; exact nomatch h
        | none =>
          cases q : x_op w (o_c t T) (av t (o_n (o_c t T)) 0 (n1 t T)) (av t (o_n (o_c t T)) 1 (n1 t T)) (av t (o_n (o_c t T)) 2 (n1 t T)) with
          | none => rw [sc_n c0 c9 e q] at h; exact nomatch h
          | some w2 => rw [sc_s c0 c9 e q] at h ⊢; exact ih _ _ _ (nx_tok z c0 _).1 (by have := (nx_tok z c0 (o_n (o_c t T))).2; omega) h
theorem sc_iv {t : st_T} {B : Nat} (ht : t.2 ≤ 400) (hB : B + 401 < 2 ^ 29) : ∀ f k w T, To t T → k ≤ T.1 → Iv (B + k) w → Iv (B + 401) (sc t f k w T).2.2 := by
  intro f
  induction f with
  | zero =>
    intro k w T z hk iv
    have hz1 := z.1
    have hz2 := z.2.1
    exact iv.mono (by omega)
  | succ f ih =>
    intro k w T z hk iv
    have hz1 := z.1
    have hz2 := z.2.1
    by_cases c0 : T.2.2 = 0
    · rw [sc_0 c0]; exact iv.mono (by omega)
    · by_cases c9 : o_c t T = 9
      · rw [sc_9 c0 c9]; exact iv.mono (by omega)
      · have hc := o_c_le t T
        cases e : o_e t (o_n (o_c t T)) (n1 t T) with
        | some p => rw [sc_e c0 c9 e]; exact iv.mono (by omega)
        | none =>
          cases q : x_op w (o_c t T) (av t (o_n (o_c t T)) 0 (n1 t T)) (av t (o_n (o_c t T)) 1 (n1 t T)) (av t (o_n (o_c t T)) 2 (n1 t T)) with
          | none => rw [sc_n c0 c9 e q]; exact iv.mono (by omega)
          | some w2 =>
            rw [sc_s c0 c9 e q]
            exact ih _ _ _ (nx_tok z c0 _).1 (by have := (nx_tok z c0 (o_n (o_c t T))).2; omega) (Iv_xop (B := B + k) (by omega) (by omega) iv q)
/-! the class -/
def Ej (I A I' A' : ab_F) : Prop := (∀ c, (c < 8 ∨ 31 < c) → c ≠ 1 → I' c = I c) ∧ (∀ c, (c < 8 ∨ 31 < c) → c ≠ 7 → A' c = A c) ∧ I' 1 1 = I 1 1
theorem Ej.refl (I A : ab_F) : Ej I A I A := ⟨fun _ _ _ => rfl, fun _ _ _ => rfl, rfl⟩
theorem Ej.trans {I A I' A' I'' A'' : ab_F} (h : Ej I A I' A') (g : Ej I' A' I'' A'') : Ej I A I'' A'' := ⟨fun c p q => (g.1 c p q).trans (h.1 c p q), fun c p q => (g.2.1 c p q).trans (h.2.1 c p q), g.2.2.trans h.2.2⟩
theorem Ej_ko {I A I' A' : ab_F} (k : Ko I I') (a : ∀ c, c ≠ 7 → A' c = A c) : Ej I A I' A' := ⟨fun c p q => funext (fun i => k c i (fun w => absurd w q)), fun c _ q => a c q, k 1 1 (fun _ => by omega)⟩
theorem Ej_ek {I A I' A' : ab_F} (k : Ek I A I' A') : Ej I A I' A' := ⟨fun c p _ => (k c p).1, fun c p _ => (k c p).2, by rw [(k 1 (by omega)).1]⟩
theorem Rs_ko {I A I' A' : ab_F} {w : Nat → Int32} (k : Ko I I') (a : ∀ c, c ≠ 7 → A' c = A c) (r : Rs 8 I A w) : Rs 8 I' A' w := Rs_off (fun c p q => ⟨funext (fun i => k c i (fun w => by omega)), a c (by omega)⟩) r
theorem c_run {K : Int32 → ab_F → ab_F → Prop} {t : st_T} {B : Nat} (hB : B + 401 < 2 ^ 29) : ∀ f k w T I A, k ≤ T.1 → t.2 + 1 ≤ T.1 + f → Rs 8 I A w → Iv (B + k) w → TxC t I A → TcC T I → To t T → (∀ I' A', Ej I A I' A' → Rs 8 I' A' (sc t f k w T).2.2 → K (sc t f k w T).2.1 I' A') → wlX6_runOn_9 K f (nI k) I A := by
  intro f
  induction f with
  | zero =>
    intro k w T I A hk hf r iv x y z
    have := z.1
    have := z.2.1
    omega
  | succ f ih =>
    intro k w T I A hk hf r iv x y z h0
    have hl := x.1
    have hz1 := z.1
    have hz2 := z.2.1
    refine br_f (fun q => absurd (nI_le (a := k) (b := 400) (by omega) (by omega)) (Int32.not_le.mpr q)) ?_
    rw [y.2.2, show (nI T.2.2 = 0) = (T.2.2 = 0) from propext (nI_eq (a := T.2.2) (b := 0) (by have := z.2.2.1; omega) (by omega))]
    by_cases c0 : T.2.2 = 0
    · refine rb_t c0 ?_
      rw [sc_0 c0] at h0
      exact h0 I A (Ej.refl I A) r
    · refine rb_f c0 (fun v ev => c_opn x y z (fun hc => ?_) (fun hc => ?_))
      · have c9 : o_c t T ≠ 9 := by omega
        refine br_f (nI_m1 (by omega)) (ix0 hc ?_)
        rw [o_n_c hc]
        refine c_next x z.2.1 y.2.1 (fun I1 y1 k1 x1 => ⟨_, c_opr (o_n_le hc) (n1 t T) (n1_To z) (o_n (o_c t T)) 0 I1 A (by omega) x1 y1 (fun j hj => by omega) (fun e I2 A2 k2 a2 y2 x2 v2 => ?_) (fun p e I2 A2 k2 a2 e2 => ?_)⟩)
        · refine rb_f (by decide) ?_
          have r2 : Rs 8 I2 A2 w := Rs_ko (k1.trans k2) a2 r
          have j2 : Ej I A I2 A2 := Ej_ko (k1.trans k2) a2
          have ea : x_op w (o_c t T) (A2 7 0) (A2 7 1) (A2 7 2) = x_op w (o_c t T) (av t (o_n (o_c t T)) 0 (n1 t T)) (av t (o_n (o_c t T)) 1 (n1 t T)) (av t (o_n (o_c t T)) 2 (n1 t T)) := x_arg hc (fun q => (v2 0 q).trans (if_pos q).symm) (fun q => (v2 1 q).trans (if_pos q).symm) (fun q => (v2 2 q).trans (if_pos q).symm)
          refine c_op (B := B + k) hc r2 iv (by omega) (fun q A3 r3 k3 => ?_) (fun w' q I3 A3 r3 iv3 k3 => ?_)
          · rw [ea] at q
            have es := sc_n (f := f) (k := k) c0 c9 e q
            rw [es] at h0
            have g := h0 I2 A3 (j2.trans (Ej_ek k3)) r3
            rw [ev, y.1]; exact g
          · rw [ea] at q
            have es := sc_s (f := f) (k := k) c0 c9 e q
            rw [es] at h0
            have nx := nx_tok z c0 (o_n (o_c t T))
            have zs := o_t_To (o_n (o_c t T)) _ (n1_To z)
            have x3 : TxC t I3 A3 := ⟨x2.1, by rw [(k3 1 (by omega)).1]; exact x2.2.1, fun i hi => by rw [(k3 2 (by omega)).2]; exact x2.2.2 i hi⟩
            refine c_next x3 zs.2.1 (by rw [(k3 1 (by omega)).1]; exact y2.2.1) (fun I4 y4 k4 x4 => ?_)
            rw [nI_add k 1]
            have j4 : Ej I A I4 A3 := (j2.trans (Ej_ek k3)).trans (Ej_ko k4 (fun _ _ => rfl))
            exact ih (k + 1) w' (n1 t (o_t t (o_n (o_c t T)) (n1 t T))) I4 A3 (by omega) (by omega) (Rs_ko k4 (fun _ _ => rfl) r3) iv3 x4 y4 nx.1 (fun I5 A5 j5 r5 => h0 I5 A5 (j4.trans j5) r5)
        · have es := sc_e (f := f) (k := k) (w := w) c0 c9 e
          refine rb_t rfl ?_
          rw [es] at h0
          have g := h0 I2 A2 (Ej_ko (k1.trans k2) a2) (Rs_ko (k1.trans k2) a2 r)
          unfold wjX6_runOn_61
          rw [e2]; exact g
      · have es := sc_9 (f := f) (k := k) (w := w) c0 hc
        refine br_t rfl ?_
        rw [es] at h0
        have g := h0 I A (Ej.refl I A) r
        unfold wjX6_runOn_61
        rw [y.1]; exact g
