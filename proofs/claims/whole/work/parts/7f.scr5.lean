/-! runScript, the reference -/
abbrev xo (t : st_T) (T : tok) (w : Nat → Int32) : Option (Nat → Int32) := x_op w (o_c t T) (av t (o_n (o_c t T)) 0 (n1 t T)) (av t (o_n (o_c t T)) 1 (n1 t T)) (av t (o_n (o_c t T)) 2 (n1 t T))
def Aq (A A' : ab_F) : Prop := ∀ c, c ≠ 6 → c ≠ 1 → A' c = A c
theorem Aq.refl (A : ab_F) : Aq A A := fun _ _ _ => rfl
theorem Aq.trans {A A' A'' : ab_F} (h : Aq A A') (g : Aq A' A'') : Aq A A'' := fun c p q => (g c p q).trans (h c p q)
theorem A6.q {A A' : ab_F} (h : A6 A A') : Aq A A' := fun c p _ => h c p
theorem TxM_q {t : st_T} {I A A' : ab_F} (x : TxM t I A) (h : Aq A A') : TxM t I A' := ⟨x.1, x.2.1, fun i hi => by rw [h 5 (by omega) (by omega)]; exact x.2.2 i hi⟩
theorem q_go {K : ab_F → ab_F → Prop} {I A : ab_F} {t : st_T} {T : tok} {w : Nat → Int32} {B : Nat} (x : TxM t I A) (y : TcM T I) (z : To t T) (e : I 0 11 = 0) (e1 : A 1 = w) (iv : Iv B w)
    (hf : ∀ p I' A' cc, (o_c t T = 9 ∧ p = T.1) ∨ (o_c t T ≠ 9 ∧ o_e t (o_n (o_c t T)) (n1 t T) = some p) ∨ (o_c t T ≠ 9 ∧ o_e t (o_n (o_c t T)) (n1 t T) = none ∧ xo t T w = none ∧ p = T.1) → Kr I I' → A6 A A' → I' 0 12 = nI p → 1 ≤ cc → cc < 16 → I' 0 11 = nI cc → K I' A')
    (hs : ∀ w' I' A', o_c t T ≠ 9 → o_e t (o_n (o_c t T)) (n1 t T) = none → xo t T w = some w' → Kq I I' → Aq A A' → A' 1 = w' → TcM (o_t t (o_n (o_c t T)) (n1 t T)) I' → K I' A') : wX12_goesThrough K I A := by
  intro v ev
  rw [y.1] at ev
  subst ev
  refine q_opn x y z (fun hc => ?_) (fun h9 => ?_)
  · have c9 : o_c t T ≠ 9 := by omega
    have hn := o_n_le hc
    refine rb_f (nI_m1 (by omega)) (q_pass x y z e (fun I1 y1 k1 x1 => ⟨_, q_opr hc (n1 t T) (n1_To z) (nI T.1) 3 0 I1 A (by omega) x1 (by rw [show min 0 (o_n (o_c t T)) = 0 by omega]; exact y1) ((kq11 k1).trans e) (fun j hj => by omega) (fun q I2 A2 k2 a2 y2 v2 => ?_) (fun p q I2 A2 cc k2 a2 g1 g2 g3 g4 => ?_)⟩))
    · rw [show min 0 (o_n (o_c t T)) = 0 by omega] at q
      have f2 : I2 0 11 = 0 := (kq11 k2).trans ((kq11 k1).trans e)
      refine br_f (by rw [f2]; decide) (q_does (w := w) (B := B) hc ((a2 1 (by omega)).trans e1) iv (fun q2 => ?_) (fun w' q2 => ?_))
      · rw [v2 0 (by omega), v2 1 (by omega), v2 2 (by omega)] at q2
        exact br_t rfl (hf T.1 (wf I2 1 T.1) A2 1 (Or.inr (Or.inr ⟨c9, q, q2, rfl⟩)) ((k1.trans k2).r.trans Kr_wf) a2 (wf_12 _ _ _) (by omega) (by omega) (wf_11 _ _ _))
      · rw [v2 0 (by omega), v2 1 (by omega), v2 2 (by omega)] at q2
        exact br_f (by decide) (hs w' I2 _ c9 q q2 (k1.trans k2) (fun c p1 p2 => (wrow_ne p2).trans (a2 c p1)) (wrow_at _ _ _) y2)
    · rw [show min 0 (o_n (o_c t T)) = 0 by omega] at q
      exact hf p I2 A2 cc (Or.inr (Or.inl ⟨c9, q⟩)) (k1.r.trans k2) a2 g1 g2 g3 g4
  · refine rb_t rfl (q_wrong (c := 1) e rfl y.1 (q_passF (wf_11 _ _ _) (by omega) (by omega) ⟨1, q_26F (wf_11 _ _ _) (by omega) (by omega) ?_⟩))
    exact hf T.1 (wf I 1 T.1) A 1 (Or.inl ⟨h9, rfl⟩) Kr_wf (A6.refl A) (wf_12 _ _ _) (by omega) (by omega) (wf_11 _ _ _)
theorem q_run {K : Int32 → ab_F → ab_F → Prop} {t : st_T} {B : Nat} {x1 x2 : Int32} (hB : B + 401 < 2 ^ 29) : ∀ f k w T I A, k ≤ T.1 → t.2 + 1 ≤ T.1 + f → A 1 = w → Iv (B + k) w → TxM t I A → TcM T I → To t T → I 0 11 = 0 → ((sc t f k w T).1 = true → ∀ I' A', Kq I I' → Aq A A' → A' 1 = (sc t f k w T).2.2 → I' 0 11 = 0 → wjX12_runScript_74 K x1 x2 (sc t f k w T).2.1 I' A') → ((sc t f k w T).1 = false → ∀ I' A' cc, Kr I I' → Aq A A' → A' 1 = (sc t f k w T).2.2 → 1 ≤ cc → cc < 16 → I' 0 11 = nI cc → wjX12_runScript_74 K x1 x2 (sc t f k w T).2.1 I' A') → wlX12_runScript_25 K f x1 x2 (nI k) I A := by
  intro f
  induction f with
  | zero =>
    intro k w T I A hk hf e1 iv x y z
    have := z.1
    have := z.2.1
    omega
  | succ f ih =>
    intro k w T I A hk hf e1 iv x y z e h0 h1
    have hl := x.1
    have hz1 := z.1
    have hz2 := z.2.1
    refine rb_t e ?_
    rw [x.2.1, y.1]
    by_cases c0 : T.2.2 = 0
    · have hT := (z.2.2.2.1 c0).1
      refine br_t (nI_le (by omega) (by omega)) (rb_t e ?_)
      rw [sc_0 c0] at h0
      exact h0 rfl I A (Kq.refl I) (Aq.refl A) e1 e
    · have hT := (z.2.2.2.2.1 c0).1
      refine br_f (nI_ge (by omega) (by omega)) (q_go x y z e e1 iv (fun p I2 A2 cc q k2 a2 g1 g2 g3 g4 => ?_) (fun w' I2 A2 c9 q q2 k2 a2 e2 y2 => ?_))
      · have es : sc t (f + 1) k w T = (false, -1 - nI p, w) := by
          rcases q with ⟨q1, q2⟩ | ⟨q1, q2⟩ | ⟨q1, q2, q3, q4⟩
          · rw [q2]; exact sc_9 c0 q1
          · exact sc_e c0 q1 q2
          · rw [q4]; exact sc_n c0 q1 q2 q3
        rw [es] at h1
        obtain ⟨f', ef⟩ : ∃ f', f = f' + 1 := ⟨f - 1, by omega⟩
        subst ef
        refine q_passF g4 g2 g3 (rb_f (ft0 g4 g2 g3) (rb_f (ft0 g4 g2 g3) ?_))
        rw [g1]
        exact h1 rfl I2 A2 cc k2 a2.q ((a2 1 (by omega)).trans e1) g2 g3 g4
      · have es := sc_s (f := f) (k := k) c0 c9 q q2
        rw [es] at h0 h1
        have hc := o_c_le t T
        have f2 : I2 0 11 = 0 := (kq11 k2).trans e
        have zs := o_t_To (o_n (o_c t T)) _ (n1_To z)
        have nx := nx_tok z c0 (o_n (o_c t T))
        refine q_pass (TxM_q (TxM_kq x k2) a2) y2 zs f2 (fun I3 y3 k3 x3 => ?_)
        rw [nI_add k 1]
        exact ih (k + 1) w' (n1 t (o_t t (o_n (o_c t T)) (n1 t T))) I3 A2 (by omega) (by omega) e2 (Iv_xop (B := B + k) (by omega) (by omega) iv q2) x3 y3 nx.1 ((kq11 k3).trans f2) (fun s I4 A4 k4 a4 e4 f4 => h0 s I4 A4 ((k2.trans k3).trans k4) (a2.trans a4) e4 f4) (fun s I4 A4 cc k4 a4 e4 g2 g3 g4 => h1 s I4 A4 cc ((k2.trans k3).r.trans k4) (a2.trans a4) e4 g2 g3 g4)
theorem RM_e {B : Nat} {w : Nat → Int32} {h : st_H} {t : st_T} {e : Int32 × Int32} {p : st_T} {I A : ab_F} {v1 v2 : Int32} (x : RM B w h t e p I A) : RM B w h t (v1, v2) p (wr (wr I 0 11 v1) 0 12 v2) A := by
  obtain ⟨r, ⟨h1, h2, h3⟩, ⟨t1, t2, t3⟩, -, p1, p2, p3⟩ := x
  exact ⟨r, ⟨h1, by rw [wr_nei (by omega), wr_nei (by omega)]; exact h2, h3⟩, ⟨t1, by rw [wr_nei (by omega), wr_nei (by omega)]; exact t2, t3⟩, ⟨by rw [wr_nei (by omega)]; exact wr_ate _ _ _ _, wr_ate _ _ _ _⟩, p1, by rw [wr_nei (by omega), wr_nei (by omega)]; exact p2, p3⟩
theorem r_runS {B : Nat} {s : st_S} {K : Int32 → ab_F → ab_F → Prop} {I A : ab_F} (r : RMs B s I A) (hB : B + 401 < 2 ^ 29) (o : oM (B + 401) (s_runS s) K) : wX12_runScript K I A := by
  obtain ⟨⟨ra, iv⟩, ⟨h1, h2, h3⟩, ⟨t1, t2, t3⟩, ⟨e1, e2⟩, p1, p2, p3⟩ := r
  intro v1 ev1 v2 ev2
  rw [e1] at ev1
  rw [e2] at ev2
  refine q_keepAside ?_
  generalize hA1 : wrow A 2 (m_cp 608 (A 1) (A 2)) = A1
  have a1 : ∀ c, c ≠ 2 → A1 c = A c := fun c q => by subst hA1; exact wrow_ne q
  have a2 : ∀ k, k < 608 → A1 2 k = s.1 k := fun k hk => by subst hA1; rw [wrow_at, ra]; exact if_pos hk
  unfold wX12_begin
  generalize hJ : wr (wr (wr (wr (wr I 0 5 (nI 0)) 0 10 ((wr I 0 5 (nI 0)) 0 7)) 0 7 (nI 0)) 0 9 (nI 0)) 0 11 (nI 0) = J
  have z0 : nI 0 = 0 := rfl
  have q : J 0 5 = 0 ∧ J 0 10 = I 0 7 ∧ J 0 7 = 0 ∧ J 0 9 = 0 ∧ J 0 11 = 0 ∧ J 0 4 = I 0 4 ∧ J 0 18 = I 0 18 := by
    subst hJ
    simp [wr, z0]
  obtain ⟨q5, q10, q7, q9, q11, q4, q18⟩ := q
  have x : TxM s.2.2.1 J A1 := ⟨t1, q10.trans t2, fun i hi => by rw [a1 5 (by omega)]; exact t3 i hi⟩
  have z := nt_To s.2.2.1 (b := 0) (by omega)
  have iv2 : Iv (B + 401) (s_scr s).2.2 := sc_iv t1 hB _ 0 s.1 _ z (by omega) iv
  have iv0 : Iv (B + 401) s.1 := iv.mono (by omega)
  have mk : ∀ J' A', Kr J J' → Aq A1 A' → A' 1 = (s_scr s).2.2 → RM (B + 401) (s_scr s).2.2 s.2.1 (s.2.2.1.1, 0) (J' 0 11, J' 0 12) s.2.2.2.2 J' A' := fun J' A' k a ea => by
    refine ⟨⟨ea, iv2⟩, ⟨h1, by rw [k 0 4 (fun _ => by omega), q4]; exact h2, fun i hi => ⟨(h3 i hi).1.mono (by omega), fun j hj => by rw [a 4 (by omega) (by omega), a1 4 (by omega)]; exact (h3 i hi).2 j hj⟩⟩, ⟨by show 0 ≤ 400; omega, by rw [k 0 7 (fun _ => by omega)]; exact q7, fun i hi => absurd hi (by show ¬ i < 0; omega)⟩, ⟨rfl, rfl⟩, p1, by rw [k 0 18 (fun _ => by omega), q18]; exact p2, fun i hi => by rw [a 10 (by omega) (by omega), a1 10 (by omega)]; exact p3 i hi⟩
  refine q_next (b := 0) x (by omega) q9 (fun J1 y1 k1 x1 => ⟨_, q_run hB (s.2.2.1.2 + 1) 0 s.1 (nt s.2.2.1 0) J1 A1 (by omega) (by omega) ((a1 1 (by omega)).trans ra) iv x1 y1 z ((kq11 k1).trans q11) (fun g J2 A2 k2 aq e2 f2 => ?_) (fun g J2 A2 cc k2 aq e2 g2 g3 g4 => ?_)⟩)
  · have m := mk J2 A2 ((k1.trans k2).r) aq e2
    have m2 := RM_push m iv0 (fun k hk => by rw [aq 2 (by omega) (by omega)]; exact a2 k hk)
    refine rb_t f2 (q_push (d := s.2.1.2) h1 m.2.1.2.1 ?_)
    refine o.k (s := ((s_scr s).2.2, h_p s.2.1 s.1, (s.2.2.1.1, 0), s.2.2.2)) (by unfold s_runS; rw [if_pos g]) (Nat.le_refl _) ?_ ?_ rfl
    · have m3 := RM_e (v1 := v1) (v2 := v2) m2
      rw [ev1, ev2] at m3 ⊢
      exact m3
    · rw [wr_nei (by omega), wr_nei (by omega), wr_nei (by omega), (k1.trans k2) 0 5 (fun _ => by omega)]; exact q5
  · have m := mk J2 A2 (k1.r.trans k2) aq e2
    refine rb_f (ft0 g4 g2 g3) (q_takeBack ?_)
    have er : m_cp 608 (A2 2) (A2 1) = m_cp 608 s.1 (s_scr s).2.2 := by
      rw [e2]
      funext j
      unfold m_cp
      by_cases hj : j < 608
      · rw [if_pos hj, if_pos hj, aq 2 (by omega) (by omega)]; exact a2 j hj
      · rw [if_neg hj, if_neg hj]
    rw [er]
    refine o.k (s := (m_cp 608 s.1 (s_scr s).2.2, s.2.1, (s.2.2.1.1, 0), s.2.2.2)) (by unfold s_runS; rw [if_neg (by rw [g]; decide)]) (Nat.le_refl _) ?_ ?_ rfl
    · have m3 := RM_e (v1 := v1) (v2 := v2) (RM_s (B := B + 401) (B' := B + 401) m (Nat.le_refl _) (Iv_ew (cp_ew s.1 (s_scr s).2.2) iv0))
      rw [ev1, ev2] at m3 ⊢
      exact m3
    · rw [wr_nei (by omega), wr_nei (by omega), (k1.r.trans k2) 0 5 (fun _ => by omega)]; exact q5
