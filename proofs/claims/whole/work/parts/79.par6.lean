/-! parseSystem -/
theorem c_install {K : ab_F → ab_F → Prop} {I A : ab_F} {n : Nat} {w : Nat → Int32} (g : Gw n w) (s : Sx I A n w) (h : ∀ I' A', Ek I A I' A' → Rs 8 I' A' w → K I' A') : wX8_install K I A := by
  have e10 : w 10 = nI 0 := Gw_0 g (by omega) (by omega)
  refine c_i4 g s (fun A1 a1 b1 d1 => c_i2 (fun A2 a2 b2 => c_i7 (fun A3 a3 b3 => c_i1 (fun A4 a4 b4 d4 => ?_))))
  unfold wX0_install
  rw [show (wr I 9 0 (nI n)) 3 = I 3 from wr_ne (by omega), s.1, s.2.2.1]
  rw [show (wr (wr (wr I 9 0 (nI n)) 16 0 (w 0)) 16 1 (w 2)) 3 = I 3 from (wr_ne (by omega)).trans ((wr_ne (by omega)).trans (wr_ne (by omega))), s.2.1]
  show K (wr (wr (wr (wr _ 29 0 (nI 0)) 29 1 (nI 0)) 29 2 (nI 0)) 8 5 (nI 0)) A4
  generalize hJ : wr (wr (wr (wr (wr (wr (wr (wr (wr (wr (wr (wr (wr I 9 0 (nI n)) 16 0 (w 0)) 16 1 (w 2)) 20 0 (w 1)) 20 1 (nI 0)) 24 0 (nI 0)) 24 3 (nI 0)) 24 1 (nI 0)) 24 2 (nI 0)) 29 0 (nI 0)) 29 1 (nI 0)) 29 2 (nI 0)) 8 5 (nI 0) = J
  have z0 : nI 0 = 0 := rfl
  have q : J 9 0 = nI n ∧ J 16 0 = w 0 ∧ J 16 1 = w 2 ∧ J 20 0 = w 1 ∧ J 20 1 = 0 ∧ J 24 0 = 0 ∧ J 24 1 = 0 ∧ J 24 3 = 0 ∧ J 29 0 = 0 ∧ J 29 1 = 0 ∧ J 29 2 = 0 ∧ J 8 5 = 0 := by
    subst hJ
    simp [wr, z0]
  obtain ⟨q1, q2, q3, q4, q5, q6, q7, q8, q9, q10, q11, q12⟩ := q
  have ek : Ek I A J A4 := fun c hc => by
    refine ⟨?_, (a4 c (by omega)).trans ((a3 c (by omega)).trans ((a2 c (by omega)).trans (a1 c (by omega))))⟩
    subst hJ
    iterate 13 rw [wr_ne (by omega)]
  have ds : ∀ p, p < 6 → m_ds w p = 0 := fun p hp => by
    unfold m_ds
    have : sb (fun i => decide (w (176 + (8 * p + i)) = nI 1)) 8 = sb (fun _ => false) 8 := sb_congr (fun i hi => by rw [Gw_0 g (k := 176 + (8 * p + i)) (by omega) (by omega)]; decide)
    rw [this]; rfl
  refine h J A4 ek ⟨⟨⟨q1.trans g.2.2.2.2.1.symm, fun p hp => ?_, fun k hk => ?_⟩, ⟨q2, q3, fun f hf => ?_⟩, ⟨q4, q5.trans (Gw_0 g (by omega) (by omega)).symm, fun s hs => ?_⟩⟩, ⟨⟨q6.trans (Gw_0 g (by omega) (by omega)).symm, q7.trans e10.symm, q8.trans (Gw_0 g (by omega) (by omega)).symm⟩, fun q => absurd e10 q, fun k hk => ⟨?_, ?_⟩, fun p hp => ?_, fun c ec hc i hi => ?_⟩, q9.trans (Gw_0 g (by omega) (by omega)).symm, q10.trans (Gw_0 g (by omega) (by omega)).symm, q12.trans (Gw_0 g (by omega) (by omega)).symm, 0, 0, by omega, Gw_0 g (by omega) (by omega), by omega, q11, Gw_0 g (by omega) (by omega), fun i hi => by omega⟩
  · show A4 10 p = _ ∧ A4 11 p = _ ∧ A4 12 p = _
    rw [a4 10 (by omega), a3 10 (by omega), a2 10 (by omega), a4 11 (by omega), a3 11 (by omega), a2 11 (by omega), a4 12 (by omega), a3 12 (by omega), a2 12 (by omega), ds p hp]
    exact b1 p hp
  · show A4 13 k = _ ∧ A4 14 k = _ ∧ A4 15 k = _
    rw [a4 13 (by omega), a3 13 (by omega), a2 13 (by omega), a4 14 (by omega), a3 14 (by omega), a2 14 (by omega), a4 15 (by omega), a3 15 (by omega), a2 15 (by omega), Gw_0 g (k := 32 + k) (by omega) (by omega), Gw_m g (k := 128 + k) (by omega) (by omega), Gw_m g (k := 80 + k) (by omega) (by omega)]
    exact d1 k hk
  · show A4 17 f = _ ∧ A4 18 f = _ ∧ A4 19 f = _
    rw [a4 17 (by omega), a3 17 (by omega), a4 18 (by omega), a3 18 (by omega), a4 19 (by omega), a3 19 (by omega), Gw_m g (k := 320 + f) (by omega) (by omega), Gw_0 g (k := 336 + f) (by omega) (by omega), Gw_0 g (k := 352 + f) (by omega) (by omega)]
    exact b2 f hf
  · show A4 21 s = _ ∧ A4 22 s = _ ∧ A4 23 s = _
    rw [a4 21 (by omega), a4 22 (by omega), a4 23 (by omega), Gw_0 g (k := 368 + s) (by omega) (by omega), Gw_m g (k := 416 + s) (by omega) (by omega), Gw_m g (k := 464 + s) (by omega) (by omega)]
    exact b3 s hs
  · unfold m_rk
    rw [e10, has_0, if_neg (by decide)]
    exact (b4 k hk).1
  · rw [Gw_m g (k := 272 + k) (by omega) (by omega)]; exact (b4 k hk).2
  · rw [Gw_m g (k := 26 + p) (by omega) (by omega)]; exact d4 p hp
  · have e8 : w 8 = nI 0 := Gw_0 g (by omega) (by omega)
    rw [e8, nI_eq (by omega) (by omega)] at ec
    omega
def s_parse (s : st_S) : st_O := if (p_sys s.2.2.1 wl0).1.1 ≠ 0 then (0, -1, (s.1, s.2.1, (s.2.2.1.1, 0), (nI (p_sys s.2.2.1 wl0).1.1, nI (p_sys s.2.2.1 wl0).1.2), s.2.2.2.2)) else (0, nI (p_sys s.2.2.1 wl0).2.1, (m_cp 608 (p_sys s.2.2.1 wl0).2.2 s.1, (s.2.1.1, 0), (s.2.2.1.1, 0), (nI 0, -1), s.2.2.2.2))
theorem cp_ew (a b : Nat → Int32) : Ew a (m_cp 608 a b) := fun k hk => if_pos hk
theorem Rs_row {x : Nat} {I A : ab_F} {w w' : Nat → Int32} (e : Ew w w') (r : Rs x I A w) : Rs x I A w' := Rs_cp e (fun _ _ => rfl) (fun _ _ _ _ => rfl) r
theorem f_parse {B : Nat} {s : st_S} {K : Int32 → ab_Z → ab_F → ab_F → Prop} {KX : String → ab_Z → ab_F → ab_F → Prop} {Z : ab_Z} {I A : ab_F} (r : RCs B s Z I A) (o : oC [] B (s_parse s) K KX) : wX11_parseSystem (fun v I A => K v Z I A) I A := by
  have r0 := r
  obtain ⟨⟨rs, iv⟩, ⟨h1, h2, sl, hs, h3, h4⟩, zs, tc, ⟨e1, e2⟩, cap, p1, p2, p3, p4, p5, p6, p7⟩ := r
  have out : ∀ (J A' : ab_F), Kp I J → (∀ c, c ≠ 4 → c ≠ 5 → A' c = A c) → ∀ c, 5 < c → J c = I c ∧ A' c = A c := fun J A' k a c hc => ⟨funext (fun i => k c i (by omega) (fun q => by omega)), a c (by omega) (by omega)⟩
  refine c_parse (w := wl0) tc (fun e J A' k a ee sx => ?_) (fun e J A' ee1 ee2 k a => ?_)
  · have g := Gw_sys s.2.2.1 e
    refine rb_f (by decide) (c_install (n := (p_sys s.2.2.1 wl0).2.1) (w := (p_sys s.2.2.1 wl0).2.2) g ?_ (fun I2 A2 ek rs2 => ?_))
    · exact ⟨sx.1, sx.2.1, sx.2.2.1, sx.2.2.2.1, sx.2.2.2.2⟩
    · unfold wX3_forget
      have ov : ∀ c, 31 < c → I2 c = I c ∧ A2 c = A c := fun c hc => ⟨(ek c (by omega)).1.trans ((wr_ne (by omega)).trans (out J A' k a c (by omega)).1), (ek c (by omega)).2.trans (out J A' k a c (by omega)).2⟩
      have e9 : I2 9 0 = nI (p_sys s.2.2.1 wl0).2.1 := rs2.1.1.1.trans g.2.2.2.2.1
      show K ((wr I2 32 2 (nI 0)) 9 0) Z (wr I2 32 2 (nI 0)) A2
      rw [show (wr I2 32 2 (nI 0)) 9 0 = nI (p_sys s.2.2.1 wl0).2.1 from (congrFun (wr_ne (by omega)) 0).trans e9]
      refine o.k (B0 := B) (s := (m_cp 608 (p_sys s.2.2.1 wl0).2.2 s.1, (s.2.1.1, 0), (s.2.2.1.1, 0), (nI 0, -1), s.2.2.2.2)) (by unfold s_parse; rw [if_neg (fun w => w e)]) (Nat.le_refl _) ⟨⟨Rs_row (cp_ew _ _) (Rs_off (fun c q1 q2 => ⟨wr_ne (by omega), rfl⟩) rs2), Iv_ew (cp_ew _ _) (Iv_G B g)⟩, ⟨by show 0 ≤ 10; omega, wr_ate _ _ _ _, sl, hs, ?_, fun i hi => absurd hi (by show ¬ i < 0; omega)⟩, zs, ⟨by show 0 ≤ 400; omega, ?_, fun i hi => absurd hi (by show ¬ i < 0; omega)⟩, ⟨?_, ?_⟩, cap, p1, p2, ?_, ?_, p5, p6, fun j => ?_⟩
      · rw [wr_nei (by omega), (ov 32 (by omega)).1]; exact h3
      · rw [show (wr I2 32 2 (nI 0)) 1 = I2 1 from wr_ne (by omega), (ek 1 (by omega)).1]; exact wr_ate _ _ _ _
      · rw [show (wr I2 32 2 (nI 0)) 3 = I2 3 from wr_ne (by omega), (ek 3 (by omega)).1, show (wr J 1 1 (nI 0)) 3 = J 3 from wr_ne (by omega)]; exact ee.1
      · rw [show (wr I2 32 2 (nI 0)) 3 = I2 3 from wr_ne (by omega), (ek 3 (by omega)).1, show (wr J 1 1 (nI 0)) 3 = J 3 from wr_ne (by omega)]; exact ee.2
      · rw [show (wr I2 32 2 (nI 0)) 40 = I2 40 from wr_ne (by omega), (ov 40 (by omega)).1]; exact p3
      · rw [show (wr I2 32 2 (nI 0)) 40 = I2 40 from wr_ne (by omega), (ov 40 (by omega)).1]; exact p4
      · rw [(ov Z.2.1 (by omega)).2]; exact p7 j
  · refine rb_t rfl (o.k (B0 := B) (s := (s.1, s.2.1, (s.2.2.1.1, 0), (nI (p_sys s.2.2.1 wl0).1.1, nI (p_sys s.2.2.1 wl0).1.2), s.2.2.2.2)) (by unfold s_parse; rw [if_pos e]) (Nat.le_refl _) ?_)
    have ov : ∀ c, 5 < c → (wr J 1 1 (nI 0)) c = I c ∧ A' c = A c := fun c hc => ⟨(wr_ne (by omega)).trans (out J A' k a c hc).1, (out J A' k a c hc).2⟩
    refine ⟨⟨Rs_off (fun c q1 q2 => ov c (by omega)) rs, iv⟩, ⟨h1, by rw [(ov 32 (by omega)).1]; exact h2, sl, hs, by rw [(ov 32 (by omega)).1]; exact h3, fun i hi => ?_⟩, zs, ⟨by show 0 ≤ 400; omega, wr_ate _ _ _ _, fun i hi => absurd hi (by show ¬ i < 0; omega)⟩, ⟨?_, ?_⟩, cap, p1, p2, by rw [(ov 40 (by omega)).1]; exact p3, by rw [(ov 40 (by omega)).1]; exact p4, p5, p6, fun j => by rw [(ov Z.2.1 (by omega)).2]; exact p7 j⟩
    · obtain ⟨b, b1, b2, b3⟩ := h4 i hi
      have hb := (zs.1 _ b (by omega) b1).2
      exact ⟨b, b1, Rs_off (fun c q1 q2 => ov c (by omega)) b2, b3⟩
    · rw [show (wr J 1 1 (nI 0)) 3 = J 3 from wr_ne (by omega)]; exact ee1
    · rw [show (wr J 1 1 (nI 0)) 3 = J 3 from wr_ne (by omega)]; exact ee2
theorem q_cpy {K : Int32 → ab_F → ab_F → Prop} {I A : ab_F} (h : K (A 3 3) (wr I 0 4 (nI 0)) (wrow A 1 (m_cp 608 (A 3) (A 1)))) : ∃ nf, wlX12_parseSystem_58 K nf (nI 0) I A := by
  have g : ∀ m i, i + m = 608 → wlX12_parseSystem_58 K (m + 1) (nI i) I (wrow A 1 (m_cp i (A 3) (A 1))) := by
    intro m
    induction m with
    | zero =>
      intro i hi
      rw [show i = 608 by omega]
      refine br_t (by decide) ?_
      rw [wrow_at, show m_cp 608 (A 3) (A 1) 3 = A 3 3 from if_pos (by omega)]; exact h
    | succ m ih =>
      intro i hi
      refine br_f (nI_ge (by omega) (by omega)) (ix0 (by omega) (ix0 (by omega) ?_))
      rw [nI_add i 1, wr_w, wrow_wrow, wrow_at, wrow_ne (c' := 3) (by omega), m_cp_st]
      exact ih (i + 1) (by omega)
  have := g 608 0 (by omega)
  rw [show m_cp 0 (A 3) (A 1) = A 1 from funext (fun j => if_neg (by omega)), wrow_id] at this
  exact ⟨_, this⟩
theorem r_parse {B : Nat} {s : st_S} {K : Int32 → ab_F → ab_F → Prop} {I A : ab_F} (r : RMs B s I A) (o : oM B (s_parse s) K) : wX12_parseSystem K I A := by
  obtain ⟨⟨ra, iv⟩, ⟨h1, h2, h3⟩, ⟨t1, t2, t3⟩, ⟨e1, e2⟩, p1, p2, p3⟩ := r
  refine q_lay (fun A1 a1 w1 => ?_)
  unfold wX12_begin
  generalize hJ : wr (wr (wr (wr (wr (wr I 0 5 (nI 0)) 0 12 (-1 : Int32)) 0 10 ((wr (wr I 0 5 (nI 0)) 0 12 (-1 : Int32)) 0 7)) 0 7 (nI 0)) 0 9 (nI 0)) 0 11 (nI 0) = J
  have z0 : nI 0 = 0 := rfl
  have q : J 0 5 = 0 ∧ J 0 10 = I 0 7 ∧ J 0 7 = 0 ∧ J 0 9 = 0 ∧ J 0 11 = 0 ∧ J 0 12 = -1 ∧ J 0 4 = I 0 4 ∧ J 0 18 = I 0 18 := by
    subst hJ
    simp [wr, z0]
  obtain ⟨q5, q10, q7, q9, q11, q12, q4, q18⟩ := q
  have x : TxM s.2.2.1 J A1 := ⟨t1, q10.trans t2, fun i hi => by rw [a1 5 (by omega)]; exact t3 i hi⟩
  have z := nt_To s.2.2.1 (b := 0) (by omega)
  have z5 := n1_To (n1_To (n1_To (n1_To (n1_To z))))
  have ew := sys_ew s.2.2.1 w1
  have fail : ∀ c p J' A', (p_sys s.2.2.1 wl0).1.1 ≠ 0 → c = (p_sys s.2.2.1 wl0).1.1 → p = (p_sys s.2.2.1 wl0).1.2 → c < 16 → J' 0 11 = nI c → J' 0 12 = nI p → Kr J J' → A3 A1 A' → wjX12_parseSystem_47 K J' A' := by
    intro c p J' A' hne ec ep hc f11 f12 k a
    have hc1 : 1 ≤ c := by omega
    refine br_f (ft1 f11 hc1 hc) (o.k (B0 := B) (s := (s.1, s.2.1, (s.2.2.1.1, 0), (nI (p_sys s.2.2.1 wl0).1.1, nI (p_sys s.2.2.1 wl0).1.2), s.2.2.2.2)) (by unfold s_parse; rw [if_pos hne]) (Nat.le_refl _) ?_ ((k 0 5 (fun _ => by omega)).trans q5) rfl)
    have aa : ∀ c, c ≠ 3 → A' c = A c := fun c q => (a c q).trans (a1 c q)
    refine ⟨⟨by rw [aa 1 (by omega)]; exact ra, iv⟩, ⟨h1, by rw [k 0 4 (fun _ => by omega), q4]; exact h2, fun i hi => ⟨(h3 i hi).1, fun j hj => by rw [aa 4 (by omega)]; exact (h3 i hi).2 j hj⟩⟩, ⟨by show 0 ≤ 400; omega, by rw [k 0 7 (fun _ => by omega)]; exact q7, fun i hi => absurd hi (by show ¬ i < 0; omega)⟩, ⟨by rw [f11, ec], by rw [f12, ep]⟩, p1, by rw [k 0 18 (fun _ => by omega), q18]; exact p2, fun i hi => by rw [aa 10 (by omega)]; exact p3 i hi⟩
  refine q_next (b := 0) x (by omega) q9 (fun J1 y1 k1 x1 => ?_)
  have f1 := (kq11 k1).trans q11
  refine q_rsys x1 y1 z f1 (fun e J2 y2 k2 => ?_) (fun e J2 A2 b1 b2 k2 a2 b3 => ?_)
  · have f2 := (kq11 k2).trans f1
    generalize hA2 : wr (wr (wr A1 3 0 (tv s.2.2.1 (n1 s.2.2.1 (nt s.2.2.1 0)))) 3 1 (tv s.2.2.1 (n2 s.2.2.1 (nt s.2.2.1 0)))) 3 2 (nI (p_pol s.2.2.1 (n3 s.2.2.1 (nt s.2.2.1 0)))) = A2
    have a2 : A3 A1 A2 := by subst hA2; exact (A3.refl A1).w.w.w
    have e2 : A2 3 = uw (uw (uw (A1 3) 0 (tv s.2.2.1 (n1 s.2.2.1 (nt s.2.2.1 0)))) 1 (tv s.2.2.1 (n2 s.2.2.1 (nt s.2.2.1 0)))) 2 (nI (p_pol s.2.2.1 (n3 s.2.2.1 (nt s.2.2.1 0)))) := by subst hA2; rw [wr_w, wr_w, wr_w, wrow_at, wrow_at, wrow_at]
    have es : p_lp s.2.2.1 7 0 (A2 3) (n5 s.2.2.1 (nt s.2.2.1 0)) = p_sys s.2.2.1 (A1 3) := by rw [e2]; unfold p_sys; rw [if_neg (fun w => w e)]
    have e33 : A2 3 3 = nI 0 := by rw [e2, uw_ne (by omega), uw_ne (by omega), uw_ne (by omega), w1 3 (by omega)]; rfl
    refine ⟨7, q_plp 7 0 (n5 s.2.2.1 (nt s.2.2.1 0)) J2 A2 rfl (by omega) e33 (TxM_3 (TxM_kq x1 k2) a2) y2 z5 f2 (fun e J3 k3 => ?_) (fun e J3 A3' b1 b2 b3 k3 a3 => ?_)⟩
    · rw [es] at e ⊢
      have g := Gw_sys s.2.2.1 (by rw [← ew.1]; exact e)
      have f3 := (kq11 k3).trans f2
      refine br_t (f0_le f3) (q_cpy ?_)
      rw [wrow_at, wrow_ne (c' := 1) (by omega)]
      have er : Ew (p_sys s.2.2.1 wl0).2.2 (p_sys s.2.2.1 (A1 3)).2.2 := ew.2.2
      have em : m_cp 608 (p_sys s.2.2.1 (A1 3)).2.2 (A2 1) = m_cp 608 (p_sys s.2.2.1 wl0).2.2 s.1 := by
        rw [a2 1 (by omega), a1 1 (by omega), ra]
        funext j
        unfold m_cp
        by_cases hj : j < 608
        · rw [if_pos hj, if_pos hj]; exact er j hj
        · rw [if_neg hj, if_neg hj]
      rw [em, show (p_sys s.2.2.1 (A1 3)).2.2 3 = nI (p_sys s.2.2.1 wl0).2.1 from (er 3 (by omega)).trans g.2.2.2.2.1]
      have kk : Kr J J3 := (k1.r.trans k2.r).trans k3.r
      refine o.k (B0 := B) (s := (m_cp 608 (p_sys s.2.2.1 wl0).2.2 s.1, (s.2.1.1, 0), (s.2.2.1.1, 0), (nI 0, -1), s.2.2.2.2)) (by unfold s_parse; rw [if_neg (fun w => w (by rw [← ew.1]; exact e))]) (Nat.le_refl _) ?_ ?_ rfl
      · refine ⟨⟨wrow_at _ _ _, Iv_ew (cp_ew _ _) (Iv_G B g)⟩, ⟨by show 0 ≤ 10; omega, wr_ate _ _ _ _, fun i hi => absurd hi (by show ¬ i < 0; omega)⟩, ⟨by show 0 ≤ 400; omega, ?_, fun i hi => absurd hi (by show ¬ i < 0; omega)⟩, ⟨?_, ?_⟩, p1, ?_, fun i hi => ?_⟩
        · rw [wr_nei (by omega), kk 0 7 (fun _ => by omega)]; exact q7
        · rw [wr_nei (by omega), f3]; rfl
        · rw [wr_nei (by omega), (k3 0 12 (fun _ => by omega)), (k2 0 12 (fun _ => by omega)), (k1 0 12 (fun _ => by omega))]; exact q12
        · rw [wr_nei (by omega), kk 0 18 (fun _ => by omega), q18]; exact p2
        · rw [wrow_ne (by omega), wrow_ne (by omega), a2 10 (by omega), a1 10 (by omega)]; exact p3 i hi
      · rw [wr_nei (by omega), kk 0 5 (fun _ => by omega)]; exact q5
    · rw [es] at e b1 b2 b3
      rw [ew.1] at e b1 b2 b3
      exact fail _ _ J3 A3' e rfl rfl b3 b1 b2 ((k1.r.trans k2.r).trans k3) (fun c q => (a3 c q).trans (a2 c q))
  · have es : p_sys s.2.2.1 wl0 = (p_hd s.2.2.1 (nt s.2.2.1 0), 0, wl0) := by unfold p_sys; rw [if_pos e]
    have hc : (p_hd s.2.2.1 (nt s.2.2.1 0)).1 < 16 := by
      have c1 := p_num_le s.2.2.1 (n1 s.2.2.1 (nt s.2.2.1 0)) 1 16
      have c2 := p_num_le s.2.2.1 (n2 s.2.2.1 (nt s.2.2.1 0)) 1 48
      unfold p_hd
      split
      · show 1 < 16; omega
      · split
        · exact Nat.lt_of_le_of_lt c1 (by omega)
        · split
          · exact Nat.lt_of_le_of_lt c2 (by omega)
          · split
            · show 1 < 16; omega
            · split
              · show 1 < 16; omega
              · show 0 < 16; omega
    obtain ⟨T', y', z'⟩ := b3
    have x' : TxM s.2.2.1 J2 A2 := ⟨x1.1, (k2 0 10 (fun _ => by omega)).trans x1.2.1, fun i hi => by rw [a2 5 (by omega)]; exact x1.2.2 i hi⟩
    have f := fail _ _ J2 A2 (by rw [es]; exact e) (by rw [es]) (by rw [es]) hc b1 b2 (k1.r.trans k2) a2
    exact ⟨1, q_rpF x' y' z' b1 (by omega) hc (rb_f (ft0 b1 (by omega) hc) f)⟩
