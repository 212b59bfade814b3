/-! runScript -/
abbrev s_scr (s : st_S) : sc_R := sc s.2.2.1 (s.2.2.1.2 + 1) 0 s.1 (nt s.2.2.1 0)
def s_runS (s : st_S) : st_O := if (s_scr s).1 = true then (0, (s_scr s).2.1, ((s_scr s).2.2, h_p s.2.1 s.1, (s.2.2.1.1, 0), s.2.2.2)) else (0, (s_scr s).2.1, (m_cp 608 s.1 (s_scr s).2.2, s.2.1, (s.2.2.1.1, 0), s.2.2.2))
theorem RC_ej {B B' : Nat} {w w' : Nat → Int32} {h : st_H} {t : st_T} {e : Int32 × Int32} {p : st_T} {Z : ab_Z} {I A I' A' : ab_F} (x : RC B w h t e p Z I A) (hB : B ≤ B') (r' : Rs 8 I' A' w') (iv' : Iv B' w') (j : Ej I A I' A') : RC B' w' h (t.1, 0) e p Z (wr I' 1 1 (nI 0)) A' := by
  obtain ⟨⟨r, iv⟩, ⟨h1, h2, s, hs, h3, h4⟩, zs, -, ⟨e1, e2⟩, cap, p1, p2, p3, p4, p5, p6, p7⟩ := RC_mono hB x
  have ov : ∀ c, (c < 8 ∨ 31 < c) → c ≠ 1 → (wr I' 1 1 (nI 0)) c = I c := fun c a b => (wr_ne b).trans (j.1 c a b)
  refine ⟨⟨Rs_off (fun c q1 q2 => ⟨wr_ne (by omega), rfl⟩) r', iv'⟩, ⟨h1, by rw [ov 32 (by omega) (by omega)]; exact h2, s, hs, by rw [ov 32 (by omega) (by omega)]; exact h3, fun i hi => ?_⟩, zs, ⟨by show 0 ≤ 400; omega, wr_ate _ _ _ _, fun i hi => absurd hi (by show ¬ i < 0; omega)⟩, ⟨by rw [ov 3 (by omega) (by omega)]; exact e1, by rw [ov 3 (by omega) (by omega)]; exact e2⟩, cap, p1, p2, by rw [ov 40 (by omega) (by omega)]; exact p3, by rw [ov 40 (by omega) (by omega)]; exact p4, p5, p6, fun i => by rw [j.2.1 Z.2.1 (by omega) (by omega)]; exact p7 i⟩
  obtain ⟨b, b1, b2, b3⟩ := h4 i hi
  have hb := (zs.1 _ b (by omega) b1).2
  exact ⟨b, b1, Rs_off (fun c q1 q2 => ⟨ov c (by omega) (by omega), j.2.1 c (by omega) (by omega)⟩) b2, b3⟩
theorem Sp_ej {w0 : Nat → Int32} {Z : ab_Z} {I A I' A' : ab_F} (zs : Zs Z) (x : Sp w0 Z I A) (j : Ej I A I' A') : Sp w0 Z (wr I' 1 1 (nI 0)) A' := by
  obtain ⟨s, b, hs, e, zb, r⟩ := x
  have hb := (zs.1 s b hs zb).2
  exact ⟨s, b, hs, by rw [show (wr I' 1 1 (nI 0)) 32 = I 32 from (wr_ne (by omega)).trans (j.1 32 (by omega) (by omega))]; exact e, zb, Rs_off (fun c q1 q2 => ⟨(wr_ne (by omega)).trans (j.1 c (by omega) (by omega)), j.2.1 c (by omega) (by omega)⟩) r⟩
theorem f_runS {B : Nat} {s : st_S} {K : Int32 → ab_Z → ab_F → ab_F → Prop} {KX : String → ab_Z → ab_F → ab_F → Prop} {Z : ab_Z} {I A : ab_F} (r : RCs B s Z I A) (hB : B + 401 < 2 ^ 29) (o : oC [] (B + 401) (s_runS s) K KX) : wX11_runScript K Z I A := by
  refine c_keep r (fun Z1 I1 A1 x1 sp => ?_)
  have zs := x1.2.2.1
  have tc : TxC s.2.2.1 I1 A1 := x1.2.2.2.1
  have k0 : Ko I1 (wr I1 1 3 (nI 0)) := Ko_w (by omega)
  have z := nt_To s.2.2.1 (b := 0) (by omega)
  refine c_next (b := 0) (TxC_ko tc k0) (by omega) (wr_ate _ _ _ _) (fun I2 y2 k2 x2 => ⟨_, c_run hB (s.2.2.1.2 + 1) 0 s.1 (nt s.2.2.1 0) I2 A1 (by omega) (by omega) (Rs_ko (k0.trans k2) (fun _ _ => rfl) x1.1.1) x1.1.2 x2 y2 z (fun I3 A3 j3 r3 => ?_)⟩)
  have iv3 : Iv (B + 401) (s_scr s).2.2 := sc_iv tc.1 hB _ 0 s.1 _ z (by omega) x1.1.2
  have jj : Ej I1 A1 I3 A3 := (Ej_ko (k0.trans k2) (fun _ _ => rfl)).trans j3
  have x3 := RC_ej (B' := B + 401) x1 (by omega) r3 iv3 jj
  have sp3 := Sp_ej zs sp jj
  have iv0 : Iv (B + 401) s.1 := x1.1.2.mono (by omega)
  cases q : (s_scr s).1 with
  | true =>
    obtain ⟨n, hn, en⟩ := sc_pos tc.1 _ 0 s.1 _ z (by omega) q
    refine br_f (by rw [en]; exact nI_pos (by omega)) (c_accept x3 sp3 iv0 (fun I4 x4 => ?_))
    exact o.k (s := ((s_scr s).2.2, h_p s.2.1 s.1, (s.2.2.1.1, 0), s.2.2.2)) (by unfold s_runS; rw [if_pos q]) (Nat.le_refl _) x4
  | false =>
    refine br_t (sc_neg tc.1 _ 0 s.1 _ z q) (c_giveBack x3 sp3 iv0 (cp_ew s.1 (s_scr s).2.2) (fun I4 A4 x4 => ?_))
    exact o.k (s := (m_cp 608 s.1 (s_scr s).2.2, s.2.1, (s.2.2.1.1, 0), s.2.2.2)) (by unfold s_runS; rw [if_neg (by rw [q]; decide)]) (Nat.le_refl _) x4
/-! the reference -/
def A6 (A A' : ab_F) : Prop := ∀ c, c ≠ 6 → A' c = A c
theorem A6.refl (A : ab_F) : A6 A A := fun _ _ => rfl
theorem A6.w {A A' : ab_F} (h : A6 A A') {i : Nat} {v : Int32} : A6 A (wr A' 6 i v) := fun c q => (wr_ne q).trans (h c q)
theorem TxM_6 {t : st_T} {I A A' : ab_F} (x : TxM t I A) (h : A6 A A') : TxM t I A' := ⟨x.1, x.2.1, fun i hi => by rw [h 5 (by omega)]; exact x.2.2 i hi⟩
theorem ft2 {v : Int32} {c : Nat} (e : v = nI c) (h : 1 ≤ c) (hc : c < 16) : 0 < v := Int32.not_le.mp (ft1 e h hc)
theorem q_91F {K : ab_F → ab_F → Prop} {I A : ab_F} {x1 x2 : Int32} {c : Nat} (e : I 0 11 = nI c) (h1 : 1 ≤ c) (hc : c < 16) (k : K I A) : wjX12_goesThrough_91 K x1 x2 I A := br_t (ft2 e h1 hc) k
theorem q_70F {K : ab_F → ab_F → Prop} {I A : ab_F} {x1 x2 : Int32} {c : Nat} (e : I 0 11 = nI c) (h1 : 1 ≤ c) (hc : c < 16) (k : K I A) : wjX12_goesThrough_70 K x1 x2 I A := rb_f (ft0 e h1 hc) (q_91F e h1 hc k)
theorem q_26F {K : ab_F → ab_F → Prop} {I A : ab_F} {x1 x2 x3 : Int32} {c n : Nat} (e : I 0 11 = nI c) (h1 : 1 ≤ c) (hc : c < 16) (k : K I A) : wlX12_goesThrough_26 K (n + 1) x1 x2 x3 I A := by
  by_cases q : nI 3 ≤ x3
  · exact br_t q (q_70F e h1 hc k)
  · exact br_f q (rb_f (ft0 e h1 hc) (q_70F e h1 hc k))
theorem q_opr {K : ab_F → ab_F → Prop} {t : st_T} {c : Nat} (hc : c < 9) (T1 : tok) (z1 : To t T1) (x1 : Int32) : ∀ m i I A, i + m = 3 → TxM t I A → TcM (o_t t (min i (o_n c)) T1) I → I 0 11 = 0 → (∀ j, j < i → A 6 j = av t (o_n c) j T1) → (o_e t (o_n c - i) (o_t t (min i (o_n c)) T1) = none → ∀ I' A', Kq I I' → A6 A A' → TcM (o_t t (o_n c) T1) I' → (∀ j, j < 3 → A' 6 j = av t (o_n c) j T1) → wjX12_goesThrough_91 K x1 (nI c) I' A') → (∀ p, o_e t (o_n c - i) (o_t t (min i (o_n c)) T1) = some p → ∀ I' A' cc, Kr I I' → A6 A A' → I' 0 12 = nI p → 1 ≤ cc → cc < 16 → I' 0 11 = nI cc → K I' A') → wlX12_goesThrough_26 K (m + 1) x1 (nI c) (nI i) I A := by
  have hn := o_n_le hc
  intro m
  induction m with
  | zero =>
    intro i I A hi x y e va h0 h1
    have ei : i = 3 := by omega
    subst ei
    have z := o_t_To (min 3 (o_n c)) T1 z1
    rw [show min 3 (o_n c) = o_n c by omega] at y h0 h1 z
    rw [show o_n c - 3 = 0 by omega] at h0 h1
    refine br_t (by decide) (rb_t e (q_isW (by omega) x y z ?_))
    rw [show (ab_st 46).2.2.2 = [59] from rfl, iw_3 z]
    refine bb' (fun q => ?_) (fun q => ?_)
    · exact q_wrong (c := 1) e rfl y.1 (q_91F (wf_11 _ _ _) (by omega) (by omega) (h1 _ (if_neg (of_decide_eq_false q)) _ A 1 Kr_wf (A6.refl A) (wf_12 _ _ _) (by omega) (by omega) (wf_11 _ _ _)))
    · exact h0 (if_pos (of_decide_eq_true q)) I A (Kq.refl I) (A6.refl A) y va
  | succ m ih =>
    intro i I A hi x y e va h0 h1
    have z := o_t_To (min i (o_n c)) T1 z1
    refine br_f (nI_ge (by omega) (by omega)) (rb_t e (o_n_q hc ?_))
    have vs : ∀ v, v = av t (o_n c) i T1 → ∀ j, j < i + 1 → (wr A 6 i v) 6 j = av t (o_n c) j T1 := fun v ev j hj => by
      by_cases ej : j = i
      · rw [ej, wr_ate]; exact ev
      · rw [wr_nei ej]; exact va j (by omega)
    by_cases ci : o_n c ≤ i
    · refine br_t (nI_le ci (by omega)) (ix0 (by omega) ?_)
      rw [nI_add i 1]
      rw [show min i (o_n c) = o_n c by omega, show o_n c - i = 0 by omega] at h0 h1
      rw [show min i (o_n c) = o_n c by omega] at y
      refine ih (i + 1) I _ (by omega) (TxM_6 x (A6.refl A).w) (by rw [show min (i + 1) (o_n c) = o_n c by omega]; exact y) e (vs _ (if_neg (by omega)).symm) (fun q I' A' k a y' v' => ?_) (fun p q I' A' cc k a e12 g1 g2 g3 => ?_)
      · rw [show min (i + 1) (o_n c) = o_n c by omega, show o_n c - (i + 1) = 0 by omega] at q
        exact h0 q I' A' k (fun c q => (a c q).trans (wr_ne q)) y' v'
      · rw [show min (i + 1) (o_n c) = o_n c by omega, show o_n c - (i + 1) = 0 by omega] at q
        exact h1 p q I' A' cc k (fun c q => (a c q).trans (wr_ne q)) e12 g1 g2 g3
    · rw [show min i (o_n c) = i by omega] at y h0 h1 z
      have eo : o_e t (o_n c - i) (o_t t i T1) = if p_num t (o_t t i T1) 0 999999999 = 0 then o_e t (o_n c - (i + 1)) (n1 t (o_t t i T1)) else some (o_t t i T1).1 := by
        rw [show o_n c - i = (o_n c - (i + 1)) + 1 by omega]; rfl
      refine br_f (nI_ge (by omega) (by omega)) (q_num x y z e (fun pn I2 y2 k2 x2 => ix0 (by omega) ?_) (fun pn v => ix0 (by omega) ?_))
      · rw [nI_add i 1]
        rw [eo, if_pos pn, ← o_t_s] at h0 h1
        refine ih (i + 1) I2 _ (by omega) (TxM_6 x2 (A6.refl A).w) (by rw [show min (i + 1) (o_n c) = i + 1 by omega, o_t_s]; exact y2) ((kq11 k2).trans e) (vs _ (if_pos (by omega)).symm) (fun q I' A' k a y' v' => ?_) (fun p q I' A' cc k a e12 g1 g2 g3 => ?_)
        · rw [show min (i + 1) (o_n c) = i + 1 by omega] at q
          exact h0 q I' A' (k2.trans k) (fun c q => (a c q).trans (wr_ne q)) y' v'
        · rw [show min (i + 1) (o_n c) = i + 1 by omega] at q
          exact h1 p q I' A' cc (k2.r.trans k) (fun c q => (a c q).trans (wr_ne q)) e12 g1 g2 g3
      · rw [eo, if_neg pn] at h1
        have hp := p_num_le t (o_t t i T1) 0 999999999
        exact q_26F (c := p_num t (o_t t i T1) 0 999999999) (wf_11 _ _ _) (by omega) (by omega) (h1 _ rfl _ _ _ Kr_wf (A6.refl A).w (wf_12 _ _ _) (by omega) (by omega) (wf_11 _ _ _))
