/-! the text -/
theorem by_bv (x : BitVec 32) (s : Nat) (hs : s ≤ 24) : ((x.sshiftRight s).signExtend 8).signExtend 32 &&& 255#32 = (x >>> s) &&& 255#32 := by
  refine BitVec.eq_of_getLsbD_eq (fun i hi => ?_)
  rw [BitVec.getLsbD_and, BitVec.getLsbD_and, nan_b i hi]
  by_cases h8 : i < 8
  · rw [BitVec.getLsbD_signExtend, BitVec.getLsbD_signExtend, BitVec.getLsbD_sshiftRight, BitVec.getLsbD_ushiftRight]
    simp [h8, show i < 32 by omega, show s + i < 32 by omega, show ¬ 32 ≤ i by omega]
  · simp [h8]
def bt4 (v : Int32) (k : Nat) : Int32 := ((v.toUInt32 >>> ((nI (24 - 8 * k)).toUInt32 &&& Int32.toUInt32 31)).toInt32) &&& nI 255
theorem bt4_cv (v : Int32) : ∀ k, k < 4 → (vp_nar .byte (((v >>> ((nI 8 * nI (3 - k)) &&& 31))).toInt8.toInt32)) &&& nI 255 = bt4 v k := by
  intro k hk
  rw [pk_vb]
  have : k = 0 ∨ k = 1 ∨ k = 2 ∨ k = 3 := by omega
  rcases this with e | e | e | e <;> subst e <;> rw [← Int32.toBitVec_inj]
  · exact by_bv v.toBitVec 24 (by omega)
  · exact by_bv v.toBitVec 16 (by omega)
  · exact by_bv v.toBitVec 8 (by omega)
  · exact by_bv v.toBitVec 0 (by omega)
/-- the text with one word more -/
def tw (t : st_T) (v : Int32) : st_T := (fun i => if t.2 ≤ i then bt4 v (i - t.2) else t.1 i, t.2 + 4)
theorem tw_lo {t : st_T} {v : Int32} {i : Nat} (h : i < t.2) : (tw t v).1 i = t.1 i := by show (if t.2 ≤ i then _ else _) = _; rw [if_neg (by omega)]
theorem tw_hi {t : st_T} {v : Int32} {i k : Nat} (h : i = t.2 + k) : (tw t v).1 i = bt4 v k := by show (if t.2 ≤ i then _ else _) = _; rw [if_pos (by omega), show i - t.2 = k by omega]
theorem wr_fx {I J : ab_F} {c i : Nat} {v : Int32} (h1 : J c i = v) (h2 : ∀ c' i', (c' ≠ c ∨ i' ≠ i) → J c' i' = I c' i') : J = wr I c i v := by
  funext c' i'
  by_cases e : c' = c
  · subst e
    by_cases e2 : i' = i
    · subst e2; rw [wr_ate]; exact h1
    · rw [wr_nei e2]; exact h2 _ _ (Or.inr e2)
  · rw [wr_ne e]; exact h2 _ _ (Or.inl e)
theorem c_putWord {K : ab_F → ab_F → Prop} {I A : ab_F} {t : st_T} {v : Int32} (hl : t.2 + 4 ≤ 400) (e : I 1 1 = nI t.2) (ha : ∀ i, i < t.2 → A 2 i = t.1 i) (h : ∀ A', (∀ i, i < t.2 + 4 → A' 2 i = (tw t v).1 i) → (∀ c, c ≠ 2 → A' c = A c) → K (wr I 1 1 (nI (t.2 + 4))) A') : wX10_putWord K I A v := by
  have g : ∀ m j J A', j + m = 4 → J 1 1 = nI (t.2 + j) → (∀ c i, (c ≠ 1 ∨ i ≠ 1) → J c i = I c i) → (∀ i, i < t.2 + j → A' 2 i = (tw t v).1 i) → (∀ c, c ≠ 2 → A' c = A c) → wlX10_putWord_3 K (m + 1) v (if m = 0 then -8 else nI (24 - 8 * j)) J A' := by
    intro m
    induction m with
    | zero =>
      intro j J A' hj h1 h2 h3 h4
      rw [if_pos rfl]
      refine br_t (by decide) ?_
      rw [show j = 4 by omega] at h1 h3
      rw [wr_fx h1 h2]
      exact h A' h3 h4
    | succ m ih =>
      intro j J A' hj h1 h2 h3 h4
      rw [if_neg (by omega)]
      refine br_f (nI_pos (by omega)) ?_
      rw [h1]
      refine br_f (nI_ge (by omega) (by omega)) (ix0 (by omega) ?_)
      have es : nI (24 - 8 * j) + (-8) = (if m = 0 then -8 else nI (24 - 8 * (j + 1))) := by
        have : j = 0 ∨ j = 1 ∨ j = 2 ∨ j = 3 := by omega
        rcases this with q | q | q | q <;> subst q
        · rw [show m = 3 by omega]; decide
        · rw [show m = 2 by omega]; decide
        · rw [show m = 1 by omega]; decide
        · rw [show m = 0 by omega]; decide
      rw [es, nI_add _ 1]
      refine ih (j + 1) _ _ (by omega) (by rw [wr_ate]; rfl) (fun c i q => ?_) (fun i hi => ?_) (fun c q => by rw [wr_ne q]; exact h4 c q)
      · by_cases qc : c = 1
        · subst qc
          rcases q with q | q
          · exact absurd rfl q
          · rw [wr_nei q]; exact h2 _ _ (Or.inr q)
        · rw [wr_ne qc]; exact h2 _ _ (Or.inl qc)
      · by_cases q : i = t.2 + j
        · rw [q, wr_ate, tw_hi rfl]; rfl
        · rw [wr_nei q]; exact h3 i (by omega)
  exact ⟨5, g 4 0 I A rfl (by rw [e]; rfl) (fun _ _ _ => rfl) (fun i hi => by rw [ha i (by omega), tw_lo (by omega)]) (fun _ _ => rfl)⟩
theorem q_bring {K : ab_F → ab_F → Prop} {I A : ab_F} {t : st_T} {v : Int32} (hl : t.2 + 4 ≤ 400) (e : I 0 7 = nI t.2) (ha : ∀ i, i < t.2 → A 5 i &&& nI 255 = t.1 i) (h : ∀ A', (∀ i, i < t.2 + 4 → A' 5 i &&& nI 255 = (tw t v).1 i) → (∀ c, c ≠ 5 → A' c = A c) → K (wr I 0 7 (nI (t.2 + 4))) A') : wX12_bring K I A v := by
  have g : ∀ m j J A', j + m = 4 → J 0 7 = nI (t.2 + j) → (∀ c i, (c ≠ 0 ∨ i ≠ 7) → J c i = I c i) → (∀ i, i < t.2 + j → A' 5 i &&& nI 255 = (tw t v).1 i) → (∀ c, c ≠ 5 → A' c = A c) → wlX12_bring_2 K (m + 1) v (nI m + (-1)) J A' := by
    intro m
    induction m with
    | zero =>
      intro j J A' hj h1 h2 h3 h4
      refine br_t (by decide) ?_
      rw [show j = 4 by omega] at h1 h3
      rw [wr_fx h1 h2]
      exact h A' h3 h4
    | succ m ih =>
      intro j J A' hj h1 h2 h3 h4
      rw [pred_1]
      refine br_f (nI_pos (by omega)) ?_
      rw [h1]
      refine ix0 (by omega) ?_
      rw [nI_add _ 1]
      refine ih (j + 1) _ _ (by omega) (by rw [wr_ate]; rfl) (fun c i q => ?_) (fun i hi => ?_) (fun c q => by rw [wr_ne q]; exact h4 c q)
      · by_cases qc : c = 0
        · subst qc
          rcases q with q | q
          · exact absurd rfl q
          · rw [wr_nei q]; exact h2 _ _ (Or.inr q)
        · rw [wr_ne qc]; exact h2 _ _ (Or.inl qc)
      · by_cases q : i = t.2 + j
        · rw [q, wr_ate, tw_hi rfl, ← bt4_cv v j (by omega), show 3 - j = m by omega]
        · rw [wr_nei q]; exact h3 i (by omega)
  have g4 := g 4 0 I A rfl (by rw [e]; rfl) (fun _ _ _ => rfl) (fun i hi => by rw [ha i (by omega), tw_lo (by omega)]) (fun _ _ => rfl)
  rw [pred_1] at g4
  exact ⟨5, g4⟩
theorem RC_t {B : Nat} {w : Nat → Int32} {h : st_H} {t t' : st_T} {e : Int32 × Int32} {p : st_T} {Z : ab_Z} {I A I' A' : ab_F} (x : RC B w h t e p Z I A) (hI : ∀ c, c ≠ 1 → I' c = I c) (hA : ∀ c, c ≠ 2 → A' c = A c) (ht : Tc t' I' A') : RC B w h t' e p Z I' A' := by
  obtain ⟨⟨r, iv⟩, ⟨h1, h2, s, hs, h3, h4⟩, zs, -, ⟨e1, e2⟩, cap, p1, p2, p3, p4, p5, p6, p7⟩ := x
  refine ⟨⟨Rs_off (fun c q1 q2 => ⟨hI c (by omega), hA c (by omega)⟩) r, iv⟩, ⟨h1, by rw [hI 32 (by decide)]; exact h2, s, hs, by rw [hI 32 (by decide)]; exact h3, fun i hi => ?_⟩, zs, ht, ⟨by rw [hI 3 (by decide)]; exact e1, by rw [hI 3 (by decide)]; exact e2⟩, cap, p1, p2, by rw [hI 40 (by decide)]; exact p3, by rw [hI 40 (by decide)]; exact p4, p5, p6, fun j => by rw [hA Z.2.1 (by omega)]; exact p7 j⟩
  obtain ⟨b, b1, b2, b3⟩ := h4 i hi
  have hb := (zs.1 _ b (by omega) b1).2
  exact ⟨b, b1, Rs_off (fun c q1 q2 => ⟨hI c (by omega), hA c (by omega)⟩) b2, b3⟩
theorem RM_t {B : Nat} {w : Nat → Int32} {h : st_H} {t t' : st_T} {e : Int32 × Int32} {p : st_T} {I A I' A' : ab_F} (x : RM B w h t e p I A) (hI : ∀ j, j ≠ 7 → j ≠ 5 → I' 0 j = I 0 j) (hA : ∀ c, c ≠ 5 → A' c = A c) (ht : t'.2 ≤ 400 ∧ I' 0 7 = nI t'.2 ∧ ∀ i, i < t'.2 → A' 5 i &&& nI 255 = t'.1 i) : RM B w h t' e p I' A' := by
  obtain ⟨⟨r, iv⟩, ⟨h1, h2, h3⟩, -, ⟨e1, e2⟩, p1, p2, p3⟩ := x
  exact ⟨⟨by rw [hA 1 (by decide)]; exact r, iv⟩, ⟨h1, by rw [hI 4 (by decide) (by decide)]; exact h2, fun i hi => ⟨(h3 i hi).1, fun k hk => by rw [hA 4 (by decide)]; exact (h3 i hi).2 k hk⟩⟩, ht, ⟨by rw [hI 11 (by decide) (by decide)]; exact e1, by rw [hI 12 (by decide) (by decide)]; exact e2⟩, p1, by rw [hI 18 (by decide) (by decide)]; exact p2, fun i hi => by rw [hA 10 (by decide)]; exact p3 i hi⟩
def t_5 (t : st_T) (a b c d e : Int32) : st_T := tw (tw (tw (tw (tw t a) b) c) d) e
def s_app (s : st_S) (a b c d e : Int32) : st_O := if 400 < s.2.2.1.2 + 20 then (1, 0, s) else (0, nI (s.2.2.1.2 + 20), (s.1, s.2.1, t_5 s.2.2.1 a b c d e, s.2.2.2))
theorem f_app {B : Nat} {s : st_S} {a b c d e : Int32} {K : Int32 → ab_Z → ab_F → ab_F → Prop} {KX : String → ab_Z → ab_F → ab_F → Prop} {Z : ab_Z} {I A : ab_F} (r : RCs B s Z I A) (o : oC [xSt] B (s_app s a b c d e) K KX) : wX11_appendText (fun v I A => K v Z I A) (fun E I A => KX E Z I A) I A a b c d e := by
  obtain ⟨t1, t2, t3⟩ := r.2.2.2.1
  unfold wX11_appendText
  rw [t2, nI_add, nI_leI (by omega) (by omega)]
  by_cases q : s.2.2.1.2 + 20 ≤ 400
  · refine br_t q ?_
    refine c_putWord (t := s.2.2.1) (by omega) t2 t3 (fun A1 a1 o1 => ?_)
    refine c_putWord (t := tw s.2.2.1 a) (by show s.2.2.1.2 + 4 + 4 ≤ 400; omega) (wr_ate _ _ _ _) a1 (fun A2 a2 o2 => ?_)
    refine c_putWord (t := tw (tw s.2.2.1 a) b) (by show s.2.2.1.2 + 4 + 4 + 4 ≤ 400; omega) (wr_ate _ _ _ _) a2 (fun A3 a3 o3 => ?_)
    refine c_putWord (t := tw (tw (tw s.2.2.1 a) b) c) (by show s.2.2.1.2 + 4 + 4 + 4 + 4 ≤ 400; omega) (wr_ate _ _ _ _) a3 (fun A4 a4 o4 => ?_)
    refine c_putWord (t := tw (tw (tw (tw s.2.2.1 a) b) c) d) (by show s.2.2.1.2 + 4 + 4 + 4 + 4 + 4 ≤ 400; omega) (wr_ate _ _ _ _) a4 (fun A5 a5 o5 => ?_)
    rw [wr_ate]
    refine o.k (s := (s.1, s.2.1, t_5 s.2.2.1 a b c d e, s.2.2.2)) (by unfold s_app; rw [if_neg (by omega)]; rfl) (Nat.le_refl _) (RC_t r (fun k hk => by rw [wr_ne hk, wr_ne hk, wr_ne hk, wr_ne hk, wr_ne hk]) (fun k hk => by rw [o5 k hk, o4 k hk, o3 k hk, o2 k hk, o1 k hk]) ⟨?_, wr_ate _ _ _ _, a5⟩)
    show s.2.2.1.2 + 4 + 4 + 4 + 4 + 4 ≤ 400
    omega
  · exact br_f q (o.x (c := 0) (by unfold s_app; rw [if_pos (by omega)]) rfl (Nat.le_refl _) r)
theorem r_app {B : Nat} {s : st_S} {a b c d e : Int32} {K : Int32 → ab_F → ab_F → Prop} {I A : ab_F} (r : RMs B s I A) (o : oM B (s_app s a b c d e) K) : wX12_appendText K I A a b c d e := by
  obtain ⟨t1, t2, t3⟩ := r.2.2.1
  unfold wX12_appendText
  rw [t2, nI_add, nI_leI (by omega) (by omega)]
  by_cases q : s.2.2.1.2 + 20 ≤ 400
  · refine br_t q ?_
    refine q_bring (t := s.2.2.1) (by omega) (by rw [wr_nei (by decide)]; exact t2) t3 (fun A1 a1 o1 => ?_)
    refine q_bring (t := tw s.2.2.1 a) (by show s.2.2.1.2 + 4 + 4 ≤ 400; omega) (wr_ate _ _ _ _) a1 (fun A2 a2 o2 => ?_)
    refine q_bring (t := tw (tw s.2.2.1 a) b) (by show s.2.2.1.2 + 4 + 4 + 4 ≤ 400; omega) (wr_ate _ _ _ _) a2 (fun A3 a3 o3 => ?_)
    refine q_bring (t := tw (tw (tw s.2.2.1 a) b) c) (by show s.2.2.1.2 + 4 + 4 + 4 + 4 ≤ 400; omega) (wr_ate _ _ _ _) a3 (fun A4 a4 o4 => ?_)
    refine q_bring (t := tw (tw (tw (tw s.2.2.1 a) b) c) d) (by show s.2.2.1.2 + 4 + 4 + 4 + 4 + 4 ≤ 400; omega) (wr_ate _ _ _ _) a4 (fun A5 a5 o5 => ?_)
    rw [wr_ate]
    refine o.k (s := (s.1, s.2.1, t_5 s.2.2.1 a b c d e, s.2.2.2)) (v := nI (s.2.2.1.2 + 20)) (by unfold s_app; rw [if_neg (by omega)]) (Nat.le_refl _) (RM_t r (fun k hk h5 => by rw [wr_nei hk, wr_nei hk, wr_nei hk, wr_nei hk, wr_nei hk, wr_nei h5]) (fun k hk => by rw [o5 k hk, o4 k hk, o3 k hk, o2 k hk, o1 k hk]) ⟨?_, wr_ate _ _ _ _, a5⟩) (by rw [wr_nei (by decide), wr_nei (by decide), wr_nei (by decide), wr_nei (by decide), wr_nei (by decide), wr_ate]) rfl
    show s.2.2.1.2 + 4 + 4 + 4 + 4 + 4 ≤ 400
    omega
  · exact br_f q (o.x (c := 0) (by unfold s_app; rw [if_pos (by omega)]) (Nat.le_refl _) (RM_5 r) w5)
def s_trunc (s : st_S) (x : Int32) : st_O := if m_lt x (s.2.2.1.2 + 1) = false then (1, 0, s) else (0, x, (s.1, s.2.1, (s.2.2.1.1, nn x), s.2.2.2))
theorem f_trunc {B : Nat} {s : st_S} {x : Int32} {K : Int32 → ab_Z → ab_F → ab_F → Prop} {KX : String → ab_Z → ab_F → ab_F → Prop} {Z : ab_Z} {I A : ab_F} (r : RCs B s Z I A) (o : oC [xAr] B (s_trunc s x) K KX) : wX11_truncateText (fun v I A => K v Z I A) (fun E I A => KX E Z I A) I A x := by
  obtain ⟨t1, t2, t3⟩ := r.2.2.2.1
  refine lt1 (n := s.2.2.1.2) (by omega) t2 (fun e => ?_) (fun e => ?_)
  · exact dmA (b := false) (fun _ => o.x (c := 0) (by unfold s_trunc; rw [if_pos e]) rfl (Nat.le_refl _) r) (fun q => nomatch q)
  · refine dmA (b := true) (fun q => nomatch q) (fun _ => ?_)
    obtain ⟨j, hj, ej⟩ := m_lt_of e
    have en : nn x = j := by rw [ej]; exact nn_nI (by omega)
    exact o.k (s := (s.1, s.2.1, (s.2.2.1.1, nn x), s.2.2.2)) (by unfold s_trunc; rw [if_neg (by rw [e]; decide)]) (Nat.le_refl _) (RC_t r (fun k hk => wr_ne hk) (fun k hk => rfl) ⟨by show nn x ≤ 400; omega, by rw [wr_ate, ej]; show nI j = nI (nn (nI j)); rw [nn_nI (by omega)], fun i hi => t3 i (by have : i < nn x := hi; omega)⟩)
theorem r_trunc {B : Nat} {s : st_S} {x : Int32} {K : Int32 → ab_F → ab_F → Prop} {I A : ab_F} (r : RMs B s I A) (o : oM B (s_trunc s x) K) : wX12_truncateText K I A x := by
  obtain ⟨t1, t2, t3⟩ := r.2.2.1
  refine q_inN (n := s.2.2.1.2) (by rw [t2, Int32.toInt_toInt64, nI_toInt (by omega)]) (bb' (fun q => ?_) (fun q => ?_))
  · exact o.x (c := 0) (by unfold s_trunc; rw [if_pos q]) (Nat.le_refl _) (RM_5 r) w5
  · obtain ⟨j, hj, ej⟩ := m_lt_of q
    have en : nn x = j := by rw [ej]; exact nn_nI (by omega)
    exact o.k (s := (s.1, s.2.1, (s.2.2.1.1, nn x), s.2.2.2)) (by unfold s_trunc; rw [if_neg (by rw [q]; decide)]) (Nat.le_refl _) (RM_t r (fun k hk h5 => by rw [wr_nei hk, wr_nei h5]) (fun k hk => rfl) ⟨by show nn x ≤ 400; omega, by rw [wr_ate, ej]; show nI j = nI (nn (nI j)); rw [nn_nI (by omega)], fun i hi => t3 i (by have : i < nn x := hi; omega)⟩) (by rw [wr_nei (by decide), wr_ate]) rfl
/-! a byte of the report -/
def s_repB (s : st_S) (x : Int32) : st_O := if m_lt x s.2.2.2.2.2 = false then (1, 0, s) else (0, s.2.2.2.2.1 (nn x), s)
theorem f_repB {B : Nat} {s : st_S} {x : Int32} {K : Int32 → ab_Z → ab_F → ab_F → Prop} {KX : String → ab_Z → ab_F → ab_F → Prop} {Z : ab_Z} {I A : ab_F} (r : RCs B s Z I A) (ha : ∀ i, i < s.2.2.2.2.2 → s.2.2.2.2.1 i &&& 255 = s.2.2.2.2.1 i) (o : oC [xIx] B (s_repB s x) K KX) : wX11_reportByte K KX Z I A x := by
  obtain ⟨cap, p1, p2, p3, p4, p5, p6, p7⟩ := r.2.2.2.2.2
  have g := lt0 (x := x) (n := s.2.2.2.2.2) (by omega) p4 (X := wjX11_reportByte_19 K KX x Z I A) (Y := wjX11_reportByte_20 K KX x (nI 1) Z I A) (fun e => ?_) (fun e => ?_)
  · exact g
  · exact dmI (b := false) (fun _ => o.x (c := 0) (by unfold s_repB; rw [if_pos e]) rfl (Nat.le_refl _) r) (fun q => nomatch q)
  · refine dmI (b := true) (fun q => nomatch q) (fun _ => ?_)
    obtain ⟨j, hj, ej⟩ := m_lt_of e
    have en : nn x = j := by rw [ej]; exact nn_nI (by omega)
    refine ⟨s.2.2.2.2.1, s.2.2.2.2.2, cap, j, ⟨p1, p2, p3, p4, p5, p6, p7⟩, ej, hj, ?_⟩
    rw [ha j hj]
    exact o.k (by unfold s_repB; rw [if_neg (by rw [e]; decide), en]) (Nat.le_refl _) r
theorem r_repB {B : Nat} {s : st_S} {x : Int32} {K : Int32 → ab_F → ab_F → Prop} {I A : ab_F} (r : RMs B s I A) (o : oM B (s_repB s x) K) : wX12_reportByte K I A x := by
  obtain ⟨p1, p2, p3⟩ := r.2.2.2.2
  refine q_in0 (n := s.2.2.2.2.2) p2 (by omega) (bb' (fun q => ?_) (fun q => ?_))
  · refine q_fails (b := true) (bb (fun q2 => nomatch q2) (fun _ => ?_))
    exact o.x (c := 0) (by unfold s_repB; rw [if_pos q]) (Nat.le_refl _) (RM_5 r) w5
  · refine q_fails (b := false) (bb (fun _ => ?_) (fun q2 => nomatch q2))
    obtain ⟨j, hj, ej⟩ := m_lt_of q
    have en : nn x = j := by rw [ej]; exact nn_nI (by omega)
    refine ⟨j, ej, by omega, ?_⟩
    rw [p3 j hj]
    exact o.k (by unfold s_repB; rw [if_neg (by rw [q]; decide), en]) (Nat.le_refl _) (RM_5 r) w5 rfl
