/-! the class's past: a state is kept, accepted, given back -/
theorem sh_hi {Z : ab_Z} {n : Nat} (h : 42 ≤ n) : (shC Z)[n]? = Z.2.2[n - 42]? := by
  unfold shC
  rw [List.getElem?_append_right (by exact h)]
  rfl
/-- the heap's shape with one more system -/
def z_n (Z : ab_Z) (s : Nat) : ab_Z := (va_up Z.1 s (some (shC Z).length), Z.2.1, Z.2.2 ++ ab_sysS (shC Z).length)
theorem zn_lo {Z : ab_Z} {s n : Nat} (h : 41 ≤ n) (hl : n < (shC Z).length) : (shC (z_n Z s))[n]? = (shC Z)[n]? := by
  rw [sh_len] at hl
  by_cases e : n = 41
  · subst e; rfl
  · rw [sh_hi (by omega), sh_hi (by omega)]
    show (Z.2.2 ++ ab_sysS (shC Z).length)[n - 42]? = _
    rw [List.getElem?_append_left (by omega)]
theorem zn_new {Z : ab_Z} {s : Nat} : ab_sys (shC (z_n Z s)) (shC Z).length := by
  intro k hk
  have hl := sh_len (Z := Z)
  rw [sh_hi (by omega)]
  show (Z.2.2 ++ ab_sysS (shC Z).length)[(shC Z).length + k - 42]? = _
  rw [List.getElem?_append_right (by omega), show (shC Z).length + k - 42 - Z.2.2.length = k by omega]
theorem zn_sys {Z : ab_Z} {s b : Nat} (h : ab_sys (shC Z) b) (hb : 42 ≤ b) : ab_sys (shC (z_n Z s)) b := by
  intro k hk
  have := sys_len h
  rw [zn_lo (by omega) (by omega)]
  exact h k hk
theorem zn_at {Z : ab_Z} {s : Nat} : (z_n Z s).1 s = some (shC Z).length := by show va_up Z.1 s _ s = _; unfold va_up; rw [if_pos rfl]
theorem zn_ne {Z : ab_Z} {s j : Nat} (h : j ≠ s) : (z_n Z s).1 j = Z.1 j := by show va_up Z.1 s _ j = _; unfold va_up; rw [if_neg h]
theorem zn_Zs {Z : ab_Z} {s : Nat} (z : Zs Z) (hs : s < 11) : Zs (z_n Z s) := by
  have hl := sh_len (Z := Z)
  refine ⟨fun j b hj hb => ?_, fun i j a b hi hj hij ha hb => ?_⟩
  · by_cases e : j = s
    · subst e
      rw [zn_at] at hb
      cases hb
      exact ⟨zn_new, by omega⟩
    · rw [zn_ne e] at hb
      have := z.1 j b hj hb
      exact ⟨zn_sys this.1 this.2, this.2⟩
  · by_cases e : i = s
    · subst e
      rw [zn_at] at ha
      cases ha
      rw [zn_ne (fun q => hij q.symm)] at hb
      have := sys_len (z.1 j b hj hb).1
      omega
    · rw [zn_ne e] at ha
      by_cases e2 : j = s
      · subst e2
        rw [zn_at] at hb
        cases hb
        have := sys_len (z.1 i a hi ha).1
        omega
      · rw [zn_ne e2] at hb
        exact z.2 i j a b hi hj hij ha hb
/-- the spare place holds the row w -/
def Sp (w : Nat → Int32) (Z : ab_Z) (I A : ab_F) : Prop := ∃ s b, s < 11 ∧ I 32 1 = nI s ∧ Z.1 s = some b ∧ Rs b I A w
theorem nI_11 {s s' : Nat} (h : nI s = nI s') (a : s < 11) (b : s' < 11) : s = s' := (nI_eq (by omega) (by omega)).mp h
theorem c_keep {K : ab_Z → ab_F → ab_F → Prop} {B : Nat} {w : Nat → Int32} {h : st_H} {t : st_T} {e : Int32 × Int32} {p : st_T} {Z : ab_Z} {I A : ab_F} (x : RC B w h t e p Z I A) (k : ∀ Z' I' A', RC B w h t e p Z' I' A' → Sp w Z' I' A' → K Z' I' A') : wX3_keep K Z I A := by
  obtain ⟨⟨r, iv⟩, ⟨h1, h2, s, hs, h3, h4⟩, zs, ⟨t1, t2, t3⟩, ⟨e1, e2⟩, cap, p1, p2, p3, p4, p5, p6, p7⟩ := x
  have hl := sh_len (Z := Z)
  have hpl := (List.getElem?_eq_some_iff.mp p1).1
  refine ⟨s, h3, hs, fun b hb => ⟨(zs.1 s b hs hb).1, (zs.1 s b hs hb).2, fun I' A' cp => ?_⟩, fun hb I' A' cp => ?_⟩
  · obtain ⟨hsys, hb42⟩ := zs.1 s b hs hb
    obtain ⟨c1, c2, c3⟩ := cp
    have ho := SB_out hsys p1
    refine k Z I' A' ⟨⟨Rs_off (fun c q1 q2 => c1 c (by omega)) r, iv⟩, ⟨h1, by rw [(c1 32 (by omega)).1]; exact h2, s, hs, by rw [(c1 32 (by omega)).1]; exact h3, fun i hi => ?_⟩, zs, ⟨t1, by rw [(c1 1 (by omega)).1]; exact t2, fun i hi => by rw [(c1 2 (by omega)).2]; exact t3 i hi⟩, ⟨by rw [(c1 3 (by omega)).1]; exact e1, by rw [(c1 3 (by omega)).1]; exact e2⟩, cap, p1, p2, by rw [(c1 40 (by omega)).1]; exact p3, by rw [(c1 40 (by omega)).1]; exact p4, p5, p6, fun j => by rw [(c1 Z.2.1 (by omega)).2]; exact p7 j⟩ ⟨s, b, hs, by rw [(c1 32 (by omega)).1]; exact h3, hb, Rs_cp (fun _ _ => rfl) c2 c3 r⟩
    obtain ⟨b', b1, b2, b3⟩ := h4 i hi
    have hd := zs.2 _ _ b' b (by omega) hs (by omega) b1 hb
    exact ⟨b', b1, Rs_off (fun c q1 q2 => c1 c (by omega)) b2, b3⟩
  · obtain ⟨c1, c2, c3⟩ := cp
    refine k (z_n Z s) I' A' ⟨⟨Rs_off (fun c q1 q2 => c1 c (by omega)) r, iv⟩, ⟨h1, by rw [(c1 32 (by omega)).1]; exact h2, s, hs, by rw [(c1 32 (by omega)).1]; exact h3, fun i hi => ?_⟩, zn_Zs zs hs, ⟨t1, by rw [(c1 1 (by omega)).1]; exact t2, fun i hi => by rw [(c1 2 (by omega)).2]; exact t3 i hi⟩, ⟨by rw [(c1 3 (by omega)).1]; exact e1, by rw [(c1 3 (by omega)).1]; exact e2⟩, cap, (zn_lo p2 hpl).trans p1, p2, by rw [(c1 40 (by omega)).1]; exact p3, by rw [(c1 40 (by omega)).1]; exact p4, p5, p6, fun j => by show (j < _ → A' Z.2.1 j = _) ∧ fits .byte (.int (A' Z.2.1 j)) = true; rw [(c1 Z.2.1 (by omega)).2]; exact p7 j⟩ ⟨s, (shC Z).length, hs, by rw [(c1 32 (by omega)).1]; exact h3, zn_at, Rs_cp (fun _ _ => rfl) c2 c3 r⟩
    obtain ⟨b', b1, b2, b3⟩ := h4 i hi
    have hsys := (zs.1 _ b' (by omega) b1).1
    have := sys_len hsys
    exact ⟨b', by rw [zn_ne (by omega)]; exact b1, Rs_off (fun c q1 q2 => c1 c (by omega)) b2, b3⟩
theorem hp_2 {h : st_H} {w : Nat → Int32} (hd : h.2 ≤ 10) : (h_p h w).2 = if h.2 = 10 then 10 else h.2 + 1 := by
  unfold h_p; split <;> rfl
/-- cells 32 alone differ -/
theorem Rs_32 {I A : ab_F} {b i : Nat} {v : Int32} {w : Nat → Int32} (hb : b = 8 ∨ 42 ≤ b) (r : Rs b I A w) : Rs b (wr I 32 i v) A w := Rs_off (fun c q1 q2 => ⟨wr_ne (by omega), rfl⟩) r
theorem c_accept {K : ab_F → ab_F → Prop} {B : Nat} {w w0 : Nat → Int32} {h : st_H} {t : st_T} {e : Int32 × Int32} {p : st_T} {Z : ab_Z} {I A : ab_F} (x : RC B w h t e p Z I A) (sp : Sp w0 Z I A) (iv0 : Iv B w0) (k : ∀ I', RC B w (h_p h w0) t e p Z I' A → K I' A) : wX3_accept K I A := by
  obtain ⟨⟨r, iv⟩, ⟨h1, h2, s, hs, h3, h4⟩, zs, ⟨t1, t2, t3⟩, ⟨e1, e2⟩, cap, p1, p2, p3, p4, p5, p6, p7⟩ := x
  obtain ⟨s', b, hs', q1, q2, q3⟩ := sp
  have es : s' = s := nI_11 (q1.symm.trans h3) hs' hs
  subst es
  unfold wX3_accept
  rw [h3, nI_add s' 1, show nI (s' + 1) - nI (s' + 1) / nI 11 * nI 11 = nI ((s' + 1) % 11) from pk_rem (by omega) (by omega) (by omega), h2, nI_add h.2 1]
  have ed : (if nI 10 < nI (h.2 + 1) then nI 10 else nI (h.2 + 1)) = nI (h_p h w0).2 := by
    rw [hp_2 h1]
    by_cases hd : h.2 = 10
    · rw [if_pos ((nI_ltI (by omega) (by omega)).mpr (by omega)), if_pos hd]
    · rw [if_neg (fun q => absurd ((nI_ltI (by omega) (by omega)).mp q) (by omega)), if_neg hd]
  rw [ed]
  have wI : ∀ c, c ≠ 32 → wr (wr I 32 1 (nI ((s' + 1) % 11))) 32 2 (nI (h_p h w0).2) c = I c := fun c hc => by rw [wr_ne hc, wr_ne hc]
  have hd2 := hp_2 (w := w0) h1
  refine k _ ⟨⟨Rs_32 (Or.inl rfl) (Rs_32 (Or.inl rfl) r), iv⟩, ⟨by rw [hd2]; split <;> omega, wr_ate _ _ _ _, (s' + 1) % 11, by omega, by rw [wr_nei (by decide), wr_ate], fun i hi => ?_⟩, zs, ⟨t1, by rw [wI 1 (by decide)]; exact t2, t3⟩, ⟨by rw [wI 3 (by decide)]; exact e1, by rw [wI 3 (by decide)]; exact e2⟩, cap, p1, p2, by rw [wI 40 (by decide)]; exact p3, by rw [wI 40 (by decide)]; exact p4, p5, p6, p7⟩
  rw [hd2] at hi ⊢
  unfold h_p
  by_cases hd : h.2 = 10
  · rw [if_pos hd] at hi ⊢
    by_cases h9 : i = 9
    · refine ⟨b, ?_, Rs_32 (Or.inr (zs.1 _ b hs q2).2) (Rs_32 (Or.inr (zs.1 _ b hs q2).2) ?_), ?_⟩
      · rw [show ((s' + 1) % 11 + 11 - 10 + i) % 11 = s' by omega]; exact q2
      · rw [if_pos hd]; show Rs b I A (if i = 9 then w0 else _); rw [if_pos h9]; exact q3
      · rw [if_pos hd]; show Iv B (if i = 9 then w0 else _); rw [if_pos h9]; exact iv0
    · obtain ⟨b', b1, b2, b3⟩ := h4 (i + 1) (by omega)
      have hb42 := (zs.1 _ b' (by omega) b1).2
      refine ⟨b', ?_, Rs_32 (Or.inr hb42) (Rs_32 (Or.inr hb42) ?_), ?_⟩
      · rw [show ((s' + 1) % 11 + 11 - 10 + i) % 11 = (s' + 11 - h.2 + (i + 1)) % 11 by omega]; exact b1
      · rw [if_pos hd]; show Rs b' I A (if i = 9 then w0 else _); rw [if_neg h9]; exact b2
      · rw [if_pos hd]; show Iv B (if i = 9 then w0 else _); rw [if_neg h9]; exact b3
  · rw [if_neg hd] at hi ⊢
    by_cases h9 : i = h.2
    · refine ⟨b, ?_, Rs_32 (Or.inr (zs.1 _ b hs q2).2) (Rs_32 (Or.inr (zs.1 _ b hs q2).2) ?_), ?_⟩
      · rw [show ((s' + 1) % 11 + 11 - (h.2 + 1) + i) % 11 = s' by omega]; exact q2
      · rw [if_neg hd]; show Rs b I A (if i = h.2 then w0 else _); rw [if_pos h9]; exact q3
      · rw [if_neg hd]; show Iv B (if i = h.2 then w0 else _); rw [if_pos h9]; exact iv0
    · obtain ⟨b', b1, b2, b3⟩ := h4 i (by omega)
      have hb42 := (zs.1 _ b' (by omega) b1).2
      refine ⟨b', ?_, Rs_32 (Or.inr hb42) (Rs_32 (Or.inr hb42) ?_), ?_⟩
      · rw [show ((s' + 1) % 11 + 11 - (h.2 + 1) + i) % 11 = (s' + 11 - h.2 + i) % 11 by omega]; exact b1
      · rw [if_neg hd]; show Rs b' I A (if i = h.2 then w0 else _); rw [if_neg h9]; exact b2
      · rw [if_neg hd]; show Iv B (if i = h.2 then w0 else _); rw [if_neg h9]; exact b3
theorem c_remember {K : ab_Z → ab_F → ab_F → Prop} {B : Nat} {w : Nat → Int32} {h : st_H} {t : st_T} {e : Int32 × Int32} {p : st_T} {Z : ab_Z} {I A : ab_F} (x : RC B w h t e p Z I A) (k : ∀ Z' I' A', RC B w (h_p h w) t e p Z' I' A' → K Z' I' A') : wX11_remember K Z I A :=
  c_keep x (fun Z1 I1 A1 x1 sp => c_accept x1 sp x.1.2 (fun I2 x2 => k Z1 I2 A1 x2))
theorem c_giveBack {K : ab_Z → ab_F → ab_F → Prop} {B : Nat} {w w0 w1 : Nat → Int32} {h : st_H} {t : st_T} {e : Int32 × Int32} {p : st_T} {Z : ab_Z} {I A : ab_F} (x : RC B w h t e p Z I A) (sp : Sp w0 Z I A) (iv0 : Iv B w0) (ew : Ew w0 w1) (k : ∀ I' A', RC B w1 h t e p Z I' A' → K Z I' A') : wX3_giveBack K Z I A := by
  obtain ⟨⟨r, iv⟩, ⟨h1, h2, s, hs, h3, h4⟩, zs, ⟨t1, t2, t3⟩, ⟨e1, e2⟩, cap, p1, p2, p3, p4, p5, p6, p7⟩ := x
  obtain ⟨s', b, hs', q1, q2, q3⟩ := sp
  refine ⟨s', b, q1, hs', q2, (zs.1 s' b hs' q2).1, (zs.1 s' b hs' q2).2, fun I' A' cp => ?_⟩
  obtain ⟨c1, c2, c3⟩ := cp
  refine k I' A' ⟨⟨Rs_cp ew c2 c3 q3, Iv_ew ew iv0⟩, ⟨h1, by rw [(c1 32 (by omega)).1]; exact h2, s, hs, by rw [(c1 32 (by omega)).1]; exact h3, fun i hi => ?_⟩, zs, ⟨t1, by rw [(c1 1 (by omega)).1]; exact t2, fun i hi => by rw [(c1 2 (by omega)).2]; exact t3 i hi⟩, ⟨by rw [(c1 3 (by omega)).1]; exact e1, by rw [(c1 3 (by omega)).1]; exact e2⟩, cap, p1, p2, by rw [(c1 40 (by omega)).1]; exact p3, by rw [(c1 40 (by omega)).1]; exact p4, p5, p6, fun j => by rw [(c1 Z.2.1 (by omega)).2]; exact p7 j⟩
  obtain ⟨b', b1, b2, b3⟩ := h4 i hi
  have hb42 := (zs.1 _ b' (by omega) b1).2
  exact ⟨b', b1, Rs_off (fun c q1 q2 => c1 c (by omega)) b2, b3⟩
theorem c_takeBack {K : ab_Z → ab_F → ab_F → Prop} {B d : Nat} {w w1 : Nat → Int32} {h : st_H} {t : st_T} {e : Int32 × Int32} {p : st_T} {Z : ab_Z} {I A : ab_F} (x : RC B w h t e p Z I A) (hd : h.2 = d + 1) (ew : Ew (h.1 d) w1) (k : ∀ I' A', RC B w1 (h.1, d) t e p Z I' A' → K Z I' A') : wX3_takeBack K Z I A := by
  obtain ⟨⟨r, iv⟩, ⟨h1, h2, s, hs, h3, h4⟩, zs, ⟨t1, t2, t3⟩, ⟨e1, e2⟩, cap, p1, p2, p3, p4, p5, p6, p7⟩ := x
  obtain ⟨b, b1, b2, b3⟩ := h4 d (by omega)
  rw [show (s + 11 - h.2 + d) % 11 = (s + 10) % 11 by omega] at b1
  have hb42 := (zs.1 _ b (by omega) b1).2
  unfold wX3_takeBack
  rw [h3, nI_add s 10, show nI (s + 10) - nI (s + 10) / nI 11 * nI 11 = nI ((s + 10) % 11) from pk_rem (by omega) (by omega) (by omega), h2, hd, show nI (d + 1) - nI 1 = nI d from nI_pred d]
  have wI : ∀ c, c ≠ 32 → wr (wr I 32 1 (nI ((s + 10) % 11))) 32 2 (nI d) c = I c := fun c hc => by rw [wr_ne hc, wr_ne hc]
  have x1 : RC B w (h.1, d) t e p Z (wr (wr I 32 1 (nI ((s + 10) % 11))) 32 2 (nI d)) A := by
    refine ⟨⟨Rs_32 (Or.inl rfl) (Rs_32 (Or.inl rfl) r), iv⟩, ⟨by show d ≤ 10; omega, wr_ate _ _ _ _, (s + 10) % 11, by omega, by rw [wr_nei (by decide), wr_ate], fun i hi => ?_⟩, zs, ⟨t1, by rw [wI 1 (by decide)]; exact t2, t3⟩, ⟨by rw [wI 3 (by decide)]; exact e1, by rw [wI 3 (by decide)]; exact e2⟩, cap, p1, p2, by rw [wI 40 (by decide)]; exact p3, by rw [wI 40 (by decide)]; exact p4, p5, p6, p7⟩
    have hi2 : i < d := hi
    obtain ⟨b', c1, c2, c3⟩ := h4 i (by omega)
    have hb' := (zs.1 _ b' (by omega) c1).2
    refine ⟨b', ?_, Rs_32 (Or.inr hb') (Rs_32 (Or.inr hb') c2), c3⟩
    rw [show ((s + 10) % 11 + 11 - (h.1, d).2 + i) % 11 = (s + 11 - h.2 + i) % 11 by show ((s + 10) % 11 + 11 - d + i) % 11 = _; omega]; exact c1
  exact c_giveBack x1 ⟨(s + 10) % 11, b, by omega, by rw [wr_nei (by decide), wr_ate], b1, Rs_32 (Or.inr hb42) (Rs_32 (Or.inr hb42) b2)⟩ b3 ew k
/-- the row after a change was undone -/
def h_u (h : st_H) (w : Nat → Int32) : Nat → Int32 := m_cp 608 (h.1 (h.2 - 1)) w
theorem c_undo {K : Int32 → ab_Z → ab_F → ab_F → Prop} {KX : String → ab_Z → ab_F → ab_F → Prop} {B : Nat} {w : Nat → Int32} {h : st_H} {t : st_T} {e : Int32 × Int32} {p : st_T} {Z : ab_Z} {I A : ab_F} (x : RC B w h t e p Z I A) (k0 : h.2 = 0 → KX "java/lang/IllegalStateException" Z I A) (k : 0 < h.2 → ∀ I' A', RC B (h_u h w) (h.1, h.2 - 1) t e p Z I' A' → K (nI (h.2 - 1)) Z I' A') : wX11_undo K KX Z I A := by
  have h1 := x.2.1.1
  have h2 := x.2.1.2.1
  unfold wX11_undo
  rw [h2]
  by_cases h0 : h.2 = 0
  · refine rb_t (by rw [h0]; rfl) (k0 h0)
  · refine rb_f (fun q => h0 ((nI_eq (by omega) (by omega)).mp (q.trans (show (0 : Int32) = nI 0 from rfl)))) ?_
    refine c_takeBack (d := h.2 - 1) (w1 := h_u h w) x (by omega) (fun k hk => cp_at hk) (fun I' A' x' => ?_)
    have e2 : I' 32 2 = nI (h.2 - 1) := x'.2.1.2.1
    show K (I' 32 2) Z I' A'
    rw [e2]
    exact k (by omega) I' A' x'
/-! the reference's past -/
theorem RM_k {B : Nat} {w : Nat → Int32} {h : st_H} {t : st_T} {e : Int32 × Int32} {p : st_T} {I A I' A' : ab_F} (x : RM B w h t e p I A) (hI : ∀ j, j ≠ 5 → j ≠ 8 → j ≠ 9 → j ≠ 10 → I' 0 j = I 0 j) (hA : ∀ c, c = 1 ∨ c = 4 ∨ c = 5 ∨ c = 10 → A' c = A c) : RM B w h t e p I' A' := by
  obtain ⟨⟨r, iv⟩, ⟨h1, h2, h3⟩, ⟨t1, t2, t3⟩, ⟨e1, e2⟩, p1, p2, p3⟩ := x
  refine ⟨⟨by rw [hA 1 (by omega)]; exact r, iv⟩, ⟨h1, by rw [hI 4 (by decide) (by decide) (by decide) (by decide)]; exact h2, fun i hi => ⟨(h3 i hi).1, fun k hk => by rw [hA 4 (by omega)]; exact (h3 i hi).2 k hk⟩⟩, ⟨t1, by rw [hI 7 (by decide) (by decide) (by decide) (by decide)]; exact t2, fun i hi => by rw [hA 5 (by omega)]; exact t3 i hi⟩, ⟨by rw [hI 11 (by decide) (by decide) (by decide) (by decide)]; exact e1, by rw [hI 12 (by decide) (by decide) (by decide) (by decide)]; exact e2⟩, p1, by rw [hI 18 (by decide) (by decide) (by decide) (by decide)]; exact p2, fun i hi => by rw [hA 10 (by omega)]; exact p3 i hi⟩
theorem RM_5 {B : Nat} {w : Nat → Int32} {h : st_H} {t : st_T} {e : Int32 × Int32} {p : st_T} {I A : ab_F} {v : Int32} (x : RM B w h t e p I A) : RM B w h t e p (wr I 0 5 v) A := RM_k x (fun j a _ _ _ => wr_nei a) (fun _ _ => rfl)
theorem RM_s {B B' : Nat} {w w' : Nat → Int32} {h : st_H} {t : st_T} {e : Int32 × Int32} {p : st_T} {I A : ab_F} (x : RM B w h t e p I A) (hB : B ≤ B') (iv' : Iv B' w') : RM B' w' h t e p I (wrow A 1 w') := by
  obtain ⟨⟨r, iv⟩, ⟨h1, h2, h3⟩, ⟨t1, t2, t3⟩, ⟨e1, e2⟩, p1, p2, p3⟩ := RM_mono hB x
  exact ⟨⟨wrow_at _ _ _, iv'⟩, ⟨h1, h2, fun i hi => ⟨(h3 i hi).1, fun k hk => by rw [wrow_ne (by decide)]; exact (h3 i hi).2 k hk⟩⟩, ⟨t1, t2, fun i hi => by rw [wrow_ne (by decide)]; exact t3 i hi⟩, ⟨e1, e2⟩, p1, p2, fun i hi => by rw [wrow_ne (by decide)]; exact p3 i hi⟩
theorem psh_at {P a : Nat → Int32} {h : st_H} {w : Nat → Int32} (hd : h.2 ≤ 10) (h3 : ∀ i, i < h.2 → ∀ k, k < 608 → P (608 * i + k) = h.1 i k) (ha : ∀ k, k < 608 → a k = w k) : ∀ i, i < (h_p h w).2 → ∀ k, k < 608 → m_psh P a h.2 (608 * i + k) = (h_p h w).1 i k := by
  intro i hi k hk
  rw [hp_2 hd] at hi
  unfold m_psh h_p
  by_cases e : h.2 = 10
  · rw [if_pos e] at hi ⊢
    rw [if_pos e]
    unfold m_pp
    show _ = (if i = 9 then w else h.1 (i + 1)) k
    by_cases h9 : i = 9
    · rw [if_pos (by omega), if_pos h9, show 608 * i + k - 608 * 9 = k by omega]; exact ha k hk
    · rw [if_neg (by omega), if_neg h9]
      unfold m_sf
      rw [if_pos (by omega), show 608 * i + k + 608 = 608 * (i + 1) + k by omega]
      exact h3 (i + 1) (by omega) k hk
  · rw [if_neg e] at hi ⊢
    rw [if_neg e]
    unfold m_pp
    show _ = (if i = h.2 then w else h.1 i) k
    by_cases h9 : i = h.2
    · rw [if_pos (by omega), if_pos h9, show 608 * i + k - 608 * h.2 = k by omega]; exact ha k hk
    · rw [if_neg (by omega), if_neg h9]
      exact h3 i (by omega) k hk
theorem RM_push {B : Nat} {w w0 : Nat → Int32} {h : st_H} {t : st_T} {e : Int32 × Int32} {p : st_T} {I A : ab_F} (x : RM B w h t e p I A) (iv0 : Iv B w0) (ha : ∀ k, k < 608 → A 2 k = w0 k) : RM B w (h_p h w0) t e p (wr I 0 4 (nI (m_dp h.2))) (wrow A 4 (m_psh (A 4) (A 2) h.2)) := by
  obtain ⟨⟨r, iv⟩, ⟨h1, h2, h3⟩, ⟨t1, t2, t3⟩, ⟨e1, e2⟩, p1, p2, p3⟩ := x
  have hd := hp_2 (w := w0) h1
  refine ⟨⟨by rw [wrow_ne (by decide)]; exact r, iv⟩, ⟨by rw [hd]; split <;> omega, by rw [wr_ate, hd]; rfl, fun i hi => ⟨?_, fun k hk => by rw [wrow_at]; exact psh_at h1 (fun i hi => (h3 i hi).2) ha i hi k hk⟩⟩, ⟨t1, by rw [wr_nei (by decide)]; exact t2, fun i hi => by rw [wrow_ne (by decide)]; exact t3 i hi⟩, ⟨by rw [wr_nei (by decide)]; exact e1, by rw [wr_nei (by decide)]; exact e2⟩, p1, by rw [wr_nei (by decide)]; exact p2, fun i hi => by rw [wrow_ne (by decide)]; exact p3 i hi⟩
  rw [hd] at hi
  unfold h_p
  by_cases e : h.2 = 10
  · rw [if_pos e] at hi ⊢
    show Iv B (if i = 9 then w0 else h.1 (i + 1))
    split
    · exact iv0
    · exact (h3 (i + 1) (by omega)).1
  · rw [if_neg e] at hi ⊢
    show Iv B (if i = h.2 then w0 else h.1 i)
    split
    · exact iv0
    · exact (h3 i (by omega)).1
theorem r_remember {K : ab_F → ab_F → Prop} {B : Nat} {w : Nat → Int32} {h : st_H} {t : st_T} {e : Int32 × Int32} {p : st_T} {I A : ab_F} (x : RM B w h t e p I A) (k : ∀ A', RM B w (h_p h w) t e p (wr I 0 4 (nI (m_dp h.2))) A' → K (wr I 0 4 (nI (m_dp h.2))) A') : wX12_remember K I A := by
  refine q_remember x.2.1.1 x.2.1.2.1 (k _ ?_)
  have x2 : RM B w h t e p I (wrow A 2 (m_cp 608 (A 1) (A 2))) := RM_k x (fun _ _ _ _ _ => rfl) (fun c hc => wrow_ne (by omega))
  have x3 := RM_push x2 x.1.2 (w0 := w) (fun k hk => by rw [wrow_at, cp_at hk, x.1.1])
  rw [wrow_at, wrow_ne (by decide)] at x3
  exact x3
theorem r_undo {K : Int32 → ab_F → ab_F → Prop} {B : Nat} {w : Nat → Int32} {h : st_H} {t : st_T} {e : Int32 × Int32} {p : st_T} {I A : ab_F} (x : RM B w h t e p I A) (k0 : h.2 = 0 → K (nI 0) (wr I 0 5 (nI 1)) A) (k : 0 < h.2 → ∀ I' A', RM B (h_u h w) (h.1, h.2 - 1) t e p I' A' → I' 0 5 = nI 0 → K (nI (h.2 - 1)) I' A') : wX12_undo K I A := by
  obtain ⟨⟨r, iv⟩, ⟨h1, h2, h3⟩, ⟨t1, t2, t3⟩, ⟨e1, e2⟩, p1, p2, p3⟩ := x
  refine q_undo h1 h2 k0 (fun hd => ?_)
  have g := h3 (h.2 - 1) (by omega)
  have ee : m_cp 608 (fun k => A 4 (608 * (h.2 - 1) + k)) (A 1) = h_u h w := by
    funext k
    unfold h_u
    by_cases hk : k < 608
    · rw [cp_at hk, cp_at hk]; exact g.2 k hk
    · unfold m_cp; rw [if_neg hk, if_neg hk, r]
  rw [ee]
  have ew : Ew (h.1 (h.2 - 1)) (h_u h w) := fun k hk => cp_at hk
  refine k hd _ _ ⟨⟨wrow_at _ _ _, Iv_ew ew g.1⟩, ⟨by show h.2 - 1 ≤ 10; omega, wr_ate _ _ _ _, fun i hi => ?_⟩, ⟨t1, by rw [wr_nei (by decide), wr_nei (by decide)]; exact t2, fun i hi => by rw [wrow_ne (by decide)]; exact t3 i hi⟩, ⟨by rw [wr_nei (by decide), wr_nei (by decide)]; exact e1, by rw [wr_nei (by decide), wr_nei (by decide)]; exact e2⟩, p1, by rw [wr_nei (by decide), wr_nei (by decide)]; exact p2, fun i hi => by rw [wrow_ne (by decide)]; exact p3 i hi⟩ (by rw [wr_nei (by decide), wr_ate])
  have hi2 : i < h.2 - 1 := hi
  have g2 := h3 i (by omega)
  exact ⟨g2.1, fun k hk => by rw [wrow_ne (by decide)]; exact g2.2 k hk⟩
