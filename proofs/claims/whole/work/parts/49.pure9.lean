/-! a process is restored -/
theorem uw_comm {w : Nat → Int32} {i j : Nat} {a b : Int32} (h : i ≠ j) : uw (uw w i a) j b = uw (uw w j b) i a := by
  funext x
  unfold uw
  by_cases h1 : x = i
  · subst h1; rw [if_neg h, if_pos rfl, if_pos rfl]
  · by_cases h2 : x = j
    · rw [if_pos h2, if_neg h1, if_pos h2]
    · rw [if_neg h2, if_neg h1, if_neg h1, if_neg h2]
theorem m_rsd_eq {w w' : Nat → Int32} {k : Nat} (h26 : w' (26 + k / 8) = w (26 + k / 8)) (h272 : w' (272 + k) = w (272 + k)) (h368 : w' (368 + nn (w (272 + k))) = w (368 + nn (w (272 + k)))) : m_rsd w' k = m_rsd w k := by
  unfold m_rsd
  rw [h26, h272, h368]
theorem q_r0 {K : ab_F → ab_F → Prop} {L : Int32 → Int32 → ab_F → ab_F → Prop} {I A : ab_F} {p i : Nat} (z : Sz (A 1)) (c : Ck (A 1)) (hp : p < 6) (hi : i < 8) (h : L (nI p) (nI (8 * p + i + 1)) I (wrow A 1 (m_r0 (A 1) (8 * p + i)))) : wjX12_restore_42 K L (nI p) (nI (8 * p + i)) I A := by
  have hkp : (8 * p + i) / 8 = p := by omega
  generalize hk : 8 * p + i = k at *
  have hk8 : k < 48 := by omega
  refine ixa (by omega) (ixa (by omega) ?_)
  have e26 : wr A 1 (176 + k) (nI 0) 1 (26 + p) = A 1 (26 + p) := wr_nei (by omega)
  have e272 : wr A 1 (176 + k) (nI 0) 1 (272 + k) = A 1 (272 + k) := wr_nei (by omega)
  rw [e26]
  have hst : ∀ u : Int32, u = (if A 1 (26 + k / 8) = -1 then -1 else A 1 (272 + k)) → wjX12_restore_88 K L (nI p) (nI k) u (nI 80 + nI k) I (wr A 1 (176 + k) (nI 0)) := by
    intro u hu
    refine ixa (by omega) ?_
    have eA : wr (wr A 1 (176 + k) (nI 0)) 1 (80 + k) u = wrow A 1 (uw (uw (A 1) (176 + k) (nI 0)) (80 + k) u) := by simp only [wr_w, wrow_wrow, wrow_at]
    rw [eA]
    have sm : Sm (A 1) (uw (uw (A 1) (176 + k) (nI 0)) (80 + k) u) := (Sm_uw (by omega)).trans (Sm_uw (by omega))
    have ne : ∀ j, j ≠ 176 + k → j ≠ 80 + k → uw (uw (A 1) (176 + k) (nI 0)) (80 + k) u j = A 1 j := fun j a b => by rw [uw_ne b, uw_ne a]
    have cc : Ck (uw (uw (A 1) (176 + k) (nI 0)) (80 + k) u) := Ck_eq sm (fun j hj => ne _ (by omega) (by omega)) (fun j hj => ne _ (by omega) (by omega)) c
    refine q_restored (by rw [wrow_at]; exact sm.sz z) (by rw [wrow_at]; exact cc) hk8 ?_
    rw [wrow_at, m_rsd_eq (w := A 1) (ne _ (by omega) (by omega)) (ne _ (by omega) (by omega)) (ne _ (by omega) (by omega))]
    refine ixa (by omega) ?_
    simp only [wr_w, wrow_wrow, wrow_at]
    rw [hu, nI_add k 1]
    exact h
  by_cases h1 : A 1 (26 + p) = -1
  · exact rb_t h1 (hst _ (by rw [hkp, if_pos h1]))
  · refine rb_f h1 (ixa (by omega) ?_)
    rw [e272]
    exact hst _ (by rw [hkp, if_neg h1])
theorem Iv_cl {B : Nat} {w : Nat → Int32} {k : Nat} (x : Iv B w) (hk : k < 48) (hb : m_has (w 10) (k / 8) = false) : Iv B (uw w (176 + k) (nI 0)) := by
  obtain ⟨z, fr, dy, sw, ck, re, ba, po, pk, co, rc⟩ := x
  have ne : ∀ i, i ≠ 176 + k → uw w (176 + k) (nI 0) i = w i := fun i h => uw_ne h
  have sm : Sm w (uw w (176 + k) (nI 0)) := Sm_uw (by omega)
  refine ⟨sm.sz z, Fr_eq sm (fun f hf => ne _ (by omega)) (fun k hk => ne _ (by omega)) fr z, fun j hj => ?_, Sw_eq sm (fun k hk => ne _ (by omega)) sw, Ck_eq sm (fun k hk => ne _ (by omega)) (fun k hk => ne _ (by omega)) ck, fun j hj hjb => ?_, Ba_eq sm (ne _ (by omega)) ba, Po_eq sm (fun k hk => ne _ (by omega)) po, Pk_eq (ne _ (by omega)) (fun k hk => ne _ (by omega)) pk, Co_eq (ne _ (by omega)) (ne _ (by omega)) (ne _ (by omega)) (ne _ (by omega)) (ne _ (by omega)) co, Rc_eq sm (ne _ (by omega)) (fun k hk => ne _ (by omega)) rc⟩
  · by_cases e : j = k
    · subst e; exact Or.inl (uw_at _ _ _)
    · rw [ne (176 + j) (by omega), ne (128 + j) (by omega), ne (80 + j) (by omega)]; exact dy j hj
  · rw [ne 10 (by omega)] at hjb
    have e : j ≠ k := by intro e; subst e; rw [hb] at hjb; cases hjb
    rw [ne (224 + j) (by omega), ne (176 + j) (by omega), sm.S, sm.th hj]
    exact re j hj hjb
theorem Iv_sv {B : Nat} {w : Nat → Int32} {k : Nat} {a b : Int32} (x : Iv B w) (hk : k < 48) (hd : w (176 + k) = nI 0) (ha : a = -1 ∨ ∃ s, s < m_S w ∧ a = nI s ∧ m_th w k = true) : Iv B (uw (uw w (80 + k) a) (32 + k) b) := by
  obtain ⟨z, fr, dy, sw, ck, re, ba, po, pk, co, rc⟩ := x
  have ne : ∀ i, i ≠ 80 + k → i ≠ 32 + k → uw (uw w (80 + k) a) (32 + k) b i = w i := fun i h h2 => by rw [uw_ne h2, uw_ne h]
  have e80 : uw (uw w (80 + k) a) (32 + k) b (80 + k) = a := by rw [uw_ne (by omega), uw_at]
  have sm : Sm w (uw (uw w (80 + k) a) (32 + k) b) := (Sm_uw (by omega)).trans (Sm_uw (by omega))
  generalize uw (uw w (80 + k) a) (32 + k) b = w' at *
  refine ⟨sm.sz z, Fr_eq sm (fun f hf => ne _ (by omega) (by omega)) (fun k hk => ne _ (by omega) (by omega)) fr z, fun j hj => ?_, fun j hj => ?_, Ck_eq sm (fun k hk => ne _ (by omega) (by omega)) (fun k hk => ne _ (by omega) (by omega)) ck, Re_eq sm (ne _ (by omega) (by omega)) (fun k hk => ne _ (by omega) (by omega)) (fun k hk h => by rw [ne _ (by omega) (by omega)]; exact h) re, Ba_eq sm (ne _ (by omega) (by omega)) ba, Po_eq sm (fun k hk => ne _ (by omega) (by omega)) po, Pk_eq (ne _ (by omega) (by omega)) (fun k hk => ne _ (by omega) (by omega)) pk, Co_eq (ne _ (by omega) (by omega)) (ne _ (by omega) (by omega)) (ne _ (by omega) (by omega)) (ne _ (by omega) (by omega)) (ne _ (by omega) (by omega)) co, Rc_eq sm (ne _ (by omega) (by omega)) (fun k hk => ne _ (by omega) (by omega)) rc⟩
  · rw [ne (176 + j) (by omega) (by omega), ne (128 + j) (by omega) (by omega)]
    by_cases e : j = k
    · subst e; exact Or.inl hd
    · rw [ne (80 + j) (by omega) (by omega)]; exact dy j hj
  · rw [sm.S, sm.th hj]
    by_cases e : j = k
    · subst e; rw [e80]; exact ha
    · rw [ne (80 + j) (by omega) (by omega)]; exact sw j hj
/-- what restoring a page keeps -/
def Rk (w w' : Nat → Int32) : Prop := Sm w w' ∧ w' 10 = w 10 ∧ (∀ p, p < 6 → w' (26 + p) = w (26 + p)) ∧ (∀ k, k < 48 → w' (272 + k) = w (272 + k)) ∧ (∀ s, s < 48 → w' (368 + s) = w (368 + s)) ∧ (w' 4 = w 4 ∧ w' 5 = w 5 ∧ w' 9 = w 9 ∧ w' 12 = w 12)
theorem Rk.trans {w w' w'' : Nat → Int32} (h : Rk w w') (g : Rk w' w'') : Rk w w'' :=
  ⟨h.1.trans g.1, g.2.1.trans h.2.1, fun p hp => (g.2.2.1 p hp).trans (h.2.2.1 p hp), fun p hp => (g.2.2.2.1 p hp).trans (h.2.2.2.1 p hp), fun p hp => (g.2.2.2.2.1 p hp).trans (h.2.2.2.2.1 p hp), g.2.2.2.2.2.1.trans h.2.2.2.2.2.1, g.2.2.2.2.2.2.1.trans h.2.2.2.2.2.2.1, g.2.2.2.2.2.2.2.1.trans h.2.2.2.2.2.2.2.1, g.2.2.2.2.2.2.2.2.trans h.2.2.2.2.2.2.2.2⟩
theorem Rk.refl (w : Nat → Int32) : Rk w w := ⟨⟨rfl, rfl, rfl, fun _ _ => rfl⟩, rfl, fun _ _ => rfl, fun _ _ => rfl, fun _ _ => rfl, rfl, rfl, rfl, rfl⟩
theorem Rk_uw {w : Nat → Int32} {i : Nat} {v : Int32} (h : (32 ≤ i ∧ i < 272) ∨ (320 ≤ i ∧ i < 368)) : Rk w (uw w i v) :=
  ⟨Sm_uw (by omega), uw_ne (by omega), fun p hp => uw_ne (by omega), fun p hp => uw_ne (by omega), fun p hp => uw_ne (by omega), uw_ne (by omega), uw_ne (by omega), uw_ne (by omega), uw_ne (by omega)⟩
theorem Iv_r1 {B : Nat} {w : Nat → Int32} {k : Nat} (x : Iv B w) (hk : k < 48) (hb : m_has (w 10) (k / 8) = false) : Iv B (m_r1 w k) ∧ Rk w (m_r1 w k) := by
  have hF := x.1.1.2
  have ha : (if w (26 + k / 8) = -1 then (-1 : Int32) else w (272 + k)) = -1 ∨ ∃ s, s < m_S w ∧ (if w (26 + k / 8) = -1 then (-1 : Int32) else w (272 + k)) = nI s ∧ m_th w k = true := by
    split
    · exact Or.inl rfl
    · rcases x.2.2.2.2.1 k hk with a | ⟨s, a, b, c, -⟩
      · exact Or.inl a
      · exact Or.inr ⟨s, a, b, c⟩
  have hc := Iv_cl x hk hb
  by_cases h1 : w (128 + k) = -1
  · have e : m_r1 w k = uw (uw (uw w (176 + k) (nI 0)) (80 + k) (if w (26 + k / 8) = -1 then -1 else w (272 + k))) (32 + k) (m_rsd w k) := by unfold m_r1 m_r0; rw [if_pos h1]
    rw [e]
    refine ⟨Iv_sv hc hk (uw_at _ _ _) ?_, ((Rk_uw (by omega)).trans (Rk_uw (by omega))).trans (Rk_uw (by omega))⟩
    rw [(Sm_uw (by omega) : Sm w (uw w (176 + k) (nI 0))).S, (Sm_uw (by omega) : Sm w (uw w (176 + k) (nI 0))).th hk]
    exact ha
  · obtain ⟨f, a, b, c⟩ := Fr_get x.2.1 hk h1
    have el : m_lv w k = uw (uw w (320 + f) (-1)) (128 + k) (-1) := by unfold m_lv; rw [b, nn_nI (by omega)]
    have ec : m_lv (uw w (176 + k) (nI 0)) k = uw (uw (uw w (176 + k) (nI 0)) (320 + f) (-1)) (128 + k) (-1) := by unfold m_lv; rw [uw_ne (by omega), b, nn_nI (by omega)]
    have hl := Iv_lv (k := k) (f := f) hc hk (by rw [(Sm_uw (by omega) : Sm w (uw w (176 + k) (nI 0))).F]; exact a) (by rw [uw_ne (by omega)]; exact b) (uw_at _ _ _)
    have e : m_r1 w k = uw (uw (m_lv (uw w (176 + k) (nI 0)) k) (80 + k) (if w (26 + k / 8) = -1 then -1 else w (272 + k))) (32 + k) (m_rsd w k) := by
      unfold m_r1 m_r0
      rw [if_neg h1, el, ec]
      have ne : ∀ j, j ≠ 320 + f → j ≠ 128 + k → uw (uw w (320 + f) (-1)) (128 + k) (-1) j = w j := fun j a b => by rw [uw_ne b, uw_ne a]
      have hn : nn (w (272 + k)) < 48 ∨ w (272 + k) = -1 := by
        rcases x.2.2.2.2.1 k hk with q | ⟨s, q1, q2, -⟩
        · exact Or.inr q
        · left; rw [q2, nn_nI (by have := x.1.2.1.2; omega)]; have := x.1.2.1.2; omega
      have er : m_rsd (uw (uw w (320 + f) (-1)) (128 + k) (-1)) k = m_rsd w k := by
        unfold m_rsd
        rw [ne _ (by omega) (by omega), ne _ (by omega) (by omega)]
        split
        · rfl
        · split
          · rfl
          · rw [ne _ (by omega) (by omega)]
      rw [er, ne (26 + k / 8) (by omega) (by omega), ne (272 + k) (by omega) (by omega), uw_comm (i := 128 + k) (j := 176 + k) (by omega), uw_comm (i := 320 + f) (j := 176 + k) (by omega)]
    rw [e]
    have hd : m_lv (uw w (176 + k) (nI 0)) k (176 + k) = nI 0 := by rw [ec, uw_ne (by omega), uw_ne (by omega), uw_at]
    refine ⟨Iv_sv hl.1 hk hd ?_, ?_⟩
    · rw [hl.2.2.1.S, hl.2.2.1.th hk, (Sm_uw (by omega) : Sm w (uw w (176 + k) (nI 0))).S, (Sm_uw (by omega) : Sm w (uw w (176 + k) (nI 0))).th hk]
      exact ha
    · rw [ec]
      exact ((((Rk_uw (by omega)).trans (Rk_uw (by omega))).trans (Rk_uw (by omega))).trans (Rk_uw (by omega))).trans (Rk_uw (by omega))
theorem Iv_rst {B : Nat} {w : Nat → Int32} {p : Nat} (x : Iv B w) (hp : p < 6) (hb : m_has (w 10) p = false) : ∀ i, i ≤ 8 → Iv B (up (fun i v => m_r1 v (8 * p + i)) w i) ∧ Rk w (up (fun i v => m_r1 v (8 * p + i)) w i)
  | 0, _ => ⟨x, Rk.refl w⟩
  | i + 1, h => by
    have ih := Iv_rst x hp hb i (by omega)
    have h1 := Iv_r1 (k := 8 * p + i) ih.1 (by omega) (by rw [ih.2.2.1, show (8 * p + i) / 8 = p by omega]; exact hb)
    exact ⟨h1.1, ih.2.trans h1.2⟩
theorem Iv_rs {B : Nat} {w : Nat → Int32} {p : Nat} (x : Iv B w) (hp : p < 6) (hb : m_has (w 10) p = false) : Iv B (m_rst w p) ∧ Rk w (m_rst w p) :=
  Iv_rst x hp hb _ (x.1.2.2.2 p hp).2.1
theorem q_restore {K : ab_F → ab_F → Prop} {I A : ab_F} {B p : Nat} (x : Iv B (A 1)) (hp : p < 6) (hb : m_has (A 1 10) p = false) (h : K I (wrow A 1 (m_rst (A 1) p))) : wX12_restore K I A (nI p) := by
  have hC := x.1.2.2.2 p hp
  refine nm_r (nI_mul8 p) ?_
  have hh : ∃ n, wlX12_restore_5 K n (nI p) (nI (8 * p + 0)) I (wrow A 1 (up (fun i v => m_r1 v (8 * p + i)) (A 1) 0)) := by
    refine lp (W := fun n i => wlX12_restore_5 K n (nI p) (nI (8 * p + i)) I (wrow A 1 (up (fun i v => m_r1 v (8 * p + i)) (A 1) i))) (e := m_C (A 1) p) (fun n => ?_) (fun n i hi hw => ?_)
    · have hx := Iv_rst x hp hb _ hC.2.1
      refine ixa (by omega) (br_t ?_ h)
      rw [wrow_at, hx.2.1.2.2.2 p hp, hC.1, nI_mul8, nI_add]
      exact nI_le (Nat.le_refl _) (by omega)
    · have hx := Iv_rst x hp hb i (by omega)
      refine ixa (by omega) (br_f ?_ (ixa (by omega) ?_))
      · rw [wrow_at, hx.2.1.2.2.2 p hp, hC.1, nI_mul8, nI_add]
        exact nI_ge (by omega) (by omega)
      · rw [up] at hw
        generalize up (fun i v => m_r1 v (8 * p + i)) (A 1) i = v at *
        unfold m_r1 at hw
        rw [wrow_at]
        by_cases h1 : v (128 + (8 * p + i)) = -1
        · rw [if_pos h1] at hw
          refine br_t h1 (q_r0 (by rw [wrow_at]; exact hx.1.1) (by rw [wrow_at]; exact hx.1.2.2.2.2.1) hp (by omega) ?_)
          rw [wrow_at, wrow_wrow]; exact hw
        · rw [if_neg h1] at hw
          obtain ⟨f, a, b, c⟩ := Fr_get hx.1.2.1 (by omega) h1
          have hF := hx.1.1.1.2
          refine br_f h1 (q_leave (f := f) (by omega) (by omega) (by rw [wrow_at]; exact b) ?_)
          rw [wrow_at, wrow_wrow]
          have el : m_lv v (8 * p + i) = uw (uw v (320 + f) (-1)) (128 + (8 * p + i)) (-1) := by unfold m_lv; rw [b, nn_nI (by omega)]
          have sm : Sm v (m_lv v (8 * p + i)) := by rw [el]; exact (Sm_uw (by omega)).trans (Sm_uw (by omega))
          have ck : Ck (m_lv v (8 * p + i)) := by
            rw [el]
            rw [el] at sm
            exact Ck_eq sm (fun j hj => by rw [uw_ne (by omega), uw_ne (by omega)]) (fun j hj => by rw [uw_ne (by omega), uw_ne (by omega)]) hx.1.2.2.2.2.1
          refine q_r0 (by rw [wrow_at]; exact sm.sz hx.1.1) (by rw [wrow_at]; exact ck) hp (by omega) ?_
          rw [wrow_at, wrow_wrow]; exact hw
  obtain ⟨n, hn⟩ := hh
  rw [up, wrow_id] at hn
  exact ⟨n, hn⟩
