/-! accesses -/
theorem Fr_th {w : Nat → Int32} {k f : Nat} (z : Sz w) (x : Fr w) (hk : k < 48) (e : w (128 + k) = nI f) (hf : f < 2 ^ 31) : m_th w k = true ∧ f < m_F w ∧ w (320 + f) = nI k := by
  have hF := z.1.2
  rcases x.2 k hk with a | ⟨g, a, b, c⟩
  · rw [e] at a; exact absurd a (nI_m1 hf)
  · rw [e] at b
    have : g = f := ((nI_eq hf (by omega)).mp b).symm
    subst this
    rcases x.1 g (by omega) with a' | ⟨j, a', b', c', d', d2'⟩
    · rw [c] at a'; exact absurd a' (nI_m1 (by omega))
    · rw [c] at d'
      have : j = k := ((nI_eq (by omega) (by omega)).mp d').symm
      subst this
      exact ⟨c', a, c⟩
theorem Fr_get {w : Nat → Int32} {k : Nat} (x : Fr w) (hk : k < 48) (h : w (128 + k) ≠ -1) : ∃ f, f < m_F w ∧ w (128 + k) = nI f ∧ w (320 + f) = nI k :=
  (x.2 k hk).elim (fun e => absurd e h) id
theorem m_use_eq {w w' : Nat → Int32} (h : Sm w w') (h80 : ∀ k, k < 48 → w' (80 + k) = w (80 + k)) (h26 : ∀ p, p < 6 → w' (26 + p) = w (26 + p)) (h272 : ∀ k, k < 48 → w' (272 + k) = w (272 + k)) (h10 : w' 10 = w 10) (h224 : ∀ k, k < 48 → w' (224 + k) = w (224 + k)) (s : Int32) : m_use w' s = m_use w s := by
  unfold m_use
  rw [ex_congr (p := m_u1 w' s) (q := m_u1 w s) (fun k hk => by unfold m_u1; rw [h.th hk, h80 k hk]), ex_congr (p := m_u2 w' s) (q := m_u2 w s) (fun k hk => by unfold m_u2; rw [h.th hk, h26 (k / 8) (by omega), h272 k hk]), ex_congr (p := m_u4 w' s) (q := m_u4 w s) (fun k hk => by unfold m_u4; rw [h.th hk, h10, h224 k hk])]
theorem m_nf_eq {w w' : Nat → Int32} (z : Sz w) (h : Sm w w') (h80 : ∀ k, k < 48 → w' (80 + k) = w (80 + k)) (h26 : ∀ p, p < 6 → w' (26 + p) = w (26 + p)) (h272 : ∀ k, k < 48 → w' (272 + k) = w (272 + k)) (h10 : w' 10 = w 10) (h224 : ∀ k, k < 48 → w' (224 + k) = w (224 + k)) (h464 : ∀ s, s < 48 → w' (464 + s) = w (464 + s)) : m_nf w' = m_nf w := by
  have hS := z.2.1.2
  unfold m_nf
  rw [h.S]
  refine ls_congr (fun k hk => ?_) (fun k b hk hb => ?_)
  · unfold m_fr; rw [m_use_eq h h80 h26 h272 h10 h224]
  · unfold m_so; rw [h464 k (by omega), h464 b (by omega)]
theorem m_ff_eq {w w' : Nat → Int32} (z : Sz w) (h : Sm w w') (h1 : ∀ f, f < 16 → w' (320 + f) = w (320 + f)) : m_ff w' = m_ff w := by
  have hF := z.1.2
  unfold m_ff
  rw [h.F]
  exact fi_congr (fun k hk => by rw [h1 k (by omega)])
theorem m_lb_eq {w w' : Nat → Int32} {t : Nat} {c : Bool} (z : Sz w) (h : Sm w w') (ht : ∀ f, f < 16 → w' (t + f) = w (t + f)) (h1 : ∀ f, f < m_F w → m_od w' f = m_od w f) : m_lb w' t c = m_lb w t c := by
  have hF := z.1.2
  unfold m_lb
  rw [h.F]
  exact ls_congr (fun k hk => by rw [h1 k hk]) (fun k b hk hb => by rw [ht k (by omega), ht b (by omega)])
theorem m_vf_eq {w w' : Nat → Int32} (z : Sz w) (h : Sm w w') (h2 : w' 2 = w 2) (hu : ∀ f, f < 16 → w' (336 + f) = w (336 + f)) (hl : ∀ f, f < 16 → w' (352 + f) = w (352 + f)) (h1 : ∀ f, f < m_F w → m_od w' f = m_od w f) : m_vf w' = m_vf w := by
  unfold m_vf
  rw [h2, m_lb_eq z h hu h1, m_lb_eq z h hl h1, m_lb_eq z h hu h1]
/-- the frames are all in use, by pages -/
theorem Fr_all {w : Nat → Int32} (z : Sz w) (x : Fr w) (h : m_ff w = none) : ∀ f, f < m_F w → ∃ k, k < 48 ∧ w (320 + f) = nI k ∧ w (128 + k) = nI f ∧ m_th w k = true := by
  intro f hf
  have hF := z.1.2
  have h1 := fi_none.mp h f hf
  have h2 : ¬ w (320 + f) = -1 := of_decide_eq_false h1
  rcases x.1 f (by omega) with a | ⟨k, a, b, c, d, e⟩
  · exact absurd a h2
  · exact ⟨k, a, d, e, c⟩
theorem Iv_ev {B : Nat} {w : Nat → Int32} {k f : Nat} (x : Iv B w) (hk : k < 48) (hf : f < m_F w) (e : w (128 + k) = nI f) (hn : w (176 + k) = nI 1 → ∃ s, m_nf w = some s) : Iv B (m_ev w k) ∧ m_ev w k (320 + f) = -1 ∧ Sm w (m_ev w k) ∧ (∀ j, j < 48 → j ≠ k → m_ev w k (128 + j) = w (128 + j)) ∧ m_ev w k 5 = w 5 ∧ m_ev w k 6 = w 6 := by
  have hF := x.1.1.2
  unfold m_ev
  by_cases h1 : w (176 + k) = nI 1
  · rw [if_pos h1]
    obtain ⟨s, hs⟩ := hn h1
    rw [hs]
    have hs8 := m_nf_lt x.1 s hs
    have hs9 : s < m_S w := (ls_lt hs).1
    have ne : ∀ j, j ≠ 368 + s → j ≠ 416 + s → j ≠ 464 + s → j ≠ 80 + k → j ≠ 7 → j ≠ 176 + k → j ≠ 224 + k → j ≠ 11 → m_put w k s j = w j := fun j a b c d e f g h => m_put_ne a b c d e f g h
    have e176 : m_put w k s (176 + k) = nI 0 := by
      unfold m_put m_put0
      split
      · rw [uw_ne (by omega), uw_ne (by omega), uw_at]
      · rw [uw_at]
    have hp := Iv_put x hk (Fr_th x.1 x.2.1 hk e (by omega)).1 hs9
    have hl := Iv_lv (k := k) (f := f) hp hk (by rw [Sm_put.F]; exact hf) (by rw [ne (128 + k) (by omega) (by omega) (by omega) (by omega) (by omega) (by omega) (by omega) (by omega)]; exact e) e176
    refine ⟨hl.1, hl.2.1, Sm_put.trans hl.2.2.1, fun j hj hjk => ?_, ?_, ?_⟩
    · rw [hl.2.2.2.1 j hj hjk, ne (128 + j) (by omega) (by omega) (by omega) (by omega) (by omega) (by omega) (by omega) (by omega)]
    · rw [hl.2.2.2.2.1, ne 5 (by omega) (by omega) (by omega) (by omega) (by omega) (by omega) (by omega) (by omega)]
    · rw [hl.2.2.2.2.2, ne 6 (by omega) (by omega) (by omega) (by omega) (by omega) (by omega) (by omega) (by omega)]
  · rw [if_neg h1]
    have hd : w (176 + k) = nI 0 := (x.2.2.1 k hk).elim id (fun h => absurd h.1 h1)
    exact Iv_lv x hk hf e hd
/-- a page gets a free frame: what is kept -/
theorem Iv_load {B : Nat} {w : Nat → Int32} {k f : Nat} (x : Iv B w) (hk : k < 48) (ht : m_th w k = true) (hn : w (128 + k) = -1) (hf : m_ff w = some f) : Iv B (m_load w k f) ∧ m_load w k f (128 + k) = nI f := by
  obtain ⟨z, fr, dy, sw, ck, re, ba, po, pk, co, rc⟩ := x
  have hF := z.1.2
  have hf8 := m_ff_lt z f hf
  have hfs := fi_spec hf
  have hfree : w (320 + f) = -1 := of_decide_eq_true hfs.2.1
  have ne : ∀ j, j ≠ 320 + f → j ≠ 128 + k → j ≠ 352 + f → m_load w k f j = w j := fun j a b c => by unfold m_load; rw [uw_ne c, uw_ne b, uw_ne a]
  have e128 : m_load w k f (128 + k) = nI f := by unfold m_load; rw [uw_ne (by omega), uw_at]
  have e320 : m_load w k f (320 + f) = nI k := by unfold m_load; rw [uw_ne (by omega), uw_ne (by omega), uw_at]
  generalize hw' : m_load w k f = w' at *
  have sm : Sm w w' := ⟨ne _ (by omega) (by omega) (by omega), ne _ (by omega) (by omega) (by omega), ne _ (by omega) (by omega) (by omega), fun p hp => ne _ (by omega) (by omega) (by omega)⟩
  refine ⟨⟨sm.sz z, ⟨fun g hg => ?_, fun j hj => ?_⟩, fun j hj => ?_, Sw_eq sm (fun j hj => ne _ (by omega) (by omega) (by omega)) sw, Ck_eq sm (fun j hj => ne _ (by omega) (by omega) (by omega)) (fun j hj => ne _ (by omega) (by omega) (by omega)) ck, Re_eq sm (ne _ (by omega) (by omega) (by omega)) (fun j hj => ne _ (by omega) (by omega) (by omega)) (fun j hj h => by rw [ne _ (by omega) (by omega) (by omega)]; exact h) re, Ba_eq sm (ne _ (by omega) (by omega) (by omega)) ba, Po_eq sm (fun j hj => ne _ (by omega) (by omega) (by omega)) po, Pk_eq (ne _ (by omega) (by omega) (by omega)) (fun j hj => ne _ (by omega) (by omega) (by omega)) pk, Co_eq (ne _ (by omega) (by omega) (by omega)) (ne _ (by omega) (by omega) (by omega)) (ne _ (by omega) (by omega) (by omega)) (ne _ (by omega) (by omega) (by omega)) (ne _ (by omega) (by omega) (by omega)) co, Rc_eq sm (ne _ (by omega) (by omega) (by omega)) (fun j hj => ne _ (by omega) (by omega) (by omega)) rc⟩, e128⟩
  · by_cases hgf : g = f
    · subst hgf
      exact Or.inr ⟨k, hk, by rw [sm.F]; exact hfs.1, by rw [sm.th hk]; exact ht, e320, e128⟩
    · rw [ne (320 + g) (by omega) (by omega) (by omega), sm.F]
      rcases fr.1 g hg with a | ⟨j, a, b, c, d, d2⟩
      · exact Or.inl a
      · have hjk : j ≠ k := by
          intro h; subst h
          rw [hn] at d2
          exact nI_m1 (by omega) d2.symm
        exact Or.inr ⟨j, a, b, by rw [sm.th a]; exact c, d, by rw [ne (128 + j) (by omega) (by omega) (by omega)]; exact d2⟩
  · by_cases hjk : j = k
    · subst hjk
      exact Or.inr ⟨f, by rw [sm.F]; exact hfs.1, e128, e320⟩
    · rw [ne (128 + j) (by omega) (by omega) (by omega), sm.F]
      rcases fr.2 j hj with a | ⟨g, a, b, c⟩
      · exact Or.inl a
      · have hgf : g ≠ f := by
          intro h; subst h
          rw [hfree] at c
          exact nI_m1 (by omega) c.symm
        exact Or.inr ⟨g, a, b, by rw [ne (320 + g) (by omega) (by omega) (by omega)]; exact c⟩
  · rw [ne (176 + j) (by omega) (by omega) (by omega), ne (80 + j) (by omega) (by omega) (by omega)]
    by_cases hjk : j = k
    · subst hjk
      rcases dy j hj with a | ⟨a, b, c⟩
      · exact Or.inl a
      · exact absurd hn b
    · rw [ne (128 + j) (by omega) (by omega) (by omega)]; exact dy j hj
/-- times of frames may change -/
theorem Iv_t {B : Nat} {w : Nat → Int32} {j : Nat} {v : Int32} (x : Iv B w) (hj : 336 ≤ j ∧ j < 368) : Iv B (uw w j v) := by
  obtain ⟨z, fr, dy, sw, ck, re, ba, po, pk, co, rc⟩ := x
  have ne : ∀ i, i ≠ j → uw w j v i = w i := fun i h => uw_ne h
  have sm : Sm w (uw w j v) := Sm_uw (by omega)
  exact ⟨sm.sz z, Fr_eq sm (fun f hf => ne _ (by omega)) (fun k hk => ne _ (by omega)) fr z, Dy_eq (fun k hk => ne _ (by omega)) (fun k hk => ne _ (by omega)) (fun k hk => ne _ (by omega)) dy, Sw_eq sm (fun k hk => ne _ (by omega)) sw, Ck_eq sm (fun k hk => ne _ (by omega)) (fun k hk => ne _ (by omega)) ck, Re_eq sm (ne _ (by omega)) (fun k hk => ne _ (by omega)) (fun k hk h => by rw [ne _ (by omega)]; exact h) re, Ba_eq sm (ne _ (by omega)) ba, Po_eq sm (fun k hk => ne _ (by omega)) po, Pk_eq (ne _ (by omega)) (fun k hk => ne _ (by omega)) pk, Co_eq (ne _ (by omega)) (ne _ (by omega)) (ne _ (by omega)) (ne _ (by omega)) (ne _ (by omega)) co, Rc_eq sm (ne _ (by omega)) (fun k hk => ne _ (by omega)) rc⟩
/-- a row that differs in the counters alone -/
theorem Iv_c {B B' : Nat} {w w' : Nat → Int32} (x : Iv B w) (hB : B ≤ B') (ne : ∀ i, i ≠ 5 → i ≠ 6 → i ≠ 7 → i ≠ 9 → i ≠ 11 → w' i = w i) (co : Co B' w') : Iv B' w' := by
  obtain ⟨z, fr, dy, sw, ck, re, ba, po, pk, -, rc⟩ := x
  have n2 : ∀ i, 12 ≤ i → w' i = w i := fun i h => ne i (by omega) (by omega) (by omega) (by omega) (by omega)
  have n10 : w' 10 = w 10 := ne 10 (by omega) (by omega) (by omega) (by omega) (by omega)
  have sm : Sm w w' := ⟨ne _ (by omega) (by omega) (by omega) (by omega) (by omega), ne _ (by omega) (by omega) (by omega) (by omega) (by omega), ne _ (by omega) (by omega) (by omega) (by omega) (by omega), fun p hp => n2 _ (by omega)⟩
  exact ⟨sm.sz z, Fr_eq sm (fun f hf => n2 _ (by omega)) (fun k hk => n2 _ (by omega)) fr z, Dy_eq (fun k hk => n2 _ (by omega)) (fun k hk => n2 _ (by omega)) (fun k hk => n2 _ (by omega)) dy, Sw_eq sm (fun k hk => n2 _ (by omega)) sw, Ck_eq sm (fun k hk => n2 _ (by omega)) (fun k hk => n2 _ (by omega)) ck, Re_eq sm n10 (fun k hk => n2 _ (by omega)) (fun k hk h => by rw [n2 _ (by omega)]; exact h) re, Ba_eq sm n10 ba, (Po_eq sm (fun k hk => n2 _ (by omega)) po).mono hB, Pk_eq (ne _ (by omega) (by omega) (by omega) (by omega) (by omega)) (fun k hk => n2 _ (by omega)) pk, co, Rc_eq sm (n2 _ (by omega)) (fun k hk => n2 _ (by omega)) rc⟩
/-- the recent ones -/
theorem Iv_rec {B : Nat} {w : Nat → Int32} {k : Nat} (x : Iv B w) (hk : k < 48) (ht : m_th w k = true) : Iv B (m_rec w k) := by
  obtain ⟨z, fr, dy, sw, ck, re, ba, po, pk, co, rc⟩ := x
  have ne : ∀ i, i ≠ 12 → (i < 512 ∨ 576 ≤ i) → m_rec w k i = w i := fun i h h2 => by
    unfold m_rec m_sh
    rw [uw_ne h, uw_ne (by omega), if_neg (by omega)]
  have sm : Sm w (m_rec w k) := ⟨ne _ (by omega) (by omega), ne _ (by omega) (by omega), ne _ (by omega) (by omega), fun p hp => ne _ (by omega) (by omega)⟩
  refine ⟨sm.sz z, Fr_eq sm (fun f hf => ne _ (by omega) (by omega)) (fun k hk => ne _ (by omega) (by omega)) fr z, Dy_eq (fun k hk => ne _ (by omega) (by omega)) (fun k hk => ne _ (by omega) (by omega)) (fun k hk => ne _ (by omega) (by omega)) dy, Sw_eq sm (fun k hk => ne _ (by omega) (by omega)) sw, Ck_eq sm (fun k hk => ne _ (by omega) (by omega)) (fun k hk => ne _ (by omega) (by omega)) ck, Re_eq sm (ne _ (by omega) (by omega)) (fun k hk => ne _ (by omega) (by omega)) (fun k hk h => by rw [ne _ (by omega) (by omega)]; exact h) re, Ba_eq sm (ne _ (by omega) (by omega)) ba, Po_eq sm (fun k hk => ne _ (by omega) (by omega)) po, Pk_eq (ne _ (by omega) (by omega)) (fun k hk => ne _ (by omega) (by omega)) pk, Co_eq (ne _ (by omega) (by omega)) (ne _ (by omega) (by omega)) (ne _ (by omega) (by omega)) (ne _ (by omega) (by omega)) (ne _ (by omega) (by omega)) co, ?_⟩
  obtain ⟨r, hr, e, hx⟩ := rc
  have hle : nI 64 ≤ w 12 ↔ 64 ≤ r := by rw [e]; exact nI_leI (by omega) (by omega)
  have hat : ∀ i, i < 64 → i < r + 1 → ∃ j, j < 48 ∧ m_th (m_rec w k) j = true ∧ m_rec w k (512 + i) = nI j := by
    intro i hi hir
    cases i with
    | zero =>
      refine ⟨k, hk, by rw [sm.th hk]; exact ht, ?_⟩
      unfold m_rec
      rw [uw_ne (by omega), uw_at]
    | succ i =>
      obtain ⟨j, a, b, c⟩ := hx i (by omega)
      refine ⟨j, a, by rw [sm.th a]; exact b, ?_⟩
      unfold m_rec m_sh
      rw [uw_ne (by omega), uw_ne (by omega), if_pos (by omega), ← c]
      congr 1
  by_cases h : 64 ≤ r
  · refine ⟨r, hr, ?_, fun i hi => hat i (by omega) (by omega)⟩
    unfold m_rec
    rw [uw_at, if_pos (hle.mpr h)]; exact e
  · refine ⟨r + 1, by omega, ?_, fun i hi => hat i (by omega) (by omega)⟩
    unfold m_rec
    rw [uw_at, if_neg (fun q => h (hle.mp q)), e]; exact nI_add r 1
theorem Iv_a3 {B : Nat} {w : Nat → Int32} {k f : Nat} (x : Iv B w) (hk : k < 48) (e : w (128 + k) = nI f) (hf : f < 16) : Iv B (m_a3 w k) ∧ m_a3 w k (128 + k) = nI f := by
  have h1 : Iv B (uw w (336 + f) (w 5)) := Iv_t x (by omega)
  have hth := (Fr_th x.1 x.2.1 hk e (by omega)).1
  unfold m_a3
  rw [e, nn_nI (by omega)]
  refine ⟨Iv_rec h1 hk (by rw [(Sm_uw (by omega) : Sm w (uw w (336 + f) (w 5))).th hk]; exact hth), ?_⟩
  unfold m_rec m_sh
  rw [uw_ne (by omega), uw_ne (by omega), if_neg (by omega), uw_ne (by omega)]
  exact e
