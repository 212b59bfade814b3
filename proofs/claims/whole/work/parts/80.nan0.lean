/-! the values of float pages, and those that their slots keep, hold no NaN but one -/
def okv (v : Int32) : Prop := m_nan v = true → v = nI 2143289344
def Nv (w : Nat → Int32) : Prop := ∀ k, k < 48 → w (14 + k / 8) = nI 1 → okv (w (32 + k)) ∧ ∀ s, s < 48 → (w (80 + k) = nI s ∨ w (272 + k) = nI s ∨ (m_has (w 10) (k / 8) = true ∧ w (224 + k) = nI s)) → okv (w (368 + s))
theorem Nv_Nf {w : Nat → Int32} (n : Nv w) : Nf w := fun k hk kd => (n k hk kd).1
/-- the places that matter -/
def Fj (j : Nat) : Prop := j = 10 ∨ (14 ≤ j ∧ j < 20) ∨ (32 ≤ j ∧ j < 128) ∨ (224 ≤ j ∧ j < 320) ∨ (368 ≤ j ∧ j < 416)
theorem Nv_fr {w w' : Nat → Int32} (h : ∀ j, Fj j → w' j = w j) (n : Nv w) : Nv w' := by
  intro k hk kd
  unfold Fj at h
  rw [h _ (by omega)] at kd
  have q := n k hk kd
  refine ⟨by rw [h _ (by omega)]; exact q.1, fun s hs r => ?_⟩
  rw [h (368 + s) (by omega)]
  rw [h (80 + k) (by omega), h (272 + k) (by omega), h 10 (by omega), h (224 + k) (by omega)] at r
  exact q.2 s hs r
theorem pu_ne {w : Nat → Int32} {k s j : Nat} (h : j ≠ 368 + s ∧ j ≠ 416 + s ∧ j ≠ 464 + s ∧ j ≠ 80 + k ∧ j ≠ 7 ∧ j ≠ 176 + k ∧ j ≠ 224 + k ∧ j ≠ 11) : m_put w k s j = w j := by
  unfold m_put
  split
  · rw [uw_ne (by omega), uw_ne (by omega), m_put0_ne (by omega) (by omega) (by omega) (by omega) (by omega) (by omega)]
  · rw [m_put0_ne (by omega) (by omega) (by omega) (by omega) (by omega) (by omega)]
theorem pu_v {w : Nat → Int32} {k s : Nat} (hk : k < 48) (hs : s < 48) : m_put w k s (368 + s) = w (32 + k) := by
  have e : m_put0 w k s (368 + s) = w (32 + k) := by
    unfold m_put0
    rw [uw_ne (by omega), uw_ne (by omega), uw_ne (by omega), uw_ne (by omega), uw_ne (by omega), uw_at]
  unfold m_put
  split
  · rw [uw_ne (by omega), uw_ne (by omega), e]
  · exact e
theorem pu_80 {w : Nat → Int32} {k s : Nat} (hk : k < 48) (hs : s < 48) : m_put w k s (80 + k) = nI s := by
  have e : m_put0 w k s (80 + k) = nI s := by
    unfold m_put0
    rw [uw_ne (by omega), uw_ne (by omega), uw_at]
  unfold m_put
  split
  · rw [uw_ne (by omega), uw_ne (by omega), e]
  · exact e
theorem pu_224 {w : Nat → Int32} {k s : Nat} (hk : k < 48) (hs : s < 48) : m_put w k s (224 + k) = nI s ∨ m_put w k s (224 + k) = w (224 + k) := by
  unfold m_put
  split
  · left; rw [uw_ne (by omega), uw_at]
  · right; rw [m_put0_ne (by omega) (by omega) (by omega) (by omega) (by omega) (by omega)]
theorem fr_no {w : Nat → Int32} {s : Int32} (h : m_use w s = 0) : ∀ k, k < 48 → m_u1 w s k = false ∧ m_u2 w s k = false ∧ m_u4 w s k = false := by
  unfold m_use at h
  rw [b3_z] at h
  have fa : ∀ {p : Nat → Bool}, ex p 48 = false → ∀ k, k < 48 → p k = false := fun {p} e k hk => by
    cases q : p k with
    | false => rfl
    | true => rw [ex_iff.mpr ⟨k, hk, q⟩] at e; exact nomatch e
  exact fun k hk => ⟨fa h.1 k hk, fa h.2.1 k hk, fa h.2.2 k hk⟩
theorem nI_48 {a b : Nat} (h : nI a = nI b) (ha : a < 48) (hb : b < 48) : a = b := (nI_eq (by omega) (by omega)).mp h
theorem Nv_put {B : Nat} {w : Nat → Int32} {k s : Nat} (x : Iv B w) (n : Nv w) (hk : k < 48) (hs : s < m_S w) (hf : m_fr w s = true) : Nv (m_put w k s) := by
  have hS := x.1.2.1.2.2
  have us := fr_no (of_decide_eq_true hf)
  intro k' hk' kd
  rw [pu_ne (by omega)] at kd
  have q := n k' hk' kd
  refine ⟨by rw [pu_ne (by omega)]; exact q.1, fun s' hs' h => ?_⟩
  by_cases es : s' = s
  · subst es
    rw [pu_v hk hs']
    by_cases ek : k' = k
    · subst ek; exact q.1
    · exfalso
      have u := us k' hk'
      rcases h with h | h | ⟨h1, h2⟩
      · rw [pu_ne (by omega)] at h
        rcases x.2.2.2.1 k' hk' with a | ⟨s2, _, _, a⟩
        · rw [a] at h; exact nI_m1 (by omega) h.symm
        · have := u.1
          unfold m_u1 at this
          rw [a, decide_eq_true h] at this; exact nomatch this
      · rw [pu_ne (by omega)] at h
        rcases x.2.2.2.2.1 k' hk' with a | ⟨s2, _, _, a, b⟩
        · rw [a] at h; exact nI_m1 (by omega) h.symm
        · have := u.2.1
          unfold m_u2 at this
          rw [a, decide_eq_true h, decide_eq_false b] at this; exact nomatch this
      · rw [pu_ne (by omega)] at h1 h2
        rcases x.2.2.2.2.2.1 k' hk' h1 with a | ⟨a, _⟩ | ⟨s2, _, _, a⟩
        · rw [a] at h2; exact nI_m1 (by omega) h2.symm
        · rw [a] at h2; exact nI_m2 (by omega) h2.symm
        · have := u.2.2
          unfold m_u4 at this
          rw [a, decide_eq_true h2, h1] at this; exact nomatch this
  · rw [pu_ne (by omega)]
    refine q.2 s' hs' ?_
    rcases h with h | h | ⟨h1, h2⟩
    · by_cases ek : k' = k
      · subst ek
        rw [pu_80 hk' (by omega)] at h
        exact absurd (nI_48 h (by omega) hs').symm es
      · rw [pu_ne (by omega)] at h; exact Or.inl h
    · rw [pu_ne (by omega)] at h; exact Or.inr (Or.inl h)
    · rw [pu_ne (j := 10) (by omega)] at h1
      by_cases ek : k' = k
      · subst ek
        rcases pu_224 (w := w) (k := k') (s := s) hk' (by omega) with e | e
        · rw [e] at h2; exact absurd (nI_48 h2 (by omega) hs').symm es
        · rw [e] at h2; exact Or.inr (Or.inr ⟨h1, h2⟩)
      · rw [pu_ne (by omega)] at h2; exact Or.inr (Or.inr ⟨h1, h2⟩)
theorem Nv_lv {w : Nat → Int32} {k f : Nat} (n : Nv w) (hk : k < 48) (hf : f < 16) (e : w (128 + k) = nI f) : Nv (m_lv w k) := by
  unfold m_lv
  rw [e, nn_nI (by omega)]
  exact Nv_fr (fun j hj => by unfold Fj at hj; rw [uw_ne (by omega), uw_ne (by omega)]) n
theorem Nv_ev {B : Nat} {w : Nat → Int32} {k f : Nat} (x : Iv B w) (n : Nv w) (hk : k < 48) (hf : f < m_F w) (e : w (128 + k) = nI f) : Nv (m_ev w k) := by
  have hF := x.1.1.2.2
  have hS := x.1.2.1.2.2
  unfold m_ev
  by_cases d : w (176 + k) = nI 1
  · rw [if_pos d]
    cases h : m_nf w with
    | none => exact Nv_lv n hk (by omega) e
    | some s =>
      have l := ls_lt h
      exact Nv_lv (Nv_put x n hk l.1 l.2) hk (show f < 16 by omega) (show m_put w k s (128 + k) = nI f by rw [pu_ne (by omega)]; exact e)
  · rw [if_neg d]; exact Nv_lv n hk (by omega) e
theorem Nv_mk {B : Nat} {w : Nat → Int32} (x : Iv B w) (n : Nv w) : Nv (m_mk w) := by
  unfold m_mk
  cases h : m_ff w with
  | some f => exact n
  | none =>
    obtain ⟨g, hg, hg2⟩ := m_vf_some x.1
    obtain ⟨o, a, b, c, d⟩ := Fr_all x.1 x.2.1 h g hg2
    have eo : nn (w (320 + (m_vf w).getD 0)) = o := by rw [hg, Option.getD_some, b, nn_nI (by omega)]
    simp only [eo]
    exact Nv_ev x n a hg2 c
theorem Nv_acc {B : Nat} {w : Nat → Int32} {k : Nat} {b : Bool} (x : Iv B w) (n : Nv w) (hk : k < 48) (ht : m_th w k = true) (h : m_stk w k b = false) : Nv (m_acc w k) := by
  obtain ⟨f, hf, h1, h2⟩ := Iv_a2 x hk ht h
  have n2 : Nv (m_a2 w k) := by
    unfold m_a2
    by_cases hn : w (128 + k) = -1
    · rw [if_pos hn]
      have n0 : Nv (m_a0 w) := Nv_fr (fun j hj => by unfold Fj at hj; exact m_a0_ne (by omega) (by omega)) n
      have n1 := Nv_mk (Iv_a0 x) n0
      have hm := Iv_mk (Iv_a0 x) (by
        rw [a0_ff x.1, a0_vf x.1, a0_nf x.1, m_a0_ne (by omega) (by omega), m_a0_ne (by omega) (by omega)]
        exact stk_nf hn h)
      obtain ⟨f, hf⟩ := hm.2.1
      have hf8 := m_ff_lt hm.1.1 f hf
      show Nv (m_load (m_mk (m_a0 w)) k ((m_ff (m_mk (m_a0 w))).getD 0))
      rw [hf, Option.getD_some]
      exact Nv_fr (fun j hj => by unfold Fj at hj; unfold m_load; rw [uw_ne (by omega), uw_ne (by omega), uw_ne (by omega)]) n1
    · rw [if_neg hn]
      exact Nv_fr (fun j hj => by unfold Fj at hj; unfold m_a1; rw [uw_ne (by omega)]) n
  unfold m_acc m_a3 m_rec
  rw [h2, nn_nI (by omega)]
  exact Nv_fr (fun j hj => by unfold Fj at hj; rw [uw_ne (by omega), uw_ne (by omega)]; unfold m_sh; rw [if_neg (by omega), uw_ne (by omega)]) n2
theorem okv_val {w : Nat → Int32} {k : Nat} {v : Int32} (kd : w (14 + k / 8) = nI 1) : okv (m_val w k v) := by
  unfold m_val
  intro h
  by_cases c : m_nan v = true
  · rw [if_pos ⟨kd, c⟩]
  · rw [if_neg (fun q => c q.2)] at h; exact absurd h c
theorem Nv_st {w : Nat → Int32} {k : Nat} {v : Int32} (n : Nv w) (hk : k < 48) : Nv (m_st w k v) := by
  have ne : ∀ j, j ≠ 32 + k → j ≠ 80 + k → j ≠ 176 + k → m_st w k v j = w j := fun j a b c => by unfold m_st; rw [uw_ne c, uw_ne b, uw_ne a]
  intro k' hk' kd
  rw [ne _ (by omega) (by omega) (by omega)] at kd
  have q := n k' hk' kd
  have hr : ∀ s, s < 48 → (m_st w k v (80 + k') = nI s ∨ m_st w k v (272 + k') = nI s ∨ (m_has (m_st w k v 10) (k' / 8) = true ∧ m_st w k v (224 + k') = nI s)) → okv (m_st w k v (368 + s)) := fun s hs h => by
    rw [ne (368 + s) (by omega) (by omega) (by omega)]
    rw [ne (272 + k') (by omega) (by omega) (by omega), ne 10 (by omega) (by omega) (by omega), ne (224 + k') (by omega) (by omega) (by omega)] at h
    refine q.2 s hs ?_
    rcases h with h | h
    · by_cases ek : k' = k
      · subst ek
        have e : m_st w k' v (80 + k') = -1 := by unfold m_st; rw [uw_ne (by omega), uw_at]
        rw [e] at h; exact absurd h.symm (nI_m1 (by omega))
      · rw [ne _ (by omega) (by omega) (by omega)] at h; exact Or.inl h
    · exact Or.inr h
  refine ⟨?_, hr⟩
  by_cases ek : k' = k
  · subst ek
    have e : m_st w k' v (32 + k') = m_val w k' v := by unfold m_st; rw [uw_ne (by omega), uw_ne (by omega), uw_at]
    rw [e]; exact okv_val kd
  · rw [ne _ (by omega) (by omega) (by omega)]; exact q.1
theorem Nv_wri {B : Nat} {w : Nat → Int32} {k : Nat} {v : Int32} (x : Iv B w) (n : Nv w) (hk : k < 48) (ht : m_th w k = true) (h : m_stk w k true = false) : Nv (m_wri w k v) := by
  have h0 := w0_ok x hk ht h
  have n0 : Nv (m_w0 w k) := by
    unfold m_w0
    split
    · cases q : m_nf w with
      | none => exact n
      | some s => have l := ls_lt q; exact Nv_put x n hk l.1 l.2
    · exact n
  exact Nv_st (Nv_acc h0.1 n0 hk h0.2.1 h0.2.2.1) hk
