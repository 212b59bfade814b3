/-! what every system keeps -/
def Fr (w : Nat → Int32) : Prop := (∀ f, f < 16 → w (320 + f) = -1 ∨ ∃ k, k < 48 ∧ f < m_F w ∧ m_th w k = true ∧ w (320 + f) = nI k ∧ w (128 + k) = nI f) ∧ (∀ k, k < 48 → w (128 + k) = -1 ∨ ∃ f, f < m_F w ∧ w (128 + k) = nI f ∧ w (320 + f) = nI k)
def Dy (w : Nat → Int32) : Prop := ∀ k, k < 48 → w (176 + k) = nI 0 ∨ (w (176 + k) = nI 1 ∧ w (128 + k) ≠ -1 ∧ w (80 + k) = -1)
def Sw (w : Nat → Int32) : Prop := ∀ k, k < 48 → w (80 + k) = -1 ∨ ∃ s, s < m_S w ∧ w (80 + k) = nI s ∧ m_th w k = true
def Ck (w : Nat → Int32) : Prop := ∀ k, k < 48 → w (272 + k) = -1 ∨ ∃ s, s < m_S w ∧ w (272 + k) = nI s ∧ m_th w k = true ∧ w (26 + k / 8) ≠ -1
def Re (w : Nat → Int32) : Prop := ∀ k, k < 48 → m_has (w 10) (k / 8) = true → w (224 + k) = -1 ∨ (w (224 + k) = -2 ∧ w (176 + k) = nI 1) ∨ ∃ s, s < m_S w ∧ w (224 + k) = nI s ∧ m_th w k = true
def Ba (w : Nat → Int32) : Prop := ∃ b, b < 2 ^ m_P w ∧ w 10 = nI b
def Po (B : Nat) (w : Nat → Int32) : Prop := ∀ p, p < 6 → w (26 + p) = -1 ∨ ∃ e, e ≤ B ∧ w (26 + p) = nI e ∧ p < m_P w
def Pk (w : Nat → Int32) : Prop := (w 2 = nI 0 ∨ w 2 = nI 1 ∨ w 2 = nI 2) ∧ ∀ p, p < 6 → w (14 + p) = nI 0 ∨ w (14 + p) = nI 1
def Co (B : Nat) (w : Nat → Int32) : Prop := (∃ e, e ≤ B ∧ w 4 = nI e) ∧ (∃ a f, f ≤ a ∧ a ≤ B ∧ w 5 = nI a ∧ w 6 = nI f) ∧ (∃ c, c ≤ B ∧ w 8 = nI c ∧ w 13 = nI (min c 8))
def Rc (w : Nat → Int32) : Prop := ∃ r, r ≤ 64 ∧ w 12 = nI r ∧ ∀ i, i < r → ∃ k, k < 48 ∧ m_th w k = true ∧ w (512 + i) = nI k
def Iv (B : Nat) (w : Nat → Int32) : Prop := Sz w ∧ Fr w ∧ Dy w ∧ Sw w ∧ Ck w ∧ Re w ∧ Ba w ∧ Po B w ∧ Pk w ∧ Co B w ∧ Rc w
theorem m_th_eq {w w' : Nat → Int32} (h20 : ∀ p, p < 6 → w' (20 + p) = w (20 + p)) {k : Nat} (hk : k < 48) : m_th w' k = m_th w k := by
  unfold m_th m_C
  rw [h20 (k / 8) (by omega)]
/-- the sizes' places are the same -/
def Sm (w w' : Nat → Int32) : Prop := w' 0 = w 0 ∧ w' 1 = w 1 ∧ w' 3 = w 3 ∧ ∀ p, p < 6 → w' (20 + p) = w (20 + p)
theorem Sm.sz {w w' : Nat → Int32} (h : Sm w w') (z : Sz w) : Sz w' := Sz_eq z h.1 h.2.1 h.2.2.1 h.2.2.2
theorem Sm.F {w w' : Nat → Int32} (h : Sm w w') : m_F w' = m_F w := by unfold m_F; rw [h.1]
theorem Sm.S {w w' : Nat → Int32} (h : Sm w w') : m_S w' = m_S w := by unfold m_S; rw [h.2.1]
theorem Sm.P {w w' : Nat → Int32} (h : Sm w w') : m_P w' = m_P w := by unfold m_P; rw [h.2.2.1]
theorem Sm.th {w w' : Nat → Int32} (h : Sm w w') {k : Nat} (hk : k < 48) : m_th w' k = m_th w k := m_th_eq h.2.2.2 hk
theorem Fr_eq {w w' : Nat → Int32} (h : Sm w w') (h1 : ∀ f, f < 16 → w' (320 + f) = w (320 + f)) (h2 : ∀ k, k < 48 → w' (128 + k) = w (128 + k)) (x : Fr w) (z : Sz w) : Fr w' := by
  have hF := z.1.2
  refine ⟨fun f hf => ?_, fun k hk => ?_⟩
  · rw [h1 f hf]
    rcases x.1 f hf with e | ⟨k, hk, a, b, c, d⟩
    · exact Or.inl e
    · exact Or.inr ⟨k, hk, by rw [h.F]; exact a, by rw [h.th hk]; exact b, c, by rw [h2 k hk]; exact d⟩
  · rw [h2 k hk]
    rcases x.2 k hk with e | ⟨f, a, b, c⟩
    · exact Or.inl e
    · exact Or.inr ⟨f, by rw [h.F]; exact a, b, by rw [h1 f (by omega)]; exact c⟩
theorem Dy_eq {w w' : Nat → Int32} (h1 : ∀ k, k < 48 → w' (176 + k) = w (176 + k)) (h2 : ∀ k, k < 48 → w' (128 + k) = w (128 + k)) (h3 : ∀ k, k < 48 → w' (80 + k) = w (80 + k)) (x : Dy w) : Dy w' := by
  intro k hk
  rw [h1 k hk, h2 k hk, h3 k hk]; exact x k hk
theorem Sw_eq {w w' : Nat → Int32} (h : Sm w w') (h1 : ∀ k, k < 48 → w' (80 + k) = w (80 + k)) (x : Sw w) : Sw w' := by
  intro k hk
  rw [h1 k hk, h.S, h.th hk]; exact x k hk
theorem Ck_eq {w w' : Nat → Int32} (h : Sm w w') (h1 : ∀ k, k < 48 → w' (272 + k) = w (272 + k)) (h2 : ∀ p, p < 6 → w' (26 + p) = w (26 + p)) (x : Ck w) : Ck w' := by
  intro k hk
  rw [h1 k hk, h.S, h.th hk, h2 (k / 8) (by omega)]; exact x k hk
theorem Re_eq {w w' : Nat → Int32} (h : Sm w w') (h0 : w' 10 = w 10) (h1 : ∀ k, k < 48 → w' (224 + k) = w (224 + k)) (h2 : ∀ k, k < 48 → w (176 + k) = nI 1 → w' (176 + k) = nI 1) (x : Re w) : Re w' := by
  intro k hk hb
  rw [h1 k hk, h.S, h.th hk]
  rw [h0] at hb
  rcases x k hk hb with e | ⟨a, b⟩ | e
  · exact Or.inl e
  · exact Or.inr (Or.inl ⟨a, h2 k hk b⟩)
  · exact Or.inr (Or.inr e)
theorem Ba_eq {w w' : Nat → Int32} (h : Sm w w') (h0 : w' 10 = w 10) (x : Ba w) : Ba w' := by
  unfold Ba; rw [h0, h.P]; exact x
theorem Po_eq {B : Nat} {w w' : Nat → Int32} (h : Sm w w') (h2 : ∀ p, p < 6 → w' (26 + p) = w (26 + p)) (x : Po B w) : Po B w' := by
  intro p hp
  rw [h2 p hp, h.P]; exact x p hp
theorem Pk_eq {w w' : Nat → Int32} (h : w' 2 = w 2) (h2 : ∀ p, p < 6 → w' (14 + p) = w (14 + p)) (x : Pk w) : Pk w' := by
  refine ⟨by rw [h]; exact x.1, fun p hp => ?_⟩
  rw [h2 p hp]; exact x.2 p hp
theorem Co_eq {B : Nat} {w w' : Nat → Int32} (h4 : w' 4 = w 4) (h5 : w' 5 = w 5) (h6 : w' 6 = w 6) (h8 : w' 8 = w 8) (h13 : w' 13 = w 13) (x : Co B w) : Co B w' := by
  unfold Co; rw [h4, h5, h6, h8, h13]; exact x
theorem Rc_eq {w w' : Nat → Int32} (h : Sm w w') (h12 : w' 12 = w 12) (h1 : ∀ i, i < 64 → w' (512 + i) = w (512 + i)) (x : Rc w) : Rc w' := by
  obtain ⟨r, hr, e, hx⟩ := x
  refine ⟨r, hr, by rw [h12]; exact e, fun i hi => ?_⟩
  obtain ⟨k, a, b, c⟩ := hx i hi
  exact ⟨k, a, by rw [h.th a]; exact b, by rw [h1 i (by omega)]; exact c⟩
theorem Po.mono {B B' : Nat} {w : Nat → Int32} (h : B ≤ B') (x : Po B w) : Po B' w := fun p hp => (x p hp).imp id (fun ⟨e, a, b⟩ => ⟨e, by omega, b⟩)
theorem Co.mono {B B' : Nat} {w : Nat → Int32} (h : B ≤ B') (x : Co B w) : Co B' w := by
  obtain ⟨⟨e, a, b⟩, ⟨a1, f, c1, c2, c3⟩, ⟨c, d1, d2⟩⟩ := x
  exact ⟨⟨e, by omega, b⟩, ⟨a1, f, c1, by omega, c3⟩, ⟨c, by omega, d2⟩⟩
theorem Iv.mono {B B' : Nat} {w : Nat → Int32} (h : B ≤ B') (x : Iv B w) : Iv B' w :=
  ⟨x.1, x.2.1, x.2.2.1, x.2.2.2.1, x.2.2.2.2.1, x.2.2.2.2.2.1, x.2.2.2.2.2.2.1, x.2.2.2.2.2.2.2.1.mono h, x.2.2.2.2.2.2.2.2.1, x.2.2.2.2.2.2.2.2.2.1.mono h, x.2.2.2.2.2.2.2.2.2.2⟩
theorem Sm_uw {w : Nat → Int32} {i : Nat} {v : Int32} (h : 26 ≤ i ∨ i = 2 ∨ (4 ≤ i ∧ i < 20)) : Sm w (uw w i v) :=
  ⟨uw_ne (by omega), uw_ne (by omega), uw_ne (by omega), fun p hp => uw_ne (by omega)⟩
theorem Sm_put {w : Nat → Int32} {k s : Nat} : Sm w (m_put w k s) :=
  ⟨m_put_ne (by omega) (by omega) (by omega) (by omega) (by omega) (by omega) (by omega) (by omega), m_put_ne (by omega) (by omega) (by omega) (by omega) (by omega) (by omega) (by omega) (by omega), m_put_ne (by omega) (by omega) (by omega) (by omega) (by omega) (by omega) (by omega) (by omega), fun p hp => m_put_ne (by omega) (by omega) (by omega) (by omega) (by omega) (by omega) (by omega) (by omega)⟩
theorem Sm.trans {w w' w'' : Nat → Int32} (h : Sm w w') (h' : Sm w' w'') : Sm w w'' :=
  ⟨h'.1.trans h.1, h'.2.1.trans h.2.1, h'.2.2.1.trans h.2.2.1, fun p hp => (h'.2.2.2 p hp).trans (h.2.2.2 p hp)⟩
/-- a page takes a slot: what is kept -/
theorem Iv_put {B : Nat} {w : Nat → Int32} {k s : Nat} (x : Iv B w) (hk : k < 48) (ht : m_th w k = true) (hs : s < m_S w) : Iv B (m_put w k s) := by
  obtain ⟨z, f, dy, sw, ck, re, ba, po, pk, co, rc⟩ := x
  have hS := z.2.1.2
  have sm : Sm w (m_put w k s) := Sm_put
  have ne : ∀ j, j ≠ 368 + s → j ≠ 416 + s → j ≠ 464 + s → j ≠ 80 + k → j ≠ 7 → j ≠ 176 + k → j ≠ 224 + k → j ≠ 11 → m_put w k s j = w j := fun j a b c d e f g h => m_put_ne a b c d e f g h
  have e80 : m_put w k s (80 + k) = nI s := by
    unfold m_put m_put0
    split
    · rw [uw_ne (by omega), uw_ne (by omega), uw_ne (by omega), uw_ne (by omega), uw_at]
    · rw [uw_ne (by omega), uw_ne (by omega), uw_at]
  have e176 : m_put w k s (176 + k) = nI 0 := by
    unfold m_put m_put0
    split
    · rw [uw_ne (by omega), uw_ne (by omega), uw_at]
    · rw [uw_at]
  refine ⟨sm.sz z, Fr_eq sm (fun f hf => ne _ (by omega) (by omega) (by omega) (by omega) (by omega) (by omega) (by omega) (by omega)) (fun j hj => ne _ (by omega) (by omega) (by omega) (by omega) (by omega) (by omega) (by omega) (by omega)) f z, ?_, ?_, ?_, ?_, ?_, ?_, ?_, ?_, ?_⟩
  · intro j hj
    by_cases e : j = k
    · subst e; exact Or.inl e176
    · rw [ne (176 + j) (by omega) (by omega) (by omega) (by omega) (by omega) (by omega) (by omega) (by omega), ne (128 + j) (by omega) (by omega) (by omega) (by omega) (by omega) (by omega) (by omega) (by omega), ne (80 + j) (by omega) (by omega) (by omega) (by omega) (by omega) (by omega) (by omega) (by omega)]
      exact dy j hj
  · intro j hj
    rw [sm.S, sm.th hj]
    by_cases e : j = k
    · subst e; exact Or.inr ⟨s, hs, e80, ht⟩
    · rw [ne (80 + j) (by omega) (by omega) (by omega) (by omega) (by omega) (by omega) (by omega) (by omega)]
      exact sw j hj
  · exact Ck_eq sm (fun j hj => ne _ (by omega) (by omega) (by omega) (by omega) (by omega) (by omega) (by omega) (by omega)) (fun j hj => ne _ (by omega) (by omega) (by omega) (by omega) (by omega) (by omega) (by omega) (by omega)) ck
  · intro j hj hb
    rw [sm.S, sm.th hj]
    rw [ne 10 (by omega) (by omega) (by omega) (by omega) (by omega) (by omega) (by omega) (by omega)] at hb
    by_cases e : j = k
    · subst e
      by_cases hp : m_pd w j = true
      · refine Or.inr (Or.inr ⟨s, hs, ?_, ht⟩)
        unfold m_put
        rw [if_pos hp, uw_ne (by omega), uw_at]
      · have e2 : m_put w j s (224 + j) = w (224 + j) := by
          unfold m_put
          rw [if_neg hp]
          exact m_put0_ne (by omega) (by omega) (by omega) (by omega) (by omega) (by omega)
        rw [e2]
        rcases re j hj hb with e | ⟨a, b⟩ | e
        · exact Or.inl e
        · exact absurd (by unfold m_pd; rw [hb, decide_eq_true a]; rfl) hp
        · exact Or.inr (Or.inr e)
    · rw [ne (224 + j) (by omega) (by omega) (by omega) (by omega) (by omega) (by omega) (by omega) (by omega), ne (176 + j) (by omega) (by omega) (by omega) (by omega) (by omega) (by omega) (by omega) (by omega)]
      exact re j hj hb
  · exact Ba_eq sm (ne _ (by omega) (by omega) (by omega) (by omega) (by omega) (by omega) (by omega) (by omega)) ba
  · exact Po_eq sm (fun j hj => ne _ (by omega) (by omega) (by omega) (by omega) (by omega) (by omega) (by omega) (by omega)) po
  · exact Pk_eq (ne _ (by omega) (by omega) (by omega) (by omega) (by omega) (by omega) (by omega) (by omega)) (fun j hj => ne _ (by omega) (by omega) (by omega) (by omega) (by omega) (by omega) (by omega) (by omega)) pk
  · exact Co_eq (ne _ (by omega) (by omega) (by omega) (by omega) (by omega) (by omega) (by omega) (by omega)) (ne _ (by omega) (by omega) (by omega) (by omega) (by omega) (by omega) (by omega) (by omega)) (ne _ (by omega) (by omega) (by omega) (by omega) (by omega) (by omega) (by omega) (by omega)) (ne _ (by omega) (by omega) (by omega) (by omega) (by omega) (by omega) (by omega) (by omega)) (ne _ (by omega) (by omega) (by omega) (by omega) (by omega) (by omega) (by omega) (by omega)) co
  · exact Rc_eq sm (ne _ (by omega) (by omega) (by omega) (by omega) (by omega) (by omega) (by omega) (by omega)) (fun j hj => ne _ (by omega) (by omega) (by omega) (by omega) (by omega) (by omega) (by omega) (by omega)) rc
/-- a clean page leaves its frame: what is kept -/
theorem Iv_lv {B : Nat} {w : Nat → Int32} {k f : Nat} (x : Iv B w) (hk : k < 48) (hf : f < m_F w) (e : w (128 + k) = nI f) (hd : w (176 + k) = nI 0) : Iv B (m_lv w k) ∧ m_lv w k (320 + f) = -1 ∧ Sm w (m_lv w k) ∧ (∀ j, j < 48 → j ≠ k → m_lv w k (128 + j) = w (128 + j)) ∧ m_lv w k 5 = w 5 ∧ m_lv w k 6 = w 6 := by
  obtain ⟨z, fr, dy, sw, ck, re, ba, po, pk, co, rc⟩ := x
  have hF := z.1.2
  have el : m_lv w k = uw (uw w (320 + f) (-1)) (128 + k) (-1) := by unfold m_lv; rw [e, nn_nI (by omega)]
  rw [el]
  have ne : ∀ j, j ≠ 320 + f → j ≠ 128 + k → uw (uw w (320 + f) (-1)) (128 + k) (-1) j = w j := fun j a b => by rw [uw_ne b, uw_ne a]
  generalize hw' : uw (uw w (320 + f) (-1)) (128 + k) (-1) = w' at ne
  have e128 : w' (128 + k) = -1 := by rw [← hw', uw_at]
  have e320 : w' (320 + f) = -1 := by rw [← hw', uw_ne (by omega), uw_at]
  have sm : Sm w w' := ⟨ne _ (by omega) (by omega), ne _ (by omega) (by omega), ne _ (by omega) (by omega), fun p hp => ne _ (by omega) (by omega)⟩
  refine ⟨⟨sm.sz z, ⟨fun g hg => ?_, fun j hj => ?_⟩, fun j hj => ?_, Sw_eq sm (fun j hj => ne _ (by omega) (by omega)) sw, Ck_eq sm (fun j hj => ne _ (by omega) (by omega)) (fun j hj => ne _ (by omega) (by omega)) ck, Re_eq sm (ne _ (by omega) (by omega)) (fun j hj => ne _ (by omega) (by omega)) (fun j hj h => by rw [ne _ (by omega) (by omega)]; exact h) re, Ba_eq sm (ne _ (by omega) (by omega)) ba, Po_eq sm (fun j hj => ne _ (by omega) (by omega)) po, Pk_eq (ne _ (by omega) (by omega)) (fun j hj => ne _ (by omega) (by omega)) pk, Co_eq (ne _ (by omega) (by omega)) (ne _ (by omega) (by omega)) (ne _ (by omega) (by omega)) (ne _ (by omega) (by omega)) (ne _ (by omega) (by omega)) co, Rc_eq sm (ne _ (by omega) (by omega)) (fun j hj => ne _ (by omega) (by omega)) rc⟩, e320, sm, fun j hj hjk => ne _ (by omega) (by omega), ne _ (by omega) (by omega), ne _ (by omega) (by omega)⟩
  · by_cases hgf : g = f
    · subst hgf; exact Or.inl e320
    · rw [ne (320 + g) (by omega) (by omega), sm.F]
      rcases fr.1 g hg with a | ⟨j, a, b, c, d, d2⟩
      · exact Or.inl a
      · have hjk : j ≠ k := by
          intro h; subst h
          rw [e] at d2
          exact hgf ((nI_eq (by omega) (by omega)).mp d2).symm
        exact Or.inr ⟨j, a, b, by rw [sm.th a]; exact c, d, by rw [ne (128 + j) (by omega) (by omega)]; exact d2⟩
  · by_cases hjk : j = k
    · subst hjk; exact Or.inl e128
    · rw [ne (128 + j) (by omega) (by omega), sm.F]
      rcases fr.2 j hj with a | ⟨g, a, b, c⟩
      · exact Or.inl a
      · have hgf : g ≠ f := by
          intro h; subst h
          rcases fr.2 k hk with a' | ⟨g', a', b', c'⟩
          · rw [e] at a'; exact nI_m1 (by omega) a'
          · rw [e] at b'
            have : g' = g := ((nI_eq (by omega) (by omega)).mp b').symm
            subst this
            rw [c] at c'
            exact hjk ((nI_eq (by omega) (by omega)).mp c')
        exact Or.inr ⟨g, a, b, by rw [ne (320 + g) (by omega) (by omega)]; exact c⟩
  · rw [ne (176 + j) (by omega) (by omega), ne (80 + j) (by omega) (by omega)]
    by_cases hjk : j = k
    · subst hjk; exact Or.inl hd
    · rw [ne (128 + j) (by omega) (by omega)]; exact dy j hj
