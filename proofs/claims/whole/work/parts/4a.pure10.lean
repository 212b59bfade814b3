/-! crashes; what the steps keep -/
def m_crl (w : Nat → Int32) (n : Nat) : Nat → Int32 := up (fun p v => m_rst v p) (uw w 10 (nI 0)) n
def m_crs (w : Nat → Int32) : Nat → Int32 := uw (uw (m_crl w (m_P w)) 12 (nI 0)) 9 (m_crl w (m_P w) 9 + nI 1)
theorem has_0 (p : Nat) : m_has (nI 0) p = false := by
  unfold m_has
  refine decide_eq_false (fun h => ?_)
  have e : (nI 0 >>> (nI p &&& 31)) = nI 0 := by
    apply Int32.toBitVec_inj.mp
    rw [Int32.toBitVec_shiftRight]
    show (0#32).sshiftRight _ = 0#32
    exact BitVec.zero_sshiftRight
  rw [e] at h
  exact absurd h (by decide)
theorem Iv_b0 {B : Nat} {w : Nat → Int32} (x : Iv B w) : Iv B (uw w 10 (nI 0)) := by
  obtain ⟨z, fr, dy, sw, ck, re, ba, po, pk, co, rc⟩ := x
  have ne : ∀ i, i ≠ 10 → uw w 10 (nI 0) i = w i := fun i h => uw_ne h
  have sm : Sm w (uw w 10 (nI 0)) := Sm_uw (by omega)
  refine ⟨sm.sz z, Fr_eq sm (fun f hf => ne _ (by omega)) (fun k hk => ne _ (by omega)) fr z, Dy_eq (fun k hk => ne _ (by omega)) (fun k hk => ne _ (by omega)) (fun k hk => ne _ (by omega)) dy, Sw_eq sm (fun k hk => ne _ (by omega)) sw, Ck_eq sm (fun k hk => ne _ (by omega)) (fun k hk => ne _ (by omega)) ck, fun j hj hjb => ?_, ⟨0, Nat.two_pow_pos _, uw_at _ _ _⟩, Po_eq sm (fun k hk => ne _ (by omega)) po, Pk_eq (ne _ (by omega)) (fun k hk => ne _ (by omega)) pk, Co_eq (ne _ (by omega)) (ne _ (by omega)) (ne _ (by omega)) (ne _ (by omega)) (ne _ (by omega)) co, Rc_eq sm (ne _ (by omega)) (fun k hk => ne _ (by omega)) rc⟩
  rw [uw_at, has_0] at hjb
  cases hjb
theorem Iv_crl {B : Nat} {w : Nat → Int32} (x : Iv B w) : ∀ n, n ≤ 6 → Iv B (m_crl w n) ∧ Rk (uw w 10 (nI 0)) (m_crl w n)
  | 0, _ => ⟨Iv_b0 x, Rk.refl _⟩
  | n + 1, h => by
    have ih := Iv_crl x n (by omega)
    have h1 := Iv_rs (p := n) ih.1 (by omega) (by rw [ih.2.2.1, uw_at]; exact has_0 n)
    exact ⟨h1.1, ih.2.trans h1.2⟩
theorem Iv_r0 {B : Nat} {w : Nat → Int32} (x : Iv B w) : Iv B (uw w 12 (nI 0)) := by
  obtain ⟨z, fr, dy, sw, ck, re, ba, po, pk, co, rc⟩ := x
  have ne : ∀ i, i ≠ 12 → uw w 12 (nI 0) i = w i := fun i h => uw_ne h
  have sm : Sm w (uw w 12 (nI 0)) := Sm_uw (by omega)
  exact ⟨sm.sz z, Fr_eq sm (fun f hf => ne _ (by omega)) (fun k hk => ne _ (by omega)) fr z, Dy_eq (fun k hk => ne _ (by omega)) (fun k hk => ne _ (by omega)) (fun k hk => ne _ (by omega)) dy, Sw_eq sm (fun k hk => ne _ (by omega)) sw, Ck_eq sm (fun k hk => ne _ (by omega)) (fun k hk => ne _ (by omega)) ck, Re_eq sm (ne _ (by omega)) (fun k hk => ne _ (by omega)) (fun k hk h => by rw [ne _ (by omega)]; exact h) re, Ba_eq sm (ne _ (by omega)) ba, Po_eq sm (fun k hk => ne _ (by omega)) po, Pk_eq (ne _ (by omega)) (fun k hk => ne _ (by omega)) pk, Co_eq (ne _ (by omega)) (ne _ (by omega)) (ne _ (by omega)) (ne _ (by omega)) (ne _ (by omega)) co, ⟨0, by omega, uw_at _ _ _, fun i hi => by omega⟩⟩
theorem Iv_crs {B : Nat} {w : Nat → Int32} (x : Iv B w) : Iv B (m_crs w) ∧ m_P (m_crs w) = m_P w ∧ (∀ p, p < 6 → m_crs w (26 + p) = w (26 + p)) := by
  have hP := x.1.2.2.1.2
  have h1 := Iv_crl x (m_P w) hP
  unfold m_crs
  have h2 := Iv_r0 h1.1
  have ne : ∀ i, i ≠ 9 → uw (uw (m_crl w (m_P w)) 12 (nI 0)) 9 (m_crl w (m_P w) 9 + nI 1) i = uw (m_crl w (m_P w)) 12 (nI 0) i := fun i h => uw_ne h
  refine ⟨Iv_c h2 (Nat.le_refl _) (fun i _ _ _ h9 _ => ne i h9) (Co_eq (ne _ (by omega)) (ne _ (by omega)) (ne _ (by omega)) (ne _ (by omega)) (ne _ (by omega)) h2.2.2.2.2.2.2.2.2.2.1), ?_, fun p hp => ?_⟩
  · unfold m_P; rw [ne _ (by omega), uw_ne (by omega), h1.2.1.2.2.1, uw_ne (by omega)]
  · rw [ne _ (by omega), uw_ne (by omega), h1.2.2.2.1 p hp, uw_ne (by omega)]
theorem q_crashes {K : ab_F → ab_F → Prop} {I A : ab_F} {B : Nat} (x : Iv B (A 1)) (h : K I (wrow A 1 (m_crs (A 1)))) : wX12_crashes K I A := by
  have hP := x.1.2.2.1.2
  unfold wX12_crashes
  rw [wr_w]
  have e3 : ∀ n, n ≤ 6 → m_crl (A 1) n 3 = nI (m_P (A 1)) := fun n hn => by rw [(Iv_crl x n hn).2.1.2.2.1, uw_ne (by omega)]; exact x.1.2.2.1.1
  refine lp (W := fun n i => wlX12_crashes_10 K n (nI i) I (wrow A 1 (m_crl (A 1) i))) (e := m_P (A 1)) (fun n => ?_) (fun n i hi hw => ?_)
  · refine br_t (by rw [wrow_at, e3 _ hP]; exact nI_le (Nat.le_refl _) (by omega)) ?_
    simp only [wr_w, wrow_wrow, wrow_at]
    exact h
  · have hx := Iv_crl x i (by omega)
    refine br_f (by rw [wrow_at, e3 _ (by omega)]; exact nI_ge hi (by omega)) ?_
    refine q_restore (B := B) (by rw [wrow_at]; exact hx.1) (by omega) (by rw [wrow_at, hx.2.2.1, uw_at]; exact has_0 i) ?_
    rw [wrow_at, wrow_wrow, nI_add i 1]
    exact hw
theorem Iv_sta {B : Nat} {w : Nat → Int32} {b : Nat} (x : Iv B w) (hb : b < 2 ^ m_P w) : Iv (B + 1) (m_sta w (nI b)) := by
  obtain ⟨z, fr, dy, sw, ck, re, ba, po, pk, co, rc⟩ := x
  have ne : ∀ i, i ≠ 4 → i ≠ 10 → i ≠ 11 → (i < 224 ∨ 272 ≤ i) → m_sta w (nI b) i = w i := fun i h1 h2 h3 h4 => by
    unfold m_sta m_s1
    rw [if_neg (by omega)]
    unfold m_s0
    rw [uw_ne h3, uw_ne h2, uw_ne h1]
  have e10 : m_sta w (nI b) 10 = nI b := by
    unfold m_sta m_s1
    rw [if_neg (by omega)]
    unfold m_s0
    rw [uw_ne (by omega), uw_at]
  have e4 : m_sta w (nI b) 4 = w 4 + nI 1 := by
    unfold m_sta m_s1
    rw [if_neg (by omega)]
    unfold m_s0
    rw [uw_ne (by omega), uw_ne (by omega), uw_at]
  have e224 : ∀ k, k < 48 → m_sta w (nI b) (224 + k) = if w (176 + k) = nI 1 then -2 else w (80 + k) := fun k hk => by
    unfold m_sta m_s1
    rw [if_pos (show 224 ≤ 224 + k ∧ 224 + k < 224 + 48 by omega), show 224 + k - 48 = 176 + k by omega, show 224 + k - 144 = 80 + k by omega]
    unfold m_s0
    rw [uw_ne (by omega), uw_ne (by omega), uw_ne (by omega), uw_ne (by omega), uw_ne (by omega), uw_ne (by omega)]
  generalize m_sta w (nI b) = w' at *
  have sm : Sm w w' := ⟨ne _ (by omega) (by omega) (by omega) (by omega), ne _ (by omega) (by omega) (by omega) (by omega), ne _ (by omega) (by omega) (by omega) (by omega), fun p hp => ne _ (by omega) (by omega) (by omega) (by omega)⟩
  refine ⟨sm.sz z, Fr_eq sm (fun f hf => ne _ (by omega) (by omega) (by omega) (by omega)) (fun k hk => ne _ (by omega) (by omega) (by omega) (by omega)) fr z, Dy_eq (fun k hk => ne _ (by omega) (by omega) (by omega) (by omega)) (fun k hk => ne _ (by omega) (by omega) (by omega) (by omega)) (fun k hk => ne _ (by omega) (by omega) (by omega) (by omega)) dy, Sw_eq sm (fun k hk => ne _ (by omega) (by omega) (by omega) (by omega)) sw, Ck_eq sm (fun k hk => ne _ (by omega) (by omega) (by omega) (by omega)) (fun k hk => ne _ (by omega) (by omega) (by omega) (by omega)) ck, fun j hj hjb => ?_, ⟨b, by rw [sm.P]; exact hb, e10⟩, (Po_eq sm (fun k hk => ne _ (by omega) (by omega) (by omega) (by omega)) po).mono (by omega), Pk_eq (ne _ (by omega) (by omega) (by omega) (by omega)) (fun k hk => ne _ (by omega) (by omega) (by omega) (by omega)) pk, ?_, Rc_eq sm (ne _ (by omega) (by omega) (by omega) (by omega)) (fun k hk => ne _ (by omega) (by omega) (by omega) (by omega)) rc⟩
  · rw [e224 j hj, ne (176 + j) (by omega) (by omega) (by omega) (by omega), sm.S, sm.th hj]
    by_cases h1 : w (176 + j) = nI 1
    · rw [if_pos h1]; exact Or.inr (Or.inl ⟨rfl, h1⟩)
    · rw [if_neg h1]
      rcases sw j hj with a | a
      · exact Or.inl a
      · exact Or.inr (Or.inr a)
  · obtain ⟨⟨e, a, b'⟩, ⟨a1, f, c1, c2, c3, c4⟩, ⟨c, d1, d2, d3⟩⟩ := co
    refine ⟨⟨e + 1, by omega, by rw [e4, b']; exact nI_add e 1⟩, ⟨a1, f, c1, by omega, ?_, ?_⟩, ⟨c, by omega, ?_, ?_⟩⟩
    · rw [ne _ (by omega) (by omega) (by omega) (by omega)]; exact c3
    · rw [ne _ (by omega) (by omega) (by omega) (by omega)]; exact c4
    · rw [ne _ (by omega) (by omega) (by omega) (by omega)]; exact d2
    · rw [ne _ (by omega) (by omega) (by omega) (by omega)]; exact d3
theorem tp_th {w : Nat → Int32} {k : Nat} (h : m_tp w k = true) : m_th w k = true := (Bool.and_eq_true_iff.mp h).1
theorem Iv_fl {B : Nat} : ∀ (m k left : Nat) (w : Nat → Int32), k + m = 48 → Iv B w → Iv B (m_fl m k left w)
  | 0, k, left, w, hk, x => by rw [m_fl]; exact x
  | m + 1, k, left, w, hk, x => by
    rw [m_fl]
    split
    · exact x
    · split
      · rename_i h
        cases hn : m_nf w with
        | none => exact x
        | some s => exact Iv_fl m (k + 1) (left - 1) _ (by omega) (Iv_put x (by omega) (tp_th h) (ls_lt hn).1)
      · exact Iv_fl m (k + 1) left w (by omega) x
theorem Iv_pol {B : Nat} {w : Nat → Int32} {v : Int32} (x : Iv B w) (hv : v = nI 0 ∨ v = nI 1 ∨ v = nI 2) : Iv B (uw w 2 v) := by
  obtain ⟨z, fr, dy, sw, ck, re, ba, po, pk, co, rc⟩ := x
  have ne : ∀ i, i ≠ 2 → uw w 2 v i = w i := fun i h => uw_ne h
  have sm : Sm w (uw w 2 v) := Sm_uw (by omega)
  exact ⟨sm.sz z, Fr_eq sm (fun f hf => ne _ (by omega)) (fun k hk => ne _ (by omega)) fr z, Dy_eq (fun k hk => ne _ (by omega)) (fun k hk => ne _ (by omega)) (fun k hk => ne _ (by omega)) dy, Sw_eq sm (fun k hk => ne _ (by omega)) sw, Ck_eq sm (fun k hk => ne _ (by omega)) (fun k hk => ne _ (by omega)) ck, Re_eq sm (ne _ (by omega)) (fun k hk => ne _ (by omega)) (fun k hk h => by rw [ne _ (by omega)]; exact h) re, Ba_eq sm (ne _ (by omega)) ba, Po_eq sm (fun k hk => ne _ (by omega)) po, ⟨by rw [uw_at]; exact hv, fun p hp => by rw [ne _ (by omega)]; exact pk.2 p hp⟩, Co_eq (ne _ (by omega)) (ne _ (by omega)) (ne _ (by omega)) (ne _ (by omega)) (ne _ (by omega)) co, Rc_eq sm (ne _ (by omega)) (fun k hk => ne _ (by omega)) rc⟩
/-- a page's new value -/
theorem Iv_st {B : Nat} {w : Nat → Int32} {k f : Nat} {v : Int32} (x : Iv B w) (hk : k < 48) (hf : w (128 + k) = nI f) (hf8 : f < 16) : Iv B (m_st w k v) := by
  obtain ⟨z, fr, dy, sw, ck, re, ba, po, pk, co, rc⟩ := x
  unfold m_st
  generalize m_val w k v = u
  have ne : ∀ i, i ≠ 32 + k → i ≠ 80 + k → i ≠ 176 + k → uw (uw (uw w (32 + k) u) (80 + k) (-1)) (176 + k) (nI 1) i = w i := fun i a b c => by rw [uw_ne c, uw_ne b, uw_ne a]
  have e80 : uw (uw (uw w (32 + k) u) (80 + k) (-1)) (176 + k) (nI 1) (80 + k) = -1 := by rw [uw_ne (by omega), uw_at]
  have e176 : uw (uw (uw w (32 + k) u) (80 + k) (-1)) (176 + k) (nI 1) (176 + k) = nI 1 := uw_at _ _ _
  generalize uw (uw (uw w (32 + k) u) (80 + k) (-1)) (176 + k) (nI 1) = w' at *
  have sm : Sm w w' := ⟨ne _ (by omega) (by omega) (by omega), ne _ (by omega) (by omega) (by omega), ne _ (by omega) (by omega) (by omega), fun p hp => ne _ (by omega) (by omega) (by omega)⟩
  refine ⟨sm.sz z, Fr_eq sm (fun f hf => ne _ (by omega) (by omega) (by omega)) (fun k hk => ne _ (by omega) (by omega) (by omega)) fr z, fun j hj => ?_, fun j hj => ?_, Ck_eq sm (fun k hk => ne _ (by omega) (by omega) (by omega)) (fun k hk => ne _ (by omega) (by omega) (by omega)) ck, Re_eq sm (ne _ (by omega) (by omega) (by omega)) (fun k hk => ne _ (by omega) (by omega) (by omega)) (fun j hj h => ?_) re, Ba_eq sm (ne _ (by omega) (by omega) (by omega)) ba, Po_eq sm (fun k hk => ne _ (by omega) (by omega) (by omega)) po, Pk_eq (ne _ (by omega) (by omega) (by omega)) (fun k hk => ne _ (by omega) (by omega) (by omega)) pk, Co_eq (ne _ (by omega) (by omega) (by omega)) (ne _ (by omega) (by omega) (by omega)) (ne _ (by omega) (by omega) (by omega)) (ne _ (by omega) (by omega) (by omega)) (ne _ (by omega) (by omega) (by omega)) co, Rc_eq sm (ne _ (by omega) (by omega) (by omega)) (fun k hk => ne _ (by omega) (by omega) (by omega)) rc⟩
  · by_cases e : j = k
    · subst e
      refine Or.inr ⟨e176, ?_, e80⟩
      rw [ne (128 + j) (by omega) (by omega) (by omega), hf]
      exact nI_m1 (by omega)
    · rw [ne (176 + j) (by omega) (by omega) (by omega), ne (128 + j) (by omega) (by omega) (by omega), ne (80 + j) (by omega) (by omega) (by omega)]
      exact dy j hj
  · rw [sm.S, sm.th hj]
    by_cases e : j = k
    · subst e; exact Or.inl e80
    · rw [ne (80 + j) (by omega) (by omega) (by omega)]; exact sw j hj
  · by_cases e : j = k
    · subst e; exact e176
    · rw [ne (176 + j) (by omega) (by omega) (by omega)]; exact h
theorem Iv_wri {B : Nat} {w : Nat → Int32} {k : Nat} {v : Int32} (x : Iv B w) (hk : k < 48) (ht : m_th w k = true) (h : m_stk w k true = false) : Iv (B + 1) (m_wri w k v) := by
  have h0 := w0_ok x hk ht h
  obtain ⟨f, hf, h1, h2⟩ := Iv_acc h0.1 hk h0.2.1 h0.2.2.1
  exact Iv_st h1 hk h2 hf
