/-! a commit: its places, what it keeps -/
theorem has_tb : ∀ b, b < 64 → ∀ p, p < 6 → m_has (nI b) p = b.testBit p := by decide +kernel
theorem com_lo {w : Nat → Int32} {j : Nat} (z : Sz w) (h : j < 576) (h8 : j ≠ 8) (h10 : j ≠ 10) (h13 : j ≠ 13) (h26 : j < 26 ∨ 32 ≤ j) (h272 : j < 272 ∨ 320 ≤ j) : m_com w j = w j := by
  have hP := z.2.2.1.2
  unfold m_com m_c6 m_c5
  rw [uw_ne h8, uw_ne h13, uw_ne (by omega), c4_ne h10 (by omega), c3_lo (by omega), c2_hi h26 hP, c1_lo h272 (by omega)]
theorem com_ck {w : Nat → Int32} {k : Nat} (z : Sz w) (hk : k < 48) : m_com w (272 + k) = if m_has (w 10) (k / 8) = true then w (224 + k) else w (272 + k) := by
  have hP := z.2.2.1.2
  unfold m_com m_c6 m_c5
  rw [uw_ne (by omega), uw_ne (by omega), uw_ne (by omega), c4_ne (by omega) (by omega), c3_lo (by omega), c2_hi (by omega) hP]
  unfold m_c1
  rw [Nat.add_sub_cancel_left, show 272 + k - 48 = 224 + k by omega]
  by_cases h : m_has (w 10) (k / 8) = true
  · rw [if_pos ⟨by omega, h⟩, if_pos h]
  · rw [if_neg (fun q => h q.2), if_neg h]
theorem com_po {w : Nat → Int32} {p : Nat} (z : Sz w) (hp : p < 6) : m_com w (26 + p) = if p < m_P w ∧ m_has (w 10) p = true then w 4 else w (26 + p) := by
  have hP := z.2.2.1.2
  unfold m_com m_c6 m_c5
  rw [uw_ne (by omega), uw_ne (by omega), uw_ne (by omega), c4_ne (by omega) (by omega), c3_lo (by omega)]
  unfold m_c2
  rw [Nat.add_sub_cancel_left, c1_lo (by omega) (by omega), c1_lo (by omega) (by omega), c1_lo (by omega) (by omega)]
  by_cases h : p < m_P w ∧ m_has (w 10) p = true
  · rw [if_pos ⟨by omega, h.2⟩, if_pos h]
  · rw [if_neg (fun q => h ⟨by omega, q.2⟩), if_neg h]
theorem c5_8 {w : Nat → Int32} (z : Sz w) : m_c5 w 8 = w 8 ∧ m_c5 w 13 = w 13 := by
  have hP := z.2.2.1.2
  unfold m_c5
  constructor <;> rw [c4_ne (by omega) (by omega), c3_lo (by omega), c2_hi (by omega) hP, c1_lo (by omega) (by omega)]
theorem com_8 {w : Nat → Int32} (z : Sz w) : m_com w 8 = w 8 + nI 1 ∧ m_com w 13 = (if nI 8 ≤ w 13 then w 13 else w 13 + nI 1) ∧ m_com w 10 = nI 0 := by
  have h := c5_8 z
  unfold m_com m_c6
  refine ⟨?_, ?_, ?_⟩
  · rw [uw_at, h.1]
  · rw [uw_ne (by omega), uw_at, h.2]
  · rw [uw_ne (by omega), uw_ne (by omega), uw_ne (by omega)]
    unfold m_c5 m_c4
    rw [uw_at]
theorem com_lg {w : Nat → Int32} (z : Sz w) : m_com w 576 = w 10 ∧ m_com w 577 = w 4 ∧ m_com w 578 = w 11 ∧ m_com w 579 = m_fd w (m_c5 w) ∧ ∀ j, j < 28 → m_com w (580 + j) = w (576 + j) := by
  have hP := z.2.2.1.2
  unfold m_com m_c6
  refine ⟨?_, ?_, ?_, ?_, fun j hj => ?_⟩
  · rw [uw_ne (by omega), uw_ne (by omega), uw_ne (by omega)]
    unfold m_c5 m_c4
    rw [uw_ne (by omega), uw_ne (by omega), uw_ne (by omega), uw_at, c3_lo (by omega), c2_hi (by omega) hP, c1_lo (by omega) (by omega)]
  · rw [uw_ne (by omega), uw_ne (by omega), uw_ne (by omega)]
    unfold m_c5 m_c4
    rw [uw_ne (by omega), uw_ne (by omega), uw_at, c3_lo (by omega), c2_hi (by omega) hP, c1_lo (by omega) (by omega)]
  · rw [uw_ne (by omega), uw_ne (by omega), uw_ne (by omega)]
    unfold m_c5 m_c4
    rw [uw_ne (by omega), uw_at, c3_lo (by omega), c2_hi (by omega) hP, c1_lo (by omega) (by omega)]
  · rw [uw_ne (by omega), uw_ne (by omega), uw_at]
  · rw [uw_ne (by omega), uw_ne (by omega), uw_ne (by omega)]
    unfold m_c5
    rw [c4_ne (by omega) (by omega)]
    unfold m_c3
    rw [if_pos (by omega), show 580 + j - 4 = 576 + j by omega, c2_hi (by omega) hP, c1_lo (by omega) (by omega)]
theorem cn_0 {p : Nat → Bool} : ∀ {n : Nat}, cn p n = 0 → ∀ k, k < n → p k = false
  | 0, _, k, hk => by omega
  | n + 1, h, k, hk => by
    rw [cn] at h
    by_cases e : k = n
    · subst e
      cases hp : p k with
      | false => rfl
      | true => rw [hp] at h; simp at h
    · exact cn_0 (n := n) (by omega) k (by omega)
/-- a set of processes has processes that are there -/
theorem Ba_P {w : Nat → Int32} {p : Nat} (z : Sz w) (b : Ba w) (hp : p < 6) (h : m_has (w 10) p = true) : p < m_P w := by
  obtain ⟨n, hn, e⟩ := b
  have hP := z.2.2.1.2
  have h64 : n < 64 := Nat.lt_of_lt_of_le hn (Nat.pow_le_pow_right (by omega) hP)
  rw [e, has_tb n h64 p hp] at h
  by_cases h1 : p < m_P w
  · exact h1
  · rw [Nat.testBit_lt_two_pow (Nat.lt_of_lt_of_le hn (Nat.pow_le_pow_right (by omega) (by omega)))] at h
    cases h
/-- no page is to be written: every record has its slot or none -/
theorem Re_np {B : Nat} {w : Nat → Int32} (x : Iv B w) (h : m_pc w = 0) {k : Nat} (hk : k < 48) (hb : m_has (w 10) (k / 8) = true) : w (224 + k) = -1 ∨ ∃ s, s < m_S w ∧ w (224 + k) = nI s ∧ m_th w k = true := by
  rcases x.2.2.2.2.2.1 k hk hb with a | ⟨a, b⟩ | a
  · exact Or.inl a
  · exfalso
    have h1 := cn_0 h k hk
    have hr : w (128 + k) ≠ -1 := by
      rcases x.2.2.1 k hk with c | ⟨c, d, e⟩
      · rw [b] at c; exact absurd c (by decide)
      · exact d
    obtain ⟨f, c, d, e⟩ := Fr_get x.2.1 hk hr
    have hF := x.1.1.2
    have ht := (Fr_th x.1 x.2.1 hk d (by omega)).1
    unfold m_tp m_pd at h1
    rw [ht, hb, decide_eq_true a] at h1
    cases h1
  · exact Or.inr a
theorem Iv_com {B : Nat} {w : Nat → Int32} (hB : B < 2 ^ 30) (x : Iv B w) (hp : m_pc w = 0) : Iv (B + 1) (m_com w) := by
  have hnp := fun k (hk : k < 48) hb => Re_np x hp (k := k) hk hb
  obtain ⟨z, fr, dy, sw, ck, re, ba, po, pk, co, rc⟩ := x
  have hP := z.2.2.1.2
  have ne := fun j => com_lo (w := w) (j := j) z
  have eck := fun k => com_ck (w := w) (k := k) z
  have epo := fun p => com_po (w := w) (p := p) z
  have e8 := com_8 z
  generalize m_com w = w' at *
  have sm : Sm w w' := ⟨ne _ (by omega) (by omega) (by omega) (by omega) (by omega) (by omega), ne _ (by omega) (by omega) (by omega) (by omega) (by omega) (by omega), ne _ (by omega) (by omega) (by omega) (by omega) (by omega) (by omega), fun p hp => ne _ (by omega) (by omega) (by omega) (by omega) (by omega) (by omega)⟩
  obtain ⟨⟨e, ea, eb⟩, ⟨a1, f, c1, c2, c3, c4⟩, ⟨c, d1, d2, d3⟩⟩ := co
  refine ⟨sm.sz z, Fr_eq sm (fun f hf => ne _ (by omega) (by omega) (by omega) (by omega) (by omega) (by omega)) (fun k hk => ne _ (by omega) (by omega) (by omega) (by omega) (by omega) (by omega)) fr z, Dy_eq (fun k hk => ne _ (by omega) (by omega) (by omega) (by omega) (by omega) (by omega)) (fun k hk => ne _ (by omega) (by omega) (by omega) (by omega) (by omega) (by omega)) (fun k hk => ne _ (by omega) (by omega) (by omega) (by omega) (by omega) (by omega)) dy, Sw_eq sm (fun k hk => ne _ (by omega) (by omega) (by omega) (by omega) (by omega) (by omega)) sw, fun k hk => ?_, fun k hk hb => ?_, ⟨0, Nat.two_pow_pos _, e8.2.2⟩, fun p hp => ?_, Pk_eq (ne _ (by omega) (by omega) (by omega) (by omega) (by omega) (by omega)) (fun k hk => ne _ (by omega) (by omega) (by omega) (by omega) (by omega) (by omega)) pk, ⟨⟨e, by omega, by rw [ne _ (by omega) (by omega) (by omega) (by omega) (by omega) (by omega)]; exact eb⟩, ⟨a1, f, c1, by omega, by rw [ne _ (by omega) (by omega) (by omega) (by omega) (by omega) (by omega)]; exact c3, by rw [ne _ (by omega) (by omega) (by omega) (by omega) (by omega) (by omega)]; exact c4⟩, ⟨c + 1, by omega, by rw [e8.1, d2]; exact nI_add c 1, ?_⟩⟩, Rc_eq sm (ne _ (by omega) (by omega) (by omega) (by omega) (by omega) (by omega)) (fun k hk => ne _ (by omega) (by omega) (by omega) (by omega) (by omega) (by omega)) rc⟩
  · rw [eck k hk, sm.S, sm.th hk, epo (k / 8) (by omega)]
    by_cases hb : m_has (w 10) (k / 8) = true
    · have hpp := Ba_P z ba (p := k / 8) (by omega) hb
      rw [if_pos hb, if_pos ⟨hpp, hb⟩]
      rcases hnp k hk hb with q | ⟨s, q1, q2, q3⟩
      · exact Or.inl q
      · exact Or.inr ⟨s, q1, q2, q3, by rw [eb]; exact nI_m1 (by omega)⟩
    · rw [if_neg hb, if_neg (fun q => hb q.2)]
      exact ck k hk
  · rw [e8.2.2, has_0] at hb; cases hb
  · rw [epo p hp, sm.P]
    split
    · rename_i q; exact Or.inr ⟨e, by omega, eb, q.1⟩
    · rcases po p hp with q | ⟨e', q1, q2, q3⟩
      · exact Or.inl q
      · exact Or.inr ⟨e', by omega, q2, q3⟩
  · rw [e8.2.1, d3]
    by_cases h8 : 8 ≤ c
    · rw [show min c 8 = 8 by omega, if_pos (by decide), show min (c + 1) 8 = 8 by omega]
    · rw [show min c 8 = c by omega, if_neg (nI_ge (by omega) (by omega)), show min (c + 1) 8 = c + 1 by omega]
      exact nI_add c 1
