/-! single bits of the sets of dirty pages; the class's refusals -/
theorem ds_clr : ∀ b, b < 256 → ∀ i, i < 8 → nI b &&& ((nI 1 <<< (nI i &&& 31)) ^^^ (-1 : Int32)) = nI (if b.testBit i = true then b - 2 ^ i else b) := by decide +kernel
theorem ds_set : ∀ b, b < 256 → ∀ i, i < 8 → nI b ||| (nI 1 <<< (nI i &&& 31)) = nI (if b.testBit i = true then b else b + 2 ^ i) := by decide +kernel
theorem sb_f {p q : Nat → Bool} {i : Nat} (hq : q i = false) : ∀ n, i < n → (∀ j, j < n → j ≠ i → q j = p j) → sb q n = if p i = true then sb p n - 2 ^ i else sb p n
  | 0, h, he => by omega
  | n + 1, h, he => by
    rw [sb, sb]
    by_cases e : i = n
    · subst e
      rw [hq, sb_congr (p := q) (q := p) (fun j hj => he j (by omega) (by omega))]
      by_cases hp : p i = true
      · simp [hp]
      · simp [hp]
    · have ih := sb_f hq n (by omega) (fun j hj hji => he j (by omega) hji)
      rw [ih, he n (by omega) (fun q => e q.symm)]
      by_cases hp : p i = true
      · rw [if_pos hp, if_pos hp]
        have hge : 2 ^ i ≤ sb p n := by
          apply Nat.ge_two_pow_of_testBit
          rw [sb_bit]; simp [hp]; omega
        omega
      · rw [if_neg hp, if_neg hp]
theorem sb_t {p q : Nat → Bool} {i : Nat} (hq : q i = true) : ∀ n, i < n → (∀ j, j < n → j ≠ i → q j = p j) → sb q n = if p i = true then sb p n else sb p n + 2 ^ i
  | 0, h, he => by omega
  | n + 1, h, he => by
    rw [sb, sb]
    by_cases e : i = n
    · subst e
      rw [hq, sb_congr (p := q) (q := p) (fun j hj => he j (by omega) (by omega))]
      by_cases hp : p i = true
      · simp [hp]
      · simp [hp]
    · have ih := sb_t hq n (by omega) (fun j hj hji => he j (by omega) hji)
      rw [ih, he n (by omega) (fun q => e q.symm)]
      by_cases hp : p i = true
      · rw [if_pos hp, if_pos hp]
      · rw [if_neg hp, if_neg hp]; omega
theorem ds_eq {w w' : Nat → Int32} {p : Nat} (h : ∀ i, i < 8 → w' (176 + (8 * p + i)) = w (176 + (8 * p + i))) : m_ds w' p = m_ds w p := by
  unfold m_ds
  exact sb_congr (fun i hi => by rw [h i hi])
theorem ds_lt (w : Nat → Int32) (p : Nat) : m_ds w p < 256 := sb_lt 8
theorem ds_bit (w : Nat → Int32) (p : Nat) {i : Nat} (hi : i < 8) : (m_ds w p).testBit i = decide (w (176 + (8 * p + i)) = nI 1) := by
  unfold m_ds
  rw [sb_bit]; simp [hi]
/-- a page becomes clean -/
theorem ds_c {w w' : Nat → Int32} {k : Nat} (hk : k < 48) (h0 : w' (176 + k) = nI 0) (he : ∀ j, j < 48 → j ≠ k → w' (176 + j) = w (176 + j)) : nI (m_ds w (k / 8)) &&& ((nI 1 <<< (nI (k % 8) &&& 31)) ^^^ (-1 : Int32)) = nI (m_ds w' (k / 8)) := by
  rw [ds_clr _ (ds_lt w _) (k % 8) (by omega), ds_bit w (k / 8) (by omega)]
  unfold m_ds
  have e8 : 8 * (k / 8) + k % 8 = k := by omega
  rw [sb_f (p := fun i => decide (w (176 + (8 * (k / 8) + i)) = nI 1)) (q := fun i => decide (w' (176 + (8 * (k / 8) + i)) = nI 1)) (i := k % 8) (by rw [e8, h0]; decide) 8 (by omega) (fun j hj hji => by rw [he _ (by omega) (by omega)])]
/-- a page becomes dirty -/
theorem ds_d {w w' : Nat → Int32} {k : Nat} (hk : k < 48) (h0 : w' (176 + k) = nI 1) (he : ∀ j, j < 48 → j ≠ k → w' (176 + j) = w (176 + j)) : nI (m_ds w (k / 8)) ||| (nI 1 <<< (nI (k % 8) &&& 31)) = nI (m_ds w' (k / 8)) := by
  rw [ds_set _ (ds_lt w _) (k % 8) (by omega), ds_bit w (k / 8) (by omega)]
  unfold m_ds
  have e8 : 8 * (k / 8) + k % 8 = k := by omega
  rw [sb_t (p := fun i => decide (w (176 + (8 * (k / 8) + i)) = nI 1)) (q := fun i => decide (w' (176 + (8 * (k / 8) + i)) = nI 1)) (i := k % 8) (by rw [e8, h0]; decide) 8 (by omega) (fun j hj hji => by rw [he _ (by omega) (by omega)])]
/-- cells outside the system -/
def Ek (I A I' A' : ab_F) : Prop := ∀ c, (c < 8 ∨ 31 < c) → I' c = I c ∧ A' c = A c
theorem Ek.refl (I A : ab_F) : Ek I A I A := fun _ _ => ⟨rfl, rfl⟩
theorem Ek.trans {I A I' A' I'' A'' : ab_F} (h : Ek I A I' A') (g : Ek I' A' I'' A'') : Ek I A I'' A'' := fun c hc => ⟨(g c hc).1.trans (h c hc).1, (g c hc).2.trans (h c hc).2⟩
theorem Ek_u {I A : ab_F} (u : Nat → Int32) : Ek I A I (wrow A 31 u) := fun c hc => ⟨rfl, wrow_ne (by omega)⟩
theorem c_countPending {K : Int32 → ab_F → ab_F → Prop} {I A : ab_F} {B : Nat} {w : Nat → Int32} (r : Rs 8 I A w) (x : Iv B w) (h : K (nI (m_pc w)) I A) : wX1_countPending K I A := by
  have e25 : ∀ k, k < 48 → A 25 k = m_rk w k := fun k hk => (r.2.1.2.2.1 k hk).1
  have ep : ∀ k, k < 48 → decide (m_rk w k = -2) = m_tp w k := by
    intro k hk
    unfold m_rk m_tp m_pd
    by_cases hb : m_has (w 10) (k / 8) = true
    · rw [if_pos hb, hb, Bool.true_and]
      by_cases h2 : w (224 + k) = -2
      · have hd : w (176 + k) = nI 1 := by
          rcases x.2.2.2.2.2.1 k hk hb with a | ⟨a, b⟩ | ⟨s, a, b, c⟩
          · rw [h2] at a; exact absurd a (by decide)
          · exact b
          · rw [h2] at b; have := x.1.2.1.2; exact absurd b.symm (nI_m2 (by omega))
        have hr : w (128 + k) ≠ -1 := by
          rcases x.2.2.1 k hk with a | ⟨a, b, c⟩
          · rw [hd] at a; exact absurd a (by decide)
          · exact b
        obtain ⟨f, a, b, c⟩ := Fr_get x.2.1 hk hr
        have hF := x.1.1.2
        rw [(Fr_th x.1 x.2.1 hk b (by omega)).1, Bool.true_and]
      · rw [decide_eq_false h2, Bool.and_false]
    · rw [if_neg hb]
      have hb2 : m_has (w 10) (k / 8) = false := by cases q : m_has (w 10) (k / 8) with
        | false => rfl
        | true => exact absurd q hb
      rw [hb2, Bool.false_and, Bool.and_false]
      decide
  refine lp (W := fun n i => wlX1_countPending_4 K n (nI (cn (m_tp w) i)) (nI i) I A) (e := 48) (fun n => ?_) (fun n i hi hw => ?_)
  · exact br_t (nI_le (Nat.le_refl _) (by omega)) h
  · refine br_f (nI_ge hi (by omega)) (ix0 hi ?_)
    rw [e25 i hi]
    rw [cn, ← ep i hi] at hw
    by_cases h2 : m_rk w i = -2
    · rw [decide_eq_true h2] at hw
      refine rb_t h2 ?_
      rw [nI_add _ 1, nI_add i 1]; exact hw
    · rw [decide_eq_false h2] at hw
      refine rb_f h2 ?_
      rw [nI_add i 1]; exact hw
