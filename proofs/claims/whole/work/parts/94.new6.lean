/-! the first state -/
theorem st_C {I A : ab_F} {w : Nat → Int32} (h : I_ok I A) (e : Ew wl0 w) : RCs 0 (i_S w) Z_0 I A := by
  obtain ⟨r, ⟨h1, h2, h3⟩, ⟨h4, h5⟩, ⟨h6, h7⟩, h8⟩ := h
  refine ⟨⟨Rs_row e r, Iv_ew e (Iv_G 0 Gw_i)⟩, ⟨Nat.zero_le _, h5, 0, by decide, h4, fun i hi => absurd hi (Nat.not_lt_zero i)⟩, ⟨(fun j b _ hb => by cases hb), (fun i j a b _ _ _ ha _ => by cases ha)⟩, ⟨Nat.zero_le _, h1, fun i hi => absurd hi (Nat.not_lt_zero i)⟩, ⟨h2, h3⟩, 16, rfl, Nat.le_refl 41, h6, h7, Nat.zero_le _, by decide, fun j => ⟨fun hj => absurd hj (Nat.not_lt_zero j), ?_⟩⟩
  show fits .byte (.int (A 41 j)) = true
  rw [h8]
  exact sb_fit0 j
theorem st_M {I A : ab_F} (h : J_ok I A) : RMs 0 (i_S (A 1)) I A := by
  obtain ⟨e, h4, h7, h11, h12, h18⟩ := h
  exact ⟨⟨rfl, Iv_ew e (Iv_G 0 Gw_i)⟩, ⟨Nat.zero_le _, h4, fun i hi => absurd hi (Nat.not_lt_zero i)⟩, ⟨Nat.zero_le _, h7, fun i hi => absurd hi (Nat.not_lt_zero i)⟩, ⟨h11, h12⟩, Nat.zero_le _, h18, fun i hi => absurd hi (Nat.not_lt_zero i)⟩
