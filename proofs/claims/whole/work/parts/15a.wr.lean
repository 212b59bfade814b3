/-! reads of a changed row -/
theorem wrow_at (A : ab_F) (c : Nat) (g : Nat → Int32) : wrow A c g c = g := by simp [wrow]
theorem wrow_ne {A : ab_F} {c c' : Nat} {g : Nat → Int32} (h : c' ≠ c) : wrow A c g c' = A c' := by simp [wrow, h]
theorem wr_ne {A : ab_F} {c c' i : Nat} {v : Int32} (h : c' ≠ c) : wr A c i v c' = A c' := by funext j; simp [wr, h]
theorem wr_ate (A : ab_F) (c i : Nat) (v : Int32) : wr A c i v c i = v := by simp [wr]
theorem wr_nei {A : ab_F} {c i j : Nat} {v : Int32} (h : j ≠ i) : wr A c i v c j = A c j := by simp [wr, h]
