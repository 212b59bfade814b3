/-! the class' world: ends that may change the heap's shape; the contracts that are proved by hand -/
def ab_noz : String → ab_Z → ab_F → ab_F → Prop := fun _ _ _ _ => False
def ab_zi (K : Int32 → ab_Z → ab_F → ab_F → Prop) : Option Value → ab_Z → ab_F → ab_F → Prop := fun r Z I A => ∃ x, r = some (.int x) ∧ K x Z I A
def ab_zv (K : ab_Z → ab_F → ab_F → Prop) : Option Value → ab_Z → ab_F → ab_F → Prop := fun r Z I A => r = none ∧ K Z I A
def ab_Pz (KX : String → ab_Z → ab_F → ab_F → Prop) (R : Option Value → ab_Z → ab_F → ab_F → Prop) : ab_O → Prop
  | (.inl r, sh', I, A) => ∃ Z, sh' = shC Z ∧ R r Z I A
  | (.inr E, sh', I, A) => ∃ Z, sh' = shC Z ∧ KX E Z I A
def ab_stl (i : Nat) : String × String × String × FieldType × List Int32 := ab_sta.getD i ("", "", "", .int, [])
def ab_stv (i j : Nat) : Int32 := (ab_stl i).2.2.2.2.getD j 0
theorem ab_stq {i : Nat} (h : i < 3) : ab_sta[i]? = some (ab_stl i) := by
  have hl : ab_sta.length = 3 := rfl
  unfold ab_stl
  rw [List.getD_eq_getElem?_getD, List.getElem?_eq_getElem (by omega)]
  rfl
/-- the cells of a SwapSystem that stands at b -/
def ab_sysS (b : Nat) : List ab_S := [.inr (.inr (12, [some (.ref (b + 1)), some (.ref (b + 8)), some (.ref (b + 12)), some (.ref (b + 16)), some (.ref (b + 21)), none, some (.ref (b + 23))])),
  .inr (.inr (8, [none, some (.ref (b + 2)), some (.ref (b + 3)), some (.ref (b + 4)), some (.ref (b + 5)), some (.ref (b + 6)), some (.ref (b + 7))])), .inl (.int, 6), .inl (.int, 6), .inl (.int, 6), .inl (.int, 48), .inl (.int, 48), .inl (.int, 48),
  .inr (.inr (6, [none, none, some (.ref (b + 9)), some (.ref (b + 10)), some (.ref (b + 11))])), .inl (.int, 16), .inl (.int, 16), .inl (.int, 16),
  .inr (.inr (11, [none, none, some (.ref (b + 13)), some (.ref (b + 14)), some (.ref (b + 15))])), .inl (.int, 48), .inl (.int, 48), .inl (.int, 48),
  .inr (.inr (5, [none, none, none, none, some (.ref (b + 17)), some (.ref (b + 18)), some (.ref (b + 19)), some (.ref (b + 20))])), .inl (.int, 48), .inl (.int, 6), .inl (.int, 48), .inl (.int, 32),
  .inr (.inr (4, [none, none, none, some (.ref (b + 22))])), .inl (.int, 64), .inl (.int, 48)]
def ab_sys (sh : List ab_S) (b : Nat) : Prop := ∀ k, k < 24 → sh[b + k]? = (ab_sysS b)[k]?
/-- the arrays of a system and their lengths, its numbers -/
def ab_sysA : List (Nat × Nat) := [(2, 6), (3, 6), (4, 6), (5, 48), (6, 48), (7, 48), (9, 16), (10, 16), (11, 16), (13, 48), (14, 48), (15, 48), (17, 48), (18, 6), (19, 48), (20, 32), (22, 64)]
def ab_sysI : List (Nat × Nat) := [(0, 5), (1, 0), (8, 0), (8, 1), (12, 0), (12, 1), (16, 0), (16, 1), (16, 2), (16, 3), (21, 0), (21, 1), (21, 2)]
/-- the system at x has become a copy of that at y, nothing else has changed -/
def ab_cp (I A I' A' : ab_F) (x y : Nat) : Prop := (∀ c, (c < x ∨ x + 24 ≤ c) → I' c = I c ∧ A' c = A c) ∧ (∀ q ∈ ab_sysI, I' (x + q.1) q.2 = I (y + q.1) q.2) ∧ (∀ q ∈ ab_sysA, ∀ j, j < q.2 → A' (x + q.1) j = A (y + q.1) j)
def wX3_giveBack (K : ab_Z → ab_F → ab_F → Prop) (Z : ab_Z) (I A : ab_F) : Prop := ∃ j b, I 32 1 = nI j ∧ j < 11 ∧ Z.1 j = some b ∧ ab_sys (shC Z) b ∧ 42 ≤ b ∧ ∀ I' A', ab_cp I A I' A' 8 b → K Z I' A'
def wX3_keep (K : ab_Z → ab_F → ab_F → Prop) (Z : ab_Z) (I A : ab_F) : Prop := ∃ j, I 32 1 = nI j ∧ j < 11 ∧ (∀ b, Z.1 j = some b → ab_sys (shC Z) b ∧ 42 ≤ b ∧ ∀ I' A', ab_cp I A I' A' b 8 → K Z I' A') ∧ (Z.1 j = none → ∀ I' A', ab_cp I A I' A' (shC Z).length 8 → K (va_up Z.1 j (some (shC Z).length), Z.2.1, Z.2.2 ++ ab_sysS (shC Z).length) I' A')
/-- the report: n bytes t, in an array of cap places -/
def ab_SB (Z : ab_Z) (I A : ab_F) (t : Nat → Int32) (n cap : Nat) : Prop := (shC Z)[Z.2.1]? = some (.inl (.byte, cap)) ∧ 41 ≤ Z.2.1 ∧ I 40 1 = 0 ∧ I 40 3 = nI n ∧ n ≤ cap ∧ cap < 65536 ∧ ∀ j, (j < n → A Z.2.1 j = t j) ∧ fits .byte (.int (A Z.2.1 j)) = true
def wJ4_length_8abf5 (K : Int32 → ab_F → ab_F → Prop) (I A : ab_F) : Prop := K (I 40 3) I A
def wJ4_charAt_5068e (K : Int32 → ab_Z → ab_F → ab_F → Prop) (Z : ab_Z) (I A : ab_F) (k : Int32) : Prop := ∃ t n cap j, ab_SB Z I A t n cap ∧ k = nI j ∧ j < n ∧ K (t j &&& 255) Z I A
theorem sh_len {Z : ab_Z} : (shC Z).length = 42 + Z.2.2.length := by
  unfold shC
  rw [List.length_append]
  rfl
