/-! String.length and charAt of the constants (their contracts) -/
def ab_st (i : Nat) : String × Nat × String × List Int32 := ab_str.getD i ("", 0, "", [])
theorem ab_kq {i : Nat} (h : i < 66) : ab_str[i]? = some (ab_st i) := by
  have hl : ab_str.length = 66 := by decide
  unfold ab_st
  rw [List.getD_eq_getElem?_getD, List.getElem?_eq_getElem (by omega)]
  rfl
def wJ0_length_8abf5 (K : Int32 → ab_F → ab_F → Prop) (I A : ab_F) (i : Nat) : Prop := i < 66 ∧ K (nI (ab_st i).2.2.2.length) I A
def wJ0_charAt_5068e (K : Int32 → ab_F → ab_F → Prop) (I A : ab_F) (i : Nat) (k : Int32) : Prop := i < 66 ∧ ∃ j : Nat, k = nI j ∧ j < (ab_st i).2.2.2.length ∧ K ((ab_st i).2.2.2.getD j 0) I A
theorem ctJ0_length_8abf5 {sh : List ab_S} {K : Int32 → ab_F → ab_F → Prop} {I A : ab_F} {i : Nat} (h : wJ0_length_8abf5 K I A i) : ab_Cl mJ0_length_8abf5 3 0 0 [.retAddr (2 * i)] sh I A (ab_Px sh ab_no (ab_ri K)) := sorry
theorem ctJ0_charAt_5068e {sh : List ab_S} {K : Int32 → ab_F → ab_F → Prop} {I A : ab_F} {i : Nat} {k : Int32} (h : wJ0_charAt_5068e K I A i k) : ab_Cl mJ0_charAt_5068e 5 0 0 [.retAddr (2 * i), .int k] sh I A (ab_Px sh ab_no (ab_ri K)) := sorry
