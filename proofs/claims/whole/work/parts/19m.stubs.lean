/-! the contracts that the world of the class stands on -/
theorem hJ4_length {Z : ab_Z} {K : Int32 → ab_F → ab_F → Prop} {I A : ab_F} (h : wJ4_length_8abf5 K I A) : ab_Cl mJ4_length_8abf5 3 0 0 [.ref 40] (shC Z) I A (ab_Px (shC Z) ab_no (ab_ri K)) := hJ4_length0 sC_40 h
theorem hJ4_char {Z : ab_Z} {K : Int32 → ab_Z → ab_F → ab_F → Prop} {I A : ab_F} {k : Int32} (h : wJ4_charAt_5068e K Z I A k) : ab_Cl mJ4_charAt_5068e 7 0 0 [.ref 40, .int k] (shC Z) I A (ab_Pz ab_noz (ab_zi K)) := by
  obtain ⟨t, n, cap, j, ⟨p1, p2, p3, p4, p5, p6, p7⟩, rfl, hj, h⟩ := h
  refine (hJ4_charAt (K := fun r I1 A1 => K r Z I1 A1) sC_40 p1 p3 p4 p5 p6 hj (by rw [(p7 j).1 hj]; exact h)).mono (fun o ho => ?_)
  obtain ⟨r, sh1, I1, A1⟩ := o
  cases r with
  | inl r =>
    obtain ⟨e, x, e2, h⟩ := ho
    exact ⟨Z, e, x, e2, h⟩
  | inr E => exact ho.2.elim
theorem ctX3_giveBack {Z : ab_Z} {K : ab_Z → ab_F → ab_F → Prop} {I A : ab_F} (h : wX3_giveBack K Z I A) : ab_Cl mX3_giveBack 4 0 0 [.ref 32, .ref 8] (shC Z) I A (ab_Pz ab_noz (ab_zv K)) := hX3_giveBack h
theorem ctX3_keep {Z : ab_Z} {K : ab_Z → ab_F → ab_F → Prop} {I A : ab_F} (h : wX3_keep K Z I A) : ab_Cl mX3_keep 6 24 900 [.ref 32, .ref 8] (shC Z) I A (ab_Pz ab_noz (ab_zv K)) := hX3_keep h
theorem ctJ4_length_8abf5 {Z : ab_Z} {K : Int32 → ab_F → ab_F → Prop} {I A : ab_F} (h : wJ4_length_8abf5 K I A) : ab_Cl mJ4_length_8abf5 3 0 0 [.ref 40] (shC Z) I A (ab_Px (shC Z) ab_no (ab_ri K)) := hJ4_length h
theorem ctJ4_charAt_5068e {Z : ab_Z} {K : Int32 → ab_Z → ab_F → ab_F → Prop} {I A : ab_F} {k : Int32} (h : wJ4_charAt_5068e K Z I A k) : ab_Cl mJ4_charAt_5068e 7 0 0 [.ref 40, .int k] (shC Z) I A (ab_Pz ab_noz (ab_zi K)) := hJ4_char h
