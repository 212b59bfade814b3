/-! String.length and charAt of the constants (their contracts) -/
def ab_st (i : Nat) : String × Nat × String × List Int32 := ab_str.getD i ("", 0, "", [])
theorem ab_kq {i : Nat} (h : i < 66) : ab_str[i]? = some (ab_st i) := by
  have hl : ab_str.length = 66 := by decide
  unfold ab_st
  rw [List.getD_eq_getElem?_getD, List.getElem?_eq_getElem (by omega)]
  rfl
theorem ab_stlen : ∀ i, i < 66 → (ab_st i).2.2.2.length < 64 ∧ ∀ j, j < (ab_st i).2.2.2.length → ((ab_st i).2.2.2.getD j 0) &&& 255 = (ab_st i).2.2.2.getD j 0 ∧ narrow .char (.int ((ab_st i).2.2.2.getD j 0)) = .int ((ab_st i).2.2.2.getD j 0) ∧ (((ab_st i).2.2.2.getD j 0).toUInt32 % 65536).toInt32 = (ab_st i).2.2.2.getD j 0 := by decide +kernel
def wJ0_length_8abf5 (K : Int32 → ab_F → ab_F → Prop) (I A : ab_F) (i : Nat) : Prop := i < 66 ∧ K (nI (ab_st i).2.2.2.length) I A
def wJ0_charAt_5068e (K : Int32 → ab_F → ab_F → Prop) (I A : ab_F) (i : Nat) (k : Int32) : Prop := i < 66 ∧ ∃ j : Nat, k = nI j ∧ j < (ab_st i).2.2.2.length ∧ K ((ab_st i).2.2.2.getD j 0) I A
section
variable {sh : List ab_S} {I A : ab_F} {i : Nat}
theorem ctJ0_coder {K : Int32 → ab_F → ab_F → Prop} (hi : i < 66) (h : K 0 I A) : ab_Cl mJ0_coder_7d493 0 0 0 [.retAddr (2 * i)] sh I A (ab_Px sh ab_no (ab_ri K)) := by
  refine ab_enter (ls := [some (.retAddr (2 * i))]) (by decide) (Nat.le_of_ble_eq_true rfl) rfl (fun C => ?_)
  refine g_compact (n := 3) dJ0_coder_7d493_0 w_593 rfl ?_
  refine g_if_eq 13 dJ0_coder_7d493_3 (by decide) (n := 6) rfl (fun hc => absurd hc (by decide)) (fun _ => ?_)
  refine g_aload_nK (n := 7) dJ0_coder_7d493_6 rfl rfl rfl ?_
  refine g_kcoder (n := 10) (ab_kq hi) dJ0_coder_7d493_7 w_1302 rfl ?_
  refine g_goto 14 dJ0_coder_7d493_10 (by decide) ?_
  exact g_iret rfl rfl dJ0_coder_7d493_14 ⟨rfl, _, rfl, h⟩
theorem ctJ0_isLatin1 {K : Int32 → ab_F → ab_F → Prop} (hi : i < 66) (h : K 1 I A) : ab_Cl mJ0_isLatin1_aae02 0 0 0 [.retAddr (2 * i)] sh I A (ab_Px sh ab_no (ab_ri K)) := by
  refine ab_enter (ls := [some (.retAddr (2 * i))]) (by decide) (Nat.le_of_ble_eq_true rfl) rfl (fun C => ?_)
  refine g_compact (n := 3) dJ0_isLatin1_aae02_0 w_593 rfl ?_
  refine g_if_eq 17 dJ0_isLatin1_aae02_3 (by decide) (n := 6) rfl (fun hc => absurd hc (by decide)) (fun _ => ?_)
  refine g_aload_nK (n := 7) dJ0_isLatin1_aae02_6 rfl rfl rfl ?_
  refine g_kcoder (n := 10) (ab_kq hi) dJ0_isLatin1_aae02_7 w_1302 rfl ?_
  refine g_if_ne 17 dJ0_isLatin1_aae02_10 (by decide) (n := 13) rfl (fun hc => absurd rfl hc) (fun _ => ?_)
  refine g_iconst (n := 14) (v := 1) dJ0_isLatin1_aae02_13 rfl rfl ?_
  refine g_goto 18 dJ0_isLatin1_aae02_14 (by decide) ?_
  exact g_iret rfl rfl dJ0_isLatin1_aae02_18 ⟨rfl, _, rfl, h⟩
theorem ctJ0_length_8abf5 {K : Int32 → ab_F → ab_F → Prop} (h : wJ0_length_8abf5 K I A i) : ab_Cl mJ0_length_8abf5 3 0 0 [.retAddr (2 * i)] sh I A (ab_Px sh ab_no (ab_ri K)) := by
  refine ab_enter (ls := [some (.retAddr (2 * i))]) (by decide) (Nat.le_of_ble_eq_true rfl) rfl (fun C => ?_)
  obtain ⟨hi, h⟩ := h
  refine g_aload_nK (n := 1) dJ0_length_8abf5_0 rfl rfl rfl ?_
  refine g_kval (n := 4) (ab_kq hi) dJ0_length_8abf5_1 w_1301 rfl ?_
  refine g_klen (n := 5) (ab_kq hi) dJ0_length_8abf5_4 rfl ?_
  refine g_aload_nK (n := 6) dJ0_length_8abf5_5 rfl rfl rfl ?_
  refine g_callVK (i := i) (n := 9) (as := []) (bc' := 0) (bs' := 0) (ab_kq hi) (ctJ0_coder (K := fun r I1 A1 => r = 0 ∧ I = I1 ∧ A = A1) hi ⟨rfl, rfl, rfl⟩) okJ0_coder_7d493 rfl w_589 w_590 w_591 w_110 dJ0_length_8abf5_6 rfl rfl (Nat.le_of_ble_eq_true rfl) (Nat.le_of_ble_eq_true rfl) (Nat.le_of_ble_eq_true rfl) (Nat.le_of_ble_eq_true rfl) rfl (fun E sh1 I1 A1 hp _ => hp.2.elim) (fun ro sh_ I1 A1 hp hle => ?_)
  obtain ⟨rfl, r, rfl, rfl, rfl, rfl⟩ := hp
  refine g_ishr (n := 10) dJ0_length_8abf5_9 rfl ?_
  rw [sb_shr0]
  exact g_iret rfl rfl dJ0_length_8abf5_10 ⟨rfl, _, rfl, h⟩
/-- Preconditions.checkIndex within its range, for either formatter -/
theorem ctJ3_checkIndex {K : Int32 → ab_F → ab_F → Prop} {v : Value} {j n : Nat} (hv : v = .null ∨ v = .retAddr 2000) (hj : j < n) (hn : n < 2 ^ 31) (h : K (nI j) I A) : ab_Cl mJ3_checkIndex_8e157 0 0 0 [.int (nI j), .int (nI n), v] sh I A (ab_Px sh ab_no (ab_ri K)) := by
  have e : ab_ent [.int (nI j), .int (nI n), v] = [some (.int (nI j)), some (.int (nI n)), some v] := by rcases hv with q | q <;> subst q <;> rfl
  refine ab_enter (ls := [some (.int (nI j)), some (.int (nI n)), some v]) (by decide) (by rw [e]; exact Nat.le_of_ble_eq_true rfl) (by rw [e]; rfl) (fun C => ?_)
  refine g_iload_n (n := 1) dJ3_checkIndex_8e157_0 rfl rfl rfl ?_
  refine g_if_lt 9 dJ3_checkIndex_8e157_1 (by decide) (n := 4) rfl (fun hc => absurd hc (nI_pos (by omega))) (fun _ => ?_)
  refine g_iload_n (n := 5) dJ3_checkIndex_8e157_4 rfl rfl rfl ?_
  refine g_iload_n (n := 6) dJ3_checkIndex_8e157_5 rfl rfl rfl ?_
  refine g_icmp_lt 16 dJ3_checkIndex_8e157_6 (by decide) (n := 9) rfl (fun _ => ?_) (fun hc => absurd (nI_lt hj hn) hc)
  refine g_iload_n (n := 17) dJ3_checkIndex_8e157_16 rfl rfl rfl ?_
  exact g_iret rfl rfl dJ3_checkIndex_8e157_17 ⟨rfl, _, rfl, h⟩
theorem ctJ0_checkIndex {K : ab_F → ab_F → Prop} {j n : Nat} (hj : j < n) (hn : n < 2 ^ 31) (h : K I A) : ab_Cl mJ0_checkIndex_df160 1 0 0 [.int (nI j), .int (nI n)] sh I A (ab_Px sh ab_no (ab_rv K)) := by
  refine ab_enter (ls := [some (.int (nI j)), some (.int (nI n))]) (by decide) (Nat.le_of_ble_eq_true rfl) rfl (fun C => ?_)
  refine g_iload_n (n := 1) dJ0_checkIndex_df160_0 rfl rfl rfl ?_
  refine g_iload_n (n := 2) dJ0_checkIndex_df160_1 rfl rfl rfl ?_
  have key : ∀ v : Value, (v = .null ∨ v = .retAddr 2000) → ab_G mJ0_checkIndex_df160 1 C (ab_Px sh ab_no (ab_rv K)) 5 [some (.int (nI j)), some (.int (nI n))] [v, .int (nI n), .int (nI j)] sh I A 0 0 := by
    intro v hv
    refine g_callS (n := 8) (as := [.int (nI j), .int (nI n), v]) (bc' := 0) (bs' := 0) (ctJ3_checkIndex (K := fun r I1 A1 => r = nI j ∧ I = I1 ∧ A = A1) hv hj hn ⟨rfl, rfl, rfl⟩) okJ3_checkIndex_8e157 w_610 w_611 dJ0_checkIndex_df160_5 rfl rfl (Nat.le_of_ble_eq_true rfl) (Nat.le_of_ble_eq_true rfl) (Nat.le_of_ble_eq_true rfl) (Nat.le_of_ble_eq_true rfl) rfl (fun E sh1 I1 A1 hp _ => hp.2.elim) (fun ro sh_ I1 A1 hp hle => ?_)
    obtain ⟨rfl, r, rfl, rfl, rfl, rfl⟩ := hp
    refine g_pop (n := 9) dJ0_checkIndex_df160_8 rfl rfl ?_
    exact g_vret rfl dJ0_checkIndex_df160_9 ⟨rfl, rfl, h⟩
  exact g_sioobe (n := 5) dJ0_checkIndex_df160_2 w_608 rfl (key _ (Or.inl rfl)) (key _ (Or.inr rfl))
theorem ctJ1_charAt {K : Int32 → ab_F → ab_F → Prop} {j : Nat} (hi : i < 66) (hj : j < (ab_st i).2.2.2.length) (h : K ((ab_st i).2.2.2.getD j 0) I A) : ab_Cl mJ1_charAt_3b067 2 0 0 [.retAddr (2 * i + 1), .int (nI j)] sh I A (ab_Px sh ab_no (ab_ri K)) := by
  obtain ⟨hl, hb⟩ := ab_stlen i hi
  obtain ⟨b1, b2, b3⟩ := hb j hj
  refine ab_enter (ls := [some (.retAddr (2 * i + 1)), some (.int (nI j))]) (by decide) (Nat.le_of_ble_eq_true rfl) rfl (fun C => ?_)
  refine g_iload_n (n := 1) dJ1_charAt_3b067_0 rfl rfl rfl ?_
  refine g_aload_nK (n := 2) dJ1_charAt_3b067_1 rfl rfl rfl ?_
  refine g_klen (n := 3) (ab_kq hi) dJ1_charAt_3b067_2 rfl ?_
  refine g_callS (n := 6) (as := [.int (nI j), .int (nI (ab_st i).2.2.2.length)]) (bc' := 0) (bs' := 0) (ctJ0_checkIndex (K := fun I1 A1 => I = I1 ∧ A = A1) hj (by omega) ⟨rfl, rfl⟩) okJ0_checkIndex_df160 w_605 w_606 dJ1_charAt_3b067_3 rfl rfl (Nat.le_of_ble_eq_true rfl) (Nat.le_of_ble_eq_true rfl) (Nat.le_of_ble_eq_true rfl) (Nat.le_of_ble_eq_true rfl) rfl (fun E sh1 I1 A1 hp _ => hp.2.elim) (fun ro sh_ I1 A1 hp hle => ?_)
  obtain ⟨rfl, rfl, rfl, rfl⟩ := hp
  refine g_aload_nK (n := 7) dJ1_charAt_3b067_6 rfl rfl rfl ?_
  refine g_iload_n (n := 8) dJ1_charAt_3b067_7 rfl rfl rfl ?_
  refine g_kbald (n := 9) (j := j) (ab_kq hi) dJ1_charAt_3b067_8 rfl hj (by omega) rfl ?_
  refine g_sipush (n := 12) (v := 255) dJ1_charAt_3b067_9 rfl rfl ?_
  refine g_iand (n := 13) dJ1_charAt_3b067_12 rfl ?_
  refine g_i2c (n := 14) dJ1_charAt_3b067_13 rfl ?_
  rw [b1, b3]
  exact g_iret rfl b2 dJ1_charAt_3b067_14 ⟨rfl, _, rfl, h⟩
theorem ctJ0_charAt_5068e {K : Int32 → ab_F → ab_F → Prop} {k : Int32} (h : wJ0_charAt_5068e K I A i k) : ab_Cl mJ0_charAt_5068e 5 0 0 [.retAddr (2 * i), .int k] sh I A (ab_Px sh ab_no (ab_ri K)) := by
  obtain ⟨hi, j, rfl, hj, h⟩ := h
  obtain ⟨hl, hb⟩ := ab_stlen i hi
  obtain ⟨b1, b2, b3⟩ := hb j hj
  refine ab_enter (ls := [some (.retAddr (2 * i)), some (.int (nI j))]) (by decide) (Nat.le_of_ble_eq_true rfl) rfl (fun C => ?_)
  refine g_aload_nK (n := 1) dJ0_charAt_5068e_0 rfl rfl rfl ?_
  refine g_callVK (i := i) (n := 4) (as := []) (bc' := 0) (bs' := 0) (ab_kq hi) (ctJ0_isLatin1 (K := fun r I1 A1 => r = 1 ∧ I = I1 ∧ A = A1) hi ⟨rfl, rfl, rfl⟩) okJ0_isLatin1_aae02 rfl w_598 w_599 w_600 w_110 dJ0_charAt_5068e_1 rfl rfl (Nat.le_of_ble_eq_true rfl) (Nat.le_of_ble_eq_true rfl) (Nat.le_of_ble_eq_true rfl) (Nat.le_of_ble_eq_true rfl) rfl (fun E sh1 I1 A1 hp _ => hp.2.elim) (fun ro sh_ I1 A1 hp hle => ?_)
  obtain ⟨rfl, r, rfl, rfl, rfl, rfl⟩ := hp
  refine g_if_eq 16 dJ0_charAt_5068e_4 (by decide) (n := 7) rfl (fun hc => absurd hc (by decide)) (fun _ => ?_)
  refine g_aload_nK (n := 8) dJ0_charAt_5068e_7 rfl rfl rfl ?_
  refine g_kval (n := 11) (ab_kq hi) dJ0_charAt_5068e_8 w_1301 rfl ?_
  refine g_iload_n (n := 12) dJ0_charAt_5068e_11 rfl rfl rfl ?_
  refine g_callS (n := 15) (as := [.retAddr (2 * i + 1), .int (nI j)]) (bc' := 0) (bs' := 0) (ctJ1_charAt (K := fun r I1 A1 => r = (ab_st i).2.2.2.getD j 0 ∧ I = I1 ∧ A = A1) hi hj ⟨rfl, rfl, rfl⟩) okJ1_charAt_3b067 w_602 w_603 dJ0_charAt_5068e_12 rfl rfl (Nat.le_of_ble_eq_true rfl) (Nat.le_of_ble_eq_true rfl) (Nat.le_of_ble_eq_true rfl) (Nat.le_of_ble_eq_true rfl) rfl (fun E sh1 I1 A1 hp _ => hp.2.elim) (fun ro sh_ I1 A1 hp hle => ?_)
  obtain ⟨rfl, r, rfl, rfl, rfl, rfl⟩ := hp
  exact g_iret rfl b2 dJ0_charAt_5068e_15 ⟨rfl, _, rfl, h⟩
end
