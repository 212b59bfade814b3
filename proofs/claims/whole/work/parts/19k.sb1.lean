/-! StringBuilder and AbstractStringBuilder, Latin-1: contracts -/
abbrev sb_ob (v : Nat) : ab_S := .inr (.inr (1, [some (.ref v), none, none, none]))
/-- the heap's shape and the bytes' cell where m places are asked of cap -/
def sb_gs (sh : List ab_S) (q m cap : Nat) : List ab_S := if m ≤ cap then sh else (sh ++ [(.inl (.byte, sb_cap m cap) : ab_S)]).set q (sb_ob sh.length)
def sb_gv (sh : List ab_S) (v m cap : Nat) : Nat := if m ≤ cap then v else sh.length
theorem s_lt {sh : List ab_S} {q : Nat} {x : ab_S} (h : sh[q]? = some x) : q < sh.length := (List.getElem?_eq_some_iff.mp h).1
theorem sb_gq {sh : List ab_S} {q v m cap : Nat} (hq : sh[q]? = some (sb_ob v)) : (sb_gs sh q m cap)[q]? = some (sb_ob (sb_gv sh v m cap)) := by
  unfold sb_gs sb_gv
  by_cases h : m ≤ cap
  · rw [if_pos h, if_pos h]; exact hq
  · rw [if_neg h, if_neg h, List.getElem?_set_self (by rw [List.length_append]; have := s_lt hq; omega)]
theorem sb_gw {sh : List ab_S} {q v m cap : Nat} (hq : sh[q]? = some (sb_ob v)) (hv : sh[v]? = some (.inl (.byte, cap))) : (sb_gs sh q m cap)[sb_gv sh v m cap]? = some (.inl (.byte, sb_cap m cap)) := by
  unfold sb_gs sb_gv
  by_cases h : m ≤ cap
  · rw [if_pos h, if_pos h, sb_cap, if_pos h]; exact hv
  · rw [if_neg h, if_neg h, List.getElem?_set_ne (by have := s_lt hq; omega), List.getElem?_append_right (Nat.le_refl _), Nat.sub_self]
    rfl
def sb_Pe (sh : List ab_S) (q v m cap : Nat) (I A : ab_F) : ab_O → Prop := fun o => o.1 = .inl none ∧ o.2.1 = sb_gs sh q m cap ∧ o.2.2.1 = I ∧ (∀ c, c ≠ sb_gv sh v m cap → o.2.2.2 c = A c) ∧ (∀ j, j < cap → o.2.2.2 (sb_gv sh v m cap) j = A v j) ∧ sb_Fit (o.2.2.2 (sb_gv sh v m cap)) ∧ (m ≤ cap → o.2.2.2 = A)
theorem sb_sub {m cap : Nat} (hm : m < 65600) (hc : cap < 65600) : (nI m - nI cap ≤ 0) ↔ m ≤ cap := by
  have e1 : (nI m - nI cap).toInt = (m : Int) - cap := pk_sub_toInt (by omega) (by omega)
  rw [Int32.le_iff_toInt_le, e1, Int32.toInt_zero]
  omega
section
variable {sh : List ab_S} {I A : ab_F} {q v n cap : Nat}
abbrev mJ5_length_8abf5 : ab_M := (yJ5_length_8abf5, cJ5_length_8abf5, 1, (some .int))
theorem okJ5_length_8abf5 : ab_mOK mJ5_length_8abf5 0 := ⟨⟨by decide, by decide, by decide +kernel⟩, by decide, (ab_in 1203 (by decide +kernel) rfl), (ab_in 108 (by decide +kernel) rfl)⟩
abbrev mJ5_isLatin1_aae02 : ab_M := (yJ5_isLatin1_aae02, cJ5_isLatin1_aae02, 1, (some .boolean))
theorem okJ5_isLatin1_aae02 : ab_mOK mJ5_isLatin1_aae02 0 := ⟨⟨by decide, by decide, by decide +kernel⟩, by decide, (ab_in 1102 (by decide +kernel) rfl), (ab_in 108 (by decide +kernel) rfl)⟩
abbrev mJ5_newCapacity_0f7a4 : ab_M := (yJ5_newCapacity_0f7a4, cJ5_newCapacity_0f7a4, 6, (some .int))
theorem okJ5_newCapacity_0f7a4 : ab_mOK mJ5_newCapacity_0f7a4 1 := ⟨⟨by decide, by decide, by decide +kernel⟩, by decide, (ab_in 1076 (by decide +kernel) rfl), (ab_in 108 (by decide +kernel) rfl)⟩
abbrev mJ8_newLength_cabcc : ab_M := (yJ8_newLength_cabcc, cJ8_newLength_cabcc, 4, (some .int))
theorem okJ8_newLength_cabcc : ab_mOK mJ8_newLength_cabcc 3 := ⟨⟨by decide, by decide, by decide +kernel⟩, by decide, (ab_in 1079 (by decide +kernel) rfl), (ab_in 132 (by decide +kernel) rfl)⟩
abbrev mJ7_copyOf_9075b : ab_M := (yJ7_copyOf_9075b, cJ7_copyOf_9075b, 3, (some (.array .byte)))
theorem okJ7_copyOf_9075b : ab_mOK mJ7_copyOf_9075b 2 := ⟨⟨by decide, by decide, by decide +kernel⟩, by decide, (ab_in 1088 (by decide +kernel) rfl), (ab_in 133 (by decide +kernel) rfl)⟩
abbrev mJ5_ensureCapacityInternal_d00df : ab_M := (yJ5_ensureCapacityInternal_d00df, cJ5_ensureCapacityInternal_d00df, 3, none)
theorem okJ5_ensureCapacityInternal_d00df : ab_mOK mJ5_ensureCapacityInternal_d00df 1 := ⟨⟨by decide, by decide, by decide +kernel⟩, by decide, (ab_in 1072 (by decide +kernel) rfl), (ab_in 108 (by decide +kernel) rfl)⟩
abbrev mJ5_inflateIfNeededFor_a7421 : ab_M := (yJ5_inflateIfNeededFor_a7421, cJ5_inflateIfNeededFor_a7421, 2, none)
theorem okJ5_inflateIfNeededFor_a7421 : ab_mOK mJ5_inflateIfNeededFor_a7421 1 := ⟨⟨by decide, by decide, by decide +kernel⟩, by decide, (ab_in 1126 (by decide +kernel) rfl), (ab_in 108 (by decide +kernel) rfl)⟩
abbrev mJ5_putStringAt_47b60 : ab_M := (yJ5_putStringAt_47b60, cJ5_putStringAt_47b60, 3, none)
theorem okJ5_putStringAt_47b60 : ab_mOK mJ5_putStringAt_47b60 2 := ⟨⟨by decide, by decide, by decide +kernel⟩, by decide, (ab_in 1122 (by decide +kernel) rfl), (ab_in 108 (by decide +kernel) rfl)⟩
abbrev mJ0_getBytes_840e7 : ab_M := (yJ0_getBytes_840e7, cJ0_getBytes_840e7, 4, none)
theorem okJ0_getBytes_840e7 : ab_mOK mJ0_getBytes_840e7 3 := ⟨⟨by decide, by decide, by decide +kernel⟩, by decide, (ab_in 1150 (by decide +kernel) rfl), (ab_in 110 (by decide +kernel) rfl)⟩
abbrev mJ5_append_cf1ce : ab_M := (yJ5_append_cf1ce, cJ5_append_cf1ce, 3, (some (.object "java/lang/AbstractStringBuilder")))
theorem okJ5_append_cf1ce : ab_mOK mJ5_append_cf1ce 1 := ⟨⟨by decide, by decide, by decide +kernel⟩, by decide, (ab_in 1064 (by decide +kernel) rfl), (ab_in 108 (by decide +kernel) rfl)⟩
abbrev mJ5_append_3fe6f : ab_M := (yJ5_append_3fe6f, cJ5_append_3fe6f, 2, (some (.object "java/lang/AbstractStringBuilder")))
theorem okJ5_append_3fe6f : ab_mOK mJ5_append_3fe6f 1 := ⟨⟨by decide, by decide, by decide +kernel⟩, by decide, (ab_in 1373 (by decide +kernel) rfl), (ab_in 108 (by decide +kernel) rfl)⟩
abbrev mJ5_append_c97b9 : ab_M := (yJ5_append_c97b9, cJ5_append_c97b9, 4, (some (.object "java/lang/AbstractStringBuilder")))
theorem okJ5_append_c97b9 : ab_mOK mJ5_append_c97b9 1 := ⟨⟨by decide, by decide, by decide +kernel⟩, by decide, (ab_in 1159 (by decide +kernel) rfl), (ab_in 108 (by decide +kernel) rfl)⟩
abbrev mJ5_setLength_d00df : ab_M := (yJ5_setLength_d00df, cJ5_setLength_d00df, 2, none)
theorem okJ5_setLength_d00df : ab_mOK mJ5_setLength_d00df 1 := ⟨⟨by decide, by decide, by decide +kernel⟩, by decide, (ab_in 1049 (by decide +kernel) rfl), (ab_in 108 (by decide +kernel) rfl)⟩
abbrev mJ5_charAt_5068e : ab_M := (yJ5_charAt_5068e, cJ5_charAt_5068e, 5, (some .char))
theorem okJ5_charAt_5068e : ab_mOK mJ5_charAt_5068e 1 := ⟨⟨by decide, by decide, by decide +kernel⟩, by decide, (ab_in 1968 (by decide +kernel) rfl), (ab_in 108 (by decide +kernel) rfl)⟩
abbrev mJ1_canEncode_fc78d : ab_M := (yJ1_canEncode_fc78d, cJ1_canEncode_fc78d, 1, (some .boolean))
theorem okJ1_canEncode_fc78d : ab_mOK mJ1_canEncode_fc78d 1 := ⟨⟨by decide, by decide, by decide +kernel⟩, by decide, (ab_in 1376 (by decide +kernel) rfl), (ab_in 121 (by decide +kernel) rfl)⟩
abbrev mJ4_append_15ec4 : ab_M := (yJ4_append_15ec4, cJ4_append_15ec4, 2, (some (.object "java/lang/StringBuilder")))
theorem okJ4_append_15ec4 : ab_mOK mJ4_append_15ec4 1 := ⟨⟨by decide, by decide, by decide +kernel⟩, by decide, (ab_in 1061 (by decide +kernel) rfl), (ab_in 109 (by decide +kernel) rfl)⟩
abbrev mJ4_append_cf468 : ab_M := (yJ4_append_cf468, cJ4_append_cf468, 2, (some (.object "java/lang/StringBuilder")))
theorem okJ4_append_cf468 : ab_mOK mJ4_append_cf468 1 := ⟨⟨by decide, by decide, by decide +kernel⟩, by decide, (ab_in 1370 (by decide +kernel) rfl), (ab_in 109 (by decide +kernel) rfl)⟩
abbrev mJ4_append_bf812 : ab_M := (yJ4_append_bf812, cJ4_append_bf812, 2, (some (.object "java/lang/StringBuilder")))
theorem okJ4_append_bf812 : ab_mOK mJ4_append_bf812 1 := ⟨⟨by decide, by decide, by decide +kernel⟩, by decide, (ab_in 1156 (by decide +kernel) rfl), (ab_in 109 (by decide +kernel) rfl)⟩
abbrev mJ4_setLength_d00df : ab_M := (yJ4_setLength_d00df, cJ4_setLength_d00df, 2, none)
theorem okJ4_setLength_d00df : ab_mOK mJ4_setLength_d00df 1 := ⟨⟨by decide, by decide, by decide +kernel⟩, by decide, (ab_in 1046 (by decide +kernel) rfl), (ab_in 109 (by decide +kernel) rfl)⟩
theorem ctJ5_length {K : Int32 → ab_F → ab_F → Prop} (hq : sh[q]? = some (sb_ob v)) (h : K (I q 3) I A) : ab_Cl mJ5_length_8abf5 0 0 0 [.ref q] sh I A (ab_Px sh ab_no (ab_ri K)) := by
  refine ab_enter (ls := [some (.ref q)]) (by decide +kernel) (Nat.le_of_ble_eq_true rfl) rfl (fun C => ?_)
  refine g_aload_n (n := 1) dJ5_length_8abf5_0 rfl rfl rfl ?_
  refine g_getIE (n := 4) (k := 3) (x := (I q 3)) dJ5_length_8abf5_1 hq vc_1 (Nat.le_of_ble_eq_true rfl) rfl (ab_in 524 (by decide +kernel) rfl) (rfl) rfl ?_
  exact g_iret rfl rfl dJ5_length_8abf5_4 ⟨rfl, _, rfl, h⟩
theorem ctJ5_isLatin1 {K : Int32 → ab_F → ab_F → Prop} (hq : sh[q]? = some (sb_ob v)) (h0 : I q 1 = 0) (h : K (nI 1) I A) : ab_Cl mJ5_isLatin1_aae02 0 0 0 [.ref q] sh I A (ab_Px sh ab_no (ab_ri K)) := by
  refine ab_enter (ls := [some (.ref q)]) (by decide +kernel) (Nat.le_of_ble_eq_true rfl) rfl (fun C => ?_)
  refine g_compact (n := 3) dJ5_isLatin1_aae02_0 (ab_in 511 (by decide +kernel) rfl) rfl ?_
  refine g_if_eq 17 dJ5_isLatin1_aae02_3 (by decide) (n := 6) rfl (fun hc => absurd hc (by decide)) (fun _ => ?_)
  refine g_aload_n (n := 7) dJ5_isLatin1_aae02_6 rfl rfl rfl ?_
  refine g_getIE (n := 10) (k := 1) (x := (0 : Int32)) dJ5_isLatin1_aae02_7 hq vc_1 (Nat.le_of_ble_eq_true rfl) rfl (ab_in 521 (by decide +kernel) rfl) (h0) rfl ?_
  refine g_if_ne 17 dJ5_isLatin1_aae02_10 (by decide) (n := 13) rfl (fun hc => absurd hc (fun hc => hc rfl)) (fun _ => ?_)
  refine g_iconst (n := 14) (v := (nI 1)) dJ5_isLatin1_aae02_13 rfl rfl ?_
  refine g_goto 18 dJ5_isLatin1_aae02_14 (by decide) ?_
  exact g_iret rfl rfl dJ5_isLatin1_aae02_18 ⟨rfl, _, rfl, h⟩
theorem nl_max {b c : Nat} (hb : b < 2 ^ 31) (hc : c < 2 ^ 31) : (if nI b < nI c then nI c else nI b) = nI (max b c) := by
  by_cases h : b < c
  · rw [if_pos (nI_lt h hc), Nat.max_eq_right (by omega)]
  · rw [if_neg (nI_nlt (by omega) hb), Nat.max_eq_left (by omega)]
theorem nl_min {b c : Nat} (hb : b < 2 ^ 31) (hc : c < 2 ^ 31) : (if nI c < nI b then nI c else nI b) = nI (min b c) := by
  by_cases h : c < b
  · rw [if_pos (nI_lt h hb), Nat.min_eq_right (by omega)]
  · rw [if_neg (nI_nlt (by omega) hc), Nat.min_eq_left (by omega)]
theorem ctJ8_newLength {a b c : Nat} {K : Int32 → ab_F → ab_F → Prop} (ha : a < 65600) (hb : b < 65600) (hc : c < 65700) (hp : 0 < c) (h : K (nI (a + max b c)) I A) : ab_Cl mJ8_newLength_cabcc 1 0 0 [.int (nI a), .int (nI b), .int (nI c)] sh I A (ab_Px sh ab_no (ab_ri K)) := by
  refine ab_enter (ls := [some (.int (nI a)), some (.int (nI b)), some (.int (nI c)), none]) (by decide +kernel) (Nat.le_of_ble_eq_true rfl) rfl (fun C => ?_)
  refine g_iload_n (n := 1) dJ8_newLength_cabcc_0 rfl rfl rfl ?_
  refine g_iload_n (n := 2) dJ8_newLength_cabcc_1 rfl rfl rfl ?_
  refine g_iload_n (n := 3) dJ8_newLength_cabcc_2 rfl rfl rfl ?_
  refine g_mmax (n := 6) dJ8_newLength_cabcc_3 (ab_in 1080 (by decide +kernel) rfl) (ab_in 1028 (by decide +kernel) rfl) (ab_in 125 (by decide +kernel) rfl) (ab_in 1029 (by decide +kernel) rfl) (Nat.le_of_ble_eq_true rfl) (Nat.le_of_ble_eq_true rfl) rfl ?_
  rw [show (if (nI b) < (nI c) then (nI c) else (nI b)) = (nI (max b c)) from nl_max (by omega) (by omega)]
  refine g_iadd (n := 7) dJ8_newLength_cabcc_6 rfl ?_
  rw [show ((nI a) + (nI (max b c))) = (nI (a + max b c)) from nI_add _ _]
  refine g_istore_n (n := 8) (ls' := [some (.int (nI a)), some (.int (nI b)), some (.int (nI c)), some (.int (nI (a + max b c)))]) dJ8_newLength_cabcc_7 rfl rfl (Nat.le_of_ble_eq_true rfl) (Nat.le_of_ble_eq_true rfl) rfl rfl ?_
  refine g_iconst (n := 9) (v := (nI 0)) dJ8_newLength_cabcc_8 rfl rfl ?_
  refine g_iload_n (n := 10) dJ8_newLength_cabcc_9 rfl rfl rfl ?_
  refine g_icmp_ge 21 dJ8_newLength_cabcc_10 (by decide) (n := 13) rfl (fun hc => absurd hc (nI_ge (by omega) (by omega))) (fun _ => ?_)
  refine g_iload_n (n := 14) dJ8_newLength_cabcc_13 rfl rfl rfl ?_
  refine g_ldc (n := 16) (v := nI 2147483639) dJ8_newLength_cabcc_14 (ab_in 1081 (by decide +kernel) rfl) rfl ?_
  refine g_icmp_gt 21 dJ8_newLength_cabcc_16 (by decide) (n := 19) rfl (fun hc => absurd hc (nI_nlt (by omega) (by omega))) (fun _ => ?_)
  refine g_iload_n (n := 20) dJ8_newLength_cabcc_19 rfl rfl rfl ?_
  exact g_iret rfl rfl dJ8_newLength_cabcc_20 ⟨rfl, _, rfl, h⟩
theorem ctJ5_newCapacity {m : Nat} {K : Int32 → ab_F → ab_F → Prop} (hq : sh[q]? = some (sb_ob v)) (hv : sh[v]? = some (.inl (.byte, cap))) (h0 : I q 1 = 0) (hm : cap < m) (hc : m < 65536) (h : K (nI (sb_cap m cap)) I A) : ab_Cl mJ5_newCapacity_0f7a4 2 0 0 [.ref q, .int (nI m)] sh I A (ab_Px sh ab_no (ab_ri K)) := by
  refine ab_enter (ls := [some (.ref q), some (.int (nI m)), none, none, none, none]) (by decide +kernel) (Nat.le_of_ble_eq_true rfl) rfl (fun C => ?_)
  have hcp : cap + max (m - cap) (cap + 2) = sb_cap m cap := by
    unfold sb_cap
    rw [if_neg (by omega)]
    split <;> omega
  have hcb : sb_cap m cap < 140000 := by rw [← hcp]; omega
  refine g_aload_n (n := 1) dJ5_newCapacity_0f7a4_0 rfl rfl rfl ?_
  refine g_getR (n := 4) (k := 0) dJ5_newCapacity_0f7a4_1 hq vc_1 (Nat.le_of_ble_eq_true rfl) rfl (ab_in 520 (by decide +kernel) rfl) rfl ?_
  refine g_alen (n := 5) (t0 := 1) (v := nI cap) dJ5_newCapacity_0f7a4_4 hv (fun _ => rfl) rfl rfl ?_
  refine g_istore_n (n := 6) (ls' := [some (.ref q), some (.int (nI m)), some (.int (nI cap)), none, none, none]) dJ5_newCapacity_0f7a4_5 rfl rfl (Nat.le_of_ble_eq_true rfl) (Nat.le_of_ble_eq_true rfl) rfl rfl ?_
  refine g_iload_n (n := 7) dJ5_newCapacity_0f7a4_6 rfl rfl rfl ?_
  refine g_aload_n (n := 8) dJ5_newCapacity_0f7a4_7 rfl rfl rfl ?_
  refine g_getIE (n := 11) (k := 1) (x := (0 : Int32)) dJ5_newCapacity_0f7a4_8 hq vc_1 (Nat.le_of_ble_eq_true rfl) rfl (ab_in 521 (by decide +kernel) rfl) (h0) rfl ?_
  refine g_ishl (n := 12) dJ5_newCapacity_0f7a4_11 rfl ?_
  rw [show ((nI m) <<< ((0 : Int32) &&& 31)) = (nI m) from sb_shl0 _]
  refine g_istore_n (n := 13) (ls' := [some (.ref q), some (.int (nI m)), some (.int (nI cap)), some (.int (nI m)), none, none]) dJ5_newCapacity_0f7a4_12 rfl rfl (Nat.le_of_ble_eq_true rfl) (Nat.le_of_ble_eq_true rfl) rfl rfl ?_
  refine g_iload_n (n := 14) dJ5_newCapacity_0f7a4_13 rfl rfl rfl ?_
  refine g_iload_n (n := 15) dJ5_newCapacity_0f7a4_14 rfl rfl rfl ?_
  refine g_isub (n := 16) dJ5_newCapacity_0f7a4_15 rfl ?_
  rw [show ((nI m) - (nI cap)) = (nI (m - cap)) from pk_sub (by omega)]
  refine g_istore (n := 18) (ls' := [some (.ref q), some (.int (nI m)), some (.int (nI cap)), some (.int (nI m)), some (.int (nI (m - cap))), none]) dJ5_newCapacity_0f7a4_16 rfl (Nat.le_of_ble_eq_true rfl) (Nat.le_of_ble_eq_true rfl) rfl rfl ?_
  refine g_iload_n (n := 19) dJ5_newCapacity_0f7a4_18 rfl rfl rfl ?_
  refine g_iload (n := 21) dJ5_newCapacity_0f7a4_19 rfl rfl ?_
  refine g_iload_n (n := 22) dJ5_newCapacity_0f7a4_21 rfl rfl rfl ?_
  refine g_iconst (n := 23) (v := (nI 2)) dJ5_newCapacity_0f7a4_22 rfl rfl ?_
  refine g_aload_n (n := 24) dJ5_newCapacity_0f7a4_23 rfl rfl rfl ?_
  refine g_getIE (n := 27) (k := 1) (x := (0 : Int32)) dJ5_newCapacity_0f7a4_24 hq vc_1 (Nat.le_of_ble_eq_true rfl) rfl (ab_in 521 (by decide +kernel) rfl) (h0) rfl ?_
  refine g_ishl (n := 28) dJ5_newCapacity_0f7a4_27 rfl ?_
  rw [show ((nI 2) <<< ((0 : Int32) &&& 31)) = (nI 2) from sb_shl0 _]
  refine g_iadd (n := 29) dJ5_newCapacity_0f7a4_28 rfl ?_
  rw [show ((nI cap) + (nI 2)) = (nI (cap + 2)) from nI_add _ _]
  refine g_callS (n := 32) (as := [.int (nI cap), .int (nI (m - cap)), .int (nI (cap + 2))]) (bc' := 0) (bs' := 0) (ctJ8_newLength (K := (fun r I1 A1 => r = nI (cap + max (m - cap) (cap + 2)) ∧ I = I1 ∧ A = A1)) (by omega) (by omega) (by omega) (by omega) ⟨rfl, rfl, rfl⟩) okJ8_newLength_cabcc (ab_in 1077 (by decide +kernel) rfl) (ab_in 1078 (by decide +kernel) rfl) dJ5_newCapacity_0f7a4_29 rfl rfl (Nat.le_of_ble_eq_true rfl) (Nat.le_of_ble_eq_true rfl) (Nat.le_of_ble_eq_true rfl) (Nat.le_of_ble_eq_true rfl) rfl (fun E sh1 I1 A1 hp _ => hp.2.elim) (fun ro sh1 I1 A1 hp _ => ?_)
  obtain ⟨rfl, r, rfl, rfl, rfl, rfl⟩ := hp
  rw [hcp]
  refine g_istore (n := 34) (ls' := [some (.ref q), some (.int (nI m)), some (.int (nI cap)), some (.int (nI m)), some (.int (nI (m - cap))), some (.int (nI (sb_cap m cap)))]) dJ5_newCapacity_0f7a4_32 rfl (Nat.le_of_ble_eq_true rfl) (Nat.le_of_ble_eq_true rfl) rfl rfl ?_
  refine g_iload (n := 36) dJ5_newCapacity_0f7a4_34 rfl rfl ?_
  refine g_ldc (n := 38) (v := nI 2147483647) dJ5_newCapacity_0f7a4_36 (ab_in 1085 (by decide +kernel) rfl) rfl ?_
  refine g_icmp_ne 51 dJ5_newCapacity_0f7a4_38 (by decide) (n := 41) rfl (fun _ => ?_) (fun hc => absurd hc (fun hz => by have := (nI_eq (by omega) (by decide)).mp (show nI (sb_cap m cap) = nI 2147483647 from hz); omega))
  refine g_iload (n := 53) dJ5_newCapacity_0f7a4_51 rfl rfl ?_
  refine g_aload_n (n := 54) dJ5_newCapacity_0f7a4_53 rfl rfl rfl ?_
  refine g_getIE (n := 57) (k := 1) (x := (0 : Int32)) dJ5_newCapacity_0f7a4_54 hq vc_1 (Nat.le_of_ble_eq_true rfl) rfl (ab_in 521 (by decide +kernel) rfl) (h0) rfl ?_
  refine g_ishr (n := 58) dJ5_newCapacity_0f7a4_57 rfl ?_
  rw [show ((nI (sb_cap m cap)) >>> ((0 : Int32) &&& 31)) = (nI (sb_cap m cap)) from sb_shr0 _]
  exact g_iret rfl rfl dJ5_newCapacity_0f7a4_58 ⟨rfl, _, rfl, h⟩
/-- the copy of the bytes in more places -/
def sb_A1 (A : ab_F) (x v cap : Nat) : ab_F := wrow (wrow A x (fun _ => 0)) x (va_cpy ((wrow A x (fun _ => 0)) v) ((wrow A x (fun _ => 0)) x) 0 0 cap)
theorem ctJ7_copyOf {N : Nat} (hv : sh[v]? = some (.inl (.byte, cap))) (hc : cap < N) (hN : N < 65536) (hf : sb_Fit (A v)) : ab_Cl mJ7_copyOf_9075b 1 1 N [.ref v, .int (nI N)] sh I A (fun o => o = (.inl (some (.ref sh.length)), sh ++ [(.inl (.byte, N) : ab_S)], I, sb_A1 A sh.length v cap)) := by
  refine ab_enter (ls := [some (.ref v), some (.int (nI N)), none]) (by decide +kernel) (Nat.le_of_ble_eq_true rfl) rfl (fun C => ?_)
  have hv' : (sh ++ [(.inl (.byte, N) : ab_S)])[v]? = some (.inl (.byte, cap)) := by rw [List.getElem?_append_left (s_lt hv)]; exact hv
  have hx : (sh ++ [(.inl (.byte, N) : ab_S)])[sh.length]? = some (.inl (.byte, N)) := by rw [List.getElem?_append_right (Nat.le_refl _), Nat.sub_self]; rfl
  refine g_iload_n (n := 1) dJ7_copyOf_9075b_0 rfl rfl rfl ?_
  refine g_aload_n (n := 2) dJ7_copyOf_9075b_1 rfl rfl rfl ?_
  refine g_alen (n := 3) (t0 := 1) (v := nI cap) dJ7_copyOf_9075b_2 hv (fun _ => rfl) rfl rfl ?_
  refine g_icmp_ne 14 dJ7_copyOf_9075b_3 (by decide) (n := 6) rfl (fun _ => ?_) (fun hc => absurd hc (fun hz => by have := (nI_eq (by omega) (by omega)).mp hz; omega))
  refine g_iload_n (n := 15) dJ7_copyOf_9075b_14 rfl rfl rfl ?_
  refine g_newb (n := 17) (N := N) (bc' := 0) (bs' := 0) dJ7_copyOf_9075b_15 (nI_pos (by omega)) (nI_clamp (by omega)) (by omega) (ab_in 534 (by decide +kernel) rfl) (by omega) (by omega) rfl rfl ?_
  refine g_astore_n (n := 18) (ls' := [some (.ref v), some (.int (nI N)), some (.ref sh.length)]) dJ7_copyOf_9075b_17 rfl rfl (Nat.le_of_ble_eq_true rfl) (Nat.le_of_ble_eq_true rfl) rfl rfl ?_
  refine g_aload_n (n := 19) dJ7_copyOf_9075b_18 rfl rfl rfl ?_
  refine g_iconst (n := 20) (v := (nI 0)) dJ7_copyOf_9075b_19 rfl rfl ?_
  refine g_aload_n (n := 21) dJ7_copyOf_9075b_20 rfl rfl rfl ?_
  refine g_iconst (n := 22) (v := (nI 0)) dJ7_copyOf_9075b_21 rfl rfl ?_
  refine g_aload_n (n := 23) dJ7_copyOf_9075b_22 rfl rfl rfl ?_
  refine g_alen (n := 24) (t0 := 1) (v := nI cap) dJ7_copyOf_9075b_23 hv' (fun _ => rfl) rfl rfl ?_
  refine g_iload_n (n := 25) dJ7_copyOf_9075b_24 rfl rfl rfl ?_
  refine g_mmin (n := 28) dJ7_copyOf_9075b_25 (ab_in 1096 (by decide +kernel) rfl) (ab_in 741 (by decide +kernel) rfl) (ab_in 125 (by decide +kernel) rfl) (ab_in 742 (by decide +kernel) rfl) (Nat.le_of_ble_eq_true rfl) (Nat.le_of_ble_eq_true rfl) rfl ?_
  rw [show (if (nI N) < (nI cap) then (nI N) else (nI cap)) = (nI cap) from if_neg (nI_nlt (by omega) (by omega))]
  refine g_copyB (n := 31)  (ab_in 1097 (by decide +kernel) rfl) wy_2 wy_3 wy_4 dJ7_copyOf_9075b_28 hv' hx (Nat.le_refl _) (by omega) hN (fun j _ => by rw [wrow_ne (by have := s_lt hv; omega)]; exact hf j) (Nat.le_of_ble_eq_true rfl) (Nat.le_of_ble_eq_true rfl) rfl ?_
  refine g_aload_n (n := 32) dJ7_copyOf_9075b_31 rfl rfl rfl ?_
  exact g_aret (n := 0) rfl (Or.inr ⟨_, rfl⟩) dJ7_copyOf_9075b_32 rfl
theorem sb_Pe0 {m : Nat} (hm : m ≤ cap) (hf : sb_Fit (A v)) : sb_Pe sh q v m cap I A (.inl none, sh, I, A) := by
  have e1 : sb_gs sh q m cap = sh := if_pos hm
  have e2 : sb_gv sh v m cap = v := if_pos hm
  refine ⟨rfl, e1.symm, rfl, fun c _ => rfl, ?_, ?_, fun _ => rfl⟩
  · rw [e2]; exact fun j _ => rfl
  · rw [e2]; exact hf
theorem sb_Pe1 {m : Nat} (hm : ¬ m ≤ cap) (hv : sh[v]? = some (.inl (.byte, cap))) (hf : sb_Fit (A v)) : sb_Pe sh q v m cap I A (.inl none, (sh ++ [(.inl (.byte, sb_cap m cap) : ab_S)]).set q (sb_ob sh.length), I, sb_A1 A sh.length v cap) := by
  have e1 : sb_gs sh q m cap = (sh ++ [(.inl (.byte, sb_cap m cap) : ab_S)]).set q (sb_ob sh.length) := if_neg hm
  have e2 : sb_gv sh v m cap = sh.length := if_neg hm
  have e3 : sb_A1 A sh.length v cap sh.length = va_cpy (A v) (fun _ => 0) 0 0 cap := by
    unfold sb_A1
    rw [wrow_at, wrow_at, wrow_ne (by have := s_lt hv; omega)]
  refine ⟨rfl, e1.symm, rfl, fun c h => ?_, ?_, ?_, fun h => absurd h hm⟩
  · show sb_A1 A sh.length v cap c = A c
    rw [e2] at h
    unfold sb_A1
    rw [wrow_ne h, wrow_ne h]
  · rw [e2]
    intro j hj
    show sb_A1 A sh.length v cap sh.length j = _
    rw [e3]
    exact sb_cpy0 hj
  · rw [e2]
    show sb_Fit (sb_A1 A sh.length v cap sh.length)
    rw [e3]
    exact sb_fitC hf sb_fit0
theorem ctJ5_ensure {m mc ms : Nat} (hq : sh[q]? = some (sb_ob v)) (hv : sh[v]? = some (.inl (.byte, cap))) (h0 : I q 1 = 0) (hm : m < 65536) (hc : cap < 65536) (hs : sb_cap m cap < 65536) (hf : sb_Fit (A v)) (hr : m ≤ cap ∨ (1 ≤ mc ∧ sb_cap m cap ≤ ms)) : ab_Cl mJ5_ensureCapacityInternal_d00df 3 mc ms [.ref q, .int (nI m)] sh I A (sb_Pe sh q v m cap I A) := by
  refine ab_enter (ls := [some (.ref q), some (.int (nI m)), none]) (by decide +kernel) (Nat.le_of_ble_eq_true rfl) rfl (fun C => ?_)
  by_cases hle : m ≤ cap
  · refine g_aload_n (n := 1) dJ5_ensureCapacityInternal_d00df_0 rfl rfl rfl ?_
    refine g_getR (n := 4) (k := 0) dJ5_ensureCapacityInternal_d00df_1 hq vc_1 (Nat.le_of_ble_eq_true rfl) rfl (ab_in 520 (by decide +kernel) rfl) rfl ?_
    refine g_alen (n := 5) (t0 := 1) (v := nI cap) dJ5_ensureCapacityInternal_d00df_4 hv (fun _ => rfl) rfl rfl ?_
    refine g_aload_n (n := 6) dJ5_ensureCapacityInternal_d00df_5 rfl rfl rfl ?_
    refine g_getIE (n := 9) (k := 1) (x := (0 : Int32)) dJ5_ensureCapacityInternal_d00df_6 hq vc_1 (Nat.le_of_ble_eq_true rfl) rfl (ab_in 521 (by decide +kernel) rfl) (h0) rfl ?_
    refine g_ishr (n := 10) dJ5_ensureCapacityInternal_d00df_9 rfl ?_
    rw [show ((nI cap) >>> ((0 : Int32) &&& 31)) = (nI cap) from sb_shr0 _]
    refine g_istore_n (n := 11) (ls' := [some (.ref q), some (.int (nI m)), some (.int (nI cap))]) dJ5_ensureCapacityInternal_d00df_10 rfl rfl (Nat.le_of_ble_eq_true rfl) (Nat.le_of_ble_eq_true rfl) rfl rfl ?_
    refine g_iload_n (n := 12) dJ5_ensureCapacityInternal_d00df_11 rfl rfl rfl ?_
    refine g_iload_n (n := 13) dJ5_ensureCapacityInternal_d00df_12 rfl rfl rfl ?_
    refine g_isub (n := 14) dJ5_ensureCapacityInternal_d00df_13 rfl ?_
    refine g_if_le 38 dJ5_ensureCapacityInternal_d00df_14 (by decide) (n := 17) rfl (fun _ => ?_) (fun hc => absurd ((sb_sub (by omega) (by omega)).mpr hle) hc)
    exact g_vret rfl dJ5_ensureCapacityInternal_d00df_38 (sb_Pe0 hle hf)
  · have hq' : (sh ++ [(.inl (.byte, sb_cap m cap) : ab_S)])[q]? = some (sb_ob v) := by rw [List.getElem?_append_left (s_lt hq)]; exact hq
    refine g_aload_n (n := 1) dJ5_ensureCapacityInternal_d00df_0 rfl rfl rfl ?_
    refine g_getR (n := 4) (k := 0) dJ5_ensureCapacityInternal_d00df_1 hq vc_1 (Nat.le_of_ble_eq_true rfl) rfl (ab_in 520 (by decide +kernel) rfl) rfl ?_
    refine g_alen (n := 5) (t0 := 1) (v := nI cap) dJ5_ensureCapacityInternal_d00df_4 hv (fun _ => rfl) rfl rfl ?_
    refine g_aload_n (n := 6) dJ5_ensureCapacityInternal_d00df_5 rfl rfl rfl ?_
    refine g_getIE (n := 9) (k := 1) (x := (0 : Int32)) dJ5_ensureCapacityInternal_d00df_6 hq vc_1 (Nat.le_of_ble_eq_true rfl) rfl (ab_in 521 (by decide +kernel) rfl) (h0) rfl ?_
    refine g_ishr (n := 10) dJ5_ensureCapacityInternal_d00df_9 rfl ?_
    rw [show ((nI cap) >>> ((0 : Int32) &&& 31)) = (nI cap) from sb_shr0 _]
    refine g_istore_n (n := 11) (ls' := [some (.ref q), some (.int (nI m)), some (.int (nI cap))]) dJ5_ensureCapacityInternal_d00df_10 rfl rfl (Nat.le_of_ble_eq_true rfl) (Nat.le_of_ble_eq_true rfl) rfl rfl ?_
    refine g_iload_n (n := 12) dJ5_ensureCapacityInternal_d00df_11 rfl rfl rfl ?_
    refine g_iload_n (n := 13) dJ5_ensureCapacityInternal_d00df_12 rfl rfl rfl ?_
    refine g_isub (n := 14) dJ5_ensureCapacityInternal_d00df_13 rfl ?_
    refine g_if_le 38 dJ5_ensureCapacityInternal_d00df_14 (by decide) (n := 17) rfl (fun hc => absurd hc (fun hz => hle ((sb_sub (by omega) (by omega)).mp hz))) (fun _ => ?_)
    refine g_aload_n (n := 18) dJ5_ensureCapacityInternal_d00df_17 rfl rfl rfl ?_
    refine g_aload_n (n := 19) dJ5_ensureCapacityInternal_d00df_18 rfl rfl rfl ?_
    refine g_getR (n := 22) (k := 0) dJ5_ensureCapacityInternal_d00df_19 hq vc_1 (Nat.le_of_ble_eq_true rfl) rfl (ab_in 520 (by decide +kernel) rfl) rfl ?_
    refine g_aload_n (n := 23) dJ5_ensureCapacityInternal_d00df_22 rfl rfl rfl ?_
    refine g_iload_n (n := 24) dJ5_ensureCapacityInternal_d00df_23 rfl rfl rfl ?_
    refine g_callU (n := 27) (as := [.int (nI m)]) (bc' := mc) (bs' := ms) hq vc_1 (ctJ5_newCapacity (K := (fun r I1 A1 => r = nI (sb_cap m cap) ∧ I = I1 ∧ A = A1)) hq hv h0 (by omega) hm ⟨rfl, rfl, rfl⟩) okJ5_newCapacity_0f7a4 (ab_in 2668 (by decide +kernel) rfl) (ab_in 1073 (by decide +kernel) rfl) (ab_in 1075 (by decide +kernel) rfl) (ab_inM 1 rfl rfl) dJ5_ensureCapacityInternal_d00df_24 rfl rfl (Nat.le_of_ble_eq_true rfl) (Nat.le_refl _) (Nat.le_refl _) (Nat.le_of_ble_eq_true rfl) rfl (fun E sh1 I1 A1 hp _ => hp.2.elim) (fun ro sh1 I1 A1 hp _ => ?_)
    obtain ⟨rfl, r, rfl, rfl, rfl, rfl⟩ := hp
    refine g_aload_n (n := 28) dJ5_ensureCapacityInternal_d00df_27 rfl rfl rfl ?_
    refine g_getIE (n := 31) (k := 1) (x := (0 : Int32)) dJ5_ensureCapacityInternal_d00df_28 hq vc_1 (Nat.le_of_ble_eq_true rfl) rfl (ab_in 521 (by decide +kernel) rfl) (h0) rfl ?_
    refine g_ishl (n := 32) dJ5_ensureCapacityInternal_d00df_31 rfl ?_
    rw [show ((nI (sb_cap m cap)) <<< ((0 : Int32) &&& 31)) = (nI (sb_cap m cap)) from sb_shl0 _]
    refine g_callS (n := 35) (as := [.ref v, .int (nI (sb_cap m cap))]) (bc' := (mc - 1)) (bs' := (ms - sb_cap m cap)) (ctJ7_copyOf (N := sb_cap m cap) hv (by have := sb_cap_ge m cap; omega) hs hf) okJ7_copyOf_9075b (ab_in 1086 (by decide +kernel) rfl) (ab_in 1087 (by decide +kernel) rfl) dJ5_ensureCapacityInternal_d00df_32 rfl rfl (Nat.le_of_ble_eq_true rfl) (by omega) (by omega) (Nat.le_of_ble_eq_true rfl) rfl (fun E sh1 I1 A1 hp _ => by cases hp) (fun ro sh1 I1 A1 hp _ => ?_)
    cases hp
    refine g_putR (n := 38) (k := 0) dJ5_ensureCapacityInternal_d00df_35 hq' vc_1 (Nat.le_of_ble_eq_true rfl) (Nat.le_of_ble_eq_true rfl) (ab_in 520 (by decide +kernel) rfl) rfl rfl (fun _ => rfl) (fun _ => rfl) rfl rfl ?_
    exact g_vret rfl dJ5_ensureCapacityInternal_d00df_38 (sb_Pe1 hle hv hf)
end
