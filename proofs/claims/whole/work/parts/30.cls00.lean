def wX0_install (K : ab_F → ab_F → Prop) (I A : ab_F)  : Prop := K (wr (wr (wr I 29 0 (nI 0)) 29 1 (nI 0)) 29 2 (nI 0)) A
set_option maxRecDepth 20000 in
theorem ctX0_install {Z : ab_Z} {K : ab_F → ab_F → Prop} {I A : ab_F}  (h : wX0_install K I A ) : ab_Cl mX0_install 0 0 0 [.ref 29] (shC Z) I A (ab_Px (shC Z) ab_no (ab_rv K)) := by
  refine ab_enter (ls := [some (.ref 29)]) (by decide +kernel) (Nat.le_of_ble_eq_true rfl) rfl (fun C => ?_)
  unfold wX0_install at h
  refine g_aload_n (n := 1) dX0_install_0 rfl rfl rfl ?_
  refine g_iconst (n := 2) (v := (nI 0)) dX0_install_1 rfl rfl ?_
  refine g_putI (n := 5) (k := 0) dX0_install_2 sC_29 vc_4 (Nat.le_of_ble_eq_true rfl) rfl w_381 rfl rfl rfl rfl rfl ?_
  refine g_aload_n (n := 6) dX0_install_5 rfl rfl rfl ?_
  refine g_iconst (n := 7) (v := (nI 0)) dX0_install_6 rfl rfl ?_
  refine g_putI (n := 10) (k := 1) dX0_install_7 sC_29 vc_4 (Nat.le_of_ble_eq_true rfl) rfl w_384 rfl rfl rfl rfl rfl ?_
  refine g_aload_n (n := 11) dX0_install_10 rfl rfl rfl ?_
  refine g_iconst (n := 12) (v := (nI 0)) dX0_install_11 rfl rfl ?_
  refine g_putI (n := 15) (k := 2) dX0_install_12 sC_29 vc_4 (Nat.le_of_ble_eq_true rfl) rfl w_387 rfl rfl rfl rfl rfl ?_
  exact g_vret rfl dX0_install_15 ⟨rfl, rfl, h⟩
def wX0_add (K : ab_F → ab_F → Prop) (I A : ab_F) (p0 : Int32) : Prop := (∃ j_1 : Nat, ((I 29 2) - (I 29 2) / (nI 64) * (nI 64)) = nI j_1 ∧ j_1 < 64 ∧ K (wr (wr I 29 0 ((I 29 0) + (nI 1))) 29 2 ((I 29 2) + (nI 1))) (wr A 30 j_1 p0))
set_option maxRecDepth 20000 in
theorem ctX0_add {Z : ab_Z} {K : ab_F → ab_F → Prop} {I A : ab_F} {p0 : Int32} (h : wX0_add K I A p0) : ab_Cl mX0_add 0 0 0 [.ref 29, .int p0] (shC Z) I A (ab_Px (shC Z) ab_no (ab_rv K)) := by
  refine ab_enter (ls := [some (.ref 29), some (.int p0)]) (by decide +kernel) (Nat.le_of_ble_eq_true rfl) rfl (fun C => ?_)
  unfold wX0_add at h
  refine g_aload_n (n := 1) dX0_add_0 rfl rfl rfl ?_
  refine g_dup (n := 2) dX0_add_1 rfl rfl ?_
  refine g_getIE (n := 5) (k := 0) (x := (I 29 0)) dX0_add_2 sC_29 vc_4 (Nat.le_of_ble_eq_true rfl) rfl w_381 rfl rfl ?_
  refine g_iconst (n := 6) (v := (nI 1)) dX0_add_5 rfl rfl ?_
  refine g_iadd (n := 7) dX0_add_6 rfl ?_
  refine g_putI (n := 10) (k := 0) dX0_add_7 sC_29 vc_4 (Nat.le_of_ble_eq_true rfl) rfl w_381 rfl rfl rfl rfl rfl ?_
  refine g_aload_n (n := 11) dX0_add_10 rfl rfl rfl ?_
  refine g_getR (n := 14) (k := 3) dX0_add_11 sC_29 vc_4 (Nat.le_of_ble_eq_true rfl) rfl w_389 rfl ?_
  refine g_aload_n (n := 15) dX0_add_14 rfl rfl rfl ?_
  refine g_getIE (n := 18) (k := 2) (x := (I 29 2)) dX0_add_15 sC_29 vc_4 (Nat.le_of_ble_eq_true rfl) rfl w_387 rfl rfl ?_
  refine g_bipush (n := 20) (v := (nI 64)) dX0_add_18 rfl rfl ?_
  refine g_irem (n := 21) dX0_add_20 (by decide) rfl ?_
  refine g_iload_n (n := 22) dX0_add_21 rfl rfl rfl ?_
  obtain ⟨j_1, hj, hl, h⟩ := h
  refine g_iastJ (n := 23) (j := j_1) dX0_add_22 sC_30 hj hl (by decide) rfl ?_
  refine g_aload_n (n := 24) dX0_add_23 rfl rfl rfl ?_
  refine g_dup (n := 25) dX0_add_24 rfl rfl ?_
  refine g_getIE (n := 28) (k := 2) (x := (I 29 2)) dX0_add_25 sC_29 vc_4 (Nat.le_of_ble_eq_true rfl) rfl w_387 rfl rfl ?_
  refine g_iconst (n := 29) (v := (nI 1)) dX0_add_28 rfl rfl ?_
  refine g_iadd (n := 30) dX0_add_29 rfl ?_
  refine g_putI (n := 33) (k := 2) dX0_add_30 sC_29 vc_4 (Nat.le_of_ble_eq_true rfl) rfl w_387 rfl rfl rfl rfl rfl ?_
  exact g_vret rfl dX0_add_33 ⟨rfl, rfl, h⟩
def wX0_countRecent (K : Int32 → ab_F → ab_F → Prop) (I A : ab_F)  : Prop := K (if (nI 64) < (I 29 2) then (nI 64) else (I 29 2)) I A
set_option maxRecDepth 20000 in
theorem ctX0_countRecent {Z : ab_Z} {K : Int32 → ab_F → ab_F → Prop} {I A : ab_F}  (h : wX0_countRecent K I A ) : ab_Cl mX0_countRecent 1 0 0 [.ref 29] (shC Z) I A (ab_Px (shC Z) ab_no (ab_ri K)) := by
  refine ab_enter (ls := [some (.ref 29)]) (by decide +kernel) (Nat.le_of_ble_eq_true rfl) rfl (fun C => ?_)
  unfold wX0_countRecent at h
  refine g_aload_n (n := 1) dX0_countRecent_0 rfl rfl rfl ?_
  refine g_getIE (n := 4) (k := 2) (x := (I 29 2)) dX0_countRecent_1 sC_29 vc_4 (Nat.le_of_ble_eq_true rfl) rfl w_387 rfl rfl ?_
  refine g_bipush (n := 6) (v := (nI 64)) dX0_countRecent_4 rfl rfl ?_
  refine g_mmin (n := 9) dX0_countRecent_6 w_1840 w_741 w_125 w_742 (Nat.le_of_ble_eq_true rfl) (Nat.le_of_ble_eq_true rfl) rfl ?_
  exact g_iret rfl rfl dX0_countRecent_9 ⟨rfl, _, rfl, h⟩
def wX0_recentAt (K : Int32 → ab_F → ab_F → Prop) (I A : ab_F) (p0 : Int32) : Prop := (∃ j_1 : Nat, ((((I 29 2) - (nI 1)) - p0) - (((I 29 2) - (nI 1)) - p0) / (nI 64) * (nI 64)) = nI j_1 ∧ j_1 < 64 ∧ K (A 30 j_1) I A)
set_option maxRecDepth 20000 in
theorem ctX0_recentAt {Z : ab_Z} {K : Int32 → ab_F → ab_F → Prop} {I A : ab_F} {p0 : Int32} (h : wX0_recentAt K I A p0) : ab_Cl mX0_recentAt 0 0 0 [.ref 29, .int p0] (shC Z) I A (ab_Px (shC Z) ab_no (ab_ri K)) := by
  refine ab_enter (ls := [some (.ref 29), some (.int p0)]) (by decide +kernel) (Nat.le_of_ble_eq_true rfl) rfl (fun C => ?_)
  unfold wX0_recentAt at h
  refine g_aload_n (n := 1) dX0_recentAt_0 rfl rfl rfl ?_
  refine g_getR (n := 4) (k := 3) dX0_recentAt_1 sC_29 vc_4 (Nat.le_of_ble_eq_true rfl) rfl w_389 rfl ?_
  refine g_aload_n (n := 5) dX0_recentAt_4 rfl rfl rfl ?_
  refine g_getIE (n := 8) (k := 2) (x := (I 29 2)) dX0_recentAt_5 sC_29 vc_4 (Nat.le_of_ble_eq_true rfl) rfl w_387 rfl rfl ?_
  refine g_iconst (n := 9) (v := (nI 1)) dX0_recentAt_8 rfl rfl ?_
  refine g_isub (n := 10) dX0_recentAt_9 rfl ?_
  refine g_iload_n (n := 11) dX0_recentAt_10 rfl rfl rfl ?_
  refine g_isub (n := 12) dX0_recentAt_11 rfl ?_
  refine g_bipush (n := 14) (v := (nI 64)) dX0_recentAt_12 rfl rfl ?_
  refine g_irem (n := 15) dX0_recentAt_14 (by decide) rfl ?_
  obtain ⟨j_1, hj, hl, h⟩ := h
  refine g_ialdJ (n := 16) (j := j_1) (x := (A 30 j_1)) dX0_recentAt_15 sC_30 hj hl (by decide) rfl rfl ?_
  exact g_iret rfl rfl dX0_recentAt_16 ⟨rfl, _, rfl, h⟩
def wJ13_bitCount_95d88 (K : Int32 → ab_F → ab_F → Prop) (I A : ab_F) (p0 : Int64) : Prop := (∀ y_1 : Int64, y_1 = (p0 - ((((p0).toUInt64 >>> (((nI 1)).toInt64.toUInt64 &&& Int64.toUInt64 63)).toInt64) &&& (6148914691236517205 : Int64))) → (∀ y_2 : Int64, y_2 = ((y_1 &&& (3689348814741910323 : Int64)) + ((((y_1).toUInt64 >>> (((nI 2)).toInt64.toUInt64 &&& Int64.toUInt64 63)).toInt64) &&& (3689348814741910323 : Int64))) → (∀ y_3 : Int64, y_3 = ((y_2 + (((y_2).toUInt64 >>> (((nI 4)).toInt64.toUInt64 &&& Int64.toUInt64 63)).toInt64)) &&& (1085102592571150095 : Int64)) → (∀ y_4 : Int64, y_4 = (y_3 + (((y_3).toUInt64 >>> (((nI 8)).toInt64.toUInt64 &&& Int64.toUInt64 63)).toInt64)) → (∀ y_5 : Int64, y_5 = (y_4 + (((y_4).toUInt64 >>> (((nI 16)).toInt64.toUInt64 &&& Int64.toUInt64 63)).toInt64)) → (∀ y_6 : Int64, y_6 = (y_5 + (((y_5).toUInt64 >>> (((nI 32)).toInt64.toUInt64 &&& Int64.toUInt64 63)).toInt64)) → K (((y_6).toInt32) &&& (nI 127)) I A))))))
set_option maxRecDepth 20000 in
theorem ctJ13_bitCount_95d88 {Z : ab_Z} {K : Int32 → ab_F → ab_F → Prop} {I A : ab_F} {p0 : Int64} (h : wJ13_bitCount_95d88 K I A p0) : ab_Cl mJ13_bitCount_95d88 0 0 0 [.long p0] (shC Z) I A (ab_Px (shC Z) ab_no (ab_ri K)) := by
  refine ab_enter (ls := [some (.long p0), none]) (by decide +kernel) (Nat.le_of_ble_eq_true rfl) rfl (fun C => ?_)
  unfold wJ13_bitCount_95d88 at h
  refine g_lload_n (n := 1) dJ13_bitCount_95d88_0 rfl rfl rfl ?_
  refine g_lload_n (n := 2) dJ13_bitCount_95d88_1 rfl rfl rfl ?_
  refine g_iconst (n := 3) (v := (nI 1)) dJ13_bitCount_95d88_2 rfl rfl ?_
  refine g_lushr (n := 4) dJ13_bitCount_95d88_3 rfl ?_
  refine g_ldc2 (n := 7) (v := (6148914691236517205 : Int64)) dJ13_bitCount_95d88_4 w_1899 rfl ?_
  refine g_land (n := 8) dJ13_bitCount_95d88_7 rfl ?_
  refine g_lsub (n := 9) dJ13_bitCount_95d88_8 rfl ?_
  refine g_topl (fun y_1 ey_1 => ?_)
  have h := h y_1 ey_1
  refine g_lstore_n (n := 10) (ls' := [some (.long y_1), none]) dJ13_bitCount_95d88_9 rfl rfl (Nat.le_of_ble_eq_true rfl) (Nat.le_of_ble_eq_true rfl) rfl rfl ?_
  refine g_lload_n (n := 11) dJ13_bitCount_95d88_10 rfl rfl rfl ?_
  refine g_ldc2 (n := 14) (v := (3689348814741910323 : Int64)) dJ13_bitCount_95d88_11 w_1900 rfl ?_
  refine g_land (n := 15) dJ13_bitCount_95d88_14 rfl ?_
  refine g_lload_n (n := 16) dJ13_bitCount_95d88_15 rfl rfl rfl ?_
  refine g_iconst (n := 17) (v := (nI 2)) dJ13_bitCount_95d88_16 rfl rfl ?_
  refine g_lushr (n := 18) dJ13_bitCount_95d88_17 rfl ?_
  refine g_ldc2 (n := 21) (v := (3689348814741910323 : Int64)) dJ13_bitCount_95d88_18 w_1900 rfl ?_
  refine g_land (n := 22) dJ13_bitCount_95d88_21 rfl ?_
  refine g_ladd (n := 23) dJ13_bitCount_95d88_22 rfl ?_
  refine g_topl (fun y_2 ey_2 => ?_)
  have h := h y_2 ey_2
  refine g_lstore_n (n := 24) (ls' := [some (.long y_2), none]) dJ13_bitCount_95d88_23 rfl rfl (Nat.le_of_ble_eq_true rfl) (Nat.le_of_ble_eq_true rfl) rfl rfl ?_
  refine g_lload_n (n := 25) dJ13_bitCount_95d88_24 rfl rfl rfl ?_
  refine g_lload_n (n := 26) dJ13_bitCount_95d88_25 rfl rfl rfl ?_
  refine g_iconst (n := 27) (v := (nI 4)) dJ13_bitCount_95d88_26 rfl rfl ?_
  refine g_lushr (n := 28) dJ13_bitCount_95d88_27 rfl ?_
  refine g_ladd (n := 29) dJ13_bitCount_95d88_28 rfl ?_
  refine g_ldc2 (n := 32) (v := (1085102592571150095 : Int64)) dJ13_bitCount_95d88_29 w_1901 rfl ?_
  refine g_land (n := 33) dJ13_bitCount_95d88_32 rfl ?_
  refine g_topl (fun y_3 ey_3 => ?_)
  have h := h y_3 ey_3
  refine g_lstore_n (n := 34) (ls' := [some (.long y_3), none]) dJ13_bitCount_95d88_33 rfl rfl (Nat.le_of_ble_eq_true rfl) (Nat.le_of_ble_eq_true rfl) rfl rfl ?_
  refine g_lload_n (n := 35) dJ13_bitCount_95d88_34 rfl rfl rfl ?_
  refine g_lload_n (n := 36) dJ13_bitCount_95d88_35 rfl rfl rfl ?_
  refine g_bipush (n := 38) (v := (nI 8)) dJ13_bitCount_95d88_36 rfl rfl ?_
  refine g_lushr (n := 39) dJ13_bitCount_95d88_38 rfl ?_
  refine g_ladd (n := 40) dJ13_bitCount_95d88_39 rfl ?_
  refine g_topl (fun y_4 ey_4 => ?_)
  have h := h y_4 ey_4
  refine g_lstore_n (n := 41) (ls' := [some (.long y_4), none]) dJ13_bitCount_95d88_40 rfl rfl (Nat.le_of_ble_eq_true rfl) (Nat.le_of_ble_eq_true rfl) rfl rfl ?_
  refine g_lload_n (n := 42) dJ13_bitCount_95d88_41 rfl rfl rfl ?_
  refine g_lload_n (n := 43) dJ13_bitCount_95d88_42 rfl rfl rfl ?_
  refine g_bipush (n := 45) (v := (nI 16)) dJ13_bitCount_95d88_43 rfl rfl ?_
  refine g_lushr (n := 46) dJ13_bitCount_95d88_45 rfl ?_
  refine g_ladd (n := 47) dJ13_bitCount_95d88_46 rfl ?_
  refine g_topl (fun y_5 ey_5 => ?_)
  have h := h y_5 ey_5
  refine g_lstore_n (n := 48) (ls' := [some (.long y_5), none]) dJ13_bitCount_95d88_47 rfl rfl (Nat.le_of_ble_eq_true rfl) (Nat.le_of_ble_eq_true rfl) rfl rfl ?_
  refine g_lload_n (n := 49) dJ13_bitCount_95d88_48 rfl rfl rfl ?_
  refine g_lload_n (n := 50) dJ13_bitCount_95d88_49 rfl rfl rfl ?_
  refine g_bipush (n := 52) (v := (nI 32)) dJ13_bitCount_95d88_50 rfl rfl ?_
  refine g_lushr (n := 53) dJ13_bitCount_95d88_52 rfl ?_
  refine g_ladd (n := 54) dJ13_bitCount_95d88_53 rfl ?_
  refine g_topl (fun y_6 ey_6 => ?_)
  have h := h y_6 ey_6
  refine g_lstore_n (n := 55) (ls' := [some (.long y_6), none]) dJ13_bitCount_95d88_54 rfl rfl (Nat.le_of_ble_eq_true rfl) (Nat.le_of_ble_eq_true rfl) rfl rfl ?_
  refine g_lload_n (n := 56) dJ13_bitCount_95d88_55 rfl rfl rfl ?_
  refine g_l2i (n := 57) dJ13_bitCount_95d88_56 rfl ?_
  refine g_bipush (n := 59) (v := (nI 127)) dJ13_bitCount_95d88_57 rfl rfl ?_
  refine g_iand (n := 60) dJ13_bitCount_95d88_59 rfl ?_
  exact g_iret rfl rfl dJ13_bitCount_95d88_60 ⟨rfl, _, rfl, h⟩
def wlX0_countDifferent_14 (K : Int32 → ab_F → ab_F → Prop) : Nat → Int32 → Int64 → Int32 → ab_F → ab_F → Prop
  | 0, _, _, _, _, _ => False
  | n + 1, x2, x3, x5, I, A => ((x2 ≤ x5 → wJ13_bitCount_95d88 (fun r_7 I_5 A_6 => K r_7 I_5 A_6) I A x3) ∧ (¬ x2 ≤ x5 → wX0_recentAt (fun r_10 I_8 A_9 => (∀ y_11 : Int64, y_11 = (x3 ||| ((1 : Int64) <<< ((r_10).toInt64 &&& 63))) → (wlX0_countDifferent_14 K n) x2 y_11 (x5 + nI 1) I_8 A_9)) I A x5))
def wX0_countDifferent (K : Int32 → ab_F → ab_F → Prop) (I A : ab_F) (p0 : Int32) : Prop := wX0_countRecent (fun r_3 I_1 A_2 => (∀ y_4 : Int32, y_4 = (if r_3 < p0 then r_3 else p0) → (∃ nf : Nat, wlX0_countDifferent_14 K nf y_4 (0 : Int64) (nI 0) I_1 A_2))) I A 
set_option maxRecDepth 20000 in
theorem tlX0_countDifferent_14 {C : ab_X} {Z : ab_Z} {K : Int32 → ab_F → ab_F → Prop} : ∀ (n : Nat) (x2 : Int32) (x3 : Int64) (x5 : Int32) (I A : ab_F), wlX0_countDifferent_14 K n x2 x3 x5 I A → ab_G mX0_countDifferent 2 C (ab_Px (shC Z) ab_no (ab_ri K)) 14 [some (.ref 29), none, some (.int x2), some (.long x3), none, some (.int x5)] [] (shC Z) I A 0 0 := by
  intro n
  induction n with
  | zero => intro x2 x3 x5 I A h; exact h.elim
  | succ n hL14 =>
    intro x2 x3 x5 I A h
    rw [wlX0_countDifferent_14] at h
    refine g_iload (n := 16) dX0_countDifferent_14 rfl rfl ?_
    refine g_iload_n (n := 17) dX0_countDifferent_16 rfl rfl rfl ?_
    refine g_icmp_ge (n := 20) 37 dX0_countDifferent_17 (by decide) rfl (fun hc => ?_) (fun hc => ?_)
    · have h := h.1 hc
      refine g_lload_n (n := 38) dX0_countDifferent_37 rfl rfl rfl ?_
      refine g_callS (n := 41) (as := [.long x3]) (bc' := 0) (bs' := 0) (ctJ13_bitCount_95d88 h) okJ13_bitCount_95d88 w_1896 w_1897 dX0_countDifferent_38 rfl rfl (Nat.le_of_ble_eq_true rfl) (Nat.le_of_ble_eq_true rfl) (Nat.le_of_ble_eq_true rfl) (Nat.le_of_ble_eq_true rfl) rfl (fun E sh1 I1 A1 hp _ => hp.2.elim) (fun ro sh_ I_5 A_6 hp hle => ?_)
      obtain ⟨rfl, r_7, rfl, h⟩ := hp
      exact g_iret rfl rfl dX0_countDifferent_41 ⟨rfl, _, rfl, h⟩
    · have h := h.2 hc
      refine g_lload_n (n := 21) dX0_countDifferent_20 rfl rfl rfl ?_
      refine g_lconst (n := 22) (v := (1 : Int64)) dX0_countDifferent_21 rfl rfl ?_
      refine g_aload_n (n := 23) dX0_countDifferent_22 rfl rfl rfl ?_
      refine g_iload (n := 25) dX0_countDifferent_23 rfl rfl ?_
      refine g_callV (n := 28) (as := [.int x5]) (bc' := 0) (bs' := 0) sC_29 vc_4 (ctX0_recentAt h) okX0_recentAt rfl w_1895 w_1842 w_1843 w_105 dX0_countDifferent_25 rfl rfl (Nat.le_of_ble_eq_true rfl) (Nat.le_of_ble_eq_true rfl) (Nat.le_of_ble_eq_true rfl) (Nat.le_of_ble_eq_true rfl) rfl (fun E sh1 I1 A1 hp _ => hp.2.elim) (fun ro sh_ I_8 A_9 hp hle => ?_)
      obtain ⟨rfl, r_10, rfl, h⟩ := hp
      refine g_lshl (n := 29) dX0_countDifferent_28 rfl ?_
      refine g_lor (n := 30) dX0_countDifferent_29 rfl ?_
      refine g_topl (fun y_11 ey_11 => ?_)
      have h := h y_11 ey_11
      refine g_lstore_n (n := 31) (ls' := [some (.ref 29), none, some (.int x2), some (.long y_11), none, some (.int x5)]) dX0_countDifferent_30 rfl rfl (Nat.le_of_ble_eq_true rfl) (Nat.le_of_ble_eq_true rfl) rfl rfl ?_
      refine g_iinc (n := 34) (v := (x5 + nI 1)) (ls' := [some (.ref 29), none, some (.int x2), some (.long y_11), none, some (.int (x5 + nI 1))]) dX0_countDifferent_31 rfl rfl rfl (Nat.le_of_ble_eq_true rfl) rfl rfl ?_
      refine g_goto 14 dX0_countDifferent_34 (by decide) ?_
      exact hL14 _ _ _ _ _ h
set_option maxRecDepth 20000 in
theorem ctX0_countDifferent {Z : ab_Z} {K : Int32 → ab_F → ab_F → Prop} {I A : ab_F} {p0 : Int32} (h : wX0_countDifferent K I A p0) : ab_Cl mX0_countDifferent 2 0 0 [.ref 29, .int p0] (shC Z) I A (ab_Px (shC Z) ab_no (ab_ri K)) := by
  refine ab_enter (ls := [some (.ref 29), some (.int p0), none, none, none, none]) (by decide +kernel) (Nat.le_of_ble_eq_true rfl) rfl (fun C => ?_)
  unfold wX0_countDifferent at h
  refine g_iload_n (n := 1) dX0_countDifferent_0 rfl rfl rfl ?_
  refine g_aload_n (n := 2) dX0_countDifferent_1 rfl rfl rfl ?_
  refine g_callV (n := 5) (as := []) (bc' := 0) (bs' := 0) sC_29 vc_4 (ctX0_countRecent h) okX0_countRecent rfl w_1894 w_1837 w_1838 w_105 dX0_countDifferent_2 rfl rfl (Nat.le_of_ble_eq_true rfl) (Nat.le_of_ble_eq_true rfl) (Nat.le_of_ble_eq_true rfl) (Nat.le_of_ble_eq_true rfl) rfl (fun E sh1 I1 A1 hp _ => hp.2.elim) (fun ro sh_ I_1 A_2 hp hle => ?_)
  obtain ⟨rfl, r_3, rfl, h⟩ := hp
  refine g_mmin (n := 8) dX0_countDifferent_5 w_1840 w_741 w_125 w_742 (Nat.le_of_ble_eq_true rfl) (Nat.le_of_ble_eq_true rfl) rfl ?_
  refine g_topi (fun y_4 ey_4 => ?_)
  have h := h y_4 ey_4
  refine g_istore_n (n := 9) (ls' := [some (.ref 29), some (.int p0), some (.int y_4), none, none, none]) dX0_countDifferent_8 rfl rfl (Nat.le_of_ble_eq_true rfl) (Nat.le_of_ble_eq_true rfl) rfl rfl ?_
  refine g_lconst (n := 10) (v := (0 : Int64)) dX0_countDifferent_9 rfl rfl ?_
  refine g_lstore_n (n := 11) (ls' := [some (.ref 29), some (.int p0), some (.int y_4), some (.long (0 : Int64)), none, none]) dX0_countDifferent_10 rfl rfl (Nat.le_of_ble_eq_true rfl) (Nat.le_of_ble_eq_true rfl) rfl rfl ?_
  refine g_iconst (n := 12) (v := (nI 0)) dX0_countDifferent_11 rfl rfl ?_
  refine g_istore (n := 14) (ls' := [some (.ref 29), some (.int p0), some (.int y_4), some (.long (0 : Int64)), none, some (.int (nI 0))]) dX0_countDifferent_12 rfl (Nat.le_of_ble_eq_true rfl) (Nat.le_of_ble_eq_true rfl) rfl rfl ?_
  refine g_forget (ls' := [some (.ref 29), none, some (.int y_4), some (.long (0 : Int64)), none, some (.int (nI 0))]) (ab_fg rfl) ?_
  refine g_less (bc' := 0) (bs' := 0) (Nat.le_of_ble_eq_true rfl) (Nat.le_of_ble_eq_true rfl) ?_
  obtain ⟨n_f, h⟩ := h
  exact tlX0_countDifferent_14  n_f _ _ _ _ _ h
def wlX0_countOf_4 (K : Int32 → ab_F → ab_F → Prop) : Nat → Int32 → Int32 → Int32 → ab_F → ab_F → Prop
  | 0, _, _, _, _, _ => False
  | n + 1, x1, x2, x3, I, A => wX0_countRecent (fun r_3 I_1 A_2 => ((r_3 ≤ x3 → K x2 I_1 A_2) ∧ (¬ r_3 ≤ x3 → (∃ j_4 : Nat, x3 = nI j_4 ∧ j_4 < 64 ∧ ((¬ (A_2 30 j_4) = x1 → (wlX0_countOf_4 K n) x1 x2 (x3 + nI 1) I_1 A_2) ∧ ((A_2 30 j_4) = x1 → (wlX0_countOf_4 K n) x1 (x2 + nI 1) (x3 + nI 1) I_1 A_2)))))) I A 
def wX0_countOf (K : Int32 → ab_F → ab_F → Prop) (I A : ab_F) (p0 : Int32) : Prop := (∃ nf : Nat, wlX0_countOf_4 K nf p0 (nI 0) (nI 0) I A)
set_option maxRecDepth 20000 in
theorem tlX0_countOf_4 {C : ab_X} {Z : ab_Z} {K : Int32 → ab_F → ab_F → Prop} : ∀ (n : Nat) (x1 : Int32) (x2 : Int32) (x3 : Int32) (I A : ab_F), wlX0_countOf_4 K n x1 x2 x3 I A → ab_G mX0_countOf 2 C (ab_Px (shC Z) ab_no (ab_ri K)) 4 [some (.ref 29), some (.int x1), some (.int x2), some (.int x3)] [] (shC Z) I A 0 0 := by
  intro n
  induction n with
  | zero => intro x1 x2 x3 I A h; exact h.elim
  | succ n hL4 =>
    intro x1 x2 x3 I A h
    rw [wlX0_countOf_4] at h
    refine g_iload_n (n := 5) dX0_countOf_4 rfl rfl rfl ?_
    refine g_aload_n (n := 6) dX0_countOf_5 rfl rfl rfl ?_
    refine g_callV (n := 9) (as := []) (bc' := 0) (bs' := 0) sC_29 vc_4 (ctX0_countRecent h) okX0_countRecent rfl w_1894 w_1837 w_1838 w_105 dX0_countOf_6 rfl rfl (Nat.le_of_ble_eq_true rfl) (Nat.le_of_ble_eq_true rfl) (Nat.le_of_ble_eq_true rfl) (Nat.le_of_ble_eq_true rfl) rfl (fun E sh1 I1 A1 hp _ => hp.2.elim) (fun ro sh_ I_1 A_2 hp hle => ?_)
    obtain ⟨rfl, r_3, rfl, h⟩ := hp
    refine g_icmp_ge (n := 12) 31 dX0_countOf_9 (by decide) rfl (fun hc => ?_) (fun hc => ?_)
    · have h := h.1 hc
      refine g_iload_n (n := 32) dX0_countOf_31 rfl rfl rfl ?_
      exact g_iret rfl rfl dX0_countOf_32 ⟨rfl, _, rfl, h⟩
    · have h := h.2 hc
      refine g_aload_n (n := 13) dX0_countOf_12 rfl rfl rfl ?_
      refine g_getR (n := 16) (k := 3) dX0_countOf_13 sC_29 vc_4 (Nat.le_of_ble_eq_true rfl) rfl w_389 rfl ?_
      refine g_iload_n (n := 17) dX0_countOf_16 rfl rfl rfl ?_
      obtain ⟨j_4, hj, hl, h⟩ := h
      refine g_ialdJ (n := 18) (j := j_4) (x := (A_2 30 j_4)) dX0_countOf_17 sC_30 hj hl (by decide) rfl rfl ?_
      refine g_iload_n (n := 19) dX0_countOf_18 rfl rfl rfl ?_
      refine g_icmp_ne (n := 22) 25 dX0_countOf_19 (by decide) rfl (fun hc => ?_) (fun hc => ?_)
      · have h := h.1 hc
        refine g_iinc (n := 28) (v := (x3 + nI 1)) (ls' := [some (.ref 29), some (.int x1), some (.int x2), some (.int (x3 + nI 1))]) dX0_countOf_25 rfl rfl rfl (Nat.le_of_ble_eq_true rfl) rfl rfl ?_
        refine g_goto 4 dX0_countOf_28 (by decide) ?_
        exact hL4 _ _ _ _ _ h
      · have h := h.2 hc
        refine g_iinc (n := 25) (v := (x2 + nI 1)) (ls' := [some (.ref 29), some (.int x1), some (.int (x2 + nI 1)), some (.int x3)]) dX0_countOf_22 rfl rfl rfl (Nat.le_of_ble_eq_true rfl) rfl rfl ?_
        refine g_iinc (n := 28) (v := (x3 + nI 1)) (ls' := [some (.ref 29), some (.int x1), some (.int (x2 + nI 1)), some (.int (x3 + nI 1))]) dX0_countOf_25 rfl rfl rfl (Nat.le_of_ble_eq_true rfl) rfl rfl ?_
        refine g_goto 4 dX0_countOf_28 (by decide) ?_
        exact hL4 _ _ _ _ _ h
set_option maxRecDepth 20000 in
theorem ctX0_countOf {Z : ab_Z} {K : Int32 → ab_F → ab_F → Prop} {I A : ab_F} {p0 : Int32} (h : wX0_countOf K I A p0) : ab_Cl mX0_countOf 2 0 0 [.ref 29, .int p0] (shC Z) I A (ab_Px (shC Z) ab_no (ab_ri K)) := by
  refine ab_enter (ls := [some (.ref 29), some (.int p0), none, none]) (by decide +kernel) (Nat.le_of_ble_eq_true rfl) rfl (fun C => ?_)
  unfold wX0_countOf at h
  refine g_iconst (n := 1) (v := (nI 0)) dX0_countOf_0 rfl rfl ?_
  refine g_istore_n (n := 2) (ls' := [some (.ref 29), some (.int p0), some (.int (nI 0)), none]) dX0_countOf_1 rfl rfl (Nat.le_of_ble_eq_true rfl) (Nat.le_of_ble_eq_true rfl) rfl rfl ?_
  refine g_iconst (n := 3) (v := (nI 0)) dX0_countOf_2 rfl rfl ?_
  refine g_istore_n (n := 4) (ls' := [some (.ref 29), some (.int p0), some (.int (nI 0)), some (.int (nI 0))]) dX0_countOf_3 rfl rfl (Nat.le_of_ble_eq_true rfl) (Nat.le_of_ble_eq_true rfl) rfl rfl ?_
  refine g_less (bc' := 0) (bs' := 0) (Nat.le_of_ble_eq_true rfl) (Nat.le_of_ble_eq_true rfl) ?_
  obtain ⟨n_f, h⟩ := h
  exact tlX0_countOf_4  n_f _ _ _ _ _ h
def wlX0_mostFrequent_6 (K : Int32 → ab_F → ab_F → Prop) : Nat → Int32 → Int32 → Int32 → ab_F → ab_F → Prop
  | 0, _, _, _, _, _ => False
  | n + 1, x1, x2, x3, I, A => (((nI 48) ≤ x3 → K x1 I A) ∧ (¬ (nI 48) ≤ x3 → wX0_countOf (fun r_3 I_1 A_2 => ((r_3 ≤ x2 → (wlX0_mostFrequent_6 K n) x1 x2 (x3 + nI 1) I_1 A_2) ∧ (¬ r_3 ≤ x2 → (wlX0_mostFrequent_6 K n) x3 r_3 (x3 + nI 1) I_1 A_2))) I A x3))
def wX0_mostFrequent (K : Int32 → ab_F → ab_F → Prop) (I A : ab_F)  : Prop := (∃ nf : Nat, wlX0_mostFrequent_6 K nf (-1 : Int32) (nI 0) (nI 0) I A)
set_option maxRecDepth 20000 in
theorem tlX0_mostFrequent_6 {C : ab_X} {Z : ab_Z} {K : Int32 → ab_F → ab_F → Prop} : ∀ (n : Nat) (x1 : Int32) (x2 : Int32) (x3 : Int32) (I A : ab_F), wlX0_mostFrequent_6 K n x1 x2 x3 I A → ab_G mX0_mostFrequent 3 C (ab_Px (shC Z) ab_no (ab_ri K)) 6 [some (.ref 29), some (.int x1), some (.int x2), some (.int x3), none] [] (shC Z) I A 0 0 := by
  intro n
  induction n with
  | zero => intro x1 x2 x3 I A h; exact h.elim
  | succ n hL6 =>
    intro x1 x2 x3 I A h
    rw [wlX0_mostFrequent_6] at h
    refine g_iload_n (n := 7) dX0_mostFrequent_6 rfl rfl rfl ?_
    refine g_bipush (n := 9) (v := (nI 48)) dX0_mostFrequent_7 rfl rfl ?_
    refine g_icmp_ge (n := 12) 36 dX0_mostFrequent_9 (by decide) rfl (fun hc => ?_) (fun hc => ?_)
    · have h := h.1 hc
      refine g_iload_n (n := 37) dX0_mostFrequent_36 rfl rfl rfl ?_
      exact g_iret rfl rfl dX0_mostFrequent_37 ⟨rfl, _, rfl, h⟩
    · have h := h.2 hc
      refine g_aload_n (n := 13) dX0_mostFrequent_12 rfl rfl rfl ?_
      refine g_iload_n (n := 14) dX0_mostFrequent_13 rfl rfl rfl ?_
      refine g_callV (n := 17) (as := [.int x3]) (bc' := 0) (bs' := 0) sC_29 vc_4 (ctX0_countOf h) okX0_countOf rfl w_1913 w_1915 w_24 w_105 dX0_mostFrequent_14 rfl rfl (Nat.le_of_ble_eq_true rfl) (Nat.le_of_ble_eq_true rfl) (Nat.le_of_ble_eq_true rfl) (Nat.le_of_ble_eq_true rfl) rfl (fun E sh1 I1 A1 hp _ => hp.2.elim) (fun ro sh_ I_1 A_2 hp hle => ?_)
      obtain ⟨rfl, r_3, rfl, h⟩ := hp
      refine g_istore (n := 19) (ls' := [some (.ref 29), some (.int x1), some (.int x2), some (.int x3), some (.int r_3)]) dX0_mostFrequent_17 rfl (Nat.le_of_ble_eq_true rfl) (Nat.le_of_ble_eq_true rfl) rfl rfl ?_
      refine g_iload (n := 21) dX0_mostFrequent_19 rfl rfl ?_
      refine g_iload_n (n := 22) dX0_mostFrequent_21 rfl rfl rfl ?_
      refine g_icmp_le (n := 25) 30 dX0_mostFrequent_22 (by decide) rfl (fun hc => ?_) (fun hc => ?_)
      · have h := h.1 hc
        refine g_iinc (n := 33) (v := (x3 + nI 1)) (ls' := [some (.ref 29), some (.int x1), some (.int x2), some (.int (x3 + nI 1)), some (.int r_3)]) dX0_mostFrequent_30 rfl rfl rfl (Nat.le_of_ble_eq_true rfl) rfl rfl ?_
        refine g_goto 6 dX0_mostFrequent_33 (by decide) ?_
        refine g_forget (ls' := [some (.ref 29), some (.int x1), some (.int x2), some (.int (x3 + nI 1)), none]) (ab_fg rfl) ?_
        exact hL6 _ _ _ _ _ h
      · have h := h.2 hc
        refine g_iload_n (n := 26) dX0_mostFrequent_25 rfl rfl rfl ?_
        refine g_istore_n (n := 27) (ls' := [some (.ref 29), some (.int x3), some (.int x2), some (.int x3), some (.int r_3)]) dX0_mostFrequent_26 rfl rfl (Nat.le_of_ble_eq_true rfl) (Nat.le_of_ble_eq_true rfl) rfl rfl ?_
        refine g_iload (n := 29) dX0_mostFrequent_27 rfl rfl ?_
        refine g_istore_n (n := 30) (ls' := [some (.ref 29), some (.int x3), some (.int r_3), some (.int x3), some (.int r_3)]) dX0_mostFrequent_29 rfl rfl (Nat.le_of_ble_eq_true rfl) (Nat.le_of_ble_eq_true rfl) rfl rfl ?_
        refine g_iinc (n := 33) (v := (x3 + nI 1)) (ls' := [some (.ref 29), some (.int x3), some (.int r_3), some (.int (x3 + nI 1)), some (.int r_3)]) dX0_mostFrequent_30 rfl rfl rfl (Nat.le_of_ble_eq_true rfl) rfl rfl ?_
        refine g_goto 6 dX0_mostFrequent_33 (by decide) ?_
        refine g_forget (ls' := [some (.ref 29), some (.int x3), some (.int r_3), some (.int (x3 + nI 1)), none]) (ab_fg rfl) ?_
        exact hL6 _ _ _ _ _ h
set_option maxRecDepth 20000 in
theorem ctX0_mostFrequent {Z : ab_Z} {K : Int32 → ab_F → ab_F → Prop} {I A : ab_F}  (h : wX0_mostFrequent K I A ) : ab_Cl mX0_mostFrequent 3 0 0 [.ref 29] (shC Z) I A (ab_Px (shC Z) ab_no (ab_ri K)) := by
  refine ab_enter (ls := [some (.ref 29), none, none, none, none]) (by decide +kernel) (Nat.le_of_ble_eq_true rfl) rfl (fun C => ?_)
  unfold wX0_mostFrequent at h
  refine g_iconst (n := 1) (v := (-1 : Int32)) dX0_mostFrequent_0 rfl rfl ?_
  refine g_istore_n (n := 2) (ls' := [some (.ref 29), some (.int (-1 : Int32)), none, none, none]) dX0_mostFrequent_1 rfl rfl (Nat.le_of_ble_eq_true rfl) (Nat.le_of_ble_eq_true rfl) rfl rfl ?_
  refine g_iconst (n := 3) (v := (nI 0)) dX0_mostFrequent_2 rfl rfl ?_
  refine g_istore_n (n := 4) (ls' := [some (.ref 29), some (.int (-1 : Int32)), some (.int (nI 0)), none, none]) dX0_mostFrequent_3 rfl rfl (Nat.le_of_ble_eq_true rfl) (Nat.le_of_ble_eq_true rfl) rfl rfl ?_
  refine g_iconst (n := 5) (v := (nI 0)) dX0_mostFrequent_4 rfl rfl ?_
  refine g_istore_n (n := 6) (ls' := [some (.ref 29), some (.int (-1 : Int32)), some (.int (nI 0)), some (.int (nI 0)), none]) dX0_mostFrequent_5 rfl rfl (Nat.le_of_ble_eq_true rfl) (Nat.le_of_ble_eq_true rfl) rfl rfl ?_
  refine g_less (bc' := 0) (bs' := 0) (Nat.le_of_ble_eq_true rfl) (Nat.le_of_ble_eq_true rfl) ?_
  obtain ⟨n_f, h⟩ := h
  exact tlX0_mostFrequent_6  n_f _ _ _ _ _ h
def wlX1_clearRecords_12 (K : ab_F → ab_F → Prop) : Nat → Int32 → ab_F → ab_F → Prop
  | 0, _, _, _ => False
  | n + 1, x1, I, A => (((nI 48) ≤ x1 → K I A) ∧ (¬ (nI 48) ≤ x1 → (∃ j_1 : Nat, x1 = nI j_1 ∧ j_1 < 48 ∧ (wlX1_clearRecords_12 K n) (x1 + nI 1) I (wr A 25 j_1 (-1 : Int32)))))
def wX1_clearRecords (K : ab_F → ab_F → Prop) (I A : ab_F)  : Prop := (∃ nf : Nat, wlX1_clearRecords_12 K nf (nI 0) (wr (wr I 24 1 (nI 0)) 24 2 (nI 0)) A)
set_option maxRecDepth 20000 in
theorem tlX1_clearRecords_12 {C : ab_X} {Z : ab_Z} {K : ab_F → ab_F → Prop} : ∀ (n : Nat) (x1 : Int32) (I A : ab_F), wlX1_clearRecords_12 K n x1 I A → ab_G mX1_clearRecords 0 C (ab_Px (shC Z) ab_no (ab_rv K)) 12 [some (.ref 24), some (.int x1)] [] (shC Z) I A 0 0 := by
  intro n
  induction n with
  | zero => intro x1 I A h; exact h.elim
  | succ n hL12 =>
    intro x1 I A h
    rw [wlX1_clearRecords_12] at h
    refine g_iload_n (n := 13) dX1_clearRecords_12 rfl rfl rfl ?_
    refine g_bipush (n := 15) (v := (nI 48)) dX1_clearRecords_13 rfl rfl ?_
    refine g_icmp_ge (n := 18) 31 dX1_clearRecords_15 (by decide) rfl (fun hc => ?_) (fun hc => ?_)
    · have h := h.1 hc
      exact g_vret rfl dX1_clearRecords_31 ⟨rfl, rfl, h⟩
    · have h := h.2 hc
      refine g_aload_n (n := 19) dX1_clearRecords_18 rfl rfl rfl ?_
      refine g_getR (n := 22) (k := 4) dX1_clearRecords_19 sC_24 vc_5 (Nat.le_of_ble_eq_true rfl) rfl w_349 rfl ?_
      refine g_iload_n (n := 23) dX1_clearRecords_22 rfl rfl rfl ?_
      refine g_iconst (n := 24) (v := (-1 : Int32)) dX1_clearRecords_23 rfl rfl ?_
      obtain ⟨j_1, hj, hl, h⟩ := h
      refine g_iastJ (n := 25) (j := j_1) dX1_clearRecords_24 sC_25 hj hl (by decide) rfl ?_
      refine g_iinc (n := 28) (v := (x1 + nI 1)) (ls' := [some (.ref 24), some (.int (x1 + nI 1))]) dX1_clearRecords_25 rfl rfl rfl (Nat.le_of_ble_eq_true rfl) rfl rfl ?_
      refine g_goto 12 dX1_clearRecords_28 (by decide) ?_
      exact hL12 _ _ _ h
set_option maxRecDepth 20000 in
theorem ctX1_clearRecords {Z : ab_Z} {K : ab_F → ab_F → Prop} {I A : ab_F}  (h : wX1_clearRecords K I A ) : ab_Cl mX1_clearRecords 0 0 0 [.ref 24] (shC Z) I A (ab_Px (shC Z) ab_no (ab_rv K)) := by
  refine ab_enter (ls := [some (.ref 24), none]) (by decide +kernel) (Nat.le_of_ble_eq_true rfl) rfl (fun C => ?_)
  unfold wX1_clearRecords at h
  refine g_aload_n (n := 1) dX1_clearRecords_0 rfl rfl rfl ?_
  refine g_iconst (n := 2) (v := (nI 0)) dX1_clearRecords_1 rfl rfl ?_
  refine g_putI (n := 5) (k := 1) dX1_clearRecords_2 sC_24 vc_5 (Nat.le_of_ble_eq_true rfl) rfl w_342 rfl rfl rfl rfl rfl ?_
  refine g_aload_n (n := 6) dX1_clearRecords_5 rfl rfl rfl ?_
  refine g_iconst (n := 7) (v := (nI 0)) dX1_clearRecords_6 rfl rfl ?_
  refine g_putI (n := 10) (k := 2) dX1_clearRecords_7 sC_24 vc_5 (Nat.le_of_ble_eq_true rfl) rfl w_345 rfl rfl rfl rfl rfl ?_
  refine g_iconst (n := 11) (v := (nI 0)) dX1_clearRecords_10 rfl rfl ?_
  refine g_istore_n (n := 12) (ls' := [some (.ref 24), some (.int (nI 0))]) dX1_clearRecords_11 rfl rfl (Nat.le_of_ble_eq_true rfl) (Nat.le_of_ble_eq_true rfl) rfl rfl ?_
  refine g_less (bc' := 0) (bs' := 0) (Nat.le_of_ble_eq_true rfl) (Nat.le_of_ble_eq_true rfl) ?_
  obtain ⟨n_f, h⟩ := h
  exact tlX1_clearRecords_12  n_f _ _ _ h
def wlX1_install_37 (K : ab_F → ab_F → Prop) : Nat → Int32 → ab_F → ab_F → Prop
  | 0, _, _, _ => False
  | n + 1, x1, I, A => (((nI 48) ≤ x1 → K I A) ∧ (¬ (nI 48) ≤ x1 → (∃ j_3 : Nat, x1 = nI j_3 ∧ j_3 < 48 ∧ (wlX1_install_37 K n) (x1 + nI 1) I (wr A 27 j_3 (-1 : Int32)))))
def wlX1_install_16 (K : ab_F → ab_F → Prop) : Nat → Int32 → ab_F → ab_F → Prop
  | 0, _, _, _ => False
  | n + 1, x1, I, A => (((nI 6) ≤ x1 → (∃ nf : Nat, wlX1_install_37 K nf (nI 0) I A)) ∧ (¬ (nI 6) ≤ x1 → (∃ j_4 : Nat, x1 = nI j_4 ∧ j_4 < 6 ∧ (wlX1_install_16 K n) (x1 + nI 1) I (wr A 26 j_4 (-1 : Int32)))))
def wX1_install (K : ab_F → ab_F → Prop) (I A : ab_F)  : Prop := wX1_clearRecords (fun I_1 A_2 => (∃ nf : Nat, wlX1_install_16 K nf (nI 0) I_1 A_2)) (wr (wr I 24 0 (nI 0)) 24 3 (nI 0)) A 
set_option maxRecDepth 20000 in
theorem tlX1_install_37 {C : ab_X} {Z : ab_Z} {K : ab_F → ab_F → Prop} : ∀ (n : Nat) (x1 : Int32) (I A : ab_F), wlX1_install_37 K n x1 I A → ab_G mX1_install 1 C (ab_Px (shC Z) ab_no (ab_rv K)) 37 [some (.ref 24), some (.int x1)] [] (shC Z) I A 0 0 := by
  intro n
  induction n with
  | zero => intro x1 I A h; exact h.elim
  | succ n hL37 =>
    intro x1 I A h
    rw [wlX1_install_37] at h
    refine g_iload_n (n := 38) dX1_install_37 rfl rfl rfl ?_
    refine g_bipush (n := 40) (v := (nI 48)) dX1_install_38 rfl rfl ?_
    refine g_icmp_ge (n := 43) 56 dX1_install_40 (by decide) rfl (fun hc => ?_) (fun hc => ?_)
    · have h := h.1 hc
      exact g_vret rfl dX1_install_56 ⟨rfl, rfl, h⟩
    · have h := h.2 hc
      refine g_aload_n (n := 44) dX1_install_43 rfl rfl rfl ?_
      refine g_getR (n := 47) (k := 6) dX1_install_44 sC_24 vc_5 (Nat.le_of_ble_eq_true rfl) rfl w_354 rfl ?_
      refine g_iload_n (n := 48) dX1_install_47 rfl rfl rfl ?_
      refine g_iconst (n := 49) (v := (-1 : Int32)) dX1_install_48 rfl rfl ?_
      obtain ⟨j_3, hj, hl, h⟩ := h
      refine g_iastJ (n := 50) (j := j_3) dX1_install_49 sC_27 hj hl (by decide) rfl ?_
      refine g_iinc (n := 53) (v := (x1 + nI 1)) (ls' := [some (.ref 24), some (.int (x1 + nI 1))]) dX1_install_50 rfl rfl rfl (Nat.le_of_ble_eq_true rfl) rfl rfl ?_
      refine g_goto 37 dX1_install_53 (by decide) ?_
      exact hL37 _ _ _ h
set_option maxRecDepth 20000 in
theorem tlX1_install_16 {C : ab_X} {Z : ab_Z} {K : ab_F → ab_F → Prop} : ∀ (n : Nat) (x1 : Int32) (I A : ab_F), wlX1_install_16 K n x1 I A → ab_G mX1_install 1 C (ab_Px (shC Z) ab_no (ab_rv K)) 16 [some (.ref 24), some (.int x1)] [] (shC Z) I A 0 0 := by
  intro n
  induction n with
  | zero => intro x1 I A h; exact h.elim
  | succ n hL16 =>
    intro x1 I A h
    rw [wlX1_install_16] at h
    refine g_iload_n (n := 17) dX1_install_16 rfl rfl rfl ?_
    refine g_bipush (n := 19) (v := (nI 6)) dX1_install_17 rfl rfl ?_
    refine g_icmp_ge (n := 22) 35 dX1_install_19 (by decide) rfl (fun hc => ?_) (fun hc => ?_)
    · have h := h.1 hc
      refine g_iconst (n := 36) (v := (nI 0)) dX1_install_35 rfl rfl ?_
      refine g_istore_n (n := 37) (ls' := [some (.ref 24), some (.int (nI 0))]) dX1_install_36 rfl rfl (Nat.le_of_ble_eq_true rfl) (Nat.le_of_ble_eq_true rfl) rfl rfl ?_
      refine g_less (bc' := 0) (bs' := 0) (Nat.le_of_ble_eq_true rfl) (Nat.le_of_ble_eq_true rfl) ?_
      obtain ⟨n_f, h⟩ := h
      exact tlX1_install_37  n_f _ _ _ h
    · have h := h.2 hc
      refine g_aload_n (n := 23) dX1_install_22 rfl rfl rfl ?_
      refine g_getR (n := 26) (k := 5) dX1_install_23 sC_24 vc_5 (Nat.le_of_ble_eq_true rfl) rfl w_351 rfl ?_
      refine g_iload_n (n := 27) dX1_install_26 rfl rfl rfl ?_
      refine g_iconst (n := 28) (v := (-1 : Int32)) dX1_install_27 rfl rfl ?_
      obtain ⟨j_4, hj, hl, h⟩ := h
      refine g_iastJ (n := 29) (j := j_4) dX1_install_28 sC_26 hj hl (by decide) rfl ?_
      refine g_iinc (n := 32) (v := (x1 + nI 1)) (ls' := [some (.ref 24), some (.int (x1 + nI 1))]) dX1_install_29 rfl rfl rfl (Nat.le_of_ble_eq_true rfl) rfl rfl ?_
      refine g_goto 16 dX1_install_32 (by decide) ?_
      exact hL16 _ _ _ h
set_option maxRecDepth 20000 in
theorem ctX1_install {Z : ab_Z} {K : ab_F → ab_F → Prop} {I A : ab_F}  (h : wX1_install K I A ) : ab_Cl mX1_install 1 0 0 [.ref 24] (shC Z) I A (ab_Px (shC Z) ab_no (ab_rv K)) := by
  refine ab_enter (ls := [some (.ref 24), none]) (by decide +kernel) (Nat.le_of_ble_eq_true rfl) rfl (fun C => ?_)
  unfold wX1_install at h
  refine g_aload_n (n := 1) dX1_install_0 rfl rfl rfl ?_
  refine g_iconst (n := 2) (v := (nI 0)) dX1_install_1 rfl rfl ?_
  refine g_putI (n := 5) (k := 0) dX1_install_2 sC_24 vc_5 (Nat.le_of_ble_eq_true rfl) rfl w_339 rfl rfl rfl rfl rfl ?_
  refine g_aload_n (n := 6) dX1_install_5 rfl rfl rfl ?_
  refine g_iconst (n := 7) (v := (nI 0)) dX1_install_6 rfl rfl ?_
  refine g_putI (n := 10) (k := 3) dX1_install_7 sC_24 vc_5 (Nat.le_of_ble_eq_true rfl) rfl w_347 rfl rfl rfl rfl rfl ?_
  refine g_aload_n (n := 11) dX1_install_10 rfl rfl rfl ?_
  refine g_callV (n := 14) (as := []) (bc' := 0) (bs' := 0) sC_24 vc_5 (ctX1_clearRecords h) okX1_clearRecords rfl w_447 w_448 w_449 w_104 dX1_install_11 rfl rfl (Nat.le_of_ble_eq_true rfl) (Nat.le_of_ble_eq_true rfl) (Nat.le_of_ble_eq_true rfl) (Nat.le_of_ble_eq_true rfl) rfl (fun E sh1 I1 A1 hp _ => hp.2.elim) (fun ro sh_ I_1 A_2 hp hle => ?_)
  obtain ⟨rfl, rfl, h⟩ := hp
  refine g_iconst (n := 15) (v := (nI 0)) dX1_install_14 rfl rfl ?_
  refine g_istore_n (n := 16) (ls' := [some (.ref 24), some (.int (nI 0))]) dX1_install_15 rfl rfl (Nat.le_of_ble_eq_true rfl) (Nat.le_of_ble_eq_true rfl) rfl rfl ?_
  refine g_less (bc' := 0) (bs' := 0) (Nat.le_of_ble_eq_true rfl) (Nat.le_of_ble_eq_true rfl) ?_
  obtain ⟨n_f, h⟩ := h
  exact tlX1_install_16  n_f _ _ _ h
def wX1_covers (K : Int32 → ab_F → ab_F → Prop) (I A : ab_F) (p0 : Int32) : Prop := ((((I 24 1) &&& ((nI 1) <<< (p0 &&& 31))) = 0 → K (nI 0) I A) ∧ (¬ ((I 24 1) &&& ((nI 1) <<< (p0 &&& 31))) = 0 → K (nI 1) I A))
set_option maxRecDepth 20000 in
theorem ctX1_covers {Z : ab_Z} {K : Int32 → ab_F → ab_F → Prop} {I A : ab_F} {p0 : Int32} (h : wX1_covers K I A p0) : ab_Cl mX1_covers 0 0 0 [.ref 24, .int p0] (shC Z) I A (ab_Px (shC Z) ab_no (ab_ri K)) := by
  refine ab_enter (ls := [some (.ref 24), some (.int p0)]) (by decide +kernel) (Nat.le_of_ble_eq_true rfl) rfl (fun C => ?_)
  unfold wX1_covers at h
  refine g_aload_n (n := 1) dX1_covers_0 rfl rfl rfl ?_
  refine g_getIE (n := 4) (k := 1) (x := (I 24 1)) dX1_covers_1 sC_24 vc_5 (Nat.le_of_ble_eq_true rfl) rfl w_342 rfl rfl ?_
  refine g_iconst (n := 5) (v := (nI 1)) dX1_covers_4 rfl rfl ?_
  refine g_iload_n (n := 6) dX1_covers_5 rfl rfl rfl ?_
  refine g_ishl (n := 7) dX1_covers_6 rfl ?_
  refine g_iand (n := 8) dX1_covers_7 rfl ?_
  refine g_if_eq (n := 11) 15 dX1_covers_8 (by decide) rfl (fun hc => ?_) (fun hc => ?_)
  · have h := h.1 hc
    refine g_iconst (n := 16) (v := (nI 0)) dX1_covers_15 rfl rfl ?_
    exact g_iret rfl rfl dX1_covers_16 ⟨rfl, _, rfl, h⟩
  · have h := h.2 hc
    refine g_iconst (n := 12) (v := (nI 1)) dX1_covers_11 rfl rfl ?_
    refine g_goto 16 dX1_covers_12 (by decide) ?_
    exact g_iret rfl rfl dX1_covers_16 ⟨rfl, _, rfl, h⟩
def wlX1_countPending_4 (K : Int32 → ab_F → ab_F → Prop) : Nat → Int32 → Int32 → ab_F → ab_F → Prop
  | 0, _, _, _, _ => False
  | n + 1, x1, x2, I, A => (((nI 48) ≤ x2 → K x1 I A) ∧ (¬ (nI 48) ≤ x2 → (∃ j_1 : Nat, x2 = nI j_1 ∧ j_1 < 48 ∧ ((¬ (A 25 j_1) = (-2 : Int32) → (wlX1_countPending_4 K n) x1 (x2 + nI 1) I A) ∧ ((A 25 j_1) = (-2 : Int32) → (wlX1_countPending_4 K n) (x1 + nI 1) (x2 + nI 1) I A)))))
def wX1_countPending (K : Int32 → ab_F → ab_F → Prop) (I A : ab_F)  : Prop := (∃ nf : Nat, wlX1_countPending_4 K nf (nI 0) (nI 0) I A)
set_option maxRecDepth 20000 in
theorem tlX1_countPending_4 {C : ab_X} {Z : ab_Z} {K : Int32 → ab_F → ab_F → Prop} : ∀ (n : Nat) (x1 : Int32) (x2 : Int32) (I A : ab_F), wlX1_countPending_4 K n x1 x2 I A → ab_G mX1_countPending 0 C (ab_Px (shC Z) ab_no (ab_ri K)) 4 [some (.ref 24), some (.int x1), some (.int x2)] [] (shC Z) I A 0 0 := by
  intro n
  induction n with
  | zero => intro x1 x2 I A h; exact h.elim
  | succ n hL4 =>
    intro x1 x2 I A h
    rw [wlX1_countPending_4] at h
    refine g_iload_n (n := 5) dX1_countPending_4 rfl rfl rfl ?_
    refine g_bipush (n := 7) (v := (nI 48)) dX1_countPending_5 rfl rfl ?_
    refine g_icmp_ge (n := 10) 30 dX1_countPending_7 (by decide) rfl (fun hc => ?_) (fun hc => ?_)
    · have h := h.1 hc
      refine g_iload_n (n := 31) dX1_countPending_30 rfl rfl rfl ?_
      exact g_iret rfl rfl dX1_countPending_31 ⟨rfl, _, rfl, h⟩
    · have h := h.2 hc
      refine g_aload_n (n := 11) dX1_countPending_10 rfl rfl rfl ?_
      refine g_getR (n := 14) (k := 4) dX1_countPending_11 sC_24 vc_5 (Nat.le_of_ble_eq_true rfl) rfl w_349 rfl ?_
      refine g_iload_n (n := 15) dX1_countPending_14 rfl rfl rfl ?_
      obtain ⟨j_1, hj, hl, h⟩ := h
      refine g_ialdJ (n := 16) (j := j_1) (x := (A 25 j_1)) dX1_countPending_15 sC_25 hj hl (by decide) rfl rfl ?_
      refine g_bipush (n := 18) (v := (-2 : Int32)) dX1_countPending_16 rfl rfl ?_
      refine g_icmp_ne (n := 21) 24 dX1_countPending_18 (by decide) rfl (fun hc => ?_) (fun hc => ?_)
      · have h := h.1 hc
        refine g_iinc (n := 27) (v := (x2 + nI 1)) (ls' := [some (.ref 24), some (.int x1), some (.int (x2 + nI 1))]) dX1_countPending_24 rfl rfl rfl (Nat.le_of_ble_eq_true rfl) rfl rfl ?_
        refine g_goto 4 dX1_countPending_27 (by decide) ?_
        exact hL4 _ _ _ _ h
      · have h := h.2 hc
        refine g_iinc (n := 24) (v := (x1 + nI 1)) (ls' := [some (.ref 24), some (.int (x1 + nI 1)), some (.int x2)]) dX1_countPending_21 rfl rfl rfl (Nat.le_of_ble_eq_true rfl) rfl rfl ?_
        refine g_iinc (n := 27) (v := (x2 + nI 1)) (ls' := [some (.ref 24), some (.int (x1 + nI 1)), some (.int (x2 + nI 1))]) dX1_countPending_24 rfl rfl rfl (Nat.le_of_ble_eq_true rfl) rfl rfl ?_
        refine g_goto 4 dX1_countPending_27 (by decide) ?_
        exact hL4 _ _ _ _ h
set_option maxRecDepth 20000 in
theorem ctX1_countPending {Z : ab_Z} {K : Int32 → ab_F → ab_F → Prop} {I A : ab_F}  (h : wX1_countPending K I A ) : ab_Cl mX1_countPending 0 0 0 [.ref 24] (shC Z) I A (ab_Px (shC Z) ab_no (ab_ri K)) := by
  refine ab_enter (ls := [some (.ref 24), none, none]) (by decide +kernel) (Nat.le_of_ble_eq_true rfl) rfl (fun C => ?_)
  unfold wX1_countPending at h
  refine g_iconst (n := 1) (v := (nI 0)) dX1_countPending_0 rfl rfl ?_
  refine g_istore_n (n := 2) (ls' := [some (.ref 24), some (.int (nI 0)), none]) dX1_countPending_1 rfl rfl (Nat.le_of_ble_eq_true rfl) (Nat.le_of_ble_eq_true rfl) rfl rfl ?_
  refine g_iconst (n := 3) (v := (nI 0)) dX1_countPending_2 rfl rfl ?_
  refine g_istore_n (n := 4) (ls' := [some (.ref 24), some (.int (nI 0)), some (.int (nI 0))]) dX1_countPending_3 rfl rfl (Nat.le_of_ble_eq_true rfl) (Nat.le_of_ble_eq_true rfl) rfl rfl ?_
  refine g_less (bc' := 0) (bs' := 0) (Nat.le_of_ble_eq_true rfl) (Nat.le_of_ble_eq_true rfl) ?_
  obtain ⟨n_f, h⟩ := h
  exact tlX1_countPending_4  n_f _ _ _ _ h
def wlX1_pendingAt_4 (K : Int32 → ab_F → ab_F → Prop) : Nat → Int32 → Int32 → Int32 → ab_F → ab_F → Prop
  | 0, _, _, _, _, _ => False
  | n + 1, x1, x2, x3, I, A => (((nI 48) ≤ x3 → K (-1 : Int32) I A) ∧ (¬ (nI 48) ≤ x3 → (∃ j_1 : Nat, x3 = nI j_1 ∧ j_1 < 48 ∧ ((¬ (A 25 j_1) = (-2 : Int32) → (wlX1_pendingAt_4 K n) x1 x2 (x3 + nI 1) I A) ∧ ((A 25 j_1) = (-2 : Int32) → ((¬ x2 = x1 → (wlX1_pendingAt_4 K n) x1 (x2 + nI 1) (x3 + nI 1) I A) ∧ (x2 = x1 → K x3 I A)))))))
def wX1_pendingAt (K : Int32 → ab_F → ab_F → Prop) (I A : ab_F) (p0 : Int32) : Prop := (∃ nf : Nat, wlX1_pendingAt_4 K nf p0 (nI 0) (nI 0) I A)
set_option maxRecDepth 20000 in
theorem tlX1_pendingAt_4 {C : ab_X} {Z : ab_Z} {K : Int32 → ab_F → ab_F → Prop} : ∀ (n : Nat) (x1 : Int32) (x2 : Int32) (x3 : Int32) (I A : ab_F), wlX1_pendingAt_4 K n x1 x2 x3 I A → ab_G mX1_pendingAt 0 C (ab_Px (shC Z) ab_no (ab_ri K)) 4 [some (.ref 24), some (.int x1), some (.int x2), some (.int x3)] [] (shC Z) I A 0 0 := by
  intro n
  induction n with
  | zero => intro x1 x2 x3 I A h; exact h.elim
  | succ n hL4 =>
    intro x1 x2 x3 I A h
    rw [wlX1_pendingAt_4] at h
    refine g_iload_n (n := 5) dX1_pendingAt_4 rfl rfl rfl ?_
    refine g_bipush (n := 7) (v := (nI 48)) dX1_pendingAt_5 rfl rfl ?_
    refine g_icmp_ge (n := 10) 37 dX1_pendingAt_7 (by decide) rfl (fun hc => ?_) (fun hc => ?_)
    · have h := h.1 hc
      refine g_iconst (n := 38) (v := (-1 : Int32)) dX1_pendingAt_37 rfl rfl ?_
      exact g_iret rfl rfl dX1_pendingAt_38 ⟨rfl, _, rfl, h⟩
    · have h := h.2 hc
      refine g_aload_n (n := 11) dX1_pendingAt_10 rfl rfl rfl ?_
      refine g_getR (n := 14) (k := 4) dX1_pendingAt_11 sC_24 vc_5 (Nat.le_of_ble_eq_true rfl) rfl w_349 rfl ?_
      refine g_iload_n (n := 15) dX1_pendingAt_14 rfl rfl rfl ?_
      obtain ⟨j_1, hj, hl, h⟩ := h
      refine g_ialdJ (n := 16) (j := j_1) (x := (A 25 j_1)) dX1_pendingAt_15 sC_25 hj hl (by decide) rfl rfl ?_
      refine g_bipush (n := 18) (v := (-2 : Int32)) dX1_pendingAt_16 rfl rfl ?_
      refine g_icmp_ne (n := 21) 31 dX1_pendingAt_18 (by decide) rfl (fun hc => ?_) (fun hc => ?_)
      · have h := h.1 hc
        refine g_iinc (n := 34) (v := (x3 + nI 1)) (ls' := [some (.ref 24), some (.int x1), some (.int x2), some (.int (x3 + nI 1))]) dX1_pendingAt_31 rfl rfl rfl (Nat.le_of_ble_eq_true rfl) rfl rfl ?_
        refine g_goto 4 dX1_pendingAt_34 (by decide) ?_
        exact hL4 _ _ _ _ _ h
      · have h := h.2 hc
        refine g_iload_n (n := 22) dX1_pendingAt_21 rfl rfl rfl ?_
        refine g_iload_n (n := 23) dX1_pendingAt_22 rfl rfl rfl ?_
        refine g_icmp_ne (n := 26) 28 dX1_pendingAt_23 (by decide) rfl (fun hc => ?_) (fun hc => ?_)
        · have h := h.1 hc
          refine g_iinc (n := 31) (v := (x2 + nI 1)) (ls' := [some (.ref 24), some (.int x1), some (.int (x2 + nI 1)), some (.int x3)]) dX1_pendingAt_28 rfl rfl rfl (Nat.le_of_ble_eq_true rfl) rfl rfl ?_
          refine g_iinc (n := 34) (v := (x3 + nI 1)) (ls' := [some (.ref 24), some (.int x1), some (.int (x2 + nI 1)), some (.int (x3 + nI 1))]) dX1_pendingAt_31 rfl rfl rfl (Nat.le_of_ble_eq_true rfl) rfl rfl ?_
          refine g_goto 4 dX1_pendingAt_34 (by decide) ?_
          exact hL4 _ _ _ _ _ h
        · have h := h.2 hc
          refine g_iload_n (n := 27) dX1_pendingAt_26 rfl rfl rfl ?_
          exact g_iret rfl rfl dX1_pendingAt_27 ⟨rfl, _, rfl, h⟩
set_option maxRecDepth 20000 in
theorem ctX1_pendingAt {Z : ab_Z} {K : Int32 → ab_F → ab_F → Prop} {I A : ab_F} {p0 : Int32} (h : wX1_pendingAt K I A p0) : ab_Cl mX1_pendingAt 0 0 0 [.ref 24, .int p0] (shC Z) I A (ab_Px (shC Z) ab_no (ab_ri K)) := by
  refine ab_enter (ls := [some (.ref 24), some (.int p0), none, none]) (by decide +kernel) (Nat.le_of_ble_eq_true rfl) rfl (fun C => ?_)
  unfold wX1_pendingAt at h
  refine g_iconst (n := 1) (v := (nI 0)) dX1_pendingAt_0 rfl rfl ?_
  refine g_istore_n (n := 2) (ls' := [some (.ref 24), some (.int p0), some (.int (nI 0)), none]) dX1_pendingAt_1 rfl rfl (Nat.le_of_ble_eq_true rfl) (Nat.le_of_ble_eq_true rfl) rfl rfl ?_
  refine g_iconst (n := 3) (v := (nI 0)) dX1_pendingAt_2 rfl rfl ?_
  refine g_istore_n (n := 4) (ls' := [some (.ref 24), some (.int p0), some (.int (nI 0)), some (.int (nI 0))]) dX1_pendingAt_3 rfl rfl (Nat.le_of_ble_eq_true rfl) (Nat.le_of_ble_eq_true rfl) rfl rfl ?_
  refine g_less (bc' := 0) (bs' := 0) (Nat.le_of_ble_eq_true rfl) (Nat.le_of_ble_eq_true rfl) ?_
  obtain ⟨n_f, h⟩ := h
  exact tlX1_pendingAt_4  n_f _ _ _ _ _ h
def wlX1_recordsBecomeCheckpoints_2 (K : ab_F → ab_F → Prop) : Nat → Int32 → ab_F → ab_F → Prop
  | 0, _, _, _ => False
  | n + 1, x1, I, A => (((nI 48) ≤ x1 → K I A) ∧ (¬ (nI 48) ≤ x1 → (∀ y_1 : Int32, y_1 = (x1 / (nI 8)) → wX1_covers (fun r_4 I_2 A_3 => ((r_4 = 0 → (wlX1_recordsBecomeCheckpoints_2 K n) (x1 + nI 1) I_2 A_3) ∧ (¬ r_4 = 0 → (∃ j_5 : Nat, x1 = nI j_5 ∧ j_5 < 48 ∧ (∃ j_6 : Nat, x1 = nI j_6 ∧ j_6 < 48 ∧ (∃ j_7 : Nat, y_1 = nI j_7 ∧ j_7 < 6 ∧ (wlX1_recordsBecomeCheckpoints_2 K n) (x1 + nI 1) I_2 (wr (wr A_3 27 j_6 (A_3 25 j_5)) 26 j_7 (I_2 24 0)))))))) I A y_1)))
def wX1_recordsBecomeCheckpoints (K : ab_F → ab_F → Prop) (I A : ab_F)  : Prop := (∃ nf : Nat, wlX1_recordsBecomeCheckpoints_2 K nf (nI 0) I A)
set_option maxRecDepth 20000 in
theorem tlX1_recordsBecomeCheckpoints_2 {C : ab_X} {Z : ab_Z} {K : ab_F → ab_F → Prop} : ∀ (n : Nat) (x1 : Int32) (I A : ab_F), wlX1_recordsBecomeCheckpoints_2 K n x1 I A → ab_G mX1_recordsBecomeCheckpoints 1 C (ab_Px (shC Z) ab_no (ab_rv K)) 2 [some (.ref 24), some (.int x1), none] [] (shC Z) I A 0 0 := by
  intro n
  induction n with
  | zero => intro x1 I A h; exact h.elim
  | succ n hL2 =>
    intro x1 I A h
    rw [wlX1_recordsBecomeCheckpoints_2] at h
    refine g_iload_n (n := 3) dX1_recordsBecomeCheckpoints_2 rfl rfl rfl ?_
    refine g_bipush (n := 5) (v := (nI 48)) dX1_recordsBecomeCheckpoints_3 rfl rfl ?_
    refine g_icmp_ge (n := 8) 49 dX1_recordsBecomeCheckpoints_5 (by decide) rfl (fun hc => ?_) (fun hc => ?_)
    · have h := h.1 hc
      exact g_vret rfl dX1_recordsBecomeCheckpoints_49 ⟨rfl, rfl, h⟩
    · have h := h.2 hc
      refine g_iload_n (n := 9) dX1_recordsBecomeCheckpoints_8 rfl rfl rfl ?_
      refine g_bipush (n := 11) (v := (nI 8)) dX1_recordsBecomeCheckpoints_9 rfl rfl ?_
      refine g_idiv (n := 12) dX1_recordsBecomeCheckpoints_11 (by decide) rfl ?_
      refine g_topi (fun y_1 ey_1 => ?_)
      have h := h y_1 ey_1
      refine g_istore_n (n := 13) (ls' := [some (.ref 24), some (.int x1), some (.int y_1)]) dX1_recordsBecomeCheckpoints_12 rfl rfl (Nat.le_of_ble_eq_true rfl) (Nat.le_of_ble_eq_true rfl) rfl rfl ?_
      refine g_aload_n (n := 14) dX1_recordsBecomeCheckpoints_13 rfl rfl rfl ?_
      refine g_iload_n (n := 15) dX1_recordsBecomeCheckpoints_14 rfl rfl rfl ?_
      refine g_callV (n := 18) (as := [.int y_1]) (bc' := 0) (bs' := 0) sC_24 vc_5 (ctX1_covers h) okX1_covers rfl w_974 w_888 w_889 w_104 dX1_recordsBecomeCheckpoints_15 rfl rfl (Nat.le_of_ble_eq_true rfl) (Nat.le_of_ble_eq_true rfl) (Nat.le_of_ble_eq_true rfl) (Nat.le_of_ble_eq_true rfl) rfl (fun E sh1 I1 A1 hp _ => hp.2.elim) (fun ro sh_ I_2 A_3 hp hle => ?_)
      obtain ⟨rfl, r_4, rfl, h⟩ := hp
      refine g_if_eq (n := 21) 43 dX1_recordsBecomeCheckpoints_18 (by decide) rfl (fun hc => ?_) (fun hc => ?_)
      · have h := h.1 hc
        refine g_iinc (n := 46) (v := (x1 + nI 1)) (ls' := [some (.ref 24), some (.int (x1 + nI 1)), some (.int y_1)]) dX1_recordsBecomeCheckpoints_43 rfl rfl rfl (Nat.le_of_ble_eq_true rfl) rfl rfl ?_
        refine g_goto 2 dX1_recordsBecomeCheckpoints_46 (by decide) ?_
        refine g_forget (ls' := [some (.ref 24), some (.int (x1 + nI 1)), none]) (ab_fg rfl) ?_
        exact hL2 _ _ _ h
      · have h := h.2 hc
        refine g_aload_n (n := 22) dX1_recordsBecomeCheckpoints_21 rfl rfl rfl ?_
        refine g_getR (n := 25) (k := 6) dX1_recordsBecomeCheckpoints_22 sC_24 vc_5 (Nat.le_of_ble_eq_true rfl) rfl w_354 rfl ?_
        refine g_iload_n (n := 26) dX1_recordsBecomeCheckpoints_25 rfl rfl rfl ?_
        refine g_aload_n (n := 27) dX1_recordsBecomeCheckpoints_26 rfl rfl rfl ?_
        refine g_getR (n := 30) (k := 4) dX1_recordsBecomeCheckpoints_27 sC_24 vc_5 (Nat.le_of_ble_eq_true rfl) rfl w_349 rfl ?_
        refine g_iload_n (n := 31) dX1_recordsBecomeCheckpoints_30 rfl rfl rfl ?_
        obtain ⟨j_5, hj, hl, h⟩ := h
        refine g_ialdJ (n := 32) (j := j_5) (x := (A_3 25 j_5)) dX1_recordsBecomeCheckpoints_31 sC_25 hj hl (by decide) rfl rfl ?_
        obtain ⟨j_6, hj, hl, h⟩ := h
        refine g_iastJ (n := 33) (j := j_6) dX1_recordsBecomeCheckpoints_32 sC_27 hj hl (by decide) rfl ?_
        refine g_aload_n (n := 34) dX1_recordsBecomeCheckpoints_33 rfl rfl rfl ?_
        refine g_getR (n := 37) (k := 5) dX1_recordsBecomeCheckpoints_34 sC_24 vc_5 (Nat.le_of_ble_eq_true rfl) rfl w_351 rfl ?_
        refine g_iload_n (n := 38) dX1_recordsBecomeCheckpoints_37 rfl rfl rfl ?_
        refine g_aload_n (n := 39) dX1_recordsBecomeCheckpoints_38 rfl rfl rfl ?_
        refine g_getIE (n := 42) (k := 0) (x := (I_2 24 0)) dX1_recordsBecomeCheckpoints_39 sC_24 vc_5 (Nat.le_of_ble_eq_true rfl) rfl w_339 rfl rfl ?_
        obtain ⟨j_7, hj, hl, h⟩ := h
        refine g_iastJ (n := 43) (j := j_7) dX1_recordsBecomeCheckpoints_42 sC_26 hj hl (by decide) rfl ?_
        refine g_iinc (n := 46) (v := (x1 + nI 1)) (ls' := [some (.ref 24), some (.int (x1 + nI 1)), some (.int y_1)]) dX1_recordsBecomeCheckpoints_43 rfl rfl rfl (Nat.le_of_ble_eq_true rfl) rfl rfl ?_
        refine g_goto 2 dX1_recordsBecomeCheckpoints_46 (by decide) ?_
        refine g_forget (ls' := [some (.ref 24), some (.int (x1 + nI 1)), none]) (ab_fg rfl) ?_
        exact hL2 _ _ _ h
set_option maxRecDepth 20000 in
theorem ctX1_recordsBecomeCheckpoints {Z : ab_Z} {K : ab_F → ab_F → Prop} {I A : ab_F}  (h : wX1_recordsBecomeCheckpoints K I A ) : ab_Cl mX1_recordsBecomeCheckpoints 1 0 0 [.ref 24] (shC Z) I A (ab_Px (shC Z) ab_no (ab_rv K)) := by
  refine ab_enter (ls := [some (.ref 24), none, none]) (by decide +kernel) (Nat.le_of_ble_eq_true rfl) rfl (fun C => ?_)
  unfold wX1_recordsBecomeCheckpoints at h
  refine g_iconst (n := 1) (v := (nI 0)) dX1_recordsBecomeCheckpoints_0 rfl rfl ?_
  refine g_istore_n (n := 2) (ls' := [some (.ref 24), some (.int (nI 0)), none]) dX1_recordsBecomeCheckpoints_1 rfl rfl (Nat.le_of_ble_eq_true rfl) (Nat.le_of_ble_eq_true rfl) rfl rfl ?_
  refine g_less (bc' := 0) (bs' := 0) (Nat.le_of_ble_eq_true rfl) (Nat.le_of_ble_eq_true rfl) ?_
  obtain ⟨n_f, h⟩ := h
  exact tlX1_recordsBecomeCheckpoints_2  n_f _ _ _ h
def wX1_addToLog (K : ab_F → ab_F → Prop) (I A : ab_F) (p0 : Int32) (p1 : Int32) (p2 : Int32) : Prop := (∀ y_1 : Int32, y_1 = (((I 24 3) - (I 24 3) / (nI 8) * (nI 8)) * (nI 4)) → (∃ j_2 : Nat, y_1 = nI j_2 ∧ j_2 < 32 ∧ (∃ j_3 : Nat, (y_1 + (nI 1)) = nI j_3 ∧ j_3 < 32 ∧ (∃ j_4 : Nat, (y_1 + (nI 2)) = nI j_4 ∧ j_4 < 32 ∧ (∃ j_5 : Nat, (y_1 + (nI 3)) = nI j_5 ∧ j_5 < 32 ∧ K (wr I 24 3 ((I 24 3) + (nI 1))) (wr (wr (wr (wr A 28 j_2 p0) 28 j_3 (I 24 0)) 28 j_4 p1) 28 j_5 p2))))))
set_option maxRecDepth 20000 in
theorem ctX1_addToLog {Z : ab_Z} {K : ab_F → ab_F → Prop} {I A : ab_F} {p0 : Int32} {p1 : Int32} {p2 : Int32} (h : wX1_addToLog K I A p0 p1 p2) : ab_Cl mX1_addToLog 0 0 0 [.ref 24, .int p0, .int p1, .int p2] (shC Z) I A (ab_Px (shC Z) ab_no (ab_rv K)) := by
  refine ab_enter (ls := [some (.ref 24), some (.int p0), some (.int p1), some (.int p2), none]) (by decide +kernel) (Nat.le_of_ble_eq_true rfl) rfl (fun C => ?_)
  unfold wX1_addToLog at h
  refine g_aload_n (n := 1) dX1_addToLog_0 rfl rfl rfl ?_
  refine g_getIE (n := 4) (k := 3) (x := (I 24 3)) dX1_addToLog_1 sC_24 vc_5 (Nat.le_of_ble_eq_true rfl) rfl w_347 rfl rfl ?_
  refine g_bipush (n := 6) (v := (nI 8)) dX1_addToLog_4 rfl rfl ?_
  refine g_irem (n := 7) dX1_addToLog_6 (by decide) rfl ?_
  refine g_iconst (n := 8) (v := (nI 4)) dX1_addToLog_7 rfl rfl ?_
  refine g_imul (n := 9) dX1_addToLog_8 rfl ?_
  refine g_topi (fun y_1 ey_1 => ?_)
  have h := h y_1 ey_1
  refine g_istore (n := 11) (ls' := [some (.ref 24), some (.int p0), some (.int p1), some (.int p2), some (.int y_1)]) dX1_addToLog_9 rfl (Nat.le_of_ble_eq_true rfl) (Nat.le_of_ble_eq_true rfl) rfl rfl ?_
  refine g_aload_n (n := 12) dX1_addToLog_11 rfl rfl rfl ?_
  refine g_getR (n := 15) (k := 7) dX1_addToLog_12 sC_24 vc_5 (Nat.le_of_ble_eq_true rfl) rfl w_357 rfl ?_
  refine g_iload (n := 17) dX1_addToLog_15 rfl rfl ?_
  refine g_iload_n (n := 18) dX1_addToLog_17 rfl rfl rfl ?_
  obtain ⟨j_2, hj, hl, h⟩ := h
  refine g_iastJ (n := 19) (j := j_2) dX1_addToLog_18 sC_28 hj hl (by decide) rfl ?_
  refine g_aload_n (n := 20) dX1_addToLog_19 rfl rfl rfl ?_
  refine g_getR (n := 23) (k := 7) dX1_addToLog_20 sC_24 vc_5 (Nat.le_of_ble_eq_true rfl) rfl w_357 rfl ?_
  refine g_iload (n := 25) dX1_addToLog_23 rfl rfl ?_
  refine g_iconst (n := 26) (v := (nI 1)) dX1_addToLog_25 rfl rfl ?_
  refine g_iadd (n := 27) dX1_addToLog_26 rfl ?_
  refine g_aload_n (n := 28) dX1_addToLog_27 rfl rfl rfl ?_
  refine g_getIE (n := 31) (k := 0) (x := (I 24 0)) dX1_addToLog_28 sC_24 vc_5 (Nat.le_of_ble_eq_true rfl) rfl w_339 rfl rfl ?_
  obtain ⟨j_3, hj, hl, h⟩ := h
  refine g_iastJ (n := 32) (j := j_3) dX1_addToLog_31 sC_28 hj hl (by decide) rfl ?_
  refine g_aload_n (n := 33) dX1_addToLog_32 rfl rfl rfl ?_
  refine g_getR (n := 36) (k := 7) dX1_addToLog_33 sC_24 vc_5 (Nat.le_of_ble_eq_true rfl) rfl w_357 rfl ?_
  refine g_iload (n := 38) dX1_addToLog_36 rfl rfl ?_
  refine g_iconst (n := 39) (v := (nI 2)) dX1_addToLog_38 rfl rfl ?_
  refine g_iadd (n := 40) dX1_addToLog_39 rfl ?_
  refine g_iload_n (n := 41) dX1_addToLog_40 rfl rfl rfl ?_
  obtain ⟨j_4, hj, hl, h⟩ := h
  refine g_iastJ (n := 42) (j := j_4) dX1_addToLog_41 sC_28 hj hl (by decide) rfl ?_
  refine g_aload_n (n := 43) dX1_addToLog_42 rfl rfl rfl ?_
  refine g_getR (n := 46) (k := 7) dX1_addToLog_43 sC_24 vc_5 (Nat.le_of_ble_eq_true rfl) rfl w_357 rfl ?_
  refine g_iload (n := 48) dX1_addToLog_46 rfl rfl ?_
  refine g_iconst (n := 49) (v := (nI 3)) dX1_addToLog_48 rfl rfl ?_
  refine g_iadd (n := 50) dX1_addToLog_49 rfl ?_
  refine g_iload_n (n := 51) dX1_addToLog_50 rfl rfl rfl ?_
  obtain ⟨j_5, hj, hl, h⟩ := h
  refine g_iastJ (n := 52) (j := j_5) dX1_addToLog_51 sC_28 hj hl (by decide) rfl ?_
  refine g_aload_n (n := 53) dX1_addToLog_52 rfl rfl rfl ?_
  refine g_dup (n := 54) dX1_addToLog_53 rfl rfl ?_
  refine g_getIE (n := 57) (k := 3) (x := (I 24 3)) dX1_addToLog_54 sC_24 vc_5 (Nat.le_of_ble_eq_true rfl) rfl w_347 rfl rfl ?_
  refine g_iconst (n := 58) (v := (nI 1)) dX1_addToLog_57 rfl rfl ?_
  refine g_iadd (n := 59) dX1_addToLog_58 rfl ?_
  refine g_putI (n := 62) (k := 3) dX1_addToLog_59 sC_24 vc_5 (Nat.le_of_ble_eq_true rfl) rfl w_347 rfl rfl rfl rfl rfl ?_
  exact g_vret rfl dX1_addToLog_62 ⟨rfl, rfl, h⟩
def wX1_countLogged (K : Int32 → ab_F → ab_F → Prop) (I A : ab_F)  : Prop := K (if (nI 8) < (I 24 3) then (nI 8) else (I 24 3)) I A
set_option maxRecDepth 20000 in
theorem ctX1_countLogged {Z : ab_Z} {K : Int32 → ab_F → ab_F → Prop} {I A : ab_F}  (h : wX1_countLogged K I A ) : ab_Cl mX1_countLogged 1 0 0 [.ref 24] (shC Z) I A (ab_Px (shC Z) ab_no (ab_ri K)) := by
  refine ab_enter (ls := [some (.ref 24)]) (by decide +kernel) (Nat.le_of_ble_eq_true rfl) rfl (fun C => ?_)
  unfold wX1_countLogged at h
  refine g_aload_n (n := 1) dX1_countLogged_0 rfl rfl rfl ?_
  refine g_getIE (n := 4) (k := 3) (x := (I 24 3)) dX1_countLogged_1 sC_24 vc_5 (Nat.le_of_ble_eq_true rfl) rfl w_347 rfl rfl ?_
  refine g_bipush (n := 6) (v := (nI 8)) dX1_countLogged_4 rfl rfl ?_
  refine g_mmin (n := 9) dX1_countLogged_6 w_1824 w_741 w_125 w_742 (Nat.le_of_ble_eq_true rfl) (Nat.le_of_ble_eq_true rfl) rfl ?_
  exact g_iret rfl rfl dX1_countLogged_9 ⟨rfl, _, rfl, h⟩
def wX1_logged (K : Int32 → ab_F → ab_F → Prop) (I A : ab_F) (p0 : Int32) (p1 : Int32) : Prop := (∃ j_1 : Nat, ((((((I 24 3) - (nI 1)) - p0) - (((I 24 3) - (nI 1)) - p0) / (nI 8) * (nI 8)) * (nI 4)) + p1) = nI j_1 ∧ j_1 < 32 ∧ K (A 28 j_1) I A)
set_option maxRecDepth 20000 in
theorem ctX1_logged {Z : ab_Z} {K : Int32 → ab_F → ab_F → Prop} {I A : ab_F} {p0 : Int32} {p1 : Int32} (h : wX1_logged K I A p0 p1) : ab_Cl mX1_logged 0 0 0 [.ref 24, .int p0, .int p1] (shC Z) I A (ab_Px (shC Z) ab_no (ab_ri K)) := by
  refine ab_enter (ls := [some (.ref 24), some (.int p0), some (.int p1)]) (by decide +kernel) (Nat.le_of_ble_eq_true rfl) rfl (fun C => ?_)
  unfold wX1_logged at h
  refine g_aload_n (n := 1) dX1_logged_0 rfl rfl rfl ?_
  refine g_getR (n := 4) (k := 7) dX1_logged_1 sC_24 vc_5 (Nat.le_of_ble_eq_true rfl) rfl w_357 rfl ?_
  refine g_aload_n (n := 5) dX1_logged_4 rfl rfl rfl ?_
  refine g_getIE (n := 8) (k := 3) (x := (I 24 3)) dX1_logged_5 sC_24 vc_5 (Nat.le_of_ble_eq_true rfl) rfl w_347 rfl rfl ?_
  refine g_iconst (n := 9) (v := (nI 1)) dX1_logged_8 rfl rfl ?_
  refine g_isub (n := 10) dX1_logged_9 rfl ?_
  refine g_iload_n (n := 11) dX1_logged_10 rfl rfl rfl ?_
  refine g_isub (n := 12) dX1_logged_11 rfl ?_
  refine g_bipush (n := 14) (v := (nI 8)) dX1_logged_12 rfl rfl ?_
  refine g_irem (n := 15) dX1_logged_14 (by decide) rfl ?_
  refine g_iconst (n := 16) (v := (nI 4)) dX1_logged_15 rfl rfl ?_
  refine g_imul (n := 17) dX1_logged_16 rfl ?_
  refine g_iload_n (n := 18) dX1_logged_17 rfl rfl rfl ?_
  refine g_iadd (n := 19) dX1_logged_18 rfl ?_
  obtain ⟨j_1, hj, hl, h⟩ := h
  refine g_ialdJ (n := 20) (j := j_1) (x := (A 28 j_1)) dX1_logged_19 sC_28 hj hl (by decide) rfl rfl ?_
  exact g_iret rfl rfl dX1_logged_20 ⟨rfl, _, rfl, h⟩
def wlX2_install_18 (K : ab_F → ab_F → Prop) : Nat → Int32 → ab_F → ab_F → Prop
  | 0, _, _, _ => False
  | n + 1, x2, I, A => (((nI 16) ≤ x2 → K I A) ∧ (¬ (nI 16) ≤ x2 → (∃ j_1 : Nat, x2 = nI j_1 ∧ j_1 < 16 ∧ (∃ j_2 : Nat, x2 = nI j_2 ∧ j_2 < 16 ∧ (∃ j_3 : Nat, x2 = nI j_3 ∧ j_3 < 16 ∧ (wlX2_install_18 K n) (x2 + nI 1) I (wr (wr (wr A 17 j_1 (-1 : Int32)) 18 j_2 (nI 0)) 19 j_3 (nI 0)))))))
def wX2_install (K : ab_F → ab_F → Prop) (I A : ab_F)  : Prop := (∃ nf : Nat, wlX2_install_18 K nf (nI 0) (wr (wr I 16 0 (I 3 3)) 16 1 (I 3 5)) A)
set_option maxRecDepth 20000 in
theorem tlX2_install_18 {C : ab_X} {Z : ab_Z} {K : ab_F → ab_F → Prop} : ∀ (n : Nat) (x2 : Int32) (I A : ab_F), wlX2_install_18 K n x2 I A → ab_G mX2_install 0 C (ab_Px (shC Z) ab_no (ab_rv K)) 18 [some (.ref 16), none, some (.int x2)] [] (shC Z) I A 0 0 := by
  intro n
  induction n with
  | zero => intro x2 I A h; exact h.elim
  | succ n hL18 =>
    intro x2 I A h
    rw [wlX2_install_18] at h
    refine g_iload_n (n := 19) dX2_install_18 rfl rfl rfl ?_
    refine g_bipush (n := 21) (v := (nI 16)) dX2_install_19 rfl rfl ?_
    refine g_icmp_ge (n := 24) 51 dX2_install_21 (by decide) rfl (fun hc => ?_) (fun hc => ?_)
    · have h := h.1 hc
      exact g_vret rfl dX2_install_51 ⟨rfl, rfl, h⟩
    · have h := h.2 hc
      refine g_aload_n (n := 25) dX2_install_24 rfl rfl rfl ?_
      refine g_getR (n := 28) (k := 2) dX2_install_25 sC_16 vc_6 (Nat.le_of_ble_eq_true rfl) rfl w_283 rfl ?_
      refine g_iload_n (n := 29) dX2_install_28 rfl rfl rfl ?_
      refine g_iconst (n := 30) (v := (-1 : Int32)) dX2_install_29 rfl rfl ?_
      obtain ⟨j_1, hj, hl, h⟩ := h
      refine g_iastJ (n := 31) (j := j_1) dX2_install_30 sC_17 hj hl (by decide) rfl ?_
      refine g_aload_n (n := 32) dX2_install_31 rfl rfl rfl ?_
      refine g_getR (n := 35) (k := 3) dX2_install_32 sC_16 vc_6 (Nat.le_of_ble_eq_true rfl) rfl w_286 rfl ?_
      refine g_iload_n (n := 36) dX2_install_35 rfl rfl rfl ?_
      refine g_iconst (n := 37) (v := (nI 0)) dX2_install_36 rfl rfl ?_
      obtain ⟨j_2, hj, hl, h⟩ := h
      refine g_iastJ (n := 38) (j := j_2) dX2_install_37 sC_18 hj hl (by decide) rfl ?_
      refine g_aload_n (n := 39) dX2_install_38 rfl rfl rfl ?_
      refine g_getR (n := 42) (k := 4) dX2_install_39 sC_16 vc_6 (Nat.le_of_ble_eq_true rfl) rfl w_289 rfl ?_
      refine g_iload_n (n := 43) dX2_install_42 rfl rfl rfl ?_
      refine g_iconst (n := 44) (v := (nI 0)) dX2_install_43 rfl rfl ?_
      obtain ⟨j_3, hj, hl, h⟩ := h
      refine g_iastJ (n := 45) (j := j_3) dX2_install_44 sC_19 hj hl (by decide) rfl ?_
      refine g_iinc (n := 48) (v := (x2 + nI 1)) (ls' := [some (.ref 16), none, some (.int (x2 + nI 1))]) dX2_install_45 rfl rfl rfl (Nat.le_of_ble_eq_true rfl) rfl rfl ?_
      refine g_goto 18 dX2_install_48 (by decide) ?_
      exact hL18 _ _ _ h
set_option maxRecDepth 20000 in
theorem ctX2_install {Z : ab_Z} {K : ab_F → ab_F → Prop} {I A : ab_F}  (h : wX2_install K I A ) : ab_Cl mX2_install 0 0 0 [.ref 16, .ref 3] (shC Z) I A (ab_Px (shC Z) ab_no (ab_rv K)) := by
  refine ab_enter (ls := [some (.ref 16), some (.ref 3), none]) (by decide +kernel) (Nat.le_of_ble_eq_true rfl) rfl (fun C => ?_)
  unfold wX2_install at h
  refine g_aload_n (n := 1) dX2_install_0 rfl rfl rfl ?_
  refine g_aload_n (n := 2) dX2_install_1 rfl rfl rfl ?_
  refine g_getIE (n := 5) (k := 3) (x := (I 3 3)) dX2_install_2 sC_3 vc_13 (Nat.le_of_ble_eq_true rfl) rfl w_182 rfl rfl ?_
  refine g_putI (n := 8) (k := 0) dX2_install_5 sC_16 vc_6 (Nat.le_of_ble_eq_true rfl) rfl w_277 rfl rfl rfl rfl rfl ?_
  refine g_aload_n (n := 9) dX2_install_8 rfl rfl rfl ?_
  refine g_aload_n (n := 10) dX2_install_9 rfl rfl rfl ?_
  refine g_getIE (n := 13) (k := 5) (x := (I 3 5)) dX2_install_10 sC_3 vc_13 (Nat.le_of_ble_eq_true rfl) rfl w_185 rfl rfl ?_
  refine g_putI (n := 16) (k := 1) dX2_install_13 sC_16 vc_6 (Nat.le_of_ble_eq_true rfl) rfl w_280 rfl rfl rfl rfl rfl ?_
  refine g_iconst (n := 17) (v := (nI 0)) dX2_install_16 rfl rfl ?_
  refine g_istore_n (n := 18) (ls' := [some (.ref 16), some (.ref 3), some (.int (nI 0))]) dX2_install_17 rfl rfl (Nat.le_of_ble_eq_true rfl) (Nat.le_of_ble_eq_true rfl) rfl rfl ?_
  refine g_forget (ls' := [some (.ref 16), none, some (.int (nI 0))]) (ab_fg rfl) ?_
  refine g_less (bc' := 0) (bs' := 0) (Nat.le_of_ble_eq_true rfl) (Nat.le_of_ble_eq_true rfl) ?_
  obtain ⟨n_f, h⟩ := h
  exact tlX2_install_18  n_f _ _ _ h
def wX2_hasFrame (K : Int32 → ab_F → ab_F → Prop) (I A : ab_F) (p0 : Int32) : Prop := ((p0 < 0 → K (nI 0) I A) ∧ (¬ p0 < 0 → (((I 16 0) ≤ p0 → K (nI 0) I A) ∧ (¬ (I 16 0) ≤ p0 → K (nI 1) I A))))
set_option maxRecDepth 20000 in
theorem ctX2_hasFrame {Z : ab_Z} {K : Int32 → ab_F → ab_F → Prop} {I A : ab_F} {p0 : Int32} (h : wX2_hasFrame K I A p0) : ab_Cl mX2_hasFrame 0 0 0 [.ref 16, .int p0] (shC Z) I A (ab_Px (shC Z) ab_no (ab_ri K)) := by
  refine ab_enter (ls := [some (.ref 16), some (.int p0)]) (by decide +kernel) (Nat.le_of_ble_eq_true rfl) rfl (fun C => ?_)
  unfold wX2_hasFrame at h
  refine g_iload_n (n := 1) dX2_hasFrame_0 rfl rfl rfl ?_
  refine g_if_lt (n := 4) 16 dX2_hasFrame_1 (by decide) rfl (fun hc => ?_) (fun hc => ?_)
  · have h := h.1 hc
    refine g_iconst (n := 17) (v := (nI 0)) dX2_hasFrame_16 rfl rfl ?_
    exact g_iret rfl rfl dX2_hasFrame_17 ⟨rfl, _, rfl, h⟩
  · have h := h.2 hc
    refine g_iload_n (n := 5) dX2_hasFrame_4 rfl rfl rfl ?_
    refine g_aload_n (n := 6) dX2_hasFrame_5 rfl rfl rfl ?_
    refine g_getIE (n := 9) (k := 0) (x := (I 16 0)) dX2_hasFrame_6 sC_16 vc_6 (Nat.le_of_ble_eq_true rfl) rfl w_277 rfl rfl ?_
    refine g_icmp_ge (n := 12) 16 dX2_hasFrame_9 (by decide) rfl (fun hc => ?_) (fun hc => ?_)
    · have h := h.1 hc
      refine g_iconst (n := 17) (v := (nI 0)) dX2_hasFrame_16 rfl rfl ?_
      exact g_iret rfl rfl dX2_hasFrame_17 ⟨rfl, _, rfl, h⟩
    · have h := h.2 hc
      refine g_iconst (n := 13) (v := (nI 1)) dX2_hasFrame_12 rfl rfl ?_
      refine g_goto 17 dX2_hasFrame_13 (by decide) ?_
      exact g_iret rfl rfl dX2_hasFrame_17 ⟨rfl, _, rfl, h⟩
def wlX2_firstFree_2 (K : Int32 → ab_F → ab_F → Prop) : Nat → Int32 → ab_F → ab_F → Prop
  | 0, _, _, _ => False
  | n + 1, x1, I, A => (((I 16 0) ≤ x1 → K (-1 : Int32) I A) ∧ (¬ (I 16 0) ≤ x1 → (∃ j_1 : Nat, x1 = nI j_1 ∧ j_1 < 16 ∧ ((¬ (A 17 j_1) = (-1 : Int32) → (wlX2_firstFree_2 K n) (x1 + nI 1) I A) ∧ ((A 17 j_1) = (-1 : Int32) → K x1 I A)))))
def wX2_firstFree (K : Int32 → ab_F → ab_F → Prop) (I A : ab_F)  : Prop := (∃ nf : Nat, wlX2_firstFree_2 K nf (nI 0) I A)
set_option maxRecDepth 20000 in
theorem tlX2_firstFree_2 {C : ab_X} {Z : ab_Z} {K : Int32 → ab_F → ab_F → Prop} : ∀ (n : Nat) (x1 : Int32) (I A : ab_F), wlX2_firstFree_2 K n x1 I A → ab_G mX2_firstFree 0 C (ab_Px (shC Z) ab_no (ab_ri K)) 2 [some (.ref 16), some (.int x1)] [] (shC Z) I A 0 0 := by
  intro n
  induction n with
  | zero => intro x1 I A h; exact h.elim
  | succ n hL2 =>
    intro x1 I A h
    rw [wlX2_firstFree_2] at h
    refine g_iload_n (n := 3) dX2_firstFree_2 rfl rfl rfl ?_
    refine g_aload_n (n := 4) dX2_firstFree_3 rfl rfl rfl ?_
    refine g_getIE (n := 7) (k := 0) (x := (I 16 0)) dX2_firstFree_4 sC_16 vc_6 (Nat.le_of_ble_eq_true rfl) rfl w_277 rfl rfl ?_
    refine g_icmp_ge (n := 10) 28 dX2_firstFree_7 (by decide) rfl (fun hc => ?_) (fun hc => ?_)
    · have h := h.1 hc
      refine g_iconst (n := 29) (v := (-1 : Int32)) dX2_firstFree_28 rfl rfl ?_
      exact g_iret rfl rfl dX2_firstFree_29 ⟨rfl, _, rfl, h⟩
    · have h := h.2 hc
      refine g_aload_n (n := 11) dX2_firstFree_10 rfl rfl rfl ?_
      refine g_getR (n := 14) (k := 2) dX2_firstFree_11 sC_16 vc_6 (Nat.le_of_ble_eq_true rfl) rfl w_283 rfl ?_
      refine g_iload_n (n := 15) dX2_firstFree_14 rfl rfl rfl ?_
      obtain ⟨j_1, hj, hl, h⟩ := h
      refine g_ialdJ (n := 16) (j := j_1) (x := (A 17 j_1)) dX2_firstFree_15 sC_17 hj hl (by decide) rfl rfl ?_
      refine g_iconst (n := 17) (v := (-1 : Int32)) dX2_firstFree_16 rfl rfl ?_
      refine g_icmp_ne (n := 20) 22 dX2_firstFree_17 (by decide) rfl (fun hc => ?_) (fun hc => ?_)
      · have h := h.1 hc
        refine g_iinc (n := 25) (v := (x1 + nI 1)) (ls' := [some (.ref 16), some (.int (x1 + nI 1))]) dX2_firstFree_22 rfl rfl rfl (Nat.le_of_ble_eq_true rfl) rfl rfl ?_
        refine g_goto 2 dX2_firstFree_25 (by decide) ?_
        exact hL2 _ _ _ h
      · have h := h.2 hc
        refine g_iload_n (n := 21) dX2_firstFree_20 rfl rfl rfl ?_
        exact g_iret rfl rfl dX2_firstFree_21 ⟨rfl, _, rfl, h⟩
set_option maxRecDepth 20000 in
theorem ctX2_firstFree {Z : ab_Z} {K : Int32 → ab_F → ab_F → Prop} {I A : ab_F}  (h : wX2_firstFree K I A ) : ab_Cl mX2_firstFree 0 0 0 [.ref 16] (shC Z) I A (ab_Px (shC Z) ab_no (ab_ri K)) := by
  refine ab_enter (ls := [some (.ref 16), none]) (by decide +kernel) (Nat.le_of_ble_eq_true rfl) rfl (fun C => ?_)
  unfold wX2_firstFree at h
  refine g_iconst (n := 1) (v := (nI 0)) dX2_firstFree_0 rfl rfl ?_
  refine g_istore_n (n := 2) (ls' := [some (.ref 16), some (.int (nI 0))]) dX2_firstFree_1 rfl rfl (Nat.le_of_ble_eq_true rfl) (Nat.le_of_ble_eq_true rfl) rfl rfl ?_
  refine g_less (bc' := 0) (bs' := 0) (Nat.le_of_ble_eq_true rfl) (Nat.le_of_ble_eq_true rfl) ?_
  obtain ⟨n_f, h⟩ := h
  exact tlX2_firstFree_2  n_f _ _ _ h
def wX3_accept (K : ab_F → ab_F → Prop) (I A : ab_F)  : Prop := K (wr (wr I 32 1 (((I 32 1) + (nI 1)) - ((I 32 1) + (nI 1)) / (nI 11) * (nI 11))) 32 2 (if (nI 10) < ((I 32 2) + (nI 1)) then (nI 10) else ((I 32 2) + (nI 1)))) A
set_option maxRecDepth 20000 in
theorem ctX3_accept {Z : ab_Z} {K : ab_F → ab_F → Prop} {I A : ab_F}  (h : wX3_accept K I A ) : ab_Cl mX3_accept 1 0 0 [.ref 32] (shC Z) I A (ab_Px (shC Z) ab_no (ab_rv K)) := by
  refine ab_enter (ls := [some (.ref 32)]) (by decide +kernel) (Nat.le_of_ble_eq_true rfl) rfl (fun C => ?_)
  unfold wX3_accept at h
  refine g_aload_n (n := 1) dX3_accept_0 rfl rfl rfl ?_
  refine g_aload_n (n := 2) dX3_accept_1 rfl rfl rfl ?_
  refine g_getIE (n := 5) (k := 1) (x := (I 32 1)) dX3_accept_2 sC_32 vc_7 (Nat.le_of_ble_eq_true rfl) rfl w_464 rfl rfl ?_
  refine g_iconst (n := 6) (v := (nI 1)) dX3_accept_5 rfl rfl ?_
  refine g_iadd (n := 7) dX3_accept_6 rfl ?_
  refine g_bipush (n := 9) (v := (nI 11)) dX3_accept_7 rfl rfl ?_
  refine g_irem (n := 10) dX3_accept_9 (by decide) rfl ?_
  refine g_putI (n := 13) (k := 1) dX3_accept_10 sC_32 vc_7 (Nat.le_of_ble_eq_true rfl) rfl w_464 rfl rfl rfl rfl rfl ?_
  refine g_aload_n (n := 14) dX3_accept_13 rfl rfl rfl ?_
  refine g_aload_n (n := 15) dX3_accept_14 rfl rfl rfl ?_
  refine g_getIE (n := 18) (k := 2) (x := (I 32 2)) dX3_accept_15 sC_32 vc_7 (Nat.le_of_ble_eq_true rfl) rfl w_465 rfl rfl ?_
  refine g_iconst (n := 19) (v := (nI 1)) dX3_accept_18 rfl rfl ?_
  refine g_iadd (n := 20) dX3_accept_19 rfl ?_
  refine g_bipush (n := 22) (v := (nI 10)) dX3_accept_20 rfl rfl ?_
  refine g_mmin (n := 25) dX3_accept_22 w_740 w_741 w_125 w_742 (Nat.le_of_ble_eq_true rfl) (Nat.le_of_ble_eq_true rfl) rfl ?_
  refine g_putI (n := 28) (k := 2) dX3_accept_25 sC_32 vc_7 (Nat.le_of_ble_eq_true rfl) rfl w_465 rfl rfl rfl rfl rfl ?_
  exact g_vret rfl dX3_accept_28 ⟨rfl, rfl, h⟩
def wX3_takeBack (K : ab_Z → ab_F → ab_F → Prop) (Z : ab_Z) (I A : ab_F)  : Prop := wX3_giveBack (fun Z_1 I_2 A_3 => K Z_1 I_2 A_3) Z (wr (wr I 32 1 (((I 32 1) + (nI 10)) - ((I 32 1) + (nI 10)) / (nI 11) * (nI 11))) 32 2 ((I 32 2) - (nI 1))) A 
set_option maxRecDepth 20000 in
theorem ctX3_takeBack {Z : ab_Z} {K : ab_Z → ab_F → ab_F → Prop} {I A : ab_F}  (h : wX3_takeBack K Z I A ) : ab_Cl mX3_takeBack 5 0 0 [.ref 32, .ref 8] (shC Z) I A (ab_Pz ab_noz (ab_zv K)) := by
  refine ab_enter (ls := [some (.ref 32), some (.ref 8)]) (by decide +kernel) (Nat.le_of_ble_eq_true rfl) rfl (fun C => ?_)
  unfold wX3_takeBack at h
  refine g_aload_n (n := 1) dX3_takeBack_0 rfl rfl rfl ?_
  refine g_aload_n (n := 2) dX3_takeBack_1 rfl rfl rfl ?_
  refine g_getIE (n := 5) (k := 1) (x := (I 32 1)) dX3_takeBack_2 sC_32 vc_7 (Nat.le_of_ble_eq_true rfl) rfl w_464 rfl rfl ?_
  refine g_bipush (n := 7) (v := (nI 10)) dX3_takeBack_5 rfl rfl ?_
  refine g_iadd (n := 8) dX3_takeBack_7 rfl ?_
  refine g_bipush (n := 10) (v := (nI 11)) dX3_takeBack_8 rfl rfl ?_
  refine g_irem (n := 11) dX3_takeBack_10 (by decide) rfl ?_
  refine g_putI (n := 14) (k := 1) dX3_takeBack_11 sC_32 vc_7 (Nat.le_of_ble_eq_true rfl) rfl w_464 rfl rfl rfl rfl rfl ?_
  refine g_aload_n (n := 15) dX3_takeBack_14 rfl rfl rfl ?_
  refine g_dup (n := 16) dX3_takeBack_15 rfl rfl ?_
  refine g_getIE (n := 19) (k := 2) (x := (I 32 2)) dX3_takeBack_16 sC_32 vc_7 (Nat.le_of_ble_eq_true rfl) rfl w_465 rfl rfl ?_
  refine g_iconst (n := 20) (v := (nI 1)) dX3_takeBack_19 rfl rfl ?_
  refine g_isub (n := 21) dX3_takeBack_20 rfl ?_
  refine g_putI (n := 24) (k := 2) dX3_takeBack_21 sC_32 vc_7 (Nat.le_of_ble_eq_true rfl) rfl w_465 rfl rfl rfl rfl rfl ?_
  refine g_aload_n (n := 25) dX3_takeBack_24 rfl rfl rfl ?_
  refine g_aload_n (n := 26) dX3_takeBack_25 rfl rfl rfl ?_
  refine g_callV (n := 29) (as := [.ref 8]) (bc' := 0) (bs' := 0) sC_32 vc_7 (ctX3_giveBack h) okX3_giveBack rfl w_1984 w_987 w_988 w_106 dX3_takeBack_26 rfl rfl (Nat.le_of_ble_eq_true rfl) (Nat.le_of_ble_eq_true rfl) (Nat.le_of_ble_eq_true rfl) (Nat.le_of_ble_eq_true rfl) rfl (fun E sh1 I1 A1 hp _ => hp.elim (fun _ q => q.2.elim)) (fun ro sh_ I_2 A_3 hp hle => ?_)
  obtain ⟨Z_1, rfl, rfl, h⟩ := hp
  exact g_vret rfl dX3_takeBack_29 ⟨_, rfl, rfl, h⟩
def wX3_forget (K : ab_F → ab_F → Prop) (I A : ab_F)  : Prop := K (wr I 32 2 (nI 0)) A
set_option maxRecDepth 20000 in
theorem ctX3_forget {Z : ab_Z} {K : ab_F → ab_F → Prop} {I A : ab_F}  (h : wX3_forget K I A ) : ab_Cl mX3_forget 0 0 0 [.ref 32] (shC Z) I A (ab_Px (shC Z) ab_no (ab_rv K)) := by
  refine ab_enter (ls := [some (.ref 32)]) (by decide +kernel) (Nat.le_of_ble_eq_true rfl) rfl (fun C => ?_)
  unfold wX3_forget at h
  refine g_aload_n (n := 1) dX3_forget_0 rfl rfl rfl ?_
  refine g_iconst (n := 2) (v := (nI 0)) dX3_forget_1 rfl rfl ?_
  refine g_putI (n := 5) (k := 2) dX3_forget_2 sC_32 vc_7 (Nat.le_of_ble_eq_true rfl) rfl w_465 rfl rfl rfl rfl rfl ?_
  exact g_vret rfl dX3_forget_5 ⟨rfl, rfl, h⟩
def wlX4_install_85 (K : ab_F → ab_F → Prop) : Nat → Int32 → ab_F → ab_F → Prop
  | 0, _, _, _ => False
  | n + 1, x2, I, A => (((nI 48) ≤ x2 → K I A) ∧ (¬ (nI 48) ≤ x2 → (∃ j_1 : Nat, x2 = nI j_1 ∧ j_1 < 48 ∧ (∃ j_2 : Nat, x2 = nI j_2 ∧ j_2 < 48 ∧ (∃ j_3 : Nat, x2 = nI j_3 ∧ j_3 < 48 ∧ (wlX4_install_85 K n) (x2 + nI 1) I (wr (wr (wr A 13 j_1 (nI 0)) 14 j_2 (-1 : Int32)) 15 j_3 (-1 : Int32)))))))
def wjX4_install_69 (K : ab_F → ab_F → Prop) (L10 : Int32 → ab_F → ab_F → Prop) (x2 : Int32) (s0 : Int32) (s1 : Int32) (I A : ab_F) : Prop := (∃ j_5 : Nat, s1 = nI j_5 ∧ j_5 < 6 ∧ (∃ j_6 : Nat, x2 = nI j_6 ∧ j_6 < 6 ∧ L10 (x2 + nI 1) I (wr (wr A 11 j_5 s0) 12 j_6 (nI 0))))
def wjX4_install_49 (K : ab_F → ab_F → Prop) (L10 : Int32 → ab_F → ab_F → Prop) (x2 : Int32) (x3 : Int32) (s0 : Int32) (s1 : Int32) (I A : ab_F) : Prop := (∃ j_4 : Nat, s1 = nI j_4 ∧ j_4 < 6 ∧ ((x3 = 0 → wjX4_install_69 K L10 x2 (nI 0) x2 I (wr A 10 j_4 s0)) ∧ (¬ x3 = 0 → (∃ j_7 : Nat, x2 = nI j_7 ∧ j_7 < 6 ∧ wjX4_install_69 K L10 x2 (A 4 j_7) x2 I (wr A 10 j_4 s0)))))
def wjX4_install_29 (K : ab_F → ab_F → Prop) (L10 : Int32 → ab_F → ab_F → Prop) (x2 : Int32) (s0 : Int32) (I A : ab_F) : Prop := ((s0 = 0 → wjX4_install_49 K L10 x2 s0 (nI 0) x2 I A) ∧ (¬ s0 = 0 → (∃ j_8 : Nat, x2 = nI j_8 ∧ j_8 < 6 ∧ wjX4_install_49 K L10 x2 s0 (A 5 j_8) x2 I A)))
def wlX4_install_10 (K : ab_F → ab_F → Prop) : Nat → Int32 → ab_F → ab_F → Prop
  | 0, _, _, _ => False
  | n + 1, x2, I, A => (((nI 6) ≤ x2 → (∃ nf : Nat, wlX4_install_85 K nf (nI 0) I A)) ∧ (¬ (nI 6) ≤ x2 → (((I 9 0) ≤ x2 → wjX4_install_29 K (wlX4_install_10 K n) x2 (nI 0) I A) ∧ (¬ (I 9 0) ≤ x2 → wjX4_install_29 K (wlX4_install_10 K n) x2 (nI 1) I A))))
def wX4_install (K : ab_F → ab_F → Prop) (I A : ab_F)  : Prop := (∃ nf : Nat, wlX4_install_10 K nf (nI 0) (wr I 9 0 (I 3 6)) A)
set_option maxRecDepth 20000 in
theorem tlX4_install_85 {C : ab_X} {Z : ab_Z} {K : ab_F → ab_F → Prop} : ∀ (n : Nat) (x2 : Int32) (I A : ab_F), wlX4_install_85 K n x2 I A → ab_G mX4_install 0 C (ab_Px (shC Z) ab_no (ab_rv K)) 85 [some (.ref 9), none, some (.int x2), none] [] (shC Z) I A 0 0 := by
  intro n
  induction n with
  | zero => intro x2 I A h; exact h.elim
  | succ n hL85 =>
    intro x2 I A h
    rw [wlX4_install_85] at h
    refine g_iload_n (n := 86) dX4_install_85 rfl rfl rfl ?_
    refine g_bipush (n := 88) (v := (nI 48)) dX4_install_86 rfl rfl ?_
    refine g_icmp_ge (n := 91) 118 dX4_install_88 (by decide) rfl (fun hc => ?_) (fun hc => ?_)
    · have h := h.1 hc
      exact g_vret rfl dX4_install_118 ⟨rfl, rfl, h⟩
    · have h := h.2 hc
      refine g_aload_n (n := 92) dX4_install_91 rfl rfl rfl ?_
      refine g_getR (n := 95) (k := 4) dX4_install_92 sC_9 vc_8 (Nat.le_of_ble_eq_true rfl) rfl w_247 rfl ?_
      refine g_iload_n (n := 96) dX4_install_95 rfl rfl rfl ?_
      refine g_iconst (n := 97) (v := (nI 0)) dX4_install_96 rfl rfl ?_
      obtain ⟨j_1, hj, hl, h⟩ := h
      refine g_iastJ (n := 98) (j := j_1) dX4_install_97 sC_13 hj hl (by decide) rfl ?_
      refine g_aload_n (n := 99) dX4_install_98 rfl rfl rfl ?_
      refine g_getR (n := 102) (k := 5) dX4_install_99 sC_9 vc_8 (Nat.le_of_ble_eq_true rfl) rfl w_250 rfl ?_
      refine g_iload_n (n := 103) dX4_install_102 rfl rfl rfl ?_
      refine g_iconst (n := 104) (v := (-1 : Int32)) dX4_install_103 rfl rfl ?_
      obtain ⟨j_2, hj, hl, h⟩ := h
      refine g_iastJ (n := 105) (j := j_2) dX4_install_104 sC_14 hj hl (by decide) rfl ?_
      refine g_aload_n (n := 106) dX4_install_105 rfl rfl rfl ?_
      refine g_getR (n := 109) (k := 6) dX4_install_106 sC_9 vc_8 (Nat.le_of_ble_eq_true rfl) rfl w_253 rfl ?_
      refine g_iload_n (n := 110) dX4_install_109 rfl rfl rfl ?_
      refine g_iconst (n := 111) (v := (-1 : Int32)) dX4_install_110 rfl rfl ?_
      obtain ⟨j_3, hj, hl, h⟩ := h
      refine g_iastJ (n := 112) (j := j_3) dX4_install_111 sC_15 hj hl (by decide) rfl ?_
      refine g_iinc (n := 115) (v := (x2 + nI 1)) (ls' := [some (.ref 9), none, some (.int (x2 + nI 1)), none]) dX4_install_112 rfl rfl rfl (Nat.le_of_ble_eq_true rfl) rfl rfl ?_
      refine g_goto 85 dX4_install_115 (by decide) ?_
      exact hL85 _ _ _ h
set_option maxRecDepth 20000 in
theorem tjX4_install_69 {C : ab_X} {Z : ab_Z} {K : ab_F → ab_F → Prop} {L10 : Int32 → ab_F → ab_F → Prop} (hL10 : ∀ (x2 : Int32) (I A : ab_F), L10 x2 I A → ab_G mX4_install 0 C (ab_Px (shC Z) ab_no (ab_rv K)) 10 [some (.ref 9), some (.ref 3), some (.int x2), none] [] (shC Z) I A 0 0) (x2 : Int32) (s0 : Int32) (s1 : Int32) (I A : ab_F) (h : wjX4_install_69 K L10 x2 s0 s1 I A) : ab_G mX4_install 0 C (ab_Px (shC Z) ab_no (ab_rv K)) 69 [some (.ref 9), some (.ref 3), some (.int x2), none] [.int s0, .int s1, .ref 11] (shC Z) I A 0 0 := by
  unfold wjX4_install_69 at h
  obtain ⟨j_5, hj, hl, h⟩ := h
  refine g_iastJ (n := 70) (j := j_5) dX4_install_69 sC_11 hj hl (by decide) rfl ?_
  refine g_aload_n (n := 71) dX4_install_70 rfl rfl rfl ?_
  refine g_getR (n := 74) (k := 3) dX4_install_71 sC_9 vc_8 (Nat.le_of_ble_eq_true rfl) rfl w_245 rfl ?_
  refine g_iload_n (n := 75) dX4_install_74 rfl rfl rfl ?_
  refine g_iconst (n := 76) (v := (nI 0)) dX4_install_75 rfl rfl ?_
  obtain ⟨j_6, hj, hl, h⟩ := h
  refine g_iastJ (n := 77) (j := j_6) dX4_install_76 sC_12 hj hl (by decide) rfl ?_
  refine g_iinc (n := 80) (v := (x2 + nI 1)) (ls' := [some (.ref 9), some (.ref 3), some (.int (x2 + nI 1)), none]) dX4_install_77 rfl rfl rfl (Nat.le_of_ble_eq_true rfl) rfl rfl ?_
  refine g_goto 10 dX4_install_80 (by decide) ?_
  exact hL10 _ _ _ h
set_option maxRecDepth 20000 in
theorem tjX4_install_49 {C : ab_X} {Z : ab_Z} {K : ab_F → ab_F → Prop} {L10 : Int32 → ab_F → ab_F → Prop} (hL10 : ∀ (x2 : Int32) (I A : ab_F), L10 x2 I A → ab_G mX4_install 0 C (ab_Px (shC Z) ab_no (ab_rv K)) 10 [some (.ref 9), some (.ref 3), some (.int x2), none] [] (shC Z) I A 0 0) (x2 : Int32) (x3 : Int32) (s0 : Int32) (s1 : Int32) (I A : ab_F) (h : wjX4_install_49 K L10 x2 x3 s0 s1 I A) : ab_G mX4_install 0 C (ab_Px (shC Z) ab_no (ab_rv K)) 49 [some (.ref 9), some (.ref 3), some (.int x2), some (.int x3)] [.int s0, .int s1, .ref 10] (shC Z) I A 0 0 := by
  unfold wjX4_install_49 at h
  obtain ⟨j_4, hj, hl, h⟩ := h
  refine g_iastJ (n := 50) (j := j_4) dX4_install_49 sC_10 hj hl (by decide) rfl ?_
  refine g_aload_n (n := 51) dX4_install_50 rfl rfl rfl ?_
  refine g_getR (n := 54) (k := 2) dX4_install_51 sC_9 vc_8 (Nat.le_of_ble_eq_true rfl) rfl w_243 rfl ?_
  refine g_iload_n (n := 55) dX4_install_54 rfl rfl rfl ?_
  refine g_iload_n (n := 56) dX4_install_55 rfl rfl rfl ?_
  refine g_if_eq (n := 59) 68 dX4_install_56 (by decide) rfl (fun hc => ?_) (fun hc => ?_)
  · have h := h.1 hc
    refine g_iconst (n := 69) (v := (nI 0)) dX4_install_68 rfl rfl ?_
    refine g_forget (ls' := [some (.ref 9), some (.ref 3), some (.int x2), none]) (ab_fg rfl) ?_
    refine g_less (bc' := 0) (bs' := 0) (Nat.le_of_ble_eq_true rfl) (Nat.le_of_ble_eq_true rfl) ?_
    exact tjX4_install_69 hL10 _ _ _ _ _ h
  · have h := h.2 hc
    refine g_aload_n (n := 60) dX4_install_59 rfl rfl rfl ?_
    refine g_getR (n := 63) (k := 7) dX4_install_60 sC_3 vc_13 (Nat.le_of_ble_eq_true rfl) rfl w_190 rfl ?_
    refine g_iload_n (n := 64) dX4_install_63 rfl rfl rfl ?_
    obtain ⟨j_7, hj, hl, h⟩ := h
    refine g_ialdJ (n := 65) (j := j_7) (x := (A 4 j_7)) dX4_install_64 sC_4 hj hl (by decide) rfl rfl ?_
    refine g_goto 69 dX4_install_65 (by decide) ?_
    refine g_forget (ls' := [some (.ref 9), some (.ref 3), some (.int x2), none]) (ab_fg rfl) ?_
    refine g_less (bc' := 0) (bs' := 0) (Nat.le_of_ble_eq_true rfl) (Nat.le_of_ble_eq_true rfl) ?_
    exact tjX4_install_69 hL10 _ _ _ _ _ h
set_option maxRecDepth 20000 in
theorem tjX4_install_29 {C : ab_X} {Z : ab_Z} {K : ab_F → ab_F → Prop} {L10 : Int32 → ab_F → ab_F → Prop} (hL10 : ∀ (x2 : Int32) (I A : ab_F), L10 x2 I A → ab_G mX4_install 0 C (ab_Px (shC Z) ab_no (ab_rv K)) 10 [some (.ref 9), some (.ref 3), some (.int x2), none] [] (shC Z) I A 0 0) (x2 : Int32) (s0 : Int32) (I A : ab_F) (h : wjX4_install_29 K L10 x2 s0 I A) : ab_G mX4_install 0 C (ab_Px (shC Z) ab_no (ab_rv K)) 29 [some (.ref 9), some (.ref 3), some (.int x2), none] [.int s0] (shC Z) I A 0 0 := by
  unfold wjX4_install_29 at h
  refine g_istore_n (n := 30) (ls' := [some (.ref 9), some (.ref 3), some (.int x2), some (.int s0)]) dX4_install_29 rfl rfl (Nat.le_of_ble_eq_true rfl) (Nat.le_of_ble_eq_true rfl) rfl rfl ?_
  refine g_aload_n (n := 31) dX4_install_30 rfl rfl rfl ?_
  refine g_getR (n := 34) (k := 1) dX4_install_31 sC_9 vc_8 (Nat.le_of_ble_eq_true rfl) rfl w_240 rfl ?_
  refine g_iload_n (n := 35) dX4_install_34 rfl rfl rfl ?_
  refine g_iload_n (n := 36) dX4_install_35 rfl rfl rfl ?_
  refine g_if_eq (n := 39) 48 dX4_install_36 (by decide) rfl (fun hc => ?_) (fun hc => ?_)
  · have h := h.1 hc
    refine g_iconst (n := 49) (v := (nI 0)) dX4_install_48 rfl rfl ?_
    refine g_less (bc' := 0) (bs' := 0) (Nat.le_of_ble_eq_true rfl) (Nat.le_of_ble_eq_true rfl) ?_
    exact tjX4_install_49 hL10 _ _ _ _ _ _ h
  · have h := h.2 hc
    refine g_aload_n (n := 40) dX4_install_39 rfl rfl rfl ?_
    refine g_getR (n := 43) (k := 8) dX4_install_40 sC_3 vc_13 (Nat.le_of_ble_eq_true rfl) rfl w_192 rfl ?_
    refine g_iload_n (n := 44) dX4_install_43 rfl rfl rfl ?_
    obtain ⟨j_8, hj, hl, h⟩ := h
    refine g_ialdJ (n := 45) (j := j_8) (x := (A 5 j_8)) dX4_install_44 sC_5 hj hl (by decide) rfl rfl ?_
    refine g_goto 49 dX4_install_45 (by decide) ?_
    refine g_less (bc' := 0) (bs' := 0) (Nat.le_of_ble_eq_true rfl) (Nat.le_of_ble_eq_true rfl) ?_
    exact tjX4_install_49 hL10 _ _ _ _ _ _ h
set_option maxRecDepth 20000 in
theorem tlX4_install_10 {C : ab_X} {Z : ab_Z} {K : ab_F → ab_F → Prop} : ∀ (n : Nat) (x2 : Int32) (I A : ab_F), wlX4_install_10 K n x2 I A → ab_G mX4_install 0 C (ab_Px (shC Z) ab_no (ab_rv K)) 10 [some (.ref 9), some (.ref 3), some (.int x2), none] [] (shC Z) I A 0 0 := by
  intro n
  induction n with
  | zero => intro x2 I A h; exact h.elim
  | succ n hL10 =>
    intro x2 I A h
    rw [wlX4_install_10] at h
    refine g_iload_n (n := 11) dX4_install_10 rfl rfl rfl ?_
    refine g_bipush (n := 13) (v := (nI 6)) dX4_install_11 rfl rfl ?_
    refine g_icmp_ge (n := 16) 83 dX4_install_13 (by decide) rfl (fun hc => ?_) (fun hc => ?_)
    · have h := h.1 hc
      refine g_iconst (n := 84) (v := (nI 0)) dX4_install_83 rfl rfl ?_
      refine g_istore_n (n := 85) (ls' := [some (.ref 9), some (.ref 3), some (.int (nI 0)), none]) dX4_install_84 rfl rfl (Nat.le_of_ble_eq_true rfl) (Nat.le_of_ble_eq_true rfl) rfl rfl ?_
      refine g_forget (ls' := [some (.ref 9), none, some (.int (nI 0)), none]) (ab_fg rfl) ?_
      refine g_less (bc' := 0) (bs' := 0) (Nat.le_of_ble_eq_true rfl) (Nat.le_of_ble_eq_true rfl) ?_
      obtain ⟨n_f, h⟩ := h
      exact tlX4_install_85  n_f _ _ _ h
    · have h := h.2 hc
      refine g_iload_n (n := 17) dX4_install_16 rfl rfl rfl ?_
      refine g_aload_n (n := 18) dX4_install_17 rfl rfl rfl ?_
      refine g_getIE (n := 21) (k := 0) (x := (I 9 0)) dX4_install_18 sC_9 vc_8 (Nat.le_of_ble_eq_true rfl) rfl w_237 rfl rfl ?_
      refine g_icmp_ge (n := 24) 28 dX4_install_21 (by decide) rfl (fun hc => ?_) (fun hc => ?_)
      · have h := h.1 hc
        refine g_iconst (n := 29) (v := (nI 0)) dX4_install_28 rfl rfl ?_
        refine g_less (bc' := 0) (bs' := 0) (Nat.le_of_ble_eq_true rfl) (Nat.le_of_ble_eq_true rfl) ?_
        exact tjX4_install_29 hL10 _ _ _ _ h
      · have h := h.2 hc
        refine g_iconst (n := 25) (v := (nI 1)) dX4_install_24 rfl rfl ?_
        refine g_goto 29 dX4_install_25 (by decide) ?_
        refine g_less (bc' := 0) (bs' := 0) (Nat.le_of_ble_eq_true rfl) (Nat.le_of_ble_eq_true rfl) ?_
        exact tjX4_install_29 hL10 _ _ _ _ h
set_option maxRecDepth 20000 in
theorem ctX4_install {Z : ab_Z} {K : ab_F → ab_F → Prop} {I A : ab_F}  (h : wX4_install K I A ) : ab_Cl mX4_install 0 0 0 [.ref 9, .ref 3] (shC Z) I A (ab_Px (shC Z) ab_no (ab_rv K)) := by
  refine ab_enter (ls := [some (.ref 9), some (.ref 3), none, none]) (by decide +kernel) (Nat.le_of_ble_eq_true rfl) rfl (fun C => ?_)
  unfold wX4_install at h
  refine g_aload_n (n := 1) dX4_install_0 rfl rfl rfl ?_
  refine g_aload_n (n := 2) dX4_install_1 rfl rfl rfl ?_
  refine g_getIE (n := 5) (k := 6) (x := (I 3 6)) dX4_install_2 sC_3 vc_13 (Nat.le_of_ble_eq_true rfl) rfl w_187 rfl rfl ?_
  refine g_putI (n := 8) (k := 0) dX4_install_5 sC_9 vc_8 (Nat.le_of_ble_eq_true rfl) rfl w_237 rfl rfl rfl rfl rfl ?_
  refine g_iconst (n := 9) (v := (nI 0)) dX4_install_8 rfl rfl ?_
  refine g_istore_n (n := 10) (ls' := [some (.ref 9), some (.ref 3), some (.int (nI 0)), none]) dX4_install_9 rfl rfl (Nat.le_of_ble_eq_true rfl) (Nat.le_of_ble_eq_true rfl) rfl rfl ?_
  refine g_less (bc' := 0) (bs' := 0) (Nat.le_of_ble_eq_true rfl) (Nat.le_of_ble_eq_true rfl) ?_
  obtain ⟨n_f, h⟩ := h
  exact tlX4_install_10  n_f _ _ _ h
def wX4_hasProcess (K : Int32 → ab_F → ab_F → Prop) (I A : ab_F) (p0 : Int32) : Prop := ((p0 < 0 → K (nI 0) I A) ∧ (¬ p0 < 0 → (((I 9 0) ≤ p0 → K (nI 0) I A) ∧ (¬ (I 9 0) ≤ p0 → K (nI 1) I A))))
set_option maxRecDepth 20000 in
theorem ctX4_hasProcess {Z : ab_Z} {K : Int32 → ab_F → ab_F → Prop} {I A : ab_F} {p0 : Int32} (h : wX4_hasProcess K I A p0) : ab_Cl mX4_hasProcess 0 0 0 [.ref 9, .int p0] (shC Z) I A (ab_Px (shC Z) ab_no (ab_ri K)) := by
  refine ab_enter (ls := [some (.ref 9), some (.int p0)]) (by decide +kernel) (Nat.le_of_ble_eq_true rfl) rfl (fun C => ?_)
  unfold wX4_hasProcess at h
  refine g_iload_n (n := 1) dX4_hasProcess_0 rfl rfl rfl ?_
  refine g_if_lt (n := 4) 16 dX4_hasProcess_1 (by decide) rfl (fun hc => ?_) (fun hc => ?_)
  · have h := h.1 hc
    refine g_iconst (n := 17) (v := (nI 0)) dX4_hasProcess_16 rfl rfl ?_
    exact g_iret rfl rfl dX4_hasProcess_17 ⟨rfl, _, rfl, h⟩
  · have h := h.2 hc
    refine g_iload_n (n := 5) dX4_hasProcess_4 rfl rfl rfl ?_
    refine g_aload_n (n := 6) dX4_hasProcess_5 rfl rfl rfl ?_
    refine g_getIE (n := 9) (k := 0) (x := (I 9 0)) dX4_hasProcess_6 sC_9 vc_8 (Nat.le_of_ble_eq_true rfl) rfl w_237 rfl rfl ?_
    refine g_icmp_ge (n := 12) 16 dX4_hasProcess_9 (by decide) rfl (fun hc => ?_) (fun hc => ?_)
    · have h := h.1 hc
      refine g_iconst (n := 17) (v := (nI 0)) dX4_hasProcess_16 rfl rfl ?_
      exact g_iret rfl rfl dX4_hasProcess_17 ⟨rfl, _, rfl, h⟩
    · have h := h.2 hc
      refine g_iconst (n := 13) (v := (nI 1)) dX4_hasProcess_12 rfl rfl ?_
      refine g_goto 17 dX4_hasProcess_13 (by decide) ?_
      exact g_iret rfl rfl dX4_hasProcess_17 ⟨rfl, _, rfl, h⟩
def wX4_hasPage (K : Int32 → ab_F → ab_F → Prop) (I A : ab_F) (p0 : Int32) (p1 : Int32) : Prop := wX4_hasProcess (fun r_3 I_1 A_2 => ((r_3 = 0 → K (nI 0) I_1 A_2) ∧ (¬ r_3 = 0 → ((p1 < 0 → K (nI 0) I_1 A_2) ∧ (¬ p1 < 0 → (∃ j_4 : Nat, p0 = nI j_4 ∧ j_4 < 6 ∧ (((A_2 10 j_4) ≤ p1 → K (nI 0) I_1 A_2) ∧ (¬ (A_2 10 j_4) ≤ p1 → K (nI 1) I_1 A_2)))))))) I A p0
set_option maxRecDepth 20000 in
theorem ctX4_hasPage {Z : ab_Z} {K : Int32 → ab_F → ab_F → Prop} {I A : ab_F} {p0 : Int32} {p1 : Int32} (h : wX4_hasPage K I A p0 p1) : ab_Cl mX4_hasPage 1 0 0 [.ref 9, .int p0, .int p1] (shC Z) I A (ab_Px (shC Z) ab_no (ab_ri K)) := by
  refine ab_enter (ls := [some (.ref 9), some (.int p0), some (.int p1)]) (by decide +kernel) (Nat.le_of_ble_eq_true rfl) rfl (fun C => ?_)
  unfold wX4_hasPage at h
  refine g_aload_n (n := 1) dX4_hasPage_0 rfl rfl rfl ?_
  refine g_iload_n (n := 2) dX4_hasPage_1 rfl rfl rfl ?_
  refine g_callV (n := 5) (as := [.int p0]) (bc' := 0) (bs' := 0) sC_9 vc_8 (ctX4_hasProcess h) okX4_hasProcess rfl w_814 w_815 w_816 w_101 dX4_hasPage_2 rfl rfl (Nat.le_of_ble_eq_true rfl) (Nat.le_of_ble_eq_true rfl) (Nat.le_of_ble_eq_true rfl) (Nat.le_of_ble_eq_true rfl) rfl (fun E sh1 I1 A1 hp _ => hp.2.elim) (fun ro sh_ I_1 A_2 hp hle => ?_)
  obtain ⟨rfl, r_3, rfl, h⟩ := hp
  refine g_if_eq (n := 8) 26 dX4_hasPage_5 (by decide) rfl (fun hc => ?_) (fun hc => ?_)
  · have h := h.1 hc
    refine g_iconst (n := 27) (v := (nI 0)) dX4_hasPage_26 rfl rfl ?_
    exact g_iret rfl rfl dX4_hasPage_27 ⟨rfl, _, rfl, h⟩
  · have h := h.2 hc
    refine g_iload_n (n := 9) dX4_hasPage_8 rfl rfl rfl ?_
    refine g_if_lt (n := 12) 26 dX4_hasPage_9 (by decide) rfl (fun hc => ?_) (fun hc => ?_)
    · have h := h.1 hc
      refine g_iconst (n := 27) (v := (nI 0)) dX4_hasPage_26 rfl rfl ?_
      exact g_iret rfl rfl dX4_hasPage_27 ⟨rfl, _, rfl, h⟩
    · have h := h.2 hc
      refine g_iload_n (n := 13) dX4_hasPage_12 rfl rfl rfl ?_
      refine g_aload_n (n := 14) dX4_hasPage_13 rfl rfl rfl ?_
      refine g_getR (n := 17) (k := 1) dX4_hasPage_14 sC_9 vc_8 (Nat.le_of_ble_eq_true rfl) rfl w_240 rfl ?_
      refine g_iload_n (n := 18) dX4_hasPage_17 rfl rfl rfl ?_
      obtain ⟨j_4, hj, hl, h⟩ := h
      refine g_ialdJ (n := 19) (j := j_4) (x := (A_2 10 j_4)) dX4_hasPage_18 sC_10 hj hl (by decide) rfl rfl ?_
      refine g_icmp_ge (n := 22) 26 dX4_hasPage_19 (by decide) rfl (fun hc => ?_) (fun hc => ?_)
      · have h := h.1 hc
        refine g_iconst (n := 27) (v := (nI 0)) dX4_hasPage_26 rfl rfl ?_
        exact g_iret rfl rfl dX4_hasPage_27 ⟨rfl, _, rfl, h⟩
      · have h := h.2 hc
        refine g_iconst (n := 23) (v := (nI 1)) dX4_hasPage_22 rfl rfl ?_
        refine g_goto 27 dX4_hasPage_23 (by decide) ?_
        exact g_iret rfl rfl dX4_hasPage_27 ⟨rfl, _, rfl, h⟩
