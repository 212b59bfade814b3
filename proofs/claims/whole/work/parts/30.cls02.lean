def wX10_firstToken (K : ab_F → ab_F → Prop) (I A : ab_F)  : Prop := wX10_nextToken (fun I_1 A_2 => K I_1 A_2) (wr I 1 3 (nI 0)) A 
set_option maxRecDepth 20000 in
theorem ctX10_firstToken {Z : ab_Z} {K : ab_F → ab_F → Prop} {I A : ab_F}  (h : wX10_firstToken K I A ) : ab_Cl mX10_firstToken 2 0 0 [.ref 1] (shC Z) I A (ab_Px (shC Z) ab_no (ab_rv K)) := by
  refine ab_enter (ls := [some (.ref 1)]) (by decide +kernel) (Nat.le_of_ble_eq_true rfl) rfl (fun C => ?_)
  unfold wX10_firstToken at h
  refine g_aload_n (n := 1) dX10_firstToken_0 rfl rfl rfl ?_
  refine g_iconst (n := 2) (v := (nI 0)) dX10_firstToken_1 rfl rfl ?_
  refine g_putI (n := 5) (k := 3) dX10_firstToken_2 sC_1 vc_14 (Nat.le_of_ble_eq_true rfl) rfl w_154 rfl rfl rfl rfl rfl ?_
  refine g_aload_n (n := 6) dX10_firstToken_5 rfl rfl rfl ?_
  refine g_callV (n := 9) (as := []) (bc' := 0) (bs' := 0) sC_1 vc_14 (ctX10_nextToken h) okX10_nextToken rfl w_569 w_570 w_571 w_97 dX10_firstToken_6 rfl rfl (Nat.le_of_ble_eq_true rfl) (Nat.le_of_ble_eq_true rfl) (Nat.le_of_ble_eq_true rfl) (Nat.le_of_ble_eq_true rfl) rfl (fun E sh1 I1 A1 hp _ => hp.2.elim) (fun ro sh_ I_1 A_2 hp hle => ?_)
  obtain ⟨rfl, rfl, h⟩ := hp
  exact g_vret rfl dX10_firstToken_9 ⟨rfl, rfl, h⟩
def wlX10_isWord_28 (K : Int32 → ab_F → ab_F → Prop) : Nat → Nat → Int32 → ab_F → ab_F → Prop
  | 0, _, _, _, _ => False
  | n + 1, x1, x2, I, A => wJ0_length_8abf5 (fun r_6 I_4 A_5 => ((r_6 ≤ x2 → K (nI 1) I_4 A_5) ∧ (¬ r_6 ≤ x2 → (∃ j_7 : Nat, ((I_4 1 2) + x2) = nI j_7 ∧ j_7 < 400 ∧ wJ0_charAt_5068e (fun r_10 I_8 A_9 => (((A_5 2 j_7) = r_10 → (wlX10_isWord_28 K n) x1 (x2 + nI 1) I_8 A_9) ∧ (¬ (A_5 2 j_7) = r_10 → K (nI 0) I_8 A_9))) I_4 A_5 x1 x2)))) I A x1
def wX10_isWord (K : Int32 → ab_F → ab_F → Prop) (I A : ab_F) (p0 : Nat) : Prop := ((¬ (I 1 4) = (nI 1) → K (nI 0) I A) ∧ ((I 1 4) = (nI 1) → wJ0_length_8abf5 (fun r_3 I_1 A_2 => ((((I 1 3) - (I 1 2)) = r_3 → (∃ nf : Nat, wlX10_isWord_28 K nf p0 (nI 0) I_1 A_2)) ∧ (¬ ((I 1 3) - (I 1 2)) = r_3 → K (nI 0) I_1 A_2))) I A p0))
set_option maxRecDepth 20000 in
theorem tlX10_isWord_28 {C : ab_X} {Z : ab_Z} {K : Int32 → ab_F → ab_F → Prop} : ∀ (n : Nat) (x1 : Nat) (x2 : Int32) (I A : ab_F), wlX10_isWord_28 K n x1 x2 I A → ab_G mX10_isWord 6 C (ab_Px (shC Z) ab_no (ab_ri K)) 28 [some (.ref 1), some (.retAddr (2 * x1)), some (.int x2)] [] (shC Z) I A 0 0 := by
  intro n
  induction n with
  | zero => intro x1 x2 I A h; exact h.elim
  | succ n hL28 =>
    intro x1 x2 I A h
    rw [wlX10_isWord_28] at h
    refine g_iload_n (n := 29) dX10_isWord_28 rfl rfl rfl ?_
    refine g_aload_nK (n := 30) (x := 2 * x1) dX10_isWord_29 rfl rfl rfl ?_
    refine g_callVK (i := x1) (n := 33) (as := []) (bc' := 0) (bs' := 0) (ab_kq h.1) (ctJ0_length_8abf5 h) okJ0_length_8abf5 rfl w_585 w_586 w_587 w_110 dX10_isWord_30 rfl rfl (Nat.le_of_ble_eq_true rfl) (Nat.le_of_ble_eq_true rfl) (Nat.le_of_ble_eq_true rfl) (Nat.le_of_ble_eq_true rfl) rfl (fun E sh1 I1 A1 hp _ => hp.2.elim) (fun ro sh_ I_4 A_5 hp hle => ?_)
    obtain ⟨rfl, r_6, rfl, h⟩ := hp
    refine g_icmp_ge (n := 36) 63 dX10_isWord_33 (by decide) rfl (fun hc => ?_) (fun hc => ?_)
    · have h := h.1 hc
      refine g_iconst (n := 64) (v := (nI 1)) dX10_isWord_63 rfl rfl ?_
      exact g_iret rfl rfl dX10_isWord_64 ⟨rfl, _, rfl, h⟩
    · have h := h.2 hc
      refine g_aload_n (n := 37) dX10_isWord_36 rfl rfl rfl ?_
      refine g_getR (n := 40) (k := 0) dX10_isWord_37 sC_1 vc_14 (Nat.le_of_ble_eq_true rfl) rfl w_148 rfl ?_
      refine g_aload_n (n := 41) dX10_isWord_40 rfl rfl rfl ?_
      refine g_getIE (n := 44) (k := 2) (x := (I_4 1 2)) dX10_isWord_41 sC_1 vc_14 (Nat.le_of_ble_eq_true rfl) rfl w_152 rfl rfl ?_
      refine g_iload_n (n := 45) dX10_isWord_44 rfl rfl rfl ?_
      refine g_iadd (n := 46) dX10_isWord_45 rfl ?_
      obtain ⟨j_7, hj, hl, h⟩ := h
      refine g_ialdJ (n := 47) (j := j_7) (x := (A_5 2 j_7)) dX10_isWord_46 sC_2 hj hl (by decide) rfl rfl ?_
      refine g_aload_nK (n := 48) (x := 2 * x1) dX10_isWord_47 rfl rfl rfl ?_
      refine g_iload_n (n := 49) dX10_isWord_48 rfl rfl rfl ?_
      refine g_callVK (i := x1) (n := 52) (as := [.int x2]) (bc' := 0) (bs' := 0) (ab_kq h.1) (ctJ0_charAt_5068e h) okJ0_charAt_5068e rfl w_594 w_595 w_596 w_110 dX10_isWord_49 rfl rfl (Nat.le_of_ble_eq_true rfl) (Nat.le_of_ble_eq_true rfl) (Nat.le_of_ble_eq_true rfl) (Nat.le_of_ble_eq_true rfl) rfl (fun E sh1 I1 A1 hp _ => hp.2.elim) (fun ro sh_ I_8 A_9 hp hle => ?_)
      obtain ⟨rfl, r_10, rfl, h⟩ := hp
      refine g_icmp_eq (n := 55) 57 dX10_isWord_52 (by decide) rfl (fun hc => ?_) (fun hc => ?_)
      · have h := h.1 hc
        refine g_iinc (n := 60) (v := (x2 + nI 1)) (ls' := [some (.ref 1), some (.retAddr (2 * x1)), some (.int (x2 + nI 1))]) dX10_isWord_57 rfl rfl rfl (Nat.le_of_ble_eq_true rfl) rfl rfl ?_
        refine g_goto 28 dX10_isWord_60 (by decide) ?_
        exact hL28 _ _ _ _ h
      · have h := h.2 hc
        refine g_iconst (n := 56) (v := (nI 0)) dX10_isWord_55 rfl rfl ?_
        exact g_iret rfl rfl dX10_isWord_56 ⟨rfl, _, rfl, h⟩
set_option maxRecDepth 20000 in
theorem ctX10_isWord {Z : ab_Z} {K : Int32 → ab_F → ab_F → Prop} {I A : ab_F} {p0 : Nat} (h : wX10_isWord K I A p0) : ab_Cl mX10_isWord 6 0 0 [.ref 1, .retAddr (2 * p0)] (shC Z) I A (ab_Px (shC Z) ab_no (ab_ri K)) := by
  refine ab_enter (ls := [some (.ref 1), some (.retAddr (2 * p0)), none]) (by decide +kernel) (Nat.le_of_ble_eq_true rfl) rfl (fun C => ?_)
  unfold wX10_isWord at h
  refine g_aload_n (n := 1) dX10_isWord_0 rfl rfl rfl ?_
  refine g_getIE (n := 4) (k := 4) (x := (I 1 4)) dX10_isWord_1 sC_1 vc_14 (Nat.le_of_ble_eq_true rfl) rfl w_157 rfl rfl ?_
  refine g_iconst (n := 5) (v := (nI 1)) dX10_isWord_4 rfl rfl ?_
  refine g_icmp_ne (n := 8) 24 dX10_isWord_5 (by decide) rfl (fun hc => ?_) (fun hc => ?_)
  · have h := h.1 hc
    refine g_iconst (n := 25) (v := (nI 0)) dX10_isWord_24 rfl rfl ?_
    exact g_iret rfl rfl dX10_isWord_25 ⟨rfl, _, rfl, h⟩
  · have h := h.2 hc
    refine g_aload_n (n := 9) dX10_isWord_8 rfl rfl rfl ?_
    refine g_getIE (n := 12) (k := 3) (x := (I 1 3)) dX10_isWord_9 sC_1 vc_14 (Nat.le_of_ble_eq_true rfl) rfl w_154 rfl rfl ?_
    refine g_aload_n (n := 13) dX10_isWord_12 rfl rfl rfl ?_
    refine g_getIE (n := 16) (k := 2) (x := (I 1 2)) dX10_isWord_13 sC_1 vc_14 (Nat.le_of_ble_eq_true rfl) rfl w_152 rfl rfl ?_
    refine g_isub (n := 17) dX10_isWord_16 rfl ?_
    refine g_aload_nK (n := 18) (x := 2 * p0) dX10_isWord_17 rfl rfl rfl ?_
    refine g_callVK (i := p0) (n := 21) (as := []) (bc' := 0) (bs' := 0) (ab_kq h.1) (ctJ0_length_8abf5 h) okJ0_length_8abf5 rfl w_585 w_586 w_587 w_110 dX10_isWord_18 rfl rfl (Nat.le_of_ble_eq_true rfl) (Nat.le_of_ble_eq_true rfl) (Nat.le_of_ble_eq_true rfl) (Nat.le_of_ble_eq_true rfl) rfl (fun E sh1 I1 A1 hp _ => hp.2.elim) (fun ro sh_ I_1 A_2 hp hle => ?_)
    obtain ⟨rfl, r_3, rfl, h⟩ := hp
    refine g_icmp_eq (n := 24) 26 dX10_isWord_21 (by decide) rfl (fun hc => ?_) (fun hc => ?_)
    · have h := h.1 hc
      refine g_iconst (n := 27) (v := (nI 0)) dX10_isWord_26 rfl rfl ?_
      refine g_istore_n (n := 28) (ls' := [some (.ref 1), some (.retAddr (2 * p0)), some (.int (nI 0))]) dX10_isWord_27 rfl rfl (Nat.le_of_ble_eq_true rfl) (Nat.le_of_ble_eq_true rfl) rfl rfl ?_
      refine g_less (bc' := 0) (bs' := 0) (Nat.le_of_ble_eq_true rfl) (Nat.le_of_ble_eq_true rfl) ?_
      obtain ⟨n_f, h⟩ := h
      exact tlX10_isWord_28  n_f _ _ _ _ h
    · have h := h.2 hc
      refine g_iconst (n := 25) (v := (nI 0)) dX10_isWord_24 rfl rfl ?_
      exact g_iret rfl rfl dX10_isWord_25 ⟨rfl, _, rfl, h⟩
def wX6_operationHere (K : Int32 → ab_F → ab_F → Prop) (I A : ab_F)  : Prop := wX10_isWord (fun r_3 I_1 A_2 => ((r_3 = 0 → wX10_isWord (fun r_6 I_4 A_5 => ((r_6 = 0 → wX10_isWord (fun r_9 I_7 A_8 => ((r_9 = 0 → wX10_isWord (fun r_12 I_10 A_11 => ((r_12 = 0 → wX10_isWord (fun r_15 I_13 A_14 => ((r_15 = 0 → wX10_isWord (fun r_18 I_16 A_17 => ((r_18 = 0 → wX10_isWord (fun r_21 I_19 A_20 => ((r_21 = 0 → wX10_isWord (fun r_24 I_22 A_23 => ((r_24 = 0 → wX10_isWord (fun r_27 I_25 A_26 => ((r_27 = 0 → K (-1 : Int32) I_25 A_26) ∧ (¬ r_27 = 0 → K (nI 8) I_25 A_26))) I_22 A_23 16) ∧ (¬ r_24 = 0 → K (nI 7) I_22 A_23))) I_19 A_20 15) ∧ (¬ r_21 = 0 → K (nI 6) I_19 A_20))) I_16 A_17 14) ∧ (¬ r_18 = 0 → K (nI 5) I_16 A_17))) I_13 A_14 13) ∧ (¬ r_15 = 0 → K (nI 4) I_13 A_14))) I_10 A_11 12) ∧ (¬ r_12 = 0 → K (nI 3) I_10 A_11))) I_7 A_8 11) ∧ (¬ r_9 = 0 → K (nI 2) I_7 A_8))) I_4 A_5 10) ∧ (¬ r_6 = 0 → K (nI 1) I_4 A_5))) I_1 A_2 9) ∧ (¬ r_3 = 0 → K (nI 0) I_1 A_2))) I A 8
set_option maxRecDepth 20000 in
theorem ctX6_operationHere {Z : ab_Z} {K : Int32 → ab_F → ab_F → Prop} {I A : ab_F}  (h : wX6_operationHere K I A ) : ab_Cl mX6_operationHere 7 0 0 [.ref 6] (shC Z) I A (ab_Px (shC Z) ab_no (ab_ri K)) := by
  refine ab_enter (ls := [some (.ref 6)]) (by decide +kernel) (Nat.le_of_ble_eq_true rfl) rfl (fun C => ?_)
  unfold wX6_operationHere at h
  refine g_aload_n (n := 1) dX6_operationHere_0 rfl rfl rfl ?_
  refine g_getR (n := 4) (k := 0) dX6_operationHere_1 sC_6 vc_10 (Nat.le_of_ble_eq_true rfl) rfl w_218 rfl ?_
  refine g_ldcS (n := 6) (i := 8) dX6_operationHere_4 rfl rfl ?_
  refine g_callV (n := 9) (as := [.retAddr (2 * 8)]) (bc' := 0) (bs' := 0) sC_1 vc_14 (ctX10_isWord h) okX10_isWord rfl w_785 w_582 w_583 w_97 dX6_operationHere_6 rfl rfl (Nat.le_of_ble_eq_true rfl) (Nat.le_of_ble_eq_true rfl) (Nat.le_of_ble_eq_true rfl) (Nat.le_of_ble_eq_true rfl) rfl (fun E sh1 I1 A1 hp _ => hp.2.elim) (fun ro sh_ I_1 A_2 hp hle => ?_)
  obtain ⟨rfl, r_3, rfl, h⟩ := hp
  refine g_if_eq (n := 12) 14 dX6_operationHere_9 (by decide) rfl (fun hc => ?_) (fun hc => ?_)
  · have h := h.1 hc
    refine g_aload_n (n := 15) dX6_operationHere_14 rfl rfl rfl ?_
    refine g_getR (n := 18) (k := 0) dX6_operationHere_15 sC_6 vc_10 (Nat.le_of_ble_eq_true rfl) rfl w_218 rfl ?_
    refine g_ldcS (n := 20) (i := 9) dX6_operationHere_18 rfl rfl ?_
    refine g_callV (n := 23) (as := [.retAddr (2 * 9)]) (bc' := 0) (bs' := 0) sC_1 vc_14 (ctX10_isWord h) okX10_isWord rfl w_785 w_582 w_583 w_97 dX6_operationHere_20 rfl rfl (Nat.le_of_ble_eq_true rfl) (Nat.le_of_ble_eq_true rfl) (Nat.le_of_ble_eq_true rfl) (Nat.le_of_ble_eq_true rfl) rfl (fun E sh1 I1 A1 hp _ => hp.2.elim) (fun ro sh_ I_4 A_5 hp hle => ?_)
    obtain ⟨rfl, r_6, rfl, h⟩ := hp
    refine g_if_eq (n := 26) 28 dX6_operationHere_23 (by decide) rfl (fun hc => ?_) (fun hc => ?_)
    · have h := h.1 hc
      refine g_aload_n (n := 29) dX6_operationHere_28 rfl rfl rfl ?_
      refine g_getR (n := 32) (k := 0) dX6_operationHere_29 sC_6 vc_10 (Nat.le_of_ble_eq_true rfl) rfl w_218 rfl ?_
      refine g_ldcS (n := 34) (i := 10) dX6_operationHere_32 rfl rfl ?_
      refine g_callV (n := 37) (as := [.retAddr (2 * 10)]) (bc' := 0) (bs' := 0) sC_1 vc_14 (ctX10_isWord h) okX10_isWord rfl w_785 w_582 w_583 w_97 dX6_operationHere_34 rfl rfl (Nat.le_of_ble_eq_true rfl) (Nat.le_of_ble_eq_true rfl) (Nat.le_of_ble_eq_true rfl) (Nat.le_of_ble_eq_true rfl) rfl (fun E sh1 I1 A1 hp _ => hp.2.elim) (fun ro sh_ I_7 A_8 hp hle => ?_)
      obtain ⟨rfl, r_9, rfl, h⟩ := hp
      refine g_if_eq (n := 40) 42 dX6_operationHere_37 (by decide) rfl (fun hc => ?_) (fun hc => ?_)
      · have h := h.1 hc
        refine g_aload_n (n := 43) dX6_operationHere_42 rfl rfl rfl ?_
        refine g_getR (n := 46) (k := 0) dX6_operationHere_43 sC_6 vc_10 (Nat.le_of_ble_eq_true rfl) rfl w_218 rfl ?_
        refine g_ldcS (n := 48) (i := 11) dX6_operationHere_46 rfl rfl ?_
        refine g_callV (n := 51) (as := [.retAddr (2 * 11)]) (bc' := 0) (bs' := 0) sC_1 vc_14 (ctX10_isWord h) okX10_isWord rfl w_785 w_582 w_583 w_97 dX6_operationHere_48 rfl rfl (Nat.le_of_ble_eq_true rfl) (Nat.le_of_ble_eq_true rfl) (Nat.le_of_ble_eq_true rfl) (Nat.le_of_ble_eq_true rfl) rfl (fun E sh1 I1 A1 hp _ => hp.2.elim) (fun ro sh_ I_10 A_11 hp hle => ?_)
        obtain ⟨rfl, r_12, rfl, h⟩ := hp
        refine g_if_eq (n := 54) 56 dX6_operationHere_51 (by decide) rfl (fun hc => ?_) (fun hc => ?_)
        · have h := h.1 hc
          refine g_aload_n (n := 57) dX6_operationHere_56 rfl rfl rfl ?_
          refine g_getR (n := 60) (k := 0) dX6_operationHere_57 sC_6 vc_10 (Nat.le_of_ble_eq_true rfl) rfl w_218 rfl ?_
          refine g_ldcS (n := 62) (i := 12) dX6_operationHere_60 rfl rfl ?_
          refine g_callV (n := 65) (as := [.retAddr (2 * 12)]) (bc' := 0) (bs' := 0) sC_1 vc_14 (ctX10_isWord h) okX10_isWord rfl w_785 w_582 w_583 w_97 dX6_operationHere_62 rfl rfl (Nat.le_of_ble_eq_true rfl) (Nat.le_of_ble_eq_true rfl) (Nat.le_of_ble_eq_true rfl) (Nat.le_of_ble_eq_true rfl) rfl (fun E sh1 I1 A1 hp _ => hp.2.elim) (fun ro sh_ I_13 A_14 hp hle => ?_)
          obtain ⟨rfl, r_15, rfl, h⟩ := hp
          refine g_if_eq (n := 68) 70 dX6_operationHere_65 (by decide) rfl (fun hc => ?_) (fun hc => ?_)
          · have h := h.1 hc
            refine g_aload_n (n := 71) dX6_operationHere_70 rfl rfl rfl ?_
            refine g_getR (n := 74) (k := 0) dX6_operationHere_71 sC_6 vc_10 (Nat.le_of_ble_eq_true rfl) rfl w_218 rfl ?_
            refine g_ldcS (n := 76) (i := 13) dX6_operationHere_74 rfl rfl ?_
            refine g_callV (n := 79) (as := [.retAddr (2 * 13)]) (bc' := 0) (bs' := 0) sC_1 vc_14 (ctX10_isWord h) okX10_isWord rfl w_785 w_582 w_583 w_97 dX6_operationHere_76 rfl rfl (Nat.le_of_ble_eq_true rfl) (Nat.le_of_ble_eq_true rfl) (Nat.le_of_ble_eq_true rfl) (Nat.le_of_ble_eq_true rfl) rfl (fun E sh1 I1 A1 hp _ => hp.2.elim) (fun ro sh_ I_16 A_17 hp hle => ?_)
            obtain ⟨rfl, r_18, rfl, h⟩ := hp
            refine g_if_eq (n := 82) 84 dX6_operationHere_79 (by decide) rfl (fun hc => ?_) (fun hc => ?_)
            · have h := h.1 hc
              refine g_aload_n (n := 85) dX6_operationHere_84 rfl rfl rfl ?_
              refine g_getR (n := 88) (k := 0) dX6_operationHere_85 sC_6 vc_10 (Nat.le_of_ble_eq_true rfl) rfl w_218 rfl ?_
              refine g_ldcS (n := 90) (i := 14) dX6_operationHere_88 rfl rfl ?_
              refine g_callV (n := 93) (as := [.retAddr (2 * 14)]) (bc' := 0) (bs' := 0) sC_1 vc_14 (ctX10_isWord h) okX10_isWord rfl w_785 w_582 w_583 w_97 dX6_operationHere_90 rfl rfl (Nat.le_of_ble_eq_true rfl) (Nat.le_of_ble_eq_true rfl) (Nat.le_of_ble_eq_true rfl) (Nat.le_of_ble_eq_true rfl) rfl (fun E sh1 I1 A1 hp _ => hp.2.elim) (fun ro sh_ I_19 A_20 hp hle => ?_)
              obtain ⟨rfl, r_21, rfl, h⟩ := hp
              refine g_if_eq (n := 96) 99 dX6_operationHere_93 (by decide) rfl (fun hc => ?_) (fun hc => ?_)
              · have h := h.1 hc
                refine g_aload_n (n := 100) dX6_operationHere_99 rfl rfl rfl ?_
                refine g_getR (n := 103) (k := 0) dX6_operationHere_100 sC_6 vc_10 (Nat.le_of_ble_eq_true rfl) rfl w_218 rfl ?_
                refine g_ldcS (n := 105) (i := 15) dX6_operationHere_103 rfl rfl ?_
                refine g_callV (n := 108) (as := [.retAddr (2 * 15)]) (bc' := 0) (bs' := 0) sC_1 vc_14 (ctX10_isWord h) okX10_isWord rfl w_785 w_582 w_583 w_97 dX6_operationHere_105 rfl rfl (Nat.le_of_ble_eq_true rfl) (Nat.le_of_ble_eq_true rfl) (Nat.le_of_ble_eq_true rfl) (Nat.le_of_ble_eq_true rfl) rfl (fun E sh1 I1 A1 hp _ => hp.2.elim) (fun ro sh_ I_22 A_23 hp hle => ?_)
                obtain ⟨rfl, r_24, rfl, h⟩ := hp
                refine g_if_eq (n := 111) 114 dX6_operationHere_108 (by decide) rfl (fun hc => ?_) (fun hc => ?_)
                · have h := h.1 hc
                  refine g_aload_n (n := 115) dX6_operationHere_114 rfl rfl rfl ?_
                  refine g_getR (n := 118) (k := 0) dX6_operationHere_115 sC_6 vc_10 (Nat.le_of_ble_eq_true rfl) rfl w_218 rfl ?_
                  refine g_ldcS (n := 120) (i := 16) dX6_operationHere_118 rfl rfl ?_
                  refine g_callV (n := 123) (as := [.retAddr (2 * 16)]) (bc' := 0) (bs' := 0) sC_1 vc_14 (ctX10_isWord h) okX10_isWord rfl w_785 w_582 w_583 w_97 dX6_operationHere_120 rfl rfl (Nat.le_of_ble_eq_true rfl) (Nat.le_of_ble_eq_true rfl) (Nat.le_of_ble_eq_true rfl) (Nat.le_of_ble_eq_true rfl) rfl (fun E sh1 I1 A1 hp _ => hp.2.elim) (fun ro sh_ I_25 A_26 hp hle => ?_)
                  obtain ⟨rfl, r_27, rfl, h⟩ := hp
                  refine g_if_eq (n := 126) 129 dX6_operationHere_123 (by decide) rfl (fun hc => ?_) (fun hc => ?_)
                  · have h := h.1 hc
                    refine g_iconst (n := 130) (v := (-1 : Int32)) dX6_operationHere_129 rfl rfl ?_
                    exact g_iret rfl rfl dX6_operationHere_130 ⟨rfl, _, rfl, h⟩
                  · have h := h.2 hc
                    refine g_bipush (n := 128) (v := (nI 8)) dX6_operationHere_126 rfl rfl ?_
                    exact g_iret rfl rfl dX6_operationHere_128 ⟨rfl, _, rfl, h⟩
                · have h := h.2 hc
                  refine g_bipush (n := 113) (v := (nI 7)) dX6_operationHere_111 rfl rfl ?_
                  exact g_iret rfl rfl dX6_operationHere_113 ⟨rfl, _, rfl, h⟩
              · have h := h.2 hc
                refine g_bipush (n := 98) (v := (nI 6)) dX6_operationHere_96 rfl rfl ?_
                exact g_iret rfl rfl dX6_operationHere_98 ⟨rfl, _, rfl, h⟩
            · have h := h.2 hc
              refine g_iconst (n := 83) (v := (nI 5)) dX6_operationHere_82 rfl rfl ?_
              exact g_iret rfl rfl dX6_operationHere_83 ⟨rfl, _, rfl, h⟩
          · have h := h.2 hc
            refine g_iconst (n := 69) (v := (nI 4)) dX6_operationHere_68 rfl rfl ?_
            exact g_iret rfl rfl dX6_operationHere_69 ⟨rfl, _, rfl, h⟩
        · have h := h.2 hc
          refine g_iconst (n := 55) (v := (nI 3)) dX6_operationHere_54 rfl rfl ?_
          exact g_iret rfl rfl dX6_operationHere_55 ⟨rfl, _, rfl, h⟩
      · have h := h.2 hc
        refine g_iconst (n := 41) (v := (nI 2)) dX6_operationHere_40 rfl rfl ?_
        exact g_iret rfl rfl dX6_operationHere_41 ⟨rfl, _, rfl, h⟩
    · have h := h.2 hc
      refine g_iconst (n := 27) (v := (nI 1)) dX6_operationHere_26 rfl rfl ?_
      exact g_iret rfl rfl dX6_operationHere_27 ⟨rfl, _, rfl, h⟩
  · have h := h.2 hc
    refine g_iconst (n := 13) (v := (nI 0)) dX6_operationHere_12 rfl rfl ?_
    exact g_iret rfl rfl dX6_operationHere_13 ⟨rfl, _, rfl, h⟩
def wlX10_number_23 (K : Int32 → ab_F → ab_F → Prop) : Nat → Int32 → Int32 → ab_F → ab_F → Prop
  | 0, _, _, _, _ => False
  | n + 1, x1, x2, I, A => (((I 1 3) ≤ x2 → K x1 I A) ∧ (¬ (I 1 3) ≤ x2 → (∃ j_2 : Nat, x2 = nI j_2 ∧ j_2 < 400 ∧ (∀ y_3 : Int32, y_3 = ((((nI 10) * x1) + (A 2 j_2)) - (nI 48)) → (wlX10_number_23 K n) y_3 (x2 + nI 1) I A))))
def wX10_number (K : Int32 → ab_F → ab_F → Prop) (I A : ab_F)  : Prop := ((((I 1 3) - (I 1 2)) ≤ (nI 9) → (∀ y_1 : Int32, y_1 = (I 1 2) → (∃ nf : Nat, wlX10_number_23 K nf (nI 0) y_1 I A))) ∧ (¬ ((I 1 3) - (I 1 2)) ≤ (nI 9) → K (-1 : Int32) I A))
set_option maxRecDepth 20000 in
theorem tlX10_number_23 {C : ab_X} {Z : ab_Z} {K : Int32 → ab_F → ab_F → Prop} : ∀ (n : Nat) (x1 : Int32) (x2 : Int32) (I A : ab_F), wlX10_number_23 K n x1 x2 I A → ab_G mX10_number 0 C (ab_Px (shC Z) ab_no (ab_ri K)) 23 [some (.ref 1), some (.int x1), some (.int x2)] [] (shC Z) I A 0 0 := by
  intro n
  induction n with
  | zero => intro x1 x2 I A h; exact h.elim
  | succ n hL23 =>
    intro x1 x2 I A h
    rw [wlX10_number_23] at h
    refine g_iload_n (n := 24) dX10_number_23 rfl rfl rfl ?_
    refine g_aload_n (n := 25) dX10_number_24 rfl rfl rfl ?_
    refine g_getIE (n := 28) (k := 3) (x := (I 1 3)) dX10_number_25 sC_1 vc_14 (Nat.le_of_ble_eq_true rfl) rfl w_154 rfl rfl ?_
    refine g_icmp_ge (n := 31) 52 dX10_number_28 (by decide) rfl (fun hc => ?_) (fun hc => ?_)
    · have h := h.1 hc
      refine g_iload_n (n := 53) dX10_number_52 rfl rfl rfl ?_
      exact g_iret rfl rfl dX10_number_53 ⟨rfl, _, rfl, h⟩
    · have h := h.2 hc
      refine g_bipush (n := 33) (v := (nI 10)) dX10_number_31 rfl rfl ?_
      refine g_iload_n (n := 34) dX10_number_33 rfl rfl rfl ?_
      refine g_imul (n := 35) dX10_number_34 rfl ?_
      refine g_aload_n (n := 36) dX10_number_35 rfl rfl rfl ?_
      refine g_getR (n := 39) (k := 0) dX10_number_36 sC_1 vc_14 (Nat.le_of_ble_eq_true rfl) rfl w_148 rfl ?_
      refine g_iload_n (n := 40) dX10_number_39 rfl rfl rfl ?_
      obtain ⟨j_2, hj, hl, h⟩ := h
      refine g_ialdJ (n := 41) (j := j_2) (x := (A 2 j_2)) dX10_number_40 sC_2 hj hl (by decide) rfl rfl ?_
      refine g_iadd (n := 42) dX10_number_41 rfl ?_
      refine g_bipush (n := 44) (v := (nI 48)) dX10_number_42 rfl rfl ?_
      refine g_isub (n := 45) dX10_number_44 rfl ?_
      refine g_topi (fun y_3 ey_3 => ?_)
      have h := h y_3 ey_3
      refine g_istore_n (n := 46) (ls' := [some (.ref 1), some (.int y_3), some (.int x2)]) dX10_number_45 rfl rfl (Nat.le_of_ble_eq_true rfl) (Nat.le_of_ble_eq_true rfl) rfl rfl ?_
      refine g_iinc (n := 49) (v := (x2 + nI 1)) (ls' := [some (.ref 1), some (.int y_3), some (.int (x2 + nI 1))]) dX10_number_46 rfl rfl rfl (Nat.le_of_ble_eq_true rfl) rfl rfl ?_
      refine g_goto 23 dX10_number_49 (by decide) ?_
      exact hL23 _ _ _ _ h
set_option maxRecDepth 20000 in
theorem ctX10_number {Z : ab_Z} {K : Int32 → ab_F → ab_F → Prop} {I A : ab_F}  (h : wX10_number K I A ) : ab_Cl mX10_number 0 0 0 [.ref 1] (shC Z) I A (ab_Px (shC Z) ab_no (ab_ri K)) := by
  refine ab_enter (ls := [some (.ref 1), none, none]) (by decide +kernel) (Nat.le_of_ble_eq_true rfl) rfl (fun C => ?_)
  unfold wX10_number at h
  refine g_aload_n (n := 1) dX10_number_0 rfl rfl rfl ?_
  refine g_getIE (n := 4) (k := 3) (x := (I 1 3)) dX10_number_1 sC_1 vc_14 (Nat.le_of_ble_eq_true rfl) rfl w_154 rfl rfl ?_
  refine g_aload_n (n := 5) dX10_number_4 rfl rfl rfl ?_
  refine g_getIE (n := 8) (k := 2) (x := (I 1 2)) dX10_number_5 sC_1 vc_14 (Nat.le_of_ble_eq_true rfl) rfl w_152 rfl rfl ?_
  refine g_isub (n := 9) dX10_number_8 rfl ?_
  refine g_bipush (n := 11) (v := (nI 9)) dX10_number_9 rfl rfl ?_
  refine g_icmp_le (n := 14) 16 dX10_number_11 (by decide) rfl (fun hc => ?_) (fun hc => ?_)
  · have h := h.1 hc
    refine g_iconst (n := 17) (v := (nI 0)) dX10_number_16 rfl rfl ?_
    refine g_istore_n (n := 18) (ls' := [some (.ref 1), some (.int (nI 0)), none]) dX10_number_17 rfl rfl (Nat.le_of_ble_eq_true rfl) (Nat.le_of_ble_eq_true rfl) rfl rfl ?_
    refine g_aload_n (n := 19) dX10_number_18 rfl rfl rfl ?_
    refine g_getIE (n := 22) (k := 2) (x := (I 1 2)) dX10_number_19 sC_1 vc_14 (Nat.le_of_ble_eq_true rfl) rfl w_152 rfl rfl ?_
    refine g_topi (fun y_1 ey_1 => ?_)
    have h := h y_1 ey_1
    refine g_istore_n (n := 23) (ls' := [some (.ref 1), some (.int (nI 0)), some (.int y_1)]) dX10_number_22 rfl rfl (Nat.le_of_ble_eq_true rfl) (Nat.le_of_ble_eq_true rfl) rfl rfl ?_
    refine g_less (bc' := 0) (bs' := 0) (Nat.le_of_ble_eq_true rfl) (Nat.le_of_ble_eq_true rfl) ?_
    obtain ⟨n_f, h⟩ := h
    exact tlX10_number_23  n_f _ _ _ _ h
  · have h := h.2 hc
    refine g_iconst (n := 15) (v := (-1 : Int32)) dX10_number_14 rfl rfl ?_
    exact g_iret rfl rfl dX10_number_15 ⟨rfl, _, rfl, h⟩
def wjX6_readOperands_69 (K : Int32 → ab_F → ab_F → Prop)  (I A : ab_F) : Prop := ((¬ (I 1 4) = (nI 3) → K (nI 0) I A) ∧ ((I 1 4) = (nI 3) → K (nI 1) I A))
def wlX6_readOperands_9 (K : Int32 → ab_F → ab_F → Prop) : Nat → Int32 → Int32 → ab_F → ab_F → Prop
  | 0, _, _, _, _ => False
  | n + 1, x1, x2, I, A => ((x1 ≤ x2 → wjX6_readOperands_69 K  I A) ∧ (¬ x1 ≤ x2 → (((nI 3) ≤ x2 → wjX6_readOperands_69 K  I A) ∧ (¬ (nI 3) ≤ x2 → ((¬ (I 1 4) = (nI 2) → K (nI 0) I A) ∧ ((I 1 4) = (nI 2) → wX10_number (fun r_5 I_3 A_4 => ((¬ r_5 = (-1 : Int32) → wX10_number (fun r_8 I_6 A_7 => (∃ j_9 : Nat, x2 = nI j_9 ∧ j_9 < 3 ∧ wX10_nextToken (fun I_10 A_11 => (wlX6_readOperands_9 K n) x1 (x2 + nI 1) I_10 A_11) I_6 (wr A_7 7 j_9 r_8) )) I_3 A_4 ) ∧ (r_5 = (-1 : Int32) → K (nI 0) I_3 A_4))) I A ))))))
def wX6_readOperands (K : Int32 → ab_F → ab_F → Prop) (I A : ab_F) (p0 : Int32) : Prop := wX10_nextToken (fun I_1 A_2 => (∃ nf : Nat, wlX6_readOperands_9 K nf p0 (nI 0) I_1 A_2)) I A 
set_option maxRecDepth 20000 in
theorem tjX6_readOperands_69 {C : ab_X} {Z : ab_Z} {K : Int32 → ab_F → ab_F → Prop}  (I A : ab_F) (h : wjX6_readOperands_69 K  I A) : ab_G mX6_readOperands 2 C (ab_Px (shC Z) ab_no (ab_ri K)) 69 [some (.ref 6), none, none] [] (shC Z) I A 0 0 := by
  unfold wjX6_readOperands_69 at h
  refine g_aload_n (n := 70) dX6_readOperands_69 rfl rfl rfl ?_
  refine g_getR (n := 73) (k := 0) dX6_readOperands_70 sC_6 vc_10 (Nat.le_of_ble_eq_true rfl) rfl w_218 rfl ?_
  refine g_getIE (n := 76) (k := 4) (x := (I 1 4)) dX6_readOperands_73 sC_1 vc_14 (Nat.le_of_ble_eq_true rfl) rfl w_155 rfl rfl ?_
  refine g_iconst (n := 77) (v := (nI 3)) dX6_readOperands_76 rfl rfl ?_
  refine g_icmp_ne (n := 80) 84 dX6_readOperands_77 (by decide) rfl (fun hc => ?_) (fun hc => ?_)
  · have h := h.1 hc
    refine g_iconst (n := 85) (v := (nI 0)) dX6_readOperands_84 rfl rfl ?_
    exact g_iret rfl rfl dX6_readOperands_85 ⟨rfl, _, rfl, h⟩
  · have h := h.2 hc
    refine g_iconst (n := 81) (v := (nI 1)) dX6_readOperands_80 rfl rfl ?_
    refine g_goto 85 dX6_readOperands_81 (by decide) ?_
    exact g_iret rfl rfl dX6_readOperands_85 ⟨rfl, _, rfl, h⟩
set_option maxRecDepth 20000 in
theorem tlX6_readOperands_9 {C : ab_X} {Z : ab_Z} {K : Int32 → ab_F → ab_F → Prop} : ∀ (n : Nat) (x1 : Int32) (x2 : Int32) (I A : ab_F), wlX6_readOperands_9 K n x1 x2 I A → ab_G mX6_readOperands 2 C (ab_Px (shC Z) ab_no (ab_ri K)) 9 [some (.ref 6), some (.int x1), some (.int x2)] [] (shC Z) I A 0 0 := by
  intro n
  induction n with
  | zero => intro x1 x2 I A h; exact h.elim
  | succ n hL9 =>
    intro x1 x2 I A h
    rw [wlX6_readOperands_9] at h
    refine g_iload_n (n := 10) dX6_readOperands_9 rfl rfl rfl ?_
    refine g_iload_n (n := 11) dX6_readOperands_10 rfl rfl rfl ?_
    refine g_icmp_ge (n := 14) 69 dX6_readOperands_11 (by decide) rfl (fun hc => ?_) (fun hc => ?_)
    · have h := h.1 hc
      refine g_forget (ls' := [some (.ref 6), none, none]) (ab_fg rfl) ?_
      refine g_less (bc' := 0) (bs' := 0) (Nat.le_of_ble_eq_true rfl) (Nat.le_of_ble_eq_true rfl) ?_
      exact tjX6_readOperands_69   _ _ h
    · have h := h.2 hc
      refine g_iload_n (n := 15) dX6_readOperands_14 rfl rfl rfl ?_
      refine g_iconst (n := 16) (v := (nI 3)) dX6_readOperands_15 rfl rfl ?_
      refine g_icmp_ge (n := 19) 69 dX6_readOperands_16 (by decide) rfl (fun hc => ?_) (fun hc => ?_)
      · have h := h.1 hc
        refine g_forget (ls' := [some (.ref 6), none, none]) (ab_fg rfl) ?_
        refine g_less (bc' := 0) (bs' := 0) (Nat.le_of_ble_eq_true rfl) (Nat.le_of_ble_eq_true rfl) ?_
        exact tjX6_readOperands_69   _ _ h
      · have h := h.2 hc
        refine g_aload_n (n := 20) dX6_readOperands_19 rfl rfl rfl ?_
        refine g_getR (n := 23) (k := 0) dX6_readOperands_20 sC_6 vc_10 (Nat.le_of_ble_eq_true rfl) rfl w_218 rfl ?_
        refine g_getIE (n := 26) (k := 4) (x := (I 1 4)) dX6_readOperands_23 sC_1 vc_14 (Nat.le_of_ble_eq_true rfl) rfl w_155 rfl rfl ?_
        refine g_iconst (n := 27) (v := (nI 2)) dX6_readOperands_26 rfl rfl ?_
        refine g_icmp_ne (n := 30) 41 dX6_readOperands_27 (by decide) rfl (fun hc => ?_) (fun hc => ?_)
        · have h := h.1 hc
          refine g_iconst (n := 42) (v := (nI 0)) dX6_readOperands_41 rfl rfl ?_
          exact g_iret rfl rfl dX6_readOperands_42 ⟨rfl, _, rfl, h⟩
        · have h := h.2 hc
          refine g_aload_n (n := 31) dX6_readOperands_30 rfl rfl rfl ?_
          refine g_getR (n := 34) (k := 0) dX6_readOperands_31 sC_6 vc_10 (Nat.le_of_ble_eq_true rfl) rfl w_218 rfl ?_
          refine g_callV (n := 37) (as := []) (bc' := 0) (bs' := 0) sC_1 vc_14 (ctX10_number h) okX10_number rfl w_801 w_642 w_643 w_97 dX6_readOperands_34 rfl rfl (Nat.le_of_ble_eq_true rfl) (Nat.le_of_ble_eq_true rfl) (Nat.le_of_ble_eq_true rfl) (Nat.le_of_ble_eq_true rfl) rfl (fun E sh1 I1 A1 hp _ => hp.2.elim) (fun ro sh_ I_3 A_4 hp hle => ?_)
          obtain ⟨rfl, r_5, rfl, h⟩ := hp
          refine g_iconst (n := 38) (v := (-1 : Int32)) dX6_readOperands_37 rfl rfl ?_
          refine g_icmp_ne (n := 41) 43 dX6_readOperands_38 (by decide) rfl (fun hc => ?_) (fun hc => ?_)
          · have h := h.1 hc
            refine g_aload_n (n := 44) dX6_readOperands_43 rfl rfl rfl ?_
            refine g_getR (n := 47) (k := 1) dX6_readOperands_44 sC_6 vc_10 (Nat.le_of_ble_eq_true rfl) rfl w_219 rfl ?_
            refine g_iload_n (n := 48) dX6_readOperands_47 rfl rfl rfl ?_
            refine g_aload_n (n := 49) dX6_readOperands_48 rfl rfl rfl ?_
            refine g_getR (n := 52) (k := 0) dX6_readOperands_49 sC_6 vc_10 (Nat.le_of_ble_eq_true rfl) rfl w_218 rfl ?_
            refine g_callV (n := 55) (as := []) (bc' := 0) (bs' := 0) sC_1 vc_14 (ctX10_number h) okX10_number rfl w_801 w_642 w_643 w_97 dX6_readOperands_52 rfl rfl (Nat.le_of_ble_eq_true rfl) (Nat.le_of_ble_eq_true rfl) (Nat.le_of_ble_eq_true rfl) (Nat.le_of_ble_eq_true rfl) rfl (fun E sh1 I1 A1 hp _ => hp.2.elim) (fun ro sh_ I_6 A_7 hp hle => ?_)
            obtain ⟨rfl, r_8, rfl, h⟩ := hp
            obtain ⟨j_9, hj, hl, h⟩ := h
            refine g_iastJ (n := 56) (j := j_9) dX6_readOperands_55 sC_7 hj hl (by decide) rfl ?_
            refine g_aload_n (n := 57) dX6_readOperands_56 rfl rfl rfl ?_
            refine g_getR (n := 60) (k := 0) dX6_readOperands_57 sC_6 vc_10 (Nat.le_of_ble_eq_true rfl) rfl w_218 rfl ?_
            refine g_callV (n := 63) (as := []) (bc' := 0) (bs' := 0) sC_1 vc_14 (ctX10_nextToken h) okX10_nextToken rfl w_800 w_570 w_571 w_97 dX6_readOperands_60 rfl rfl (Nat.le_of_ble_eq_true rfl) (Nat.le_of_ble_eq_true rfl) (Nat.le_of_ble_eq_true rfl) (Nat.le_of_ble_eq_true rfl) rfl (fun E sh1 I1 A1 hp _ => hp.2.elim) (fun ro sh_ I_10 A_11 hp hle => ?_)
            obtain ⟨rfl, rfl, h⟩ := hp
            refine g_iinc (n := 66) (v := (x2 + nI 1)) (ls' := [some (.ref 6), some (.int x1), some (.int (x2 + nI 1))]) dX6_readOperands_63 rfl rfl rfl (Nat.le_of_ble_eq_true rfl) rfl rfl ?_
            refine g_goto 9 dX6_readOperands_66 (by decide) ?_
            exact hL9 _ _ _ _ h
          · have h := h.2 hc
            refine g_iconst (n := 42) (v := (nI 0)) dX6_readOperands_41 rfl rfl ?_
            exact g_iret rfl rfl dX6_readOperands_42 ⟨rfl, _, rfl, h⟩
set_option maxRecDepth 20000 in
theorem ctX6_readOperands {Z : ab_Z} {K : Int32 → ab_F → ab_F → Prop} {I A : ab_F} {p0 : Int32} (h : wX6_readOperands K I A p0) : ab_Cl mX6_readOperands 2 0 0 [.ref 6, .int p0] (shC Z) I A (ab_Px (shC Z) ab_no (ab_ri K)) := by
  refine ab_enter (ls := [some (.ref 6), some (.int p0), none]) (by decide +kernel) (Nat.le_of_ble_eq_true rfl) rfl (fun C => ?_)
  unfold wX6_readOperands at h
  refine g_aload_n (n := 1) dX6_readOperands_0 rfl rfl rfl ?_
  refine g_getR (n := 4) (k := 0) dX6_readOperands_1 sC_6 vc_10 (Nat.le_of_ble_eq_true rfl) rfl w_218 rfl ?_
  refine g_callV (n := 7) (as := []) (bc' := 0) (bs' := 0) sC_1 vc_14 (ctX10_nextToken h) okX10_nextToken rfl w_800 w_570 w_571 w_97 dX6_readOperands_4 rfl rfl (Nat.le_of_ble_eq_true rfl) (Nat.le_of_ble_eq_true rfl) (Nat.le_of_ble_eq_true rfl) (Nat.le_of_ble_eq_true rfl) rfl (fun E sh1 I1 A1 hp _ => hp.2.elim) (fun ro sh_ I_1 A_2 hp hle => ?_)
  obtain ⟨rfl, rfl, h⟩ := hp
  refine g_iconst (n := 8) (v := (nI 0)) dX6_readOperands_7 rfl rfl ?_
  refine g_istore_n (n := 9) (ls' := [some (.ref 6), some (.int p0), some (.int (nI 0))]) dX6_readOperands_8 rfl rfl (Nat.le_of_ble_eq_true rfl) (Nat.le_of_ble_eq_true rfl) rfl rfl ?_
  refine g_less (bc' := 0) (bs' := 0) (Nat.le_of_ble_eq_true rfl) (Nat.le_of_ble_eq_true rfl) ?_
  obtain ⟨n_f, h⟩ := h
  exact tlX6_readOperands_9  n_f _ _ _ _ h
def wjX8_earliest_75 (K : Int32 → ab_F → ab_F → Prop) (L34 : Int32 → Int32 → Int32 → ab_F → ab_F → Prop) (x1 : Int32) (x3 : Int32) (x4 : Int32) (s0 : Int32) (I A : ab_F) : Prop := ((s0 = 0 → L34 x1 x3 (x4 + nI 1) I A) ∧ (¬ s0 = 0 → ((x3 = (-1 : Int32) → L34 x1 x4 (x4 + nI 1) I A) ∧ (¬ x3 = (-1 : Int32) → (∃ j_1 : Nat, x4 = nI j_1 ∧ j_1 < 16 ∧ (∃ j_2 : Nat, x3 = nI j_2 ∧ j_2 < 16 ∧ (((A 18 j_2) ≤ (A 18 j_1) → L34 x1 x3 (x4 + nI 1) I A) ∧ (¬ (A 18 j_2) ≤ (A 18 j_1) → L34 x1 x4 (x4 + nI 1) I A))))))))
def wjX8_earliest_70 (K : Int32 → ab_F → ab_F → Prop) (L34 : Int32 → Int32 → Int32 → ab_F → ab_F → Prop) (x1 : Int32) (x3 : Int32) (x4 : Int32) (I A : ab_F) : Prop := wjX8_earliest_75 K L34 x1 x3 x4 (nI 1) I A
def wlX8_earliest_34 (K : Int32 → ab_F → ab_F → Prop) : Nat → Int32 → Int32 → Int32 → ab_F → ab_F → Prop
  | 0, _, _, _, _, _ => False
  | n + 1, x1, x3, x4, I, A => (((I 16 0) ≤ x4 → K x3 I A) ∧ (¬ (I 16 0) ≤ x4 → ((x1 = 0 → wjX8_earliest_70 K (wlX8_earliest_34 K n) x1 x3 x4 I A) ∧ (¬ x1 = 0 → (∃ j_3 : Nat, x4 = nI j_3 ∧ j_3 < 16 ∧ wX4_isDirty (fun r_6 I_4 A_5 => ((¬ r_6 = 0 → wjX8_earliest_75 K (wlX8_earliest_34 K n) x1 x3 x4 (nI 0) I_4 A_5) ∧ (r_6 = 0 → wjX8_earliest_70 K (wlX8_earliest_34 K n) x1 x3 x4 I_4 A_5))) I A (A 17 j_3))))))
def wjX8_earliest_28 (K : Int32 → ab_F → ab_F → Prop) (x1 : Int32) (I A : ab_F) : Prop := (∃ nf : Nat, wlX8_earliest_34 K nf x1 (-1 : Int32) (nI 0) I A)
def wjX8_earliest_75_2 (K : Int32 → ab_F → ab_F → Prop) (L34 : Int32 → Int32 → Int32 → ab_F → ab_F → Prop) (x1 : Int32) (x3 : Int32) (x4 : Int32) (s0 : Int32) (I A : ab_F) : Prop := ((s0 = 0 → L34 x1 x3 (x4 + nI 1) I A) ∧ (¬ s0 = 0 → ((x3 = (-1 : Int32) → L34 x1 x4 (x4 + nI 1) I A) ∧ (¬ x3 = (-1 : Int32) → (∃ j_7 : Nat, x4 = nI j_7 ∧ j_7 < 16 ∧ (∃ j_8 : Nat, x3 = nI j_8 ∧ j_8 < 16 ∧ (((A 19 j_8) ≤ (A 19 j_7) → L34 x1 x3 (x4 + nI 1) I A) ∧ (¬ (A 19 j_8) ≤ (A 19 j_7) → L34 x1 x4 (x4 + nI 1) I A))))))))
def wjX8_earliest_70_2 (K : Int32 → ab_F → ab_F → Prop) (L34 : Int32 → Int32 → Int32 → ab_F → ab_F → Prop) (x1 : Int32) (x3 : Int32) (x4 : Int32) (I A : ab_F) : Prop := wjX8_earliest_75_2 K L34 x1 x3 x4 (nI 1) I A
def wlX8_earliest_34_2 (K : Int32 → ab_F → ab_F → Prop) : Nat → Int32 → Int32 → Int32 → ab_F → ab_F → Prop
  | 0, _, _, _, _, _ => False
  | n + 1, x1, x3, x4, I, A => (((I 16 0) ≤ x4 → K x3 I A) ∧ (¬ (I 16 0) ≤ x4 → ((x1 = 0 → wjX8_earliest_70_2 K (wlX8_earliest_34_2 K n) x1 x3 x4 I A) ∧ (¬ x1 = 0 → (∃ j_9 : Nat, x4 = nI j_9 ∧ j_9 < 16 ∧ wX4_isDirty (fun r_12 I_10 A_11 => ((¬ r_12 = 0 → wjX8_earliest_75_2 K (wlX8_earliest_34_2 K n) x1 x3 x4 (nI 0) I_10 A_11) ∧ (r_12 = 0 → wjX8_earliest_70_2 K (wlX8_earliest_34_2 K n) x1 x3 x4 I_10 A_11))) I A (A 17 j_9))))))
def wjX8_earliest_28_2 (K : Int32 → ab_F → ab_F → Prop) (x1 : Int32) (I A : ab_F) : Prop := (∃ nf : Nat, wlX8_earliest_34_2 K nf x1 (-1 : Int32) (nI 0) I A)
def wX8_earliest (K : Int32 → ab_F → ab_F → Prop) (I A : ab_F) (p0 : Int32) : Prop := ((¬ (I 16 1) = (nI 1) → wjX8_earliest_28 K p0 I A) ∧ ((I 16 1) = (nI 1) → wjX8_earliest_28_2 K p0 I A))
set_option maxRecDepth 20000 in
theorem tjX8_earliest_75 {C : ab_X} {Z : ab_Z} {K : Int32 → ab_F → ab_F → Prop} {L34 : Int32 → Int32 → Int32 → ab_F → ab_F → Prop} (hL34 : ∀ (x1 : Int32) (x3 : Int32) (x4 : Int32) (I A : ab_F), L34 x1 x3 x4 I A → ab_G mX8_earliest 1 C (ab_Px (shC Z) ab_no (ab_ri K)) 34 [some (.ref 8), some (.int x1), some (.ref 18), some (.int x3), some (.int x4), none] [] (shC Z) I A 0 0) (x1 : Int32) (x3 : Int32) (x4 : Int32) (s0 : Int32) (I A : ab_F) (h : wjX8_earliest_75 K L34 x1 x3 x4 s0 I A) : ab_G mX8_earliest 1 C (ab_Px (shC Z) ab_no (ab_ri K)) 75 [some (.ref 8), some (.int x1), some (.ref 18), some (.int x3), some (.int x4), none] [.int s0] (shC Z) I A 0 0 := by
  unfold wjX8_earliest_75 at h
  refine g_istore (n := 77) (ls' := [some (.ref 8), some (.int x1), some (.ref 18), some (.int x3), some (.int x4), some (.int s0)]) dX8_earliest_75 rfl (Nat.le_of_ble_eq_true rfl) (Nat.le_of_ble_eq_true rfl) rfl rfl ?_
  refine g_iload (n := 79) dX8_earliest_77 rfl rfl ?_
  refine g_if_eq (n := 82) 100 dX8_earliest_79 (by decide) rfl (fun hc => ?_) (fun hc => ?_)
  · have h := h.1 hc
    refine g_iinc (n := 103) (v := (x4 + nI 1)) (ls' := [some (.ref 8), some (.int x1), some (.ref 18), some (.int x3), some (.int (x4 + nI 1)), some (.int s0)]) dX8_earliest_100 rfl rfl rfl (Nat.le_of_ble_eq_true rfl) rfl rfl ?_
    refine g_goto 34 dX8_earliest_103 (by decide) ?_
    refine g_forget (ls' := [some (.ref 8), some (.int x1), some (.ref 18), some (.int x3), some (.int (x4 + nI 1)), none]) (ab_fg rfl) ?_
    exact hL34 _ _ _ _ _ h
  · have h := h.2 hc
    refine g_iload_n (n := 83) dX8_earliest_82 rfl rfl rfl ?_
    refine g_iconst (n := 84) (v := (-1 : Int32)) dX8_earliest_83 rfl rfl ?_
    refine g_icmp_eq (n := 87) 97 dX8_earliest_84 (by decide) rfl (fun hc => ?_) (fun hc => ?_)
    · have h := h.1 hc
      refine g_iload (n := 99) dX8_earliest_97 rfl rfl ?_
      refine g_istore_n (n := 100) (ls' := [some (.ref 8), some (.int x1), some (.ref 18), some (.int x4), some (.int x4), some (.int s0)]) dX8_earliest_99 rfl rfl (Nat.le_of_ble_eq_true rfl) (Nat.le_of_ble_eq_true rfl) rfl rfl ?_
      refine g_iinc (n := 103) (v := (x4 + nI 1)) (ls' := [some (.ref 8), some (.int x1), some (.ref 18), some (.int x4), some (.int (x4 + nI 1)), some (.int s0)]) dX8_earliest_100 rfl rfl rfl (Nat.le_of_ble_eq_true rfl) rfl rfl ?_
      refine g_goto 34 dX8_earliest_103 (by decide) ?_
      refine g_forget (ls' := [some (.ref 8), some (.int x1), some (.ref 18), some (.int x4), some (.int (x4 + nI 1)), none]) (ab_fg rfl) ?_
      exact hL34 _ _ _ _ _ h
    · have h := h.2 hc
      refine g_aload_n (n := 88) dX8_earliest_87 rfl rfl rfl ?_
      refine g_iload (n := 90) dX8_earliest_88 rfl rfl ?_
      obtain ⟨j_1, hj, hl, h⟩ := h
      refine g_ialdJ (n := 91) (j := j_1) (x := (A 18 j_1)) dX8_earliest_90 sC_18 hj hl (by decide) rfl rfl ?_
      refine g_aload_n (n := 92) dX8_earliest_91 rfl rfl rfl ?_
      refine g_iload_n (n := 93) dX8_earliest_92 rfl rfl rfl ?_
      obtain ⟨j_2, hj, hl, h⟩ := h
      refine g_ialdJ (n := 94) (j := j_2) (x := (A 18 j_2)) dX8_earliest_93 sC_18 hj hl (by decide) rfl rfl ?_
      refine g_icmp_ge (n := 97) 100 dX8_earliest_94 (by decide) rfl (fun hc => ?_) (fun hc => ?_)
      · have h := h.1 hc
        refine g_iinc (n := 103) (v := (x4 + nI 1)) (ls' := [some (.ref 8), some (.int x1), some (.ref 18), some (.int x3), some (.int (x4 + nI 1)), some (.int s0)]) dX8_earliest_100 rfl rfl rfl (Nat.le_of_ble_eq_true rfl) rfl rfl ?_
        refine g_goto 34 dX8_earliest_103 (by decide) ?_
        refine g_forget (ls' := [some (.ref 8), some (.int x1), some (.ref 18), some (.int x3), some (.int (x4 + nI 1)), none]) (ab_fg rfl) ?_
        exact hL34 _ _ _ _ _ h
      · have h := h.2 hc
        refine g_iload (n := 99) dX8_earliest_97 rfl rfl ?_
        refine g_istore_n (n := 100) (ls' := [some (.ref 8), some (.int x1), some (.ref 18), some (.int x4), some (.int x4), some (.int s0)]) dX8_earliest_99 rfl rfl (Nat.le_of_ble_eq_true rfl) (Nat.le_of_ble_eq_true rfl) rfl rfl ?_
        refine g_iinc (n := 103) (v := (x4 + nI 1)) (ls' := [some (.ref 8), some (.int x1), some (.ref 18), some (.int x4), some (.int (x4 + nI 1)), some (.int s0)]) dX8_earliest_100 rfl rfl rfl (Nat.le_of_ble_eq_true rfl) rfl rfl ?_
        refine g_goto 34 dX8_earliest_103 (by decide) ?_
        refine g_forget (ls' := [some (.ref 8), some (.int x1), some (.ref 18), some (.int x4), some (.int (x4 + nI 1)), none]) (ab_fg rfl) ?_
        exact hL34 _ _ _ _ _ h
set_option maxRecDepth 20000 in
theorem tjX8_earliest_70 {C : ab_X} {Z : ab_Z} {K : Int32 → ab_F → ab_F → Prop} {L34 : Int32 → Int32 → Int32 → ab_F → ab_F → Prop} (hL34 : ∀ (x1 : Int32) (x3 : Int32) (x4 : Int32) (I A : ab_F), L34 x1 x3 x4 I A → ab_G mX8_earliest 1 C (ab_Px (shC Z) ab_no (ab_ri K)) 34 [some (.ref 8), some (.int x1), some (.ref 18), some (.int x3), some (.int x4), none] [] (shC Z) I A 0 0) (x1 : Int32) (x3 : Int32) (x4 : Int32) (I A : ab_F) (h : wjX8_earliest_70 K L34 x1 x3 x4 I A) : ab_G mX8_earliest 1 C (ab_Px (shC Z) ab_no (ab_ri K)) 70 [some (.ref 8), some (.int x1), some (.ref 18), some (.int x3), some (.int x4), none] [] (shC Z) I A 0 0 := by
  unfold wjX8_earliest_70 at h
  refine g_iconst (n := 71) (v := (nI 1)) dX8_earliest_70 rfl rfl ?_
  refine g_goto 75 dX8_earliest_71 (by decide) ?_
  refine g_less (bc' := 0) (bs' := 0) (Nat.le_of_ble_eq_true rfl) (Nat.le_of_ble_eq_true rfl) ?_
  exact tjX8_earliest_75 hL34 _ _ _ _ _ _ h
set_option maxRecDepth 20000 in
theorem tlX8_earliest_34 {C : ab_X} {Z : ab_Z} {K : Int32 → ab_F → ab_F → Prop} : ∀ (n : Nat) (x1 : Int32) (x3 : Int32) (x4 : Int32) (I A : ab_F), wlX8_earliest_34 K n x1 x3 x4 I A → ab_G mX8_earliest 1 C (ab_Px (shC Z) ab_no (ab_ri K)) 34 [some (.ref 8), some (.int x1), some (.ref 18), some (.int x3), some (.int x4), none] [] (shC Z) I A 0 0 := by
  intro n
  induction n with
  | zero => intro x1 x3 x4 I A h; exact h.elim
  | succ n hL34 =>
    intro x1 x3 x4 I A h
    rw [wlX8_earliest_34] at h
    refine g_iload (n := 36) dX8_earliest_34 rfl rfl ?_
    refine g_aload_n (n := 37) dX8_earliest_36 rfl rfl rfl ?_
    refine g_getR (n := 40) (k := 1) dX8_earliest_37 sC_8 vc_12 (Nat.le_of_ble_eq_true rfl) rfl w_401 rfl ?_
    refine g_getIE (n := 43) (k := 0) (x := (I 16 0)) dX8_earliest_40 sC_16 vc_6 (Nat.le_of_ble_eq_true rfl) rfl w_279 rfl rfl ?_
    refine g_icmp_ge (n := 46) 106 dX8_earliest_43 (by decide) rfl (fun hc => ?_) (fun hc => ?_)
    · have h := h.1 hc
      refine g_iload_n (n := 107) dX8_earliest_106 rfl rfl rfl ?_
      exact g_iret rfl rfl dX8_earliest_107 ⟨rfl, _, rfl, h⟩
    · have h := h.2 hc
      refine g_iload_n (n := 47) dX8_earliest_46 rfl rfl rfl ?_
      refine g_if_eq (n := 50) 70 dX8_earliest_47 (by decide) rfl (fun hc => ?_) (fun hc => ?_)
      · have h := h.1 hc
        refine g_less (bc' := 0) (bs' := 0) (Nat.le_of_ble_eq_true rfl) (Nat.le_of_ble_eq_true rfl) ?_
        exact tjX8_earliest_70 hL34 _ _ _ _ _ h
      · have h := h.2 hc
        refine g_aload_n (n := 51) dX8_earliest_50 rfl rfl rfl ?_
        refine g_getR (n := 54) (k := 0) dX8_earliest_51 sC_8 vc_12 (Nat.le_of_ble_eq_true rfl) rfl w_399 rfl ?_
        refine g_aload_n (n := 55) dX8_earliest_54 rfl rfl rfl ?_
        refine g_getR (n := 58) (k := 1) dX8_earliest_55 sC_8 vc_12 (Nat.le_of_ble_eq_true rfl) rfl w_401 rfl ?_
        refine g_getR (n := 61) (k := 2) dX8_earliest_58 sC_16 vc_6 (Nat.le_of_ble_eq_true rfl) rfl w_284 rfl ?_
        refine g_iload (n := 63) dX8_earliest_61 rfl rfl ?_
        obtain ⟨j_3, hj, hl, h⟩ := h
        refine g_ialdJ (n := 64) (j := j_3) (x := (A 17 j_3)) dX8_earliest_63 sC_17 hj hl (by decide) rfl rfl ?_
        refine g_callV (n := 67) (as := [.int (A 17 j_3)]) (bc' := 0) (bs' := 0) sC_9 vc_8 (ctX4_isDirty h) okX4_isDirty rfl w_834 w_835 w_836 w_101 dX8_earliest_64 rfl rfl (Nat.le_of_ble_eq_true rfl) (Nat.le_of_ble_eq_true rfl) (Nat.le_of_ble_eq_true rfl) (Nat.le_of_ble_eq_true rfl) rfl (fun E sh1 I1 A1 hp _ => hp.2.elim) (fun ro sh_ I_4 A_5 hp hle => ?_)
        obtain ⟨rfl, r_6, rfl, h⟩ := hp
        refine g_if_ne (n := 70) 74 dX8_earliest_67 (by decide) rfl (fun hc => ?_) (fun hc => ?_)
        · have h := h.1 hc
          refine g_iconst (n := 75) (v := (nI 0)) dX8_earliest_74 rfl rfl ?_
          refine g_less (bc' := 0) (bs' := 0) (Nat.le_of_ble_eq_true rfl) (Nat.le_of_ble_eq_true rfl) ?_
          exact tjX8_earliest_75 hL34 _ _ _ _ _ _ h
        · have h := h.2 hc
          refine g_less (bc' := 0) (bs' := 0) (Nat.le_of_ble_eq_true rfl) (Nat.le_of_ble_eq_true rfl) ?_
          exact tjX8_earliest_70 hL34 _ _ _ _ _ h
set_option maxRecDepth 20000 in
theorem tjX8_earliest_28 {C : ab_X} {Z : ab_Z} {K : Int32 → ab_F → ab_F → Prop} (x1 : Int32) (I A : ab_F) (h : wjX8_earliest_28 K x1 I A) : ab_G mX8_earliest 1 C (ab_Px (shC Z) ab_no (ab_ri K)) 28 [some (.ref 8), some (.int x1), none, none, none, none] [.ref 18] (shC Z) I A 0 0 := by
  unfold wjX8_earliest_28 at h
  refine g_astore_n (n := 29) (ls' := [some (.ref 8), some (.int x1), some (.ref 18), none, none, none]) dX8_earliest_28 rfl rfl (Nat.le_of_ble_eq_true rfl) (Nat.le_of_ble_eq_true rfl) rfl rfl ?_
  refine g_iconst (n := 30) (v := (-1 : Int32)) dX8_earliest_29 rfl rfl ?_
  refine g_istore_n (n := 31) (ls' := [some (.ref 8), some (.int x1), some (.ref 18), some (.int (-1 : Int32)), none, none]) dX8_earliest_30 rfl rfl (Nat.le_of_ble_eq_true rfl) (Nat.le_of_ble_eq_true rfl) rfl rfl ?_
  refine g_iconst (n := 32) (v := (nI 0)) dX8_earliest_31 rfl rfl ?_
  refine g_istore (n := 34) (ls' := [some (.ref 8), some (.int x1), some (.ref 18), some (.int (-1 : Int32)), some (.int (nI 0)), none]) dX8_earliest_32 rfl (Nat.le_of_ble_eq_true rfl) (Nat.le_of_ble_eq_true rfl) rfl rfl ?_
  refine g_less (bc' := 0) (bs' := 0) (Nat.le_of_ble_eq_true rfl) (Nat.le_of_ble_eq_true rfl) ?_
  obtain ⟨n_f, h⟩ := h
  exact tlX8_earliest_34  n_f _ _ _ _ _ h
set_option maxRecDepth 20000 in
theorem tjX8_earliest_75_2 {C : ab_X} {Z : ab_Z} {K : Int32 → ab_F → ab_F → Prop} {L34 : Int32 → Int32 → Int32 → ab_F → ab_F → Prop} (hL34 : ∀ (x1 : Int32) (x3 : Int32) (x4 : Int32) (I A : ab_F), L34 x1 x3 x4 I A → ab_G mX8_earliest 1 C (ab_Px (shC Z) ab_no (ab_ri K)) 34 [some (.ref 8), some (.int x1), some (.ref 19), some (.int x3), some (.int x4), none] [] (shC Z) I A 0 0) (x1 : Int32) (x3 : Int32) (x4 : Int32) (s0 : Int32) (I A : ab_F) (h : wjX8_earliest_75_2 K L34 x1 x3 x4 s0 I A) : ab_G mX8_earliest 1 C (ab_Px (shC Z) ab_no (ab_ri K)) 75 [some (.ref 8), some (.int x1), some (.ref 19), some (.int x3), some (.int x4), none] [.int s0] (shC Z) I A 0 0 := by
  unfold wjX8_earliest_75_2 at h
  refine g_istore (n := 77) (ls' := [some (.ref 8), some (.int x1), some (.ref 19), some (.int x3), some (.int x4), some (.int s0)]) dX8_earliest_75 rfl (Nat.le_of_ble_eq_true rfl) (Nat.le_of_ble_eq_true rfl) rfl rfl ?_
  refine g_iload (n := 79) dX8_earliest_77 rfl rfl ?_
  refine g_if_eq (n := 82) 100 dX8_earliest_79 (by decide) rfl (fun hc => ?_) (fun hc => ?_)
  · have h := h.1 hc
    refine g_iinc (n := 103) (v := (x4 + nI 1)) (ls' := [some (.ref 8), some (.int x1), some (.ref 19), some (.int x3), some (.int (x4 + nI 1)), some (.int s0)]) dX8_earliest_100 rfl rfl rfl (Nat.le_of_ble_eq_true rfl) rfl rfl ?_
    refine g_goto 34 dX8_earliest_103 (by decide) ?_
    refine g_forget (ls' := [some (.ref 8), some (.int x1), some (.ref 19), some (.int x3), some (.int (x4 + nI 1)), none]) (ab_fg rfl) ?_
    exact hL34 _ _ _ _ _ h
  · have h := h.2 hc
    refine g_iload_n (n := 83) dX8_earliest_82 rfl rfl rfl ?_
    refine g_iconst (n := 84) (v := (-1 : Int32)) dX8_earliest_83 rfl rfl ?_
    refine g_icmp_eq (n := 87) 97 dX8_earliest_84 (by decide) rfl (fun hc => ?_) (fun hc => ?_)
    · have h := h.1 hc
      refine g_iload (n := 99) dX8_earliest_97 rfl rfl ?_
      refine g_istore_n (n := 100) (ls' := [some (.ref 8), some (.int x1), some (.ref 19), some (.int x4), some (.int x4), some (.int s0)]) dX8_earliest_99 rfl rfl (Nat.le_of_ble_eq_true rfl) (Nat.le_of_ble_eq_true rfl) rfl rfl ?_
      refine g_iinc (n := 103) (v := (x4 + nI 1)) (ls' := [some (.ref 8), some (.int x1), some (.ref 19), some (.int x4), some (.int (x4 + nI 1)), some (.int s0)]) dX8_earliest_100 rfl rfl rfl (Nat.le_of_ble_eq_true rfl) rfl rfl ?_
      refine g_goto 34 dX8_earliest_103 (by decide) ?_
      refine g_forget (ls' := [some (.ref 8), some (.int x1), some (.ref 19), some (.int x4), some (.int (x4 + nI 1)), none]) (ab_fg rfl) ?_
      exact hL34 _ _ _ _ _ h
    · have h := h.2 hc
      refine g_aload_n (n := 88) dX8_earliest_87 rfl rfl rfl ?_
      refine g_iload (n := 90) dX8_earliest_88 rfl rfl ?_
      obtain ⟨j_7, hj, hl, h⟩ := h
      refine g_ialdJ (n := 91) (j := j_7) (x := (A 19 j_7)) dX8_earliest_90 sC_19 hj hl (by decide) rfl rfl ?_
      refine g_aload_n (n := 92) dX8_earliest_91 rfl rfl rfl ?_
      refine g_iload_n (n := 93) dX8_earliest_92 rfl rfl rfl ?_
      obtain ⟨j_8, hj, hl, h⟩ := h
      refine g_ialdJ (n := 94) (j := j_8) (x := (A 19 j_8)) dX8_earliest_93 sC_19 hj hl (by decide) rfl rfl ?_
      refine g_icmp_ge (n := 97) 100 dX8_earliest_94 (by decide) rfl (fun hc => ?_) (fun hc => ?_)
      · have h := h.1 hc
        refine g_iinc (n := 103) (v := (x4 + nI 1)) (ls' := [some (.ref 8), some (.int x1), some (.ref 19), some (.int x3), some (.int (x4 + nI 1)), some (.int s0)]) dX8_earliest_100 rfl rfl rfl (Nat.le_of_ble_eq_true rfl) rfl rfl ?_
        refine g_goto 34 dX8_earliest_103 (by decide) ?_
        refine g_forget (ls' := [some (.ref 8), some (.int x1), some (.ref 19), some (.int x3), some (.int (x4 + nI 1)), none]) (ab_fg rfl) ?_
        exact hL34 _ _ _ _ _ h
      · have h := h.2 hc
        refine g_iload (n := 99) dX8_earliest_97 rfl rfl ?_
        refine g_istore_n (n := 100) (ls' := [some (.ref 8), some (.int x1), some (.ref 19), some (.int x4), some (.int x4), some (.int s0)]) dX8_earliest_99 rfl rfl (Nat.le_of_ble_eq_true rfl) (Nat.le_of_ble_eq_true rfl) rfl rfl ?_
        refine g_iinc (n := 103) (v := (x4 + nI 1)) (ls' := [some (.ref 8), some (.int x1), some (.ref 19), some (.int x4), some (.int (x4 + nI 1)), some (.int s0)]) dX8_earliest_100 rfl rfl rfl (Nat.le_of_ble_eq_true rfl) rfl rfl ?_
        refine g_goto 34 dX8_earliest_103 (by decide) ?_
        refine g_forget (ls' := [some (.ref 8), some (.int x1), some (.ref 19), some (.int x4), some (.int (x4 + nI 1)), none]) (ab_fg rfl) ?_
        exact hL34 _ _ _ _ _ h
set_option maxRecDepth 20000 in
theorem tjX8_earliest_70_2 {C : ab_X} {Z : ab_Z} {K : Int32 → ab_F → ab_F → Prop} {L34 : Int32 → Int32 → Int32 → ab_F → ab_F → Prop} (hL34 : ∀ (x1 : Int32) (x3 : Int32) (x4 : Int32) (I A : ab_F), L34 x1 x3 x4 I A → ab_G mX8_earliest 1 C (ab_Px (shC Z) ab_no (ab_ri K)) 34 [some (.ref 8), some (.int x1), some (.ref 19), some (.int x3), some (.int x4), none] [] (shC Z) I A 0 0) (x1 : Int32) (x3 : Int32) (x4 : Int32) (I A : ab_F) (h : wjX8_earliest_70_2 K L34 x1 x3 x4 I A) : ab_G mX8_earliest 1 C (ab_Px (shC Z) ab_no (ab_ri K)) 70 [some (.ref 8), some (.int x1), some (.ref 19), some (.int x3), some (.int x4), none] [] (shC Z) I A 0 0 := by
  unfold wjX8_earliest_70_2 at h
  refine g_iconst (n := 71) (v := (nI 1)) dX8_earliest_70 rfl rfl ?_
  refine g_goto 75 dX8_earliest_71 (by decide) ?_
  refine g_less (bc' := 0) (bs' := 0) (Nat.le_of_ble_eq_true rfl) (Nat.le_of_ble_eq_true rfl) ?_
  exact tjX8_earliest_75_2 hL34 _ _ _ _ _ _ h
set_option maxRecDepth 20000 in
theorem tlX8_earliest_34_2 {C : ab_X} {Z : ab_Z} {K : Int32 → ab_F → ab_F → Prop} : ∀ (n : Nat) (x1 : Int32) (x3 : Int32) (x4 : Int32) (I A : ab_F), wlX8_earliest_34_2 K n x1 x3 x4 I A → ab_G mX8_earliest 1 C (ab_Px (shC Z) ab_no (ab_ri K)) 34 [some (.ref 8), some (.int x1), some (.ref 19), some (.int x3), some (.int x4), none] [] (shC Z) I A 0 0 := by
  intro n
  induction n with
  | zero => intro x1 x3 x4 I A h; exact h.elim
  | succ n hL34 =>
    intro x1 x3 x4 I A h
    rw [wlX8_earliest_34_2] at h
    refine g_iload (n := 36) dX8_earliest_34 rfl rfl ?_
    refine g_aload_n (n := 37) dX8_earliest_36 rfl rfl rfl ?_
    refine g_getR (n := 40) (k := 1) dX8_earliest_37 sC_8 vc_12 (Nat.le_of_ble_eq_true rfl) rfl w_401 rfl ?_
    refine g_getIE (n := 43) (k := 0) (x := (I 16 0)) dX8_earliest_40 sC_16 vc_6 (Nat.le_of_ble_eq_true rfl) rfl w_279 rfl rfl ?_
    refine g_icmp_ge (n := 46) 106 dX8_earliest_43 (by decide) rfl (fun hc => ?_) (fun hc => ?_)
    · have h := h.1 hc
      refine g_iload_n (n := 107) dX8_earliest_106 rfl rfl rfl ?_
      exact g_iret rfl rfl dX8_earliest_107 ⟨rfl, _, rfl, h⟩
    · have h := h.2 hc
      refine g_iload_n (n := 47) dX8_earliest_46 rfl rfl rfl ?_
      refine g_if_eq (n := 50) 70 dX8_earliest_47 (by decide) rfl (fun hc => ?_) (fun hc => ?_)
      · have h := h.1 hc
        refine g_less (bc' := 0) (bs' := 0) (Nat.le_of_ble_eq_true rfl) (Nat.le_of_ble_eq_true rfl) ?_
        exact tjX8_earliest_70_2 hL34 _ _ _ _ _ h
      · have h := h.2 hc
        refine g_aload_n (n := 51) dX8_earliest_50 rfl rfl rfl ?_
        refine g_getR (n := 54) (k := 0) dX8_earliest_51 sC_8 vc_12 (Nat.le_of_ble_eq_true rfl) rfl w_399 rfl ?_
        refine g_aload_n (n := 55) dX8_earliest_54 rfl rfl rfl ?_
        refine g_getR (n := 58) (k := 1) dX8_earliest_55 sC_8 vc_12 (Nat.le_of_ble_eq_true rfl) rfl w_401 rfl ?_
        refine g_getR (n := 61) (k := 2) dX8_earliest_58 sC_16 vc_6 (Nat.le_of_ble_eq_true rfl) rfl w_284 rfl ?_
        refine g_iload (n := 63) dX8_earliest_61 rfl rfl ?_
        obtain ⟨j_9, hj, hl, h⟩ := h
        refine g_ialdJ (n := 64) (j := j_9) (x := (A 17 j_9)) dX8_earliest_63 sC_17 hj hl (by decide) rfl rfl ?_
        refine g_callV (n := 67) (as := [.int (A 17 j_9)]) (bc' := 0) (bs' := 0) sC_9 vc_8 (ctX4_isDirty h) okX4_isDirty rfl w_834 w_835 w_836 w_101 dX8_earliest_64 rfl rfl (Nat.le_of_ble_eq_true rfl) (Nat.le_of_ble_eq_true rfl) (Nat.le_of_ble_eq_true rfl) (Nat.le_of_ble_eq_true rfl) rfl (fun E sh1 I1 A1 hp _ => hp.2.elim) (fun ro sh_ I_10 A_11 hp hle => ?_)
        obtain ⟨rfl, r_12, rfl, h⟩ := hp
        refine g_if_ne (n := 70) 74 dX8_earliest_67 (by decide) rfl (fun hc => ?_) (fun hc => ?_)
        · have h := h.1 hc
          refine g_iconst (n := 75) (v := (nI 0)) dX8_earliest_74 rfl rfl ?_
          refine g_less (bc' := 0) (bs' := 0) (Nat.le_of_ble_eq_true rfl) (Nat.le_of_ble_eq_true rfl) ?_
          exact tjX8_earliest_75_2 hL34 _ _ _ _ _ _ h
        · have h := h.2 hc
          refine g_less (bc' := 0) (bs' := 0) (Nat.le_of_ble_eq_true rfl) (Nat.le_of_ble_eq_true rfl) ?_
          exact tjX8_earliest_70_2 hL34 _ _ _ _ _ h
set_option maxRecDepth 20000 in
theorem tjX8_earliest_28_2 {C : ab_X} {Z : ab_Z} {K : Int32 → ab_F → ab_F → Prop} (x1 : Int32) (I A : ab_F) (h : wjX8_earliest_28_2 K x1 I A) : ab_G mX8_earliest 1 C (ab_Px (shC Z) ab_no (ab_ri K)) 28 [some (.ref 8), some (.int x1), none, none, none, none] [.ref 19] (shC Z) I A 0 0 := by
  unfold wjX8_earliest_28_2 at h
  refine g_astore_n (n := 29) (ls' := [some (.ref 8), some (.int x1), some (.ref 19), none, none, none]) dX8_earliest_28 rfl rfl (Nat.le_of_ble_eq_true rfl) (Nat.le_of_ble_eq_true rfl) rfl rfl ?_
  refine g_iconst (n := 30) (v := (-1 : Int32)) dX8_earliest_29 rfl rfl ?_
  refine g_istore_n (n := 31) (ls' := [some (.ref 8), some (.int x1), some (.ref 19), some (.int (-1 : Int32)), none, none]) dX8_earliest_30 rfl rfl (Nat.le_of_ble_eq_true rfl) (Nat.le_of_ble_eq_true rfl) rfl rfl ?_
  refine g_iconst (n := 32) (v := (nI 0)) dX8_earliest_31 rfl rfl ?_
  refine g_istore (n := 34) (ls' := [some (.ref 8), some (.int x1), some (.ref 19), some (.int (-1 : Int32)), some (.int (nI 0)), none]) dX8_earliest_32 rfl (Nat.le_of_ble_eq_true rfl) (Nat.le_of_ble_eq_true rfl) rfl rfl ?_
  refine g_less (bc' := 0) (bs' := 0) (Nat.le_of_ble_eq_true rfl) (Nat.le_of_ble_eq_true rfl) ?_
  obtain ⟨n_f, h⟩ := h
  exact tlX8_earliest_34_2  n_f _ _ _ _ _ h
set_option maxRecDepth 20000 in
theorem ctX8_earliest {Z : ab_Z} {K : Int32 → ab_F → ab_F → Prop} {I A : ab_F} {p0 : Int32} (h : wX8_earliest K I A p0) : ab_Cl mX8_earliest 1 0 0 [.ref 8, .int p0] (shC Z) I A (ab_Px (shC Z) ab_no (ab_ri K)) := by
  refine ab_enter (ls := [some (.ref 8), some (.int p0), none, none, none, none]) (by decide +kernel) (Nat.le_of_ble_eq_true rfl) rfl (fun C => ?_)
  unfold wX8_earliest at h
  refine g_aload_n (n := 1) dX8_earliest_0 rfl rfl rfl ?_
  refine g_getR (n := 4) (k := 1) dX8_earliest_1 sC_8 vc_12 (Nat.le_of_ble_eq_true rfl) rfl w_401 rfl ?_
  refine g_getIE (n := 7) (k := 1) (x := (I 16 1)) dX8_earliest_4 sC_16 vc_6 (Nat.le_of_ble_eq_true rfl) rfl w_281 rfl rfl ?_
  refine g_iconst (n := 8) (v := (nI 1)) dX8_earliest_7 rfl rfl ?_
  refine g_icmp_ne (n := 11) 21 dX8_earliest_8 (by decide) rfl (fun hc => ?_) (fun hc => ?_)
  · have h := h.1 hc
    refine g_aload_n (n := 22) dX8_earliest_21 rfl rfl rfl ?_
    refine g_getR (n := 25) (k := 1) dX8_earliest_22 sC_8 vc_12 (Nat.le_of_ble_eq_true rfl) rfl w_401 rfl ?_
    refine g_getR (n := 28) (k := 3) dX8_earliest_25 sC_16 vc_6 (Nat.le_of_ble_eq_true rfl) rfl w_287 rfl ?_
    refine g_less (bc' := 0) (bs' := 0) (Nat.le_of_ble_eq_true rfl) (Nat.le_of_ble_eq_true rfl) ?_
    exact tjX8_earliest_28  _ _ _ h
  · have h := h.2 hc
    refine g_aload_n (n := 12) dX8_earliest_11 rfl rfl rfl ?_
    refine g_getR (n := 15) (k := 1) dX8_earliest_12 sC_8 vc_12 (Nat.le_of_ble_eq_true rfl) rfl w_401 rfl ?_
    refine g_getR (n := 18) (k := 4) dX8_earliest_15 sC_16 vc_6 (Nat.le_of_ble_eq_true rfl) rfl w_290 rfl ?_
    refine g_goto 28 dX8_earliest_18 (by decide) ?_
    refine g_less (bc' := 0) (bs' := 0) (Nat.le_of_ble_eq_true rfl) (Nat.le_of_ble_eq_true rfl) ?_
    exact tjX8_earliest_28_2  _ _ _ h
def wjX8_nextVictim_33 (K : Int32 → ab_F → ab_F → Prop) (s0 : Int32) (I A : ab_F) : Prop := ((¬ s0 = (-1 : Int32) → K s0 I A) ∧ (s0 = (-1 : Int32) → wX8_earliest (fun r_6 I_4 A_5 => K r_6 I_4 A_5) I A (nI 0)))
def wX8_nextVictim (K : Int32 → ab_F → ab_F → Prop) (I A : ab_F)  : Prop := wX2_firstFree (fun r_3 I_1 A_2 => ((r_3 = (-1 : Int32) → ((¬ (I_1 16 1) = (nI 2) → wjX8_nextVictim_33 K (-1 : Int32) I_1 A_2) ∧ ((I_1 16 1) = (nI 2) → wX8_earliest (fun r_9 I_7 A_8 => wjX8_nextVictim_33 K r_9 I_7 A_8) I_1 A_2 (nI 1)))) ∧ (¬ r_3 = (-1 : Int32) → K (-1 : Int32) I_1 A_2))) I A 
set_option maxRecDepth 20000 in
theorem tjX8_nextVictim_33 {C : ab_X} {Z : ab_Z} {K : Int32 → ab_F → ab_F → Prop} (s0 : Int32) (I A : ab_F) (h : wjX8_nextVictim_33 K s0 I A) : ab_G mX8_nextVictim 2 C (ab_Px (shC Z) ab_no (ab_ri K)) 33 [some (.ref 8), none] [.int s0] (shC Z) I A 0 0 := by
  unfold wjX8_nextVictim_33 at h
  refine g_istore_n (n := 34) (ls' := [some (.ref 8), some (.int s0)]) dX8_nextVictim_33 rfl rfl (Nat.le_of_ble_eq_true rfl) (Nat.le_of_ble_eq_true rfl) rfl rfl ?_
  refine g_iload_n (n := 35) dX8_nextVictim_34 rfl rfl rfl ?_
  refine g_iconst (n := 36) (v := (-1 : Int32)) dX8_nextVictim_35 rfl rfl ?_
  refine g_icmp_ne (n := 39) 47 dX8_nextVictim_36 (by decide) rfl (fun hc => ?_) (fun hc => ?_)
  · have h := h.1 hc
    refine g_iload_n (n := 48) dX8_nextVictim_47 rfl rfl rfl ?_
    exact g_iret rfl rfl dX8_nextVictim_48 ⟨rfl, _, rfl, h⟩
  · have h := h.2 hc
    refine g_aload_n (n := 40) dX8_nextVictim_39 rfl rfl rfl ?_
    refine g_iconst (n := 41) (v := (nI 0)) dX8_nextVictim_40 rfl rfl ?_
    refine g_callV (n := 44) (as := [.int (nI 0)]) (bc' := 0) (bs' := 0) sC_8 vc_12 (ctX8_earliest h) okX8_earliest rfl w_830 w_832 w_12 w_100 dX8_nextVictim_41 rfl rfl (Nat.le_of_ble_eq_true rfl) (Nat.le_of_ble_eq_true rfl) (Nat.le_of_ble_eq_true rfl) (Nat.le_of_ble_eq_true rfl) rfl (fun E sh1 I1 A1 hp _ => hp.2.elim) (fun ro sh_ I_4 A_5 hp hle => ?_)
    obtain ⟨rfl, r_6, rfl, h⟩ := hp
    refine g_goto 48 dX8_nextVictim_44 (by decide) ?_
    exact g_iret rfl rfl dX8_nextVictim_48 ⟨rfl, _, rfl, h⟩
set_option maxRecDepth 20000 in
theorem ctX8_nextVictim {Z : ab_Z} {K : Int32 → ab_F → ab_F → Prop} {I A : ab_F}  (h : wX8_nextVictim K I A ) : ab_Cl mX8_nextVictim 2 0 0 [.ref 8] (shC Z) I A (ab_Px (shC Z) ab_no (ab_ri K)) := by
  refine ab_enter (ls := [some (.ref 8), none]) (by decide +kernel) (Nat.le_of_ble_eq_true rfl) rfl (fun C => ?_)
  unfold wX8_nextVictim at h
  refine g_aload_n (n := 1) dX8_nextVictim_0 rfl rfl rfl ?_
  refine g_getR (n := 4) (k := 1) dX8_nextVictim_1 sC_8 vc_12 (Nat.le_of_ble_eq_true rfl) rfl w_401 rfl ?_
  refine g_callV (n := 7) (as := []) (bc' := 0) (bs' := 0) sC_16 vc_6 (ctX2_firstFree h) okX2_firstFree rfl w_826 w_827 w_828 w_102 dX8_nextVictim_4 rfl rfl (Nat.le_of_ble_eq_true rfl) (Nat.le_of_ble_eq_true rfl) (Nat.le_of_ble_eq_true rfl) (Nat.le_of_ble_eq_true rfl) rfl (fun E sh1 I1 A1 hp _ => hp.2.elim) (fun ro sh_ I_1 A_2 hp hle => ?_)
  obtain ⟨rfl, r_3, rfl, h⟩ := hp
  refine g_iconst (n := 8) (v := (-1 : Int32)) dX8_nextVictim_7 rfl rfl ?_
  refine g_icmp_eq (n := 11) 13 dX8_nextVictim_8 (by decide) rfl (fun hc => ?_) (fun hc => ?_)
  · have h := h.1 hc
    refine g_aload_n (n := 14) dX8_nextVictim_13 rfl rfl rfl ?_
    refine g_getR (n := 17) (k := 1) dX8_nextVictim_14 sC_8 vc_12 (Nat.le_of_ble_eq_true rfl) rfl w_401 rfl ?_
    refine g_getIE (n := 20) (k := 1) (x := (I_1 16 1)) dX8_nextVictim_17 sC_16 vc_6 (Nat.le_of_ble_eq_true rfl) rfl w_281 rfl rfl ?_
    refine g_iconst (n := 21) (v := (nI 2)) dX8_nextVictim_20 rfl rfl ?_
    refine g_icmp_ne (n := 24) 32 dX8_nextVictim_21 (by decide) rfl (fun hc => ?_) (fun hc => ?_)
    · have h := h.1 hc
      refine g_iconst (n := 33) (v := (-1 : Int32)) dX8_nextVictim_32 rfl rfl ?_
      refine g_less (bc' := 0) (bs' := 0) (Nat.le_of_ble_eq_true rfl) (Nat.le_of_ble_eq_true rfl) ?_
      exact tjX8_nextVictim_33  _ _ _ h
    · have h := h.2 hc
      refine g_aload_n (n := 25) dX8_nextVictim_24 rfl rfl rfl ?_
      refine g_iconst (n := 26) (v := (nI 1)) dX8_nextVictim_25 rfl rfl ?_
      refine g_callV (n := 29) (as := [.int (nI 1)]) (bc' := 0) (bs' := 0) sC_8 vc_12 (ctX8_earliest h) okX8_earliest rfl w_830 w_832 w_12 w_100 dX8_nextVictim_26 rfl rfl (Nat.le_of_ble_eq_true rfl) (Nat.le_of_ble_eq_true rfl) (Nat.le_of_ble_eq_true rfl) (Nat.le_of_ble_eq_true rfl) rfl (fun E sh1 I1 A1 hp _ => hp.2.elim) (fun ro sh_ I_7 A_8 hp hle => ?_)
      obtain ⟨rfl, r_9, rfl, h⟩ := hp
      refine g_goto 33 dX8_nextVictim_29 (by decide) ?_
      refine g_less (bc' := 0) (bs' := 0) (Nat.le_of_ble_eq_true rfl) (Nat.le_of_ble_eq_true rfl) ?_
      exact tjX8_nextVictim_33  _ _ _ h
  · have h := h.2 hc
    refine g_iconst (n := 12) (v := (-1 : Int32)) dX8_nextVictim_11 rfl rfl ?_
    exact g_iret rfl rfl dX8_nextVictim_12 ⟨rfl, _, rfl, h⟩
def wjX8_markUses_89 (K : ab_F → ab_F → Prop) (L23 : Int32 → ab_F → ab_F → Prop) (x1 : Int32) (I A : ab_F) : Prop := (∃ j_3 : Nat, x1 = nI j_3 ∧ j_3 < 48 ∧ (((A 25 j_3) < 0 → L23 (x1 + nI 1) I A) ∧ (¬ (A 25 j_3) < 0 → (∃ j_4 : Nat, x1 = nI j_4 ∧ j_4 < 48 ∧ (∃ j_5 : Nat, (A 25 j_4) = nI j_5 ∧ j_5 < 48 ∧ (∃ j_6 : Nat, (A 25 j_4) = nI j_6 ∧ j_6 < 48 ∧ L23 (x1 + nI 1) I (wr A 31 j_6 ((A 31 j_5) ||| (nI 4)))))))))
def wjX8_markUses_59 (K : ab_F → ab_F → Prop) (L23 : Int32 → ab_F → ab_F → Prop) (x1 : Int32) (I A : ab_F) : Prop := (∃ j_2 : Nat, x1 = nI j_2 ∧ j_2 < 48 ∧ (((A 27 j_2) < 0 → wjX8_markUses_89 K L23 x1 I A) ∧ (¬ (A 27 j_2) < 0 → (∃ j_7 : Nat, x1 = nI j_7 ∧ j_7 < 48 ∧ (∃ j_8 : Nat, (A 27 j_7) = nI j_8 ∧ j_8 < 48 ∧ (∃ j_9 : Nat, (A 27 j_7) = nI j_9 ∧ j_9 < 48 ∧ wjX8_markUses_89 K L23 x1 I (wr A 31 j_9 ((A 31 j_8) ||| (nI 2)))))))))
def wlX8_markUses_23 (K : ab_F → ab_F → Prop) : Nat → Int32 → ab_F → ab_F → Prop
  | 0, _, _, _ => False
  | n + 1, x1, I, A => (((nI 48) ≤ x1 → K I A) ∧ (¬ (nI 48) ≤ x1 → (∃ j_1 : Nat, x1 = nI j_1 ∧ j_1 < 48 ∧ (((A 15 j_1) < 0 → wjX8_markUses_59 K (wlX8_markUses_23 K n) x1 I A) ∧ (¬ (A 15 j_1) < 0 → (∃ j_10 : Nat, x1 = nI j_10 ∧ j_10 < 48 ∧ (∃ j_11 : Nat, (A 15 j_10) = nI j_11 ∧ j_11 < 48 ∧ (∃ j_12 : Nat, (A 15 j_10) = nI j_12 ∧ j_12 < 48 ∧ wjX8_markUses_59 K (wlX8_markUses_23 K n) x1 I (wr A 31 j_12 ((A 31 j_11) ||| (nI 1)))))))))))
def wlX8_markUses_2 (K : ab_F → ab_F → Prop) : Nat → Int32 → ab_F → ab_F → Prop
  | 0, _, _, _ => False
  | n + 1, x1, I, A => (((nI 48) ≤ x1 → (∃ nf : Nat, wlX8_markUses_23 K nf (nI 0) I A)) ∧ (¬ (nI 48) ≤ x1 → (∃ j_13 : Nat, x1 = nI j_13 ∧ j_13 < 48 ∧ (wlX8_markUses_2 K n) (x1 + nI 1) I (wr A 31 j_13 (nI 0)))))
def wX8_markUses (K : ab_F → ab_F → Prop) (I A : ab_F)  : Prop := (∃ nf : Nat, wlX8_markUses_2 K nf (nI 0) I A)
set_option maxRecDepth 20000 in
theorem tjX8_markUses_89 {C : ab_X} {Z : ab_Z} {K : ab_F → ab_F → Prop} {L23 : Int32 → ab_F → ab_F → Prop} (hL23 : ∀ (x1 : Int32) (I A : ab_F), L23 x1 I A → ab_G mX8_markUses 0 C (ab_Px (shC Z) ab_no (ab_rr 31 K)) 23 [some (.ref 8), some (.int x1)] [] (shC Z) I A 0 0) (x1 : Int32) (I A : ab_F) (h : wjX8_markUses_89 K L23 x1 I A) : ab_G mX8_markUses 0 C (ab_Px (shC Z) ab_no (ab_rr 31 K)) 89 [some (.ref 8), some (.int x1)] [] (shC Z) I A 0 0 := by
  unfold wjX8_markUses_89 at h
  refine g_aload_n (n := 90) dX8_markUses_89 rfl rfl rfl ?_
  refine g_getR (n := 93) (k := 3) dX8_markUses_90 sC_8 vc_12 (Nat.le_of_ble_eq_true rfl) rfl w_405 rfl ?_
  refine g_getR (n := 96) (k := 4) dX8_markUses_93 sC_24 vc_5 (Nat.le_of_ble_eq_true rfl) rfl w_350 rfl ?_
  refine g_iload_n (n := 97) dX8_markUses_96 rfl rfl rfl ?_
  obtain ⟨j_3, hj, hl, h⟩ := h
  refine g_ialdJ (n := 98) (j := j_3) (x := (A 25 j_3)) dX8_markUses_97 sC_25 hj hl (by decide) rfl rfl ?_
  refine g_if_lt (n := 101) 119 dX8_markUses_98 (by decide) rfl (fun hc => ?_) (fun hc => ?_)
  · have h := h.1 hc
    refine g_iinc (n := 122) (v := (x1 + nI 1)) (ls' := [some (.ref 8), some (.int (x1 + nI 1))]) dX8_markUses_119 rfl rfl rfl (Nat.le_of_ble_eq_true rfl) rfl rfl ?_
    refine g_goto 23 dX8_markUses_122 (by decide) ?_
    exact hL23 _ _ _ h
  · have h := h.2 hc
    refine g_aload_n (n := 102) dX8_markUses_101 rfl rfl rfl ?_
    refine g_getR (n := 105) (k := 6) dX8_markUses_102 sC_8 vc_12 (Nat.le_of_ble_eq_true rfl) rfl w_411 rfl ?_
    refine g_aload_n (n := 106) dX8_markUses_105 rfl rfl rfl ?_
    refine g_getR (n := 109) (k := 3) dX8_markUses_106 sC_8 vc_12 (Nat.le_of_ble_eq_true rfl) rfl w_405 rfl ?_
    refine g_getR (n := 112) (k := 4) dX8_markUses_109 sC_24 vc_5 (Nat.le_of_ble_eq_true rfl) rfl w_350 rfl ?_
    refine g_iload_n (n := 113) dX8_markUses_112 rfl rfl rfl ?_
    obtain ⟨j_4, hj, hl, h⟩ := h
    refine g_ialdJ (n := 114) (j := j_4) (x := (A 25 j_4)) dX8_markUses_113 sC_25 hj hl (by decide) rfl rfl ?_
    refine g_dup2 (n := 115) dX8_markUses_114 rfl rfl rfl ?_
    obtain ⟨j_5, hj, hl, h⟩ := h
    refine g_ialdJ (n := 116) (j := j_5) (x := (A 31 j_5)) dX8_markUses_115 sC_31 hj hl (by decide) rfl rfl ?_
    refine g_iconst (n := 117) (v := (nI 4)) dX8_markUses_116 rfl rfl ?_
    refine g_ior (n := 118) dX8_markUses_117 rfl ?_
    obtain ⟨j_6, hj, hl, h⟩ := h
    refine g_iastJ (n := 119) (j := j_6) dX8_markUses_118 sC_31 hj hl (by decide) rfl ?_
    refine g_iinc (n := 122) (v := (x1 + nI 1)) (ls' := [some (.ref 8), some (.int (x1 + nI 1))]) dX8_markUses_119 rfl rfl rfl (Nat.le_of_ble_eq_true rfl) rfl rfl ?_
    refine g_goto 23 dX8_markUses_122 (by decide) ?_
    exact hL23 _ _ _ h
set_option maxRecDepth 20000 in
theorem tjX8_markUses_59 {C : ab_X} {Z : ab_Z} {K : ab_F → ab_F → Prop} {L23 : Int32 → ab_F → ab_F → Prop} (hL23 : ∀ (x1 : Int32) (I A : ab_F), L23 x1 I A → ab_G mX8_markUses 0 C (ab_Px (shC Z) ab_no (ab_rr 31 K)) 23 [some (.ref 8), some (.int x1)] [] (shC Z) I A 0 0) (x1 : Int32) (I A : ab_F) (h : wjX8_markUses_59 K L23 x1 I A) : ab_G mX8_markUses 0 C (ab_Px (shC Z) ab_no (ab_rr 31 K)) 59 [some (.ref 8), some (.int x1)] [] (shC Z) I A 0 0 := by
  unfold wjX8_markUses_59 at h
  refine g_aload_n (n := 60) dX8_markUses_59 rfl rfl rfl ?_
  refine g_getR (n := 63) (k := 3) dX8_markUses_60 sC_8 vc_12 (Nat.le_of_ble_eq_true rfl) rfl w_405 rfl ?_
  refine g_getR (n := 66) (k := 6) dX8_markUses_63 sC_24 vc_5 (Nat.le_of_ble_eq_true rfl) rfl w_355 rfl ?_
  refine g_iload_n (n := 67) dX8_markUses_66 rfl rfl rfl ?_
  obtain ⟨j_2, hj, hl, h⟩ := h
  refine g_ialdJ (n := 68) (j := j_2) (x := (A 27 j_2)) dX8_markUses_67 sC_27 hj hl (by decide) rfl rfl ?_
  refine g_if_lt (n := 71) 89 dX8_markUses_68 (by decide) rfl (fun hc => ?_) (fun hc => ?_)
  · have h := h.1 hc
    refine g_less (bc' := 0) (bs' := 0) (Nat.le_of_ble_eq_true rfl) (Nat.le_of_ble_eq_true rfl) ?_
    exact tjX8_markUses_89 hL23 _ _ _ h
  · have h := h.2 hc
    refine g_aload_n (n := 72) dX8_markUses_71 rfl rfl rfl ?_
    refine g_getR (n := 75) (k := 6) dX8_markUses_72 sC_8 vc_12 (Nat.le_of_ble_eq_true rfl) rfl w_411 rfl ?_
    refine g_aload_n (n := 76) dX8_markUses_75 rfl rfl rfl ?_
    refine g_getR (n := 79) (k := 3) dX8_markUses_76 sC_8 vc_12 (Nat.le_of_ble_eq_true rfl) rfl w_405 rfl ?_
    refine g_getR (n := 82) (k := 6) dX8_markUses_79 sC_24 vc_5 (Nat.le_of_ble_eq_true rfl) rfl w_355 rfl ?_
    refine g_iload_n (n := 83) dX8_markUses_82 rfl rfl rfl ?_
    obtain ⟨j_7, hj, hl, h⟩ := h
    refine g_ialdJ (n := 84) (j := j_7) (x := (A 27 j_7)) dX8_markUses_83 sC_27 hj hl (by decide) rfl rfl ?_
    refine g_dup2 (n := 85) dX8_markUses_84 rfl rfl rfl ?_
    obtain ⟨j_8, hj, hl, h⟩ := h
    refine g_ialdJ (n := 86) (j := j_8) (x := (A 31 j_8)) dX8_markUses_85 sC_31 hj hl (by decide) rfl rfl ?_
    refine g_iconst (n := 87) (v := (nI 2)) dX8_markUses_86 rfl rfl ?_
    refine g_ior (n := 88) dX8_markUses_87 rfl ?_
    obtain ⟨j_9, hj, hl, h⟩ := h
    refine g_iastJ (n := 89) (j := j_9) dX8_markUses_88 sC_31 hj hl (by decide) rfl ?_
    refine g_less (bc' := 0) (bs' := 0) (Nat.le_of_ble_eq_true rfl) (Nat.le_of_ble_eq_true rfl) ?_
    exact tjX8_markUses_89 hL23 _ _ _ h
set_option maxRecDepth 20000 in
theorem tlX8_markUses_23 {C : ab_X} {Z : ab_Z} {K : ab_F → ab_F → Prop} : ∀ (n : Nat) (x1 : Int32) (I A : ab_F), wlX8_markUses_23 K n x1 I A → ab_G mX8_markUses 0 C (ab_Px (shC Z) ab_no (ab_rr 31 K)) 23 [some (.ref 8), some (.int x1)] [] (shC Z) I A 0 0 := by
  intro n
  induction n with
  | zero => intro x1 I A h; exact h.elim
  | succ n hL23 =>
    intro x1 I A h
    rw [wlX8_markUses_23] at h
    refine g_iload_n (n := 24) dX8_markUses_23 rfl rfl rfl ?_
    refine g_bipush (n := 26) (v := (nI 48)) dX8_markUses_24 rfl rfl ?_
    refine g_icmp_ge (n := 29) 125 dX8_markUses_26 (by decide) rfl (fun hc => ?_) (fun hc => ?_)
    · have h := h.1 hc
      refine g_aload_n (n := 126) dX8_markUses_125 rfl rfl rfl ?_
      refine g_getR (n := 129) (k := 6) dX8_markUses_126 sC_8 vc_12 (Nat.le_of_ble_eq_true rfl) rfl w_411 rfl ?_
      exact g_aret (n := 0) rfl (Or.inr ⟨_, rfl⟩) dX8_markUses_129 ⟨rfl, rfl, h⟩
    · have h := h.2 hc
      refine g_aload_n (n := 30) dX8_markUses_29 rfl rfl rfl ?_
      refine g_getR (n := 33) (k := 0) dX8_markUses_30 sC_8 vc_12 (Nat.le_of_ble_eq_true rfl) rfl w_399 rfl ?_
      refine g_getR (n := 36) (k := 6) dX8_markUses_33 sC_9 vc_8 (Nat.le_of_ble_eq_true rfl) rfl w_254 rfl ?_
      refine g_iload_n (n := 37) dX8_markUses_36 rfl rfl rfl ?_
      obtain ⟨j_1, hj, hl, h⟩ := h
      refine g_ialdJ (n := 38) (j := j_1) (x := (A 15 j_1)) dX8_markUses_37 sC_15 hj hl (by decide) rfl rfl ?_
      refine g_if_lt (n := 41) 59 dX8_markUses_38 (by decide) rfl (fun hc => ?_) (fun hc => ?_)
      · have h := h.1 hc
        refine g_less (bc' := 0) (bs' := 0) (Nat.le_of_ble_eq_true rfl) (Nat.le_of_ble_eq_true rfl) ?_
        exact tjX8_markUses_59 hL23 _ _ _ h
      · have h := h.2 hc
        refine g_aload_n (n := 42) dX8_markUses_41 rfl rfl rfl ?_
        refine g_getR (n := 45) (k := 6) dX8_markUses_42 sC_8 vc_12 (Nat.le_of_ble_eq_true rfl) rfl w_411 rfl ?_
        refine g_aload_n (n := 46) dX8_markUses_45 rfl rfl rfl ?_
        refine g_getR (n := 49) (k := 0) dX8_markUses_46 sC_8 vc_12 (Nat.le_of_ble_eq_true rfl) rfl w_399 rfl ?_
        refine g_getR (n := 52) (k := 6) dX8_markUses_49 sC_9 vc_8 (Nat.le_of_ble_eq_true rfl) rfl w_254 rfl ?_
        refine g_iload_n (n := 53) dX8_markUses_52 rfl rfl rfl ?_
        obtain ⟨j_10, hj, hl, h⟩ := h
        refine g_ialdJ (n := 54) (j := j_10) (x := (A 15 j_10)) dX8_markUses_53 sC_15 hj hl (by decide) rfl rfl ?_
        refine g_dup2 (n := 55) dX8_markUses_54 rfl rfl rfl ?_
        obtain ⟨j_11, hj, hl, h⟩ := h
        refine g_ialdJ (n := 56) (j := j_11) (x := (A 31 j_11)) dX8_markUses_55 sC_31 hj hl (by decide) rfl rfl ?_
        refine g_iconst (n := 57) (v := (nI 1)) dX8_markUses_56 rfl rfl ?_
        refine g_ior (n := 58) dX8_markUses_57 rfl ?_
        obtain ⟨j_12, hj, hl, h⟩ := h
        refine g_iastJ (n := 59) (j := j_12) dX8_markUses_58 sC_31 hj hl (by decide) rfl ?_
        refine g_less (bc' := 0) (bs' := 0) (Nat.le_of_ble_eq_true rfl) (Nat.le_of_ble_eq_true rfl) ?_
        exact tjX8_markUses_59 hL23 _ _ _ h
set_option maxRecDepth 20000 in
theorem tlX8_markUses_2 {C : ab_X} {Z : ab_Z} {K : ab_F → ab_F → Prop} : ∀ (n : Nat) (x1 : Int32) (I A : ab_F), wlX8_markUses_2 K n x1 I A → ab_G mX8_markUses 0 C (ab_Px (shC Z) ab_no (ab_rr 31 K)) 2 [some (.ref 8), some (.int x1)] [] (shC Z) I A 0 0 := by
  intro n
  induction n with
  | zero => intro x1 I A h; exact h.elim
  | succ n hL2 =>
    intro x1 I A h
    rw [wlX8_markUses_2] at h
    refine g_iload_n (n := 3) dX8_markUses_2 rfl rfl rfl ?_
    refine g_bipush (n := 5) (v := (nI 48)) dX8_markUses_3 rfl rfl ?_
    refine g_icmp_ge (n := 8) 21 dX8_markUses_5 (by decide) rfl (fun hc => ?_) (fun hc => ?_)
    · have h := h.1 hc
      refine g_iconst (n := 22) (v := (nI 0)) dX8_markUses_21 rfl rfl ?_
      refine g_istore_n (n := 23) (ls' := [some (.ref 8), some (.int (nI 0))]) dX8_markUses_22 rfl rfl (Nat.le_of_ble_eq_true rfl) (Nat.le_of_ble_eq_true rfl) rfl rfl ?_
      refine g_less (bc' := 0) (bs' := 0) (Nat.le_of_ble_eq_true rfl) (Nat.le_of_ble_eq_true rfl) ?_
      obtain ⟨n_f, h⟩ := h
      exact tlX8_markUses_23  n_f _ _ _ h
    · have h := h.2 hc
      refine g_aload_n (n := 9) dX8_markUses_8 rfl rfl rfl ?_
      refine g_getR (n := 12) (k := 6) dX8_markUses_9 sC_8 vc_12 (Nat.le_of_ble_eq_true rfl) rfl w_411 rfl ?_
      refine g_iload_n (n := 13) dX8_markUses_12 rfl rfl rfl ?_
      refine g_iconst (n := 14) (v := (nI 0)) dX8_markUses_13 rfl rfl ?_
      obtain ⟨j_13, hj, hl, h⟩ := h
      refine g_iastJ (n := 15) (j := j_13) dX8_markUses_14 sC_31 hj hl (by decide) rfl ?_
      refine g_iinc (n := 18) (v := (x1 + nI 1)) (ls' := [some (.ref 8), some (.int (x1 + nI 1))]) dX8_markUses_15 rfl rfl rfl (Nat.le_of_ble_eq_true rfl) rfl rfl ?_
      refine g_goto 2 dX8_markUses_18 (by decide) ?_
      exact hL2 _ _ _ h
set_option maxRecDepth 20000 in
theorem ctX8_markUses {Z : ab_Z} {K : ab_F → ab_F → Prop} {I A : ab_F}  (h : wX8_markUses K I A ) : ab_Cl mX8_markUses 0 0 0 [.ref 8] (shC Z) I A (ab_Px (shC Z) ab_no (ab_rr 31 K)) := by
  refine ab_enter (ls := [some (.ref 8), none]) (by decide +kernel) (Nat.le_of_ble_eq_true rfl) rfl (fun C => ?_)
  unfold wX8_markUses at h
  refine g_iconst (n := 1) (v := (nI 0)) dX8_markUses_0 rfl rfl ?_
  refine g_istore_n (n := 2) (ls' := [some (.ref 8), some (.int (nI 0))]) dX8_markUses_1 rfl rfl (Nat.le_of_ble_eq_true rfl) (Nat.le_of_ble_eq_true rfl) rfl rfl ?_
  refine g_less (bc' := 0) (bs' := 0) (Nat.le_of_ble_eq_true rfl) (Nat.le_of_ble_eq_true rfl) ?_
  obtain ⟨n_f, h⟩ := h
  exact tlX8_markUses_2  n_f _ _ _ h
def wjX8_leastStampedUnused_29 (K : Int32 → ab_F → ab_F → Prop) (L4 : Int32 → Int32 → ab_F → ab_F → Prop) (x1 : Int32) (x2 : Int32) (s0 : Int32) (I A : ab_F) : Prop := ((s0 = 0 → L4 x1 (x2 + nI 1) I A) ∧ (¬ s0 = 0 → ((x1 = (-1 : Int32) → L4 x2 (x2 + nI 1) I A) ∧ (¬ x1 = (-1 : Int32) → (∃ j_2 : Nat, x2 = nI j_2 ∧ j_2 < 48 ∧ (∃ j_3 : Nat, x1 = nI j_3 ∧ j_3 < 48 ∧ (((A 23 j_3) ≤ (A 23 j_2) → L4 x1 (x2 + nI 1) I A) ∧ (¬ (A 23 j_3) ≤ (A 23 j_2) → L4 x2 (x2 + nI 1) I A))))))))
def wlX8_leastStampedUnused_4 (K : Int32 → ab_F → ab_F → Prop) : Nat → Int32 → Int32 → ab_F → ab_F → Prop
  | 0, _, _, _, _ => False
  | n + 1, x1, x2, I, A => (((I 20 0) ≤ x2 → K x1 I A) ∧ (¬ (I 20 0) ≤ x2 → (∃ j_1 : Nat, x2 = nI j_1 ∧ j_1 < 48 ∧ ((¬ (A 31 j_1) = 0 → wjX8_leastStampedUnused_29 K (wlX8_leastStampedUnused_4 K n) x1 x2 (nI 0) I A) ∧ ((A 31 j_1) = 0 → wjX8_leastStampedUnused_29 K (wlX8_leastStampedUnused_4 K n) x1 x2 (nI 1) I A)))))
def wX8_leastStampedUnused (K : Int32 → ab_F → ab_F → Prop) (I A : ab_F)  : Prop := (∃ nf : Nat, wlX8_leastStampedUnused_4 K nf (-1 : Int32) (nI 0) I A)
set_option maxRecDepth 20000 in
theorem tjX8_leastStampedUnused_29 {C : ab_X} {Z : ab_Z} {K : Int32 → ab_F → ab_F → Prop} {L4 : Int32 → Int32 → ab_F → ab_F → Prop} (hL4 : ∀ (x1 : Int32) (x2 : Int32) (I A : ab_F), L4 x1 x2 I A → ab_G mX8_leastStampedUnused 0 C (ab_Px (shC Z) ab_no (ab_ri K)) 4 [some (.ref 8), some (.int x1), some (.int x2), none] [] (shC Z) I A 0 0) (x1 : Int32) (x2 : Int32) (s0 : Int32) (I A : ab_F) (h : wjX8_leastStampedUnused_29 K L4 x1 x2 s0 I A) : ab_G mX8_leastStampedUnused 0 C (ab_Px (shC Z) ab_no (ab_ri K)) 29 [some (.ref 8), some (.int x1), some (.int x2), none] [.int s0] (shC Z) I A 0 0 := by
  unfold wjX8_leastStampedUnused_29 at h
  refine g_istore_n (n := 30) (ls' := [some (.ref 8), some (.int x1), some (.int x2), some (.int s0)]) dX8_leastStampedUnused_29 rfl rfl (Nat.le_of_ble_eq_true rfl) (Nat.le_of_ble_eq_true rfl) rfl rfl ?_
  refine g_iload_n (n := 31) dX8_leastStampedUnused_30 rfl rfl rfl ?_
  refine g_if_eq (n := 34) 62 dX8_leastStampedUnused_31 (by decide) rfl (fun hc => ?_) (fun hc => ?_)
  · have h := h.1 hc
    refine g_iinc (n := 65) (v := (x2 + nI 1)) (ls' := [some (.ref 8), some (.int x1), some (.int (x2 + nI 1)), some (.int s0)]) dX8_leastStampedUnused_62 rfl rfl rfl (Nat.le_of_ble_eq_true rfl) rfl rfl ?_
    refine g_goto 4 dX8_leastStampedUnused_65 (by decide) ?_
    refine g_forget (ls' := [some (.ref 8), some (.int x1), some (.int (x2 + nI 1)), none]) (ab_fg rfl) ?_
    exact hL4 _ _ _ _ h
  · have h := h.2 hc
    refine g_iload_n (n := 35) dX8_leastStampedUnused_34 rfl rfl rfl ?_
    refine g_iconst (n := 36) (v := (-1 : Int32)) dX8_leastStampedUnused_35 rfl rfl ?_
    refine g_icmp_eq (n := 39) 60 dX8_leastStampedUnused_36 (by decide) rfl (fun hc => ?_) (fun hc => ?_)
    · have h := h.1 hc
      refine g_iload_n (n := 61) dX8_leastStampedUnused_60 rfl rfl rfl ?_
      refine g_istore_n (n := 62) (ls' := [some (.ref 8), some (.int x2), some (.int x2), some (.int s0)]) dX8_leastStampedUnused_61 rfl rfl (Nat.le_of_ble_eq_true rfl) (Nat.le_of_ble_eq_true rfl) rfl rfl ?_
      refine g_iinc (n := 65) (v := (x2 + nI 1)) (ls' := [some (.ref 8), some (.int x2), some (.int (x2 + nI 1)), some (.int s0)]) dX8_leastStampedUnused_62 rfl rfl rfl (Nat.le_of_ble_eq_true rfl) rfl rfl ?_
      refine g_goto 4 dX8_leastStampedUnused_65 (by decide) ?_
      refine g_forget (ls' := [some (.ref 8), some (.int x2), some (.int (x2 + nI 1)), none]) (ab_fg rfl) ?_
      exact hL4 _ _ _ _ h
    · have h := h.2 hc
      refine g_aload_n (n := 40) dX8_leastStampedUnused_39 rfl rfl rfl ?_
      refine g_getR (n := 43) (k := 2) dX8_leastStampedUnused_40 sC_8 vc_12 (Nat.le_of_ble_eq_true rfl) rfl w_403 rfl ?_
      refine g_getR (n := 46) (k := 4) dX8_leastStampedUnused_43 sC_20 vc_11 (Nat.le_of_ble_eq_true rfl) rfl w_320 rfl ?_
      refine g_iload_n (n := 47) dX8_leastStampedUnused_46 rfl rfl rfl ?_
      obtain ⟨j_2, hj, hl, h⟩ := h
      refine g_ialdJ (n := 48) (j := j_2) (x := (A 23 j_2)) dX8_leastStampedUnused_47 sC_23 hj hl (by decide) rfl rfl ?_
      refine g_aload_n (n := 49) dX8_leastStampedUnused_48 rfl rfl rfl ?_
      refine g_getR (n := 52) (k := 2) dX8_leastStampedUnused_49 sC_8 vc_12 (Nat.le_of_ble_eq_true rfl) rfl w_403 rfl ?_
      refine g_getR (n := 55) (k := 4) dX8_leastStampedUnused_52 sC_20 vc_11 (Nat.le_of_ble_eq_true rfl) rfl w_320 rfl ?_
      refine g_iload_n (n := 56) dX8_leastStampedUnused_55 rfl rfl rfl ?_
      obtain ⟨j_3, hj, hl, h⟩ := h
      refine g_ialdJ (n := 57) (j := j_3) (x := (A 23 j_3)) dX8_leastStampedUnused_56 sC_23 hj hl (by decide) rfl rfl ?_
      refine g_icmp_ge (n := 60) 62 dX8_leastStampedUnused_57 (by decide) rfl (fun hc => ?_) (fun hc => ?_)
      · have h := h.1 hc
        refine g_iinc (n := 65) (v := (x2 + nI 1)) (ls' := [some (.ref 8), some (.int x1), some (.int (x2 + nI 1)), some (.int s0)]) dX8_leastStampedUnused_62 rfl rfl rfl (Nat.le_of_ble_eq_true rfl) rfl rfl ?_
        refine g_goto 4 dX8_leastStampedUnused_65 (by decide) ?_
        refine g_forget (ls' := [some (.ref 8), some (.int x1), some (.int (x2 + nI 1)), none]) (ab_fg rfl) ?_
        exact hL4 _ _ _ _ h
      · have h := h.2 hc
        refine g_iload_n (n := 61) dX8_leastStampedUnused_60 rfl rfl rfl ?_
        refine g_istore_n (n := 62) (ls' := [some (.ref 8), some (.int x2), some (.int x2), some (.int s0)]) dX8_leastStampedUnused_61 rfl rfl (Nat.le_of_ble_eq_true rfl) (Nat.le_of_ble_eq_true rfl) rfl rfl ?_
        refine g_iinc (n := 65) (v := (x2 + nI 1)) (ls' := [some (.ref 8), some (.int x2), some (.int (x2 + nI 1)), some (.int s0)]) dX8_leastStampedUnused_62 rfl rfl rfl (Nat.le_of_ble_eq_true rfl) rfl rfl ?_
        refine g_goto 4 dX8_leastStampedUnused_65 (by decide) ?_
        refine g_forget (ls' := [some (.ref 8), some (.int x2), some (.int (x2 + nI 1)), none]) (ab_fg rfl) ?_
        exact hL4 _ _ _ _ h
set_option maxRecDepth 20000 in
theorem tlX8_leastStampedUnused_4 {C : ab_X} {Z : ab_Z} {K : Int32 → ab_F → ab_F → Prop} : ∀ (n : Nat) (x1 : Int32) (x2 : Int32) (I A : ab_F), wlX8_leastStampedUnused_4 K n x1 x2 I A → ab_G mX8_leastStampedUnused 0 C (ab_Px (shC Z) ab_no (ab_ri K)) 4 [some (.ref 8), some (.int x1), some (.int x2), none] [] (shC Z) I A 0 0 := by
  intro n
  induction n with
  | zero => intro x1 x2 I A h; exact h.elim
  | succ n hL4 =>
    intro x1 x2 I A h
    rw [wlX8_leastStampedUnused_4] at h
    refine g_iload_n (n := 5) dX8_leastStampedUnused_4 rfl rfl rfl ?_
    refine g_aload_n (n := 6) dX8_leastStampedUnused_5 rfl rfl rfl ?_
    refine g_getR (n := 9) (k := 2) dX8_leastStampedUnused_6 sC_8 vc_12 (Nat.le_of_ble_eq_true rfl) rfl w_403 rfl ?_
    refine g_getIE (n := 12) (k := 0) (x := (I 20 0)) dX8_leastStampedUnused_9 sC_20 vc_11 (Nat.le_of_ble_eq_true rfl) rfl w_310 rfl rfl ?_
    refine g_icmp_ge (n := 15) 68 dX8_leastStampedUnused_12 (by decide) rfl (fun hc => ?_) (fun hc => ?_)
    · have h := h.1 hc
      refine g_iload_n (n := 69) dX8_leastStampedUnused_68 rfl rfl rfl ?_
      exact g_iret rfl rfl dX8_leastStampedUnused_69 ⟨rfl, _, rfl, h⟩
    · have h := h.2 hc
      refine g_aload_n (n := 16) dX8_leastStampedUnused_15 rfl rfl rfl ?_
      refine g_getR (n := 19) (k := 6) dX8_leastStampedUnused_16 sC_8 vc_12 (Nat.le_of_ble_eq_true rfl) rfl w_411 rfl ?_
      refine g_iload_n (n := 20) dX8_leastStampedUnused_19 rfl rfl rfl ?_
      obtain ⟨j_1, hj, hl, h⟩ := h
      refine g_ialdJ (n := 21) (j := j_1) (x := (A 31 j_1)) dX8_leastStampedUnused_20 sC_31 hj hl (by decide) rfl rfl ?_
      refine g_if_ne (n := 24) 28 dX8_leastStampedUnused_21 (by decide) rfl (fun hc => ?_) (fun hc => ?_)
      · have h := h.1 hc
        refine g_iconst (n := 29) (v := (nI 0)) dX8_leastStampedUnused_28 rfl rfl ?_
        refine g_less (bc' := 0) (bs' := 0) (Nat.le_of_ble_eq_true rfl) (Nat.le_of_ble_eq_true rfl) ?_
        exact tjX8_leastStampedUnused_29 hL4 _ _ _ _ _ h
      · have h := h.2 hc
        refine g_iconst (n := 25) (v := (nI 1)) dX8_leastStampedUnused_24 rfl rfl ?_
        refine g_goto 29 dX8_leastStampedUnused_25 (by decide) ?_
        refine g_less (bc' := 0) (bs' := 0) (Nat.le_of_ble_eq_true rfl) (Nat.le_of_ble_eq_true rfl) ?_
        exact tjX8_leastStampedUnused_29 hL4 _ _ _ _ _ h
set_option maxRecDepth 20000 in
theorem ctX8_leastStampedUnused {Z : ab_Z} {K : Int32 → ab_F → ab_F → Prop} {I A : ab_F}  (h : wX8_leastStampedUnused K I A ) : ab_Cl mX8_leastStampedUnused 0 0 0 [.ref 8] (shC Z) I A (ab_Px (shC Z) ab_no (ab_ri K)) := by
  refine ab_enter (ls := [some (.ref 8), none, none, none]) (by decide +kernel) (Nat.le_of_ble_eq_true rfl) rfl (fun C => ?_)
  unfold wX8_leastStampedUnused at h
  refine g_iconst (n := 1) (v := (-1 : Int32)) dX8_leastStampedUnused_0 rfl rfl ?_
  refine g_istore_n (n := 2) (ls' := [some (.ref 8), some (.int (-1 : Int32)), none, none]) dX8_leastStampedUnused_1 rfl rfl (Nat.le_of_ble_eq_true rfl) (Nat.le_of_ble_eq_true rfl) rfl rfl ?_
  refine g_iconst (n := 3) (v := (nI 0)) dX8_leastStampedUnused_2 rfl rfl ?_
  refine g_istore_n (n := 4) (ls' := [some (.ref 8), some (.int (-1 : Int32)), some (.int (nI 0)), none]) dX8_leastStampedUnused_3 rfl rfl (Nat.le_of_ble_eq_true rfl) (Nat.le_of_ble_eq_true rfl) rfl rfl ?_
  refine g_less (bc' := 0) (bs' := 0) (Nat.le_of_ble_eq_true rfl) (Nat.le_of_ble_eq_true rfl) ?_
  obtain ⟨n_f, h⟩ := h
  exact tlX8_leastStampedUnused_4  n_f _ _ _ _ h
def wX8_nextFree (K : Int32 → ab_F → ab_F → Prop) (I A : ab_F)  : Prop := wX8_markUses (fun I_1 A_2 => wX8_leastStampedUnused (fun r_5 I_3 A_4 => K r_5 I_3 A_4) I_1 A_2 ) I A 
set_option maxRecDepth 20000 in
theorem ctX8_nextFree {Z : ab_Z} {K : Int32 → ab_F → ab_F → Prop} {I A : ab_F}  (h : wX8_nextFree K I A ) : ab_Cl mX8_nextFree 1 0 0 [.ref 8] (shC Z) I A (ab_Px (shC Z) ab_no (ab_ri K)) := by
  refine ab_enter (ls := [some (.ref 8)]) (by decide +kernel) (Nat.le_of_ble_eq_true rfl) rfl (fun C => ?_)
  unfold wX8_nextFree at h
  refine g_aload_n (n := 1) dX8_nextFree_0 rfl rfl rfl ?_
  refine g_callV (n := 4) (as := []) (bc' := 0) (bs' := 0) sC_8 vc_12 (ctX8_markUses h) okX8_markUses rfl w_842 w_843 w_844 w_100 dX8_nextFree_1 rfl rfl (Nat.le_of_ble_eq_true rfl) (Nat.le_of_ble_eq_true rfl) (Nat.le_of_ble_eq_true rfl) (Nat.le_of_ble_eq_true rfl) rfl (fun E sh1 I1 A1 hp _ => hp.2.elim) (fun ro sh_ I_1 A_2 hp hle => ?_)
  obtain ⟨rfl, rfl, h⟩ := hp
  refine g_pop (n := 5) dX8_nextFree_4 rfl rfl ?_
  refine g_aload_n (n := 6) dX8_nextFree_5 rfl rfl rfl ?_
  refine g_callV (n := 9) (as := []) (bc' := 0) (bs' := 0) sC_8 vc_12 (ctX8_leastStampedUnused h) okX8_leastStampedUnused rfl w_846 w_848 w_13 w_100 dX8_nextFree_6 rfl rfl (Nat.le_of_ble_eq_true rfl) (Nat.le_of_ble_eq_true rfl) (Nat.le_of_ble_eq_true rfl) (Nat.le_of_ble_eq_true rfl) rfl (fun E sh1 I1 A1 hp _ => hp.2.elim) (fun ro sh_ I_3 A_4 hp hle => ?_)
  obtain ⟨rfl, r_5, rfl, h⟩ := hp
  exact g_iret rfl rfl dX8_nextFree_9 ⟨rfl, _, rfl, h⟩
def wjX8_lacksSlot_21 (K : Int32 → ab_F → ab_F → Prop) (s0 : Int32) (I A : ab_F) : Prop := ((s0 = (-1 : Int32) → K (nI 0) I A) ∧ (¬ s0 = (-1 : Int32) → (∃ j_2 : Nat, s0 = nI j_2 ∧ j_2 < 16 ∧ wX4_isDirty (fun r_5 I_3 A_4 => ((r_5 = 0 → K (nI 0) I_3 A_4) ∧ (¬ r_5 = 0 → wX8_nextFree (fun r_8 I_6 A_7 => ((¬ r_8 = (-1 : Int32) → K (nI 0) I_6 A_7) ∧ (r_8 = (-1 : Int32) → K (nI 1) I_6 A_7))) I_3 A_4 ))) I A (A 17 j_2))))
def wX8_lacksSlot (K : Int32 → ab_F → ab_F → Prop) (I A : ab_F) (p0 : Int32) : Prop := (∃ j_1 : Nat, p0 = nI j_1 ∧ j_1 < 48 ∧ ((¬ (A 14 j_1) = (-1 : Int32) → wjX8_lacksSlot_21 K (-1 : Int32) I A) ∧ ((A 14 j_1) = (-1 : Int32) → wX8_nextVictim (fun r_11 I_9 A_10 => wjX8_lacksSlot_21 K r_11 I_9 A_10) I A )))
set_option maxRecDepth 20000 in
theorem tjX8_lacksSlot_21 {C : ab_X} {Z : ab_Z} {K : Int32 → ab_F → ab_F → Prop} (s0 : Int32) (I A : ab_F) (h : wjX8_lacksSlot_21 K s0 I A) : ab_G mX8_lacksSlot 3 C (ab_Px (shC Z) ab_no (ab_ri K)) 21 [some (.ref 8), none, none] [.int s0] (shC Z) I A 0 0 := by
  unfold wjX8_lacksSlot_21 at h
  refine g_istore_n (n := 22) (ls' := [some (.ref 8), none, some (.int s0)]) dX8_lacksSlot_21 rfl rfl (Nat.le_of_ble_eq_true rfl) (Nat.le_of_ble_eq_true rfl) rfl rfl ?_
  refine g_iload_n (n := 23) dX8_lacksSlot_22 rfl rfl rfl ?_
  refine g_iconst (n := 24) (v := (-1 : Int32)) dX8_lacksSlot_23 rfl rfl ?_
  refine g_icmp_eq (n := 27) 58 dX8_lacksSlot_24 (by decide) rfl (fun hc => ?_) (fun hc => ?_)
  · have h := h.1 hc
    refine g_iconst (n := 59) (v := (nI 0)) dX8_lacksSlot_58 rfl rfl ?_
    exact g_iret rfl rfl dX8_lacksSlot_59 ⟨rfl, _, rfl, h⟩
  · have h := h.2 hc
    refine g_aload_n (n := 28) dX8_lacksSlot_27 rfl rfl rfl ?_
    refine g_getR (n := 31) (k := 0) dX8_lacksSlot_28 sC_8 vc_12 (Nat.le_of_ble_eq_true rfl) rfl w_399 rfl ?_
    refine g_aload_n (n := 32) dX8_lacksSlot_31 rfl rfl rfl ?_
    refine g_getR (n := 35) (k := 1) dX8_lacksSlot_32 sC_8 vc_12 (Nat.le_of_ble_eq_true rfl) rfl w_401 rfl ?_
    refine g_getR (n := 38) (k := 2) dX8_lacksSlot_35 sC_16 vc_6 (Nat.le_of_ble_eq_true rfl) rfl w_284 rfl ?_
    refine g_iload_n (n := 39) dX8_lacksSlot_38 rfl rfl rfl ?_
    obtain ⟨j_2, hj, hl, h⟩ := h
    refine g_ialdJ (n := 40) (j := j_2) (x := (A 17 j_2)) dX8_lacksSlot_39 sC_17 hj hl (by decide) rfl rfl ?_
    refine g_callV (n := 43) (as := [.int (A 17 j_2)]) (bc' := 0) (bs' := 0) sC_9 vc_8 (ctX4_isDirty h) okX4_isDirty rfl w_834 w_835 w_836 w_101 dX8_lacksSlot_40 rfl rfl (Nat.le_of_ble_eq_true rfl) (Nat.le_of_ble_eq_true rfl) (Nat.le_of_ble_eq_true rfl) (Nat.le_of_ble_eq_true rfl) rfl (fun E sh1 I1 A1 hp _ => hp.2.elim) (fun ro sh_ I_3 A_4 hp hle => ?_)
    obtain ⟨rfl, r_5, rfl, h⟩ := hp
    refine g_if_eq (n := 46) 58 dX8_lacksSlot_43 (by decide) rfl (fun hc => ?_) (fun hc => ?_)
    · have h := h.1 hc
      refine g_iconst (n := 59) (v := (nI 0)) dX8_lacksSlot_58 rfl rfl ?_
      exact g_iret rfl rfl dX8_lacksSlot_59 ⟨rfl, _, rfl, h⟩
    · have h := h.2 hc
      refine g_aload_n (n := 47) dX8_lacksSlot_46 rfl rfl rfl ?_
      refine g_callV (n := 50) (as := []) (bc' := 0) (bs' := 0) sC_8 vc_12 (ctX8_nextFree h) okX8_nextFree rfl w_838 w_839 w_840 w_100 dX8_lacksSlot_47 rfl rfl (Nat.le_of_ble_eq_true rfl) (Nat.le_of_ble_eq_true rfl) (Nat.le_of_ble_eq_true rfl) (Nat.le_of_ble_eq_true rfl) rfl (fun E sh1 I1 A1 hp _ => hp.2.elim) (fun ro sh_ I_6 A_7 hp hle => ?_)
      obtain ⟨rfl, r_8, rfl, h⟩ := hp
      refine g_iconst (n := 51) (v := (-1 : Int32)) dX8_lacksSlot_50 rfl rfl ?_
      refine g_icmp_ne (n := 54) 58 dX8_lacksSlot_51 (by decide) rfl (fun hc => ?_) (fun hc => ?_)
      · have h := h.1 hc
        refine g_iconst (n := 59) (v := (nI 0)) dX8_lacksSlot_58 rfl rfl ?_
        exact g_iret rfl rfl dX8_lacksSlot_59 ⟨rfl, _, rfl, h⟩
      · have h := h.2 hc
        refine g_iconst (n := 55) (v := (nI 1)) dX8_lacksSlot_54 rfl rfl ?_
        refine g_goto 59 dX8_lacksSlot_55 (by decide) ?_
        exact g_iret rfl rfl dX8_lacksSlot_59 ⟨rfl, _, rfl, h⟩
set_option maxRecDepth 20000 in
theorem ctX8_lacksSlot {Z : ab_Z} {K : Int32 → ab_F → ab_F → Prop} {I A : ab_F} {p0 : Int32} (h : wX8_lacksSlot K I A p0) : ab_Cl mX8_lacksSlot 3 0 0 [.ref 8, .int p0] (shC Z) I A (ab_Px (shC Z) ab_no (ab_ri K)) := by
  refine ab_enter (ls := [some (.ref 8), some (.int p0), none]) (by decide +kernel) (Nat.le_of_ble_eq_true rfl) rfl (fun C => ?_)
  unfold wX8_lacksSlot at h
  refine g_aload_n (n := 1) dX8_lacksSlot_0 rfl rfl rfl ?_
  refine g_getR (n := 4) (k := 0) dX8_lacksSlot_1 sC_8 vc_12 (Nat.le_of_ble_eq_true rfl) rfl w_399 rfl ?_
  refine g_getR (n := 7) (k := 5) dX8_lacksSlot_4 sC_9 vc_8 (Nat.le_of_ble_eq_true rfl) rfl w_251 rfl ?_
  refine g_iload_n (n := 8) dX8_lacksSlot_7 rfl rfl rfl ?_
  obtain ⟨j_1, hj, hl, h⟩ := h
  refine g_ialdJ (n := 9) (j := j_1) (x := (A 14 j_1)) dX8_lacksSlot_8 sC_14 hj hl (by decide) rfl rfl ?_
  refine g_iconst (n := 10) (v := (-1 : Int32)) dX8_lacksSlot_9 rfl rfl ?_
  refine g_icmp_ne (n := 13) 20 dX8_lacksSlot_10 (by decide) rfl (fun hc => ?_) (fun hc => ?_)
  · have h := h.1 hc
    refine g_iconst (n := 21) (v := (-1 : Int32)) dX8_lacksSlot_20 rfl rfl ?_
    refine g_forget (ls' := [some (.ref 8), none, none]) (ab_fg rfl) ?_
    refine g_less (bc' := 0) (bs' := 0) (Nat.le_of_ble_eq_true rfl) (Nat.le_of_ble_eq_true rfl) ?_
    exact tjX8_lacksSlot_21  _ _ _ h
  · have h := h.2 hc
    refine g_aload_n (n := 14) dX8_lacksSlot_13 rfl rfl rfl ?_
    refine g_callV (n := 17) (as := []) (bc' := 0) (bs' := 0) sC_8 vc_12 (ctX8_nextVictim h) okX8_nextVictim rfl w_822 w_823 w_824 w_100 dX8_lacksSlot_14 rfl rfl (Nat.le_of_ble_eq_true rfl) (Nat.le_of_ble_eq_true rfl) (Nat.le_of_ble_eq_true rfl) (Nat.le_of_ble_eq_true rfl) rfl (fun E sh1 I1 A1 hp _ => hp.2.elim) (fun ro sh_ I_9 A_10 hp hle => ?_)
    obtain ⟨rfl, r_11, rfl, h⟩ := hp
    refine g_goto 21 dX8_lacksSlot_17 (by decide) ?_
    refine g_forget (ls' := [some (.ref 8), none, none]) (ab_fg rfl) ?_
    refine g_less (bc' := 0) (bs' := 0) (Nat.le_of_ble_eq_true rfl) (Nat.le_of_ble_eq_true rfl) ?_
    exact tjX8_lacksSlot_21  _ _ _ h
