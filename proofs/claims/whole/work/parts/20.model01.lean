def wX12_truncateText (K : Int32 → ab_F → ab_F → Prop) (I A : ab_F) (p0 : Int32) : Prop := wX12_in (fun r_3 I_1 A_2 => ((¬ r_3 = 0 → K p0 (wr (wr I_1 0 5 (nI 0)) 0 7 p0) A_2) ∧ (r_3 = 0 → wX12_no (fun r_6 I_4 A_5 => K r_6 I_4 A_5) I_1 A_2 (nI 1)))) I A ((p0).toInt64) (0 : Int64) (((I 0 7)).toInt64)
set_option maxRecDepth 20000 in
theorem ctX12_truncateText  {K : Int32 → ab_F → ab_F → Prop} {I A : ab_F} {p0 : Int32} (h : wX12_truncateText K I A p0) : ab_Cl mX12_truncateText 1 0 0 [.ref 0, .int p0] shM I A (ab_Px shM ab_no (ab_ri K)) := by
  refine ab_enter (ls := [some (.ref 0), some (.int p0)]) (by decide +kernel) (Nat.le_of_ble_eq_true rfl) rfl (fun C => ?_)
  unfold wX12_truncateText at h
  refine g_iload_n (n := 1) dX12_truncateText_0 rfl rfl rfl ?_
  refine g_i2l (n := 2) dX12_truncateText_1 rfl ?_
  refine g_lconst (n := 3) (v := (0 : Int64)) dX12_truncateText_2 rfl rfl ?_
  refine g_aload_n (n := 4) dX12_truncateText_3 rfl rfl rfl ?_
  refine g_getIE (n := 7) (k := 7) (x := (I 0 7)) dX12_truncateText_4 sM_0 vc_16 (Nat.le_of_ble_eq_true rfl) rfl w_2001 rfl rfl ?_
  refine g_i2l (n := 8) dX12_truncateText_7 rfl ?_
  refine g_callS (n := 11) (as := [.long ((p0).toInt64), .long (0 : Int64), .long (((I 0 7)).toInt64)]) (bc' := 0) (bs' := 0) (ctX12_in h) okX12_in w_2080 w_2081 dX12_truncateText_8 rfl rfl (Nat.le_of_ble_eq_true rfl) (Nat.le_of_ble_eq_true rfl) (Nat.le_of_ble_eq_true rfl) (Nat.le_of_ble_eq_true rfl) rfl (fun E sh1 I1 A1 hp _ => hp.2.elim) (fun ro sh_ I_1 A_2 hp hle => ?_)
  obtain ⟨rfl, r_3, rfl, h⟩ := hp
  refine g_if_ne (n := 14) 20 dX12_truncateText_11 (by decide) rfl (fun hc => ?_) (fun hc => ?_)
  · have h := h.1 hc
    refine g_aload_n (n := 21) dX12_truncateText_20 rfl rfl rfl ?_
    refine g_iconst (n := 22) (v := (nI 0)) dX12_truncateText_21 rfl rfl ?_
    refine g_putI (n := 25) (k := 5) dX12_truncateText_22 sM_0 vc_16 (Nat.le_of_ble_eq_true rfl) rfl w_1999 rfl rfl rfl rfl rfl ?_
    refine g_aload_n (n := 26) dX12_truncateText_25 rfl rfl rfl ?_
    refine g_iload_n (n := 27) dX12_truncateText_26 rfl rfl rfl ?_
    refine g_putI (n := 30) (k := 7) dX12_truncateText_27 sM_0 vc_16 (Nat.le_of_ble_eq_true rfl) rfl w_2001 rfl rfl rfl rfl rfl ?_
    refine g_iload_n (n := 31) dX12_truncateText_30 rfl rfl rfl ?_
    exact g_iret rfl rfl dX12_truncateText_31 ⟨rfl, _, rfl, h⟩
  · have h := h.2 hc
    refine g_aload_n (n := 15) dX12_truncateText_14 rfl rfl rfl ?_
    refine g_iconst (n := 16) (v := (nI 1)) dX12_truncateText_15 rfl rfl ?_
    refine g_callV (n := 19) (as := [.int (nI 1)]) (bc' := 0) (bs' := 0) sM_0 vc_16 (ctX12_no h) okX12_no rfl w_2060 w_2062 w_25 w_112 dX12_truncateText_16 rfl rfl (Nat.le_of_ble_eq_true rfl) (Nat.le_of_ble_eq_true rfl) (Nat.le_of_ble_eq_true rfl) (Nat.le_of_ble_eq_true rfl) rfl (fun E sh1 I1 A1 hp _ => hp.2.elim) (fun ro sh_ I_4 A_5 hp hle => ?_)
    obtain ⟨rfl, r_6, rfl, h⟩ := hp
    exact g_iret rfl rfl dX12_truncateText_19 ⟨rfl, _, rfl, h⟩
def wX12_byteAt (K : Int32 → ab_F → ab_F → Prop) (I A : ab_F) (p0 : Int32) : Prop := (((I 0 10) ≤ p0 → K (-1 : Int32) I A) ∧ (¬ (I 0 10) ≤ p0 → (∃ j_1 : Nat, p0 = nI j_1 ∧ j_1 < 400 ∧ K ((A 5 j_1) &&& (nI 255)) I A)))
set_option maxRecDepth 20000 in
theorem ctX12_byteAt  {K : Int32 → ab_F → ab_F → Prop} {I A : ab_F} {p0 : Int32} (h : wX12_byteAt K I A p0) : ab_Cl mX12_byteAt 0 0 0 [.ref 0, .int p0] shM I A (ab_Px shM ab_no (ab_ri K)) := by
  refine ab_enter (ls := [some (.ref 0), some (.int p0)]) (by decide +kernel) (Nat.le_of_ble_eq_true rfl) rfl (fun C => ?_)
  unfold wX12_byteAt at h
  refine g_iload_n (n := 1) dX12_byteAt_0 rfl rfl rfl ?_
  refine g_aload_n (n := 2) dX12_byteAt_1 rfl rfl rfl ?_
  refine g_getIE (n := 5) (k := 10) (x := (I 0 10)) dX12_byteAt_2 sM_0 vc_16 (Nat.le_of_ble_eq_true rfl) rfl w_2004 rfl rfl ?_
  refine g_icmp_ge (n := 8) 21 dX12_byteAt_5 (by decide) rfl (fun hc => ?_) (fun hc => ?_)
  · have h := h.1 hc
    refine g_iconst (n := 22) (v := (-1 : Int32)) dX12_byteAt_21 rfl rfl ?_
    exact g_iret rfl rfl dX12_byteAt_22 ⟨rfl, _, rfl, h⟩
  · have h := h.2 hc
    refine g_aload_n (n := 9) dX12_byteAt_8 rfl rfl rfl ?_
    refine g_getR (n := 12) (k := 6) dX12_byteAt_9 sM_0 vc_16 (Nat.le_of_ble_eq_true rfl) rfl w_2000 rfl ?_
    refine g_iload_n (n := 13) dX12_byteAt_12 rfl rfl rfl ?_
    obtain ⟨j_1, hj, hl, h⟩ := h
    refine g_baldJ (n := 14) (j := j_1) (x := (A 5 j_1)) dX12_byteAt_13 sM_5 hj hl (by decide) rfl rfl ?_
    refine g_sipush (n := 17) (v := (nI 255)) dX12_byteAt_14 rfl rfl ?_
    refine g_iand (n := 18) dX12_byteAt_17 rfl ?_
    refine g_goto 22 dX12_byteAt_18 (by decide) ?_
    exact g_iret rfl rfl dX12_byteAt_22 ⟨rfl, _, rfl, h⟩
def wjX12_next_34 (K : ab_F → ab_F → Prop) (L8 : ab_F → ab_F → Prop)  (I A : ab_F) : Prop := L8  (wr I 0 8 ((I 0 8) + (nI 1))) A
def wlX12_next_131 (K : ab_F → ab_F → Prop) : Nat → ab_F → ab_F → Prop
  | 0, _, _ => False
  | n + 1, I, A => wX12_byteAt (fun r_21 I_19 A_20 => wX12_in (fun r_24 I_22 A_23 => ((r_24 = 0 → K I_22 A_23) ∧ (¬ r_24 = 0 → (wlX12_next_131 K n)  (wr I_22 0 9 ((I_22 0 9) + (nI 1))) A_23))) I_19 A_20 ((r_21).toInt64) (48 : Int64) (57 : Int64)) I A (I 0 9)
def wlX12_next_76 (K : ab_F → ab_F → Prop) : Nat → ab_F → ab_F → Prop
  | 0, _, _ => False
  | n + 1, I, A => wX12_byteAt (fun r_27 I_25 A_26 => wX12_in (fun r_30 I_28 A_29 => ((r_30 = 0 → K I_28 A_29) ∧ (¬ r_30 = 0 → (wlX12_next_76 K n)  (wr I_28 0 9 ((I_28 0 9) + (nI 1))) A_29))) I_25 A_26 ((r_27).toInt64) (97 : Int64) (122 : Int64)) I A (I 0 9)
def wlX12_next_8 (K : ab_F → ab_F → Prop) : Nat → ab_F → ab_F → Prop
  | 0, _, _ => False
  | n + 1, I, A => wX12_byteAt (fun r_3 I_1 A_2 => ((r_3 = (nI 32) → wjX12_next_34 K (wlX12_next_8 K n)  I_1 A_2) ∧ (¬ r_3 = (nI 32) → wX12_byteAt (fun r_6 I_4 A_5 => ((¬ r_6 = (nI 10) → wX12_byteAt (fun r_9 I_7 A_8 => wX12_in (fun r_12 I_10 A_11 => ((r_12 = 0 → wX12_byteAt (fun r_15 I_13 A_14 => wX12_in (fun r_18 I_16 A_17 => ((r_18 = 0 → (((I_16 0 10) ≤ (I_16 0 9) → K I_16 A_17) ∧ (¬ (I_16 0 10) ≤ (I_16 0 9) → K (wr I_16 0 9 ((I_16 0 9) + (nI 1))) A_17))) ∧ (¬ r_18 = 0 → (∃ nf : Nat, wlX12_next_131 K nf  I_16 A_17)))) I_13 A_14 ((r_15).toInt64) (48 : Int64) (57 : Int64)) I_10 A_11 (I_10 0 9)) ∧ (¬ r_12 = 0 → (∃ nf : Nat, wlX12_next_76 K nf  I_10 A_11)))) I_7 A_8 ((r_9).toInt64) (97 : Int64) (122 : Int64)) (wr I_4 0 9 (I_4 0 8)) A_5 (I_4 0 8)) ∧ (r_6 = (nI 10) → wjX12_next_34 K (wlX12_next_8 K n)  I_4 A_5))) I_1 A_2 (I_1 0 8)))) I A (I 0 8)
def wX12_next (K : ab_F → ab_F → Prop) (I A : ab_F)  : Prop := (∃ nf : Nat, wlX12_next_8 K nf  (wr I 0 8 (I 0 9)) A)
set_option maxRecDepth 20000 in
theorem tjX12_next_34 {C : ab_X}  {K : ab_F → ab_F → Prop} {L8 : ab_F → ab_F → Prop} (hL8 : ∀  (I A : ab_F), L8  I A → ab_G mX12_next 1 C (ab_Px shM ab_no (ab_rv K)) 8 [some (.ref 0)] [] shM I A 0 0)  (I A : ab_F) (h : wjX12_next_34 K L8  I A) : ab_G mX12_next 1 C (ab_Px shM ab_no (ab_rv K)) 34 [some (.ref 0)] [] shM I A 0 0 := by
  unfold wjX12_next_34 at h
  refine g_aload_n (n := 35) dX12_next_34 rfl rfl rfl ?_
  refine g_dup (n := 36) dX12_next_35 rfl rfl ?_
  refine g_getIE (n := 39) (k := 8) (x := (I 0 8)) dX12_next_36 sM_0 vc_16 (Nat.le_of_ble_eq_true rfl) rfl w_2002 rfl rfl ?_
  refine g_iconst (n := 40) (v := (nI 1)) dX12_next_39 rfl rfl ?_
  refine g_iadd (n := 41) dX12_next_40 rfl ?_
  refine g_putI (n := 44) (k := 8) dX12_next_41 sM_0 vc_16 (Nat.le_of_ble_eq_true rfl) rfl w_2002 rfl rfl rfl rfl rfl ?_
  refine g_goto 8 dX12_next_44 (by decide) ?_
  exact hL8  _ _ h
set_option maxRecDepth 20000 in
theorem tlX12_next_131 {C : ab_X}  {K : ab_F → ab_F → Prop} : ∀ (n : Nat)  (I A : ab_F), wlX12_next_131 K n  I A → ab_G mX12_next 1 C (ab_Px shM ab_no (ab_rv K)) 131 [some (.ref 0)] [] shM I A 0 0 := by
  intro n
  induction n with
  | zero => intro  I A h; exact h.elim
  | succ n hL131 =>
    intro  I A h
    rw [wlX12_next_131] at h
    refine g_aload_n (n := 132) dX12_next_131 rfl rfl rfl ?_
    refine g_aload_n (n := 133) dX12_next_132 rfl rfl rfl ?_
    refine g_getIE (n := 136) (k := 9) (x := (I 0 9)) dX12_next_133 sM_0 vc_16 (Nat.le_of_ble_eq_true rfl) rfl w_2003 rfl rfl ?_
    refine g_callV (n := 139) (as := [.int (I 0 9)]) (bc' := 0) (bs' := 0) sM_0 vc_16 (ctX12_byteAt h) okX12_byteAt rfl w_2095 w_2097 w_29 w_112 dX12_next_136 rfl rfl (Nat.le_of_ble_eq_true rfl) (Nat.le_of_ble_eq_true rfl) (Nat.le_of_ble_eq_true rfl) (Nat.le_of_ble_eq_true rfl) rfl (fun E sh1 I1 A1 hp _ => hp.2.elim) (fun ro sh_ I_19 A_20 hp hle => ?_)
    obtain ⟨rfl, r_21, rfl, h⟩ := hp
    refine g_i2l (n := 140) dX12_next_139 rfl ?_
    refine g_ldc2 (n := 143) (v := (48 : Int64)) dX12_next_140 w_2101 rfl ?_
    refine g_ldc2 (n := 146) (v := (57 : Int64)) dX12_next_143 w_2102 rfl ?_
    refine g_callS (n := 149) (as := [.long ((r_21).toInt64), .long (48 : Int64), .long (57 : Int64)]) (bc' := 0) (bs' := 0) (ctX12_in h) okX12_in w_2080 w_2081 dX12_next_146 rfl rfl (Nat.le_of_ble_eq_true rfl) (Nat.le_of_ble_eq_true rfl) (Nat.le_of_ble_eq_true rfl) (Nat.le_of_ble_eq_true rfl) rfl (fun E sh1 I1 A1 hp _ => hp.2.elim) (fun ro sh_ I_22 A_23 hp hle => ?_)
    obtain ⟨rfl, r_24, rfl, h⟩ := hp
    refine g_if_eq (n := 152) 186 dX12_next_149 (by decide) rfl (fun hc => ?_) (fun hc => ?_)
    · have h := h.1 hc
      exact g_vret rfl dX12_next_186 ⟨rfl, rfl, h⟩
    · have h := h.2 hc
      refine g_aload_n (n := 153) dX12_next_152 rfl rfl rfl ?_
      refine g_dup (n := 154) dX12_next_153 rfl rfl ?_
      refine g_getIE (n := 157) (k := 9) (x := (I_22 0 9)) dX12_next_154 sM_0 vc_16 (Nat.le_of_ble_eq_true rfl) rfl w_2003 rfl rfl ?_
      refine g_iconst (n := 158) (v := (nI 1)) dX12_next_157 rfl rfl ?_
      refine g_iadd (n := 159) dX12_next_158 rfl ?_
      refine g_putI (n := 162) (k := 9) dX12_next_159 sM_0 vc_16 (Nat.le_of_ble_eq_true rfl) rfl w_2003 rfl rfl rfl rfl rfl ?_
      refine g_goto 131 dX12_next_162 (by decide) ?_
      exact hL131  _ _ h
set_option maxRecDepth 20000 in
theorem tlX12_next_76 {C : ab_X}  {K : ab_F → ab_F → Prop} : ∀ (n : Nat)  (I A : ab_F), wlX12_next_76 K n  I A → ab_G mX12_next 1 C (ab_Px shM ab_no (ab_rv K)) 76 [some (.ref 0)] [] shM I A 0 0 := by
  intro n
  induction n with
  | zero => intro  I A h; exact h.elim
  | succ n hL76 =>
    intro  I A h
    rw [wlX12_next_76] at h
    refine g_aload_n (n := 77) dX12_next_76 rfl rfl rfl ?_
    refine g_aload_n (n := 78) dX12_next_77 rfl rfl rfl ?_
    refine g_getIE (n := 81) (k := 9) (x := (I 0 9)) dX12_next_78 sM_0 vc_16 (Nat.le_of_ble_eq_true rfl) rfl w_2003 rfl rfl ?_
    refine g_callV (n := 84) (as := [.int (I 0 9)]) (bc' := 0) (bs' := 0) sM_0 vc_16 (ctX12_byteAt h) okX12_byteAt rfl w_2095 w_2097 w_29 w_112 dX12_next_81 rfl rfl (Nat.le_of_ble_eq_true rfl) (Nat.le_of_ble_eq_true rfl) (Nat.le_of_ble_eq_true rfl) (Nat.le_of_ble_eq_true rfl) rfl (fun E sh1 I1 A1 hp _ => hp.2.elim) (fun ro sh_ I_25 A_26 hp hle => ?_)
    obtain ⟨rfl, r_27, rfl, h⟩ := hp
    refine g_i2l (n := 85) dX12_next_84 rfl ?_
    refine g_ldc2 (n := 88) (v := (97 : Int64)) dX12_next_85 w_2099 rfl ?_
    refine g_ldc2 (n := 91) (v := (122 : Int64)) dX12_next_88 w_2100 rfl ?_
    refine g_callS (n := 94) (as := [.long ((r_27).toInt64), .long (97 : Int64), .long (122 : Int64)]) (bc' := 0) (bs' := 0) (ctX12_in h) okX12_in w_2080 w_2081 dX12_next_91 rfl rfl (Nat.le_of_ble_eq_true rfl) (Nat.le_of_ble_eq_true rfl) (Nat.le_of_ble_eq_true rfl) (Nat.le_of_ble_eq_true rfl) rfl (fun E sh1 I1 A1 hp _ => hp.2.elim) (fun ro sh_ I_28 A_29 hp hle => ?_)
    obtain ⟨rfl, r_30, rfl, h⟩ := hp
    refine g_if_eq (n := 97) 186 dX12_next_94 (by decide) rfl (fun hc => ?_) (fun hc => ?_)
    · have h := h.1 hc
      exact g_vret rfl dX12_next_186 ⟨rfl, rfl, h⟩
    · have h := h.2 hc
      refine g_aload_n (n := 98) dX12_next_97 rfl rfl rfl ?_
      refine g_dup (n := 99) dX12_next_98 rfl rfl ?_
      refine g_getIE (n := 102) (k := 9) (x := (I_28 0 9)) dX12_next_99 sM_0 vc_16 (Nat.le_of_ble_eq_true rfl) rfl w_2003 rfl rfl ?_
      refine g_iconst (n := 103) (v := (nI 1)) dX12_next_102 rfl rfl ?_
      refine g_iadd (n := 104) dX12_next_103 rfl ?_
      refine g_putI (n := 107) (k := 9) dX12_next_104 sM_0 vc_16 (Nat.le_of_ble_eq_true rfl) rfl w_2003 rfl rfl rfl rfl rfl ?_
      refine g_goto 76 dX12_next_107 (by decide) ?_
      exact hL76  _ _ h
set_option maxRecDepth 20000 in
theorem tlX12_next_8 {C : ab_X}  {K : ab_F → ab_F → Prop} : ∀ (n : Nat)  (I A : ab_F), wlX12_next_8 K n  I A → ab_G mX12_next 1 C (ab_Px shM ab_no (ab_rv K)) 8 [some (.ref 0)] [] shM I A 0 0 := by
  intro n
  induction n with
  | zero => intro  I A h; exact h.elim
  | succ n hL8 =>
    intro  I A h
    rw [wlX12_next_8] at h
    refine g_aload_n (n := 9) dX12_next_8 rfl rfl rfl ?_
    refine g_aload_n (n := 10) dX12_next_9 rfl rfl rfl ?_
    refine g_getIE (n := 13) (k := 8) (x := (I 0 8)) dX12_next_10 sM_0 vc_16 (Nat.le_of_ble_eq_true rfl) rfl w_2002 rfl rfl ?_
    refine g_callV (n := 16) (as := [.int (I 0 8)]) (bc' := 0) (bs' := 0) sM_0 vc_16 (ctX12_byteAt h) okX12_byteAt rfl w_2095 w_2097 w_29 w_112 dX12_next_13 rfl rfl (Nat.le_of_ble_eq_true rfl) (Nat.le_of_ble_eq_true rfl) (Nat.le_of_ble_eq_true rfl) (Nat.le_of_ble_eq_true rfl) rfl (fun E sh1 I1 A1 hp _ => hp.2.elim) (fun ro sh_ I_1 A_2 hp hle => ?_)
    obtain ⟨rfl, r_3, rfl, h⟩ := hp
    refine g_bipush (n := 18) (v := (nI 32)) dX12_next_16 rfl rfl ?_
    refine g_icmp_eq (n := 21) 34 dX12_next_18 (by decide) rfl (fun hc => ?_) (fun hc => ?_)
    · have h := h.1 hc
      refine g_less (bc' := 0) (bs' := 0) (Nat.le_of_ble_eq_true rfl) (Nat.le_of_ble_eq_true rfl) ?_
      exact tjX12_next_34 hL8  _ _ h
    · have h := h.2 hc
      refine g_aload_n (n := 22) dX12_next_21 rfl rfl rfl ?_
      refine g_aload_n (n := 23) dX12_next_22 rfl rfl rfl ?_
      refine g_getIE (n := 26) (k := 8) (x := (I_1 0 8)) dX12_next_23 sM_0 vc_16 (Nat.le_of_ble_eq_true rfl) rfl w_2002 rfl rfl ?_
      refine g_callV (n := 29) (as := [.int (I_1 0 8)]) (bc' := 0) (bs' := 0) sM_0 vc_16 (ctX12_byteAt h) okX12_byteAt rfl w_2095 w_2097 w_29 w_112 dX12_next_26 rfl rfl (Nat.le_of_ble_eq_true rfl) (Nat.le_of_ble_eq_true rfl) (Nat.le_of_ble_eq_true rfl) (Nat.le_of_ble_eq_true rfl) rfl (fun E sh1 I1 A1 hp _ => hp.2.elim) (fun ro sh_ I_4 A_5 hp hle => ?_)
      obtain ⟨rfl, r_6, rfl, h⟩ := hp
      refine g_bipush (n := 31) (v := (nI 10)) dX12_next_29 rfl rfl ?_
      refine g_icmp_ne (n := 34) 47 dX12_next_31 (by decide) rfl (fun hc => ?_) (fun hc => ?_)
      · have h := h.1 hc
        refine g_aload_n (n := 48) dX12_next_47 rfl rfl rfl ?_
        refine g_aload_n (n := 49) dX12_next_48 rfl rfl rfl ?_
        refine g_getIE (n := 52) (k := 8) (x := (I_4 0 8)) dX12_next_49 sM_0 vc_16 (Nat.le_of_ble_eq_true rfl) rfl w_2002 rfl rfl ?_
        refine g_putI (n := 55) (k := 9) dX12_next_52 sM_0 vc_16 (Nat.le_of_ble_eq_true rfl) rfl w_2003 rfl rfl rfl rfl rfl ?_
        refine g_aload_n (n := 56) dX12_next_55 rfl rfl rfl ?_
        refine g_aload_n (n := 57) dX12_next_56 rfl rfl rfl ?_
        refine g_getIE (n := 60) (k := 9) (x := (I_4 0 8)) dX12_next_57 sM_0 vc_16 (Nat.le_of_ble_eq_true rfl) rfl w_2003 rfl rfl ?_
        refine g_callV (n := 63) (as := [.int (I_4 0 8)]) (bc' := 0) (bs' := 0) sM_0 vc_16 (ctX12_byteAt h) okX12_byteAt rfl w_2095 w_2097 w_29 w_112 dX12_next_60 rfl rfl (Nat.le_of_ble_eq_true rfl) (Nat.le_of_ble_eq_true rfl) (Nat.le_of_ble_eq_true rfl) (Nat.le_of_ble_eq_true rfl) rfl (fun E sh1 I1 A1 hp _ => hp.2.elim) (fun ro sh_ I_7 A_8 hp hle => ?_)
        obtain ⟨rfl, r_9, rfl, h⟩ := hp
        refine g_i2l (n := 64) dX12_next_63 rfl ?_
        refine g_ldc2 (n := 67) (v := (97 : Int64)) dX12_next_64 w_2099 rfl ?_
        refine g_ldc2 (n := 70) (v := (122 : Int64)) dX12_next_67 w_2100 rfl ?_
        refine g_callS (n := 73) (as := [.long ((r_9).toInt64), .long (97 : Int64), .long (122 : Int64)]) (bc' := 0) (bs' := 0) (ctX12_in h) okX12_in w_2080 w_2081 dX12_next_70 rfl rfl (Nat.le_of_ble_eq_true rfl) (Nat.le_of_ble_eq_true rfl) (Nat.le_of_ble_eq_true rfl) (Nat.le_of_ble_eq_true rfl) rfl (fun E sh1 I1 A1 hp _ => hp.2.elim) (fun ro sh_ I_10 A_11 hp hle => ?_)
        obtain ⟨rfl, r_12, rfl, h⟩ := hp
        refine g_if_eq (n := 76) 110 dX12_next_73 (by decide) rfl (fun hc => ?_) (fun hc => ?_)
        · have h := h.1 hc
          refine g_aload_n (n := 111) dX12_next_110 rfl rfl rfl ?_
          refine g_aload_n (n := 112) dX12_next_111 rfl rfl rfl ?_
          refine g_getIE (n := 115) (k := 9) (x := (I_10 0 9)) dX12_next_112 sM_0 vc_16 (Nat.le_of_ble_eq_true rfl) rfl w_2003 rfl rfl ?_
          refine g_callV (n := 118) (as := [.int (I_10 0 9)]) (bc' := 0) (bs' := 0) sM_0 vc_16 (ctX12_byteAt h) okX12_byteAt rfl w_2095 w_2097 w_29 w_112 dX12_next_115 rfl rfl (Nat.le_of_ble_eq_true rfl) (Nat.le_of_ble_eq_true rfl) (Nat.le_of_ble_eq_true rfl) (Nat.le_of_ble_eq_true rfl) rfl (fun E sh1 I1 A1 hp _ => hp.2.elim) (fun ro sh_ I_13 A_14 hp hle => ?_)
          obtain ⟨rfl, r_15, rfl, h⟩ := hp
          refine g_i2l (n := 119) dX12_next_118 rfl ?_
          refine g_ldc2 (n := 122) (v := (48 : Int64)) dX12_next_119 w_2101 rfl ?_
          refine g_ldc2 (n := 125) (v := (57 : Int64)) dX12_next_122 w_2102 rfl ?_
          refine g_callS (n := 128) (as := [.long ((r_15).toInt64), .long (48 : Int64), .long (57 : Int64)]) (bc' := 0) (bs' := 0) (ctX12_in h) okX12_in w_2080 w_2081 dX12_next_125 rfl rfl (Nat.le_of_ble_eq_true rfl) (Nat.le_of_ble_eq_true rfl) (Nat.le_of_ble_eq_true rfl) (Nat.le_of_ble_eq_true rfl) rfl (fun E sh1 I1 A1 hp _ => hp.2.elim) (fun ro sh_ I_16 A_17 hp hle => ?_)
          obtain ⟨rfl, r_18, rfl, h⟩ := hp
          refine g_if_eq (n := 131) 165 dX12_next_128 (by decide) rfl (fun hc => ?_) (fun hc => ?_)
          · have h := h.1 hc
            refine g_aload_n (n := 166) dX12_next_165 rfl rfl rfl ?_
            refine g_getIE (n := 169) (k := 9) (x := (I_16 0 9)) dX12_next_166 sM_0 vc_16 (Nat.le_of_ble_eq_true rfl) rfl w_2003 rfl rfl ?_
            refine g_aload_n (n := 170) dX12_next_169 rfl rfl rfl ?_
            refine g_getIE (n := 173) (k := 10) (x := (I_16 0 10)) dX12_next_170 sM_0 vc_16 (Nat.le_of_ble_eq_true rfl) rfl w_2004 rfl rfl ?_
            refine g_icmp_ge (n := 176) 186 dX12_next_173 (by decide) rfl (fun hc => ?_) (fun hc => ?_)
            · have h := h.1 hc
              exact g_vret rfl dX12_next_186 ⟨rfl, rfl, h⟩
            · have h := h.2 hc
              refine g_aload_n (n := 177) dX12_next_176 rfl rfl rfl ?_
              refine g_dup (n := 178) dX12_next_177 rfl rfl ?_
              refine g_getIE (n := 181) (k := 9) (x := (I_16 0 9)) dX12_next_178 sM_0 vc_16 (Nat.le_of_ble_eq_true rfl) rfl w_2003 rfl rfl ?_
              refine g_iconst (n := 182) (v := (nI 1)) dX12_next_181 rfl rfl ?_
              refine g_iadd (n := 183) dX12_next_182 rfl ?_
              refine g_putI (n := 186) (k := 9) dX12_next_183 sM_0 vc_16 (Nat.le_of_ble_eq_true rfl) rfl w_2003 rfl rfl rfl rfl rfl ?_
              exact g_vret rfl dX12_next_186 ⟨rfl, rfl, h⟩
          · have h := h.2 hc
            refine g_less (bc' := 0) (bs' := 0) (Nat.le_of_ble_eq_true rfl) (Nat.le_of_ble_eq_true rfl) ?_
            obtain ⟨n_f, h⟩ := h
            exact tlX12_next_131  n_f  _ _ h
        · have h := h.2 hc
          refine g_less (bc' := 0) (bs' := 0) (Nat.le_of_ble_eq_true rfl) (Nat.le_of_ble_eq_true rfl) ?_
          obtain ⟨n_f, h⟩ := h
          exact tlX12_next_76  n_f  _ _ h
      · have h := h.2 hc
        refine g_less (bc' := 0) (bs' := 0) (Nat.le_of_ble_eq_true rfl) (Nat.le_of_ble_eq_true rfl) ?_
        exact tjX12_next_34 hL8  _ _ h
set_option maxRecDepth 20000 in
theorem ctX12_next  {K : ab_F → ab_F → Prop} {I A : ab_F}  (h : wX12_next K I A ) : ab_Cl mX12_next 1 0 0 [.ref 0] shM I A (ab_Px shM ab_no (ab_rv K)) := by
  refine ab_enter (ls := [some (.ref 0)]) (by decide +kernel) (Nat.le_of_ble_eq_true rfl) rfl (fun C => ?_)
  unfold wX12_next at h
  refine g_aload_n (n := 1) dX12_next_0 rfl rfl rfl ?_
  refine g_aload_n (n := 2) dX12_next_1 rfl rfl rfl ?_
  refine g_getIE (n := 5) (k := 9) (x := (I 0 9)) dX12_next_2 sM_0 vc_16 (Nat.le_of_ble_eq_true rfl) rfl w_2003 rfl rfl ?_
  refine g_putI (n := 8) (k := 8) dX12_next_5 sM_0 vc_16 (Nat.le_of_ble_eq_true rfl) rfl w_2002 rfl rfl rfl rfl rfl ?_
  refine g_less (bc' := 0) (bs' := 0) (Nat.le_of_ble_eq_true rfl) (Nat.le_of_ble_eq_true rfl) ?_
  obtain ⟨n_f, h⟩ := h
  exact tlX12_next_8  n_f  _ _ h
def wX12_wrong (K : ab_F → ab_F → Prop) (I A : ab_F) (p0 : Int32) : Prop := (((I 0 11) ≤ 0 → K (wr (wr I 0 11 p0) 0 12 (I 0 8)) A) ∧ (¬ (I 0 11) ≤ 0 → K I A))
set_option maxRecDepth 20000 in
theorem ctX12_wrong  {K : ab_F → ab_F → Prop} {I A : ab_F} {p0 : Int32} (h : wX12_wrong K I A p0) : ab_Cl mX12_wrong 0 0 0 [.ref 0, .int p0] shM I A (ab_Px shM ab_no (ab_rv K)) := by
  refine ab_enter (ls := [some (.ref 0), some (.int p0)]) (by decide +kernel) (Nat.le_of_ble_eq_true rfl) rfl (fun C => ?_)
  unfold wX12_wrong at h
  refine g_aload_n (n := 1) dX12_wrong_0 rfl rfl rfl ?_
  refine g_getIE (n := 4) (k := 11) (x := (I 0 11)) dX12_wrong_1 sM_0 vc_16 (Nat.le_of_ble_eq_true rfl) rfl w_2005 rfl rfl ?_
  refine g_if_le (n := 7) 8 dX12_wrong_4 (by decide) rfl (fun hc => ?_) (fun hc => ?_)
  · have h := h.1 hc
    refine g_aload_n (n := 9) dX12_wrong_8 rfl rfl rfl ?_
    refine g_iload_n (n := 10) dX12_wrong_9 rfl rfl rfl ?_
    refine g_putI (n := 13) (k := 11) dX12_wrong_10 sM_0 vc_16 (Nat.le_of_ble_eq_true rfl) rfl w_2005 rfl rfl rfl rfl rfl ?_
    refine g_aload_n (n := 14) dX12_wrong_13 rfl rfl rfl ?_
    refine g_aload_n (n := 15) dX12_wrong_14 rfl rfl rfl ?_
    refine g_getIE (n := 18) (k := 8) (x := (I 0 8)) dX12_wrong_15 sM_0 vc_16 (Nat.le_of_ble_eq_true rfl) rfl w_2002 rfl rfl ?_
    refine g_putI (n := 21) (k := 12) dX12_wrong_18 sM_0 vc_16 (Nat.le_of_ble_eq_true rfl) rfl w_2006 rfl rfl rfl rfl rfl ?_
    exact g_vret rfl dX12_wrong_21 ⟨rfl, rfl, h⟩
  · have h := h.2 hc
    exact g_vret rfl dX12_wrong_7 ⟨rfl, rfl, h⟩
def wlX12_isWord_24 (K : Int32 → ab_F → ab_F → Prop) : Nat → Nat → Int32 → Int32 → ab_F → ab_F → Prop
  | 0, _, _, _, _, _ => False
  | n + 1, x1, x2, x3, I, A => wJ0_length_8abf5 (fun r_6 I_4 A_5 => ((r_6 ≤ x3 → (narrow .boolean (.int x2) = .int x2 ∧ K x2 I_4 A_5)) ∧ (¬ r_6 ≤ x3 → ((x2 = 0 → (narrow .boolean (.int x2) = .int x2 ∧ K x2 I_4 A_5)) ∧ (¬ x2 = 0 → wX12_byteAt (fun r_9 I_7 A_8 => wJ0_charAt_5068e (fun r_12 I_10 A_11 => ((¬ r_9 = r_12 → (wlX12_isWord_24 K n) x1 (nI 0) (x3 + nI 1) I_10 A_11) ∧ (r_9 = r_12 → (wlX12_isWord_24 K n) x1 (nI 1) (x3 + nI 1) I_10 A_11))) I_7 A_8 x1 x3) I_4 A_5 ((I_4 0 8) + x3)))))) I A x1
def wX12_isWord (K : Int32 → ab_F → ab_F → Prop) (I A : ab_F) (p0 : Nat) : Prop := wJ0_length_8abf5 (fun r_3 I_1 A_2 => ((¬ ((I 0 9) - (I 0 8)) = r_3 → (∃ nf : Nat, wlX12_isWord_24 K nf p0 (nI 0) (nI 0) I_1 A_2)) ∧ (((I 0 9) - (I 0 8)) = r_3 → (∃ nf : Nat, wlX12_isWord_24 K nf p0 (nI 1) (nI 0) I_1 A_2)))) I A p0
set_option maxRecDepth 20000 in
theorem tlX12_isWord_24 {C : ab_X}  {K : Int32 → ab_F → ab_F → Prop} : ∀ (n : Nat) (x1 : Nat) (x2 : Int32) (x3 : Int32) (I A : ab_F), wlX12_isWord_24 K n x1 x2 x3 I A → ab_G mX12_isWord 6 C (ab_Px shM ab_no (ab_ri K)) 24 [some (.ref 0), some (.retAddr (2 * x1)), some (.int x2), some (.int x3)] [] shM I A 0 0 := by
  intro n
  induction n with
  | zero => intro x1 x2 x3 I A h; exact h.elim
  | succ n hL24 =>
    intro x1 x2 x3 I A h
    rw [wlX12_isWord_24] at h
    refine g_iload_n (n := 25) dX12_isWord_24 rfl rfl rfl ?_
    refine g_aload_nK (n := 26) (x := 2 * x1) dX12_isWord_25 rfl rfl rfl ?_
    refine g_callVK (i := x1) (n := 29) (as := []) (bc' := 0) (bs' := 0) (ab_kq h.1) (ctJ0_length_8abf5 h) okJ0_length_8abf5 rfl w_2116 w_586 w_587 w_110 dX12_isWord_26 rfl rfl (Nat.le_of_ble_eq_true rfl) (Nat.le_of_ble_eq_true rfl) (Nat.le_of_ble_eq_true rfl) (Nat.le_of_ble_eq_true rfl) rfl (fun E sh1 I1 A1 hp _ => hp.2.elim) (fun ro sh_ I_4 A_5 hp hle => ?_)
    obtain ⟨rfl, r_6, rfl, h⟩ := hp
    refine g_icmp_ge (n := 32) 66 dX12_isWord_29 (by decide) rfl (fun hc => ?_) (fun hc => ?_)
    · have h := h.1 hc
      refine g_iload_n (n := 67) dX12_isWord_66 rfl rfl rfl ?_
      obtain ⟨hz, h⟩ := h
      exact g_iret rfl hz dX12_isWord_67 ⟨rfl, _, rfl, h⟩
    · have h := h.2 hc
      refine g_iload_n (n := 33) dX12_isWord_32 rfl rfl rfl ?_
      refine g_if_eq (n := 36) 66 dX12_isWord_33 (by decide) rfl (fun hc => ?_) (fun hc => ?_)
      · have h := h.1 hc
        refine g_iload_n (n := 67) dX12_isWord_66 rfl rfl rfl ?_
        obtain ⟨hz, h⟩ := h
        exact g_iret rfl hz dX12_isWord_67 ⟨rfl, _, rfl, h⟩
      · have h := h.2 hc
        refine g_aload_n (n := 37) dX12_isWord_36 rfl rfl rfl ?_
        refine g_aload_n (n := 38) dX12_isWord_37 rfl rfl rfl ?_
        refine g_getIE (n := 41) (k := 8) (x := (I_4 0 8)) dX12_isWord_38 sM_0 vc_16 (Nat.le_of_ble_eq_true rfl) rfl w_2002 rfl rfl ?_
        refine g_iload_n (n := 42) dX12_isWord_41 rfl rfl rfl ?_
        refine g_iadd (n := 43) dX12_isWord_42 rfl ?_
        refine g_callV (n := 46) (as := [.int ((I_4 0 8) + x3)]) (bc' := 0) (bs' := 0) sM_0 vc_16 (ctX12_byteAt h) okX12_byteAt rfl w_2095 w_2097 w_29 w_112 dX12_isWord_43 rfl rfl (Nat.le_of_ble_eq_true rfl) (Nat.le_of_ble_eq_true rfl) (Nat.le_of_ble_eq_true rfl) (Nat.le_of_ble_eq_true rfl) rfl (fun E sh1 I1 A1 hp _ => hp.2.elim) (fun ro sh_ I_7 A_8 hp hle => ?_)
        obtain ⟨rfl, r_9, rfl, h⟩ := hp
        refine g_aload_nK (n := 47) (x := 2 * x1) dX12_isWord_46 rfl rfl rfl ?_
        refine g_iload_n (n := 48) dX12_isWord_47 rfl rfl rfl ?_
        refine g_callVK (i := x1) (n := 51) (as := [.int x3]) (bc' := 0) (bs' := 0) (ab_kq h.1) (ctJ0_charAt_5068e h) okJ0_charAt_5068e rfl w_2117 w_595 w_596 w_110 dX12_isWord_48 rfl rfl (Nat.le_of_ble_eq_true rfl) (Nat.le_of_ble_eq_true rfl) (Nat.le_of_ble_eq_true rfl) (Nat.le_of_ble_eq_true rfl) rfl (fun E sh1 I1 A1 hp _ => hp.2.elim) (fun ro sh_ I_10 A_11 hp hle => ?_)
        obtain ⟨rfl, r_12, rfl, h⟩ := hp
        refine g_icmp_ne (n := 54) 58 dX12_isWord_51 (by decide) rfl (fun hc => ?_) (fun hc => ?_)
        · have h := h.1 hc
          refine g_iconst (n := 59) (v := (nI 0)) dX12_isWord_58 rfl rfl ?_
          refine g_istore_n (n := 60) (ls' := [some (.ref 0), some (.retAddr (2 * x1)), some (.int (nI 0)), some (.int x3)]) dX12_isWord_59 rfl rfl (Nat.le_of_ble_eq_true rfl) (Nat.le_of_ble_eq_true rfl) rfl rfl ?_
          refine g_iinc (n := 63) (v := (x3 + nI 1)) (ls' := [some (.ref 0), some (.retAddr (2 * x1)), some (.int (nI 0)), some (.int (x3 + nI 1))]) dX12_isWord_60 rfl rfl rfl (Nat.le_of_ble_eq_true rfl) rfl rfl ?_
          refine g_goto 24 dX12_isWord_63 (by decide) ?_
          exact hL24 _ _ _ _ _ h
        · have h := h.2 hc
          refine g_iconst (n := 55) (v := (nI 1)) dX12_isWord_54 rfl rfl ?_
          refine g_goto 59 dX12_isWord_55 (by decide) ?_
          refine g_istore_n (n := 60) (ls' := [some (.ref 0), some (.retAddr (2 * x1)), some (.int (nI 1)), some (.int x3)]) dX12_isWord_59 rfl rfl (Nat.le_of_ble_eq_true rfl) (Nat.le_of_ble_eq_true rfl) rfl rfl ?_
          refine g_iinc (n := 63) (v := (x3 + nI 1)) (ls' := [some (.ref 0), some (.retAddr (2 * x1)), some (.int (nI 1)), some (.int (x3 + nI 1))]) dX12_isWord_60 rfl rfl rfl (Nat.le_of_ble_eq_true rfl) rfl rfl ?_
          refine g_goto 24 dX12_isWord_63 (by decide) ?_
          exact hL24 _ _ _ _ _ h
set_option maxRecDepth 20000 in
theorem ctX12_isWord  {K : Int32 → ab_F → ab_F → Prop} {I A : ab_F} {p0 : Nat} (h : wX12_isWord K I A p0) : ab_Cl mX12_isWord 6 0 0 [.ref 0, .retAddr (2 * p0)] shM I A (ab_Px shM ab_no (ab_ri K)) := by
  refine ab_enter (ls := [some (.ref 0), some (.retAddr (2 * p0)), none, none]) (by decide +kernel) (Nat.le_of_ble_eq_true rfl) rfl (fun C => ?_)
  unfold wX12_isWord at h
  refine g_aload_n (n := 1) dX12_isWord_0 rfl rfl rfl ?_
  refine g_getIE (n := 4) (k := 9) (x := (I 0 9)) dX12_isWord_1 sM_0 vc_16 (Nat.le_of_ble_eq_true rfl) rfl w_2003 rfl rfl ?_
  refine g_aload_n (n := 5) dX12_isWord_4 rfl rfl rfl ?_
  refine g_getIE (n := 8) (k := 8) (x := (I 0 8)) dX12_isWord_5 sM_0 vc_16 (Nat.le_of_ble_eq_true rfl) rfl w_2002 rfl rfl ?_
  refine g_isub (n := 9) dX12_isWord_8 rfl ?_
  refine g_aload_nK (n := 10) (x := 2 * p0) dX12_isWord_9 rfl rfl rfl ?_
  refine g_callVK (i := p0) (n := 13) (as := []) (bc' := 0) (bs' := 0) (ab_kq h.1) (ctJ0_length_8abf5 h) okJ0_length_8abf5 rfl w_2116 w_586 w_587 w_110 dX12_isWord_10 rfl rfl (Nat.le_of_ble_eq_true rfl) (Nat.le_of_ble_eq_true rfl) (Nat.le_of_ble_eq_true rfl) (Nat.le_of_ble_eq_true rfl) rfl (fun E sh1 I1 A1 hp _ => hp.2.elim) (fun ro sh_ I_1 A_2 hp hle => ?_)
  obtain ⟨rfl, r_3, rfl, h⟩ := hp
  refine g_icmp_ne (n := 16) 20 dX12_isWord_13 (by decide) rfl (fun hc => ?_) (fun hc => ?_)
  · have h := h.1 hc
    refine g_iconst (n := 21) (v := (nI 0)) dX12_isWord_20 rfl rfl ?_
    refine g_istore_n (n := 22) (ls' := [some (.ref 0), some (.retAddr (2 * p0)), some (.int (nI 0)), none]) dX12_isWord_21 rfl rfl (Nat.le_of_ble_eq_true rfl) (Nat.le_of_ble_eq_true rfl) rfl rfl ?_
    refine g_iconst (n := 23) (v := (nI 0)) dX12_isWord_22 rfl rfl ?_
    refine g_istore_n (n := 24) (ls' := [some (.ref 0), some (.retAddr (2 * p0)), some (.int (nI 0)), some (.int (nI 0))]) dX12_isWord_23 rfl rfl (Nat.le_of_ble_eq_true rfl) (Nat.le_of_ble_eq_true rfl) rfl rfl ?_
    refine g_less (bc' := 0) (bs' := 0) (Nat.le_of_ble_eq_true rfl) (Nat.le_of_ble_eq_true rfl) ?_
    obtain ⟨n_f, h⟩ := h
    exact tlX12_isWord_24  n_f _ _ _ _ _ h
  · have h := h.2 hc
    refine g_iconst (n := 17) (v := (nI 1)) dX12_isWord_16 rfl rfl ?_
    refine g_goto 21 dX12_isWord_17 (by decide) ?_
    refine g_istore_n (n := 22) (ls' := [some (.ref 0), some (.retAddr (2 * p0)), some (.int (nI 1)), none]) dX12_isWord_21 rfl rfl (Nat.le_of_ble_eq_true rfl) (Nat.le_of_ble_eq_true rfl) rfl rfl ?_
    refine g_iconst (n := 23) (v := (nI 0)) dX12_isWord_22 rfl rfl ?_
    refine g_istore_n (n := 24) (ls' := [some (.ref 0), some (.retAddr (2 * p0)), some (.int (nI 1)), some (.int (nI 0))]) dX12_isWord_23 rfl rfl (Nat.le_of_ble_eq_true rfl) (Nat.le_of_ble_eq_true rfl) rfl rfl ?_
    refine g_less (bc' := 0) (bs' := 0) (Nat.le_of_ble_eq_true rfl) (Nat.le_of_ble_eq_true rfl) ?_
    obtain ⟨n_f, h⟩ := h
    exact tlX12_isWord_24  n_f _ _ _ _ _ h
def wX12_isDigit (K : Int32 → ab_F → ab_F → Prop) (I A : ab_F)  : Prop := wX12_byteAt (fun r_3 I_1 A_2 => wX12_in (fun r_6 I_4 A_5 => (narrow .boolean (.int r_6) = .int r_6 ∧ K r_6 I_4 A_5)) I_1 A_2 ((r_3).toInt64) (48 : Int64) (57 : Int64)) I A (I 0 8)
set_option maxRecDepth 20000 in
theorem ctX12_isDigit  {K : Int32 → ab_F → ab_F → Prop} {I A : ab_F}  (h : wX12_isDigit K I A ) : ab_Cl mX12_isDigit 1 0 0 [.ref 0] shM I A (ab_Px shM ab_no (ab_ri K)) := by
  refine ab_enter (ls := [some (.ref 0)]) (by decide +kernel) (Nat.le_of_ble_eq_true rfl) rfl (fun C => ?_)
  unfold wX12_isDigit at h
  refine g_aload_n (n := 1) dX12_isDigit_0 rfl rfl rfl ?_
  refine g_aload_n (n := 2) dX12_isDigit_1 rfl rfl rfl ?_
  refine g_getIE (n := 5) (k := 8) (x := (I 0 8)) dX12_isDigit_2 sM_0 vc_16 (Nat.le_of_ble_eq_true rfl) rfl w_2002 rfl rfl ?_
  refine g_callV (n := 8) (as := [.int (I 0 8)]) (bc' := 0) (bs' := 0) sM_0 vc_16 (ctX12_byteAt h) okX12_byteAt rfl w_2095 w_2097 w_29 w_112 dX12_isDigit_5 rfl rfl (Nat.le_of_ble_eq_true rfl) (Nat.le_of_ble_eq_true rfl) (Nat.le_of_ble_eq_true rfl) (Nat.le_of_ble_eq_true rfl) rfl (fun E sh1 I1 A1 hp _ => hp.2.elim) (fun ro sh_ I_1 A_2 hp hle => ?_)
  obtain ⟨rfl, r_3, rfl, h⟩ := hp
  refine g_i2l (n := 9) dX12_isDigit_8 rfl ?_
  refine g_ldc2 (n := 12) (v := (48 : Int64)) dX12_isDigit_9 w_2101 rfl ?_
  refine g_ldc2 (n := 15) (v := (57 : Int64)) dX12_isDigit_12 w_2102 rfl ?_
  refine g_callS (n := 18) (as := [.long ((r_3).toInt64), .long (48 : Int64), .long (57 : Int64)]) (bc' := 0) (bs' := 0) (ctX12_in h) okX12_in w_2080 w_2081 dX12_isDigit_15 rfl rfl (Nat.le_of_ble_eq_true rfl) (Nat.le_of_ble_eq_true rfl) (Nat.le_of_ble_eq_true rfl) (Nat.le_of_ble_eq_true rfl) rfl (fun E sh1 I1 A1 hp _ => hp.2.elim) (fun ro sh_ I_4 A_5 hp hle => ?_)
  obtain ⟨rfl, r_6, rfl, h⟩ := hp
  obtain ⟨hz, h⟩ := h
  exact g_iret rfl hz dX12_isDigit_18 ⟨rfl, _, rfl, h⟩
def wX12_pass (K : ab_F → ab_F → Prop) (I A : ab_F)  : Prop := ((¬ (I 0 11) = 0 → K I A) ∧ ((I 0 11) = 0 → wX12_next (fun I_1 A_2 => K I_1 A_2) I A ))
set_option maxRecDepth 20000 in
theorem ctX12_pass  {K : ab_F → ab_F → Prop} {I A : ab_F}  (h : wX12_pass K I A ) : ab_Cl mX12_pass 2 0 0 [.ref 0] shM I A (ab_Px shM ab_no (ab_rv K)) := by
  refine ab_enter (ls := [some (.ref 0)]) (by decide +kernel) (Nat.le_of_ble_eq_true rfl) rfl (fun C => ?_)
  unfold wX12_pass at h
  refine g_aload_n (n := 1) dX12_pass_0 rfl rfl rfl ?_
  refine g_getIE (n := 4) (k := 11) (x := (I 0 11)) dX12_pass_1 sM_0 vc_16 (Nat.le_of_ble_eq_true rfl) rfl w_2005 rfl rfl ?_
  refine g_if_ne (n := 7) 11 dX12_pass_4 (by decide) rfl (fun hc => ?_) (fun hc => ?_)
  · have h := h.1 hc
    exact g_vret rfl dX12_pass_11 ⟨rfl, rfl, h⟩
  · have h := h.2 hc
    refine g_aload_n (n := 8) dX12_pass_7 rfl rfl rfl ?_
    refine g_callV (n := 11) (as := []) (bc' := 0) (bs' := 0) sM_0 vc_16 (ctX12_next h) okX12_next rfl w_2091 w_2093 w_28 w_112 dX12_pass_8 rfl rfl (Nat.le_of_ble_eq_true rfl) (Nat.le_of_ble_eq_true rfl) (Nat.le_of_ble_eq_true rfl) (Nat.le_of_ble_eq_true rfl) rfl (fun E sh1 I1 A1 hp _ => hp.2.elim) (fun ro sh_ I_1 A_2 hp hle => ?_)
    obtain ⟨rfl, rfl, h⟩ := hp
    exact g_vret rfl dX12_pass_11 ⟨rfl, rfl, h⟩
def wjX12_number_112 (K : Int32 → ab_F → ab_F → Prop) (x3 : Int32) (I A : ab_F) : Prop := wX12_pass (fun I_5 A_6 => K x3 I_5 A_6) I A 
def wjX12_number_88 (K : Int32 → ab_F → ab_F → Prop) (x1 : Int32) (x2 : Int32) (x3 : Int32) (I A : ab_F) : Prop := ((¬ (I 0 11) = 0 → wjX12_number_112 K x3 I A) ∧ ((I 0 11) = 0 → wX12_in (fun r_9 I_7 A_8 => ((¬ r_9 = 0 → wjX12_number_112 K x3 I_7 A_8) ∧ (r_9 = 0 → wX12_wrong (fun I_10 A_11 => wjX12_number_112 K x3 I_10 A_11) I_7 A_8 (nI 2)))) I A ((x3).toInt64) ((x1).toInt64) ((x2).toInt64)))
def wlX12_number_51 (K : Int32 → ab_F → ab_F → Prop) : Nat → Int32 → Int32 → Int32 → Int32 → ab_F → ab_F → Prop
  | 0, _, _, _, _, _, _ => False
  | n + 1, x1, x2, x3, x4, I, A => (((I 0 9) ≤ x4 → wjX12_number_88 K x1 x2 x3 I A) ∧ (¬ (I 0 9) ≤ x4 → ((¬ (I 0 11) = 0 → wjX12_number_88 K x1 x2 x3 I A) ∧ ((I 0 11) = 0 → wX12_byteAt (fun r_14 I_12 A_13 => (∀ y_15 : Int32, y_15 = ((((nI 10) * x3) + r_14) - (nI 48)) → (wlX12_number_51 K n) x1 x2 y_15 (x4 + nI 1) I_12 A_13)) I A x4))))
def wjX12_number_43 (K : Int32 → ab_F → ab_F → Prop) (x1 : Int32) (x2 : Int32) (I A : ab_F) : Prop := (∀ y_4 : Int32, y_4 = (I 0 8) → (∃ nf : Nat, wlX12_number_51 K nf x1 x2 (nI 0) y_4 I A))
def wX12_number (K : Int32 → ab_F → ab_F → Prop) (I A : ab_F) (p0 : Int32) (p1 : Int32) : Prop := (((I 0 11) ≤ 0 → wX12_isDigit (fun r_3 I_1 A_2 => ((¬ r_3 = 0 → ((((I_1 0 9) - (I_1 0 8)) ≤ (nI 9) → wjX12_number_43 K p0 p1 I_1 A_2) ∧ (¬ ((I_1 0 9) - (I_1 0 8)) ≤ (nI 9) → wX12_wrong (fun I_16 A_17 => wjX12_number_43 K p0 p1 I_16 A_17) I_1 A_2 (nI 2)))) ∧ (r_3 = 0 → wX12_wrong (fun I_18 A_19 => wjX12_number_43 K p0 p1 I_18 A_19) I_1 A_2 (nI 1)))) I A ) ∧ (¬ (I 0 11) ≤ 0 → K (nI 0) I A))
set_option maxRecDepth 20000 in
theorem tjX12_number_112 {C : ab_X}  {K : Int32 → ab_F → ab_F → Prop} (x3 : Int32) (I A : ab_F) (h : wjX12_number_112 K x3 I A) : ab_G mX12_number 3 C (ab_Px shM ab_no (ab_ri K)) 112 [some (.ref 0), none, none, some (.int x3), none] [] shM I A 0 0 := by
  unfold wjX12_number_112 at h
  refine g_aload_n (n := 113) dX12_number_112 rfl rfl rfl ?_
  refine g_callV (n := 116) (as := []) (bc' := 0) (bs' := 0) sM_0 vc_16 (ctX12_pass h) okX12_pass rfl w_2122 w_2124 w_34 w_112 dX12_number_113 rfl rfl (Nat.le_of_ble_eq_true rfl) (Nat.le_of_ble_eq_true rfl) (Nat.le_of_ble_eq_true rfl) (Nat.le_of_ble_eq_true rfl) rfl (fun E sh1 I1 A1 hp _ => hp.2.elim) (fun ro sh_ I_5 A_6 hp hle => ?_)
  obtain ⟨rfl, rfl, h⟩ := hp
  refine g_iload_n (n := 117) dX12_number_116 rfl rfl rfl ?_
  exact g_iret rfl rfl dX12_number_117 ⟨rfl, _, rfl, h⟩
set_option maxRecDepth 20000 in
theorem tjX12_number_88 {C : ab_X}  {K : Int32 → ab_F → ab_F → Prop} (x1 : Int32) (x2 : Int32) (x3 : Int32) (I A : ab_F) (h : wjX12_number_88 K x1 x2 x3 I A) : ab_G mX12_number 3 C (ab_Px shM ab_no (ab_ri K)) 88 [some (.ref 0), some (.int x1), some (.int x2), some (.int x3), none] [] shM I A 0 0 := by
  unfold wjX12_number_88 at h
  refine g_aload_n (n := 89) dX12_number_88 rfl rfl rfl ?_
  refine g_getIE (n := 92) (k := 11) (x := (I 0 11)) dX12_number_89 sM_0 vc_16 (Nat.le_of_ble_eq_true rfl) rfl w_2005 rfl rfl ?_
  refine g_if_ne (n := 95) 112 dX12_number_92 (by decide) rfl (fun hc => ?_) (fun hc => ?_)
  · have h := h.1 hc
    refine g_forget (ls' := [some (.ref 0), none, none, some (.int x3), none]) (ab_fg rfl) ?_
    refine g_less (bc' := 0) (bs' := 0) (Nat.le_of_ble_eq_true rfl) (Nat.le_of_ble_eq_true rfl) ?_
    exact tjX12_number_112  _ _ _ h
  · have h := h.2 hc
    refine g_iload_n (n := 96) dX12_number_95 rfl rfl rfl ?_
    refine g_i2l (n := 97) dX12_number_96 rfl ?_
    refine g_iload_n (n := 98) dX12_number_97 rfl rfl rfl ?_
    refine g_i2l (n := 99) dX12_number_98 rfl ?_
    refine g_iload_n (n := 100) dX12_number_99 rfl rfl rfl ?_
    refine g_i2l (n := 101) dX12_number_100 rfl ?_
    refine g_callS (n := 104) (as := [.long ((x3).toInt64), .long ((x1).toInt64), .long ((x2).toInt64)]) (bc' := 0) (bs' := 0) (ctX12_in h) okX12_in w_2080 w_2081 dX12_number_101 rfl rfl (Nat.le_of_ble_eq_true rfl) (Nat.le_of_ble_eq_true rfl) (Nat.le_of_ble_eq_true rfl) (Nat.le_of_ble_eq_true rfl) rfl (fun E sh1 I1 A1 hp _ => hp.2.elim) (fun ro sh_ I_7 A_8 hp hle => ?_)
    obtain ⟨rfl, r_9, rfl, h⟩ := hp
    refine g_if_ne (n := 107) 112 dX12_number_104 (by decide) rfl (fun hc => ?_) (fun hc => ?_)
    · have h := h.1 hc
      refine g_forget (ls' := [some (.ref 0), none, none, some (.int x3), none]) (ab_fg rfl) ?_
      refine g_less (bc' := 0) (bs' := 0) (Nat.le_of_ble_eq_true rfl) (Nat.le_of_ble_eq_true rfl) ?_
      exact tjX12_number_112  _ _ _ h
    · have h := h.2 hc
      refine g_aload_n (n := 108) dX12_number_107 rfl rfl rfl ?_
      refine g_iconst (n := 109) (v := (nI 2)) dX12_number_108 rfl rfl ?_
      refine g_callV (n := 112) (as := [.int (nI 2)]) (bc' := 0) (bs' := 0) sM_0 vc_16 (ctX12_wrong h) okX12_wrong rfl w_2118 w_2120 w_33 w_112 dX12_number_109 rfl rfl (Nat.le_of_ble_eq_true rfl) (Nat.le_of_ble_eq_true rfl) (Nat.le_of_ble_eq_true rfl) (Nat.le_of_ble_eq_true rfl) rfl (fun E sh1 I1 A1 hp _ => hp.2.elim) (fun ro sh_ I_10 A_11 hp hle => ?_)
      obtain ⟨rfl, rfl, h⟩ := hp
      refine g_forget (ls' := [some (.ref 0), none, none, some (.int x3), none]) (ab_fg rfl) ?_
      refine g_less (bc' := 0) (bs' := 0) (Nat.le_of_ble_eq_true rfl) (Nat.le_of_ble_eq_true rfl) ?_
      exact tjX12_number_112  _ _ _ h
set_option maxRecDepth 20000 in
theorem tlX12_number_51 {C : ab_X}  {K : Int32 → ab_F → ab_F → Prop} : ∀ (n : Nat) (x1 : Int32) (x2 : Int32) (x3 : Int32) (x4 : Int32) (I A : ab_F), wlX12_number_51 K n x1 x2 x3 x4 I A → ab_G mX12_number 3 C (ab_Px shM ab_no (ab_ri K)) 51 [some (.ref 0), some (.int x1), some (.int x2), some (.int x3), some (.int x4)] [] shM I A 0 0 := by
  intro n
  induction n with
  | zero => intro x1 x2 x3 x4 I A h; exact h.elim
  | succ n hL51 =>
    intro x1 x2 x3 x4 I A h
    rw [wlX12_number_51] at h
    refine g_iload (n := 53) dX12_number_51 rfl rfl ?_
    refine g_aload_n (n := 54) dX12_number_53 rfl rfl rfl ?_
    refine g_getIE (n := 57) (k := 9) (x := (I 0 9)) dX12_number_54 sM_0 vc_16 (Nat.le_of_ble_eq_true rfl) rfl w_2003 rfl rfl ?_
    refine g_icmp_ge (n := 60) 88 dX12_number_57 (by decide) rfl (fun hc => ?_) (fun hc => ?_)
    · have h := h.1 hc
      refine g_forget (ls' := [some (.ref 0), some (.int x1), some (.int x2), some (.int x3), none]) (ab_fg rfl) ?_
      refine g_less (bc' := 0) (bs' := 0) (Nat.le_of_ble_eq_true rfl) (Nat.le_of_ble_eq_true rfl) ?_
      exact tjX12_number_88  _ _ _ _ _ h
    · have h := h.2 hc
      refine g_aload_n (n := 61) dX12_number_60 rfl rfl rfl ?_
      refine g_getIE (n := 64) (k := 11) (x := (I 0 11)) dX12_number_61 sM_0 vc_16 (Nat.le_of_ble_eq_true rfl) rfl w_2005 rfl rfl ?_
      refine g_if_ne (n := 67) 88 dX12_number_64 (by decide) rfl (fun hc => ?_) (fun hc => ?_)
      · have h := h.1 hc
        refine g_forget (ls' := [some (.ref 0), some (.int x1), some (.int x2), some (.int x3), none]) (ab_fg rfl) ?_
        refine g_less (bc' := 0) (bs' := 0) (Nat.le_of_ble_eq_true rfl) (Nat.le_of_ble_eq_true rfl) ?_
        exact tjX12_number_88  _ _ _ _ _ h
      · have h := h.2 hc
        refine g_bipush (n := 69) (v := (nI 10)) dX12_number_67 rfl rfl ?_
        refine g_iload_n (n := 70) dX12_number_69 rfl rfl rfl ?_
        refine g_imul (n := 71) dX12_number_70 rfl ?_
        refine g_aload_n (n := 72) dX12_number_71 rfl rfl rfl ?_
        refine g_iload (n := 74) dX12_number_72 rfl rfl ?_
        refine g_callV (n := 77) (as := [.int x4]) (bc' := 0) (bs' := 0) sM_0 vc_16 (ctX12_byteAt h) okX12_byteAt rfl w_2095 w_2097 w_29 w_112 dX12_number_74 rfl rfl (Nat.le_of_ble_eq_true rfl) (Nat.le_of_ble_eq_true rfl) (Nat.le_of_ble_eq_true rfl) (Nat.le_of_ble_eq_true rfl) rfl (fun E sh1 I1 A1 hp _ => hp.2.elim) (fun ro sh_ I_12 A_13 hp hle => ?_)
        obtain ⟨rfl, r_14, rfl, h⟩ := hp
        refine g_iadd (n := 78) dX12_number_77 rfl ?_
        refine g_bipush (n := 80) (v := (nI 48)) dX12_number_78 rfl rfl ?_
        refine g_isub (n := 81) dX12_number_80 rfl ?_
        refine g_topi (fun y_15 ey_15 => ?_)
        have h := h y_15 ey_15
        refine g_istore_n (n := 82) (ls' := [some (.ref 0), some (.int x1), some (.int x2), some (.int y_15), some (.int x4)]) dX12_number_81 rfl rfl (Nat.le_of_ble_eq_true rfl) (Nat.le_of_ble_eq_true rfl) rfl rfl ?_
        refine g_iinc (n := 85) (v := (x4 + nI 1)) (ls' := [some (.ref 0), some (.int x1), some (.int x2), some (.int y_15), some (.int (x4 + nI 1))]) dX12_number_82 rfl rfl rfl (Nat.le_of_ble_eq_true rfl) rfl rfl ?_
        refine g_goto 51 dX12_number_85 (by decide) ?_
        exact hL51 _ _ _ _ _ _ h
set_option maxRecDepth 20000 in
theorem tjX12_number_43 {C : ab_X}  {K : Int32 → ab_F → ab_F → Prop} (x1 : Int32) (x2 : Int32) (I A : ab_F) (h : wjX12_number_43 K x1 x2 I A) : ab_G mX12_number 3 C (ab_Px shM ab_no (ab_ri K)) 43 [some (.ref 0), some (.int x1), some (.int x2), none, none] [] shM I A 0 0 := by
  unfold wjX12_number_43 at h
  refine g_iconst (n := 44) (v := (nI 0)) dX12_number_43 rfl rfl ?_
  refine g_istore_n (n := 45) (ls' := [some (.ref 0), some (.int x1), some (.int x2), some (.int (nI 0)), none]) dX12_number_44 rfl rfl (Nat.le_of_ble_eq_true rfl) (Nat.le_of_ble_eq_true rfl) rfl rfl ?_
  refine g_aload_n (n := 46) dX12_number_45 rfl rfl rfl ?_
  refine g_getIE (n := 49) (k := 8) (x := (I 0 8)) dX12_number_46 sM_0 vc_16 (Nat.le_of_ble_eq_true rfl) rfl w_2002 rfl rfl ?_
  refine g_topi (fun y_4 ey_4 => ?_)
  have h := h y_4 ey_4
  refine g_istore (n := 51) (ls' := [some (.ref 0), some (.int x1), some (.int x2), some (.int (nI 0)), some (.int y_4)]) dX12_number_49 rfl (Nat.le_of_ble_eq_true rfl) (Nat.le_of_ble_eq_true rfl) rfl rfl ?_
  refine g_less (bc' := 0) (bs' := 0) (Nat.le_of_ble_eq_true rfl) (Nat.le_of_ble_eq_true rfl) ?_
  obtain ⟨n_f, h⟩ := h
  exact tlX12_number_51  n_f _ _ _ _ _ _ h
set_option maxRecDepth 20000 in
theorem ctX12_number  {K : Int32 → ab_F → ab_F → Prop} {I A : ab_F} {p0 : Int32} {p1 : Int32} (h : wX12_number K I A p0 p1) : ab_Cl mX12_number 3 0 0 [.ref 0, .int p0, .int p1] shM I A (ab_Px shM ab_no (ab_ri K)) := by
  refine ab_enter (ls := [some (.ref 0), some (.int p0), some (.int p1), none, none]) (by decide +kernel) (Nat.le_of_ble_eq_true rfl) rfl (fun C => ?_)
  unfold wX12_number at h
  refine g_aload_n (n := 1) dX12_number_0 rfl rfl rfl ?_
  refine g_getIE (n := 4) (k := 11) (x := (I 0 11)) dX12_number_1 sM_0 vc_16 (Nat.le_of_ble_eq_true rfl) rfl w_2005 rfl rfl ?_
  refine g_if_le (n := 7) 9 dX12_number_4 (by decide) rfl (fun hc => ?_) (fun hc => ?_)
  · have h := h.1 hc
    refine g_aload_n (n := 10) dX12_number_9 rfl rfl rfl ?_
    refine g_callV (n := 13) (as := []) (bc' := 0) (bs' := 0) sM_0 vc_16 (ctX12_isDigit h) okX12_isDigit rfl w_2130 w_2132 w_36 w_112 dX12_number_10 rfl rfl (Nat.le_of_ble_eq_true rfl) (Nat.le_of_ble_eq_true rfl) (Nat.le_of_ble_eq_true rfl) (Nat.le_of_ble_eq_true rfl) rfl (fun E sh1 I1 A1 hp _ => hp.2.elim) (fun ro sh_ I_1 A_2 hp hle => ?_)
    obtain ⟨rfl, r_3, rfl, h⟩ := hp
    refine g_if_ne (n := 16) 24 dX12_number_13 (by decide) rfl (fun hc => ?_) (fun hc => ?_)
    · have h := h.1 hc
      refine g_aload_n (n := 25) dX12_number_24 rfl rfl rfl ?_
      refine g_getIE (n := 28) (k := 9) (x := (I_1 0 9)) dX12_number_25 sM_0 vc_16 (Nat.le_of_ble_eq_true rfl) rfl w_2003 rfl rfl ?_
      refine g_aload_n (n := 29) dX12_number_28 rfl rfl rfl ?_
      refine g_getIE (n := 32) (k := 8) (x := (I_1 0 8)) dX12_number_29 sM_0 vc_16 (Nat.le_of_ble_eq_true rfl) rfl w_2002 rfl rfl ?_
      refine g_isub (n := 33) dX12_number_32 rfl ?_
      refine g_bipush (n := 35) (v := (nI 9)) dX12_number_33 rfl rfl ?_
      refine g_icmp_le (n := 38) 43 dX12_number_35 (by decide) rfl (fun hc => ?_) (fun hc => ?_)
      · have h := h.1 hc
        refine g_less (bc' := 0) (bs' := 0) (Nat.le_of_ble_eq_true rfl) (Nat.le_of_ble_eq_true rfl) ?_
        exact tjX12_number_43  _ _ _ _ h
      · have h := h.2 hc
        refine g_aload_n (n := 39) dX12_number_38 rfl rfl rfl ?_
        refine g_iconst (n := 40) (v := (nI 2)) dX12_number_39 rfl rfl ?_
        refine g_callV (n := 43) (as := [.int (nI 2)]) (bc' := 0) (bs' := 0) sM_0 vc_16 (ctX12_wrong h) okX12_wrong rfl w_2118 w_2120 w_33 w_112 dX12_number_40 rfl rfl (Nat.le_of_ble_eq_true rfl) (Nat.le_of_ble_eq_true rfl) (Nat.le_of_ble_eq_true rfl) (Nat.le_of_ble_eq_true rfl) rfl (fun E sh1 I1 A1 hp _ => hp.2.elim) (fun ro sh_ I_16 A_17 hp hle => ?_)
        obtain ⟨rfl, rfl, h⟩ := hp
        refine g_less (bc' := 0) (bs' := 0) (Nat.le_of_ble_eq_true rfl) (Nat.le_of_ble_eq_true rfl) ?_
        exact tjX12_number_43  _ _ _ _ h
    · have h := h.2 hc
      refine g_aload_n (n := 17) dX12_number_16 rfl rfl rfl ?_
      refine g_iconst (n := 18) (v := (nI 1)) dX12_number_17 rfl rfl ?_
      refine g_callV (n := 21) (as := [.int (nI 1)]) (bc' := 0) (bs' := 0) sM_0 vc_16 (ctX12_wrong h) okX12_wrong rfl w_2118 w_2120 w_33 w_112 dX12_number_18 rfl rfl (Nat.le_of_ble_eq_true rfl) (Nat.le_of_ble_eq_true rfl) (Nat.le_of_ble_eq_true rfl) (Nat.le_of_ble_eq_true rfl) rfl (fun E sh1 I1 A1 hp _ => hp.2.elim) (fun ro sh_ I_18 A_19 hp hle => ?_)
      obtain ⟨rfl, rfl, h⟩ := hp
      refine g_goto 43 dX12_number_21 (by decide) ?_
      refine g_less (bc' := 0) (bs' := 0) (Nat.le_of_ble_eq_true rfl) (Nat.le_of_ble_eq_true rfl) ?_
      exact tjX12_number_43  _ _ _ _ h
  · have h := h.2 hc
    refine g_iconst (n := 8) (v := (nI 0)) dX12_number_7 rfl rfl ?_
    exact g_iret rfl rfl dX12_number_8 ⟨rfl, _, rfl, h⟩
def wjX12_must_13 (K : ab_F → ab_F → Prop)  (I A : ab_F) : Prop := wX12_pass (fun I_4 A_5 => K I_4 A_5) I A 
def wX12_must (K : ab_F → ab_F → Prop) (I A : ab_F) (p0 : Nat) : Prop := wX12_isWord (fun r_3 I_1 A_2 => ((¬ r_3 = 0 → wjX12_must_13 K  I_1 A_2) ∧ (r_3 = 0 → wX12_wrong (fun I_6 A_7 => wjX12_must_13 K  I_6 A_7) I_1 A_2 (nI 1)))) I A p0
set_option maxRecDepth 20000 in
theorem tjX12_must_13 {C : ab_X}  {K : ab_F → ab_F → Prop}  (I A : ab_F) (h : wjX12_must_13 K  I A) : ab_G mX12_must 7 C (ab_Px shM ab_no (ab_rv K)) 13 [some (.ref 0), none] [] shM I A 0 0 := by
  unfold wjX12_must_13 at h
  refine g_aload_n (n := 14) dX12_must_13 rfl rfl rfl ?_
  refine g_callV (n := 17) (as := []) (bc' := 0) (bs' := 0) sM_0 vc_16 (ctX12_pass h) okX12_pass rfl w_2122 w_2124 w_34 w_112 dX12_must_14 rfl rfl (Nat.le_of_ble_eq_true rfl) (Nat.le_of_ble_eq_true rfl) (Nat.le_of_ble_eq_true rfl) (Nat.le_of_ble_eq_true rfl) rfl (fun E sh1 I1 A1 hp _ => hp.2.elim) (fun ro sh_ I_4 A_5 hp hle => ?_)
  obtain ⟨rfl, rfl, h⟩ := hp
  exact g_vret rfl dX12_must_17 ⟨rfl, rfl, h⟩
set_option maxRecDepth 20000 in
theorem ctX12_must  {K : ab_F → ab_F → Prop} {I A : ab_F} {p0 : Nat} (h : wX12_must K I A p0) : ab_Cl mX12_must 7 0 0 [.ref 0, .retAddr (2 * p0)] shM I A (ab_Px shM ab_no (ab_rv K)) := by
  refine ab_enter (ls := [some (.ref 0), some (.retAddr (2 * p0))]) (by decide +kernel) (Nat.le_of_ble_eq_true rfl) rfl (fun C => ?_)
  unfold wX12_must at h
  refine g_aload_n (n := 1) dX12_must_0 rfl rfl rfl ?_
  refine g_aload_nK (n := 2) (x := 2 * p0) dX12_must_1 rfl rfl rfl ?_
  refine g_callV (n := 5) (as := [.retAddr (2 * p0)]) (bc' := 0) (bs' := 0) sM_0 vc_16 (ctX12_isWord h) okX12_isWord rfl w_2112 w_2114 w_32 w_112 dX12_must_2 rfl rfl (Nat.le_of_ble_eq_true rfl) (Nat.le_of_ble_eq_true rfl) (Nat.le_of_ble_eq_true rfl) (Nat.le_of_ble_eq_true rfl) rfl (fun E sh1 I1 A1 hp _ => hp.2.elim) (fun ro sh_ I_1 A_2 hp hle => ?_)
  obtain ⟨rfl, r_3, rfl, h⟩ := hp
  refine g_if_ne (n := 8) 13 dX12_must_5 (by decide) rfl (fun hc => ?_) (fun hc => ?_)
  · have h := h.1 hc
    refine g_forget (ls' := [some (.ref 0), none]) (ab_fg rfl) ?_
    refine g_less (bc' := 0) (bs' := 0) (Nat.le_of_ble_eq_true rfl) (Nat.le_of_ble_eq_true rfl) ?_
    exact tjX12_must_13   _ _ h
  · have h := h.2 hc
    refine g_aload_n (n := 9) dX12_must_8 rfl rfl rfl ?_
    refine g_iconst (n := 10) (v := (nI 1)) dX12_must_9 rfl rfl ?_
    refine g_callV (n := 13) (as := [.int (nI 1)]) (bc' := 0) (bs' := 0) sM_0 vc_16 (ctX12_wrong h) okX12_wrong rfl w_2118 w_2120 w_33 w_112 dX12_must_10 rfl rfl (Nat.le_of_ble_eq_true rfl) (Nat.le_of_ble_eq_true rfl) (Nat.le_of_ble_eq_true rfl) (Nat.le_of_ble_eq_true rfl) rfl (fun E sh1 I1 A1 hp _ => hp.2.elim) (fun ro sh_ I_6 A_7 hp hle => ?_)
    obtain ⟨rfl, rfl, h⟩ := hp
    refine g_forget (ls' := [some (.ref 0), none]) (ab_fg rfl) ?_
    refine g_less (bc' := 0) (bs' := 0) (Nat.le_of_ble_eq_true rfl) (Nat.le_of_ble_eq_true rfl) ?_
    exact tjX12_must_13   _ _ h
def wjX12_wordOf_59 (K : Int32 → ab_F → ab_F → Prop) (x4 : Int32) (I A : ab_F) : Prop := wX12_pass (fun I_10 A_11 => K x4 I_10 A_11) I A 
def wjX12_wordOf_46 (K : Int32 → ab_F → ab_F → Prop) (s0 : Int32) (I A : ab_F) : Prop := ((¬ s0 = (-1 : Int32) → wjX12_wordOf_59 K s0 I A) ∧ (s0 = (-1 : Int32) → wX12_wrong (fun I_12 A_13 => wjX12_wordOf_59 K s0 I_12 A_13) I A (nI 1)))
def wX12_wordOf (K : Int32 → ab_F → ab_F → Prop) (I A : ab_F) (p0 : Nat) (p1 : Nat) (p2 : Nat) : Prop := (((I 0 11) ≤ 0 → wX12_isWord (fun r_3 I_1 A_2 => ((r_3 = 0 → wX12_isWord (fun r_6 I_4 A_5 => ((r_6 = 0 → wX12_isWord (fun r_9 I_7 A_8 => ((r_9 = 0 → wjX12_wordOf_46 K (-1 : Int32) I_7 A_8) ∧ (¬ r_9 = 0 → wjX12_wordOf_46 K (nI 2) I_7 A_8))) I_4 A_5 p2) ∧ (¬ r_6 = 0 → wjX12_wordOf_46 K (nI 1) I_4 A_5))) I_1 A_2 p1) ∧ (¬ r_3 = 0 → wjX12_wordOf_46 K (nI 0) I_1 A_2))) I A p0) ∧ (¬ (I 0 11) ≤ 0 → K (nI 0) I A))
set_option maxRecDepth 20000 in
theorem tjX12_wordOf_59 {C : ab_X}  {K : Int32 → ab_F → ab_F → Prop} (x4 : Int32) (I A : ab_F) (h : wjX12_wordOf_59 K x4 I A) : ab_G mX12_wordOf 7 C (ab_Px shM ab_no (ab_ri K)) 59 [some (.ref 0), none, none, none, some (.int x4)] [] shM I A 0 0 := by
  unfold wjX12_wordOf_59 at h
  refine g_aload_n (n := 60) dX12_wordOf_59 rfl rfl rfl ?_
  refine g_callV (n := 63) (as := []) (bc' := 0) (bs' := 0) sM_0 vc_16 (ctX12_pass h) okX12_pass rfl w_2122 w_2124 w_34 w_112 dX12_wordOf_60 rfl rfl (Nat.le_of_ble_eq_true rfl) (Nat.le_of_ble_eq_true rfl) (Nat.le_of_ble_eq_true rfl) (Nat.le_of_ble_eq_true rfl) rfl (fun E sh1 I1 A1 hp _ => hp.2.elim) (fun ro sh_ I_10 A_11 hp hle => ?_)
  obtain ⟨rfl, rfl, h⟩ := hp
  refine g_iload (n := 65) dX12_wordOf_63 rfl rfl ?_
  exact g_iret rfl rfl dX12_wordOf_65 ⟨rfl, _, rfl, h⟩
set_option maxRecDepth 20000 in
theorem tjX12_wordOf_46 {C : ab_X}  {K : Int32 → ab_F → ab_F → Prop} (s0 : Int32) (I A : ab_F) (h : wjX12_wordOf_46 K s0 I A) : ab_G mX12_wordOf 7 C (ab_Px shM ab_no (ab_ri K)) 46 [some (.ref 0), none, none, none, none] [.int s0] shM I A 0 0 := by
  unfold wjX12_wordOf_46 at h
  refine g_istore (n := 48) (ls' := [some (.ref 0), none, none, none, some (.int s0)]) dX12_wordOf_46 rfl (Nat.le_of_ble_eq_true rfl) (Nat.le_of_ble_eq_true rfl) rfl rfl ?_
  refine g_iload (n := 50) dX12_wordOf_48 rfl rfl ?_
  refine g_iconst (n := 51) (v := (-1 : Int32)) dX12_wordOf_50 rfl rfl ?_
  refine g_icmp_ne (n := 54) 59 dX12_wordOf_51 (by decide) rfl (fun hc => ?_) (fun hc => ?_)
  · have h := h.1 hc
    refine g_less (bc' := 0) (bs' := 0) (Nat.le_of_ble_eq_true rfl) (Nat.le_of_ble_eq_true rfl) ?_
    exact tjX12_wordOf_59  _ _ _ h
  · have h := h.2 hc
    refine g_aload_n (n := 55) dX12_wordOf_54 rfl rfl rfl ?_
    refine g_iconst (n := 56) (v := (nI 1)) dX12_wordOf_55 rfl rfl ?_
    refine g_callV (n := 59) (as := [.int (nI 1)]) (bc' := 0) (bs' := 0) sM_0 vc_16 (ctX12_wrong h) okX12_wrong rfl w_2118 w_2120 w_33 w_112 dX12_wordOf_56 rfl rfl (Nat.le_of_ble_eq_true rfl) (Nat.le_of_ble_eq_true rfl) (Nat.le_of_ble_eq_true rfl) (Nat.le_of_ble_eq_true rfl) rfl (fun E sh1 I1 A1 hp _ => hp.2.elim) (fun ro sh_ I_12 A_13 hp hle => ?_)
    obtain ⟨rfl, rfl, h⟩ := hp
    refine g_less (bc' := 0) (bs' := 0) (Nat.le_of_ble_eq_true rfl) (Nat.le_of_ble_eq_true rfl) ?_
    exact tjX12_wordOf_59  _ _ _ h
set_option maxRecDepth 20000 in
theorem ctX12_wordOf  {K : Int32 → ab_F → ab_F → Prop} {I A : ab_F} {p0 : Nat} {p1 : Nat} {p2 : Nat} (h : wX12_wordOf K I A p0 p1 p2) : ab_Cl mX12_wordOf 7 0 0 [.ref 0, .retAddr (2 * p0), .retAddr (2 * p1), .retAddr (2 * p2)] shM I A (ab_Px shM ab_no (ab_ri K)) := by
  refine ab_enter (ls := [some (.ref 0), some (.retAddr (2 * p0)), some (.retAddr (2 * p1)), some (.retAddr (2 * p2)), none]) (by decide +kernel) (Nat.le_of_ble_eq_true rfl) rfl (fun C => ?_)
  unfold wX12_wordOf at h
  refine g_aload_n (n := 1) dX12_wordOf_0 rfl rfl rfl ?_
  refine g_getIE (n := 4) (k := 11) (x := (I 0 11)) dX12_wordOf_1 sM_0 vc_16 (Nat.le_of_ble_eq_true rfl) rfl w_2005 rfl rfl ?_
  refine g_if_le (n := 7) 9 dX12_wordOf_4 (by decide) rfl (fun hc => ?_) (fun hc => ?_)
  · have h := h.1 hc
    refine g_aload_n (n := 10) dX12_wordOf_9 rfl rfl rfl ?_
    refine g_aload_nK (n := 11) (x := 2 * p0) dX12_wordOf_10 rfl rfl rfl ?_
    refine g_callV (n := 14) (as := [.retAddr (2 * p0)]) (bc' := 0) (bs' := 0) sM_0 vc_16 (ctX12_isWord h) okX12_isWord rfl w_2112 w_2114 w_32 w_112 dX12_wordOf_11 rfl rfl (Nat.le_of_ble_eq_true rfl) (Nat.le_of_ble_eq_true rfl) (Nat.le_of_ble_eq_true rfl) (Nat.le_of_ble_eq_true rfl) rfl (fun E sh1 I1 A1 hp _ => hp.2.elim) (fun ro sh_ I_1 A_2 hp hle => ?_)
    obtain ⟨rfl, r_3, rfl, h⟩ := hp
    refine g_if_eq (n := 17) 21 dX12_wordOf_14 (by decide) rfl (fun hc => ?_) (fun hc => ?_)
    · have h := h.1 hc
      refine g_aload_n (n := 22) dX12_wordOf_21 rfl rfl rfl ?_
      refine g_aload_nK (n := 23) (x := 2 * p1) dX12_wordOf_22 rfl rfl rfl ?_
      refine g_callV (n := 26) (as := [.retAddr (2 * p1)]) (bc' := 0) (bs' := 0) sM_0 vc_16 (ctX12_isWord h) okX12_isWord rfl w_2112 w_2114 w_32 w_112 dX12_wordOf_23 rfl rfl (Nat.le_of_ble_eq_true rfl) (Nat.le_of_ble_eq_true rfl) (Nat.le_of_ble_eq_true rfl) (Nat.le_of_ble_eq_true rfl) rfl (fun E sh1 I1 A1 hp _ => hp.2.elim) (fun ro sh_ I_4 A_5 hp hle => ?_)
      obtain ⟨rfl, r_6, rfl, h⟩ := hp
      refine g_if_eq (n := 29) 33 dX12_wordOf_26 (by decide) rfl (fun hc => ?_) (fun hc => ?_)
      · have h := h.1 hc
        refine g_aload_n (n := 34) dX12_wordOf_33 rfl rfl rfl ?_
        refine g_aload_nK (n := 35) (x := 2 * p2) dX12_wordOf_34 rfl rfl rfl ?_
        refine g_callV (n := 38) (as := [.retAddr (2 * p2)]) (bc' := 0) (bs' := 0) sM_0 vc_16 (ctX12_isWord h) okX12_isWord rfl w_2112 w_2114 w_32 w_112 dX12_wordOf_35 rfl rfl (Nat.le_of_ble_eq_true rfl) (Nat.le_of_ble_eq_true rfl) (Nat.le_of_ble_eq_true rfl) (Nat.le_of_ble_eq_true rfl) rfl (fun E sh1 I1 A1 hp _ => hp.2.elim) (fun ro sh_ I_7 A_8 hp hle => ?_)
        obtain ⟨rfl, r_9, rfl, h⟩ := hp
        refine g_if_eq (n := 41) 45 dX12_wordOf_38 (by decide) rfl (fun hc => ?_) (fun hc => ?_)
        · have h := h.1 hc
          refine g_iconst (n := 46) (v := (-1 : Int32)) dX12_wordOf_45 rfl rfl ?_
          refine g_forget (ls' := [some (.ref 0), none, none, none, none]) (ab_fg rfl) ?_
          refine g_less (bc' := 0) (bs' := 0) (Nat.le_of_ble_eq_true rfl) (Nat.le_of_ble_eq_true rfl) ?_
          exact tjX12_wordOf_46  _ _ _ h
        · have h := h.2 hc
          refine g_iconst (n := 42) (v := (nI 2)) dX12_wordOf_41 rfl rfl ?_
          refine g_goto 46 dX12_wordOf_42 (by decide) ?_
          refine g_forget (ls' := [some (.ref 0), none, none, none, none]) (ab_fg rfl) ?_
          refine g_less (bc' := 0) (bs' := 0) (Nat.le_of_ble_eq_true rfl) (Nat.le_of_ble_eq_true rfl) ?_
          exact tjX12_wordOf_46  _ _ _ h
      · have h := h.2 hc
        refine g_iconst (n := 30) (v := (nI 1)) dX12_wordOf_29 rfl rfl ?_
        refine g_goto 46 dX12_wordOf_30 (by decide) ?_
        refine g_forget (ls' := [some (.ref 0), none, none, none, none]) (ab_fg rfl) ?_
        refine g_less (bc' := 0) (bs' := 0) (Nat.le_of_ble_eq_true rfl) (Nat.le_of_ble_eq_true rfl) ?_
        exact tjX12_wordOf_46  _ _ _ h
    · have h := h.2 hc
      refine g_iconst (n := 18) (v := (nI 0)) dX12_wordOf_17 rfl rfl ?_
      refine g_goto 46 dX12_wordOf_18 (by decide) ?_
      refine g_forget (ls' := [some (.ref 0), none, none, none, none]) (ab_fg rfl) ?_
      refine g_less (bc' := 0) (bs' := 0) (Nat.le_of_ble_eq_true rfl) (Nat.le_of_ble_eq_true rfl) ?_
      exact tjX12_wordOf_46  _ _ _ h
  · have h := h.2 hc
    refine g_iconst (n := 8) (v := (nI 0)) dX12_wordOf_7 rfl rfl ?_
    exact g_iret rfl rfl dX12_wordOf_8 ⟨rfl, _, rfl, h⟩
def wX12_readSystem (K : ab_F → ab_F → Prop) (I A : ab_F)  : Prop := wX12_must (fun I_1 A_2 => wX12_number (fun r_5 I_3 A_4 => wX12_number (fun r_8 I_6 A_7 => wX12_wordOf (fun r_11 I_9 A_10 => wX12_must (fun I_12 A_13 => K I_12 A_13) I_9 (wr A_10 3 2 r_11) 46) I_6 (wr A_7 3 1 r_8) 43 44 45) I_3 (wr A_4 3 0 r_5) (nI 1) (nI 48)) I_1 A_2 (nI 1) (nI 16)) I A 42
set_option maxRecDepth 20000 in
theorem ctX12_readSystem  {K : ab_F → ab_F → Prop} {I A : ab_F}  (h : wX12_readSystem K I A ) : ab_Cl mX12_readSystem 8 0 0 [.ref 0] shM I A (ab_Px shM ab_no (ab_rv K)) := by
  refine ab_enter (ls := [some (.ref 0)]) (by decide +kernel) (Nat.le_of_ble_eq_true rfl) rfl (fun C => ?_)
  unfold wX12_readSystem at h
  refine g_aload_n (n := 1) dX12_readSystem_0 rfl rfl rfl ?_
  refine g_ldcS (n := 3) (i := 42) dX12_readSystem_1 rfl rfl ?_
  refine g_callV (n := 6) (as := [.retAddr (2 * 42)]) (bc' := 0) (bs' := 0) sM_0 vc_16 (ctX12_must h) okX12_must rfl w_2108 w_2110 w_31 w_112 dX12_readSystem_3 rfl rfl (Nat.le_of_ble_eq_true rfl) (Nat.le_of_ble_eq_true rfl) (Nat.le_of_ble_eq_true rfl) (Nat.le_of_ble_eq_true rfl) rfl (fun E sh1 I1 A1 hp _ => hp.2.elim) (fun ro sh_ I_1 A_2 hp hle => ?_)
  obtain ⟨rfl, rfl, h⟩ := hp
  refine g_aload_n (n := 7) dX12_readSystem_6 rfl rfl rfl ?_
  refine g_getR (n := 10) (k := 2) dX12_readSystem_7 sM_0 vc_16 (Nat.le_of_ble_eq_true rfl) rfl w_1996 rfl ?_
  refine g_iconst (n := 11) (v := (nI 0)) dX12_readSystem_10 rfl rfl ?_
  refine g_aload_n (n := 12) dX12_readSystem_11 rfl rfl rfl ?_
  refine g_iconst (n := 13) (v := (nI 1)) dX12_readSystem_12 rfl rfl ?_
  refine g_bipush (n := 15) (v := (nI 16)) dX12_readSystem_13 rfl rfl ?_
  refine g_callV (n := 18) (as := [.int (nI 1), .int (nI 16)]) (bc' := 0) (bs' := 0) sM_0 vc_16 (ctX12_number h) okX12_number rfl w_2126 w_2128 w_35 w_112 dX12_readSystem_15 rfl rfl (Nat.le_of_ble_eq_true rfl) (Nat.le_of_ble_eq_true rfl) (Nat.le_of_ble_eq_true rfl) (Nat.le_of_ble_eq_true rfl) rfl (fun E sh1 I1 A1 hp _ => hp.2.elim) (fun ro sh_ I_3 A_4 hp hle => ?_)
  obtain ⟨rfl, r_5, rfl, h⟩ := hp
  refine g_iastJ (n := 19) (j := 0) dX12_readSystem_18 sM_3 rfl (Nat.le_of_ble_eq_true rfl) (by decide) rfl ?_
  refine g_aload_n (n := 20) dX12_readSystem_19 rfl rfl rfl ?_
  refine g_getR (n := 23) (k := 2) dX12_readSystem_20 sM_0 vc_16 (Nat.le_of_ble_eq_true rfl) rfl w_1996 rfl ?_
  refine g_iconst (n := 24) (v := (nI 1)) dX12_readSystem_23 rfl rfl ?_
  refine g_aload_n (n := 25) dX12_readSystem_24 rfl rfl rfl ?_
  refine g_iconst (n := 26) (v := (nI 1)) dX12_readSystem_25 rfl rfl ?_
  refine g_bipush (n := 28) (v := (nI 48)) dX12_readSystem_26 rfl rfl ?_
  refine g_callV (n := 31) (as := [.int (nI 1), .int (nI 48)]) (bc' := 0) (bs' := 0) sM_0 vc_16 (ctX12_number h) okX12_number rfl w_2126 w_2128 w_35 w_112 dX12_readSystem_28 rfl rfl (Nat.le_of_ble_eq_true rfl) (Nat.le_of_ble_eq_true rfl) (Nat.le_of_ble_eq_true rfl) (Nat.le_of_ble_eq_true rfl) rfl (fun E sh1 I1 A1 hp _ => hp.2.elim) (fun ro sh_ I_6 A_7 hp hle => ?_)
  obtain ⟨rfl, r_8, rfl, h⟩ := hp
  refine g_iastJ (n := 32) (j := 1) dX12_readSystem_31 sM_3 rfl (Nat.le_of_ble_eq_true rfl) (by decide) rfl ?_
  refine g_aload_n (n := 33) dX12_readSystem_32 rfl rfl rfl ?_
  refine g_getR (n := 36) (k := 2) dX12_readSystem_33 sM_0 vc_16 (Nat.le_of_ble_eq_true rfl) rfl w_1996 rfl ?_
  refine g_iconst (n := 37) (v := (nI 2)) dX12_readSystem_36 rfl rfl ?_
  refine g_aload_n (n := 38) dX12_readSystem_37 rfl rfl rfl ?_
  refine g_ldcS (n := 40) (i := 43) dX12_readSystem_38 rfl rfl ?_
  refine g_ldcS (n := 42) (i := 44) dX12_readSystem_40 rfl rfl ?_
  refine g_ldcS (n := 44) (i := 45) dX12_readSystem_42 rfl rfl ?_
  refine g_callV (n := 47) (as := [.retAddr (2 * 43), .retAddr (2 * 44), .retAddr (2 * 45)]) (bc' := 0) (bs' := 0) sM_0 vc_16 (ctX12_wordOf h) okX12_wordOf rfl w_2137 w_2139 w_37 w_112 dX12_readSystem_44 rfl rfl (Nat.le_of_ble_eq_true rfl) (Nat.le_of_ble_eq_true rfl) (Nat.le_of_ble_eq_true rfl) (Nat.le_of_ble_eq_true rfl) rfl (fun E sh1 I1 A1 hp _ => hp.2.elim) (fun ro sh_ I_9 A_10 hp hle => ?_)
  obtain ⟨rfl, r_11, rfl, h⟩ := hp
  refine g_iastJ (n := 48) (j := 2) dX12_readSystem_47 sM_3 rfl (Nat.le_of_ble_eq_true rfl) (by decide) rfl ?_
  refine g_aload_n (n := 49) dX12_readSystem_48 rfl rfl rfl ?_
  refine g_ldcS (n := 51) (i := 46) dX12_readSystem_49 rfl rfl ?_
  refine g_callV (n := 54) (as := [.retAddr (2 * 46)]) (bc' := 0) (bs' := 0) sM_0 vc_16 (ctX12_must h) okX12_must rfl w_2108 w_2110 w_31 w_112 dX12_readSystem_51 rfl rfl (Nat.le_of_ble_eq_true rfl) (Nat.le_of_ble_eq_true rfl) (Nat.le_of_ble_eq_true rfl) (Nat.le_of_ble_eq_true rfl) rfl (fun E sh1 I1 A1 hp _ => hp.2.elim) (fun ro sh_ I_12 A_13 hp hle => ?_)
  obtain ⟨rfl, rfl, h⟩ := hp
  exact g_vret rfl dX12_readSystem_54 ⟨rfl, rfl, h⟩
def wjX12_readProcess_32 (K : ab_F → ab_F → Prop) (x1 : Int32) (I A : ab_F) : Prop := wX12_pass (fun I_5 A_6 => wX12_wordOf (fun r_9 I_7 A_8 => wX12_number (fun r_12 I_10 A_11 => wX12_must (fun I_13 A_14 => (((I_13 0 11) ≤ 0 → (∃ j_15 : Nat, ((nI 14) + x1) = nI j_15 ∧ j_15 < 608 ∧ (∃ j_16 : Nat, ((nI 20) + x1) = nI j_16 ∧ j_16 < 608 ∧ K I_13 (wr (wr (wr A_14 3 j_15 r_9) 3 j_16 r_12) 3 3 (((wr (wr A_14 3 j_15 r_9) 3 j_16 r_12) 3 3) + (nI 1)))))) ∧ (¬ (I_13 0 11) ≤ 0 → K I_13 A_14))) I_10 A_11 46) I_7 A_8 (nI 1) (nI 8)) I_5 A_6 48 49 49) I A 
def wjX12_readProcess_21 (K : ab_F → ab_F → Prop) (x1 : Int32) (I A : ab_F) : Prop := ((¬ x1 = (nI 6) → wjX12_readProcess_32 K x1 I A) ∧ (x1 = (nI 6) → wX12_wrong (fun I_17 A_18 => wjX12_readProcess_32 K x1 I_17 A_18) I A (nI 3)))
def wX12_readProcess (K : ab_F → ab_F → Prop) (I A : ab_F)  : Prop := (∀ y_1 : Int32, y_1 = (A 3 3) → wX12_isWord (fun r_4 I_2 A_3 => ((¬ r_4 = 0 → wjX12_readProcess_21 K y_1 I_2 A_3) ∧ (r_4 = 0 → wX12_wrong (fun I_19 A_20 => wjX12_readProcess_21 K y_1 I_19 A_20) I_2 A_3 (nI 1)))) I A 47)
set_option maxRecDepth 20000 in
theorem tjX12_readProcess_32 {C : ab_X}  {K : ab_F → ab_F → Prop} (x1 : Int32) (I A : ab_F) (h : wjX12_readProcess_32 K x1 I A) : ab_G mX12_readProcess 8 C (ab_Px shM ab_no (ab_rv K)) 32 [some (.ref 0), some (.int x1), none, none] [] shM I A 0 0 := by
  unfold wjX12_readProcess_32 at h
  refine g_aload_n (n := 33) dX12_readProcess_32 rfl rfl rfl ?_
  refine g_callV (n := 36) (as := []) (bc' := 0) (bs' := 0) sM_0 vc_16 (ctX12_pass h) okX12_pass rfl w_2122 w_2124 w_34 w_112 dX12_readProcess_33 rfl rfl (Nat.le_of_ble_eq_true rfl) (Nat.le_of_ble_eq_true rfl) (Nat.le_of_ble_eq_true rfl) (Nat.le_of_ble_eq_true rfl) rfl (fun E sh1 I1 A1 hp _ => hp.2.elim) (fun ro sh_ I_5 A_6 hp hle => ?_)
  obtain ⟨rfl, rfl, h⟩ := hp
  refine g_aload_n (n := 37) dX12_readProcess_36 rfl rfl rfl ?_
  refine g_ldcS (n := 39) (i := 48) dX12_readProcess_37 rfl rfl ?_
  refine g_ldcS (n := 41) (i := 49) dX12_readProcess_39 rfl rfl ?_
  refine g_ldcS (n := 43) (i := 49) dX12_readProcess_41 rfl rfl ?_
  refine g_callV (n := 46) (as := [.retAddr (2 * 48), .retAddr (2 * 49), .retAddr (2 * 49)]) (bc' := 0) (bs' := 0) sM_0 vc_16 (ctX12_wordOf h) okX12_wordOf rfl w_2137 w_2139 w_37 w_112 dX12_readProcess_43 rfl rfl (Nat.le_of_ble_eq_true rfl) (Nat.le_of_ble_eq_true rfl) (Nat.le_of_ble_eq_true rfl) (Nat.le_of_ble_eq_true rfl) rfl (fun E sh1 I1 A1 hp _ => hp.2.elim) (fun ro sh_ I_7 A_8 hp hle => ?_)
  obtain ⟨rfl, r_9, rfl, h⟩ := hp
  refine g_istore_n (n := 47) (ls' := [some (.ref 0), some (.int x1), some (.int r_9), none]) dX12_readProcess_46 rfl rfl (Nat.le_of_ble_eq_true rfl) (Nat.le_of_ble_eq_true rfl) rfl rfl ?_
  refine g_aload_n (n := 48) dX12_readProcess_47 rfl rfl rfl ?_
  refine g_iconst (n := 49) (v := (nI 1)) dX12_readProcess_48 rfl rfl ?_
  refine g_bipush (n := 51) (v := (nI 8)) dX12_readProcess_49 rfl rfl ?_
  refine g_callV (n := 54) (as := [.int (nI 1), .int (nI 8)]) (bc' := 0) (bs' := 0) sM_0 vc_16 (ctX12_number h) okX12_number rfl w_2126 w_2128 w_35 w_112 dX12_readProcess_51 rfl rfl (Nat.le_of_ble_eq_true rfl) (Nat.le_of_ble_eq_true rfl) (Nat.le_of_ble_eq_true rfl) (Nat.le_of_ble_eq_true rfl) rfl (fun E sh1 I1 A1 hp _ => hp.2.elim) (fun ro sh_ I_10 A_11 hp hle => ?_)
  obtain ⟨rfl, r_12, rfl, h⟩ := hp
  refine g_istore_n (n := 55) (ls' := [some (.ref 0), some (.int x1), some (.int r_9), some (.int r_12)]) dX12_readProcess_54 rfl rfl (Nat.le_of_ble_eq_true rfl) (Nat.le_of_ble_eq_true rfl) rfl rfl ?_
  refine g_aload_n (n := 56) dX12_readProcess_55 rfl rfl rfl ?_
  refine g_ldcS (n := 58) (i := 46) dX12_readProcess_56 rfl rfl ?_
  refine g_callV (n := 61) (as := [.retAddr (2 * 46)]) (bc' := 0) (bs' := 0) sM_0 vc_16 (ctX12_must h) okX12_must rfl w_2108 w_2110 w_31 w_112 dX12_readProcess_58 rfl rfl (Nat.le_of_ble_eq_true rfl) (Nat.le_of_ble_eq_true rfl) (Nat.le_of_ble_eq_true rfl) (Nat.le_of_ble_eq_true rfl) rfl (fun E sh1 I1 A1 hp _ => hp.2.elim) (fun ro sh_ I_13 A_14 hp hle => ?_)
  obtain ⟨rfl, rfl, h⟩ := hp
  refine g_aload_n (n := 62) dX12_readProcess_61 rfl rfl rfl ?_
  refine g_getIE (n := 65) (k := 11) (x := (I_13 0 11)) dX12_readProcess_62 sM_0 vc_16 (Nat.le_of_ble_eq_true rfl) rfl w_2005 rfl rfl ?_
  refine g_if_le (n := 68) 69 dX12_readProcess_65 (by decide) rfl (fun hc => ?_) (fun hc => ?_)
  · have h := h.1 hc
    refine g_aload_n (n := 70) dX12_readProcess_69 rfl rfl rfl ?_
    refine g_getR (n := 73) (k := 2) dX12_readProcess_70 sM_0 vc_16 (Nat.le_of_ble_eq_true rfl) rfl w_1996 rfl ?_
    refine g_bipush (n := 75) (v := (nI 14)) dX12_readProcess_73 rfl rfl ?_
    refine g_iload_n (n := 76) dX12_readProcess_75 rfl rfl rfl ?_
    refine g_iadd (n := 77) dX12_readProcess_76 rfl ?_
    refine g_iload_n (n := 78) dX12_readProcess_77 rfl rfl rfl ?_
    obtain ⟨j_15, hj, hl, h⟩ := h
    refine g_iastJ (n := 79) (j := j_15) dX12_readProcess_78 sM_3 hj hl (by decide) rfl ?_
    refine g_aload_n (n := 80) dX12_readProcess_79 rfl rfl rfl ?_
    refine g_getR (n := 83) (k := 2) dX12_readProcess_80 sM_0 vc_16 (Nat.le_of_ble_eq_true rfl) rfl w_1996 rfl ?_
    refine g_bipush (n := 85) (v := (nI 20)) dX12_readProcess_83 rfl rfl ?_
    refine g_iload_n (n := 86) dX12_readProcess_85 rfl rfl rfl ?_
    refine g_iadd (n := 87) dX12_readProcess_86 rfl ?_
    refine g_iload_n (n := 88) dX12_readProcess_87 rfl rfl rfl ?_
    obtain ⟨j_16, hj, hl, h⟩ := h
    refine g_iastJ (n := 89) (j := j_16) dX12_readProcess_88 sM_3 hj hl (by decide) rfl ?_
    refine g_aload_n (n := 90) dX12_readProcess_89 rfl rfl rfl ?_
    refine g_getR (n := 93) (k := 2) dX12_readProcess_90 sM_0 vc_16 (Nat.le_of_ble_eq_true rfl) rfl w_1996 rfl ?_
    refine g_iconst (n := 94) (v := (nI 3)) dX12_readProcess_93 rfl rfl ?_
    refine g_dup2 (n := 95) dX12_readProcess_94 rfl rfl rfl ?_
    refine g_ialdJ (n := 96) (j := 3) (x := ((wr (wr A_14 3 j_15 r_9) 3 j_16 r_12) 3 3)) dX12_readProcess_95 sM_3 rfl (Nat.le_of_ble_eq_true rfl) (by decide) rfl rfl ?_
    refine g_iconst (n := 97) (v := (nI 1)) dX12_readProcess_96 rfl rfl ?_
    refine g_iadd (n := 98) dX12_readProcess_97 rfl ?_
    refine g_iastJ (n := 99) (j := 3) dX12_readProcess_98 sM_3 rfl (Nat.le_of_ble_eq_true rfl) (by decide) rfl ?_
    exact g_vret rfl dX12_readProcess_99 ⟨rfl, rfl, h⟩
  · have h := h.2 hc
    exact g_vret rfl dX12_readProcess_68 ⟨rfl, rfl, h⟩
set_option maxRecDepth 20000 in
theorem tjX12_readProcess_21 {C : ab_X}  {K : ab_F → ab_F → Prop} (x1 : Int32) (I A : ab_F) (h : wjX12_readProcess_21 K x1 I A) : ab_G mX12_readProcess 8 C (ab_Px shM ab_no (ab_rv K)) 21 [some (.ref 0), some (.int x1), none, none] [] shM I A 0 0 := by
  unfold wjX12_readProcess_21 at h
  refine g_iload_n (n := 22) dX12_readProcess_21 rfl rfl rfl ?_
  refine g_bipush (n := 24) (v := (nI 6)) dX12_readProcess_22 rfl rfl ?_
  refine g_icmp_ne (n := 27) 32 dX12_readProcess_24 (by decide) rfl (fun hc => ?_) (fun hc => ?_)
  · have h := h.1 hc
    refine g_less (bc' := 0) (bs' := 0) (Nat.le_of_ble_eq_true rfl) (Nat.le_of_ble_eq_true rfl) ?_
    exact tjX12_readProcess_32  _ _ _ h
  · have h := h.2 hc
    refine g_aload_n (n := 28) dX12_readProcess_27 rfl rfl rfl ?_
    refine g_iconst (n := 29) (v := (nI 3)) dX12_readProcess_28 rfl rfl ?_
    refine g_callV (n := 32) (as := [.int (nI 3)]) (bc' := 0) (bs' := 0) sM_0 vc_16 (ctX12_wrong h) okX12_wrong rfl w_2118 w_2120 w_33 w_112 dX12_readProcess_29 rfl rfl (Nat.le_of_ble_eq_true rfl) (Nat.le_of_ble_eq_true rfl) (Nat.le_of_ble_eq_true rfl) (Nat.le_of_ble_eq_true rfl) rfl (fun E sh1 I1 A1 hp _ => hp.2.elim) (fun ro sh_ I_17 A_18 hp hle => ?_)
    obtain ⟨rfl, rfl, h⟩ := hp
    refine g_less (bc' := 0) (bs' := 0) (Nat.le_of_ble_eq_true rfl) (Nat.le_of_ble_eq_true rfl) ?_
    exact tjX12_readProcess_32  _ _ _ h
set_option maxRecDepth 20000 in
theorem ctX12_readProcess  {K : ab_F → ab_F → Prop} {I A : ab_F}  (h : wX12_readProcess K I A ) : ab_Cl mX12_readProcess 8 0 0 [.ref 0] shM I A (ab_Px shM ab_no (ab_rv K)) := by
  refine ab_enter (ls := [some (.ref 0), none, none, none]) (by decide +kernel) (Nat.le_of_ble_eq_true rfl) rfl (fun C => ?_)
  unfold wX12_readProcess at h
  refine g_aload_n (n := 1) dX12_readProcess_0 rfl rfl rfl ?_
  refine g_getR (n := 4) (k := 2) dX12_readProcess_1 sM_0 vc_16 (Nat.le_of_ble_eq_true rfl) rfl w_1996 rfl ?_
  refine g_iconst (n := 5) (v := (nI 3)) dX12_readProcess_4 rfl rfl ?_
  refine g_ialdJ (n := 6) (j := 3) (x := (A 3 3)) dX12_readProcess_5 sM_3 rfl (Nat.le_of_ble_eq_true rfl) (by decide) rfl rfl ?_
  refine g_topi (fun y_1 ey_1 => ?_)
  have h := h y_1 ey_1
  refine g_istore_n (n := 7) (ls' := [some (.ref 0), some (.int y_1), none, none]) dX12_readProcess_6 rfl rfl (Nat.le_of_ble_eq_true rfl) (Nat.le_of_ble_eq_true rfl) rfl rfl ?_
  refine g_aload_n (n := 8) dX12_readProcess_7 rfl rfl rfl ?_
  refine g_ldcS (n := 10) (i := 47) dX12_readProcess_8 rfl rfl ?_
  refine g_callV (n := 13) (as := [.retAddr (2 * 47)]) (bc' := 0) (bs' := 0) sM_0 vc_16 (ctX12_isWord h) okX12_isWord rfl w_2112 w_2114 w_32 w_112 dX12_readProcess_10 rfl rfl (Nat.le_of_ble_eq_true rfl) (Nat.le_of_ble_eq_true rfl) (Nat.le_of_ble_eq_true rfl) (Nat.le_of_ble_eq_true rfl) rfl (fun E sh1 I1 A1 hp _ => hp.2.elim) (fun ro sh_ I_2 A_3 hp hle => ?_)
  obtain ⟨rfl, r_4, rfl, h⟩ := hp
  refine g_if_ne (n := 16) 21 dX12_readProcess_13 (by decide) rfl (fun hc => ?_) (fun hc => ?_)
  · have h := h.1 hc
    refine g_less (bc' := 0) (bs' := 0) (Nat.le_of_ble_eq_true rfl) (Nat.le_of_ble_eq_true rfl) ?_
    exact tjX12_readProcess_21  _ _ _ h
  · have h := h.2 hc
    refine g_aload_n (n := 17) dX12_readProcess_16 rfl rfl rfl ?_
    refine g_iconst (n := 18) (v := (nI 1)) dX12_readProcess_17 rfl rfl ?_
    refine g_callV (n := 21) (as := [.int (nI 1)]) (bc' := 0) (bs' := 0) sM_0 vc_16 (ctX12_wrong h) okX12_wrong rfl w_2118 w_2120 w_33 w_112 dX12_readProcess_18 rfl rfl (Nat.le_of_ble_eq_true rfl) (Nat.le_of_ble_eq_true rfl) (Nat.le_of_ble_eq_true rfl) (Nat.le_of_ble_eq_true rfl) rfl (fun E sh1 I1 A1 hp _ => hp.2.elim) (fun ro sh_ I_19 A_20 hp hle => ?_)
    obtain ⟨rfl, rfl, h⟩ := hp
    refine g_less (bc' := 0) (bs' := 0) (Nat.le_of_ble_eq_true rfl) (Nat.le_of_ble_eq_true rfl) ?_
    exact tjX12_readProcess_21  _ _ _ h
def wX12_begin (K : ab_F → ab_F → Prop) (I A : ab_F)  : Prop := wX12_next (fun I_1 A_2 => K I_1 A_2) (wr (wr (wr (wr I 0 10 (I 0 7)) 0 7 (nI 0)) 0 9 (nI 0)) 0 11 (nI 0)) A 
set_option maxRecDepth 20000 in
theorem ctX12_begin  {K : ab_F → ab_F → Prop} {I A : ab_F}  (h : wX12_begin K I A ) : ab_Cl mX12_begin 2 0 0 [.ref 0] shM I A (ab_Px shM ab_no (ab_rv K)) := by
  refine ab_enter (ls := [some (.ref 0)]) (by decide +kernel) (Nat.le_of_ble_eq_true rfl) rfl (fun C => ?_)
  unfold wX12_begin at h
  refine g_aload_n (n := 1) dX12_begin_0 rfl rfl rfl ?_
  refine g_aload_n (n := 2) dX12_begin_1 rfl rfl rfl ?_
  refine g_getIE (n := 5) (k := 7) (x := (I 0 7)) dX12_begin_2 sM_0 vc_16 (Nat.le_of_ble_eq_true rfl) rfl w_2001 rfl rfl ?_
  refine g_putI (n := 8) (k := 10) dX12_begin_5 sM_0 vc_16 (Nat.le_of_ble_eq_true rfl) rfl w_2004 rfl rfl rfl rfl rfl ?_
  refine g_aload_n (n := 9) dX12_begin_8 rfl rfl rfl ?_
  refine g_iconst (n := 10) (v := (nI 0)) dX12_begin_9 rfl rfl ?_
  refine g_putI (n := 13) (k := 7) dX12_begin_10 sM_0 vc_16 (Nat.le_of_ble_eq_true rfl) rfl w_2001 rfl rfl rfl rfl rfl ?_
  refine g_aload_n (n := 14) dX12_begin_13 rfl rfl rfl ?_
  refine g_iconst (n := 15) (v := (nI 0)) dX12_begin_14 rfl rfl ?_
  refine g_putI (n := 18) (k := 9) dX12_begin_15 sM_0 vc_16 (Nat.le_of_ble_eq_true rfl) rfl w_2003 rfl rfl rfl rfl rfl ?_
  refine g_aload_n (n := 19) dX12_begin_18 rfl rfl rfl ?_
  refine g_iconst (n := 20) (v := (nI 0)) dX12_begin_19 rfl rfl ?_
  refine g_putI (n := 23) (k := 11) dX12_begin_20 sM_0 vc_16 (Nat.le_of_ble_eq_true rfl) rfl w_2005 rfl rfl rfl rfl rfl ?_
  refine g_aload_n (n := 24) dX12_begin_23 rfl rfl rfl ?_
  refine g_callV (n := 27) (as := []) (bc' := 0) (bs' := 0) sM_0 vc_16 (ctX12_next h) okX12_next rfl w_2091 w_2093 w_28 w_112 dX12_begin_24 rfl rfl (Nat.le_of_ble_eq_true rfl) (Nat.le_of_ble_eq_true rfl) (Nat.le_of_ble_eq_true rfl) (Nat.le_of_ble_eq_true rfl) rfl (fun E sh1 I1 A1 hp _ => hp.2.elim) (fun ro sh_ I_1 A_2 hp hle => ?_)
  obtain ⟨rfl, rfl, h⟩ := hp
  exact g_vret rfl dX12_begin_27 ⟨rfl, rfl, h⟩
def wlX12_parseSystem_58 (K : Int32 → ab_F → ab_F → Prop) : Nat → Int32 → ab_F → ab_F → Prop
  | 0, _, _, _ => False
  | n + 1, x1, I, A => (((nI 608) ≤ x1 → K (A 1 3) (wr I 0 4 (nI 0)) A) ∧ (¬ (nI 608) ≤ x1 → (∃ j_9 : Nat, x1 = nI j_9 ∧ j_9 < 608 ∧ (∃ j_10 : Nat, x1 = nI j_10 ∧ j_10 < 608 ∧ (wlX12_parseSystem_58 K n) (x1 + nI 1) I (wr A 1 j_10 (A 3 j_9))))))
def wjX12_parseSystem_47 (K : Int32 → ab_F → ab_F → Prop)  (I A : ab_F) : Prop := (((I 0 11) ≤ 0 → (∃ nf : Nat, wlX12_parseSystem_58 K nf (nI 0) I A)) ∧ (¬ (I 0 11) ≤ 0 → K (-1 : Int32) I A))
def wlX12_parseSystem_25 (K : Int32 → ab_F → ab_F → Prop) : Nat → ab_F → ab_F → Prop
  | 0, _, _ => False
  | n + 1, I, A => wX12_readProcess (fun I_7 A_8 => ((¬ (I_7 0 11) = 0 → wjX12_parseSystem_47 K  I_7 A_8) ∧ ((I_7 0 11) = 0 → (((I_7 0 8) < (I_7 0 10) → (wlX12_parseSystem_25 K n)  I_7 A_8) ∧ (¬ (I_7 0 8) < (I_7 0 10) → wjX12_parseSystem_47 K  I_7 A_8))))) I A 
def wX12_parseSystem (K : Int32 → ab_F → ab_F → Prop) (I A : ab_F)  : Prop := wX12_lay_3 (fun I_1 A_2 => wX12_begin (fun I_3 A_4 => wX12_readSystem (fun I_5 A_6 => (∃ nf : Nat, wlX12_parseSystem_25 K nf  I_5 A_6)) I_3 A_4 ) I_1 A_2 ) (wr (wr I 0 5 (nI 0)) 0 12 (-1 : Int32)) A 
set_option maxRecDepth 20000 in
theorem tlX12_parseSystem_58 {C : ab_X}  {K : Int32 → ab_F → ab_F → Prop} : ∀ (n : Nat) (x1 : Int32) (I A : ab_F), wlX12_parseSystem_58 K n x1 I A → ab_G mX12_parseSystem 9 C (ab_Px shM ab_no (ab_ri K)) 58 [some (.ref 0), some (.int x1)] [] shM I A 0 0 := by
  intro n
  induction n with
  | zero => intro x1 I A h; exact h.elim
  | succ n hL58 =>
    intro x1 I A h
    rw [wlX12_parseSystem_58] at h
    refine g_iload_n (n := 59) dX12_parseSystem_58 rfl rfl rfl ?_
    refine g_sipush (n := 62) (v := (nI 608)) dX12_parseSystem_59 rfl rfl ?_
    refine g_icmp_ge (n := 65) 83 dX12_parseSystem_62 (by decide) rfl (fun hc => ?_) (fun hc => ?_)
    · have h := h.1 hc
      refine g_aload_n (n := 84) dX12_parseSystem_83 rfl rfl rfl ?_
      refine g_iconst (n := 85) (v := (nI 0)) dX12_parseSystem_84 rfl rfl ?_
      refine g_putI (n := 88) (k := 4) dX12_parseSystem_85 sM_0 vc_16 (Nat.le_of_ble_eq_true rfl) rfl w_1998 rfl rfl rfl rfl rfl ?_
      refine g_aload_n (n := 89) dX12_parseSystem_88 rfl rfl rfl ?_
      refine g_getR (n := 92) (k := 0) dX12_parseSystem_89 sM_0 vc_16 (Nat.le_of_ble_eq_true rfl) rfl w_1994 rfl ?_
      refine g_iconst (n := 93) (v := (nI 3)) dX12_parseSystem_92 rfl rfl ?_
      refine g_ialdJ (n := 94) (j := 3) (x := (A 1 3)) dX12_parseSystem_93 sM_1 rfl (Nat.le_of_ble_eq_true rfl) (by decide) rfl rfl ?_
      exact g_iret rfl rfl dX12_parseSystem_94 ⟨rfl, _, rfl, h⟩
    · have h := h.2 hc
      refine g_aload_n (n := 66) dX12_parseSystem_65 rfl rfl rfl ?_
      refine g_getR (n := 69) (k := 0) dX12_parseSystem_66 sM_0 vc_16 (Nat.le_of_ble_eq_true rfl) rfl w_1994 rfl ?_
      refine g_iload_n (n := 70) dX12_parseSystem_69 rfl rfl rfl ?_
      refine g_aload_n (n := 71) dX12_parseSystem_70 rfl rfl rfl ?_
      refine g_getR (n := 74) (k := 2) dX12_parseSystem_71 sM_0 vc_16 (Nat.le_of_ble_eq_true rfl) rfl w_1996 rfl ?_
      refine g_iload_n (n := 75) dX12_parseSystem_74 rfl rfl rfl ?_
      obtain ⟨j_9, hj, hl, h⟩ := h
      refine g_ialdJ (n := 76) (j := j_9) (x := (A 3 j_9)) dX12_parseSystem_75 sM_3 hj hl (by decide) rfl rfl ?_
      obtain ⟨j_10, hj, hl, h⟩ := h
      refine g_iastJ (n := 77) (j := j_10) dX12_parseSystem_76 sM_1 hj hl (by decide) rfl ?_
      refine g_iinc (n := 80) (v := (x1 + nI 1)) (ls' := [some (.ref 0), some (.int (x1 + nI 1))]) dX12_parseSystem_77 rfl rfl rfl (Nat.le_of_ble_eq_true rfl) rfl rfl ?_
      refine g_goto 58 dX12_parseSystem_80 (by decide) ?_
      exact hL58 _ _ _ h
set_option maxRecDepth 20000 in
theorem tjX12_parseSystem_47 {C : ab_X}  {K : Int32 → ab_F → ab_F → Prop}  (I A : ab_F) (h : wjX12_parseSystem_47 K  I A) : ab_G mX12_parseSystem 9 C (ab_Px shM ab_no (ab_ri K)) 47 [some (.ref 0), none] [] shM I A 0 0 := by
  unfold wjX12_parseSystem_47 at h
  refine g_aload_n (n := 48) dX12_parseSystem_47 rfl rfl rfl ?_
  refine g_getIE (n := 51) (k := 11) (x := (I 0 11)) dX12_parseSystem_48 sM_0 vc_16 (Nat.le_of_ble_eq_true rfl) rfl w_2005 rfl rfl ?_
  refine g_if_le (n := 54) 56 dX12_parseSystem_51 (by decide) rfl (fun hc => ?_) (fun hc => ?_)
  · have h := h.1 hc
    refine g_iconst (n := 57) (v := (nI 0)) dX12_parseSystem_56 rfl rfl ?_
    refine g_istore_n (n := 58) (ls' := [some (.ref 0), some (.int (nI 0))]) dX12_parseSystem_57 rfl rfl (Nat.le_of_ble_eq_true rfl) (Nat.le_of_ble_eq_true rfl) rfl rfl ?_
    refine g_less (bc' := 0) (bs' := 0) (Nat.le_of_ble_eq_true rfl) (Nat.le_of_ble_eq_true rfl) ?_
    obtain ⟨n_f, h⟩ := h
    exact tlX12_parseSystem_58  n_f _ _ _ h
  · have h := h.2 hc
    refine g_iconst (n := 55) (v := (-1 : Int32)) dX12_parseSystem_54 rfl rfl ?_
    exact g_iret rfl rfl dX12_parseSystem_55 ⟨rfl, _, rfl, h⟩
set_option maxRecDepth 20000 in
theorem tlX12_parseSystem_25 {C : ab_X}  {K : Int32 → ab_F → ab_F → Prop} : ∀ (n : Nat)  (I A : ab_F), wlX12_parseSystem_25 K n  I A → ab_G mX12_parseSystem 9 C (ab_Px shM ab_no (ab_ri K)) 25 [some (.ref 0), none] [] shM I A 0 0 := by
  intro n
  induction n with
  | zero => intro  I A h; exact h.elim
  | succ n hL25 =>
    intro  I A h
    rw [wlX12_parseSystem_25] at h
    refine g_aload_n (n := 26) dX12_parseSystem_25 rfl rfl rfl ?_
    refine g_callV (n := 29) (as := []) (bc' := 0) (bs' := 0) sM_0 vc_16 (ctX12_readProcess h) okX12_readProcess rfl w_2142 w_2144 w_38 w_112 dX12_parseSystem_26 rfl rfl (Nat.le_of_ble_eq_true rfl) (Nat.le_of_ble_eq_true rfl) (Nat.le_of_ble_eq_true rfl) (Nat.le_of_ble_eq_true rfl) rfl (fun E sh1 I1 A1 hp _ => hp.2.elim) (fun ro sh_ I_7 A_8 hp hle => ?_)
    obtain ⟨rfl, rfl, h⟩ := hp
    refine g_aload_n (n := 30) dX12_parseSystem_29 rfl rfl rfl ?_
    refine g_getIE (n := 33) (k := 11) (x := (I_7 0 11)) dX12_parseSystem_30 sM_0 vc_16 (Nat.le_of_ble_eq_true rfl) rfl w_2005 rfl rfl ?_
    refine g_if_ne (n := 36) 47 dX12_parseSystem_33 (by decide) rfl (fun hc => ?_) (fun hc => ?_)
    · have h := h.1 hc
      refine g_less (bc' := 0) (bs' := 0) (Nat.le_of_ble_eq_true rfl) (Nat.le_of_ble_eq_true rfl) ?_
      exact tjX12_parseSystem_47   _ _ h
    · have h := h.2 hc
      refine g_aload_n (n := 37) dX12_parseSystem_36 rfl rfl rfl ?_
      refine g_getIE (n := 40) (k := 8) (x := (I_7 0 8)) dX12_parseSystem_37 sM_0 vc_16 (Nat.le_of_ble_eq_true rfl) rfl w_2002 rfl rfl ?_
      refine g_aload_n (n := 41) dX12_parseSystem_40 rfl rfl rfl ?_
      refine g_getIE (n := 44) (k := 10) (x := (I_7 0 10)) dX12_parseSystem_41 sM_0 vc_16 (Nat.le_of_ble_eq_true rfl) rfl w_2004 rfl rfl ?_
      refine g_icmp_lt (n := 47) 25 dX12_parseSystem_44 (by decide) rfl (fun hc => ?_) (fun hc => ?_)
      · have h := h.1 hc
        exact hL25  _ _ h
      · have h := h.2 hc
        refine g_less (bc' := 0) (bs' := 0) (Nat.le_of_ble_eq_true rfl) (Nat.le_of_ble_eq_true rfl) ?_
        exact tjX12_parseSystem_47   _ _ h
set_option maxRecDepth 20000 in
theorem ctX12_parseSystem  {K : Int32 → ab_F → ab_F → Prop} {I A : ab_F}  (h : wX12_parseSystem K I A ) : ab_Cl mX12_parseSystem 9 0 0 [.ref 0] shM I A (ab_Px shM ab_no (ab_ri K)) := by
  refine ab_enter (ls := [some (.ref 0), none]) (by decide +kernel) (Nat.le_of_ble_eq_true rfl) rfl (fun C => ?_)
  unfold wX12_parseSystem at h
  refine g_aload_n (n := 1) dX12_parseSystem_0 rfl rfl rfl ?_
  refine g_iconst (n := 2) (v := (nI 0)) dX12_parseSystem_1 rfl rfl ?_
  refine g_putI (n := 5) (k := 5) dX12_parseSystem_2 sM_0 vc_16 (Nat.le_of_ble_eq_true rfl) rfl w_1999 rfl rfl rfl rfl rfl ?_
  refine g_aload_n (n := 6) dX12_parseSystem_5 rfl rfl rfl ?_
  refine g_iconst (n := 7) (v := (-1 : Int32)) dX12_parseSystem_6 rfl rfl ?_
  refine g_putI (n := 10) (k := 12) dX12_parseSystem_7 sM_0 vc_16 (Nat.le_of_ble_eq_true rfl) rfl w_2006 rfl rfl rfl rfl rfl ?_
  refine g_aload_n (n := 11) dX12_parseSystem_10 rfl rfl rfl ?_
  refine g_getR (n := 14) (k := 2) dX12_parseSystem_11 sM_0 vc_16 (Nat.le_of_ble_eq_true rfl) rfl w_1996 rfl ?_
  refine g_callS (n := 17) (as := [.ref 3]) (bc' := 0) (bs' := 0) (ctX12_lay_3 h) okX12_lay w_1991 w_1992 dX12_parseSystem_14 rfl rfl (Nat.le_of_ble_eq_true rfl) (Nat.le_of_ble_eq_true rfl) (Nat.le_of_ble_eq_true rfl) (Nat.le_of_ble_eq_true rfl) rfl (fun E sh1 I1 A1 hp _ => hp.2.elim) (fun ro sh_ I_1 A_2 hp hle => ?_)
  obtain ⟨rfl, rfl, h⟩ := hp
  refine g_aload_n (n := 18) dX12_parseSystem_17 rfl rfl rfl ?_
  refine g_callV (n := 21) (as := []) (bc' := 0) (bs' := 0) sM_0 vc_16 (ctX12_begin h) okX12_begin rfl w_2087 w_2089 w_27 w_112 dX12_parseSystem_18 rfl rfl (Nat.le_of_ble_eq_true rfl) (Nat.le_of_ble_eq_true rfl) (Nat.le_of_ble_eq_true rfl) (Nat.le_of_ble_eq_true rfl) rfl (fun E sh1 I1 A1 hp _ => hp.2.elim) (fun ro sh_ I_3 A_4 hp hle => ?_)
  obtain ⟨rfl, rfl, h⟩ := hp
  refine g_aload_n (n := 22) dX12_parseSystem_21 rfl rfl rfl ?_
  refine g_callV (n := 25) (as := []) (bc' := 0) (bs' := 0) sM_0 vc_16 (ctX12_readSystem h) okX12_readSystem rfl w_2103 w_2105 w_30 w_112 dX12_parseSystem_22 rfl rfl (Nat.le_of_ble_eq_true rfl) (Nat.le_of_ble_eq_true rfl) (Nat.le_of_ble_eq_true rfl) (Nat.le_of_ble_eq_true rfl) rfl (fun E sh1 I1 A1 hp _ => hp.2.elim) (fun ro sh_ I_5 A_6 hp hle => ?_)
  obtain ⟨rfl, rfl, h⟩ := hp
  refine g_less (bc' := 0) (bs' := 0) (Nat.le_of_ble_eq_true rfl) (Nat.le_of_ble_eq_true rfl) ?_
  obtain ⟨n_f, h⟩ := h
  exact tlX12_parseSystem_25  n_f  _ _ h
def wX12_errorCode (K : Int32 → ab_F → ab_F → Prop) (I A : ab_F)  : Prop := K (I 0 11) (wr I 0 5 (nI 0)) A
set_option maxRecDepth 20000 in
theorem ctX12_errorCode  {K : Int32 → ab_F → ab_F → Prop} {I A : ab_F}  (h : wX12_errorCode K I A ) : ab_Cl mX12_errorCode 0 0 0 [.ref 0] shM I A (ab_Px shM ab_no (ab_ri K)) := by
  refine ab_enter (ls := [some (.ref 0)]) (by decide +kernel) (Nat.le_of_ble_eq_true rfl) rfl (fun C => ?_)
  unfold wX12_errorCode at h
  refine g_aload_n (n := 1) dX12_errorCode_0 rfl rfl rfl ?_
  refine g_iconst (n := 2) (v := (nI 0)) dX12_errorCode_1 rfl rfl ?_
  refine g_putI (n := 5) (k := 5) dX12_errorCode_2 sM_0 vc_16 (Nat.le_of_ble_eq_true rfl) rfl w_1999 rfl rfl rfl rfl rfl ?_
  refine g_aload_n (n := 6) dX12_errorCode_5 rfl rfl rfl ?_
  refine g_getIE (n := 9) (k := 11) (x := (I 0 11)) dX12_errorCode_6 sM_0 vc_16 (Nat.le_of_ble_eq_true rfl) rfl w_2005 rfl rfl ?_
  exact g_iret rfl rfl dX12_errorCode_9 ⟨rfl, _, rfl, h⟩
def wX12_errorPosition (K : Int32 → ab_F → ab_F → Prop) (I A : ab_F)  : Prop := K (I 0 12) (wr I 0 5 (nI 0)) A
set_option maxRecDepth 20000 in
theorem ctX12_errorPosition  {K : Int32 → ab_F → ab_F → Prop} {I A : ab_F}  (h : wX12_errorPosition K I A ) : ab_Cl mX12_errorPosition 0 0 0 [.ref 0] shM I A (ab_Px shM ab_no (ab_ri K)) := by
  refine ab_enter (ls := [some (.ref 0)]) (by decide +kernel) (Nat.le_of_ble_eq_true rfl) rfl (fun C => ?_)
  unfold wX12_errorPosition at h
  refine g_aload_n (n := 1) dX12_errorPosition_0 rfl rfl rfl ?_
  refine g_iconst (n := 2) (v := (nI 0)) dX12_errorPosition_1 rfl rfl ?_
  refine g_putI (n := 5) (k := 5) dX12_errorPosition_2 sM_0 vc_16 (Nat.le_of_ble_eq_true rfl) rfl w_1999 rfl rfl rfl rfl rfl ?_
  refine g_aload_n (n := 6) dX12_errorPosition_5 rfl rfl rfl ?_
  refine g_getIE (n := 9) (k := 12) (x := (I 0 12)) dX12_errorPosition_6 sM_0 vc_16 (Nat.le_of_ble_eq_true rfl) rfl w_2006 rfl rfl ?_
  exact g_iret rfl rfl dX12_errorPosition_9 ⟨rfl, _, rfl, h⟩
def wX12_processCount (K : Int32 → ab_F → ab_F → Prop) (I A : ab_F)  : Prop := K (A 1 3) (wr I 0 5 (nI 0)) A
set_option maxRecDepth 20000 in
theorem ctX12_processCount  {K : Int32 → ab_F → ab_F → Prop} {I A : ab_F}  (h : wX12_processCount K I A ) : ab_Cl mX12_processCount 0 0 0 [.ref 0] shM I A (ab_Px shM ab_no (ab_ri K)) := by
  refine ab_enter (ls := [some (.ref 0)]) (by decide +kernel) (Nat.le_of_ble_eq_true rfl) rfl (fun C => ?_)
  unfold wX12_processCount at h
  refine g_aload_n (n := 1) dX12_processCount_0 rfl rfl rfl ?_
  refine g_iconst (n := 2) (v := (nI 0)) dX12_processCount_1 rfl rfl ?_
  refine g_putI (n := 5) (k := 5) dX12_processCount_2 sM_0 vc_16 (Nat.le_of_ble_eq_true rfl) rfl w_1999 rfl rfl rfl rfl rfl ?_
  refine g_aload_n (n := 6) dX12_processCount_5 rfl rfl rfl ?_
  refine g_getR (n := 9) (k := 0) dX12_processCount_6 sM_0 vc_16 (Nat.le_of_ble_eq_true rfl) rfl w_1994 rfl ?_
  refine g_iconst (n := 10) (v := (nI 3)) dX12_processCount_9 rfl rfl ?_
  refine g_ialdJ (n := 11) (j := 3) (x := (A 1 3)) dX12_processCount_10 sM_1 rfl (Nat.le_of_ble_eq_true rfl) (by decide) rfl rfl ?_
  exact g_iret rfl rfl dX12_processCount_11 ⟨rfl, _, rfl, h⟩
def wX12_frameCount (K : Int32 → ab_F → ab_F → Prop) (I A : ab_F)  : Prop := K (A 1 0) (wr I 0 5 (nI 0)) A
set_option maxRecDepth 20000 in
theorem ctX12_frameCount  {K : Int32 → ab_F → ab_F → Prop} {I A : ab_F}  (h : wX12_frameCount K I A ) : ab_Cl mX12_frameCount 0 0 0 [.ref 0] shM I A (ab_Px shM ab_no (ab_ri K)) := by
  refine ab_enter (ls := [some (.ref 0)]) (by decide +kernel) (Nat.le_of_ble_eq_true rfl) rfl (fun C => ?_)
  unfold wX12_frameCount at h
  refine g_aload_n (n := 1) dX12_frameCount_0 rfl rfl rfl ?_
  refine g_iconst (n := 2) (v := (nI 0)) dX12_frameCount_1 rfl rfl ?_
  refine g_putI (n := 5) (k := 5) dX12_frameCount_2 sM_0 vc_16 (Nat.le_of_ble_eq_true rfl) rfl w_1999 rfl rfl rfl rfl rfl ?_
  refine g_aload_n (n := 6) dX12_frameCount_5 rfl rfl rfl ?_
  refine g_getR (n := 9) (k := 0) dX12_frameCount_6 sM_0 vc_16 (Nat.le_of_ble_eq_true rfl) rfl w_1994 rfl ?_
  refine g_iconst (n := 10) (v := (nI 0)) dX12_frameCount_9 rfl rfl ?_
  refine g_ialdJ (n := 11) (j := 0) (x := (A 1 0)) dX12_frameCount_10 sM_1 rfl (Nat.le_of_ble_eq_true rfl) (by decide) rfl rfl ?_
  exact g_iret rfl rfl dX12_frameCount_11 ⟨rfl, _, rfl, h⟩
def wX12_slotCount (K : Int32 → ab_F → ab_F → Prop) (I A : ab_F)  : Prop := K (A 1 1) (wr I 0 5 (nI 0)) A
set_option maxRecDepth 20000 in
theorem ctX12_slotCount  {K : Int32 → ab_F → ab_F → Prop} {I A : ab_F}  (h : wX12_slotCount K I A ) : ab_Cl mX12_slotCount 0 0 0 [.ref 0] shM I A (ab_Px shM ab_no (ab_ri K)) := by
  refine ab_enter (ls := [some (.ref 0)]) (by decide +kernel) (Nat.le_of_ble_eq_true rfl) rfl (fun C => ?_)
  unfold wX12_slotCount at h
  refine g_aload_n (n := 1) dX12_slotCount_0 rfl rfl rfl ?_
  refine g_iconst (n := 2) (v := (nI 0)) dX12_slotCount_1 rfl rfl ?_
  refine g_putI (n := 5) (k := 5) dX12_slotCount_2 sM_0 vc_16 (Nat.le_of_ble_eq_true rfl) rfl w_1999 rfl rfl rfl rfl rfl ?_
  refine g_aload_n (n := 6) dX12_slotCount_5 rfl rfl rfl ?_
  refine g_getR (n := 9) (k := 0) dX12_slotCount_6 sM_0 vc_16 (Nat.le_of_ble_eq_true rfl) rfl w_1994 rfl ?_
  refine g_iconst (n := 10) (v := (nI 1)) dX12_slotCount_9 rfl rfl ?_
  refine g_ialdJ (n := 11) (j := 1) (x := (A 1 1)) dX12_slotCount_10 sM_1 rfl (Nat.le_of_ble_eq_true rfl) (by decide) rfl rfl ?_
  exact g_iret rfl rfl dX12_slotCount_11 ⟨rfl, _, rfl, h⟩
def wX12_epoch (K : Int32 → ab_F → ab_F → Prop) (I A : ab_F)  : Prop := K (A 1 4) (wr I 0 5 (nI 0)) A
set_option maxRecDepth 20000 in
theorem ctX12_epoch  {K : Int32 → ab_F → ab_F → Prop} {I A : ab_F}  (h : wX12_epoch K I A ) : ab_Cl mX12_epoch 0 0 0 [.ref 0] shM I A (ab_Px shM ab_no (ab_ri K)) := by
  refine ab_enter (ls := [some (.ref 0)]) (by decide +kernel) (Nat.le_of_ble_eq_true rfl) rfl (fun C => ?_)
  unfold wX12_epoch at h
  refine g_aload_n (n := 1) dX12_epoch_0 rfl rfl rfl ?_
  refine g_iconst (n := 2) (v := (nI 0)) dX12_epoch_1 rfl rfl ?_
  refine g_putI (n := 5) (k := 5) dX12_epoch_2 sM_0 vc_16 (Nat.le_of_ble_eq_true rfl) rfl w_1999 rfl rfl rfl rfl rfl ?_
  refine g_aload_n (n := 6) dX12_epoch_5 rfl rfl rfl ?_
  refine g_getR (n := 9) (k := 0) dX12_epoch_6 sM_0 vc_16 (Nat.le_of_ble_eq_true rfl) rfl w_1994 rfl ?_
  refine g_iconst (n := 10) (v := (nI 4)) dX12_epoch_9 rfl rfl ?_
  refine g_ialdJ (n := 11) (j := 4) (x := (A 1 4)) dX12_epoch_10 sM_1 rfl (Nat.le_of_ble_eq_true rfl) (by decide) rfl rfl ?_
  exact g_iret rfl rfl dX12_epoch_11 ⟨rfl, _, rfl, h⟩
