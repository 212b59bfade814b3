def wlX12_printWord_2 (K : ab_F → ab_F → Prop) : Nat → Nat → Int32 → ab_F → ab_F → Prop
  | 0, _, _, _, _ => False
  | n + 1, x1, x2, I, A => wJ0_length_8abf5 (fun r_3 I_1 A_2 => ((r_3 ≤ x2 → K I_1 A_2) ∧ (¬ r_3 ≤ x2 → wJ0_charAt_5068e (fun r_6 I_4 A_5 => wX12_print (fun I_7 A_8 => (wlX12_printWord_2 K n) x1 (x2 + nI 1) I_7 A_8) I_4 A_5 r_6) I_1 A_2 x1 x2))) I A x1
def wX12_printWord (K : ab_F → ab_F → Prop) (I A : ab_F) (p0 : Nat) : Prop := (∃ nf : Nat, wlX12_printWord_2 K nf p0 (nI 0) I A)
set_option maxRecDepth 20000 in
theorem tlX12_printWord_2 {C : ab_X}  {K : ab_F → ab_F → Prop} : ∀ (n : Nat) (x1 : Nat) (x2 : Int32) (I A : ab_F), wlX12_printWord_2 K n x1 x2 I A → ab_G mX12_printWord 6 C (ab_Px shM ab_no (ab_rv K)) 2 [some (.ref 0), some (.retAddr (2 * x1)), some (.int x2)] [] shM I A 0 0 := by
  intro n
  induction n with
  | zero => intro x1 x2 I A h; exact h.elim
  | succ n hL2 =>
    intro x1 x2 I A h
    rw [wlX12_printWord_2] at h
    refine g_iload_n (n := 3) dX12_printWord_2 rfl rfl rfl ?_
    refine g_aload_nK (n := 4) (x := 2 * x1) dX12_printWord_3 rfl rfl rfl ?_
    refine g_callVK (i := x1) (n := 7) (as := []) (bc' := 0) (bs' := 0) (ab_kq h.1) (ctJ0_length_8abf5 h) okJ0_length_8abf5 rfl w_2116 w_586 w_587 w_110 dX12_printWord_4 rfl rfl (Nat.le_of_ble_eq_true rfl) (Nat.le_of_ble_eq_true rfl) (Nat.le_of_ble_eq_true rfl) (Nat.le_of_ble_eq_true rfl) rfl (fun E sh1 I1 A1 hp _ => hp.2.elim) (fun ro sh_ I_1 A_2 hp hle => ?_)
    obtain ⟨rfl, r_3, rfl, h⟩ := hp
    refine g_icmp_ge (n := 10) 25 dX12_printWord_7 (by decide) rfl (fun hc => ?_) (fun hc => ?_)
    · have h := h.1 hc
      exact g_vret rfl dX12_printWord_25 ⟨rfl, rfl, h⟩
    · have h := h.2 hc
      refine g_aload_n (n := 11) dX12_printWord_10 rfl rfl rfl ?_
      refine g_aload_nK (n := 12) (x := 2 * x1) dX12_printWord_11 rfl rfl rfl ?_
      refine g_iload_n (n := 13) dX12_printWord_12 rfl rfl rfl ?_
      refine g_callVK (i := x1) (n := 16) (as := [.int x2]) (bc' := 0) (bs' := 0) (ab_kq h.1) (ctJ0_charAt_5068e h) okJ0_charAt_5068e rfl w_2117 w_595 w_596 w_110 dX12_printWord_13 rfl rfl (Nat.le_of_ble_eq_true rfl) (Nat.le_of_ble_eq_true rfl) (Nat.le_of_ble_eq_true rfl) (Nat.le_of_ble_eq_true rfl) rfl (fun E sh1 I1 A1 hp _ => hp.2.elim) (fun ro sh_ I_4 A_5 hp hle => ?_)
      obtain ⟨rfl, r_6, rfl, h⟩ := hp
      refine g_callV (n := 19) (as := [.int r_6]) (bc' := 0) (bs' := 0) sM_0 vc_16 (ctX12_print h) okX12_print rfl w_2640 w_2642 w_92 w_112 dX12_printWord_16 rfl rfl (Nat.le_of_ble_eq_true rfl) (Nat.le_of_ble_eq_true rfl) (Nat.le_of_ble_eq_true rfl) (Nat.le_of_ble_eq_true rfl) rfl (fun E sh1 I1 A1 hp _ => hp.2.elim) (fun ro sh_ I_7 A_8 hp hle => ?_)
      obtain ⟨rfl, rfl, h⟩ := hp
      refine g_iinc (n := 22) (v := (x2 + nI 1)) (ls' := [some (.ref 0), some (.retAddr (2 * x1)), some (.int (x2 + nI 1))]) dX12_printWord_19 rfl rfl rfl (Nat.le_of_ble_eq_true rfl) rfl rfl ?_
      refine g_goto 2 dX12_printWord_22 (by decide) ?_
      exact hL2 _ _ _ _ h
set_option maxRecDepth 20000 in
theorem ctX12_printWord  {K : ab_F → ab_F → Prop} {I A : ab_F} {p0 : Nat} (h : wX12_printWord K I A p0) : ab_Cl mX12_printWord 6 0 0 [.ref 0, .retAddr (2 * p0)] shM I A (ab_Px shM ab_no (ab_rv K)) := by
  refine ab_enter (ls := [some (.ref 0), some (.retAddr (2 * p0)), none]) (by decide +kernel) (Nat.le_of_ble_eq_true rfl) rfl (fun C => ?_)
  unfold wX12_printWord at h
  refine g_iconst (n := 1) (v := (nI 0)) dX12_printWord_0 rfl rfl ?_
  refine g_istore_n (n := 2) (ls' := [some (.ref 0), some (.retAddr (2 * p0)), some (.int (nI 0))]) dX12_printWord_1 rfl rfl (Nat.le_of_ble_eq_true rfl) (Nat.le_of_ble_eq_true rfl) rfl rfl ?_
  refine g_less (bc' := 0) (bs' := 0) (Nat.le_of_ble_eq_true rfl) (Nat.le_of_ble_eq_true rfl) ?_
  obtain ⟨n_f, h⟩ := h
  exact tlX12_printWord_2  n_f _ _ _ _ h
def wjX12_reportByte_22 (K : Int32 → ab_F → ab_F → Prop) (x1 : Int32) (s0 : Int32) (I A : ab_F) : Prop := wX12_fails (fun r_6 I_4 A_5 => ((r_6 = 0 → (∃ j_7 : Nat, x1 = nI j_7 ∧ j_7 < 800 ∧ K (A_5 10 j_7) I_4 A_5)) ∧ (¬ r_6 = 0 → K (nI 0) I_4 A_5))) I A s0 (nI 1)
def wX12_reportByte (K : Int32 → ab_F → ab_F → Prop) (I A : ab_F) (p0 : Int32) : Prop := wX12_in (fun r_3 I_1 A_2 => ((¬ r_3 = 0 → wjX12_reportByte_22 K p0 (nI 0) I_1 A_2) ∧ (r_3 = 0 → wjX12_reportByte_22 K p0 (nI 1) I_1 A_2))) I A ((p0).toInt64) (0 : Int64) ((((I 0 18) - (nI 1))).toInt64)
set_option maxRecDepth 20000 in
theorem tjX12_reportByte_22 {C : ab_X}  {K : Int32 → ab_F → ab_F → Prop} (x1 : Int32) (s0 : Int32) (I A : ab_F) (h : wjX12_reportByte_22 K x1 s0 I A) : ab_G mX12_reportByte 1 C (ab_Px shM ab_no (ab_ri K)) 22 [some (.ref 0), some (.int x1)] [.int s0, .ref 0] shM I A 0 0 := by
  unfold wjX12_reportByte_22 at h
  refine g_iconst (n := 23) (v := (nI 1)) dX12_reportByte_22 rfl rfl ?_
  refine g_callV (n := 26) (as := [.int s0, .int (nI 1)]) (bc' := 0) (bs' := 0) sM_0 vc_16 (ctX12_fails h) okX12_fails rfl w_2189 w_2191 w_42 w_112 dX12_reportByte_23 rfl rfl (Nat.le_of_ble_eq_true rfl) (Nat.le_of_ble_eq_true rfl) (Nat.le_of_ble_eq_true rfl) (Nat.le_of_ble_eq_true rfl) rfl (fun E sh1 I1 A1 hp _ => hp.2.elim) (fun ro sh_ I_4 A_5 hp hle => ?_)
  obtain ⟨rfl, r_6, rfl, h⟩ := hp
  refine g_if_eq (n := 29) 33 dX12_reportByte_26 (by decide) rfl (fun hc => ?_) (fun hc => ?_)
  · have h := h.1 hc
    refine g_aload_n (n := 34) dX12_reportByte_33 rfl rfl rfl ?_
    refine g_getR (n := 37) (k := 17) dX12_reportByte_34 sM_0 vc_16 (Nat.le_of_ble_eq_true rfl) rfl w_2011 rfl ?_
    refine g_iload_n (n := 38) dX12_reportByte_37 rfl rfl rfl ?_
    obtain ⟨j_7, hj, hl, h⟩ := h
    refine g_baldJ (n := 39) (j := j_7) (x := (A_5 10 j_7)) dX12_reportByte_38 sM_10 hj hl (by decide) rfl rfl ?_
    exact g_iret rfl rfl dX12_reportByte_39 ⟨rfl, _, rfl, h⟩
  · have h := h.2 hc
    refine g_iconst (n := 30) (v := (nI 0)) dX12_reportByte_29 rfl rfl ?_
    refine g_goto 39 dX12_reportByte_30 (by decide) ?_
    exact g_iret rfl rfl dX12_reportByte_39 ⟨rfl, _, rfl, h⟩
set_option maxRecDepth 20000 in
theorem ctX12_reportByte  {K : Int32 → ab_F → ab_F → Prop} {I A : ab_F} {p0 : Int32} (h : wX12_reportByte K I A p0) : ab_Cl mX12_reportByte 1 0 0 [.ref 0, .int p0] shM I A (ab_Px shM ab_no (ab_ri K)) := by
  refine ab_enter (ls := [some (.ref 0), some (.int p0)]) (by decide +kernel) (Nat.le_of_ble_eq_true rfl) rfl (fun C => ?_)
  unfold wX12_reportByte at h
  refine g_aload_n (n := 1) dX12_reportByte_0 rfl rfl rfl ?_
  refine g_iload_n (n := 2) dX12_reportByte_1 rfl rfl rfl ?_
  refine g_i2l (n := 3) dX12_reportByte_2 rfl ?_
  refine g_lconst (n := 4) (v := (0 : Int64)) dX12_reportByte_3 rfl rfl ?_
  refine g_aload_n (n := 5) dX12_reportByte_4 rfl rfl rfl ?_
  refine g_getIE (n := 8) (k := 18) (x := (I 0 18)) dX12_reportByte_5 sM_0 vc_16 (Nat.le_of_ble_eq_true rfl) rfl w_2012 rfl rfl ?_
  refine g_iconst (n := 9) (v := (nI 1)) dX12_reportByte_8 rfl rfl ?_
  refine g_isub (n := 10) dX12_reportByte_9 rfl ?_
  refine g_i2l (n := 11) dX12_reportByte_10 rfl ?_
  refine g_callS (n := 14) (as := [.long ((p0).toInt64), .long (0 : Int64), .long ((((I 0 18) - (nI 1))).toInt64)]) (bc' := 0) (bs' := 0) (ctX12_in h) okX12_in w_2080 w_2081 dX12_reportByte_11 rfl rfl (Nat.le_of_ble_eq_true rfl) (Nat.le_of_ble_eq_true rfl) (Nat.le_of_ble_eq_true rfl) (Nat.le_of_ble_eq_true rfl) rfl (fun E sh1 I1 A1 hp _ => hp.2.elim) (fun ro sh_ I_1 A_2 hp hle => ?_)
  obtain ⟨rfl, r_3, rfl, h⟩ := hp
  refine g_if_ne (n := 17) 21 dX12_reportByte_14 (by decide) rfl (fun hc => ?_) (fun hc => ?_)
  · have h := h.1 hc
    refine g_iconst (n := 22) (v := (nI 0)) dX12_reportByte_21 rfl rfl ?_
    refine g_less (bc' := 0) (bs' := 0) (Nat.le_of_ble_eq_true rfl) (Nat.le_of_ble_eq_true rfl) ?_
    exact tjX12_reportByte_22  _ _ _ _ h
  · have h := h.2 hc
    refine g_iconst (n := 18) (v := (nI 1)) dX12_reportByte_17 rfl rfl ?_
    refine g_goto 22 dX12_reportByte_18 (by decide) ?_
    refine g_less (bc' := 0) (bs' := 0) (Nat.le_of_ble_eq_true rfl) (Nat.le_of_ble_eq_true rfl) ?_
    exact tjX12_reportByte_22  _ _ _ _ h
