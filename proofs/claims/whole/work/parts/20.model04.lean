def wlX12_checkpointed_4 (K : Int32 → ab_F → ab_F → Prop) : Nat → Int32 → Int32 → ab_F → ab_F → Prop
  | 0, _, _, _, _ => False
  | n + 1, x1, x2, I, A => (((A 1 3) ≤ x2 → K x1 I A) ∧ (¬ (A 1 3) ≤ x2 → (∃ j_1 : Nat, ((nI 26) + x2) = nI j_1 ∧ j_1 < 608 ∧ (((A 1 j_1) = (-1 : Int32) → (∀ y_2 : Int32, y_2 = (x1 ||| (nI 0)) → (wlX12_checkpointed_4 K n) y_2 (x2 + nI 1) I A)) ∧ (¬ (A 1 j_1) = (-1 : Int32) → (∀ y_3 : Int32, y_3 = (x1 ||| ((nI 1) <<< (x2 &&& 31))) → (wlX12_checkpointed_4 K n) y_3 (x2 + nI 1) I A))))))
def wX12_checkpointed (K : Int32 → ab_F → ab_F → Prop) (I A : ab_F)  : Prop := (∃ nf : Nat, wlX12_checkpointed_4 K nf (nI 0) (nI 0) I A)
set_option maxRecDepth 20000 in
theorem tlX12_checkpointed_4 {C : ab_X}  {K : Int32 → ab_F → ab_F → Prop} : ∀ (n : Nat) (x1 : Int32) (x2 : Int32) (I A : ab_F), wlX12_checkpointed_4 K n x1 x2 I A → ab_G mX12_checkpointed 0 C (ab_Px shM ab_no (ab_ri K)) 4 [some (.ref 0), some (.int x1), some (.int x2)] [] shM I A 0 0 := by
  intro n
  induction n with
  | zero => intro x1 x2 I A h; exact h.elim
  | succ n hL4 =>
    intro x1 x2 I A h
    rw [wlX12_checkpointed_4] at h
    refine g_iload_n (n := 5) dX12_checkpointed_4 rfl rfl rfl ?_
    refine g_aload_n (n := 6) dX12_checkpointed_5 rfl rfl rfl ?_
    refine g_getR (n := 9) (k := 0) dX12_checkpointed_6 sM_0 vc_16 (Nat.le_of_ble_eq_true rfl) rfl w_1994 rfl ?_
    refine g_iconst (n := 10) (v := (nI 3)) dX12_checkpointed_9 rfl rfl ?_
    refine g_ialdJ (n := 11) (j := 3) (x := (A 1 3)) dX12_checkpointed_10 sM_1 rfl (Nat.le_of_ble_eq_true rfl) (by decide) rfl rfl ?_
    refine g_icmp_ge (n := 14) 43 dX12_checkpointed_11 (by decide) rfl (fun hc => ?_) (fun hc => ?_)
    · have h := h.1 hc
      refine g_iload_n (n := 44) dX12_checkpointed_43 rfl rfl rfl ?_
      exact g_iret rfl rfl dX12_checkpointed_44 ⟨rfl, _, rfl, h⟩
    · have h := h.2 hc
      refine g_iload_n (n := 15) dX12_checkpointed_14 rfl rfl rfl ?_
      refine g_aload_n (n := 16) dX12_checkpointed_15 rfl rfl rfl ?_
      refine g_getR (n := 19) (k := 0) dX12_checkpointed_16 sM_0 vc_16 (Nat.le_of_ble_eq_true rfl) rfl w_1994 rfl ?_
      refine g_bipush (n := 21) (v := (nI 26)) dX12_checkpointed_19 rfl rfl ?_
      refine g_iload_n (n := 22) dX12_checkpointed_21 rfl rfl rfl ?_
      refine g_iadd (n := 23) dX12_checkpointed_22 rfl ?_
      obtain ⟨j_1, hj, hl, h⟩ := h
      refine g_ialdJ (n := 24) (j := j_1) (x := (A 1 j_1)) dX12_checkpointed_23 sM_1 hj hl (by decide) rfl rfl ?_
      refine g_iconst (n := 25) (v := (-1 : Int32)) dX12_checkpointed_24 rfl rfl ?_
      refine g_icmp_eq (n := 28) 34 dX12_checkpointed_25 (by decide) rfl (fun hc => ?_) (fun hc => ?_)
      · have h := h.1 hc
        refine g_iconst (n := 35) (v := (nI 0)) dX12_checkpointed_34 rfl rfl ?_
        refine g_ior (n := 36) dX12_checkpointed_35 rfl ?_
        refine g_topi (fun y_2 ey_2 => ?_)
        have h := h y_2 ey_2
        refine g_istore_n (n := 37) (ls' := [some (.ref 0), some (.int y_2), some (.int x2)]) dX12_checkpointed_36 rfl rfl (Nat.le_of_ble_eq_true rfl) (Nat.le_of_ble_eq_true rfl) rfl rfl ?_
        refine g_iinc (n := 40) (v := (x2 + nI 1)) (ls' := [some (.ref 0), some (.int y_2), some (.int (x2 + nI 1))]) dX12_checkpointed_37 rfl rfl rfl (Nat.le_of_ble_eq_true rfl) rfl rfl ?_
        refine g_goto 4 dX12_checkpointed_40 (by decide) ?_
        exact hL4 _ _ _ _ h
      · have h := h.2 hc
        refine g_iconst (n := 29) (v := (nI 1)) dX12_checkpointed_28 rfl rfl ?_
        refine g_iload_n (n := 30) dX12_checkpointed_29 rfl rfl rfl ?_
        refine g_ishl (n := 31) dX12_checkpointed_30 rfl ?_
        refine g_goto 35 dX12_checkpointed_31 (by decide) ?_
        refine g_ior (n := 36) dX12_checkpointed_35 rfl ?_
        refine g_topi (fun y_3 ey_3 => ?_)
        have h := h y_3 ey_3
        refine g_istore_n (n := 37) (ls' := [some (.ref 0), some (.int y_3), some (.int x2)]) dX12_checkpointed_36 rfl rfl (Nat.le_of_ble_eq_true rfl) (Nat.le_of_ble_eq_true rfl) rfl rfl ?_
        refine g_iinc (n := 40) (v := (x2 + nI 1)) (ls' := [some (.ref 0), some (.int y_3), some (.int (x2 + nI 1))]) dX12_checkpointed_37 rfl rfl rfl (Nat.le_of_ble_eq_true rfl) rfl rfl ?_
        refine g_goto 4 dX12_checkpointed_40 (by decide) ?_
        exact hL4 _ _ _ _ h
set_option maxRecDepth 20000 in
theorem ctX12_checkpointed  {K : Int32 → ab_F → ab_F → Prop} {I A : ab_F}  (h : wX12_checkpointed K I A ) : ab_Cl mX12_checkpointed 0 0 0 [.ref 0] shM I A (ab_Px shM ab_no (ab_ri K)) := by
  refine ab_enter (ls := [some (.ref 0), none, none]) (by decide +kernel) (Nat.le_of_ble_eq_true rfl) rfl (fun C => ?_)
  unfold wX12_checkpointed at h
  refine g_iconst (n := 1) (v := (nI 0)) dX12_checkpointed_0 rfl rfl ?_
  refine g_istore_n (n := 2) (ls' := [some (.ref 0), some (.int (nI 0)), none]) dX12_checkpointed_1 rfl rfl (Nat.le_of_ble_eq_true rfl) (Nat.le_of_ble_eq_true rfl) rfl rfl ?_
  refine g_iconst (n := 3) (v := (nI 0)) dX12_checkpointed_2 rfl rfl ?_
  refine g_istore_n (n := 4) (ls' := [some (.ref 0), some (.int (nI 0)), some (.int (nI 0))]) dX12_checkpointed_3 rfl rfl (Nat.le_of_ble_eq_true rfl) (Nat.le_of_ble_eq_true rfl) rfl rfl ?_
  refine g_less (bc' := 0) (bs' := 0) (Nat.le_of_ble_eq_true rfl) (Nat.le_of_ble_eq_true rfl) ?_
  obtain ⟨n_f, h⟩ := h
  exact tlX12_checkpointed_4  n_f _ _ _ _ h
def wlX12_crashes_10 (K : ab_F → ab_F → Prop) : Nat → Int32 → ab_F → ab_F → Prop
  | 0, _, _, _ => False
  | n + 1, x1, I, A => (((A 1 3) ≤ x1 → K I (wr (wr A 1 12 (nI 0)) 1 9 ((A 1 9) + (nI 1)))) ∧ (¬ (A 1 3) ≤ x1 → wX12_restore (fun I_1 A_2 => (wlX12_crashes_10 K n) (x1 + nI 1) I_1 A_2) I A x1))
def wX12_crashes (K : ab_F → ab_F → Prop) (I A : ab_F)  : Prop := (∃ nf : Nat, wlX12_crashes_10 K nf (nI 0) I (wr A 1 10 (nI 0)))
set_option maxRecDepth 20000 in
theorem tlX12_crashes_10 {C : ab_X}  {K : ab_F → ab_F → Prop} : ∀ (n : Nat) (x1 : Int32) (I A : ab_F), wlX12_crashes_10 K n x1 I A → ab_G mX12_crashes 2 C (ab_Px shM ab_no (ab_rv K)) 10 [some (.ref 0), some (.int x1)] [] shM I A 0 0 := by
  intro n
  induction n with
  | zero => intro x1 I A h; exact h.elim
  | succ n hL10 =>
    intro x1 I A h
    rw [wlX12_crashes_10] at h
    refine g_iload_n (n := 11) dX12_crashes_10 rfl rfl rfl ?_
    refine g_aload_n (n := 12) dX12_crashes_11 rfl rfl rfl ?_
    refine g_getR (n := 15) (k := 0) dX12_crashes_12 sM_0 vc_16 (Nat.le_of_ble_eq_true rfl) rfl w_1994 rfl ?_
    refine g_iconst (n := 16) (v := (nI 3)) dX12_crashes_15 rfl rfl ?_
    refine g_ialdJ (n := 17) (j := 3) (x := (A 1 3)) dX12_crashes_16 sM_1 rfl (Nat.le_of_ble_eq_true rfl) (by decide) rfl rfl ?_
    refine g_icmp_ge (n := 20) 31 dX12_crashes_17 (by decide) rfl (fun hc => ?_) (fun hc => ?_)
    · have h := h.1 hc
      refine g_aload_n (n := 32) dX12_crashes_31 rfl rfl rfl ?_
      refine g_getR (n := 35) (k := 0) dX12_crashes_32 sM_0 vc_16 (Nat.le_of_ble_eq_true rfl) rfl w_1994 rfl ?_
      refine g_bipush (n := 37) (v := (nI 12)) dX12_crashes_35 rfl rfl ?_
      refine g_iconst (n := 38) (v := (nI 0)) dX12_crashes_37 rfl rfl ?_
      refine g_iastJ (n := 39) (j := 12) dX12_crashes_38 sM_1 rfl (Nat.le_of_ble_eq_true rfl) (by decide) rfl ?_
      refine g_aload_n (n := 40) dX12_crashes_39 rfl rfl rfl ?_
      refine g_getR (n := 43) (k := 0) dX12_crashes_40 sM_0 vc_16 (Nat.le_of_ble_eq_true rfl) rfl w_1994 rfl ?_
      refine g_bipush (n := 45) (v := (nI 9)) dX12_crashes_43 rfl rfl ?_
      refine g_dup2 (n := 46) dX12_crashes_45 rfl rfl rfl ?_
      refine g_ialdJ (n := 47) (j := 9) (x := (A 1 9)) dX12_crashes_46 sM_1 rfl (Nat.le_of_ble_eq_true rfl) (by decide) rfl rfl ?_
      refine g_iconst (n := 48) (v := (nI 1)) dX12_crashes_47 rfl rfl ?_
      refine g_iadd (n := 49) dX12_crashes_48 rfl ?_
      refine g_iastJ (n := 50) (j := 9) dX12_crashes_49 sM_1 rfl (Nat.le_of_ble_eq_true rfl) (by decide) rfl ?_
      exact g_vret rfl dX12_crashes_50 ⟨rfl, rfl, h⟩
    · have h := h.2 hc
      refine g_aload_n (n := 21) dX12_crashes_20 rfl rfl rfl ?_
      refine g_iload_n (n := 22) dX12_crashes_21 rfl rfl rfl ?_
      refine g_callV (n := 25) (as := [.int x1]) (bc' := 0) (bs' := 0) sM_0 vc_16 (ctX12_restore h) okX12_restore rfl w_2333 w_2335 w_68 w_112 dX12_crashes_22 rfl rfl (Nat.le_of_ble_eq_true rfl) (Nat.le_of_ble_eq_true rfl) (Nat.le_of_ble_eq_true rfl) (Nat.le_of_ble_eq_true rfl) rfl (fun E sh1 I1 A1 hp _ => hp.2.elim) (fun ro sh_ I_1 A_2 hp hle => ?_)
      obtain ⟨rfl, rfl, h⟩ := hp
      refine g_iinc (n := 28) (v := (x1 + nI 1)) (ls' := [some (.ref 0), some (.int (x1 + nI 1))]) dX12_crashes_25 rfl rfl rfl (Nat.le_of_ble_eq_true rfl) rfl rfl ?_
      refine g_goto 10 dX12_crashes_28 (by decide) ?_
      exact hL10 _ _ _ h
set_option maxRecDepth 20000 in
theorem ctX12_crashes  {K : ab_F → ab_F → Prop} {I A : ab_F}  (h : wX12_crashes K I A ) : ab_Cl mX12_crashes 2 0 0 [.ref 0] shM I A (ab_Px shM ab_no (ab_rv K)) := by
  refine ab_enter (ls := [some (.ref 0), none]) (by decide +kernel) (Nat.le_of_ble_eq_true rfl) rfl (fun C => ?_)
  unfold wX12_crashes at h
  refine g_aload_n (n := 1) dX12_crashes_0 rfl rfl rfl ?_
  refine g_getR (n := 4) (k := 0) dX12_crashes_1 sM_0 vc_16 (Nat.le_of_ble_eq_true rfl) rfl w_1994 rfl ?_
  refine g_bipush (n := 6) (v := (nI 10)) dX12_crashes_4 rfl rfl ?_
  refine g_iconst (n := 7) (v := (nI 0)) dX12_crashes_6 rfl rfl ?_
  refine g_iastJ (n := 8) (j := 10) dX12_crashes_7 sM_1 rfl (Nat.le_of_ble_eq_true rfl) (by decide) rfl ?_
  refine g_iconst (n := 9) (v := (nI 0)) dX12_crashes_8 rfl rfl ?_
  refine g_istore_n (n := 10) (ls' := [some (.ref 0), some (.int (nI 0))]) dX12_crashes_9 rfl rfl (Nat.le_of_ble_eq_true rfl) (Nat.le_of_ble_eq_true rfl) rfl rfl ?_
  refine g_less (bc' := 0) (bs' := 0) (Nat.le_of_ble_eq_true rfl) (Nat.le_of_ble_eq_true rfl) ?_
  obtain ⟨n_f, h⟩ := h
  exact tlX12_crashes_10  n_f _ _ _ h
def wX12_crash (K : Int32 → ab_F → ab_F → Prop) (I A : ab_F)  : Prop := wX12_remember (fun I_1 A_2 => wX12_crashes (fun I_3 A_4 => wX12_checkpointed (fun r_7 I_5 A_6 => K r_7 I_5 A_6) I_3 A_4 ) I_1 A_2 ) (wr I 0 5 (nI 0)) A 
set_option maxRecDepth 20000 in
theorem ctX12_crash  {K : Int32 → ab_F → ab_F → Prop} {I A : ab_F}  (h : wX12_crash K I A ) : ab_Cl mX12_crash 3 0 0 [.ref 0] shM I A (ab_Px shM ab_no (ab_ri K)) := by
  refine ab_enter (ls := [some (.ref 0)]) (by decide +kernel) (Nat.le_of_ble_eq_true rfl) rfl (fun C => ?_)
  unfold wX12_crash at h
  refine g_aload_n (n := 1) dX12_crash_0 rfl rfl rfl ?_
  refine g_iconst (n := 2) (v := (nI 0)) dX12_crash_1 rfl rfl ?_
  refine g_putI (n := 5) (k := 5) dX12_crash_2 sM_0 vc_16 (Nat.le_of_ble_eq_true rfl) rfl w_1999 rfl rfl rfl rfl rfl ?_
  refine g_aload_n (n := 6) dX12_crash_5 rfl rfl rfl ?_
  refine g_callV (n := 9) (as := []) (bc' := 0) (bs' := 0) sM_0 vc_16 (ctX12_remember h) okX12_remember rfl w_2235 w_2237 w_52 w_112 dX12_crash_6 rfl rfl (Nat.le_of_ble_eq_true rfl) (Nat.le_of_ble_eq_true rfl) (Nat.le_of_ble_eq_true rfl) (Nat.le_of_ble_eq_true rfl) rfl (fun E sh1 I1 A1 hp _ => hp.2.elim) (fun ro sh_ I_1 A_2 hp hle => ?_)
  obtain ⟨rfl, rfl, h⟩ := hp
  refine g_aload_n (n := 10) dX12_crash_9 rfl rfl rfl ?_
  refine g_callV (n := 13) (as := []) (bc' := 0) (bs' := 0) sM_0 vc_16 (ctX12_crashes h) okX12_crashes rfl w_2329 w_2331 w_67 w_112 dX12_crash_10 rfl rfl (Nat.le_of_ble_eq_true rfl) (Nat.le_of_ble_eq_true rfl) (Nat.le_of_ble_eq_true rfl) (Nat.le_of_ble_eq_true rfl) rfl (fun E sh1 I1 A1 hp _ => hp.2.elim) (fun ro sh_ I_3 A_4 hp hle => ?_)
  obtain ⟨rfl, rfl, h⟩ := hp
  refine g_aload_n (n := 14) dX12_crash_13 rfl rfl rfl ?_
  refine g_callV (n := 17) (as := []) (bc' := 0) (bs' := 0) sM_0 vc_16 (ctX12_checkpointed h) okX12_checkpointed rfl w_2341 w_2343 w_70 w_112 dX12_crash_14 rfl rfl (Nat.le_of_ble_eq_true rfl) (Nat.le_of_ble_eq_true rfl) (Nat.le_of_ble_eq_true rfl) (Nat.le_of_ble_eq_true rfl) rfl (fun E sh1 I1 A1 hp _ => hp.2.elim) (fun ro sh_ I_5 A_6 hp hle => ?_)
  obtain ⟨rfl, r_7, rfl, h⟩ := hp
  exact g_iret rfl rfl dX12_crash_17 ⟨rfl, _, rfl, h⟩
def wlX12_lostOf_4 (K : Int32 → ab_F → ab_F → Prop) : Nat → Int32 → Int32 → Int32 → ab_F → ab_F → Prop
  | 0, _, _, _, _, _ => False
  | n + 1, x1, x2, x3, I, A => (∃ j_1 : Nat, ((nI 20) + x1) = nI j_1 ∧ j_1 < 608 ∧ (((A 1 j_1) ≤ x3 → K x2 I A) ∧ (¬ (A 1 j_1) ≤ x3 → (∃ j_2 : Nat, (((nI 32) + ((nI 8) * x1)) + x3) = nI j_2 ∧ j_2 < 608 ∧ wX12_restored (fun r_5 I_3 A_4 => (((A 1 j_2) = r_5 → (∀ y_6 : Int32, y_6 = (x2 ||| (nI 0)) → (wlX12_lostOf_4 K n) x1 y_6 (x3 + nI 1) I_3 A_4)) ∧ (¬ (A 1 j_2) = r_5 → (∀ y_7 : Int32, y_7 = (x2 ||| ((nI 1) <<< (x3 &&& 31))) → (wlX12_lostOf_4 K n) x1 y_7 (x3 + nI 1) I_3 A_4)))) I A (((nI 8) * x1) + x3)))))
def wX12_lostOf (K : Int32 → ab_F → ab_F → Prop) (I A : ab_F) (p0 : Int32) : Prop := (∃ nf : Nat, wlX12_lostOf_4 K nf p0 (nI 0) (nI 0) I A)
set_option maxRecDepth 20000 in
theorem tlX12_lostOf_4 {C : ab_X}  {K : Int32 → ab_F → ab_F → Prop} : ∀ (n : Nat) (x1 : Int32) (x2 : Int32) (x3 : Int32) (I A : ab_F), wlX12_lostOf_4 K n x1 x2 x3 I A → ab_G mX12_lostOf 1 C (ab_Px shM ab_no (ab_ri K)) 4 [some (.ref 0), some (.int x1), some (.int x2), some (.int x3)] [] shM I A 0 0 := by
  intro n
  induction n with
  | zero => intro x1 x2 x3 I A h; exact h.elim
  | succ n hL4 =>
    intro x1 x2 x3 I A h
    rw [wlX12_lostOf_4] at h
    refine g_iload_n (n := 5) dX12_lostOf_4 rfl rfl rfl ?_
    refine g_aload_n (n := 6) dX12_lostOf_5 rfl rfl rfl ?_
    refine g_getR (n := 9) (k := 0) dX12_lostOf_6 sM_0 vc_16 (Nat.le_of_ble_eq_true rfl) rfl w_1994 rfl ?_
    refine g_bipush (n := 11) (v := (nI 20)) dX12_lostOf_9 rfl rfl ?_
    refine g_iload_n (n := 12) dX12_lostOf_11 rfl rfl rfl ?_
    refine g_iadd (n := 13) dX12_lostOf_12 rfl ?_
    obtain ⟨j_1, hj, hl, h⟩ := h
    refine g_ialdJ (n := 14) (j := j_1) (x := (A 1 j_1)) dX12_lostOf_13 sM_1 hj hl (by decide) rfl rfl ?_
    refine g_icmp_ge (n := 17) 60 dX12_lostOf_14 (by decide) rfl (fun hc => ?_) (fun hc => ?_)
    · have h := h.1 hc
      refine g_iload_n (n := 61) dX12_lostOf_60 rfl rfl rfl ?_
      exact g_iret rfl rfl dX12_lostOf_61 ⟨rfl, _, rfl, h⟩
    · have h := h.2 hc
      refine g_iload_n (n := 18) dX12_lostOf_17 rfl rfl rfl ?_
      refine g_aload_n (n := 19) dX12_lostOf_18 rfl rfl rfl ?_
      refine g_getR (n := 22) (k := 0) dX12_lostOf_19 sM_0 vc_16 (Nat.le_of_ble_eq_true rfl) rfl w_1994 rfl ?_
      refine g_bipush (n := 24) (v := (nI 32)) dX12_lostOf_22 rfl rfl ?_
      refine g_bipush (n := 26) (v := (nI 8)) dX12_lostOf_24 rfl rfl ?_
      refine g_iload_n (n := 27) dX12_lostOf_26 rfl rfl rfl ?_
      refine g_imul (n := 28) dX12_lostOf_27 rfl ?_
      refine g_iadd (n := 29) dX12_lostOf_28 rfl ?_
      refine g_iload_n (n := 30) dX12_lostOf_29 rfl rfl rfl ?_
      refine g_iadd (n := 31) dX12_lostOf_30 rfl ?_
      obtain ⟨j_2, hj, hl, h⟩ := h
      refine g_ialdJ (n := 32) (j := j_2) (x := (A 1 j_2)) dX12_lostOf_31 sM_1 hj hl (by decide) rfl rfl ?_
      refine g_aload_n (n := 33) dX12_lostOf_32 rfl rfl rfl ?_
      refine g_bipush (n := 35) (v := (nI 8)) dX12_lostOf_33 rfl rfl ?_
      refine g_iload_n (n := 36) dX12_lostOf_35 rfl rfl rfl ?_
      refine g_imul (n := 37) dX12_lostOf_36 rfl ?_
      refine g_iload_n (n := 38) dX12_lostOf_37 rfl rfl rfl ?_
      refine g_iadd (n := 39) dX12_lostOf_38 rfl ?_
      refine g_callV (n := 42) (as := [.int (((nI 8) * x1) + x3)]) (bc' := 0) (bs' := 0) sM_0 vc_16 (ctX12_restored h) okX12_restored rfl w_2337 w_2339 w_69 w_112 dX12_lostOf_39 rfl rfl (Nat.le_of_ble_eq_true rfl) (Nat.le_of_ble_eq_true rfl) (Nat.le_of_ble_eq_true rfl) (Nat.le_of_ble_eq_true rfl) rfl (fun E sh1 I1 A1 hp _ => hp.2.elim) (fun ro sh_ I_3 A_4 hp hle => ?_)
      obtain ⟨rfl, r_5, rfl, h⟩ := hp
      refine g_icmp_eq (n := 45) 51 dX12_lostOf_42 (by decide) rfl (fun hc => ?_) (fun hc => ?_)
      · have h := h.1 hc
        refine g_iconst (n := 52) (v := (nI 0)) dX12_lostOf_51 rfl rfl ?_
        refine g_ior (n := 53) dX12_lostOf_52 rfl ?_
        refine g_topi (fun y_6 ey_6 => ?_)
        have h := h y_6 ey_6
        refine g_istore_n (n := 54) (ls' := [some (.ref 0), some (.int x1), some (.int y_6), some (.int x3)]) dX12_lostOf_53 rfl rfl (Nat.le_of_ble_eq_true rfl) (Nat.le_of_ble_eq_true rfl) rfl rfl ?_
        refine g_iinc (n := 57) (v := (x3 + nI 1)) (ls' := [some (.ref 0), some (.int x1), some (.int y_6), some (.int (x3 + nI 1))]) dX12_lostOf_54 rfl rfl rfl (Nat.le_of_ble_eq_true rfl) rfl rfl ?_
        refine g_goto 4 dX12_lostOf_57 (by decide) ?_
        exact hL4 _ _ _ _ _ h
      · have h := h.2 hc
        refine g_iconst (n := 46) (v := (nI 1)) dX12_lostOf_45 rfl rfl ?_
        refine g_iload_n (n := 47) dX12_lostOf_46 rfl rfl rfl ?_
        refine g_ishl (n := 48) dX12_lostOf_47 rfl ?_
        refine g_goto 52 dX12_lostOf_48 (by decide) ?_
        refine g_ior (n := 53) dX12_lostOf_52 rfl ?_
        refine g_topi (fun y_7 ey_7 => ?_)
        have h := h y_7 ey_7
        refine g_istore_n (n := 54) (ls' := [some (.ref 0), some (.int x1), some (.int y_7), some (.int x3)]) dX12_lostOf_53 rfl rfl (Nat.le_of_ble_eq_true rfl) (Nat.le_of_ble_eq_true rfl) rfl rfl ?_
        refine g_iinc (n := 57) (v := (x3 + nI 1)) (ls' := [some (.ref 0), some (.int x1), some (.int y_7), some (.int (x3 + nI 1))]) dX12_lostOf_54 rfl rfl rfl (Nat.le_of_ble_eq_true rfl) rfl rfl ?_
        refine g_goto 4 dX12_lostOf_57 (by decide) ?_
        exact hL4 _ _ _ _ _ h
set_option maxRecDepth 20000 in
theorem ctX12_lostOf  {K : Int32 → ab_F → ab_F → Prop} {I A : ab_F} {p0 : Int32} (h : wX12_lostOf K I A p0) : ab_Cl mX12_lostOf 1 0 0 [.ref 0, .int p0] shM I A (ab_Px shM ab_no (ab_ri K)) := by
  refine ab_enter (ls := [some (.ref 0), some (.int p0), none, none]) (by decide +kernel) (Nat.le_of_ble_eq_true rfl) rfl (fun C => ?_)
  unfold wX12_lostOf at h
  refine g_iconst (n := 1) (v := (nI 0)) dX12_lostOf_0 rfl rfl ?_
  refine g_istore_n (n := 2) (ls' := [some (.ref 0), some (.int p0), some (.int (nI 0)), none]) dX12_lostOf_1 rfl rfl (Nat.le_of_ble_eq_true rfl) (Nat.le_of_ble_eq_true rfl) rfl rfl ?_
  refine g_iconst (n := 3) (v := (nI 0)) dX12_lostOf_2 rfl rfl ?_
  refine g_istore_n (n := 4) (ls' := [some (.ref 0), some (.int p0), some (.int (nI 0)), some (.int (nI 0))]) dX12_lostOf_3 rfl rfl (Nat.le_of_ble_eq_true rfl) (Nat.le_of_ble_eq_true rfl) rfl rfl ?_
  refine g_less (bc' := 0) (bs' := 0) (Nat.le_of_ble_eq_true rfl) (Nat.le_of_ble_eq_true rfl) ?_
  obtain ⟨n_f, h⟩ := h
  exact tlX12_lostOf_4  n_f _ _ _ _ _ h
def wjX12_rollback_27 (K : Int32 → ab_F → ab_F → Prop) (x1 : Int32) (s0 : Int32) (I A : ab_F) : Prop := wX12_fails (fun r_7 I_5 A_6 => ((¬ r_7 = 0 → K (nI 0) I_5 A_6) ∧ (r_7 = 0 → wX12_has (fun r_10 I_8 A_9 => wX12_fails (fun r_13 I_11 A_12 => ((r_13 = 0 → wX12_remember (fun I_14 A_15 => wX12_lostOf (fun r_18 I_16 A_17 => wX12_restore (fun I_19 A_20 => K r_18 I_19 A_20) I_16 A_17 x1) I_14 A_15 x1) I_11 A_12 ) ∧ (¬ r_13 = 0 → K (nI 0) I_11 A_12))) I_8 A_9 r_10 (nI 3)) I_5 A_6 (A_6 1 10) x1))) I A s0 (nI 2)
def wX12_rollback (K : Int32 → ab_F → ab_F → Prop) (I A : ab_F) (p0 : Int32) : Prop := wX12_isNoProcess (fun r_3 I_1 A_2 => ((¬ r_3 = 0 → K (nI 0) I_1 A_2) ∧ (r_3 = 0 → (∃ j_4 : Nat, ((nI 26) + p0) = nI j_4 ∧ j_4 < 608 ∧ ((¬ (A_2 1 j_4) = (-1 : Int32) → wjX12_rollback_27 K p0 (nI 0) I_1 A_2) ∧ ((A_2 1 j_4) = (-1 : Int32) → wjX12_rollback_27 K p0 (nI 1) I_1 A_2)))))) I A p0
set_option maxRecDepth 20000 in
theorem tjX12_rollback_27 {C : ab_X}  {K : Int32 → ab_F → ab_F → Prop} (x1 : Int32) (s0 : Int32) (I A : ab_F) (h : wjX12_rollback_27 K x1 s0 I A) : ab_G mX12_rollback 3 C (ab_Px shM ab_no (ab_ri K)) 27 [some (.ref 0), some (.int x1), none] [.int s0, .ref 0] shM I A 0 0 := by
  unfold wjX12_rollback_27 at h
  refine g_iconst (n := 28) (v := (nI 2)) dX12_rollback_27 rfl rfl ?_
  refine g_callV (n := 31) (as := [.int s0, .int (nI 2)]) (bc' := 0) (bs' := 0) sM_0 vc_16 (ctX12_fails h) okX12_fails rfl w_2189 w_2191 w_42 w_112 dX12_rollback_28 rfl rfl (Nat.le_of_ble_eq_true rfl) (Nat.le_of_ble_eq_true rfl) (Nat.le_of_ble_eq_true rfl) (Nat.le_of_ble_eq_true rfl) rfl (fun E sh1 I1 A1 hp _ => hp.2.elim) (fun ro sh_ I_5 A_6 hp hle => ?_)
  obtain ⟨rfl, r_7, rfl, h⟩ := hp
  refine g_if_ne (n := 34) 53 dX12_rollback_31 (by decide) rfl (fun hc => ?_) (fun hc => ?_)
  · have h := h.1 hc
    refine g_iconst (n := 54) (v := (nI 0)) dX12_rollback_53 rfl rfl ?_
    exact g_iret rfl rfl dX12_rollback_54 ⟨rfl, _, rfl, h⟩
  · have h := h.2 hc
    refine g_aload_n (n := 35) dX12_rollback_34 rfl rfl rfl ?_
    refine g_aload_n (n := 36) dX12_rollback_35 rfl rfl rfl ?_
    refine g_getR (n := 39) (k := 0) dX12_rollback_36 sM_0 vc_16 (Nat.le_of_ble_eq_true rfl) rfl w_1994 rfl ?_
    refine g_bipush (n := 41) (v := (nI 10)) dX12_rollback_39 rfl rfl ?_
    refine g_ialdJ (n := 42) (j := 10) (x := (A_6 1 10)) dX12_rollback_41 sM_1 rfl (Nat.le_of_ble_eq_true rfl) (by decide) rfl rfl ?_
    refine g_iload_n (n := 43) dX12_rollback_42 rfl rfl rfl ?_
    refine g_callS (n := 46) (as := [.int (A_6 1 10), .int x1]) (bc' := 0) (bs' := 0) (ctX12_has h) okX12_has w_2204 w_2205 dX12_rollback_43 rfl rfl (Nat.le_of_ble_eq_true rfl) (Nat.le_of_ble_eq_true rfl) (Nat.le_of_ble_eq_true rfl) (Nat.le_of_ble_eq_true rfl) rfl (fun E sh1 I1 A1 hp _ => hp.2.elim) (fun ro sh_ I_8 A_9 hp hle => ?_)
    obtain ⟨rfl, r_10, rfl, h⟩ := hp
    refine g_iconst (n := 47) (v := (nI 3)) dX12_rollback_46 rfl rfl ?_
    refine g_callV (n := 50) (as := [.int r_10, .int (nI 3)]) (bc' := 0) (bs' := 0) sM_0 vc_16 (ctX12_fails h) okX12_fails rfl w_2189 w_2191 w_42 w_112 dX12_rollback_47 rfl rfl (Nat.le_of_ble_eq_true rfl) (Nat.le_of_ble_eq_true rfl) (Nat.le_of_ble_eq_true rfl) (Nat.le_of_ble_eq_true rfl) rfl (fun E sh1 I1 A1 hp _ => hp.2.elim) (fun ro sh_ I_11 A_12 hp hle => ?_)
    obtain ⟨rfl, r_13, rfl, h⟩ := hp
    refine g_if_eq (n := 53) 55 dX12_rollback_50 (by decide) rfl (fun hc => ?_) (fun hc => ?_)
    · have h := h.1 hc
      refine g_aload_n (n := 56) dX12_rollback_55 rfl rfl rfl ?_
      refine g_callV (n := 59) (as := []) (bc' := 0) (bs' := 0) sM_0 vc_16 (ctX12_remember h) okX12_remember rfl w_2235 w_2237 w_52 w_112 dX12_rollback_56 rfl rfl (Nat.le_of_ble_eq_true rfl) (Nat.le_of_ble_eq_true rfl) (Nat.le_of_ble_eq_true rfl) (Nat.le_of_ble_eq_true rfl) rfl (fun E sh1 I1 A1 hp _ => hp.2.elim) (fun ro sh_ I_14 A_15 hp hle => ?_)
      obtain ⟨rfl, rfl, h⟩ := hp
      refine g_aload_n (n := 60) dX12_rollback_59 rfl rfl rfl ?_
      refine g_iload_n (n := 61) dX12_rollback_60 rfl rfl rfl ?_
      refine g_callV (n := 64) (as := [.int x1]) (bc' := 0) (bs' := 0) sM_0 vc_16 (ctX12_lostOf h) okX12_lostOf rfl w_2353 w_2355 w_72 w_112 dX12_rollback_61 rfl rfl (Nat.le_of_ble_eq_true rfl) (Nat.le_of_ble_eq_true rfl) (Nat.le_of_ble_eq_true rfl) (Nat.le_of_ble_eq_true rfl) rfl (fun E sh1 I1 A1 hp _ => hp.2.elim) (fun ro sh_ I_16 A_17 hp hle => ?_)
      obtain ⟨rfl, r_18, rfl, h⟩ := hp
      refine g_istore_n (n := 65) (ls' := [some (.ref 0), some (.int x1), some (.int r_18)]) dX12_rollback_64 rfl rfl (Nat.le_of_ble_eq_true rfl) (Nat.le_of_ble_eq_true rfl) rfl rfl ?_
      refine g_aload_n (n := 66) dX12_rollback_65 rfl rfl rfl ?_
      refine g_iload_n (n := 67) dX12_rollback_66 rfl rfl rfl ?_
      refine g_callV (n := 70) (as := [.int x1]) (bc' := 0) (bs' := 0) sM_0 vc_16 (ctX12_restore h) okX12_restore rfl w_2333 w_2335 w_68 w_112 dX12_rollback_67 rfl rfl (Nat.le_of_ble_eq_true rfl) (Nat.le_of_ble_eq_true rfl) (Nat.le_of_ble_eq_true rfl) (Nat.le_of_ble_eq_true rfl) rfl (fun E sh1 I1 A1 hp _ => hp.2.elim) (fun ro sh_ I_19 A_20 hp hle => ?_)
      obtain ⟨rfl, rfl, h⟩ := hp
      refine g_iload_n (n := 71) dX12_rollback_70 rfl rfl rfl ?_
      exact g_iret rfl rfl dX12_rollback_71 ⟨rfl, _, rfl, h⟩
    · have h := h.2 hc
      refine g_iconst (n := 54) (v := (nI 0)) dX12_rollback_53 rfl rfl ?_
      exact g_iret rfl rfl dX12_rollback_54 ⟨rfl, _, rfl, h⟩
set_option maxRecDepth 20000 in
theorem ctX12_rollback  {K : Int32 → ab_F → ab_F → Prop} {I A : ab_F} {p0 : Int32} (h : wX12_rollback K I A p0) : ab_Cl mX12_rollback 3 0 0 [.ref 0, .int p0] shM I A (ab_Px shM ab_no (ab_ri K)) := by
  refine ab_enter (ls := [some (.ref 0), some (.int p0), none]) (by decide +kernel) (Nat.le_of_ble_eq_true rfl) rfl (fun C => ?_)
  unfold wX12_rollback at h
  refine g_aload_n (n := 1) dX12_rollback_0 rfl rfl rfl ?_
  refine g_iload_n (n := 2) dX12_rollback_1 rfl rfl rfl ?_
  refine g_callV (n := 5) (as := [.int p0]) (bc' := 0) (bs' := 0) sM_0 vc_16 (ctX12_isNoProcess h) okX12_isNoProcess rfl w_2349 w_2351 w_71 w_112 dX12_rollback_2 rfl rfl (Nat.le_of_ble_eq_true rfl) (Nat.le_of_ble_eq_true rfl) (Nat.le_of_ble_eq_true rfl) (Nat.le_of_ble_eq_true rfl) rfl (fun E sh1 I1 A1 hp _ => hp.2.elim) (fun ro sh_ I_1 A_2 hp hle => ?_)
  obtain ⟨rfl, r_3, rfl, h⟩ := hp
  refine g_if_ne (n := 8) 53 dX12_rollback_5 (by decide) rfl (fun hc => ?_) (fun hc => ?_)
  · have h := h.1 hc
    refine g_iconst (n := 54) (v := (nI 0)) dX12_rollback_53 rfl rfl ?_
    exact g_iret rfl rfl dX12_rollback_54 ⟨rfl, _, rfl, h⟩
  · have h := h.2 hc
    refine g_aload_n (n := 9) dX12_rollback_8 rfl rfl rfl ?_
    refine g_aload_n (n := 10) dX12_rollback_9 rfl rfl rfl ?_
    refine g_getR (n := 13) (k := 0) dX12_rollback_10 sM_0 vc_16 (Nat.le_of_ble_eq_true rfl) rfl w_1994 rfl ?_
    refine g_bipush (n := 15) (v := (nI 26)) dX12_rollback_13 rfl rfl ?_
    refine g_iload_n (n := 16) dX12_rollback_15 rfl rfl rfl ?_
    refine g_iadd (n := 17) dX12_rollback_16 rfl ?_
    obtain ⟨j_4, hj, hl, h⟩ := h
    refine g_ialdJ (n := 18) (j := j_4) (x := (A_2 1 j_4)) dX12_rollback_17 sM_1 hj hl (by decide) rfl rfl ?_
    refine g_iconst (n := 19) (v := (-1 : Int32)) dX12_rollback_18 rfl rfl ?_
    refine g_icmp_ne (n := 22) 26 dX12_rollback_19 (by decide) rfl (fun hc => ?_) (fun hc => ?_)
    · have h := h.1 hc
      refine g_iconst (n := 27) (v := (nI 0)) dX12_rollback_26 rfl rfl ?_
      refine g_less (bc' := 0) (bs' := 0) (Nat.le_of_ble_eq_true rfl) (Nat.le_of_ble_eq_true rfl) ?_
      exact tjX12_rollback_27  _ _ _ _ h
    · have h := h.2 hc
      refine g_iconst (n := 23) (v := (nI 1)) dX12_rollback_22 rfl rfl ?_
      refine g_goto 27 dX12_rollback_23 (by decide) ?_
      refine g_less (bc' := 0) (bs' := 0) (Nat.le_of_ble_eq_true rfl) (Nat.le_of_ble_eq_true rfl) ?_
      exact tjX12_rollback_27  _ _ _ _ h
def wX12_isStuckOut (K : Int32 → ab_F → ab_F → Prop) (I A : ab_F) (p0 : Int32) : Prop := (∃ j_1 : Nat, ((nI 176) + p0) = nI j_1 ∧ j_1 < 608 ∧ ((¬ (A 1 j_1) = (nI 1) → K (nI 0) I A) ∧ ((A 1 j_1) = (nI 1) → wX12_nextFree (fun r_4 I_2 A_3 => ((¬ r_4 = (-1 : Int32) → K (nI 0) I_2 A_3) ∧ (r_4 = (-1 : Int32) → K (nI 1) I_2 A_3))) I A )))
set_option maxRecDepth 20000 in
theorem ctX12_isStuckOut  {K : Int32 → ab_F → ab_F → Prop} {I A : ab_F} {p0 : Int32} (h : wX12_isStuckOut K I A p0) : ab_Cl mX12_isStuckOut 3 0 0 [.ref 0, .int p0] shM I A (ab_Px shM ab_no (ab_ri K)) := by
  refine ab_enter (ls := [some (.ref 0), some (.int p0)]) (by decide +kernel) (Nat.le_of_ble_eq_true rfl) rfl (fun C => ?_)
  unfold wX12_isStuckOut at h
  refine g_aload_n (n := 1) dX12_isStuckOut_0 rfl rfl rfl ?_
  refine g_getR (n := 4) (k := 0) dX12_isStuckOut_1 sM_0 vc_16 (Nat.le_of_ble_eq_true rfl) rfl w_1994 rfl ?_
  refine g_sipush (n := 7) (v := (nI 176)) dX12_isStuckOut_4 rfl rfl ?_
  refine g_iload_n (n := 8) dX12_isStuckOut_7 rfl rfl rfl ?_
  refine g_iadd (n := 9) dX12_isStuckOut_8 rfl ?_
  obtain ⟨j_1, hj, hl, h⟩ := h
  refine g_ialdJ (n := 10) (j := j_1) (x := (A 1 j_1)) dX12_isStuckOut_9 sM_1 hj hl (by decide) rfl rfl ?_
  refine g_iconst (n := 11) (v := (nI 1)) dX12_isStuckOut_10 rfl rfl ?_
  refine g_icmp_ne (n := 14) 26 dX12_isStuckOut_11 (by decide) rfl (fun hc => ?_) (fun hc => ?_)
  · have h := h.1 hc
    refine g_iconst (n := 27) (v := (nI 0)) dX12_isStuckOut_26 rfl rfl ?_
    exact g_iret rfl rfl dX12_isStuckOut_27 ⟨rfl, _, rfl, h⟩
  · have h := h.2 hc
    refine g_aload_n (n := 15) dX12_isStuckOut_14 rfl rfl rfl ?_
    refine g_callV (n := 18) (as := []) (bc' := 0) (bs' := 0) sM_0 vc_16 (ctX12_nextFree h) okX12_nextFree rfl w_2207 w_2209 w_45 w_112 dX12_isStuckOut_15 rfl rfl (Nat.le_of_ble_eq_true rfl) (Nat.le_of_ble_eq_true rfl) (Nat.le_of_ble_eq_true rfl) (Nat.le_of_ble_eq_true rfl) rfl (fun E sh1 I1 A1 hp _ => hp.2.elim) (fun ro sh_ I_2 A_3 hp hle => ?_)
    obtain ⟨rfl, r_4, rfl, h⟩ := hp
    refine g_iconst (n := 19) (v := (-1 : Int32)) dX12_isStuckOut_18 rfl rfl ?_
    refine g_icmp_ne (n := 22) 26 dX12_isStuckOut_19 (by decide) rfl (fun hc => ?_) (fun hc => ?_)
    · have h := h.1 hc
      refine g_iconst (n := 27) (v := (nI 0)) dX12_isStuckOut_26 rfl rfl ?_
      exact g_iret rfl rfl dX12_isStuckOut_27 ⟨rfl, _, rfl, h⟩
    · have h := h.2 hc
      refine g_iconst (n := 23) (v := (nI 1)) dX12_isStuckOut_22 rfl rfl ?_
      refine g_goto 27 dX12_isStuckOut_23 (by decide) ?_
      exact g_iret rfl rfl dX12_isStuckOut_27 ⟨rfl, _, rfl, h⟩
def wjX12_evictPage_37 (K : Int32 → ab_F → ab_F → Prop) (x3 : Int32) (s0 : Int32) (I A : ab_F) : Prop := wX12_fails (fun r_10 I_8 A_9 => ((¬ r_10 = 0 → K (nI 0) I_8 A_9) ∧ (r_10 = 0 → wX12_isStuckOut (fun r_13 I_11 A_12 => wX12_fails (fun r_16 I_14 A_15 => ((r_16 = 0 → wX12_remember (fun I_17 A_18 => wX12_evict (fun I_19 A_20 => (∃ j_21 : Nat, ((nI 80) + x3) = nI j_21 ∧ j_21 < 608 ∧ K (A_20 1 j_21) I_19 A_20)) I_17 A_18 x3) I_14 A_15 ) ∧ (¬ r_16 = 0 → K (nI 0) I_14 A_15))) I_11 A_12 r_13 (nI 3)) I_8 A_9 x3))) I A s0 (nI 2)
def wX12_evictPage (K : Int32 → ab_F → ab_F → Prop) (I A : ab_F) (p0 : Int32) (p1 : Int32) : Prop := wX12_isNoPage (fun r_3 I_1 A_2 => ((r_3 = 0 → wX12_pageOf (fun r_6 I_4 A_5 => (∃ j_7 : Nat, ((nI 128) + r_6) = nI j_7 ∧ j_7 < 608 ∧ ((¬ (A_5 1 j_7) = (-1 : Int32) → wjX12_evictPage_37 K r_6 (nI 0) I_4 A_5) ∧ ((A_5 1 j_7) = (-1 : Int32) → wjX12_evictPage_37 K r_6 (nI 1) I_4 A_5)))) I_1 A_2 p0 p1) ∧ (¬ r_3 = 0 → K (nI 0) I_1 A_2))) I A p0 p1
set_option maxRecDepth 20000 in
theorem tjX12_evictPage_37 {C : ab_X}  {K : Int32 → ab_F → ab_F → Prop} (x3 : Int32) (s0 : Int32) (I A : ab_F) (h : wjX12_evictPage_37 K x3 s0 I A) : ab_G mX12_evictPage 5 C (ab_Px shM ab_no (ab_ri K)) 37 [some (.ref 0), none, none, some (.int x3)] [.int s0, .ref 0] shM I A 0 0 := by
  unfold wjX12_evictPage_37 at h
  refine g_iconst (n := 38) (v := (nI 2)) dX12_evictPage_37 rfl rfl ?_
  refine g_callV (n := 41) (as := [.int s0, .int (nI 2)]) (bc' := 0) (bs' := 0) sM_0 vc_16 (ctX12_fails h) okX12_fails rfl w_2189 w_2191 w_42 w_112 dX12_evictPage_38 rfl rfl (Nat.le_of_ble_eq_true rfl) (Nat.le_of_ble_eq_true rfl) (Nat.le_of_ble_eq_true rfl) (Nat.le_of_ble_eq_true rfl) rfl (fun E sh1 I1 A1 hp _ => hp.2.elim) (fun ro sh_ I_8 A_9 hp hle => ?_)
  obtain ⟨rfl, r_10, rfl, h⟩ := hp
  refine g_if_ne (n := 44) 57 dX12_evictPage_41 (by decide) rfl (fun hc => ?_) (fun hc => ?_)
  · have h := h.1 hc
    refine g_iconst (n := 58) (v := (nI 0)) dX12_evictPage_57 rfl rfl ?_
    exact g_iret rfl rfl dX12_evictPage_58 ⟨rfl, _, rfl, h⟩
  · have h := h.2 hc
    refine g_aload_n (n := 45) dX12_evictPage_44 rfl rfl rfl ?_
    refine g_aload_n (n := 46) dX12_evictPage_45 rfl rfl rfl ?_
    refine g_iload_n (n := 47) dX12_evictPage_46 rfl rfl rfl ?_
    refine g_callV (n := 50) (as := [.int x3]) (bc' := 0) (bs' := 0) sM_0 vc_16 (ctX12_isStuckOut h) okX12_isStuckOut rfl w_2361 w_2363 w_73 w_112 dX12_evictPage_47 rfl rfl (Nat.le_of_ble_eq_true rfl) (Nat.le_of_ble_eq_true rfl) (Nat.le_of_ble_eq_true rfl) (Nat.le_of_ble_eq_true rfl) rfl (fun E sh1 I1 A1 hp _ => hp.2.elim) (fun ro sh_ I_11 A_12 hp hle => ?_)
    obtain ⟨rfl, r_13, rfl, h⟩ := hp
    refine g_iconst (n := 51) (v := (nI 3)) dX12_evictPage_50 rfl rfl ?_
    refine g_callV (n := 54) (as := [.int r_13, .int (nI 3)]) (bc' := 0) (bs' := 0) sM_0 vc_16 (ctX12_fails h) okX12_fails rfl w_2189 w_2191 w_42 w_112 dX12_evictPage_51 rfl rfl (Nat.le_of_ble_eq_true rfl) (Nat.le_of_ble_eq_true rfl) (Nat.le_of_ble_eq_true rfl) (Nat.le_of_ble_eq_true rfl) rfl (fun E sh1 I1 A1 hp _ => hp.2.elim) (fun ro sh_ I_14 A_15 hp hle => ?_)
    obtain ⟨rfl, r_16, rfl, h⟩ := hp
    refine g_if_eq (n := 57) 59 dX12_evictPage_54 (by decide) rfl (fun hc => ?_) (fun hc => ?_)
    · have h := h.1 hc
      refine g_aload_n (n := 60) dX12_evictPage_59 rfl rfl rfl ?_
      refine g_callV (n := 63) (as := []) (bc' := 0) (bs' := 0) sM_0 vc_16 (ctX12_remember h) okX12_remember rfl w_2235 w_2237 w_52 w_112 dX12_evictPage_60 rfl rfl (Nat.le_of_ble_eq_true rfl) (Nat.le_of_ble_eq_true rfl) (Nat.le_of_ble_eq_true rfl) (Nat.le_of_ble_eq_true rfl) rfl (fun E sh1 I1 A1 hp _ => hp.2.elim) (fun ro sh_ I_17 A_18 hp hle => ?_)
      obtain ⟨rfl, rfl, h⟩ := hp
      refine g_aload_n (n := 64) dX12_evictPage_63 rfl rfl rfl ?_
      refine g_iload_n (n := 65) dX12_evictPage_64 rfl rfl rfl ?_
      refine g_callV (n := 68) (as := [.int x3]) (bc' := 0) (bs' := 0) sM_0 vc_16 (ctX12_evict h) okX12_evict rfl w_2251 w_2253 w_56 w_112 dX12_evictPage_65 rfl rfl (Nat.le_of_ble_eq_true rfl) (Nat.le_of_ble_eq_true rfl) (Nat.le_of_ble_eq_true rfl) (Nat.le_of_ble_eq_true rfl) rfl (fun E sh1 I1 A1 hp _ => hp.2.elim) (fun ro sh_ I_19 A_20 hp hle => ?_)
      obtain ⟨rfl, rfl, h⟩ := hp
      refine g_aload_n (n := 69) dX12_evictPage_68 rfl rfl rfl ?_
      refine g_getR (n := 72) (k := 0) dX12_evictPage_69 sM_0 vc_16 (Nat.le_of_ble_eq_true rfl) rfl w_1994 rfl ?_
      refine g_bipush (n := 74) (v := (nI 80)) dX12_evictPage_72 rfl rfl ?_
      refine g_iload_n (n := 75) dX12_evictPage_74 rfl rfl rfl ?_
      refine g_iadd (n := 76) dX12_evictPage_75 rfl ?_
      obtain ⟨j_21, hj, hl, h⟩ := h
      refine g_ialdJ (n := 77) (j := j_21) (x := (A_20 1 j_21)) dX12_evictPage_76 sM_1 hj hl (by decide) rfl rfl ?_
      exact g_iret rfl rfl dX12_evictPage_77 ⟨rfl, _, rfl, h⟩
    · have h := h.2 hc
      refine g_iconst (n := 58) (v := (nI 0)) dX12_evictPage_57 rfl rfl ?_
      exact g_iret rfl rfl dX12_evictPage_58 ⟨rfl, _, rfl, h⟩
set_option maxRecDepth 20000 in
theorem ctX12_evictPage  {K : Int32 → ab_F → ab_F → Prop} {I A : ab_F} {p0 : Int32} {p1 : Int32} (h : wX12_evictPage K I A p0 p1) : ab_Cl mX12_evictPage 5 0 0 [.ref 0, .int p0, .int p1] shM I A (ab_Px shM ab_no (ab_ri K)) := by
  refine ab_enter (ls := [some (.ref 0), some (.int p0), some (.int p1), none]) (by decide +kernel) (Nat.le_of_ble_eq_true rfl) rfl (fun C => ?_)
  unfold wX12_evictPage at h
  refine g_aload_n (n := 1) dX12_evictPage_0 rfl rfl rfl ?_
  refine g_iload_n (n := 2) dX12_evictPage_1 rfl rfl rfl ?_
  refine g_iload_n (n := 3) dX12_evictPage_2 rfl rfl rfl ?_
  refine g_callV (n := 6) (as := [.int p0, .int p1]) (bc' := 0) (bs' := 0) sM_0 vc_16 (ctX12_isNoPage h) okX12_isNoPage rfl w_2177 w_2179 w_39 w_112 dX12_evictPage_3 rfl rfl (Nat.le_of_ble_eq_true rfl) (Nat.le_of_ble_eq_true rfl) (Nat.le_of_ble_eq_true rfl) (Nat.le_of_ble_eq_true rfl) rfl (fun E sh1 I1 A1 hp _ => hp.2.elim) (fun ro sh_ I_1 A_2 hp hle => ?_)
  obtain ⟨rfl, r_3, rfl, h⟩ := hp
  refine g_if_eq (n := 9) 11 dX12_evictPage_6 (by decide) rfl (fun hc => ?_) (fun hc => ?_)
  · have h := h.1 hc
    refine g_iload_n (n := 12) dX12_evictPage_11 rfl rfl rfl ?_
    refine g_iload_n (n := 13) dX12_evictPage_12 rfl rfl rfl ?_
    refine g_callS (n := 16) (as := [.int p0, .int p1]) (bc' := 0) (bs' := 0) (ctX12_pageOf h) okX12_pageOf w_2193 w_2194 dX12_evictPage_13 rfl rfl (Nat.le_of_ble_eq_true rfl) (Nat.le_of_ble_eq_true rfl) (Nat.le_of_ble_eq_true rfl) (Nat.le_of_ble_eq_true rfl) rfl (fun E sh1 I1 A1 hp _ => hp.2.elim) (fun ro sh_ I_4 A_5 hp hle => ?_)
    obtain ⟨rfl, r_6, rfl, h⟩ := hp
    refine g_istore_n (n := 17) (ls' := [some (.ref 0), some (.int p0), some (.int p1), some (.int r_6)]) dX12_evictPage_16 rfl rfl (Nat.le_of_ble_eq_true rfl) (Nat.le_of_ble_eq_true rfl) rfl rfl ?_
    refine g_aload_n (n := 18) dX12_evictPage_17 rfl rfl rfl ?_
    refine g_aload_n (n := 19) dX12_evictPage_18 rfl rfl rfl ?_
    refine g_getR (n := 22) (k := 0) dX12_evictPage_19 sM_0 vc_16 (Nat.le_of_ble_eq_true rfl) rfl w_1994 rfl ?_
    refine g_sipush (n := 25) (v := (nI 128)) dX12_evictPage_22 rfl rfl ?_
    refine g_iload_n (n := 26) dX12_evictPage_25 rfl rfl rfl ?_
    refine g_iadd (n := 27) dX12_evictPage_26 rfl ?_
    obtain ⟨j_7, hj, hl, h⟩ := h
    refine g_ialdJ (n := 28) (j := j_7) (x := (A_5 1 j_7)) dX12_evictPage_27 sM_1 hj hl (by decide) rfl rfl ?_
    refine g_iconst (n := 29) (v := (-1 : Int32)) dX12_evictPage_28 rfl rfl ?_
    refine g_icmp_ne (n := 32) 36 dX12_evictPage_29 (by decide) rfl (fun hc => ?_) (fun hc => ?_)
    · have h := h.1 hc
      refine g_iconst (n := 37) (v := (nI 0)) dX12_evictPage_36 rfl rfl ?_
      refine g_forget (ls' := [some (.ref 0), none, none, some (.int r_6)]) (ab_fg rfl) ?_
      refine g_less (bc' := 0) (bs' := 0) (Nat.le_of_ble_eq_true rfl) (Nat.le_of_ble_eq_true rfl) ?_
      exact tjX12_evictPage_37  _ _ _ _ h
    · have h := h.2 hc
      refine g_iconst (n := 33) (v := (nI 1)) dX12_evictPage_32 rfl rfl ?_
      refine g_goto 37 dX12_evictPage_33 (by decide) ?_
      refine g_forget (ls' := [some (.ref 0), none, none, some (.int r_6)]) (ab_fg rfl) ?_
      refine g_less (bc' := 0) (bs' := 0) (Nat.le_of_ble_eq_true rfl) (Nat.le_of_ble_eq_true rfl) ?_
      exact tjX12_evictPage_37  _ _ _ _ h
  · have h := h.2 hc
    refine g_iconst (n := 10) (v := (nI 0)) dX12_evictPage_9 rfl rfl ?_
    exact g_iret rfl rfl dX12_evictPage_10 ⟨rfl, _, rfl, h⟩
def wX12_operation (K : Int32 → ab_F → ab_F → Prop) (I A : ab_F)  : Prop := wX12_isWord (fun r_3 I_1 A_2 => ((r_3 = 0 → wX12_isWord (fun r_6 I_4 A_5 => ((r_6 = 0 → wX12_isWord (fun r_9 I_7 A_8 => ((r_9 = 0 → wX12_isWord (fun r_12 I_10 A_11 => ((r_12 = 0 → wX12_isWord (fun r_15 I_13 A_14 => ((r_15 = 0 → wX12_isWord (fun r_18 I_16 A_17 => ((r_18 = 0 → wX12_isWord (fun r_21 I_19 A_20 => ((r_21 = 0 → wX12_isWord (fun r_24 I_22 A_23 => ((r_24 = 0 → wX12_isWord (fun r_27 I_25 A_26 => ((r_27 = 0 → K (-1 : Int32) I_25 A_26) ∧ (¬ r_27 = 0 → K (nI 8) I_25 A_26))) I_22 A_23 58) ∧ (¬ r_24 = 0 → K (nI 7) I_22 A_23))) I_19 A_20 57) ∧ (¬ r_21 = 0 → K (nI 6) I_19 A_20))) I_16 A_17 56) ∧ (¬ r_18 = 0 → K (nI 5) I_16 A_17))) I_13 A_14 55) ∧ (¬ r_15 = 0 → K (nI 4) I_13 A_14))) I_10 A_11 54) ∧ (¬ r_12 = 0 → K (nI 3) I_10 A_11))) I_7 A_8 53) ∧ (¬ r_9 = 0 → K (nI 2) I_7 A_8))) I_4 A_5 52) ∧ (¬ r_6 = 0 → K (nI 1) I_4 A_5))) I_1 A_2 51) ∧ (¬ r_3 = 0 → K (nI 0) I_1 A_2))) I A 50
set_option maxRecDepth 20000 in
theorem ctX12_operation  {K : Int32 → ab_F → ab_F → Prop} {I A : ab_F}  (h : wX12_operation K I A ) : ab_Cl mX12_operation 7 0 0 [.ref 0] shM I A (ab_Px shM ab_no (ab_ri K)) := by
  refine ab_enter (ls := [some (.ref 0)]) (by decide +kernel) (Nat.le_of_ble_eq_true rfl) rfl (fun C => ?_)
  unfold wX12_operation at h
  refine g_aload_n (n := 1) dX12_operation_0 rfl rfl rfl ?_
  refine g_ldcwS (n := 4) (i := 50) dX12_operation_1 rfl rfl ?_
  refine g_callV (n := 7) (as := [.retAddr (2 * 50)]) (bc' := 0) (bs' := 0) sM_0 vc_16 (ctX12_isWord h) okX12_isWord rfl w_2112 w_2114 w_32 w_112 dX12_operation_4 rfl rfl (Nat.le_of_ble_eq_true rfl) (Nat.le_of_ble_eq_true rfl) (Nat.le_of_ble_eq_true rfl) (Nat.le_of_ble_eq_true rfl) rfl (fun E sh1 I1 A1 hp _ => hp.2.elim) (fun ro sh_ I_1 A_2 hp hle => ?_)
  obtain ⟨rfl, r_3, rfl, h⟩ := hp
  refine g_if_eq (n := 10) 12 dX12_operation_7 (by decide) rfl (fun hc => ?_) (fun hc => ?_)
  · have h := h.1 hc
    refine g_aload_n (n := 13) dX12_operation_12 rfl rfl rfl ?_
    refine g_ldcwS (n := 16) (i := 51) dX12_operation_13 rfl rfl ?_
    refine g_callV (n := 19) (as := [.retAddr (2 * 51)]) (bc' := 0) (bs' := 0) sM_0 vc_16 (ctX12_isWord h) okX12_isWord rfl w_2112 w_2114 w_32 w_112 dX12_operation_16 rfl rfl (Nat.le_of_ble_eq_true rfl) (Nat.le_of_ble_eq_true rfl) (Nat.le_of_ble_eq_true rfl) (Nat.le_of_ble_eq_true rfl) rfl (fun E sh1 I1 A1 hp _ => hp.2.elim) (fun ro sh_ I_4 A_5 hp hle => ?_)
    obtain ⟨rfl, r_6, rfl, h⟩ := hp
    refine g_if_eq (n := 22) 24 dX12_operation_19 (by decide) rfl (fun hc => ?_) (fun hc => ?_)
    · have h := h.1 hc
      refine g_aload_n (n := 25) dX12_operation_24 rfl rfl rfl ?_
      refine g_ldcwS (n := 28) (i := 52) dX12_operation_25 rfl rfl ?_
      refine g_callV (n := 31) (as := [.retAddr (2 * 52)]) (bc' := 0) (bs' := 0) sM_0 vc_16 (ctX12_isWord h) okX12_isWord rfl w_2112 w_2114 w_32 w_112 dX12_operation_28 rfl rfl (Nat.le_of_ble_eq_true rfl) (Nat.le_of_ble_eq_true rfl) (Nat.le_of_ble_eq_true rfl) (Nat.le_of_ble_eq_true rfl) rfl (fun E sh1 I1 A1 hp _ => hp.2.elim) (fun ro sh_ I_7 A_8 hp hle => ?_)
      obtain ⟨rfl, r_9, rfl, h⟩ := hp
      refine g_if_eq (n := 34) 36 dX12_operation_31 (by decide) rfl (fun hc => ?_) (fun hc => ?_)
      · have h := h.1 hc
        refine g_aload_n (n := 37) dX12_operation_36 rfl rfl rfl ?_
        refine g_ldcwS (n := 40) (i := 53) dX12_operation_37 rfl rfl ?_
        refine g_callV (n := 43) (as := [.retAddr (2 * 53)]) (bc' := 0) (bs' := 0) sM_0 vc_16 (ctX12_isWord h) okX12_isWord rfl w_2112 w_2114 w_32 w_112 dX12_operation_40 rfl rfl (Nat.le_of_ble_eq_true rfl) (Nat.le_of_ble_eq_true rfl) (Nat.le_of_ble_eq_true rfl) (Nat.le_of_ble_eq_true rfl) rfl (fun E sh1 I1 A1 hp _ => hp.2.elim) (fun ro sh_ I_10 A_11 hp hle => ?_)
        obtain ⟨rfl, r_12, rfl, h⟩ := hp
        refine g_if_eq (n := 46) 48 dX12_operation_43 (by decide) rfl (fun hc => ?_) (fun hc => ?_)
        · have h := h.1 hc
          refine g_aload_n (n := 49) dX12_operation_48 rfl rfl rfl ?_
          refine g_ldcwS (n := 52) (i := 54) dX12_operation_49 rfl rfl ?_
          refine g_callV (n := 55) (as := [.retAddr (2 * 54)]) (bc' := 0) (bs' := 0) sM_0 vc_16 (ctX12_isWord h) okX12_isWord rfl w_2112 w_2114 w_32 w_112 dX12_operation_52 rfl rfl (Nat.le_of_ble_eq_true rfl) (Nat.le_of_ble_eq_true rfl) (Nat.le_of_ble_eq_true rfl) (Nat.le_of_ble_eq_true rfl) rfl (fun E sh1 I1 A1 hp _ => hp.2.elim) (fun ro sh_ I_13 A_14 hp hle => ?_)
          obtain ⟨rfl, r_15, rfl, h⟩ := hp
          refine g_if_eq (n := 58) 60 dX12_operation_55 (by decide) rfl (fun hc => ?_) (fun hc => ?_)
          · have h := h.1 hc
            refine g_aload_n (n := 61) dX12_operation_60 rfl rfl rfl ?_
            refine g_ldcwS (n := 64) (i := 55) dX12_operation_61 rfl rfl ?_
            refine g_callV (n := 67) (as := [.retAddr (2 * 55)]) (bc' := 0) (bs' := 0) sM_0 vc_16 (ctX12_isWord h) okX12_isWord rfl w_2112 w_2114 w_32 w_112 dX12_operation_64 rfl rfl (Nat.le_of_ble_eq_true rfl) (Nat.le_of_ble_eq_true rfl) (Nat.le_of_ble_eq_true rfl) (Nat.le_of_ble_eq_true rfl) rfl (fun E sh1 I1 A1 hp _ => hp.2.elim) (fun ro sh_ I_16 A_17 hp hle => ?_)
            obtain ⟨rfl, r_18, rfl, h⟩ := hp
            refine g_if_eq (n := 70) 72 dX12_operation_67 (by decide) rfl (fun hc => ?_) (fun hc => ?_)
            · have h := h.1 hc
              refine g_aload_n (n := 73) dX12_operation_72 rfl rfl rfl ?_
              refine g_ldcwS (n := 76) (i := 56) dX12_operation_73 rfl rfl ?_
              refine g_callV (n := 79) (as := [.retAddr (2 * 56)]) (bc' := 0) (bs' := 0) sM_0 vc_16 (ctX12_isWord h) okX12_isWord rfl w_2112 w_2114 w_32 w_112 dX12_operation_76 rfl rfl (Nat.le_of_ble_eq_true rfl) (Nat.le_of_ble_eq_true rfl) (Nat.le_of_ble_eq_true rfl) (Nat.le_of_ble_eq_true rfl) rfl (fun E sh1 I1 A1 hp _ => hp.2.elim) (fun ro sh_ I_19 A_20 hp hle => ?_)
              obtain ⟨rfl, r_21, rfl, h⟩ := hp
              refine g_if_eq (n := 82) 85 dX12_operation_79 (by decide) rfl (fun hc => ?_) (fun hc => ?_)
              · have h := h.1 hc
                refine g_aload_n (n := 86) dX12_operation_85 rfl rfl rfl ?_
                refine g_ldcwS (n := 89) (i := 57) dX12_operation_86 rfl rfl ?_
                refine g_callV (n := 92) (as := [.retAddr (2 * 57)]) (bc' := 0) (bs' := 0) sM_0 vc_16 (ctX12_isWord h) okX12_isWord rfl w_2112 w_2114 w_32 w_112 dX12_operation_89 rfl rfl (Nat.le_of_ble_eq_true rfl) (Nat.le_of_ble_eq_true rfl) (Nat.le_of_ble_eq_true rfl) (Nat.le_of_ble_eq_true rfl) rfl (fun E sh1 I1 A1 hp _ => hp.2.elim) (fun ro sh_ I_22 A_23 hp hle => ?_)
                obtain ⟨rfl, r_24, rfl, h⟩ := hp
                refine g_if_eq (n := 95) 100 dX12_operation_92 (by decide) rfl (fun hc => ?_) (fun hc => ?_)
                · have h := h.1 hc
                  refine g_aload_n (n := 101) dX12_operation_100 rfl rfl rfl ?_
                  refine g_ldcwS (n := 104) (i := 58) dX12_operation_101 rfl rfl ?_
                  refine g_callV (n := 107) (as := [.retAddr (2 * 58)]) (bc' := 0) (bs' := 0) sM_0 vc_16 (ctX12_isWord h) okX12_isWord rfl w_2112 w_2114 w_32 w_112 dX12_operation_104 rfl rfl (Nat.le_of_ble_eq_true rfl) (Nat.le_of_ble_eq_true rfl) (Nat.le_of_ble_eq_true rfl) (Nat.le_of_ble_eq_true rfl) rfl (fun E sh1 I1 A1 hp _ => hp.2.elim) (fun ro sh_ I_25 A_26 hp hle => ?_)
                  obtain ⟨rfl, r_27, rfl, h⟩ := hp
                  refine g_if_eq (n := 110) 115 dX12_operation_107 (by decide) rfl (fun hc => ?_) (fun hc => ?_)
                  · have h := h.1 hc
                    refine g_iconst (n := 116) (v := (-1 : Int32)) dX12_operation_115 rfl rfl ?_
                    exact g_iret rfl rfl dX12_operation_116 ⟨rfl, _, rfl, h⟩
                  · have h := h.2 hc
                    refine g_bipush (n := 112) (v := (nI 8)) dX12_operation_110 rfl rfl ?_
                    refine g_goto 116 dX12_operation_112 (by decide) ?_
                    exact g_iret rfl rfl dX12_operation_116 ⟨rfl, _, rfl, h⟩
                · have h := h.2 hc
                  refine g_bipush (n := 97) (v := (nI 7)) dX12_operation_95 rfl rfl ?_
                  refine g_goto 116 dX12_operation_97 (by decide) ?_
                  exact g_iret rfl rfl dX12_operation_116 ⟨rfl, _, rfl, h⟩
              · have h := h.2 hc
                refine g_bipush (n := 84) (v := (nI 6)) dX12_operation_82 rfl rfl ?_
                exact g_iret rfl rfl dX12_operation_84 ⟨rfl, _, rfl, h⟩
            · have h := h.2 hc
              refine g_iconst (n := 71) (v := (nI 5)) dX12_operation_70 rfl rfl ?_
              exact g_iret rfl rfl dX12_operation_71 ⟨rfl, _, rfl, h⟩
          · have h := h.2 hc
            refine g_iconst (n := 59) (v := (nI 4)) dX12_operation_58 rfl rfl ?_
            exact g_iret rfl rfl dX12_operation_59 ⟨rfl, _, rfl, h⟩
        · have h := h.2 hc
          refine g_iconst (n := 47) (v := (nI 3)) dX12_operation_46 rfl rfl ?_
          exact g_iret rfl rfl dX12_operation_47 ⟨rfl, _, rfl, h⟩
      · have h := h.2 hc
        refine g_iconst (n := 35) (v := (nI 2)) dX12_operation_34 rfl rfl ?_
        exact g_iret rfl rfl dX12_operation_35 ⟨rfl, _, rfl, h⟩
    · have h := h.2 hc
      refine g_iconst (n := 23) (v := (nI 1)) dX12_operation_22 rfl rfl ?_
      exact g_iret rfl rfl dX12_operation_23 ⟨rfl, _, rfl, h⟩
  · have h := h.2 hc
    refine g_iconst (n := 11) (v := (nI 0)) dX12_operation_10 rfl rfl ?_
    exact g_iret rfl rfl dX12_operation_11 ⟨rfl, _, rfl, h⟩
def wX12_numbersOf (K : Int32 → ab_F → ab_F → Prop) (I A : ab_F) (p0 : Int32) : Prop := (((p0).toInt = 0 → K (nI 2) I A) ∧ ((p0).toInt = 1 → K (nI 3) I A) ∧ ((p0).toInt = 2 → K (nI 1) I A) ∧ ((p0).toInt = 3 → K (nI 1) I A) ∧ ((p0).toInt = 4 → K (nI 0) I A) ∧ ((p0).toInt = 5 → K (nI 0) I A) ∧ ((p0).toInt = 6 → K (nI 0) I A) ∧ ((p0).toInt = 7 → K (nI 1) I A) ∧ ((p0).toInt = 8 → K (nI 2) I A) ∧ ((p0).toInt < 0 ∨ 8 < (p0).toInt → K (nI 0) I A))
set_option maxRecDepth 20000 in
theorem ctX12_numbersOf  {K : Int32 → ab_F → ab_F → Prop} {I A : ab_F} {p0 : Int32} (h : wX12_numbersOf K I A p0) : ab_Cl mX12_numbersOf 0 0 0 [.int p0] shM I A (ab_Px shM ab_no (ab_ri K)) := by
  refine ab_enter (ls := [some (.int p0)]) (by decide +kernel) (Nat.le_of_ble_eq_true rfl) rfl (fun C => ?_)
  unfold wX12_numbersOf at h
  refine g_iload_n (n := 1) dX12_numbersOf_0 rfl rfl rfl ?_
  by_cases hc0 : (p0).toInt = 0
  · have h := h.1 hc0
    refine g_tableIn 54 dX12_numbersOf_1 (by rw [hc0]; decide) (by rw [hc0]; decide) (by rw [hc0]; rfl) (by decide) ?_
    refine g_iconst (n := 55) (v := (nI 2)) dX12_numbersOf_54 rfl rfl ?_
    exact g_iret rfl rfl dX12_numbersOf_55 ⟨rfl, _, rfl, h⟩
  by_cases hc1 : (p0).toInt = 1
  · have h := h.2.1 hc1
    refine g_tableIn 52 dX12_numbersOf_1 (by rw [hc1]; decide) (by rw [hc1]; decide) (by rw [hc1]; rfl) (by decide) ?_
    refine g_iconst (n := 53) (v := (nI 3)) dX12_numbersOf_52 rfl rfl ?_
    exact g_iret rfl rfl dX12_numbersOf_53 ⟨rfl, _, rfl, h⟩
  by_cases hc2 : (p0).toInt = 2
  · have h := h.2.2.1 hc2
    refine g_tableIn 56 dX12_numbersOf_1 (by rw [hc2]; decide) (by rw [hc2]; decide) (by rw [hc2]; rfl) (by decide) ?_
    refine g_iconst (n := 57) (v := (nI 1)) dX12_numbersOf_56 rfl rfl ?_
    exact g_iret rfl rfl dX12_numbersOf_57 ⟨rfl, _, rfl, h⟩
  by_cases hc3 : (p0).toInt = 3
  · have h := h.2.2.2.1 hc3
    refine g_tableIn 56 dX12_numbersOf_1 (by rw [hc3]; decide) (by rw [hc3]; decide) (by rw [hc3]; rfl) (by decide) ?_
    refine g_iconst (n := 57) (v := (nI 1)) dX12_numbersOf_56 rfl rfl ?_
    exact g_iret rfl rfl dX12_numbersOf_57 ⟨rfl, _, rfl, h⟩
  by_cases hc4 : (p0).toInt = 4
  · have h := h.2.2.2.2.1 hc4
    refine g_tableIn 58 dX12_numbersOf_1 (by rw [hc4]; decide) (by rw [hc4]; decide) (by rw [hc4]; rfl) (by decide) ?_
    refine g_iconst (n := 59) (v := (nI 0)) dX12_numbersOf_58 rfl rfl ?_
    exact g_iret rfl rfl dX12_numbersOf_59 ⟨rfl, _, rfl, h⟩
  by_cases hc5 : (p0).toInt = 5
  · have h := h.2.2.2.2.2.1 hc5
    refine g_tableIn 58 dX12_numbersOf_1 (by rw [hc5]; decide) (by rw [hc5]; decide) (by rw [hc5]; rfl) (by decide) ?_
    refine g_iconst (n := 59) (v := (nI 0)) dX12_numbersOf_58 rfl rfl ?_
    exact g_iret rfl rfl dX12_numbersOf_59 ⟨rfl, _, rfl, h⟩
  by_cases hc6 : (p0).toInt = 6
  · have h := h.2.2.2.2.2.2.1 hc6
    refine g_tableIn 58 dX12_numbersOf_1 (by rw [hc6]; decide) (by rw [hc6]; decide) (by rw [hc6]; rfl) (by decide) ?_
    refine g_iconst (n := 59) (v := (nI 0)) dX12_numbersOf_58 rfl rfl ?_
    exact g_iret rfl rfl dX12_numbersOf_59 ⟨rfl, _, rfl, h⟩
  by_cases hc7 : (p0).toInt = 7
  · have h := h.2.2.2.2.2.2.2.1 hc7
    refine g_tableIn 56 dX12_numbersOf_1 (by rw [hc7]; decide) (by rw [hc7]; decide) (by rw [hc7]; rfl) (by decide) ?_
    refine g_iconst (n := 57) (v := (nI 1)) dX12_numbersOf_56 rfl rfl ?_
    exact g_iret rfl rfl dX12_numbersOf_57 ⟨rfl, _, rfl, h⟩
  by_cases hc8 : (p0).toInt = 8
  · have h := h.2.2.2.2.2.2.2.2.1 hc8
    refine g_tableIn 54 dX12_numbersOf_1 (by rw [hc8]; decide) (by rw [hc8]; decide) (by rw [hc8]; rfl) (by decide) ?_
    refine g_iconst (n := 55) (v := (nI 2)) dX12_numbersOf_54 rfl rfl ?_
    exact g_iret rfl rfl dX12_numbersOf_55 ⟨rfl, _, rfl, h⟩
  have hc : (p0).toInt < 0 ∨ 8 < (p0).toInt := by omega
  have h := h.2.2.2.2.2.2.2.2.2 hc
  refine g_tableOut 58 dX12_numbersOf_1 hc (by decide) ?_
  refine g_iconst (n := 59) (v := (nI 0)) dX12_numbersOf_58 rfl rfl ?_
  exact g_iret rfl rfl dX12_numbersOf_59 ⟨rfl, _, rfl, h⟩
def wX12_doesAccess (K : Int32 → ab_F → ab_F → Prop) (I A : ab_F) (p0 : Int32) : Prop := wX12_isPage (fun r_3 I_1 A_2 => ((¬ r_3 = 0 → wX12_pageOf (fun r_6 I_4 A_5 => wX12_isStuck (fun r_9 I_7 A_8 => ((r_9 = 0 → ((p0 = 0 → wX12_access (fun I_10 A_11 => K (nI 1) I_10 A_11) I_7 A_8 r_6) ∧ (¬ p0 = 0 → wX12_write (fun I_12 A_13 => K (nI 1) I_12 A_13) I_7 A_8 r_6 (A_8 6 2)))) ∧ (¬ r_9 = 0 → K (nI 0) I_7 A_8))) I_4 A_5 r_6 p0) I_1 A_2 (A_2 6 0) (A_2 6 1)) ∧ (r_3 = 0 → K (nI 0) I_1 A_2))) I A (A 6 0) (A 6 1)
set_option maxRecDepth 20000 in
theorem ctX12_doesAccess  {K : Int32 → ab_F → ab_F → Prop} {I A : ab_F} {p0 : Int32} (h : wX12_doesAccess K I A p0) : ab_Cl mX12_doesAccess 7 0 0 [.ref 0, .int p0] shM I A (ab_Px shM ab_no (ab_ri K)) := by
  refine ab_enter (ls := [some (.ref 0), some (.int p0), none]) (by decide +kernel) (Nat.le_of_ble_eq_true rfl) rfl (fun C => ?_)
  unfold wX12_doesAccess at h
  refine g_aload_n (n := 1) dX12_doesAccess_0 rfl rfl rfl ?_
  refine g_aload_n (n := 2) dX12_doesAccess_1 rfl rfl rfl ?_
  refine g_getR (n := 5) (k := 13) dX12_doesAccess_2 sM_0 vc_16 (Nat.le_of_ble_eq_true rfl) rfl w_2007 rfl ?_
  refine g_iconst (n := 6) (v := (nI 0)) dX12_doesAccess_5 rfl rfl ?_
  refine g_ialdJ (n := 7) (j := 0) (x := (A 6 0)) dX12_doesAccess_6 sM_6 rfl (Nat.le_of_ble_eq_true rfl) (by decide) rfl rfl ?_
  refine g_aload_n (n := 8) dX12_doesAccess_7 rfl rfl rfl ?_
  refine g_getR (n := 11) (k := 13) dX12_doesAccess_8 sM_0 vc_16 (Nat.le_of_ble_eq_true rfl) rfl w_2007 rfl ?_
  refine g_iconst (n := 12) (v := (nI 1)) dX12_doesAccess_11 rfl rfl ?_
  refine g_ialdJ (n := 13) (j := 1) (x := (A 6 1)) dX12_doesAccess_12 sM_6 rfl (Nat.le_of_ble_eq_true rfl) (by decide) rfl rfl ?_
  refine g_callV (n := 16) (as := [.int (A 6 0), .int (A 6 1)]) (bc' := 0) (bs' := 0) sM_0 vc_16 (ctX12_isPage h) okX12_isPage rfl w_2181 w_2183 w_40 w_112 dX12_doesAccess_13 rfl rfl (Nat.le_of_ble_eq_true rfl) (Nat.le_of_ble_eq_true rfl) (Nat.le_of_ble_eq_true rfl) (Nat.le_of_ble_eq_true rfl) rfl (fun E sh1 I1 A1 hp _ => hp.2.elim) (fun ro sh_ I_1 A_2 hp hle => ?_)
  obtain ⟨rfl, r_3, rfl, h⟩ := hp
  refine g_if_ne (n := 19) 21 dX12_doesAccess_16 (by decide) rfl (fun hc => ?_) (fun hc => ?_)
  · have h := h.1 hc
    refine g_aload_n (n := 22) dX12_doesAccess_21 rfl rfl rfl ?_
    refine g_getR (n := 25) (k := 13) dX12_doesAccess_22 sM_0 vc_16 (Nat.le_of_ble_eq_true rfl) rfl w_2007 rfl ?_
    refine g_iconst (n := 26) (v := (nI 0)) dX12_doesAccess_25 rfl rfl ?_
    refine g_ialdJ (n := 27) (j := 0) (x := (A_2 6 0)) dX12_doesAccess_26 sM_6 rfl (Nat.le_of_ble_eq_true rfl) (by decide) rfl rfl ?_
    refine g_aload_n (n := 28) dX12_doesAccess_27 rfl rfl rfl ?_
    refine g_getR (n := 31) (k := 13) dX12_doesAccess_28 sM_0 vc_16 (Nat.le_of_ble_eq_true rfl) rfl w_2007 rfl ?_
    refine g_iconst (n := 32) (v := (nI 1)) dX12_doesAccess_31 rfl rfl ?_
    refine g_ialdJ (n := 33) (j := 1) (x := (A_2 6 1)) dX12_doesAccess_32 sM_6 rfl (Nat.le_of_ble_eq_true rfl) (by decide) rfl rfl ?_
    refine g_callS (n := 36) (as := [.int (A_2 6 0), .int (A_2 6 1)]) (bc' := 0) (bs' := 0) (ctX12_pageOf h) okX12_pageOf w_2193 w_2194 dX12_doesAccess_33 rfl rfl (Nat.le_of_ble_eq_true rfl) (Nat.le_of_ble_eq_true rfl) (Nat.le_of_ble_eq_true rfl) (Nat.le_of_ble_eq_true rfl) rfl (fun E sh1 I1 A1 hp _ => hp.2.elim) (fun ro sh_ I_4 A_5 hp hle => ?_)
    obtain ⟨rfl, r_6, rfl, h⟩ := hp
    refine g_istore_n (n := 37) (ls' := [some (.ref 0), some (.int p0), some (.int r_6)]) dX12_doesAccess_36 rfl rfl (Nat.le_of_ble_eq_true rfl) (Nat.le_of_ble_eq_true rfl) rfl rfl ?_
    refine g_aload_n (n := 38) dX12_doesAccess_37 rfl rfl rfl ?_
    refine g_iload_n (n := 39) dX12_doesAccess_38 rfl rfl rfl ?_
    refine g_iload_n (n := 40) dX12_doesAccess_39 rfl rfl rfl ?_
    refine g_callV (n := 43) (as := [.int r_6, .int p0]) (bc' := 0) (bs' := 0) sM_0 vc_16 (ctX12_isStuck h) okX12_isStuck rfl w_2196 w_2198 w_43 w_112 dX12_doesAccess_40 rfl rfl (Nat.le_of_ble_eq_true rfl) (Nat.le_of_ble_eq_true rfl) (Nat.le_of_ble_eq_true rfl) (Nat.le_of_ble_eq_true rfl) rfl (fun E sh1 I1 A1 hp _ => hp.2.elim) (fun ro sh_ I_7 A_8 hp hle => ?_)
    obtain ⟨rfl, r_9, rfl, h⟩ := hp
    refine g_if_eq (n := 46) 48 dX12_doesAccess_43 (by decide) rfl (fun hc => ?_) (fun hc => ?_)
    · have h := h.1 hc
      refine g_iload_n (n := 49) dX12_doesAccess_48 rfl rfl rfl ?_
      refine g_if_eq (n := 52) 66 dX12_doesAccess_49 (by decide) rfl (fun hc => ?_) (fun hc => ?_)
      · have h := h.1 hc
        refine g_aload_n (n := 67) dX12_doesAccess_66 rfl rfl rfl ?_
        refine g_iload_n (n := 68) dX12_doesAccess_67 rfl rfl rfl ?_
        refine g_callV (n := 71) (as := [.int r_6]) (bc' := 0) (bs' := 0) sM_0 vc_16 (ctX12_access h) okX12_access rfl w_2247 w_2249 w_55 w_112 dX12_doesAccess_68 rfl rfl (Nat.le_of_ble_eq_true rfl) (Nat.le_of_ble_eq_true rfl) (Nat.le_of_ble_eq_true rfl) (Nat.le_of_ble_eq_true rfl) rfl (fun E sh1 I1 A1 hp _ => hp.2.elim) (fun ro sh_ I_10 A_11 hp hle => ?_)
        obtain ⟨rfl, rfl, h⟩ := hp
        refine g_iconst (n := 72) (v := (nI 1)) dX12_doesAccess_71 rfl rfl ?_
        exact g_iret rfl rfl dX12_doesAccess_72 ⟨rfl, _, rfl, h⟩
      · have h := h.2 hc
        refine g_aload_n (n := 53) dX12_doesAccess_52 rfl rfl rfl ?_
        refine g_iload_n (n := 54) dX12_doesAccess_53 rfl rfl rfl ?_
        refine g_aload_n (n := 55) dX12_doesAccess_54 rfl rfl rfl ?_
        refine g_getR (n := 58) (k := 13) dX12_doesAccess_55 sM_0 vc_16 (Nat.le_of_ble_eq_true rfl) rfl w_2007 rfl ?_
        refine g_iconst (n := 59) (v := (nI 2)) dX12_doesAccess_58 rfl rfl ?_
        refine g_ialdJ (n := 60) (j := 2) (x := (A_8 6 2)) dX12_doesAccess_59 sM_6 rfl (Nat.le_of_ble_eq_true rfl) (by decide) rfl rfl ?_
        refine g_callV (n := 63) (as := [.int r_6, .int (A_8 6 2)]) (bc' := 0) (bs' := 0) sM_0 vc_16 (ctX12_write h) okX12_write rfl w_2267 w_2269 w_59 w_112 dX12_doesAccess_60 rfl rfl (Nat.le_of_ble_eq_true rfl) (Nat.le_of_ble_eq_true rfl) (Nat.le_of_ble_eq_true rfl) (Nat.le_of_ble_eq_true rfl) rfl (fun E sh1 I1 A1 hp _ => hp.2.elim) (fun ro sh_ I_12 A_13 hp hle => ?_)
        obtain ⟨rfl, rfl, h⟩ := hp
        refine g_goto 71 dX12_doesAccess_63 (by decide) ?_
        refine g_iconst (n := 72) (v := (nI 1)) dX12_doesAccess_71 rfl rfl ?_
        exact g_iret rfl rfl dX12_doesAccess_72 ⟨rfl, _, rfl, h⟩
    · have h := h.2 hc
      refine g_iconst (n := 47) (v := (nI 0)) dX12_doesAccess_46 rfl rfl ?_
      exact g_iret rfl rfl dX12_doesAccess_47 ⟨rfl, _, rfl, h⟩
  · have h := h.2 hc
    refine g_iconst (n := 20) (v := (nI 0)) dX12_doesAccess_19 rfl rfl ?_
    exact g_iret rfl rfl dX12_doesAccess_20 ⟨rfl, _, rfl, h⟩
def wX12_doesEvict (K : Int32 → ab_F → ab_F → Prop) (I A : ab_F)  : Prop := wX12_isPage (fun r_3 I_1 A_2 => ((¬ r_3 = 0 → wX12_pageOf (fun r_6 I_4 A_5 => (∃ j_7 : Nat, ((nI 128) + r_6) = nI j_7 ∧ j_7 < 608 ∧ (((A_5 1 j_7) = (-1 : Int32) → K (nI 0) I_4 A_5) ∧ (¬ (A_5 1 j_7) = (-1 : Int32) → wX12_isStuckOut (fun r_10 I_8 A_9 => ((r_10 = 0 → wX12_evict (fun I_11 A_12 => K (nI 1) I_11 A_12) I_8 A_9 r_6) ∧ (¬ r_10 = 0 → K (nI 0) I_8 A_9))) I_4 A_5 r_6)))) I_1 A_2 (A_2 6 0) (A_2 6 1)) ∧ (r_3 = 0 → K (nI 0) I_1 A_2))) I A (A 6 0) (A 6 1)
set_option maxRecDepth 20000 in
theorem ctX12_doesEvict  {K : Int32 → ab_F → ab_F → Prop} {I A : ab_F}  (h : wX12_doesEvict K I A ) : ab_Cl mX12_doesEvict 5 0 0 [.ref 0] shM I A (ab_Px shM ab_no (ab_ri K)) := by
  refine ab_enter (ls := [some (.ref 0), none]) (by decide +kernel) (Nat.le_of_ble_eq_true rfl) rfl (fun C => ?_)
  unfold wX12_doesEvict at h
  refine g_aload_n (n := 1) dX12_doesEvict_0 rfl rfl rfl ?_
  refine g_aload_n (n := 2) dX12_doesEvict_1 rfl rfl rfl ?_
  refine g_getR (n := 5) (k := 13) dX12_doesEvict_2 sM_0 vc_16 (Nat.le_of_ble_eq_true rfl) rfl w_2007 rfl ?_
  refine g_iconst (n := 6) (v := (nI 0)) dX12_doesEvict_5 rfl rfl ?_
  refine g_ialdJ (n := 7) (j := 0) (x := (A 6 0)) dX12_doesEvict_6 sM_6 rfl (Nat.le_of_ble_eq_true rfl) (by decide) rfl rfl ?_
  refine g_aload_n (n := 8) dX12_doesEvict_7 rfl rfl rfl ?_
  refine g_getR (n := 11) (k := 13) dX12_doesEvict_8 sM_0 vc_16 (Nat.le_of_ble_eq_true rfl) rfl w_2007 rfl ?_
  refine g_iconst (n := 12) (v := (nI 1)) dX12_doesEvict_11 rfl rfl ?_
  refine g_ialdJ (n := 13) (j := 1) (x := (A 6 1)) dX12_doesEvict_12 sM_6 rfl (Nat.le_of_ble_eq_true rfl) (by decide) rfl rfl ?_
  refine g_callV (n := 16) (as := [.int (A 6 0), .int (A 6 1)]) (bc' := 0) (bs' := 0) sM_0 vc_16 (ctX12_isPage h) okX12_isPage rfl w_2181 w_2183 w_40 w_112 dX12_doesEvict_13 rfl rfl (Nat.le_of_ble_eq_true rfl) (Nat.le_of_ble_eq_true rfl) (Nat.le_of_ble_eq_true rfl) (Nat.le_of_ble_eq_true rfl) rfl (fun E sh1 I1 A1 hp _ => hp.2.elim) (fun ro sh_ I_1 A_2 hp hle => ?_)
  obtain ⟨rfl, r_3, rfl, h⟩ := hp
  refine g_if_ne (n := 19) 21 dX12_doesEvict_16 (by decide) rfl (fun hc => ?_) (fun hc => ?_)
  · have h := h.1 hc
    refine g_aload_n (n := 22) dX12_doesEvict_21 rfl rfl rfl ?_
    refine g_getR (n := 25) (k := 13) dX12_doesEvict_22 sM_0 vc_16 (Nat.le_of_ble_eq_true rfl) rfl w_2007 rfl ?_
    refine g_iconst (n := 26) (v := (nI 0)) dX12_doesEvict_25 rfl rfl ?_
    refine g_ialdJ (n := 27) (j := 0) (x := (A_2 6 0)) dX12_doesEvict_26 sM_6 rfl (Nat.le_of_ble_eq_true rfl) (by decide) rfl rfl ?_
    refine g_aload_n (n := 28) dX12_doesEvict_27 rfl rfl rfl ?_
    refine g_getR (n := 31) (k := 13) dX12_doesEvict_28 sM_0 vc_16 (Nat.le_of_ble_eq_true rfl) rfl w_2007 rfl ?_
    refine g_iconst (n := 32) (v := (nI 1)) dX12_doesEvict_31 rfl rfl ?_
    refine g_ialdJ (n := 33) (j := 1) (x := (A_2 6 1)) dX12_doesEvict_32 sM_6 rfl (Nat.le_of_ble_eq_true rfl) (by decide) rfl rfl ?_
    refine g_callS (n := 36) (as := [.int (A_2 6 0), .int (A_2 6 1)]) (bc' := 0) (bs' := 0) (ctX12_pageOf h) okX12_pageOf w_2193 w_2194 dX12_doesEvict_33 rfl rfl (Nat.le_of_ble_eq_true rfl) (Nat.le_of_ble_eq_true rfl) (Nat.le_of_ble_eq_true rfl) (Nat.le_of_ble_eq_true rfl) rfl (fun E sh1 I1 A1 hp _ => hp.2.elim) (fun ro sh_ I_4 A_5 hp hle => ?_)
    obtain ⟨rfl, r_6, rfl, h⟩ := hp
    refine g_istore_n (n := 37) (ls' := [some (.ref 0), some (.int r_6)]) dX12_doesEvict_36 rfl rfl (Nat.le_of_ble_eq_true rfl) (Nat.le_of_ble_eq_true rfl) rfl rfl ?_
    refine g_aload_n (n := 38) dX12_doesEvict_37 rfl rfl rfl ?_
    refine g_getR (n := 41) (k := 0) dX12_doesEvict_38 sM_0 vc_16 (Nat.le_of_ble_eq_true rfl) rfl w_1994 rfl ?_
    refine g_sipush (n := 44) (v := (nI 128)) dX12_doesEvict_41 rfl rfl ?_
    refine g_iload_n (n := 45) dX12_doesEvict_44 rfl rfl rfl ?_
    refine g_iadd (n := 46) dX12_doesEvict_45 rfl ?_
    obtain ⟨j_7, hj, hl, h⟩ := h
    refine g_ialdJ (n := 47) (j := j_7) (x := (A_5 1 j_7)) dX12_doesEvict_46 sM_1 hj hl (by decide) rfl rfl ?_
    refine g_iconst (n := 48) (v := (-1 : Int32)) dX12_doesEvict_47 rfl rfl ?_
    refine g_icmp_eq (n := 51) 59 dX12_doesEvict_48 (by decide) rfl (fun hc => ?_) (fun hc => ?_)
    · have h := h.1 hc
      refine g_iconst (n := 60) (v := (nI 0)) dX12_doesEvict_59 rfl rfl ?_
      exact g_iret rfl rfl dX12_doesEvict_60 ⟨rfl, _, rfl, h⟩
    · have h := h.2 hc
      refine g_aload_n (n := 52) dX12_doesEvict_51 rfl rfl rfl ?_
      refine g_iload_n (n := 53) dX12_doesEvict_52 rfl rfl rfl ?_
      refine g_callV (n := 56) (as := [.int r_6]) (bc' := 0) (bs' := 0) sM_0 vc_16 (ctX12_isStuckOut h) okX12_isStuckOut rfl w_2361 w_2363 w_73 w_112 dX12_doesEvict_53 rfl rfl (Nat.le_of_ble_eq_true rfl) (Nat.le_of_ble_eq_true rfl) (Nat.le_of_ble_eq_true rfl) (Nat.le_of_ble_eq_true rfl) rfl (fun E sh1 I1 A1 hp _ => hp.2.elim) (fun ro sh_ I_8 A_9 hp hle => ?_)
      obtain ⟨rfl, r_10, rfl, h⟩ := hp
      refine g_if_eq (n := 59) 61 dX12_doesEvict_56 (by decide) rfl (fun hc => ?_) (fun hc => ?_)
      · have h := h.1 hc
        refine g_aload_n (n := 62) dX12_doesEvict_61 rfl rfl rfl ?_
        refine g_iload_n (n := 63) dX12_doesEvict_62 rfl rfl rfl ?_
        refine g_callV (n := 66) (as := [.int r_6]) (bc' := 0) (bs' := 0) sM_0 vc_16 (ctX12_evict h) okX12_evict rfl w_2251 w_2253 w_56 w_112 dX12_doesEvict_63 rfl rfl (Nat.le_of_ble_eq_true rfl) (Nat.le_of_ble_eq_true rfl) (Nat.le_of_ble_eq_true rfl) (Nat.le_of_ble_eq_true rfl) rfl (fun E sh1 I1 A1 hp _ => hp.2.elim) (fun ro sh_ I_11 A_12 hp hle => ?_)
        obtain ⟨rfl, rfl, h⟩ := hp
        refine g_iconst (n := 67) (v := (nI 1)) dX12_doesEvict_66 rfl rfl ?_
        exact g_iret rfl rfl dX12_doesEvict_67 ⟨rfl, _, rfl, h⟩
      · have h := h.2 hc
        refine g_iconst (n := 60) (v := (nI 0)) dX12_doesEvict_59 rfl rfl ?_
        exact g_iret rfl rfl dX12_doesEvict_60 ⟨rfl, _, rfl, h⟩
  · have h := h.2 hc
    refine g_iconst (n := 20) (v := (nI 0)) dX12_doesEvict_19 rfl rfl ?_
    exact g_iret rfl rfl dX12_doesEvict_20 ⟨rfl, _, rfl, h⟩
def wjX12_does_22 (K : Int32 → ab_F → ab_F → Prop) (x1 : Int32) (x2 : Int32) (s0 : Int32) (I A : ab_F) : Prop := (((x1).toInt = 0 → wX12_doesAccess (fun r_7 I_5 A_6 => (narrow .boolean (.int r_7) = .int r_7 ∧ K r_7 I_5 A_6)) I A (nI 0)) ∧ ((x1).toInt = 1 → wX12_doesAccess (fun r_10 I_8 A_9 => (narrow .boolean (.int r_10) = .int r_10 ∧ K r_10 I_8 A_9)) I A (nI 1)) ∧ ((x1).toInt = 2 → wX12_isNoSet (fun r_13 I_11 A_12 => ((¬ r_13 = 0 → K (nI 0) I_11 A_12) ∧ (r_13 = 0 → ((s0 = 0 → wX12_startFor (fun I_14 A_15 => K (nI 1) I_14 A_15) I_11 A_12 x2) ∧ (¬ s0 = 0 → K (nI 0) I_11 A_12))))) I A x2) ∧ ((x1).toInt = 3 → wX12_in (fun r_18 I_16 A_17 => ((r_18 = 0 → K (nI 0) I_16 A_17) ∧ (¬ r_18 = 0 → ((¬ s0 = 0 → wX12_flush (fun I_19 A_20 => K (nI 1) I_19 A_20) I_16 A_17 x2) ∧ (s0 = 0 → K (nI 0) I_16 A_17))))) I A ((x2).toInt64) (1 : Int64) (48 : Int64)) ∧ ((x1).toInt = 4 → ((s0 = 0 → K (nI 0) I A) ∧ (¬ s0 = 0 → wX12_pendingCount (fun r_23 I_21 A_22 => ((¬ r_23 = 0 → K (nI 0) I_21 A_22) ∧ (r_23 = 0 → wX12_commit (fun r_26 I_24 A_25 => ((r_26 < 0 → K (nI 0) I_24 A_25) ∧ (¬ r_26 < 0 → K (nI 1) I_24 A_25))) I_21 A_22 ))) I A ))) ∧ ((x1).toInt = 5 → ((s0 = 0 → K (nI 0) I A) ∧ (¬ s0 = 0 → wX12_abandon (fun r_29 I_27 A_28 => ((r_29 < 0 → K (nI 0) I_27 A_28) ∧ (¬ r_29 < 0 → K (nI 1) I_27 A_28))) I A ))) ∧ ((x1).toInt = 6 → wX12_crashes (fun I_30 A_31 => K (nI 1) I_30 A_31) I A ) ∧ ((x1).toInt = 7 → wX12_isProcess (fun r_34 I_32 A_33 => ((r_34 = 0 → K (nI 0) I_32 A_33) ∧ (¬ r_34 = 0 → (∃ j_35 : Nat, ((nI 26) + x2) = nI j_35 ∧ j_35 < 608 ∧ (((A_33 1 j_35) = (-1 : Int32) → K (nI 0) I_32 A_33) ∧ (¬ (A_33 1 j_35) = (-1 : Int32) → wX12_has (fun r_38 I_36 A_37 => ((r_38 = 0 → wX12_restore (fun I_39 A_40 => K (nI 1) I_39 A_40) I_36 A_37 x2) ∧ (¬ r_38 = 0 → K (nI 0) I_36 A_37))) I_32 A_33 (A_33 1 10) x2)))))) I A x2) ∧ ((x1).toInt < 0 ∨ 7 < (x1).toInt → wX12_doesEvict (fun r_4 I_2 A_3 => (narrow .boolean (.int r_4) = .int r_4 ∧ K r_4 I_2 A_3)) I A ))
def wX12_does (K : Int32 → ab_F → ab_F → Prop) (I A : ab_F) (p0 : Int32) : Prop := (∀ y_1 : Int32, y_1 = (A 6 0) → (((A 1 10) = 0 → wjX12_does_22 K p0 y_1 (nI 0) I A) ∧ (¬ (A 1 10) = 0 → wjX12_does_22 K p0 y_1 (nI 1) I A)))
set_option maxRecDepth 20000 in
theorem tjX12_does_22 {C : ab_X}  {K : Int32 → ab_F → ab_F → Prop} (x1 : Int32) (x2 : Int32) (s0 : Int32) (I A : ab_F) (h : wjX12_does_22 K x1 x2 s0 I A) : ab_G mX12_does 8 C (ab_Px shM ab_no (ab_ri K)) 22 [some (.ref 0), some (.int x1), some (.int x2), none] [.int s0] shM I A 0 0 := by
  unfold wjX12_does_22 at h
  refine g_istore_n (n := 23) (ls' := [some (.ref 0), some (.int x1), some (.int x2), some (.int s0)]) dX12_does_22 rfl rfl (Nat.le_of_ble_eq_true rfl) (Nat.le_of_ble_eq_true rfl) rfl rfl ?_
  refine g_iload_n (n := 24) dX12_does_23 rfl rfl rfl ?_
  by_cases hc0 : (x1).toInt = 0
  · have h := h.1 hc0
    refine g_tableIn 72 dX12_does_24 (by rw [hc0]; decide) (by rw [hc0]; decide) (by rw [hc0]; rfl) (by decide) ?_
    refine g_aload_n (n := 73) dX12_does_72 rfl rfl rfl ?_
    refine g_iconst (n := 74) (v := (nI 0)) dX12_does_73 rfl rfl ?_
    refine g_callV (n := 77) (as := [.int (nI 0)]) (bc' := 0) (bs' := 0) sM_0 vc_16 (ctX12_doesAccess h) okX12_doesAccess rfl w_2394 w_2396 w_77 w_112 dX12_does_74 rfl rfl (Nat.le_of_ble_eq_true rfl) (Nat.le_of_ble_eq_true rfl) (Nat.le_of_ble_eq_true rfl) (Nat.le_of_ble_eq_true rfl) rfl (fun E sh1 I1 A1 hp _ => hp.2.elim) (fun ro sh_ I_5 A_6 hp hle => ?_)
    obtain ⟨rfl, r_7, rfl, h⟩ := hp
    obtain ⟨hz, h⟩ := h
    exact g_iret rfl hz dX12_does_77 ⟨rfl, _, rfl, h⟩
  by_cases hc1 : (x1).toInt = 1
  · have h := h.2.1 hc1
    refine g_tableIn 78 dX12_does_24 (by rw [hc1]; decide) (by rw [hc1]; decide) (by rw [hc1]; rfl) (by decide) ?_
    refine g_aload_n (n := 79) dX12_does_78 rfl rfl rfl ?_
    refine g_iconst (n := 80) (v := (nI 1)) dX12_does_79 rfl rfl ?_
    refine g_callV (n := 83) (as := [.int (nI 1)]) (bc' := 0) (bs' := 0) sM_0 vc_16 (ctX12_doesAccess h) okX12_doesAccess rfl w_2394 w_2396 w_77 w_112 dX12_does_80 rfl rfl (Nat.le_of_ble_eq_true rfl) (Nat.le_of_ble_eq_true rfl) (Nat.le_of_ble_eq_true rfl) (Nat.le_of_ble_eq_true rfl) rfl (fun E sh1 I1 A1 hp _ => hp.2.elim) (fun ro sh_ I_8 A_9 hp hle => ?_)
    obtain ⟨rfl, r_10, rfl, h⟩ := hp
    obtain ⟨hz, h⟩ := h
    exact g_iret rfl hz dX12_does_83 ⟨rfl, _, rfl, h⟩
  by_cases hc2 : (x1).toInt = 2
  · have h := h.2.2.1 hc2
    refine g_tableIn 84 dX12_does_24 (by rw [hc2]; decide) (by rw [hc2]; decide) (by rw [hc2]; rfl) (by decide) ?_
    refine g_aload_n (n := 85) dX12_does_84 rfl rfl rfl ?_
    refine g_iload_n (n := 86) dX12_does_85 rfl rfl rfl ?_
    refine g_callV (n := 89) (as := [.int x2]) (bc' := 0) (bs' := 0) sM_0 vc_16 (ctX12_isNoSet h) okX12_isNoSet rfl w_2285 w_2287 w_60 w_112 dX12_does_86 rfl rfl (Nat.le_of_ble_eq_true rfl) (Nat.le_of_ble_eq_true rfl) (Nat.le_of_ble_eq_true rfl) (Nat.le_of_ble_eq_true rfl) rfl (fun E sh1 I1 A1 hp _ => hp.2.elim) (fun ro sh_ I_11 A_12 hp hle => ?_)
    obtain ⟨rfl, r_13, rfl, h⟩ := hp
    refine g_if_ne (n := 92) 96 dX12_does_89 (by decide) rfl (fun hc => ?_) (fun hc => ?_)
    · have h := h.1 hc
      refine g_iconst (n := 97) (v := (nI 0)) dX12_does_96 rfl rfl ?_
      exact g_iret rfl rfl dX12_does_97 ⟨rfl, _, rfl, h⟩
    · have h := h.2 hc
      refine g_iload_n (n := 93) dX12_does_92 rfl rfl rfl ?_
      refine g_if_eq (n := 96) 98 dX12_does_93 (by decide) rfl (fun hc => ?_) (fun hc => ?_)
      · have h := h.1 hc
        refine g_aload_n (n := 99) dX12_does_98 rfl rfl rfl ?_
        refine g_iload_n (n := 100) dX12_does_99 rfl rfl rfl ?_
        refine g_callV (n := 103) (as := [.int x2]) (bc' := 0) (bs' := 0) sM_0 vc_16 (ctX12_startFor h) okX12_startFor rfl w_2289 w_2291 w_61 w_112 dX12_does_100 rfl rfl (Nat.le_of_ble_eq_true rfl) (Nat.le_of_ble_eq_true rfl) (Nat.le_of_ble_eq_true rfl) (Nat.le_of_ble_eq_true rfl) rfl (fun E sh1 I1 A1 hp _ => hp.2.elim) (fun ro sh_ I_14 A_15 hp hle => ?_)
        obtain ⟨rfl, rfl, h⟩ := hp
        refine g_iconst (n := 104) (v := (nI 1)) dX12_does_103 rfl rfl ?_
        exact g_iret rfl rfl dX12_does_104 ⟨rfl, _, rfl, h⟩
      · have h := h.2 hc
        refine g_iconst (n := 97) (v := (nI 0)) dX12_does_96 rfl rfl ?_
        exact g_iret rfl rfl dX12_does_97 ⟨rfl, _, rfl, h⟩
  by_cases hc3 : (x1).toInt = 3
  · have h := h.2.2.2.1 hc3
    refine g_tableIn 105 dX12_does_24 (by rw [hc3]; decide) (by rw [hc3]; decide) (by rw [hc3]; rfl) (by decide) ?_
    refine g_iload_n (n := 106) dX12_does_105 rfl rfl rfl ?_
    refine g_i2l (n := 107) dX12_does_106 rfl ?_
    refine g_lconst (n := 108) (v := (1 : Int64)) dX12_does_107 rfl rfl ?_
    refine g_ldc2 (n := 111) (v := (48 : Int64)) dX12_does_108 w_2101 rfl ?_
    refine g_callS (n := 114) (as := [.long ((x2).toInt64), .long (1 : Int64), .long (48 : Int64)]) (bc' := 0) (bs' := 0) (ctX12_in h) okX12_in w_2080 w_2081 dX12_does_111 rfl rfl (Nat.le_of_ble_eq_true rfl) (Nat.le_of_ble_eq_true rfl) (Nat.le_of_ble_eq_true rfl) (Nat.le_of_ble_eq_true rfl) rfl (fun E sh1 I1 A1 hp _ => hp.2.elim) (fun ro sh_ I_16 A_17 hp hle => ?_)
    obtain ⟨rfl, r_18, rfl, h⟩ := hp
    refine g_if_eq (n := 117) 121 dX12_does_114 (by decide) rfl (fun hc => ?_) (fun hc => ?_)
    · have h := h.1 hc
      refine g_iconst (n := 122) (v := (nI 0)) dX12_does_121 rfl rfl ?_
      exact g_iret rfl rfl dX12_does_122 ⟨rfl, _, rfl, h⟩
    · have h := h.2 hc
      refine g_iload_n (n := 118) dX12_does_117 rfl rfl rfl ?_
      refine g_if_ne (n := 121) 123 dX12_does_118 (by decide) rfl (fun hc => ?_) (fun hc => ?_)
      · have h := h.1 hc
        refine g_aload_n (n := 124) dX12_does_123 rfl rfl rfl ?_
        refine g_iload_n (n := 125) dX12_does_124 rfl rfl rfl ?_
        refine g_callV (n := 128) (as := [.int x2]) (bc' := 0) (bs' := 0) sM_0 vc_16 (ctX12_flush h) okX12_flush rfl w_2301 w_2303 w_63 w_112 dX12_does_125 rfl rfl (Nat.le_of_ble_eq_true rfl) (Nat.le_of_ble_eq_true rfl) (Nat.le_of_ble_eq_true rfl) (Nat.le_of_ble_eq_true rfl) rfl (fun E sh1 I1 A1 hp _ => hp.2.elim) (fun ro sh_ I_19 A_20 hp hle => ?_)
        obtain ⟨rfl, rfl, h⟩ := hp
        refine g_iconst (n := 129) (v := (nI 1)) dX12_does_128 rfl rfl ?_
        exact g_iret rfl rfl dX12_does_129 ⟨rfl, _, rfl, h⟩
      · have h := h.2 hc
        refine g_iconst (n := 122) (v := (nI 0)) dX12_does_121 rfl rfl ?_
        exact g_iret rfl rfl dX12_does_122 ⟨rfl, _, rfl, h⟩
  by_cases hc4 : (x1).toInt = 4
  · have h := h.2.2.2.2.1 hc4
    refine g_tableIn 130 dX12_does_24 (by rw [hc4]; decide) (by rw [hc4]; decide) (by rw [hc4]; rfl) (by decide) ?_
    refine g_iload_n (n := 131) dX12_does_130 rfl rfl rfl ?_
    refine g_if_eq (n := 134) 152 dX12_does_131 (by decide) rfl (fun hc => ?_) (fun hc => ?_)
    · have h := h.1 hc
      refine g_iconst (n := 153) (v := (nI 0)) dX12_does_152 rfl rfl ?_
      exact g_iret rfl rfl dX12_does_153 ⟨rfl, _, rfl, h⟩
    · have h := h.2 hc
      refine g_aload_n (n := 135) dX12_does_134 rfl rfl rfl ?_
      refine g_callV (n := 138) (as := []) (bc' := 0) (bs' := 0) sM_0 vc_16 (ctX12_pendingCount h) okX12_pendingCount rfl w_2293 w_2295 w_62 w_112 dX12_does_135 rfl rfl (Nat.le_of_ble_eq_true rfl) (Nat.le_of_ble_eq_true rfl) (Nat.le_of_ble_eq_true rfl) (Nat.le_of_ble_eq_true rfl) rfl (fun E sh1 I1 A1 hp _ => hp.2.elim) (fun ro sh_ I_21 A_22 hp hle => ?_)
      obtain ⟨rfl, r_23, rfl, h⟩ := hp
      refine g_if_ne (n := 141) 152 dX12_does_138 (by decide) rfl (fun hc => ?_) (fun hc => ?_)
      · have h := h.1 hc
        refine g_iconst (n := 153) (v := (nI 0)) dX12_does_152 rfl rfl ?_
        exact g_iret rfl rfl dX12_does_153 ⟨rfl, _, rfl, h⟩
      · have h := h.2 hc
        refine g_aload_n (n := 142) dX12_does_141 rfl rfl rfl ?_
        refine g_callV (n := 145) (as := []) (bc' := 0) (bs' := 0) sM_0 vc_16 (ctX12_commit h) okX12_commit rfl w_2309 w_2311 w_64 w_112 dX12_does_142 rfl rfl (Nat.le_of_ble_eq_true rfl) (Nat.le_of_ble_eq_true rfl) (Nat.le_of_ble_eq_true rfl) (Nat.le_of_ble_eq_true rfl) rfl (fun E sh1 I1 A1 hp _ => hp.2.elim) (fun ro sh_ I_24 A_25 hp hle => ?_)
        obtain ⟨rfl, r_26, rfl, h⟩ := hp
        refine g_if_lt (n := 148) 152 dX12_does_145 (by decide) rfl (fun hc => ?_) (fun hc => ?_)
        · have h := h.1 hc
          refine g_iconst (n := 153) (v := (nI 0)) dX12_does_152 rfl rfl ?_
          exact g_iret rfl rfl dX12_does_153 ⟨rfl, _, rfl, h⟩
        · have h := h.2 hc
          refine g_iconst (n := 149) (v := (nI 1)) dX12_does_148 rfl rfl ?_
          refine g_goto 153 dX12_does_149 (by decide) ?_
          exact g_iret rfl rfl dX12_does_153 ⟨rfl, _, rfl, h⟩
  by_cases hc5 : (x1).toInt = 5
  · have h := h.2.2.2.2.2.1 hc5
    refine g_tableIn 154 dX12_does_24 (by rw [hc5]; decide) (by rw [hc5]; decide) (by rw [hc5]; rfl) (by decide) ?_
    refine g_iload_n (n := 155) dX12_does_154 rfl rfl rfl ?_
    refine g_if_eq (n := 158) 169 dX12_does_155 (by decide) rfl (fun hc => ?_) (fun hc => ?_)
    · have h := h.1 hc
      refine g_iconst (n := 170) (v := (nI 0)) dX12_does_169 rfl rfl ?_
      exact g_iret rfl rfl dX12_does_170 ⟨rfl, _, rfl, h⟩
    · have h := h.2 hc
      refine g_aload_n (n := 159) dX12_does_158 rfl rfl rfl ?_
      refine g_callV (n := 162) (as := []) (bc' := 0) (bs' := 0) sM_0 vc_16 (ctX12_abandon h) okX12_abandon rfl w_2321 w_2323 w_66 w_112 dX12_does_159 rfl rfl (Nat.le_of_ble_eq_true rfl) (Nat.le_of_ble_eq_true rfl) (Nat.le_of_ble_eq_true rfl) (Nat.le_of_ble_eq_true rfl) rfl (fun E sh1 I1 A1 hp _ => hp.2.elim) (fun ro sh_ I_27 A_28 hp hle => ?_)
      obtain ⟨rfl, r_29, rfl, h⟩ := hp
      refine g_if_lt (n := 165) 169 dX12_does_162 (by decide) rfl (fun hc => ?_) (fun hc => ?_)
      · have h := h.1 hc
        refine g_iconst (n := 170) (v := (nI 0)) dX12_does_169 rfl rfl ?_
        exact g_iret rfl rfl dX12_does_170 ⟨rfl, _, rfl, h⟩
      · have h := h.2 hc
        refine g_iconst (n := 166) (v := (nI 1)) dX12_does_165 rfl rfl ?_
        refine g_goto 170 dX12_does_166 (by decide) ?_
        exact g_iret rfl rfl dX12_does_170 ⟨rfl, _, rfl, h⟩
  by_cases hc6 : (x1).toInt = 6
  · have h := h.2.2.2.2.2.2.1 hc6
    refine g_tableIn 171 dX12_does_24 (by rw [hc6]; decide) (by rw [hc6]; decide) (by rw [hc6]; rfl) (by decide) ?_
    refine g_aload_n (n := 172) dX12_does_171 rfl rfl rfl ?_
    refine g_callV (n := 175) (as := []) (bc' := 0) (bs' := 0) sM_0 vc_16 (ctX12_crashes h) okX12_crashes rfl w_2329 w_2331 w_67 w_112 dX12_does_172 rfl rfl (Nat.le_of_ble_eq_true rfl) (Nat.le_of_ble_eq_true rfl) (Nat.le_of_ble_eq_true rfl) (Nat.le_of_ble_eq_true rfl) rfl (fun E sh1 I1 A1 hp _ => hp.2.elim) (fun ro sh_ I_30 A_31 hp hle => ?_)
    obtain ⟨rfl, rfl, h⟩ := hp
    refine g_iconst (n := 176) (v := (nI 1)) dX12_does_175 rfl rfl ?_
    exact g_iret rfl rfl dX12_does_176 ⟨rfl, _, rfl, h⟩
  by_cases hc7 : (x1).toInt = 7
  · have h := h.2.2.2.2.2.2.2.1 hc7
    refine g_tableIn 177 dX12_does_24 (by rw [hc7]; decide) (by rw [hc7]; decide) (by rw [hc7]; rfl) (by decide) ?_
    refine g_aload_n (n := 178) dX12_does_177 rfl rfl rfl ?_
    refine g_iload_n (n := 179) dX12_does_178 rfl rfl rfl ?_
    refine g_callV (n := 182) (as := [.int x2]) (bc' := 0) (bs' := 0) sM_0 vc_16 (ctX12_isProcess h) okX12_isProcess rfl w_2185 w_2187 w_41 w_112 dX12_does_179 rfl rfl (Nat.le_of_ble_eq_true rfl) (Nat.le_of_ble_eq_true rfl) (Nat.le_of_ble_eq_true rfl) (Nat.le_of_ble_eq_true rfl) rfl (fun E sh1 I1 A1 hp _ => hp.2.elim) (fun ro sh_ I_32 A_33 hp hle => ?_)
    obtain ⟨rfl, r_34, rfl, h⟩ := hp
    refine g_if_eq (n := 185) 212 dX12_does_182 (by decide) rfl (fun hc => ?_) (fun hc => ?_)
    · have h := h.1 hc
      refine g_iconst (n := 213) (v := (nI 0)) dX12_does_212 rfl rfl ?_
      exact g_iret rfl rfl dX12_does_213 ⟨rfl, _, rfl, h⟩
    · have h := h.2 hc
      refine g_aload_n (n := 186) dX12_does_185 rfl rfl rfl ?_
      refine g_getR (n := 189) (k := 0) dX12_does_186 sM_0 vc_16 (Nat.le_of_ble_eq_true rfl) rfl w_1994 rfl ?_
      refine g_bipush (n := 191) (v := (nI 26)) dX12_does_189 rfl rfl ?_
      refine g_iload_n (n := 192) dX12_does_191 rfl rfl rfl ?_
      refine g_iadd (n := 193) dX12_does_192 rfl ?_
      obtain ⟨j_35, hj, hl, h⟩ := h
      refine g_ialdJ (n := 194) (j := j_35) (x := (A_33 1 j_35)) dX12_does_193 sM_1 hj hl (by decide) rfl rfl ?_
      refine g_iconst (n := 195) (v := (-1 : Int32)) dX12_does_194 rfl rfl ?_
      refine g_icmp_eq (n := 198) 212 dX12_does_195 (by decide) rfl (fun hc => ?_) (fun hc => ?_)
      · have h := h.1 hc
        refine g_iconst (n := 213) (v := (nI 0)) dX12_does_212 rfl rfl ?_
        exact g_iret rfl rfl dX12_does_213 ⟨rfl, _, rfl, h⟩
      · have h := h.2 hc
        refine g_aload_n (n := 199) dX12_does_198 rfl rfl rfl ?_
        refine g_getR (n := 202) (k := 0) dX12_does_199 sM_0 vc_16 (Nat.le_of_ble_eq_true rfl) rfl w_1994 rfl ?_
        refine g_bipush (n := 204) (v := (nI 10)) dX12_does_202 rfl rfl ?_
        refine g_ialdJ (n := 205) (j := 10) (x := (A_33 1 10)) dX12_does_204 sM_1 rfl (Nat.le_of_ble_eq_true rfl) (by decide) rfl rfl ?_
        refine g_iload_n (n := 206) dX12_does_205 rfl rfl rfl ?_
        refine g_callS (n := 209) (as := [.int (A_33 1 10), .int x2]) (bc' := 0) (bs' := 0) (ctX12_has h) okX12_has w_2204 w_2205 dX12_does_206 rfl rfl (Nat.le_of_ble_eq_true rfl) (Nat.le_of_ble_eq_true rfl) (Nat.le_of_ble_eq_true rfl) (Nat.le_of_ble_eq_true rfl) rfl (fun E sh1 I1 A1 hp _ => hp.2.elim) (fun ro sh_ I_36 A_37 hp hle => ?_)
        obtain ⟨rfl, r_38, rfl, h⟩ := hp
        refine g_if_eq (n := 212) 214 dX12_does_209 (by decide) rfl (fun hc => ?_) (fun hc => ?_)
        · have h := h.1 hc
          refine g_aload_n (n := 215) dX12_does_214 rfl rfl rfl ?_
          refine g_iload_n (n := 216) dX12_does_215 rfl rfl rfl ?_
          refine g_callV (n := 219) (as := [.int x2]) (bc' := 0) (bs' := 0) sM_0 vc_16 (ctX12_restore h) okX12_restore rfl w_2333 w_2335 w_68 w_112 dX12_does_216 rfl rfl (Nat.le_of_ble_eq_true rfl) (Nat.le_of_ble_eq_true rfl) (Nat.le_of_ble_eq_true rfl) (Nat.le_of_ble_eq_true rfl) rfl (fun E sh1 I1 A1 hp _ => hp.2.elim) (fun ro sh_ I_39 A_40 hp hle => ?_)
          obtain ⟨rfl, rfl, h⟩ := hp
          refine g_iconst (n := 220) (v := (nI 1)) dX12_does_219 rfl rfl ?_
          exact g_iret rfl rfl dX12_does_220 ⟨rfl, _, rfl, h⟩
        · have h := h.2 hc
          refine g_iconst (n := 213) (v := (nI 0)) dX12_does_212 rfl rfl ?_
          exact g_iret rfl rfl dX12_does_213 ⟨rfl, _, rfl, h⟩
  have hc : (x1).toInt < 0 ∨ 7 < (x1).toInt := by omega
  have h := h.2.2.2.2.2.2.2.2 hc
  refine g_tableOut 221 dX12_does_24 hc (by decide) ?_
  refine g_aload_n (n := 222) dX12_does_221 rfl rfl rfl ?_
  refine g_callV (n := 225) (as := []) (bc' := 0) (bs' := 0) sM_0 vc_16 (ctX12_doesEvict h) okX12_doesEvict rfl w_2398 w_2400 w_78 w_112 dX12_does_222 rfl rfl (Nat.le_of_ble_eq_true rfl) (Nat.le_of_ble_eq_true rfl) (Nat.le_of_ble_eq_true rfl) (Nat.le_of_ble_eq_true rfl) rfl (fun E sh1 I1 A1 hp _ => hp.2.elim) (fun ro sh_ I_2 A_3 hp hle => ?_)
  obtain ⟨rfl, r_4, rfl, h⟩ := hp
  obtain ⟨hz, h⟩ := h
  exact g_iret rfl hz dX12_does_225 ⟨rfl, _, rfl, h⟩
set_option maxRecDepth 20000 in
theorem ctX12_does  {K : Int32 → ab_F → ab_F → Prop} {I A : ab_F} {p0 : Int32} (h : wX12_does K I A p0) : ab_Cl mX12_does 8 0 0 [.ref 0, .int p0] shM I A (ab_Px shM ab_no (ab_ri K)) := by
  refine ab_enter (ls := [some (.ref 0), some (.int p0), none, none]) (by decide +kernel) (Nat.le_of_ble_eq_true rfl) rfl (fun C => ?_)
  unfold wX12_does at h
  refine g_aload_n (n := 1) dX12_does_0 rfl rfl rfl ?_
  refine g_getR (n := 4) (k := 13) dX12_does_1 sM_0 vc_16 (Nat.le_of_ble_eq_true rfl) rfl w_2007 rfl ?_
  refine g_iconst (n := 5) (v := (nI 0)) dX12_does_4 rfl rfl ?_
  refine g_ialdJ (n := 6) (j := 0) (x := (A 6 0)) dX12_does_5 sM_6 rfl (Nat.le_of_ble_eq_true rfl) (by decide) rfl rfl ?_
  refine g_topi (fun y_1 ey_1 => ?_)
  have h := h y_1 ey_1
  refine g_istore_n (n := 7) (ls' := [some (.ref 0), some (.int p0), some (.int y_1), none]) dX12_does_6 rfl rfl (Nat.le_of_ble_eq_true rfl) (Nat.le_of_ble_eq_true rfl) rfl rfl ?_
  refine g_aload_n (n := 8) dX12_does_7 rfl rfl rfl ?_
  refine g_getR (n := 11) (k := 0) dX12_does_8 sM_0 vc_16 (Nat.le_of_ble_eq_true rfl) rfl w_1994 rfl ?_
  refine g_bipush (n := 13) (v := (nI 10)) dX12_does_11 rfl rfl ?_
  refine g_ialdJ (n := 14) (j := 10) (x := (A 1 10)) dX12_does_13 sM_1 rfl (Nat.le_of_ble_eq_true rfl) (by decide) rfl rfl ?_
  refine g_if_eq (n := 17) 21 dX12_does_14 (by decide) rfl (fun hc => ?_) (fun hc => ?_)
  · have h := h.1 hc
    refine g_iconst (n := 22) (v := (nI 0)) dX12_does_21 rfl rfl ?_
    refine g_less (bc' := 0) (bs' := 0) (Nat.le_of_ble_eq_true rfl) (Nat.le_of_ble_eq_true rfl) ?_
    exact tjX12_does_22  _ _ _ _ _ h
  · have h := h.2 hc
    refine g_iconst (n := 18) (v := (nI 1)) dX12_does_17 rfl rfl ?_
    refine g_goto 22 dX12_does_18 (by decide) ?_
    refine g_less (bc' := 0) (bs' := 0) (Nat.le_of_ble_eq_true rfl) (Nat.le_of_ble_eq_true rfl) ?_
    exact tjX12_does_22  _ _ _ _ _ h
def wjX12_goesThrough_91 (K : ab_F → ab_F → Prop) (x1 : Int32) (x2 : Int32) (I A : ab_F) : Prop := ((0 < (I 0 11) → K I A) ∧ (¬ 0 < (I 0 11) → wX12_does (fun r_9 I_7 A_8 => ((r_9 = 0 → K (wr (wr I_7 0 11 (nI 1)) 0 12 x1) A_8) ∧ (¬ r_9 = 0 → K I_7 A_8))) I A x2))
def wjX12_goesThrough_70 (K : ab_F → ab_F → Prop) (x1 : Int32) (x2 : Int32) (I A : ab_F) : Prop := ((¬ (I 0 11) = 0 → wjX12_goesThrough_91 K x1 x2 I A) ∧ ((I 0 11) = 0 → wX12_isWord (fun r_12 I_10 A_11 => ((¬ r_12 = 0 → wjX12_goesThrough_91 K x1 x2 I_10 A_11) ∧ (r_12 = 0 → wX12_wrong (fun I_13 A_14 => wjX12_goesThrough_91 K x1 x2 I_13 A_14) I_10 A_11 (nI 1)))) I A 46))
def wjX12_goesThrough_63 (K : ab_F → ab_F → Prop) (L26 : Int32 → Int32 → Int32 → ab_F → ab_F → Prop) (x1 : Int32) (x2 : Int32) (x3 : Int32) (s0 : Int32) (s1 : Int32) (I A : ab_F) : Prop := (∃ j_18 : Nat, s1 = nI j_18 ∧ j_18 < 3 ∧ L26 x1 x2 (x3 + nI 1) I (wr A 6 j_18 s0))
def wlX12_goesThrough_26 (K : ab_F → ab_F → Prop) : Nat → Int32 → Int32 → Int32 → ab_F → ab_F → Prop
  | 0, _, _, _, _, _ => False
  | n + 1, x1, x2, x3, I, A => (((nI 3) ≤ x3 → wjX12_goesThrough_70 K x1 x2 I A) ∧ (¬ (nI 3) ≤ x3 → ((¬ (I 0 11) = 0 → wjX12_goesThrough_70 K x1 x2 I A) ∧ ((I 0 11) = 0 → wX12_numbersOf (fun r_17 I_15 A_16 => ((r_17 ≤ x3 → wjX12_goesThrough_63 K (wlX12_goesThrough_26 K n) x1 x2 x3 (nI 0) x3 I_15 A_16) ∧ (¬ r_17 ≤ x3 → wX12_number (fun r_21 I_19 A_20 => wjX12_goesThrough_63 K (wlX12_goesThrough_26 K n) x1 x2 x3 r_21 x3 I_19 A_20) I_15 A_16 (nI 0) (nI 999999999)))) I A x2))))
def wjX12_goesThrough_20 (K : ab_F → ab_F → Prop) (x1 : Int32) (x2 : Int32) (I A : ab_F) : Prop := wX12_pass (fun I_5 A_6 => (∃ nf : Nat, wlX12_goesThrough_26 K nf x1 x2 (nI 0) I_5 A_6)) I A 
def wX12_goesThrough (K : ab_F → ab_F → Prop) (I A : ab_F)  : Prop := (∀ y_1 : Int32, y_1 = (I 0 8) → wX12_operation (fun r_4 I_2 A_3 => ((¬ r_4 = (-1 : Int32) → wjX12_goesThrough_20 K y_1 r_4 I_2 A_3) ∧ (r_4 = (-1 : Int32) → wX12_wrong (fun I_22 A_23 => wjX12_goesThrough_20 K y_1 r_4 I_22 A_23) I_2 A_3 (nI 1)))) I A )
set_option maxRecDepth 20000 in
theorem tjX12_goesThrough_91 {C : ab_X}  {K : ab_F → ab_F → Prop} (x1 : Int32) (x2 : Int32) (I A : ab_F) (h : wjX12_goesThrough_91 K x1 x2 I A) : ab_G mX12_goesThrough 9 C (ab_Px shM ab_no (ab_rv K)) 91 [some (.ref 0), some (.int x1), some (.int x2), none] [] shM I A 0 0 := by
  unfold wjX12_goesThrough_91 at h
  refine g_aload_n (n := 92) dX12_goesThrough_91 rfl rfl rfl ?_
  refine g_getIE (n := 95) (k := 11) (x := (I 0 11)) dX12_goesThrough_92 sM_0 vc_16 (Nat.le_of_ble_eq_true rfl) rfl w_2005 rfl rfl ?_
  refine g_if_gt (n := 98) 106 dX12_goesThrough_95 (by decide) rfl (fun hc => ?_) (fun hc => ?_)
  · have h := h.1 hc
    exact g_vret rfl dX12_goesThrough_106 ⟨rfl, rfl, h⟩
  · have h := h.2 hc
    refine g_aload_n (n := 99) dX12_goesThrough_98 rfl rfl rfl ?_
    refine g_iload_n (n := 100) dX12_goesThrough_99 rfl rfl rfl ?_
    refine g_callV (n := 103) (as := [.int x2]) (bc' := 0) (bs' := 0) sM_0 vc_16 (ctX12_does h) okX12_does rfl w_2390 w_2392 w_76 w_112 dX12_goesThrough_100 rfl rfl (Nat.le_of_ble_eq_true rfl) (Nat.le_of_ble_eq_true rfl) (Nat.le_of_ble_eq_true rfl) (Nat.le_of_ble_eq_true rfl) rfl (fun E sh1 I1 A1 hp _ => hp.2.elim) (fun ro sh_ I_7 A_8 hp hle => ?_)
    obtain ⟨rfl, r_9, rfl, h⟩ := hp
    refine g_if_eq (n := 106) 107 dX12_goesThrough_103 (by decide) rfl (fun hc => ?_) (fun hc => ?_)
    · have h := h.1 hc
      refine g_aload_n (n := 108) dX12_goesThrough_107 rfl rfl rfl ?_
      refine g_iconst (n := 109) (v := (nI 1)) dX12_goesThrough_108 rfl rfl ?_
      refine g_putI (n := 112) (k := 11) dX12_goesThrough_109 sM_0 vc_16 (Nat.le_of_ble_eq_true rfl) rfl w_2005 rfl rfl rfl rfl rfl ?_
      refine g_aload_n (n := 113) dX12_goesThrough_112 rfl rfl rfl ?_
      refine g_iload_n (n := 114) dX12_goesThrough_113 rfl rfl rfl ?_
      refine g_putI (n := 117) (k := 12) dX12_goesThrough_114 sM_0 vc_16 (Nat.le_of_ble_eq_true rfl) rfl w_2006 rfl rfl rfl rfl rfl ?_
      exact g_vret rfl dX12_goesThrough_117 ⟨rfl, rfl, h⟩
    · have h := h.2 hc
      exact g_vret rfl dX12_goesThrough_106 ⟨rfl, rfl, h⟩
set_option maxRecDepth 20000 in
theorem tjX12_goesThrough_70 {C : ab_X}  {K : ab_F → ab_F → Prop} (x1 : Int32) (x2 : Int32) (I A : ab_F) (h : wjX12_goesThrough_70 K x1 x2 I A) : ab_G mX12_goesThrough 9 C (ab_Px shM ab_no (ab_rv K)) 70 [some (.ref 0), some (.int x1), some (.int x2), none] [] shM I A 0 0 := by
  unfold wjX12_goesThrough_70 at h
  refine g_aload_n (n := 71) dX12_goesThrough_70 rfl rfl rfl ?_
  refine g_getIE (n := 74) (k := 11) (x := (I 0 11)) dX12_goesThrough_71 sM_0 vc_16 (Nat.le_of_ble_eq_true rfl) rfl w_2005 rfl rfl ?_
  refine g_if_ne (n := 77) 91 dX12_goesThrough_74 (by decide) rfl (fun hc => ?_) (fun hc => ?_)
  · have h := h.1 hc
    refine g_less (bc' := 0) (bs' := 0) (Nat.le_of_ble_eq_true rfl) (Nat.le_of_ble_eq_true rfl) ?_
    exact tjX12_goesThrough_91  _ _ _ _ h
  · have h := h.2 hc
    refine g_aload_n (n := 78) dX12_goesThrough_77 rfl rfl rfl ?_
    refine g_ldcS (n := 80) (i := 46) dX12_goesThrough_78 rfl rfl ?_
    refine g_callV (n := 83) (as := [.retAddr (2 * 46)]) (bc' := 0) (bs' := 0) sM_0 vc_16 (ctX12_isWord h) okX12_isWord rfl w_2112 w_2114 w_32 w_112 dX12_goesThrough_80 rfl rfl (Nat.le_of_ble_eq_true rfl) (Nat.le_of_ble_eq_true rfl) (Nat.le_of_ble_eq_true rfl) (Nat.le_of_ble_eq_true rfl) rfl (fun E sh1 I1 A1 hp _ => hp.2.elim) (fun ro sh_ I_10 A_11 hp hle => ?_)
    obtain ⟨rfl, r_12, rfl, h⟩ := hp
    refine g_if_ne (n := 86) 91 dX12_goesThrough_83 (by decide) rfl (fun hc => ?_) (fun hc => ?_)
    · have h := h.1 hc
      refine g_less (bc' := 0) (bs' := 0) (Nat.le_of_ble_eq_true rfl) (Nat.le_of_ble_eq_true rfl) ?_
      exact tjX12_goesThrough_91  _ _ _ _ h
    · have h := h.2 hc
      refine g_aload_n (n := 87) dX12_goesThrough_86 rfl rfl rfl ?_
      refine g_iconst (n := 88) (v := (nI 1)) dX12_goesThrough_87 rfl rfl ?_
      refine g_callV (n := 91) (as := [.int (nI 1)]) (bc' := 0) (bs' := 0) sM_0 vc_16 (ctX12_wrong h) okX12_wrong rfl w_2118 w_2120 w_33 w_112 dX12_goesThrough_88 rfl rfl (Nat.le_of_ble_eq_true rfl) (Nat.le_of_ble_eq_true rfl) (Nat.le_of_ble_eq_true rfl) (Nat.le_of_ble_eq_true rfl) rfl (fun E sh1 I1 A1 hp _ => hp.2.elim) (fun ro sh_ I_13 A_14 hp hle => ?_)
      obtain ⟨rfl, rfl, h⟩ := hp
      refine g_less (bc' := 0) (bs' := 0) (Nat.le_of_ble_eq_true rfl) (Nat.le_of_ble_eq_true rfl) ?_
      exact tjX12_goesThrough_91  _ _ _ _ h
set_option maxRecDepth 20000 in
theorem tjX12_goesThrough_63 {C : ab_X}  {K : ab_F → ab_F → Prop} {L26 : Int32 → Int32 → Int32 → ab_F → ab_F → Prop} (hL26 : ∀ (x1 : Int32) (x2 : Int32) (x3 : Int32) (I A : ab_F), L26 x1 x2 x3 I A → ab_G mX12_goesThrough 9 C (ab_Px shM ab_no (ab_rv K)) 26 [some (.ref 0), some (.int x1), some (.int x2), some (.int x3)] [] shM I A 0 0) (x1 : Int32) (x2 : Int32) (x3 : Int32) (s0 : Int32) (s1 : Int32) (I A : ab_F) (h : wjX12_goesThrough_63 K L26 x1 x2 x3 s0 s1 I A) : ab_G mX12_goesThrough 9 C (ab_Px shM ab_no (ab_rv K)) 63 [some (.ref 0), some (.int x1), some (.int x2), some (.int x3)] [.int s0, .int s1, .ref 6] shM I A 0 0 := by
  unfold wjX12_goesThrough_63 at h
  obtain ⟨j_18, hj, hl, h⟩ := h
  refine g_iastJ (n := 64) (j := j_18) dX12_goesThrough_63 sM_6 hj hl (by decide) rfl ?_
  refine g_iinc (n := 67) (v := (x3 + nI 1)) (ls' := [some (.ref 0), some (.int x1), some (.int x2), some (.int (x3 + nI 1))]) dX12_goesThrough_64 rfl rfl rfl (Nat.le_of_ble_eq_true rfl) rfl rfl ?_
  refine g_goto 26 dX12_goesThrough_67 (by decide) ?_
  exact hL26 _ _ _ _ _ h
set_option maxRecDepth 20000 in
theorem tlX12_goesThrough_26 {C : ab_X}  {K : ab_F → ab_F → Prop} : ∀ (n : Nat) (x1 : Int32) (x2 : Int32) (x3 : Int32) (I A : ab_F), wlX12_goesThrough_26 K n x1 x2 x3 I A → ab_G mX12_goesThrough 9 C (ab_Px shM ab_no (ab_rv K)) 26 [some (.ref 0), some (.int x1), some (.int x2), some (.int x3)] [] shM I A 0 0 := by
  intro n
  induction n with
  | zero => intro x1 x2 x3 I A h; exact h.elim
  | succ n hL26 =>
    intro x1 x2 x3 I A h
    rw [wlX12_goesThrough_26] at h
    refine g_iload_n (n := 27) dX12_goesThrough_26 rfl rfl rfl ?_
    refine g_iconst (n := 28) (v := (nI 3)) dX12_goesThrough_27 rfl rfl ?_
    refine g_icmp_ge (n := 31) 70 dX12_goesThrough_28 (by decide) rfl (fun hc => ?_) (fun hc => ?_)
    · have h := h.1 hc
      refine g_forget (ls' := [some (.ref 0), some (.int x1), some (.int x2), none]) (ab_fg rfl) ?_
      refine g_less (bc' := 0) (bs' := 0) (Nat.le_of_ble_eq_true rfl) (Nat.le_of_ble_eq_true rfl) ?_
      exact tjX12_goesThrough_70  _ _ _ _ h
    · have h := h.2 hc
      refine g_aload_n (n := 32) dX12_goesThrough_31 rfl rfl rfl ?_
      refine g_getIE (n := 35) (k := 11) (x := (I 0 11)) dX12_goesThrough_32 sM_0 vc_16 (Nat.le_of_ble_eq_true rfl) rfl w_2005 rfl rfl ?_
      refine g_if_ne (n := 38) 70 dX12_goesThrough_35 (by decide) rfl (fun hc => ?_) (fun hc => ?_)
      · have h := h.1 hc
        refine g_forget (ls' := [some (.ref 0), some (.int x1), some (.int x2), none]) (ab_fg rfl) ?_
        refine g_less (bc' := 0) (bs' := 0) (Nat.le_of_ble_eq_true rfl) (Nat.le_of_ble_eq_true rfl) ?_
        exact tjX12_goesThrough_70  _ _ _ _ h
      · have h := h.2 hc
        refine g_aload_n (n := 39) dX12_goesThrough_38 rfl rfl rfl ?_
        refine g_getR (n := 42) (k := 13) dX12_goesThrough_39 sM_0 vc_16 (Nat.le_of_ble_eq_true rfl) rfl w_2007 rfl ?_
        refine g_iload_n (n := 43) dX12_goesThrough_42 rfl rfl rfl ?_
        refine g_iload_n (n := 44) dX12_goesThrough_43 rfl rfl rfl ?_
        refine g_iload_n (n := 45) dX12_goesThrough_44 rfl rfl rfl ?_
        refine g_callS (n := 48) (as := [.int x2]) (bc' := 0) (bs' := 0) (ctX12_numbersOf h) okX12_numbersOf w_2386 w_2387 dX12_goesThrough_45 rfl rfl (Nat.le_of_ble_eq_true rfl) (Nat.le_of_ble_eq_true rfl) (Nat.le_of_ble_eq_true rfl) (Nat.le_of_ble_eq_true rfl) rfl (fun E sh1 I1 A1 hp _ => hp.2.elim) (fun ro sh_ I_15 A_16 hp hle => ?_)
        obtain ⟨rfl, r_17, rfl, h⟩ := hp
        refine g_icmp_ge (n := 51) 62 dX12_goesThrough_48 (by decide) rfl (fun hc => ?_) (fun hc => ?_)
        · have h := h.1 hc
          refine g_iconst (n := 63) (v := (nI 0)) dX12_goesThrough_62 rfl rfl ?_
          refine g_less (bc' := 0) (bs' := 0) (Nat.le_of_ble_eq_true rfl) (Nat.le_of_ble_eq_true rfl) ?_
          exact tjX12_goesThrough_63 hL26 _ _ _ _ _ _ _ h
        · have h := h.2 hc
          refine g_aload_n (n := 52) dX12_goesThrough_51 rfl rfl rfl ?_
          refine g_iconst (n := 53) (v := (nI 0)) dX12_goesThrough_52 rfl rfl ?_
          refine g_ldcw (n := 56) (v := (nI 999999999)) dX12_goesThrough_53 w_2389 rfl ?_
          refine g_callV (n := 59) (as := [.int (nI 0), .int (nI 999999999)]) (bc' := 0) (bs' := 0) sM_0 vc_16 (ctX12_number h) okX12_number rfl w_2126 w_2128 w_35 w_112 dX12_goesThrough_56 rfl rfl (Nat.le_of_ble_eq_true rfl) (Nat.le_of_ble_eq_true rfl) (Nat.le_of_ble_eq_true rfl) (Nat.le_of_ble_eq_true rfl) rfl (fun E sh1 I1 A1 hp _ => hp.2.elim) (fun ro sh_ I_19 A_20 hp hle => ?_)
          obtain ⟨rfl, r_21, rfl, h⟩ := hp
          refine g_goto 63 dX12_goesThrough_59 (by decide) ?_
          refine g_less (bc' := 0) (bs' := 0) (Nat.le_of_ble_eq_true rfl) (Nat.le_of_ble_eq_true rfl) ?_
          exact tjX12_goesThrough_63 hL26 _ _ _ _ _ _ _ h
set_option maxRecDepth 20000 in
theorem tjX12_goesThrough_20 {C : ab_X}  {K : ab_F → ab_F → Prop} (x1 : Int32) (x2 : Int32) (I A : ab_F) (h : wjX12_goesThrough_20 K x1 x2 I A) : ab_G mX12_goesThrough 9 C (ab_Px shM ab_no (ab_rv K)) 20 [some (.ref 0), some (.int x1), some (.int x2), none] [] shM I A 0 0 := by
  unfold wjX12_goesThrough_20 at h
  refine g_aload_n (n := 21) dX12_goesThrough_20 rfl rfl rfl ?_
  refine g_callV (n := 24) (as := []) (bc' := 0) (bs' := 0) sM_0 vc_16 (ctX12_pass h) okX12_pass rfl w_2122 w_2124 w_34 w_112 dX12_goesThrough_21 rfl rfl (Nat.le_of_ble_eq_true rfl) (Nat.le_of_ble_eq_true rfl) (Nat.le_of_ble_eq_true rfl) (Nat.le_of_ble_eq_true rfl) rfl (fun E sh1 I1 A1 hp _ => hp.2.elim) (fun ro sh_ I_5 A_6 hp hle => ?_)
  obtain ⟨rfl, rfl, h⟩ := hp
  refine g_iconst (n := 25) (v := (nI 0)) dX12_goesThrough_24 rfl rfl ?_
  refine g_istore_n (n := 26) (ls' := [some (.ref 0), some (.int x1), some (.int x2), some (.int (nI 0))]) dX12_goesThrough_25 rfl rfl (Nat.le_of_ble_eq_true rfl) (Nat.le_of_ble_eq_true rfl) rfl rfl ?_
  refine g_less (bc' := 0) (bs' := 0) (Nat.le_of_ble_eq_true rfl) (Nat.le_of_ble_eq_true rfl) ?_
  obtain ⟨n_f, h⟩ := h
  exact tlX12_goesThrough_26  n_f _ _ _ _ _ h
set_option maxRecDepth 20000 in
theorem ctX12_goesThrough  {K : ab_F → ab_F → Prop} {I A : ab_F}  (h : wX12_goesThrough K I A ) : ab_Cl mX12_goesThrough 9 0 0 [.ref 0] shM I A (ab_Px shM ab_no (ab_rv K)) := by
  refine ab_enter (ls := [some (.ref 0), none, none, none]) (by decide +kernel) (Nat.le_of_ble_eq_true rfl) rfl (fun C => ?_)
  unfold wX12_goesThrough at h
  refine g_aload_n (n := 1) dX12_goesThrough_0 rfl rfl rfl ?_
  refine g_getIE (n := 4) (k := 8) (x := (I 0 8)) dX12_goesThrough_1 sM_0 vc_16 (Nat.le_of_ble_eq_true rfl) rfl w_2002 rfl rfl ?_
  refine g_topi (fun y_1 ey_1 => ?_)
  have h := h y_1 ey_1
  refine g_istore_n (n := 5) (ls' := [some (.ref 0), some (.int y_1), none, none]) dX12_goesThrough_4 rfl rfl (Nat.le_of_ble_eq_true rfl) (Nat.le_of_ble_eq_true rfl) rfl rfl ?_
  refine g_aload_n (n := 6) dX12_goesThrough_5 rfl rfl rfl ?_
  refine g_callV (n := 9) (as := []) (bc' := 0) (bs' := 0) sM_0 vc_16 (ctX12_operation h) okX12_operation rfl w_2373 w_2375 w_75 w_112 dX12_goesThrough_6 rfl rfl (Nat.le_of_ble_eq_true rfl) (Nat.le_of_ble_eq_true rfl) (Nat.le_of_ble_eq_true rfl) (Nat.le_of_ble_eq_true rfl) rfl (fun E sh1 I1 A1 hp _ => hp.2.elim) (fun ro sh_ I_2 A_3 hp hle => ?_)
  obtain ⟨rfl, r_4, rfl, h⟩ := hp
  refine g_istore_n (n := 10) (ls' := [some (.ref 0), some (.int y_1), some (.int r_4), none]) dX12_goesThrough_9 rfl rfl (Nat.le_of_ble_eq_true rfl) (Nat.le_of_ble_eq_true rfl) rfl rfl ?_
  refine g_iload_n (n := 11) dX12_goesThrough_10 rfl rfl rfl ?_
  refine g_iconst (n := 12) (v := (-1 : Int32)) dX12_goesThrough_11 rfl rfl ?_
  refine g_icmp_ne (n := 15) 20 dX12_goesThrough_12 (by decide) rfl (fun hc => ?_) (fun hc => ?_)
  · have h := h.1 hc
    refine g_less (bc' := 0) (bs' := 0) (Nat.le_of_ble_eq_true rfl) (Nat.le_of_ble_eq_true rfl) ?_
    exact tjX12_goesThrough_20  _ _ _ _ h
  · have h := h.2 hc
    refine g_aload_n (n := 16) dX12_goesThrough_15 rfl rfl rfl ?_
    refine g_iconst (n := 17) (v := (nI 1)) dX12_goesThrough_16 rfl rfl ?_
    refine g_callV (n := 20) (as := [.int (nI 1)]) (bc' := 0) (bs' := 0) sM_0 vc_16 (ctX12_wrong h) okX12_wrong rfl w_2118 w_2120 w_33 w_112 dX12_goesThrough_17 rfl rfl (Nat.le_of_ble_eq_true rfl) (Nat.le_of_ble_eq_true rfl) (Nat.le_of_ble_eq_true rfl) (Nat.le_of_ble_eq_true rfl) rfl (fun E sh1 I1 A1 hp _ => hp.2.elim) (fun ro sh_ I_22 A_23 hp hle => ?_)
    obtain ⟨rfl, rfl, h⟩ := hp
    refine g_less (bc' := 0) (bs' := 0) (Nat.le_of_ble_eq_true rfl) (Nat.le_of_ble_eq_true rfl) ?_
    exact tjX12_goesThrough_20  _ _ _ _ h
